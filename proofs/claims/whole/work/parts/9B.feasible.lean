/-! ===== the reference: way and goTo by turns; isFeasible ===== -/
theorem dv_bd {K : Nat} {b e : Nat → Nat} {w x : Nat → Int} {v : Nat} {B : Int} (h : fits K w x) (hw : ∀ l, l < K → w l ≤ B) (hB : 0 ≤ B) : -(K * B) ≤ dv K b e x v ∧ dv K b e x v ≤ K * B := by
  have t : ∀ l, l < K → -B ≤ (if b l = v then x l else 0) - (if e l = v then x l else 0) ∧ (if b l = v then x l else 0) - (if e l = v then x l else 0) ≤ B := fun l hl => by
    have := h l hl
    have := hw l hl
    split <;> split <;> omega
  have h1 : sI (fun l => (if b l = v then x l else 0) - (if e l = v then x l else 0)) K ≤ K * B := sI_bd (fun l hl => (t l hl).2)
  have h2 : sI (fun _ => -B) K ≤ sI (fun l => (if b l = v then x l else 0) - (if e l = v then x l else 0)) K := sI_le (fun l hl => (t l hl).1)
  rw [sI_const, Int.mul_neg] at h2
  exact ⟨h2, h1⟩
theorem AN.ex_bd {A : AN} (hA : A.ok) {lo : Nat → Int} {v : Nat} (hv : v < A.n) (h : fits A.K (A.w 1000000000000) lo) : -400000000000000 ≤ A.s v - dv A.K A.b A.e lo v ∧ A.s v - dv A.K A.b A.e lo v ≤ 400000000000000 := by
  have h1 := dv_bd (b := A.b) (e := A.e) (v := v) h (B := 1000000000000) (fun l hl => (A.w_bd hA (by decide) hl).2.1) (by decide)
  have h2 := A.K_le hA
  have h3 := A.s_bd hA hv
  omega
theorem pe_0 {n : Nat} {ex : Nat → Int} : 0 ≤ pe n ex := sI_ge0 (fun v _ => by show 0 ≤ (if 0 ≤ ex v then ex v else 0); split <;> omega)
def fl_fr (u u' : dm_S) : Prop := (∀ c, c ≠ 20 → u'.1 c = u.1 c) ∧ ∀ c, c ∉ [17, 18, 19] → u'.2 c = u.2 c
theorem fl_fr0 (u : dm_S) : fl_fr u u := ⟨fun _ _ => rfl, fun _ _ => rfl⟩
theorem fl_frt {u u' u'' : dm_S} (h : fl_fr u u') (h2 : fl_fr u' u'') : fl_fr u u'' := ⟨fun c a => (h2.1 c a).trans (h.1 c a), fun c a => (h2.2 c a).trans (h.2 c a)⟩
theorem fl_wy {u u' : dm_S} (h : wy_fr u u') : fl_fr u u' := ⟨h.1, fun c hc => h.2 c (fun z => hc (by rw [z]; decide))⟩
theorem fl_go {u u' : dm_S} (h : go_fr u u') : fl_fr u u' := ⟨fun c _ => by rw [h.1], fun c hc => h.2 c (fun z => hc (by simp at z ⊢; omega))⟩
/-- the loop of way and goTo; Gx: at its head, with what way told -/
theorem wy_run {A : AN} {c : Nat → Int} {Gx : Int32 → dm_S → Prop} {u : dm_S} {Bd : Int} (step : ∀ (u1 : dm_S) (t : Nat), t < A.n → sp_X11_goTo [.ref 0, .int (nI t)] u1 (fun _ u2 => sp_X11_way [.ref 0] u2 (fun r u3 => ∃ x, r = some (Value.int x) ∧ Gx x u3)) → Gx (nI t) u1)
    (exit : ∀ (u0 u1 : dm_S) (lo ex U V : Nat → Int) (via : Nat → Option Nat), fl_fr u u0 → wy_fr u0 u1 → wy_ok u0 A c lo ex U → (∀ v, v < A.n → ex v = A.s v - dv A.K A.b A.e lo v) → (∀ l, l < A.K → lo l + pe A.n ex ≤ Bd) → FV u1 A.n V → wI A.n A.K A.b A.e c (onW (A.w 1000000000000) lo) (v0 ex) V via → dR (2 * A.K) (wb A.b A.e) (we A.b A.e) (wr c) (onW (A.w 1000000000000) lo) V → (∀ v, v < A.n → ex v < 0 → V v = fAR) → Gx (-1) u1) :
    ∀ (m : Nat) (u0 : dm_S) (lo ex U : Nat → Int), pe A.n ex ≤ m → fl_fr u u0 → wy_ok u0 A c lo ex U → (∀ v, v < A.n → ex v = A.s v - dv A.K A.b A.e lo v) → (∀ l, l < A.K → lo l + pe A.n ex ≤ Bd) → sp_X11_way [.ref 0] u0 (fun r u3 => ∃ x, r = some (Value.int x) ∧ Gx x u3) := by
  intro m
  induction m with
  | zero =>
    intro u0 lo ex U hm f0 hok hx hb
    refine ⟨A, c, lo, ex, U, hok, fun u1 V via f1 fv vv hw hr => ⟨fun g => ⟨-1, rfl, exit u0 u1 lo ex U V via f0 f1 hok hx hb fv hw hr g⟩, fun t tn te tv => ?_⟩⟩
    obtain ⟨hA, hC, hP, hO, hc, hl, hE, hU⟩ := hok
    exfalso
    obtain ⟨rk, ht⟩ := wI_tre hw
    obtain ⟨r1, r2⟩ := wI_rot hw ht (rk t) t tn (Nat.le_refl _) tv
    have : 0 < ex (rot A.b A.e via (rk t) t) := by
      unfold v0 at r2
      by_cases y : 0 < ex (rot A.b A.e via (rk t) t)
      · exact y
      · rw [if_neg y] at r2; exact absurd rfl r2
    have h1 := sI_term (f := fun v => if 0 ≤ ex v then ex v else 0) (n := A.n) (fun v _ => by show 0 ≤ (if 0 ≤ ex v then ex v else 0); split <;> omega) r1
    have h2 : (if 0 ≤ ex (rot A.b A.e via (rk t) t) then ex (rot A.b A.e via (rk t) t) else 0) ≤ pe A.n ex := h1
    rw [if_pos (by omega)] at h2
    omega
  | succ m ih =>
    intro u0 lo ex U hm f0 hok hx hb
    refine ⟨A, c, lo, ex, U, hok, fun u1 V via f1 fv vv hw hr => ⟨fun g => ⟨-1, rfl, exit u0 u1 lo ex U V via f0 f1 hok hx hb fv hw hr g⟩, fun t tn te tv => ?_⟩⟩
    obtain ⟨hA, hC, hP, hO, hc, hl, hE, hU⟩ := hok
    obtain ⟨rk, ht⟩ := wI_tre hw
    obtain ⟨r1, r2⟩ := wI_rot hw ht (rk t) t tn (Nat.le_refl _) tv
    have hr0 : 0 < ex (rot A.b A.e via (rk t) t) := by
      unfold v0 at r2
      by_cases y : 0 < ex (rot A.b A.e via (rk t) t)
      · exact y
      · rw [if_neg y] at r2; exact absurd rfl r2
    refine ⟨nI t, rfl, step u1 t tn ⟨A, c, lo, ex, via, rk, t, rk t, hA, PL_wy hP f1, OV_wy hO f1, vv, ht, hl, fun v hv => ?_, ⟨tn, rfl, Nat.le_refl _⟩, fun v w hv hw2 => onW_t.mp (hw.2.1 v w hv hw2).1.2, ⟨te, hr0⟩, fun u2 a f2 a0 a1 a2 a3 p1 p2 => ?_⟩⟩
    · have := AN.ex_bd hA hv hl
      rw [← hx v hv] at this
      unfold lB; omega
    · obtain ⟨s1, s2⟩ := snt_tre ht tn (Nat.le_refl _) hl a0 a1 a2 a3
      obtain ⟨U', hU'⟩ := wI_next hA.1.1 (AN.dFw hA hc) hU v0_0 hw hr ht tn (Nat.le_refl _) (Int.le_of_lt a0)
      have hx' : ∀ v, v < A.n → sdE A.b A.e via (rk t) t a ex v = A.s v - dv A.K A.b A.e (snd A.b A.e via (rk t) t a lo) v := fun v hv => by
        have := s1.2.1 v hv
        have := hx v hv
        omega
      refine ih u2 _ _ U' (by omega) (fl_frt f0 (fl_frt (fl_wy f1) (fl_go f2))) ⟨hA, MR_fr (MR_fr hC (wy_mn f1)) (go_mn f2), p1, p2, hc, s1.1, fun v hv => ?_, hU'⟩ hx' (fun l hl2 => ?_)
      · have := AN.ex_bd hA hv s1.1
        rw [← hx' v hv] at this
        unfold lB; omega
      · have := s1.2.2.2.2 l hl2
        have := hb l hl2
        omega
theorem way_G {u : dm_S} {Gx : Int32 → dm_S → Prop} (h : sp_X11_way [.ref 0] u (fun r u3 => ∃ x, r = some (Value.int x) ∧ Gx x u3)) : ∃ (A : AN) (c lo ex U : Nat → Int), wy_ok u A c lo ex U ∧ ∀ (u' : dm_S) (V : Nat → Int) (via : Nat → Option Nat), wy_fr u u' → FV u' A.n V → vj u' A.n via → wI A.n A.K A.b A.e c (onW (A.w 1000000000000) lo) (v0 ex) V via → dR (2 * A.K) (wb A.b A.e) (we A.b A.e) (wr c) (onW (A.w 1000000000000) lo) V → ((∀ v, v < A.n → ex v < 0 → V v = fAR) → Gx (-1) u') ∧ ∀ t, t < A.n → ex t < 0 → ¬ V t = fAR → Gx (nI t) u' := by
  obtain ⟨A, c, lo, ex, U, hok, hh⟩ := h
  refine ⟨A, c, lo, ex, U, hok, fun u' V via a b c d e => ⟨fun g => ?_, fun t t1 t2 t3 => ?_⟩⟩
  · obtain ⟨x, hx, hg⟩ := (hh u' V via a b c d e).1 g
    cases hx
    exact hg
  · obtain ⟨x, hx, hg⟩ := (hh u' V via a b c d e).2 t t1 t2 t3
    cases hx
    exact hg
theorem dv_0 {K : Nat} {b e : Nat → Nat} {v : Nat} : dv K b e (fun _ => 0) v = 0 := sI_0 (fun l _ => by show (if b l = v then (0 : Int) else 0) - (if e l = v then 0 else 0) = 0; split <;> split <;> rfl)
theorem PL_cg {u : dm_S} {A : AN} {c c' lo lo' : Nat → Int} {L : Nat} (h : PL u A c lo L) (h1 : ∀ l, l < L → c' l = c l) (h2 : ∀ l, l < L → lo' l = lo l) : PL u A c' lo' L := ⟨h.1, fun l hl => by rw [h1 l hl, h2 l hl]; exact h.2 l hl⟩
/-- THE SET in the cells -/
def MS (u : dm_S) (S : Nat → Bool) (n : Nat) : Prop := u.1 0 15 = nI (dm_ct S n) ∧ ∀ k, k < n → S k = true → u.1 11 (dm_ct S k) = nI k
theorem dm_ct_lt {S : Nat → Bool} {k : Nat} (hS : S k = true) : ∀ {n : Nat}, k < n → dm_ct S k < dm_ct S n
  | 0, h => absurd h (Nat.not_lt_zero _)
  | n + 1, h => by
    show dm_ct S k < dm_ct S n + (if S n then 1 else 0)
    by_cases y : k = n
    · subst y; rw [hS]; simp
    · have := dm_ct_lt hS (n := n) (by omega); omega
theorem dm_ct_all : ∀ n : Nat, dm_ct (fun _ => true) n = n
  | 0 => rfl
  | n + 1 => by show dm_ct (fun _ => true) n + 1 = _; rw [dm_ct_all n]
def if_fr (u u' : dm_S) : Prop := (∀ c, c ∉ [0, 11, 12, 13, 14, 20] → u'.1 c = u.1 c) ∧ (∀ k, k ≠ 15 → k ≠ 17 → u'.1 0 k = u.1 0 k) ∧ ∀ c, c ∉ [15, 16, 17, 18, 19] → u'.2 c = u.2 c
theorem if_frt {u u' u'' : dm_S} (h : if_fr u u') (h2 : if_fr u' u'') : if_fr u u'' := ⟨fun c a => (h2.1 c a).trans (h.1 c a), fun c a b => (h2.2.1 c a b).trans (h.2.1 c a b), fun c a => (h2.2.2 c a).trans (h.2.2 c a)⟩
theorem if_sl {u u' : dm_S} (h : sl_fr u u') : if_fr u u' := ⟨fun c hc => h.1 c (fun z => hc (by simp at z ⊢; omega)), fun k _ hk => h.2.1 k hk, fun c hc => h.2.2 c (fun z => hc (by simp at z ⊢; omega))⟩
theorem if_fl {u u' : dm_S} (h : fl_fr u u') : if_fr u u' := ⟨fun c hc => h.1 c (fun z => hc (by rw [z]; decide)), fun k _ _ => by rw [h.1 0 (by decide)], fun c hc => h.2 c (fun z => hc (by simp at z ⊢; omega))⟩
theorem if_11 {u : dm_S} {j : Nat} {x : Int32} : if_fr u (dm_ui u 11 j x) := ⟨fun c hc => by rw [dm_ui_1, if_neg (fun z => hc (by rw [z]; decide))], fun k _ _ => by rw [dm_ui_1, if_neg (by decide)], fun _ _ => rfl⟩
theorem if_15 {u : dm_S} {x : Int32} : if_fr u (dm_ui u 0 15 x) := ⟨fun c hc => by rw [dm_ui_1, if_neg (fun z => hc (by rw [z]; decide))], fun k hk _ => by rw [dm_ui_1, if_pos rfl]; exact if_neg hk, fun _ _ => rfl⟩
theorem if_mn {u u' : dm_S} (h : if_fr u u') : mn_fr u u' := by
  refine ⟨⟨h.2.1 0 (by decide) (by decide), h.2.1 1 (by decide) (by decide)⟩, fun c hc => h.1 c ?_, fun c hc => h.2.2 c ?_⟩
  · intro z; revert hc z; revert c; decide
  · intro z; revert hc z; revert c; decide
def sp_X11_isFeasible (As : List Value) (u : dm_S) (Q : Option Value → dm_S → Prop) : Prop := match As with
  | [.ref 0] => ∃ A : AN, A.ok ∧ MR u A ∧ (sI A.su A.n ≠ 0 → ∀ u' : dm_S, if_fr u u' → MS u' (fun _ => true) A.n → Q (some (.int 0)) u') ∧ (sI A.su A.n = 0 → ∀ (u' : dm_S) (lo : Nat → Int) (S : Nat → Bool), if_fr u u' → fits A.K (A.w 1000000000000) lo → stk A.n A.K A.b A.e A.ln (A.w 1000000000000) A.s lo S → (∃ v, v < A.n ∧ A.s v - dv A.K A.b A.e lo v ≠ 0) → MS u' S A.n → Q (some (.int 0)) u') ∧ (sI A.su A.n = 0 → ∀ (u' : dm_S) (lo : Nat → Int), if_fr u u' → u'.1 0 15 = u.1 0 15 → fits A.K (A.w 1000000000000) lo → bal A.n A.K A.b A.e A.s lo → Q (some (.int 1)) u')
  | _ => False
def p_X11_isFeasible : List dm_I := [(0, .aload_n 0, 1, [0]), (1, .invokevirtual 169, 3, []), (4, .iconst 0, 1, []), (5, .istore_n 1, 1, [1]), (6, .iload_n 1, 1, [1]), (7, .aload_n 0, 1, [0]), (8, .getfield 139, 3, []), (11, .if_icmp .ge 16, 3, [27]), (14, .aload_n 0, 1, [0]), (15, .getfield 56, 3, []), (18, .iload_n 1, 1, [1]), (19, .lconst 0, 1, []), (20, .lastore, 1, []), (21, .iinc 1 1, 3, []), (24, .goto (-18), 3, [6]), (27, .lconst 0, 1, []), (28, .lstore_n 1, 1, [1]), (29, .iconst 0, 1, []), (30, .istore_n 3, 1, [3]), (31, .iload_n 3, 1, [3]), (32, .aload_n 0, 1, [0]), (33, .getfield 109, 3, []), (36, .if_icmp .ge 18, 3, [54]), (39, .lload_n 1, 1, [1]), (40, .aload_n 0, 1, [0]), (41, .getfield 7, 3, []), (44, .iload_n 3, 1, [3]), (45, .laload, 1, []), (46, .ladd, 1, []), (47, .lstore_n 1, 1, [1]), (48, .iinc 3 1, 3, []), (51, .goto (-20), 3, [31]), (54, .lload_n 1, 1, [1]), (55, .lconst 0, 1, []), (56, .lcmp, 1, []), (57, .ifCond .eq 36, 3, [93]), (60, .aload_n 0, 1, [0]), (61, .aload_n 0, 1, [0]), (62, .getfield 109, 3, []), (65, .putfield 106, 3, []), (68, .iconst 0, 1, []), (69, .istore_n 3, 1, [3]), (70, .iload_n 3, 1, [3]), (71, .aload_n 0, 1, [0]), (72, .getfield 109, 3, []), (75, .if_icmp .ge 16, 3, [91]), (78, .aload_n 0, 1, [0]), (79, .getfield 41, 3, []), (82, .iload_n 3, 1, [3]), (83, .iload_n 3, 1, [3]), (84, .iastore, 1, []), (85, .iinc 3 1, 3, []), (88, .goto (-18), 3, [70]), (91, .iconst 0, 1, []), (92, .ireturn, 1, []), (93, .aload_n 0, 1, [0]), (94, .invokevirtual 172, 3, []), (97, .istore_n 3, 1, [3]), (98, .iload_n 3, 1, [3]), (99, .iconst (-1), 1, []), (100, .if_icmp .eq 16, 3, [116]), (103, .aload_n 0, 1, [0]), (104, .iload_n 3, 1, [3]), (105, .invokevirtual 176, 3, []), (108, .aload_n 0, 1, [0]), (109, .invokevirtual 172, 3, []), (112, .istore_n 3, 1, [3]), (113, .goto (-15), 3, [98]), (116, .aload_n 0, 1, [0]), (117, .invokevirtual 180, 3, []), (120, .ifCond .eq 5, 3, [125]), (123, .iconst 1, 1, []), (124, .ireturn, 1, []), (125, .aload_n 0, 1, [0]), (126, .iconst 0, 1, []), (127, .putfield 106, 3, []), (130, .iconst 0, 1, []), (131, .istore 4, 2, []), (133, .iload 4, 2, []), (135, .aload_n 0, 1, [0]), (136, .getfield 109, 3, []), (139, .if_icmp .ge 44, 3, [183]), (142, .aload_n 0, 1, [0]), (143, .getfield 65, 3, []), (146, .iload 4, 2, []), (148, .laload, 1, []), (149, .ldc2_w 152, 3, []), (152, .lcmp, 1, []), (153, .ifCond .ge 24, 3, [177]), (156, .aload_n 0, 1, [0]), (157, .getfield 41, 3, []), (160, .aload_n 0, 1, [0]), (161, .getfield 106, 3, []), (164, .iload 4, 2, []), (166, .iastore, 1, []), (167, .aload_n 0, 1, [0]), (168, .dup, 1, []), (169, .getfield 106, 3, []), (172, .iconst 1, 1, []), (173, .iadd, 1, []), (174, .putfield 106, 3, []), (177, .iinc 4 1, 3, []), (180, .goto (-47), 3, [133]), (183, .iconst 0, 1, []), (184, .ireturn, 1, [])]
set_option maxRecDepth 100000 in
theorem v_X11_isFeasible : p_X11_isFeasible.all (dm_vb cX11_isFeasible) = true := by decide +kernel
def k_X11_isFeasible : dm_Sp := fun a => match a with
  | 0 => sp_X11_split
  | 1 => sp_X11_way
  | 2 => sp_X11_goTo
  | 3 => sp_X11_isServed
  | _ => fun _ _ _ => False
def x_X11_isFeasible : dm_X := dm_mk [(7, 11, 2), (41, 11, 16), (56, 11, 22), (65, 11, 25), (106, 11, 15), (109, 11, 0), (139, 11, 17)] [] [(152, 1152921504606846976)] [(169, 0, 0, 11), (172, 1, 0, 11), (176, 2, 1, 11), (180, 3, 0, 11)] 3
set_option maxRecDepth 100000 in
set_option maxHeartbeats 3200000 in
theorem u_X11_isFeasible : dm_Pure shM x_X11_isFeasible k_X11_isFeasible p_X11_isFeasible 5 sp_X11_isFeasible := by
  intro As u Qp h
  unfold sp_X11_isFeasible at h
  split at h
  · obtain ⟨A, hA, hC, h1, h2, h3⟩ := h
    obtain ⟨hn, hM⟩ := hA.1
    have hK := A.K_le hA
    have hF : fAR = 1152921504606846976 := rfl
    have hFl : (1152921504606846976 : Int64) = lI fAR := rfl
    have hFb : lB fAR := by unfold lB; omega
    have h0l : (0 : Int64) = lI 0 := rfl
    have h0b : lB 0 := by unfold lB; omega
    refine ⟨Nat.le_of_ble_eq_true rfl, fun G Wp hW0 hW1 hG => ?_⟩
    -- the members, when a search is at rest
    have members : sI A.su A.n = 0 → ∀ (lo V : Nat → Int) (S : Nat → Bool), fits A.K (A.w 1000000000000) lo → stk A.n A.K A.b A.e A.ln (A.w 1000000000000) A.s lo S → (∃ v, v < A.n ∧ A.s v - dv A.K A.b A.e lo v ≠ 0) → (∀ v, v < A.n → lB (V v) ∧ V v ≤ fAR) → (∀ v, v < A.n → S v = decide (V v ≠ fAR)) → ∀ (k i : Nat), i + k = A.n → ∀ (u' : dm_S) (o1 : Option Value) (x3 : Int32), if_fr u u' → FV u' A.n V → MS u' S i → G 133 [some (.ref 0), o1, none, some (.int x3), some (.int (nI i))] [] u' := by
      intro hs lo V S hl hst hex hVb hSV k
      induction k with
      | zero =>
        intro i hi u' o1 x3 a1 a2 a3
        have e : i = A.n := by omega
        subst e
        apply hG (fun pc => pc == 133) 60
        simp (config := { maxSteps := 2000000 }) [-Prod.forall, -Prod.exists, -exists_and_left, -exists_and_right, hW0, hW1, dm_fn, dm_fd, dm_x, dm_L0, dm_la, dm_t1, dm_sw, List.headD, dm_ic, dm_mk, dm_s1, dm_s2, dm_clr, dm_cs, dm_cc, dm_nb0, dm_nb1, Value.category, List.lookup, p_X11_isFeasible, x_X11_isFeasible, k_X11_isFeasible, dm_cm, upd, vp_updL, dm_ui_1, dm_ui_2, dm_ul_1, dm_ul_2, sp_X11_split, sp_X11_way, sp_X11_goTo, sp_X11_isServed, sM_0, sM_1, sM_2, sM_3, sM_4, sM_5, sM_6, sM_7, sM_8, sM_9, sM_10, sM_11, sM_12, sM_13, sM_14, sM_15, sM_16, sM_17, sM_18, sM_19, sM_20, sM_21, sM_22, sM_23, sM_24, sM_25, sM_26, sM_27, sM_28, sM_29]
        rw [a1.2.1 0 (by decide) (by decide), hC.1.1]
        exact ⟨fun _ => h2 hs u' lo S a1 hl hst hex a3, fun z => absurd z (nI_nlt (Nat.le_refl _) (by omega))⟩
      | succ k ih =>
        intro i hi u' o1 x3 a1 a2 a3
        have hin : i < A.n := by omega
        have ci : (nI i).toNatClampNeg = i := nI_clamp (by omega)
        have ii : vp_in (nI i) 26 := vp_in_nI (by omega) (by omega)
        have hct := dm_ct_le S i
        have cc : (nI (dm_ct S i)).toNatClampNeg = dm_ct S i := nI_clamp (by omega)
        have ic : vp_in (nI (dm_ct S i)) 24 := vp_in_nI (by omega) (by omega)
        obtain ⟨vb, vl⟩ := hVb i hin
        apply hG (fun pc => pc == 133) 60
        simp (config := { maxSteps := 2000000 }) [-Prod.forall, -Prod.exists, -exists_and_left, -exists_and_right, hW0, hW1, dm_fn, dm_fd, dm_x, dm_L0, dm_la, dm_t1, dm_sw, List.headD, dm_ic, dm_mk, dm_s1, dm_s2, dm_clr, dm_cs, dm_cc, dm_nb0, dm_nb1, Value.category, List.lookup, p_X11_isFeasible, x_X11_isFeasible, k_X11_isFeasible, dm_cm, upd, vp_updL, dm_ui_1, dm_ui_2, dm_ul_1, dm_ul_2, sp_X11_split, sp_X11_way, sp_X11_goTo, sp_X11_isServed, sM_0, sM_1, sM_2, sM_3, sM_4, sM_5, sM_6, sM_7, sM_8, sM_9, sM_10, sM_11, sM_12, sM_13, sM_14, sM_15, sM_16, sM_17, sM_18, sM_19, sM_20, sM_21, sM_22, sM_23, sM_24, sM_25, sM_26, sM_27, sM_28, sM_29]
        simp only [ci, ii, a2 i hin, a3.1, cc, ic, hFl, nI_1, true_and]
        rw [a1.2.1 0 (by decide) (by decide), hC.1.1]
        refine ⟨fun z => absurd z (nI_ge (by omega) (by omega)), fun _ => ⟨fun z => ?_, fun z => ?_⟩⟩
        · rw [lI_le hFb vb] at z
          have sf : S i = false := by rw [hSV i hin]; simp; omega
          have e : dm_ct S (i + 1) = dm_ct S i := by show dm_ct S i + (if S i = true then 1 else 0) = _; rw [sf]; rfl
          refine ih (i + 1) (by omega) u' _ _ a1 a2 ⟨by rw [e]; exact a3.1, fun k hk hS => ?_⟩
          by_cases y : k < i
          · exact a3.2 k y hS
          · rw [show k = i by omega, sf] at hS; cases hS
        · rw [lI_lt vb hFb] at z
          have sf : S i = true := by rw [hSV i hin]; simp; omega
          have e : dm_ct S (i + 1) = dm_ct S i + 1 := by show dm_ct S i + (if S i = true then 1 else 0) = _; rw [sf]; rfl
          refine ih (i + 1) (by omega) _ _ _ (if_frt a1 (if_frt if_11 if_15)) (fun v hv => a2 v hv) ⟨?_, fun k hk hS => ?_⟩
          · rw [e, dm_ui_1, if_pos rfl]; exact if_pos rfl
          · rw [dm_ui_1, if_neg (by decide), dm_ui_1, if_pos rfl]
            unfold upd
            by_cases y : k = i
            · simp [y]
            · have hk2 : k < i := by omega
              have : dm_ct S k < dm_ct S i := dm_ct_lt hS hk2
              rw [if_neg (by omega)]
              exact a3.2 k hk2 hS
    have all : sI A.su A.n ≠ 0 → ∀ (k i : Nat), i + k = A.n → ∀ (u' : dm_S) (x : Int64) (o4 : Option Value), if_fr u u' → u'.1 0 15 = nI A.n → (∀ v, v < i → u'.1 11 v = nI v) → G 70 [some (.ref 0), some (.long x), none, some (.int (nI i)), o4] [] u' := by
      intro hs k
      induction k with
      | zero =>
        intro i hi u' x o4 a1 a2 a3
        have e : i = A.n := by omega
        subst e
        apply hG (fun pc => pc == 70) 60
        simp (config := { maxSteps := 2000000 }) [-Prod.forall, -Prod.exists, -exists_and_left, -exists_and_right, hW0, hW1, dm_fn, dm_fd, dm_x, dm_L0, dm_la, dm_t1, dm_sw, List.headD, dm_ic, dm_mk, dm_s1, dm_s2, dm_clr, dm_cs, dm_cc, dm_nb0, dm_nb1, Value.category, List.lookup, p_X11_isFeasible, x_X11_isFeasible, k_X11_isFeasible, dm_cm, upd, vp_updL, dm_ui_1, dm_ui_2, dm_ul_1, dm_ul_2, sp_X11_split, sp_X11_way, sp_X11_goTo, sp_X11_isServed, sM_0, sM_1, sM_2, sM_3, sM_4, sM_5, sM_6, sM_7, sM_8, sM_9, sM_10, sM_11, sM_12, sM_13, sM_14, sM_15, sM_16, sM_17, sM_18, sM_19, sM_20, sM_21, sM_22, sM_23, sM_24, sM_25, sM_26, sM_27, sM_28, sM_29]
        rw [a1.2.1 0 (by decide) (by decide), hC.1.1]
        refine ⟨fun _ => h1 hs u' a1 ⟨by rw [dm_ct_all]; exact a2, fun k hk _ => by rw [dm_ct_all]; exact a3 k hk⟩, fun z => absurd z (nI_nlt (Nat.le_refl _) (by omega))⟩
      | succ k ih =>
        intro i hi u' x o4 a1 a2 a3
        have ci : (nI i).toNatClampNeg = i := nI_clamp (by omega)
        have ii : vp_in (nI i) 24 := vp_in_nI (by omega) (by omega)
        apply hG (fun pc => pc == 70) 60
        simp (config := { maxSteps := 2000000 }) [-Prod.forall, -Prod.exists, -exists_and_left, -exists_and_right, hW0, hW1, dm_fn, dm_fd, dm_x, dm_L0, dm_la, dm_t1, dm_sw, List.headD, dm_ic, dm_mk, dm_s1, dm_s2, dm_clr, dm_cs, dm_cc, dm_nb0, dm_nb1, Value.category, List.lookup, p_X11_isFeasible, x_X11_isFeasible, k_X11_isFeasible, dm_cm, upd, vp_updL, dm_ui_1, dm_ui_2, dm_ul_1, dm_ul_2, sp_X11_split, sp_X11_way, sp_X11_goTo, sp_X11_isServed, sM_0, sM_1, sM_2, sM_3, sM_4, sM_5, sM_6, sM_7, sM_8, sM_9, sM_10, sM_11, sM_12, sM_13, sM_14, sM_15, sM_16, sM_17, sM_18, sM_19, sM_20, sM_21, sM_22, sM_23, sM_24, sM_25, sM_26, sM_27, sM_28, sM_29]
        simp only [ci, ii, nI_1, true_and]
        rw [a1.2.1 0 (by decide) (by decide), hC.1.1]
        refine ⟨fun z => absurd z (nI_ge (by omega) (by omega)), fun _ => ih (i + 1) (by omega) _ _ _ (if_frt a1 if_11) (by rw [dm_ui_1, if_neg (by decide)]; exact a2) (fun v hv => ?_)⟩
        rw [dm_ui_1, if_pos rfl]
        unfold upd
        by_cases y : v = i
        · simp [y]
        · simp [y]; exact a3 v (by omega)
    have turn : sI A.su A.n = 0 → ∀ (u' : dm_S) (x : Int64) (y : Int32), if_fr u u' → u'.1 0 15 = u.1 0 15 → PL u' A (fun _ => 0) (fun _ => 0) A.K → OV u' A.n A.s → G 93 [some (.ref 0), some (.long x), none, some (.int y), none] [] u' := by
      intro hs u' x y a1 a15 a2 a3
      have hok : wy_ok u' A (fun _ => 0) (fun _ => 0) A.s (fun _ => 0) := ⟨hA, MR_fr hC (if_mn a1), a2, a3, fun _ _ => ⟨(by decide : (-1000000 : Int) ≤ 0), (by decide : (0 : Int) ≤ 1000000)⟩, fun l hl => ⟨Int.le_refl _, (A.w_bd hA (by decide) hl).1⟩, fun v hv => by have := A.s_bd hA hv; unfold lB; omega, fun w _ _ => by show (0 : Int) ≤ 0 + _; rw [wr_0]; decide⟩
      have pes := A.pe_s hA (f := A.s) (fun _ _ => rfl)
      have run := wy_run (A := A) (c := fun _ => 0) (Gx := fun r u3 => G 98 [some (.ref 0), some (.long x), none, some (.int r), none] [] u3) (u := u') (Bd := 104000000) (fun u1 t tn g => ?_) (fun u0 u1 lo ex U V via f0 f1 ok hx hb fv hw hr he => ?_) (pe A.n A.s).toNat u' (fun _ => 0) A.s (fun _ => 0) (by have := pe_0 (n := A.n) (ex := A.s); omega) (fl_fr0 u') hok (fun v hv => by rw [dv_0]; omega) (fun l hl => by show (0 : Int) + _ ≤ _; omega)
      · apply hG (fun pc => pc == 98) 60
        simp (config := { maxSteps := 2000000 }) [-Prod.forall, -Prod.exists, -exists_and_left, -exists_and_right, hW0, hW1, dm_fn, dm_fd, dm_x, dm_L0, dm_la, dm_t1, dm_sw, List.headD, dm_ic, dm_mk, dm_s1, dm_s2, dm_clr, dm_cs, dm_cc, dm_nb0, dm_nb1, Value.category, List.lookup, p_X11_isFeasible, x_X11_isFeasible, k_X11_isFeasible, dm_cm, upd, vp_updL, dm_ui_1, dm_ui_2, dm_ul_1, dm_ul_2, sp_X11_split, sp_X11_way, sp_X11_goTo, sp_X11_isServed, sM_0, sM_1, sM_2, sM_3, sM_4, sM_5, sM_6, sM_7, sM_8, sM_9, sM_10, sM_11, sM_12, sM_13, sM_14, sM_15, sM_16, sM_17, sM_18, sM_19, sM_20, sM_21, sM_22, sM_23, sM_24, sM_25, sM_26, sM_27, sM_28, sM_29]
        exact way_G run
      · have nm := nI_nm1 (show t < 2147483648 by omega)
        obtain ⟨A', c', lo', ex', via', rk', t', k', g1, g2, g3, g4, g5, g6, g7, g8, g9, g10, g11⟩ := g
        apply hG (fun pc => pc == 98 || pc == 133) 60
        simp (config := { maxSteps := 2000000 }) [-Prod.forall, -Prod.exists, -exists_and_left, -exists_and_right, hW0, hW1, dm_fn, dm_fd, dm_x, dm_L0, dm_la, dm_t1, dm_sw, List.headD, dm_ic, dm_mk, dm_s1, dm_s2, dm_clr, dm_cs, dm_cc, dm_nb0, dm_nb1, Value.category, List.lookup, p_X11_isFeasible, x_X11_isFeasible, k_X11_isFeasible, dm_cm, upd, vp_updL, dm_ui_1, dm_ui_2, dm_ul_1, dm_ul_2, sp_X11_split, sp_X11_way, sp_X11_goTo, sp_X11_isServed, sM_0, sM_1, sM_2, sM_3, sM_4, sM_5, sM_6, sM_7, sM_8, sM_9, sM_10, sM_11, sM_12, sM_13, sM_14, sM_15, sM_16, sM_17, sM_18, sM_19, sM_20, sM_21, sM_22, sM_23, sM_24, sM_25, sM_26, sM_27, sM_28, sM_29]
        refine ⟨fun z => absurd z nm, fun _ => ⟨A', c', lo', ex', via', rk', t', k', g1, g2, g3, g4, g5, g6, g7, g8, g9, g10, fun u2 a b1 b2 b3 b4 b5 b6 b7 => way_G (g11 u2 a b1 b2 b3 b4 b5 b6 b7)⟩⟩
      · obtain ⟨-, hC0, hP0, hO0, hc0, hl0, hE0, hU0⟩ := ok
        have fr : if_fr u u1 := if_frt a1 (if_frt (if_fl f0) (if_fl (fl_wy f1)))
        have e15 : u1.1 0 15 = u.1 0 15 := by rw [f1.1 0 (by decide), f0.1 0 (by decide), a15]
        have hO1 := OV_wy hO0 f1
        apply hG (fun pc => pc == 98 || pc == 133) 60
        simp (config := { maxSteps := 2000000 }) [-Prod.forall, -Prod.exists, -exists_and_left, -exists_and_right, hW0, hW1, dm_fn, dm_fd, dm_x, dm_L0, dm_la, dm_t1, dm_sw, List.headD, dm_ic, dm_mk, dm_s1, dm_s2, dm_clr, dm_cs, dm_cc, dm_nb0, dm_nb1, Value.category, List.lookup, p_X11_isFeasible, x_X11_isFeasible, k_X11_isFeasible, dm_cm, upd, vp_updL, dm_ui_1, dm_ui_2, dm_ul_1, dm_ul_2, sp_X11_split, sp_X11_way, sp_X11_goTo, sp_X11_isServed, sM_0, sM_1, sM_2, sM_3, sM_4, sM_5, sM_6, sM_7, sM_8, sM_9, sM_10, sM_11, sM_12, sM_13, sM_14, sM_15, sM_16, sM_17, sM_18, sM_19, sM_20, sM_21, sM_22, sM_23, sM_24, sM_25, sM_26, sM_27, sM_28, sM_29]
        refine ⟨A.n, hn, by rw [fr.2.1 0 (by decide) (by decide)]; exact hC.1.1, fun g => ?_, fun j hj g => ?_⟩
        · refine h3 hs u1 lo fr e15 hl0 (fun v hv => ?_)
          have g1 := g v hv
          rw [hO1 v hv, h0l, lI_eq (hE0 v hv) h0b] at g1
          have := hx v hv
          omega
        · rw [hO1 j hj, h0l, lI_eq (hE0 j hj) h0b] at g
          refine members hs lo V (fun v => decide (V v ≠ fAR)) hl0 (AN.ref_stk hA (by decide) (fun v _ => rfl) hx hl0 (fun l hl => by have := hb l hl; have := pe_0 (n := A.n) (ex := ex); omega) hw hr he) ⟨j, hj, by rw [← hx j hj]; exact g⟩ (fun v hv => ?_) (fun _ _ => rfl) A.n 0 (by omega) _ _ _ (if_frt fr if_15) (fun v hv => fv v hv) ⟨by rw [dm_ui_1, if_pos rfl]; exact if_pos rfl, fun k hk => absurd hk (Nat.not_lt_zero _)⟩
          have l1 := dI_lo hn (AN.dFw hA hc0) hU0 v0_0 hw.1 v hv
          have l2 := dI_fr v0_0 hw.1 v hv
          exact ⟨by unfold lB; omega, l2⟩
    have sums : ∀ (k i : Nat), i + k = A.n → ∀ (u' : dm_S), if_fr u u' → u'.1 0 15 = u.1 0 15 → PL u' A (fun _ => 0) (fun _ => 0) A.K → OV u' A.n A.s → G 31 [some (.ref 0), some (.long (lI (sI A.su i))), none, some (.int (nI i)), none] [] u' := by
      intro k
      induction k with
      | zero =>
        intro i hi u' a1 a15 a2 a3
        have e : i = A.n := by omega
        subst e
        have sb : lB (sI A.su A.n) := by
          have q1 : sI A.su A.n ≤ sI (fun _ => (1000000 : Int)) A.n := sI_le (fun v hv => (hA.2.2 v hv).2)
          have q2 : sI (fun _ => (-1000000 : Int)) A.n ≤ sI A.su A.n := sI_le (fun v hv => (hA.2.2 v hv).1)
          rw [sI_const] at q1 q2
          unfold lB; omega
        apply hG (fun pc => pc == 31 || pc == 70 || pc == 93) 60
        simp (config := { maxSteps := 2000000 }) [-Prod.forall, -Prod.exists, -exists_and_left, -exists_and_right, hW0, hW1, dm_fn, dm_fd, dm_x, dm_L0, dm_la, dm_t1, dm_sw, List.headD, dm_ic, dm_mk, dm_s1, dm_s2, dm_clr, dm_cs, dm_cc, dm_nb0, dm_nb1, Value.category, List.lookup, p_X11_isFeasible, x_X11_isFeasible, k_X11_isFeasible, dm_cm, upd, vp_updL, dm_ui_1, dm_ui_2, dm_ul_1, dm_ul_2, sp_X11_split, sp_X11_way, sp_X11_goTo, sp_X11_isServed, sM_0, sM_1, sM_2, sM_3, sM_4, sM_5, sM_6, sM_7, sM_8, sM_9, sM_10, sM_11, sM_12, sM_13, sM_14, sM_15, sM_16, sM_17, sM_18, sM_19, sM_20, sM_21, sM_22, sM_23, sM_24, sM_25, sM_26, sM_27, sM_28, sM_29]
        have e00 : u'.1 0 0 = nI A.n := by rw [a1.2.1 0 (by decide) (by decide)]; exact hC.1.1
        rw [e00, h0l, lI_eq sb h0b]
        refine ⟨fun _ => ⟨fun z => turn z u' _ _ a1 a15 a2 a3, fun z => ?_⟩, fun z => absurd z (nI_nlt (Nat.le_refl _) (by omega))⟩
        exact all z A.n 0 (by omega) _ _ _ (if_frt a1 if_15) (by rw [dm_ui_1, if_pos rfl]; exact if_pos rfl) (fun v hv => absurd hv (Nat.not_lt_zero _))
      | succ k ih =>
        intro i hi u' a1 a15 a2 a3
        have ci : (nI i).toNatClampNeg = i := nI_clamp (by omega)
        have ii : vp_in (nI i) 24 := vp_in_nI (by omega) (by omega)
        have e1 : u'.2 1 i = lI (A.su i) := by rw [a1.2.2 1 (by decide)]; exact hC.2.1 i (by omega)
        apply hG (fun pc => pc == 31 || pc == 70 || pc == 93) 60
        simp (config := { maxSteps := 2000000 }) [-Prod.forall, -Prod.exists, -exists_and_left, -exists_and_right, hW0, hW1, dm_fn, dm_fd, dm_x, dm_L0, dm_la, dm_t1, dm_sw, List.headD, dm_ic, dm_mk, dm_s1, dm_s2, dm_clr, dm_cs, dm_cc, dm_nb0, dm_nb1, Value.category, List.lookup, p_X11_isFeasible, x_X11_isFeasible, k_X11_isFeasible, dm_cm, upd, vp_updL, dm_ui_1, dm_ui_2, dm_ul_1, dm_ul_2, sp_X11_split, sp_X11_way, sp_X11_goTo, sp_X11_isServed, sM_0, sM_1, sM_2, sM_3, sM_4, sM_5, sM_6, sM_7, sM_8, sM_9, sM_10, sM_11, sM_12, sM_13, sM_14, sM_15, sM_16, sM_17, sM_18, sM_19, sM_20, sM_21, sM_22, sM_23, sM_24, sM_25, sM_26, sM_27, sM_28, sM_29]
        simp only [ci, ii, e1, lI_add, nI_1, true_and]
        rw [a1.2.1 0 (by decide) (by decide), hC.1.1]
        exact ⟨fun z => absurd z (nI_ge (by omega) (by omega)), fun _ => ih (i + 1) (by omega) u' a1 a15 a2 a3⟩
    have zero : ∀ (k l : Nat), l + k = A.K → ∀ u' : dm_S, if_fr u u' → u'.1 0 15 = u.1 0 15 → PL u' A (fun i => if i < l then 0 else A.c i) (fun _ => 0) A.K → OV u' A.n A.s → G 6 [some (.ref 0), some (.int (nI l)), none, none, none] [] u' := by
      intro k
      induction k with
      | zero =>
        intro l hl u' a1 a15 a2 a3
        have e : l = A.K := by omega
        subst e
        apply hG (fun pc => pc == 6 || pc == 31) 60
        simp (config := { maxSteps := 2000000 }) [-Prod.forall, -Prod.exists, -exists_and_left, -exists_and_right, hW0, hW1, dm_fn, dm_fd, dm_x, dm_L0, dm_la, dm_t1, dm_sw, List.headD, dm_ic, dm_mk, dm_s1, dm_s2, dm_clr, dm_cs, dm_cc, dm_nb0, dm_nb1, Value.category, List.lookup, p_X11_isFeasible, x_X11_isFeasible, k_X11_isFeasible, dm_cm, upd, vp_updL, dm_ui_1, dm_ui_2, dm_ul_1, dm_ul_2, sp_X11_split, sp_X11_way, sp_X11_goTo, sp_X11_isServed, sM_0, sM_1, sM_2, sM_3, sM_4, sM_5, sM_6, sM_7, sM_8, sM_9, sM_10, sM_11, sM_12, sM_13, sM_14, sM_15, sM_16, sM_17, sM_18, sM_19, sM_20, sM_21, sM_22, sM_23, sM_24, sM_25, sM_26, sM_27, sM_28, sM_29]
        rw [a2.1]
        exact ⟨fun _ => sums A.n 0 (by omega) u' a1 a15 (PL_cg a2 (fun l hl => (if_pos hl).symm) (fun _ _ => rfl)) a3, fun z => absurd z (nI_nlt (Nat.le_refl _) (by omega))⟩
      | succ k ih =>
        intro l hl u' a1 a15 a2 a3
        have cl : (nI l).toNatClampNeg = l := nI_clamp (by omega)
        have il : vp_in (nI l) 400 := vp_in_nI (by omega) (by omega)
        apply hG (fun pc => pc == 6 || pc == 31) 60
        simp (config := { maxSteps := 2000000 }) [-Prod.forall, -Prod.exists, -exists_and_left, -exists_and_right, hW0, hW1, dm_fn, dm_fd, dm_x, dm_L0, dm_la, dm_t1, dm_sw, List.headD, dm_ic, dm_mk, dm_s1, dm_s2, dm_clr, dm_cs, dm_cc, dm_nb0, dm_nb1, Value.category, List.lookup, p_X11_isFeasible, x_X11_isFeasible, k_X11_isFeasible, dm_cm, upd, vp_updL, dm_ui_1, dm_ui_2, dm_ul_1, dm_ul_2, sp_X11_split, sp_X11_way, sp_X11_goTo, sp_X11_isServed, sM_0, sM_1, sM_2, sM_3, sM_4, sM_5, sM_6, sM_7, sM_8, sM_9, sM_10, sM_11, sM_12, sM_13, sM_14, sM_15, sM_16, sM_17, sM_18, sM_19, sM_20, sM_21, sM_22, sM_23, sM_24, sM_25, sM_26, sM_27, sM_28, sM_29]
        simp only [cl, il, nI_1, true_and]
        rw [a2.1]
        refine ⟨fun z => absurd z (nI_ge (by omega) (by omega)), fun _ => ih (l + 1) (by omega) _ ⟨a1.1, a1.2.1, fun c hc => ?_⟩ a15 ⟨a2.1, fun i hi => ?_⟩ (fun v hv => ?_)⟩
        · rw [dm_ul_2, if_neg (fun z => hc (by rw [z]; decide))]; exact a1.2.2 c hc
        · obtain ⟨b0, b1, b2, b3⟩ := a2.2 i hi
          refine ⟨b0, by rw [dm_ul_2, if_neg (by decide)]; exact b1, ?_, by rw [dm_ul_2, if_neg (by decide)]; exact b3⟩
          rw [dm_ul_2, if_pos rfl]
          unfold vp_updL
          by_cases y : i = l
          · rw [if_pos y]; dsimp only; rw [if_pos (by omega)]; rfl
          · rw [if_neg y, b2]
            by_cases y2 : i < l
            · dsimp only; rw [if_pos y2, if_pos (by omega)]
            · dsimp only; rw [if_neg y2, if_neg (by omega)]
        · rw [dm_ul_2, if_neg (by decide)]; exact a3 v hv
    apply hG (fun pc => pc == 6) 60
    simp (config := { maxSteps := 2000000 }) [-Prod.forall, -Prod.exists, -exists_and_left, -exists_and_right, hW0, hW1, dm_fn, dm_fd, dm_x, dm_L0, dm_la, dm_t1, dm_sw, List.headD, dm_ic, dm_mk, dm_s1, dm_s2, dm_clr, dm_cs, dm_cc, dm_nb0, dm_nb1, Value.category, List.lookup, p_X11_isFeasible, x_X11_isFeasible, k_X11_isFeasible, dm_cm, upd, vp_updL, dm_ui_1, dm_ui_2, dm_ul_1, dm_ul_2, sp_X11_split, sp_X11_way, sp_X11_goTo, sp_X11_isServed, sM_0, sM_1, sM_2, sM_3, sM_4, sM_5, sM_6, sM_7, sM_8, sM_9, sM_10, sM_11, sM_12, sM_13, sM_14, sM_15, sM_16, sM_17, sM_18, sM_19, sM_20, sM_21, sM_22, sM_23, sM_24, sM_25, sM_26, sM_27, sM_28, sM_29]
    exact ⟨A, hA, hC, fun u' a1 a2 a3 => zero A.K 0 (by omega) u' (if_sl a1) (a1.2.1 15 (by decide)) (PL_cg a2 (fun l _ => if_neg (Nat.not_lt_zero _)) (fun _ _ => rfl)) a3⟩
  · exact h.elim
set_option maxRecDepth 100000 in
theorem t_X11_isFeasible (l : Launch) (D : va_G) (cA : Nat → ClassId) (ad : Nat → Nat) : dm_Met l D dm_cl cA ad shM yX11_isFeasible (Cond.code yX11_isFeasible cX11_isFeasible 5 (dm_rt 3) :: dm_tt) ({ frames := 2, cells := 0, slots := 0, locals := 53 } : Room) sp_X11_isFeasible := dm_meth (own := RX11) (X := x_X11_isFeasible) (Sp := k_X11_isFeasible) (prog := p_X11_isFeasible) (by decide +kernel) rfl rfl (dm_FO_s ffX11 [(7, 11, 2), (41, 11, 16), (56, 11, 22), (65, 11, 25), (106, 11, 15), (109, 11, 0), (139, 11, 17)] rfl dm_hT (by decide +kernel)) (dm_IO_s ifX11 jfX11 [] [(152, 1152921504606846976)] rfl rfl dm_hT (by decide +kernel) (by decide +kernel)) soM (dm_MO_of (List.forall_mem_cons.mpr ⟨dm_M1_of (t_X11_split l D cA ad) dm_hT (dm_mem [1115, 77, 1112] (by decide +kernel) (by decide +kernel)) (by decide) (by decide +kernel) (Or.inr ⟨by decide, dm_mem [1114, 44] (by decide +kernel) (by decide +kernel), rfl⟩), List.forall_mem_cons.mpr ⟨dm_M1_of (t_X11_way l D cA ad) dm_hT (dm_mem [1124, 77, 1121] (by decide +kernel) (by decide +kernel)) (by decide) (by decide +kernel) (Or.inr ⟨by decide, dm_mem [1123, 46] (by decide +kernel) (by decide +kernel), rfl⟩), List.forall_mem_cons.mpr ⟨dm_M1_of (t_X11_goTo l D cA ad) dm_hT (dm_mem [1141, 77, 1138] (by decide +kernel) (by decide +kernel)) (by decide) (by decide +kernel) (Or.inr ⟨by decide, dm_mem [1140, 50] (by decide +kernel) (by decide +kernel), rfl⟩), List.forall_mem_cons.mpr ⟨dm_M1_of (t_X11_isServed l D cA ad) dm_hT (dm_mem [1148, 77, 1145] (by decide +kernel) (by decide +kernel)) (by decide) (by decide +kernel) (Or.inr ⟨by decide, dm_mem [1147, 51] (by decide +kernel) (by decide +kernel), rfl⟩), fun _ h => absurd h List.not_mem_nil⟩⟩⟩⟩)) v_X11_isFeasible u_X11_isFeasible
