/-! ===== the reference: way ===== -/
theorem nI_d2 {w : Nat} (h : w < 2147483648) : nI w / 2 = nI (w / 2) := by
  unfold nI
  apply Int32.toInt_inj.mp
  rw [Int32.toInt_div_of_ne_right _ _ (by decide)]
  rw [Int32.toInt_ofNat_of_lt (by omega), Int32.toInt_ofNat_of_lt (by omega)]
  show Int.tdiv (w : Int) 2 = _
  rw [Int.tdiv_eq_ediv_of_nonneg (by omega)]
  omega
theorem nI_r2 {w : Nat} : nI w - nI (w / 2) * 2 = nI (w % 2) := by
  rw [show (2 : Int32) = nI 2 from rfl, pk_mul, nI_sb (by omega)]
  congr 1
  omega
theorem nI_m0 {w : Nat} (h : w % 2 = 0) : nI w - nI (w / 2) * 2 = 0 := by rw [nI_r2, h]; rfl
theorem nI_m1 {w : Nat} (h : ¬ w % 2 = 0) : ¬ nI w - nI (w / 2) * 2 = 0 := by rw [nI_r2, show w % 2 = 1 by omega]; decide
def wy_fr (u u' : dm_S) : Prop := (∀ c, c ≠ 20 → u'.1 c = u.1 c) ∧ ∀ c, c ≠ 19 → u'.2 c = u.2 c
theorem wy_fr0 (u : dm_S) : wy_fr u u := ⟨fun _ _ => rfl, fun _ _ => rfl⟩
theorem wy_frt {u u' u'' : dm_S} (h : wy_fr u u') (h2 : wy_fr u' u'') : wy_fr u u'' := ⟨fun c a => (h2.1 c a).trans (h.1 c a), fun c a => (h2.2 c a).trans (h.2 c a)⟩
theorem wy_19 {u : dm_S} {j : Nat} {x : Int64} : wy_fr u (dm_ul u 19 j x) := ⟨fun _ _ => rfl, fun c hc => by rw [dm_ul_2, if_neg hc]⟩
theorem wy_20 {u : dm_S} {j : Nat} {x : Int32} : wy_fr u (dm_ui u 20 j x) := ⟨fun c hc => by rw [dm_ui_1, if_neg hc], fun _ _ => rfl⟩
theorem wy_mn {u u' : dm_S} (h : wy_fr u u') : mn_fr u u' := by
  refine ⟨⟨by rw [h.1 0 (by decide)], by rw [h.1 0 (by decide)]⟩, fun c hc => h.1 c ?_, fun c hc => h.2 c ?_⟩
  · intro z; subst z; revert hc; decide
  · intro z; subst z; revert hc; decide
theorem PL_wy {u u' : dm_S} {A : AN} {c lo : Nat → Int} {L : Nat} (h : PL u A c lo L) (hf : wy_fr u u') : PL u' A c lo L := by
  unfold PL at h ⊢
  rw [hf.1 0 (by decide), hf.1 12 (by decide), hf.1 13 (by decide), hf.1 14 (by decide), hf.2 15 (by decide), hf.2 16 (by decide), hf.2 17 (by decide)]
  exact h
theorem OV_wy {u u' : dm_S} {n : Nat} {ex : Nat → Int} (h : OV u n ex) (hf : wy_fr u u') : OV u' n ex := by
  unfold OV at h ⊢
  rw [hf.2 18 (by decide)]
  exact h
/-- by what way each node was reached, as the cell holds it -/
def vj (u : dm_S) (n : Nat) (via : Nat → Option Nat) : Prop := ∀ v, v < n → u.1 20 v = match via v with
  | some w => nI w
  | none => -1
def FV (u : dm_S) (n : Nat) (V : Nat → Int) : Prop := ∀ v, v < n → u.2 19 v = lI (V v)
def v0 (ex : Nat → Int) : Nat → Int := fun v => if 0 < ex v then 0 else fAR
theorem v0_0 {n : Nat} {ex : Nat → Int} : d0 n (v0 ex) := fun v _ => by unfold v0; split <;> simp
/-- what a search may rely on -/
def wy_ok (u : dm_S) (A : AN) (c lo ex U : Nat → Int) : Prop := A.ok ∧ MR u A ∧ PL u A c lo A.K ∧ OV u A.n ex ∧ (∀ l, l < A.K → -1000000 ≤ c l ∧ c l ≤ 1000000) ∧ fits A.K (A.w 1000000000000) lo ∧ (∀ v, v < A.n → lB (ex v)) ∧ dP (2 * A.K) (wb A.b A.e) (we A.b A.e) (wr c) (onW (A.w 1000000000000) lo) U
def sp_X11_way (As : List Value) (u : dm_S) (Q : Option Value → dm_S → Prop) : Prop := match As with
  | [.ref 0] => ∃ (A : AN) (c lo ex U : Nat → Int), wy_ok u A c lo ex U ∧ ∀ (u' : dm_S) (V : Nat → Int) (via : Nat → Option Nat), wy_fr u u' → FV u' A.n V → vj u' A.n via → wI A.n A.K A.b A.e c (onW (A.w 1000000000000) lo) (v0 ex) V via → dR (2 * A.K) (wb A.b A.e) (we A.b A.e) (wr c) (onW (A.w 1000000000000) lo) V → ((∀ v, v < A.n → ex v < 0 → V v = fAR) → Q (some (.int (-1))) u') ∧ ∀ t, t < A.n → ex t < 0 → V t ≠ fAR → Q (some (.int (nI t))) u'
  | _ => False
def p_X11_way : List dm_I := [(0, .iconst 0, 1, []), (1, .istore_n 1, 1, [1]), (2, .iload_n 1, 1, [1]), (3, .aload_n 0, 1, [0]), (4, .getfield 109, 3, []), (7, .if_icmp .ge 40, 3, [47]), (10, .aload_n 0, 1, [0]), (11, .getfield 65, 3, []), (14, .iload_n 1, 1, [1]), (15, .aload_n 0, 1, [0]), (16, .getfield 62, 3, []), (19, .iload_n 1, 1, [1]), (20, .laload, 1, []), (21, .lconst 0, 1, []), (22, .lcmp, 1, []), (23, .ifCond .le 7, 3, [30]), (26, .lconst 0, 1, []), (27, .goto 6, 3, [33]), (30, .ldc2_w 152, 3, []), (33, .lastore, 1, []), (34, .aload_n 0, 1, [0]), (35, .getfield 68, 3, []), (38, .iload_n 1, 1, [1]), (39, .iconst (-1), 1, []), (40, .iastore, 1, []), (41, .iinc 1 1, 3, []), (44, .goto (-42), 3, [2]), (47, .iconst 1, 1, []), (48, .istore_n 1, 1, [1]), (49, .iload_n 1, 1, [1]), (50, .ifCond .eq 159, 3, [209]), (53, .iconst 0, 1, []), (54, .istore_n 1, 1, [1]), (55, .iconst 0, 1, []), (56, .istore_n 2, 1, [2]), (57, .iload_n 2, 1, [2]), (58, .iconst 2, 1, []), (59, .aload_n 0, 1, [0]), (60, .getfield 139, 3, []), (63, .imul, 1, []), (64, .if_icmp .ge 142, 3, [206]), (67, .iload_n 2, 1, [2]), (68, .iconst 2, 1, []), (69, .irem, 1, []), (70, .ifCond .ne 7, 3, [77]), (73, .iconst 1, 1, []), (74, .goto 4, 3, [78]), (77, .iconst 0, 1, []), (78, .istore_n 3, 1, [3]), (79, .aload_n 0, 1, [0]), (80, .iload_n 2, 1, [2]), (81, .iconst 2, 1, []), (82, .idiv, 1, []), (83, .iload_n 3, 1, [3]), (84, .invokevirtual 154, 3, []), (87, .istore 4, 2, []), (89, .aload_n 0, 1, [0]), (90, .iload_n 2, 1, [2]), (91, .iconst 2, 1, []), (92, .idiv, 1, []), (93, .iload_n 3, 1, [3]), (94, .invokevirtual 158, 3, []), (97, .istore 5, 2, []), (99, .iload_n 3, 1, [3]), (100, .ifCond .eq 14, 3, [114]), (103, .aload_n 0, 1, [0]), (104, .getfield 56, 3, []), (107, .iload_n 2, 1, [2]), (108, .iconst 2, 1, []), (109, .idiv, 1, []), (110, .laload, 1, []), (111, .goto 12, 3, [123]), (114, .aload_n 0, 1, [0]), (115, .getfield 56, 3, []), (118, .iload_n 2, 1, [2]), (119, .iconst 2, 1, []), (120, .idiv, 1, []), (121, .laload, 1, []), (122, .lneg, 1, []), (123, .lstore 6, 2, []), (125, .aload_n 0, 1, [0]), (126, .getfield 65, 3, []), (129, .iload 4, 2, []), (131, .laload, 1, []), (132, .ldc2_w 152, 3, []), (135, .lcmp, 1, []), (136, .ifCond .ge 64, 3, [200]), (139, .aload_n 0, 1, [0]), (140, .iload_n 2, 1, [2]), (141, .iconst 2, 1, []), (142, .idiv, 1, []), (143, .iload_n 3, 1, [3]), (144, .invokevirtual 161, 3, []), (147, .lconst 0, 1, []), (148, .lcmp, 1, []), (149, .ifCond .le 51, 3, [200]), (152, .aload_n 0, 1, [0]), (153, .getfield 65, 3, []), (156, .iload 4, 2, []), (158, .laload, 1, []), (159, .lload 6, 2, []), (161, .ladd, 1, []), (162, .aload_n 0, 1, [0]), (163, .getfield 65, 3, []), (166, .iload 5, 2, []), (168, .laload, 1, []), (169, .lcmp, 1, []), (170, .ifCond .ge 30, 3, [200]), (173, .aload_n 0, 1, [0]), (174, .getfield 65, 3, []), (177, .iload 5, 2, []), (179, .aload_n 0, 1, [0]), (180, .getfield 65, 3, []), (183, .iload 4, 2, []), (185, .laload, 1, []), (186, .lload 6, 2, []), (188, .ladd, 1, []), (189, .lastore, 1, []), (190, .aload_n 0, 1, [0]), (191, .getfield 68, 3, []), (194, .iload 5, 2, []), (196, .iload_n 2, 1, [2]), (197, .iastore, 1, []), (198, .iconst 1, 1, []), (199, .istore_n 1, 1, [1]), (200, .iinc 2 1, 3, []), (203, .goto (-146), 3, [57]), (206, .goto (-157), 3, [49]), (209, .iconst (-1), 1, []), (210, .istore_n 2, 1, [2]), (211, .iconst 0, 1, []), (212, .istore_n 3, 1, [3]), (213, .iload_n 3, 1, [3]), (214, .aload_n 0, 1, [0]), (215, .getfield 109, 3, []), (218, .if_icmp .ge 56, 3, [274]), (221, .aload_n 0, 1, [0]), (222, .getfield 62, 3, []), (225, .iload_n 3, 1, [3]), (226, .laload, 1, []), (227, .lconst 0, 1, []), (228, .lcmp, 1, []), (229, .ifCond .ge 39, 3, [268]), (232, .aload_n 0, 1, [0]), (233, .getfield 65, 3, []), (236, .iload_n 3, 1, [3]), (237, .laload, 1, []), (238, .ldc2_w 152, 3, []), (241, .lcmp, 1, []), (242, .ifCond .ge 26, 3, [268]), (245, .iload_n 2, 1, [2]), (246, .iconst (-1), 1, []), (247, .if_icmp .eq 19, 3, [266]), (250, .aload_n 0, 1, [0]), (251, .getfield 65, 3, []), (254, .iload_n 3, 1, [3]), (255, .laload, 1, []), (256, .aload_n 0, 1, [0]), (257, .getfield 65, 3, []), (260, .iload_n 2, 1, [2]), (261, .laload, 1, []), (262, .lcmp, 1, []), (263, .ifCond .ge 5, 3, [268]), (266, .iload_n 3, 1, [3]), (267, .istore_n 2, 1, [2]), (268, .iinc 3 1, 3, []), (271, .goto (-58), 3, [213]), (274, .iload_n 2, 1, [2]), (275, .ireturn, 1, [])]
set_option maxRecDepth 100000 in
theorem v_X11_way : p_X11_way.all (dm_vb cX11_way) = true := by decide +kernel
def k_X11_way : dm_Sp := fun a => match a with
  | 0 => sp_X11_tail
  | 1 => sp_X11_head
  | 2 => sp_X11_room
  | _ => fun _ _ _ => False
def x_X11_way : dm_X := dm_mk [(56, 11, 22), (62, 11, 24), (65, 11, 25), (68, 11, 26), (109, 11, 0), (139, 11, 17)] [] [(152, 1152921504606846976)] [(154, 0, 2, 11), (158, 1, 2, 11), (161, 2, 2, 11)] 1
set_option maxRecDepth 100000 in
set_option maxHeartbeats 1600000 in
theorem u_X11_way : dm_Pure shM x_X11_way k_X11_way p_X11_way 8 sp_X11_way := by
  intro As u Qp h
  unfold sp_X11_way at h
  split at h
  · obtain ⟨A, c, lo, ex, U, ⟨hA, hC, hP, hO, hc, hl, hE, hU⟩, h⟩ := h
    obtain ⟨hn, hM⟩ := hA.1
    have hK := A.K_le hA
    have hf := AN.dFw hA (on := onW (A.w 1000000000000) lo) hc
    have hF : fAR = 1152921504606846976 := rfl
    have hFl : (1152921504606846976 : Int64) = lI fAR := rfl
    have h0l : (0 : Int64) = lI 0 := rfl
    have hFb : lB fAR := by unfold lB; omega
    have h0b : lB 0 := by unfold lB; omega
    have hwm : ∀ w, w < 2 * A.K → lB (wm (A.w 1000000000000) lo w) := fun w hw => by
      have q1 := hl (w / 2) (by omega)
      have q2 := A.w_bd hA (B := 1000000000000) (by decide) (show w / 2 < A.K by omega)
      unfold lB wm
      split <;> omega
    refine ⟨Nat.le_of_ble_eq_true rfl, fun G Wp hW0 hW1 hG => ?_⟩
    have last : ∀ (u' : dm_S) (V : Nat → Int) (via : Nat → Option Nat), wy_fr u u' → FV u' A.n V → vj u' A.n via → wI A.n A.K A.b A.e c (onW (A.w 1000000000000) lo) (v0 ex) V via → dR (2 * A.K) (wb A.b A.e) (we A.b A.e) (wr c) (onW (A.w 1000000000000) lo) V → ∀ (k i : Nat), i + k = A.n → ∀ (x x1 : Int32) (o4 o5 o6 : Option Value), (x = -1 ∧ (∀ v, v < i → ex v < 0 → V v = fAR) ∨ ∃ t, t < A.n ∧ x = nI t ∧ ex t < 0 ∧ V t ≠ fAR) → G 213 [some (.ref 0), some (.int x1), some (.int x), some (.int (nI i)), o4, o5, o6, none] [] u' := by
      intro u' V via a1 a2 a3 a4 a5 k
      have lo' := dI_lo hn hf hU v0_0 a4.1
      have up' := dI_fr v0_0 a4.1
      have hVb : ∀ v, v < A.n → lB (V v) := fun v hv => by have := lo' v hv; have := up' v hv; unfold lB; omega
      induction k with
      | zero =>
        intro i hi x x1 o4 o5 o6 hx
        have e : i = A.n := by omega
        subst e
        apply hG (fun pc => pc == 213) 40
        simp (config := { maxSteps := 2000000 }) [-Prod.forall, -Prod.exists, -exists_and_left, -exists_and_right, hW0, hW1, dm_fn, dm_fd, dm_x, dm_L0, dm_la, dm_t1, dm_sw, List.headD, dm_ic, dm_mk, dm_s1, dm_s2, dm_clr, dm_cs, dm_cc, dm_nb0, dm_nb1, Value.category, List.lookup, p_X11_way, x_X11_way, k_X11_way, dm_cm, upd, vp_updL, dm_ui_1, dm_ui_2, dm_ul_1, dm_ul_2, sp_X11_tail, sp_X11_head, sp_X11_room, sM_0, sM_1, sM_2, sM_3, sM_4, sM_5, sM_6, sM_7, sM_8, sM_9, sM_10, sM_11, sM_12, sM_13, sM_14, sM_15, sM_16, sM_17, sM_18, sM_19, sM_20, sM_21, sM_22, sM_23, sM_24, sM_25, sM_26, sM_27, sM_28, sM_29]
        rw [a1.1 0 (by decide), hC.1.1]
        refine ⟨fun _ => ?_, fun z => absurd z (nI_nlt (Nat.le_refl _) (by omega))⟩
        obtain ⟨r1, r2⟩ := h u' V via a1 a2 a3 a4 a5
        rcases hx with ⟨rfl, g⟩ | ⟨t, t1, rfl, t2, t3⟩
        · exact r1 g
        · exact r2 t t1 t2 t3
      | succ k ih =>
        intro i hi x x1 o4 o5 o6 hx
        have hin : i < A.n := by omega
        have ci : (nI i).toNatClampNeg = i := nI_clamp (by omega)
        have ii : vp_in (nI i) 26 := vp_in_nI (by omega) (by omega)
        have eo : u'.2 18 i = lI (ex i) := by rw [a1.2 18 (by decide)]; exact hO i hin
        apply hG (fun pc => pc == 213) 40
        simp (config := { maxSteps := 2000000 }) [-Prod.forall, -Prod.exists, -exists_and_left, -exists_and_right, hW0, hW1, dm_fn, dm_fd, dm_x, dm_L0, dm_la, dm_t1, dm_sw, List.headD, dm_ic, dm_mk, dm_s1, dm_s2, dm_clr, dm_cs, dm_cc, dm_nb0, dm_nb1, Value.category, List.lookup, p_X11_way, x_X11_way, k_X11_way, dm_cm, upd, vp_updL, dm_ui_1, dm_ui_2, dm_ul_1, dm_ul_2, sp_X11_tail, sp_X11_head, sp_X11_room, sM_0, sM_1, sM_2, sM_3, sM_4, sM_5, sM_6, sM_7, sM_8, sM_9, sM_10, sM_11, sM_12, sM_13, sM_14, sM_15, sM_16, sM_17, sM_18, sM_19, sM_20, sM_21, sM_22, sM_23, sM_24, sM_25, sM_26, sM_27, sM_28, sM_29]
        rw [a1.1 0 (by decide), hC.1.1, ci, eo, a2 i hin, nI_1, hFl, h0l]
        simp only [ii, true_and]
        refine ⟨fun z => absurd z (nI_ge (by omega) (by omega)), fun _ => ⟨fun z => ?_, fun z => ⟨fun z2 => ?_, fun z2 => ⟨fun z3 => ?_, fun z3 => ?_⟩⟩⟩⟩
        · rw [lI_le h0b (hE i hin)] at z
          refine ih (i + 1) (by omega) x x1 _ _ _ (hx.imp (fun g => ⟨g.1, fun v hv hn2 => ?_⟩) id)
          by_cases y : v = i
          · rw [y] at hn2; omega
          · exact g.2 v (by omega) hn2
        · rw [lI_le hFb (hVb i hin)] at z2
          refine ih (i + 1) (by omega) x x1 _ _ _ (hx.imp (fun g => ⟨g.1, fun v hv hn2 => ?_⟩) id)
          by_cases y : v = i
          · rw [y]; have := up' i hin; omega
          · exact g.2 v (by omega) hn2
        · rw [lI_lt (hE i hin) h0b] at z
          rw [lI_lt (hVb i hin) hFb] at z2
          exact ih (i + 1) (by omega) (nI i) x1 _ _ _ (Or.inr ⟨i, hin, rfl, z, by omega⟩)
        · rw [lI_lt (hE i hin) h0b] at z
          rw [lI_lt (hVb i hin) hFb] at z2
          rcases hx with ⟨g, -⟩ | ⟨t, t1, rfl, t2, t3⟩
          · exact absurd g z3
          · exact ⟨vp_in_nI (by omega) (by omega), fun _ => ih (i + 1) (by omega) (nI t) x1 _ _ _ (Or.inr ⟨t, t1, rfl, t2, t3⟩), fun _ => ih (i + 1) (by omega) (nI i) x1 _ _ _ (Or.inr ⟨i, hin, rfl, z, by omega⟩)⟩
    -- a pass; S0 the sum before it
    have pass : ∀ S0 : Int, (∀ (u' : dm_S) (V : Nat → Int) (via : Nat → Option Nat) (ch : Bool) (o2 o3 o4 o5 o6 : Option Value), wy_fr u u' → FV u' A.n V → vj u' A.n via → wI A.n A.K A.b A.e c (onW (A.w 1000000000000) lo) (v0 ex) V via → (ch = true → sI V A.n < S0) → (ch = false → dR (2 * A.K) (wb A.b A.e) (we A.b A.e) (wr c) (onW (A.w 1000000000000) lo) V) → G 49 [some (.ref 0), some (.int (if ch then 1 else 0)), o2, o3, o4, o5, o6, none] [] u') → ∀ (k w : Nat), w + k = 2 * A.K → ∀ (u' : dm_S) (V : Nat → Int) (via : Nat → Option Nat) (ch : Bool) (o3 o4 o5 o6 : Option Value), wy_fr u u' → FV u' A.n V → vj u' A.n via → wI A.n A.K A.b A.e c (onW (A.w 1000000000000) lo) (v0 ex) V via → (ch = true → sI V A.n < S0) → (ch = false → sI V A.n ≤ S0 ∧ ∀ j, j < w → onW (A.w 1000000000000) lo j = true → V (wb A.b A.e j) ≠ fAR → V (we A.b A.e j) ≤ V (wb A.b A.e j) + wr c j) → G 57 [some (.ref 0), some (.int (if ch then 1 else 0)), some (.int (nI w)), o3, o4, o5, o6, none] [] u' := by
      intro S0 hx k
      induction k with
      | zero =>
        intro w hw u' V via ch o3 o4 o5 o6 a1 a2 a3 a4 a5 a6
        apply hG (fun pc => pc == 57 || pc == 49) 80
        simp (config := { maxSteps := 2000000 }) [-Prod.forall, -Prod.exists, -exists_and_left, -exists_and_right, hW0, hW1, dm_fn, dm_fd, dm_x, dm_L0, dm_la, dm_t1, dm_sw, List.headD, dm_ic, dm_mk, dm_s1, dm_s2, dm_clr, dm_cs, dm_cc, dm_nb0, dm_nb1, Value.category, List.lookup, p_X11_way, x_X11_way, k_X11_way, dm_cm, upd, vp_updL, dm_ui_1, dm_ui_2, dm_ul_1, dm_ul_2, sp_X11_tail, sp_X11_head, sp_X11_room, sM_0, sM_1, sM_2, sM_3, sM_4, sM_5, sM_6, sM_7, sM_8, sM_9, sM_10, sM_11, sM_12, sM_13, sM_14, sM_15, sM_16, sM_17, sM_18, sM_19, sM_20, sM_21, sM_22, sM_23, sM_24, sM_25, sM_26, sM_27, sM_28, sM_29]
        have e2K : (2 : Int32) * nI A.K = nI (2 * A.K) := by rw [show (2 : Int32) = nI 2 from rfl, pk_mul]
        rw [a1.1 0 (by decide), hP.1, e2K]
        have e : w = 2 * A.K := by omega
        subst e
        exact ⟨fun _ => hx u' V via ch _ _ _ _ _ a1 a2 a3 a4 a5 (fun z => (a6 z).2), fun z => absurd z (nI_nlt (Nat.le_refl _) (by omega))⟩
      | succ k ih =>
        intro w hw u' V via ch o3 o4 o5 o6 a1 a2 a3 a4 a5 a6
        have hwk : w < 2 * A.K := by omega
        have ed2 : nI w / 2 = nI (w / 2) := nI_d2 (by omega)
        have cd2 : (nI (w / 2)).toNatClampNeg = w / 2 := nI_clamp (by omega)
        have e2K : (2 : Int32) * nI A.K = nI (2 * A.K) := by rw [show (2 : Int32) = nI 2 from rfl, pk_mul]
        obtain ⟨⟨f1, f2⟩, f3, f4⟩ := AN.dFw hA (on := fun _ => true) hc w hwk rfl
        have lo' := dI_lo hn hf hU v0_0 a4.1
        have up' := dI_fr v0_0 a4.1
        have hVb : ∀ v, v < A.n → lB (V v) := fun v hv => by have := lo' v hv; have := up' v hv; unfold lB; omega
        have hVc : lB (V (wb A.b A.e w) + wr c w) := by have := lo' _ f1; have := up' _ f1; unfold lB; omega
        have nxt : ∀ o3 o4 o5 o6 : Option Value, (onW (A.w 1000000000000) lo w = true → V (wb A.b A.e w) ≠ fAR → V (we A.b A.e w) ≤ V (wb A.b A.e w) + wr c w) → G 57 [some (.ref 0), some (.int (if ch = true then 1 else 0)), some (.int (nI (w + 1))), o3, o4, o5, o6, none] [] u' := fun o3 o4 o5 o6 g => ih (w + 1) (by omega) u' V via ch _ _ _ _ a1 a2 a3 a4 a5 (fun z => ⟨(a6 z).1, fun j hj h1 h2 => by
          by_cases y : j < w
          · exact (a6 z).2 j y h1 h2
          · have e : j = w := by omega
            subst e
            exact g h1 h2⟩)
        have upd : ∀ o3 o4 o5 o6 : Option Value, onW (A.w 1000000000000) lo w = true → V (wb A.b A.e w) ≠ fAR → V (wb A.b A.e w) + wr c w < V (we A.b A.e w) → G 57 [some (.ref 0), some (.int 1), some (.int (nI (w + 1))), o3, o4, o5, o6, none] [] (dm_ui (dm_ul u' 19 (we A.b A.e w) (lI (V (wb A.b A.e w) + wr c w))) 20 (we A.b A.e w) (nI w)) := fun o3 o4 o5 o6 g1 g2 g3 => by
          have hs : sI (uI V (we A.b A.e w) (V (wb A.b A.e w) + wr c w)) A.n < S0 := by
            rw [sI_upd f2]
            cases ch with
            | true => have := a5 rfl; omega
            | false => have := (a6 rfl).1; omega
          refine ih (w + 1) (by omega) _ (uI V (we A.b A.e w) (V (wb A.b A.e w) + wr c w)) (uO via (we A.b A.e w) w) true _ _ _ _ (wy_frt a1 (wy_frt wy_19 wy_20)) ?_ ?_ (wI_s a4 hf hU v0_0 hwk g1 g2 g3) (fun _ => hs) (fun z => by cases z)
          · intro v hv
            rw [dm_ui_2, dm_ul_2, if_pos rfl]
            unfold vp_updL uI
            by_cases y : v = we A.b A.e w
            · rw [if_pos y, if_pos y]
            · rw [if_neg y, if_neg y]; exact a2 v hv
          · intro v hv
            rw [dm_ui_1, if_pos rfl]
            unfold upd uO
            by_cases y : v = we A.b A.e w
            · simp [y]
            · simp [y]; exact a3 v hv
        obtain ⟨⟨p1, p2, -⟩, p4, p5, p6⟩ := (PL_wy hP a1).2 (w / 2) (by omega)
        have iw : vp_in (nI (w / 2)) 400 := vp_in_nI (by omega) (by omega)
        have ib : vp_in (nI (wb A.b A.e w)) 26 := vp_in_nI (by omega) (by omega)
        have ie : vp_in (nI (we A.b A.e w)) 26 := vp_in_nI (by omega) (by omega)
        have cb : (nI (wb A.b A.e w)).toNatClampNeg = wb A.b A.e w := nI_clamp (by omega)
        have ce : (nI (we A.b A.e w)).toNatClampNeg = we A.b A.e w := nI_clamp (by omega)
        have e17 : u'.1 0 17 = nI A.K := by rw [a1.1 0 (by decide)]; exact hP.1
        by_cases ev : w % 2 = 0
        · have em := nI_m0 ev
          have g1 : u'.1 12 (w / 2) = nI (wb A.b A.e w) := by rw [p1]; unfold wb; rw [if_pos ev]
          have g2 : u'.1 13 (w / 2) = nI (we A.b A.e w) := by rw [p2]; unfold we; rw [if_pos ev]
          have g3 : u'.2 16 (w / 2) = lI (wr c w) := by rw [p5]; unfold wr; rw [if_pos ev]
          have g4 : u'.2 15 (w / 2) - u'.2 17 (w / 2) = lI (wm (A.w 1000000000000) lo w) := by rw [p4, p6, lI_sub]; unfold wm; rw [if_pos ev]
          apply hG (fun pc => pc == 57 || pc == 49) 140
          simp (config := { maxSteps := 2000000 }) [-Prod.forall, -Prod.exists, -exists_and_left, -exists_and_right, hW0, hW1, dm_fn, dm_fd, dm_x, dm_L0, dm_la, dm_t1, dm_sw, List.headD, dm_ic, dm_mk, dm_s1, dm_s2, dm_clr, dm_cs, dm_cc, dm_nb0, dm_nb1, Value.category, List.lookup, p_X11_way, x_X11_way, k_X11_way, dm_cm, upd, vp_updL, dm_ui_1, dm_ui_2, dm_ul_1, dm_ul_2, sp_X11_tail, sp_X11_head, sp_X11_room, sM_0, sM_1, sM_2, sM_3, sM_4, sM_5, sM_6, sM_7, sM_8, sM_9, sM_10, sM_11, sM_12, sM_13, sM_14, sM_15, sM_16, sM_17, sM_18, sM_19, sM_20, sM_21, sM_22, sM_23, sM_24, sM_25, sM_26, sM_27, sM_28, sM_29]
          simp only [ed2, em, cd2, g1, g2, g3, g4, e17, e2K, cb, ce, iw, ib, ie, a2 _ f1, a2 _ f2, hFl, h0l, true_and, nI_1, lI_add]
          refine ⟨fun z => absurd z (nI_ge (by omega) (by omega)), fun _ => ⟨fun z => absurd trivial z, fun _ => ⟨fun z => ?_, fun z => ⟨fun z2 => ?_, fun z2 => ⟨fun z3 => ?_, fun z3 => ?_⟩⟩⟩⟩⟩
          · rw [lI_le hFb (hVb _ f1)] at z
            exact nxt _ _ _ _ (fun _ q => absurd (by have := up' _ f1; omega) q)
          · rw [lI_le (hwm w hwk) h0b] at z2
            exact nxt _ _ _ _ (fun q _ => by have := onW_t.mp q; omega)
          · rw [lI_le (hVb _ f2) hVc] at z3
            exact nxt _ _ _ _ (fun _ _ => z3)
          · rw [lI_lt (hVb _ f1) hFb] at z
            rw [lI_lt h0b (hwm w hwk)] at z2
            rw [lI_lt hVc (hVb _ f2)] at z3
            exact upd _ _ _ _ (onW_t.mpr z2) (by omega) z3
        · have em := nI_m1 ev
          have g1 : u'.1 13 (w / 2) = nI (wb A.b A.e w) := by rw [p2]; unfold wb; rw [if_neg ev]
          have g2 : u'.1 12 (w / 2) = nI (we A.b A.e w) := by rw [p1]; unfold we; rw [if_neg ev]
          have g3 : -u'.2 16 (w / 2) = lI (wr c w) := by rw [p5, lI_neg]; unfold wr; rw [if_neg ev]
          have g4 : u'.2 17 (w / 2) = lI (wm (A.w 1000000000000) lo w) := by rw [p6]; unfold wm; rw [if_neg ev]
          apply hG (fun pc => pc == 57 || pc == 49) 140
          simp (config := { maxSteps := 2000000 }) [-Prod.forall, -Prod.exists, -exists_and_left, -exists_and_right, hW0, hW1, dm_fn, dm_fd, dm_x, dm_L0, dm_la, dm_t1, dm_sw, List.headD, dm_ic, dm_mk, dm_s1, dm_s2, dm_clr, dm_cs, dm_cc, dm_nb0, dm_nb1, Value.category, List.lookup, p_X11_way, x_X11_way, k_X11_way, dm_cm, upd, vp_updL, dm_ui_1, dm_ui_2, dm_ul_1, dm_ul_2, sp_X11_tail, sp_X11_head, sp_X11_room, sM_0, sM_1, sM_2, sM_3, sM_4, sM_5, sM_6, sM_7, sM_8, sM_9, sM_10, sM_11, sM_12, sM_13, sM_14, sM_15, sM_16, sM_17, sM_18, sM_19, sM_20, sM_21, sM_22, sM_23, sM_24, sM_25, sM_26, sM_27, sM_28, sM_29]
          simp only [ed2, em, cd2, g1, g2, g3, g4, e17, e2K, cb, ce, iw, ib, ie, a2 _ f1, a2 _ f2, hFl, h0l, true_and, nI_1, lI_add]
          refine ⟨fun z => absurd z (nI_ge (by omega) (by omega)), fun _ => ⟨fun _ => ⟨fun z => ?_, fun z => ⟨fun z2 => ?_, fun z2 => ⟨fun z3 => ?_, fun z3 => ?_⟩⟩⟩, fun z => z.elim⟩⟩
          · rw [lI_le hFb (hVb _ f1)] at z
            exact nxt _ _ _ _ (fun _ q => absurd (by have := up' _ f1; omega) q)
          · rw [lI_le (hwm w hwk) h0b] at z2
            exact nxt _ _ _ _ (fun q _ => by have := onW_t.mp q; omega)
          · rw [lI_le (hVb _ f2) hVc] at z3
            exact nxt _ _ _ _ (fun _ _ => z3)
          · rw [lI_lt (hVb _ f1) hFb] at z
            rw [lI_lt h0b (hwm w hwk)] at z2
            rw [lI_lt hVc (hVb _ f2)] at z3
            exact upd _ _ _ _ (onW_t.mpr z2) (by omega) z3
    have loop : ∀ (m : Nat) (u' : dm_S) (V : Nat → Int) (via : Nat → Option Nat) (o2 o3 o4 o5 o6 : Option Value), sI V A.n - A.n * (-24000000) ≤ m → wy_fr u u' → FV u' A.n V → vj u' A.n via → wI A.n A.K A.b A.e c (onW (A.w 1000000000000) lo) (v0 ex) V via → G 49 [some (.ref 0), some (.int 1), o2, o3, o4, o5, o6, none] [] u' := by
      intro m
      induction m with
      | zero =>
        intro u' V via o2 o3 o4 o5 o6 hm a1 a2 a3 a4
        apply hG (fun pc => pc == 57) 80
        simp (config := { maxSteps := 2000000 }) [-Prod.forall, -Prod.exists, -exists_and_left, -exists_and_right, hW0, hW1, dm_fn, dm_fd, dm_x, dm_L0, dm_la, dm_t1, dm_sw, List.headD, dm_ic, dm_mk, dm_s1, dm_s2, dm_clr, dm_cs, dm_cc, dm_nb0, dm_nb1, Value.category, List.lookup, p_X11_way, x_X11_way, k_X11_way, dm_cm, upd, vp_updL, dm_ui_1, dm_ui_2, dm_ul_1, dm_ul_2, sp_X11_tail, sp_X11_head, sp_X11_room, sM_0, sM_1, sM_2, sM_3, sM_4, sM_5, sM_6, sM_7, sM_8, sM_9, sM_10, sM_11, sM_12, sM_13, sM_14, sM_15, sM_16, sM_17, sM_18, sM_19, sM_20, sM_21, sM_22, sM_23, sM_24, sM_25, sM_26, sM_27, sM_28, sM_29]
        refine pass (sI V A.n) (fun u2 V2 via2 ch2 p2 p3 p4 p5 p6 b1 b2 b3 b4 b5 b6 => ?_) (2 * A.K) 0 (by omega) u' V via false _ _ _ _ a1 a2 a3 a4 (fun z => by cases z) (fun _ => ⟨Int.le_refl _, fun j hj => absurd hj (Nat.not_lt_zero _)⟩)
        cases ch2 with
        | true =>
          exfalso
          have q1 := b5 rfl
          have q2 : A.n * (-24000000) ≤ sI V2 A.n := by rw [← sI_const (a := -24000000)]; exact sI_le (dI_lo hn hf hU v0_0 b4.1)
          omega
        | false =>
          apply hG (fun pc => pc == 213) 80
          simp (config := { maxSteps := 2000000 }) [-Prod.forall, -Prod.exists, -exists_and_left, -exists_and_right, hW0, hW1, dm_fn, dm_fd, dm_x, dm_L0, dm_la, dm_t1, dm_sw, List.headD, dm_ic, dm_mk, dm_s1, dm_s2, dm_clr, dm_cs, dm_cc, dm_nb0, dm_nb1, Value.category, List.lookup, p_X11_way, x_X11_way, k_X11_way, dm_cm, upd, vp_updL, dm_ui_1, dm_ui_2, dm_ul_1, dm_ul_2, sp_X11_tail, sp_X11_head, sp_X11_room, sM_0, sM_1, sM_2, sM_3, sM_4, sM_5, sM_6, sM_7, sM_8, sM_9, sM_10, sM_11, sM_12, sM_13, sM_14, sM_15, sM_16, sM_17, sM_18, sM_19, sM_20, sM_21, sM_22, sM_23, sM_24, sM_25, sM_26, sM_27, sM_28, sM_29]
          exact last u2 V2 via2 b1 b2 b3 b4 (b6 rfl) A.n 0 (by omega) (-1) _ _ _ _ (Or.inl ⟨rfl, fun v hv => absurd hv (Nat.not_lt_zero _)⟩)
      | succ m ih =>
        intro u' V via o2 o3 o4 o5 o6 hm a1 a2 a3 a4
        apply hG (fun pc => pc == 57) 80
        simp (config := { maxSteps := 2000000 }) [-Prod.forall, -Prod.exists, -exists_and_left, -exists_and_right, hW0, hW1, dm_fn, dm_fd, dm_x, dm_L0, dm_la, dm_t1, dm_sw, List.headD, dm_ic, dm_mk, dm_s1, dm_s2, dm_clr, dm_cs, dm_cc, dm_nb0, dm_nb1, Value.category, List.lookup, p_X11_way, x_X11_way, k_X11_way, dm_cm, upd, vp_updL, dm_ui_1, dm_ui_2, dm_ul_1, dm_ul_2, sp_X11_tail, sp_X11_head, sp_X11_room, sM_0, sM_1, sM_2, sM_3, sM_4, sM_5, sM_6, sM_7, sM_8, sM_9, sM_10, sM_11, sM_12, sM_13, sM_14, sM_15, sM_16, sM_17, sM_18, sM_19, sM_20, sM_21, sM_22, sM_23, sM_24, sM_25, sM_26, sM_27, sM_28, sM_29]
        refine pass (sI V A.n) (fun u2 V2 via2 ch2 p2 p3 p4 p5 p6 b1 b2 b3 b4 b5 b6 => ?_) (2 * A.K) 0 (by omega) u' V via false _ _ _ _ a1 a2 a3 a4 (fun z => by cases z) (fun _ => ⟨Int.le_refl _, fun j hj => absurd hj (Nat.not_lt_zero _)⟩)
        cases ch2 with
        | true =>
          have q1 := b5 rfl
          exact ih u2 V2 via2 _ _ _ _ _ (by omega) b1 b2 b3 b4
        | false =>
          apply hG (fun pc => pc == 213) 80
          simp (config := { maxSteps := 2000000 }) [-Prod.forall, -Prod.exists, -exists_and_left, -exists_and_right, hW0, hW1, dm_fn, dm_fd, dm_x, dm_L0, dm_la, dm_t1, dm_sw, List.headD, dm_ic, dm_mk, dm_s1, dm_s2, dm_clr, dm_cs, dm_cc, dm_nb0, dm_nb1, Value.category, List.lookup, p_X11_way, x_X11_way, k_X11_way, dm_cm, upd, vp_updL, dm_ui_1, dm_ui_2, dm_ul_1, dm_ul_2, sp_X11_tail, sp_X11_head, sp_X11_room, sM_0, sM_1, sM_2, sM_3, sM_4, sM_5, sM_6, sM_7, sM_8, sM_9, sM_10, sM_11, sM_12, sM_13, sM_14, sM_15, sM_16, sM_17, sM_18, sM_19, sM_20, sM_21, sM_22, sM_23, sM_24, sM_25, sM_26, sM_27, sM_28, sM_29]
          exact last u2 V2 via2 b1 b2 b3 b4 (b6 rfl) A.n 0 (by omega) (-1) _ _ _ _ (Or.inl ⟨rfl, fun v hv => absurd hv (Nat.not_lt_zero _)⟩)
    have init : ∀ (k i : Nat), i + k = A.n → ∀ u' : dm_S, wy_fr u u' → (∀ v, v < i → u'.2 19 v = lI (v0 ex v) ∧ u'.1 20 v = -1) → G 2 [some (.ref 0), some (.int (nI i)), none, none, none, none, none, none] [] u' := by
      intro k
      induction k with
      | zero =>
        intro i hi u' a1 a2
        have e : i = A.n := by omega
        subst e
        apply hG (fun pc => pc == 2 || pc == 49) 80
        simp (config := { maxSteps := 2000000 }) [-Prod.forall, -Prod.exists, -exists_and_left, -exists_and_right, hW0, hW1, dm_fn, dm_fd, dm_x, dm_L0, dm_la, dm_t1, dm_sw, List.headD, dm_ic, dm_mk, dm_s1, dm_s2, dm_clr, dm_cs, dm_cc, dm_nb0, dm_nb1, Value.category, List.lookup, p_X11_way, x_X11_way, k_X11_way, dm_cm, upd, vp_updL, dm_ui_1, dm_ui_2, dm_ul_1, dm_ul_2, sp_X11_tail, sp_X11_head, sp_X11_room, sM_0, sM_1, sM_2, sM_3, sM_4, sM_5, sM_6, sM_7, sM_8, sM_9, sM_10, sM_11, sM_12, sM_13, sM_14, sM_15, sM_16, sM_17, sM_18, sM_19, sM_20, sM_21, sM_22, sM_23, sM_24, sM_25, sM_26, sM_27, sM_28, sM_29]
        rw [a1.1 0 (by decide), hC.1.1]
        refine ⟨fun _ => ?_, fun z => absurd z (nI_nlt (Nat.le_refl _) (by omega))⟩
        exact loop (sI (v0 ex) A.n - A.n * (-24000000)).toNat u' (v0 ex) (fun _ => none) _ _ _ _ _ (by omega) a1 (fun v hv => (a2 v hv).1) (fun v hv => (a2 v hv).2) wI_0
      | succ k ih =>
        intro i hi u' a1 a2
        have hin : i < A.n := by omega
        have ci : (nI i).toNatClampNeg = i := nI_clamp (by omega)
        have ii : vp_in (nI i) 26 := vp_in_nI (by omega) (by omega)
        have eo : u'.2 18 i = lI (ex i) := by rw [a1.2 18 (by decide)]; exact hO i hin
        have stp : ∀ z : Int64, z = lI (v0 ex i) → G 2 [some (.ref 0), some (.int (nI (i + 1))), none, none, none, none, none, none] [] (dm_ui (dm_ul u' 19 i z) 20 i (-1)) := fun z hz => by
          refine ih (i + 1) (by omega) _ (wy_frt a1 (wy_frt wy_19 wy_20)) (fun v hv => ?_)
          rw [dm_ui_2, dm_ul_2, if_pos rfl, dm_ui_1, if_pos rfl]
          unfold vp_updL upd
          by_cases y : v = i
          · rw [y]; simp [hz]
          · simp [y]; exact a2 v (by omega)
        apply hG (fun pc => pc == 2 || pc == 49) 80
        simp (config := { maxSteps := 2000000 }) [-Prod.forall, -Prod.exists, -exists_and_left, -exists_and_right, hW0, hW1, dm_fn, dm_fd, dm_x, dm_L0, dm_la, dm_t1, dm_sw, List.headD, dm_ic, dm_mk, dm_s1, dm_s2, dm_clr, dm_cs, dm_cc, dm_nb0, dm_nb1, Value.category, List.lookup, p_X11_way, x_X11_way, k_X11_way, dm_cm, upd, vp_updL, dm_ui_1, dm_ui_2, dm_ul_1, dm_ul_2, sp_X11_tail, sp_X11_head, sp_X11_room, sM_0, sM_1, sM_2, sM_3, sM_4, sM_5, sM_6, sM_7, sM_8, sM_9, sM_10, sM_11, sM_12, sM_13, sM_14, sM_15, sM_16, sM_17, sM_18, sM_19, sM_20, sM_21, sM_22, sM_23, sM_24, sM_25, sM_26, sM_27, sM_28, sM_29]
        rw [a1.1 0 (by decide), hC.1.1, ci, eo, nI_1, hFl, h0l]
        simp only [ii, true_and]
        refine ⟨fun z => absurd z (nI_ge (by omega) (by omega)), fun _ => ⟨fun z => stp _ ?_, fun z => stp _ ?_⟩⟩
        · rw [lI_le (hE i hin) h0b] at z
          unfold v0; rw [if_neg (by omega)]
        · rw [lI_lt h0b (hE i hin)] at z
          unfold v0; rw [if_pos z]
    apply hG (fun pc => pc == 2) 80
    simp (config := { maxSteps := 2000000 }) [-Prod.forall, -Prod.exists, -exists_and_left, -exists_and_right, hW0, hW1, dm_fn, dm_fd, dm_x, dm_L0, dm_la, dm_t1, dm_sw, List.headD, dm_ic, dm_mk, dm_s1, dm_s2, dm_clr, dm_cs, dm_cc, dm_nb0, dm_nb1, Value.category, List.lookup, p_X11_way, x_X11_way, k_X11_way, dm_cm, upd, vp_updL, dm_ui_1, dm_ui_2, dm_ul_1, dm_ul_2, sp_X11_tail, sp_X11_head, sp_X11_room, sM_0, sM_1, sM_2, sM_3, sM_4, sM_5, sM_6, sM_7, sM_8, sM_9, sM_10, sM_11, sM_12, sM_13, sM_14, sM_15, sM_16, sM_17, sM_18, sM_19, sM_20, sM_21, sM_22, sM_23, sM_24, sM_25, sM_26, sM_27, sM_28, sM_29]
    exact init A.n 0 (by omega) u (wy_fr0 u) (fun v hv => absurd hv (Nat.not_lt_zero _))
  · exact h.elim
set_option maxRecDepth 100000 in
theorem t_X11_way (l : Launch) (D : va_G) (cA : Nat → ClassId) (ad : Nat → Nat) : dm_Met l D dm_cl cA ad shM yX11_way (Cond.code yX11_way cX11_way 8 (dm_rt 1) :: dm_tt) ({ frames := 1, cells := 0, slots := 0, locals := 22 } : Room) sp_X11_way := dm_meth (own := RX11) (X := x_X11_way) (Sp := k_X11_way) (prog := p_X11_way) (by decide +kernel) rfl rfl (dm_FO_s ffX11 [(56, 11, 22), (62, 11, 24), (65, 11, 25), (68, 11, 26), (109, 11, 0), (139, 11, 17)] rfl dm_hT (by decide +kernel)) (dm_IO_s ifX11 jfX11 [] [(152, 1152921504606846976)] rfl rfl dm_hT (by decide +kernel) (by decide +kernel)) soM (dm_MO_of (List.forall_mem_cons.mpr ⟨dm_M1_of (t_X11_tail l D cA ad) dm_hT (dm_mem [1129, 77, 1126] (by decide +kernel) (by decide +kernel)) (by decide) (by decide +kernel) (Or.inr ⟨by decide, dm_mem [1128, 47] (by decide +kernel) (by decide +kernel), rfl⟩), List.forall_mem_cons.mpr ⟨dm_M1_of (t_X11_head l D cA ad) dm_hT (dm_mem [1133, 77, 1130] (by decide +kernel) (by decide +kernel)) (by decide) (by decide +kernel) (Or.inr ⟨by decide, dm_mem [1132, 48] (by decide +kernel) (by decide +kernel), rfl⟩), List.forall_mem_cons.mpr ⟨dm_M1_of (t_X11_room l D cA ad) dm_hT (dm_mem [1137, 77, 1134] (by decide +kernel) (by decide +kernel)) (by decide) (by decide +kernel) (Or.inr ⟨by decide, dm_mem [1136, 49] (by decide +kernel) (by decide +kernel), rfl⟩), fun _ h => absurd h List.not_mem_nil⟩⟩⟩)) v_X11_way u_X11_way
