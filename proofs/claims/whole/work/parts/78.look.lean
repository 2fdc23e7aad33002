/-! ===== CostFlow.lookFor: the pieces ===== -/
def lb_fr (u u' : dm_S) : Prop := (∀ c, c ∉ [3, 4, 28, 29, 30, 32, 33, 35, 39, 40, 43, 44, 45] → u'.1 c = u.1 c) ∧ ∀ c, c ∉ [24, 25, 31, 34, 36, 38, 41, 42] → u'.2 c = u.2 c
theorem lb_frt {u u' u'' : dm_S} (h : lb_fr u u') (h2 : lb_fr u' u'') : lb_fr u u'' := ⟨fun c a => (h2.1 c a).trans (h.1 c a), fun c a => (h2.2 c a).trans (h.2 c a)⟩
theorem lb_ff {u u' : dm_S} (h : ff_fr u u') : lb_fr u u' := ⟨fun c hc => h.1 c (by intro z; apply hc; revert z; simp; omega), fun c hc => h.2.2 c (by intro z; apply hc; revert z; simp; omega)⟩
theorem lb_sa {u u' : dm_S} (h : sa_fr u u') : lb_fr u u' := ⟨fun c hc => h.1 c (by intro z; apply hc; revert z; simp; omega), fun c hc => h.2 c (by intro z; apply hc; revert z; simp; omega)⟩
theorem lb_ca {u u' : dm_S} (h : ca_fr u u') : lb_fr u u' := ⟨fun c hc => h.1 c (by intro z; apply hc; revert z; simp; omega), fun c hc => h.2 c (by intro z; apply hc; revert z; simp; omega)⟩
theorem lb_36 {u : dm_S} {f : Nat → Int64} : lb_fr u (dm_sj u 36 f) := lb_sa sa_sj
theorem lb_nt {u u' : dm_S} (h : lb_fr u u') : nt_fr u u' := by
  refine ⟨fun c hc => h.1 c ?_, fun c hc => h.2 c ?_⟩
  · intro z; revert hc z; revert c; decide
  · intro z; revert hc z; revert c; decide
theorem LN_lb {u u' : dm_S} {A : AN} (h : LN u A) (hf : lb_fr u u') : LN u' A := LN_fr h (fun c hc => hf.1 c (by intro z; revert hc z; revert c; decide)) (fun c hc => hf.2 c (by intro z; revert hc z; revert c; decide))
theorem so_lb {u u' : dm_S} {n K : Nat} {b e hd sr : Nat → Nat} (h : so_ok u n K b e hd sr) (hf : lb_fr u u') : so_ok u' n K b e hd sr := so_eq h (hf.1 26 (by decide)) (hf.1 27 (by decide))
theorem WG_wg {s : dm_S} {A : AN} {mm lo : Nat → Int} {C : Nat} {nb : Nat → Nat} (hA : A.ok) (h : WG s A mm lo C nb) : wg_ok s C nb (fun j => wb A.b A.e (nb j)) (fun j => we A.b A.e (nb j)) := by
  obtain ⟨⟨h1, h2⟩, h3, h4⟩ := h
  refine ⟨h1, h3, fun j hj => ?_⟩
  obtain ⟨g1, g2, g3, g4, g5⟩ := h2 j hj
  have hK := A.K_le hA
  have hn := hA.1.1
  have hw := g1.1
  obtain ⟨n1, n2⟩ := A.wn hA hw
  exact ⟨⟨g2, by omega⟩, ⟨g3, Nat.lt_of_lt_of_le n1 hn⟩, ⟨g4, Nat.lt_of_lt_of_le n2 hn⟩⟩
/-- the prices stay the prices when the flow changes to another of least cost -/
theorem AN.prc_move {A : AN} (hA : A.ok) {mm lo lo2 p : Nat → Int} (h : A.prc mm lo p) (h1 : A.opt mm p lo) (h2 : A.opt mm p lo2) : A.prc mm lo2 p := by
  refine ⟨h.1, h2.2.2, fun q hq hqp => h.2.2 q hq ?_⟩
  have c1 := pf_opt (AN.nd hA) h1.2.2 h1.2.1 h2.2.1 h2.1
  exact pf_all (AN.nd hA) hqp h2.2.1 h1.2.1 h1.1 c1
/-- what has to hold before the WAYS are gathered and the prices measured -/
def tl_ok (u : dm_S) (A : AN) (mm lo ex : Nat → Int) (hd sr : Nat → Nat) : Prop := CR u A ∧ LN u A ∧ so_ok u A.n A.K A.b A.e hd sr ∧ (u.2 22 = lF mm ∧ ∀ l, l < A.K → mm l = A.w 1000000000 l) ∧ u.2 24 = lF lo ∧ u.2 25 = lF ex ∧ (∀ v, v < A.n → ex v = 0) ∧ ∃ p0, A.opt mm p0 lo
theorem inv_c {n K : Nat} {b e : Nat → Nat} {c c' mm lo p : Nat → Int} {dl : Int} (hc : ∀ l, l < K → c' l = c l) (h : inv K b e c mm lo p dl) : inv K b e c' mm lo p dl := by
  intro w hw hm
  have h1 := h w hw hm
  unfold rcw wr at h1 ⊢
  rw [hc (w / 2) (by omega)]; exact h1
theorem AN.opt_inv {A : AN} {mm lo p c : Nat → Int} (hc : ∀ l, l < A.K → A.c l = c l) (hl : fits A.K mm lo) (hb : bal A.n A.K A.b A.e A.s lo) (h : inv A.K A.b A.e c mm lo p 1) : A.opt mm p lo := by
  refine A.opt_of hl hb (fun w hw hm => ?_)
  have := inv_c (n := A.n) hc h w hw (by omega)
  unfold rcw at this
  unfold wS
  omega
/-- prices along ENDLESS arcs, nothing on the lanes: only what ends falls -/
theorem AN.nor_inv {A : AN} (hA : A.ok) {mm lo p c : Nat → Int} (hm : ∀ l, l < A.K → mm l = A.w 1000000000 l) (hl0 : ∀ l, l < A.K → lo l = 0) (hc : ∀ l, l < A.K → c l = A.c l) (hp : A.nor p) : inv A.K A.b A.e c mm lo p 1000001 := by
  intro w hw hr
  have hl : w / 2 < A.K := by omega
  unfold wm at hr
  by_cases z : w % 2 = 0
  · rw [if_pos z, hm _ hl, hl0 _ hl] at hr
    have h1 := (A.w_bd hA (B := 1000000000) (by omega) hl).2.2
    have h2 : A.ln (w / 2) = true := by
      cases q : A.ln (w / 2)
      · have := h1 q; omega
      · rfl
    unfold AN.ln at h2
    simp only [Bool.and_eq_true, decide_eq_true_eq] at h2
    obtain ⟨g1, k, g2, g3, g4⟩ := A.l_in hl
    have g5 : cn_fs A.pt (A.ar (w / 2) + 1) = cn_fs A.pt (A.ar (w / 2)) + A.pt (A.ar (w / 2)) := rfl
    have h3 := hp _ g1 h2.1
    have h4 : A.c (w / 2) = A.lr (A.ar (w / 2)) := by
      unfold AN.c AN.lr
      rw [g4, show k = A.pt (A.ar (w / 2)) - 1 by omega]
    unfold rcw wr wb we AN.b AN.e
    rw [if_pos z, if_pos z, if_pos z, hc _ hl, h4]
    omega
  · rw [if_neg z, hl0 _ hl] at hr
    omega
theorem inv_up {K : Nat} {b e : Nat → Nat} {c mm lo p : Nat → Int} {d d' : Int} (h : inv K b e c mm lo p d) (hd : d ≤ d') : inv K b e c mm lo p d' := fun w hw hm => h w hw (by omega)
theorem dm_sum_I {f : Nat → Int64} {g : Nat → Int} : ∀ {n : Nat}, (∀ v, v < n → f v = lI (g v)) → dm_sum f n = lI (sI g n)
  | 0, _ => rfl
  | n + 1, h => by
    show dm_sum f n + f n = lI (sI g n + g n)
    rw [dm_sum_I (fun v hv => h v (by omega)), h n (by omega), lI_add]
def lk_fr (u u' : dm_S) : Prop := (∀ c, c ∉ [4, 8, 32, 33, 35, 46] → u'.1 c = u.1 c) ∧ ∀ c, c ∉ [24, 25, 34, 36, 47] → u'.2 c = u.2 c
def sp_X10_lookFor (As : List Value) (u : dm_S) (Q : Option Value → dm_S → Prop) : Prop := match As with
  | [.ref 0, .int x] => ∃ (A : AN) (mm : Nat → Int) (hd sr : Nat → Nat) (way : Nat), A.ok ∧ CR u A ∧ LN u A ∧ so_ok u A.n A.K A.b A.e hd sr ∧ (u.2 22 = lF mm ∧ ∀ l, l < A.K → mm l = A.w 1000000000 l) ∧ x = nI way ∧ way ≤ 2 ∧
    (sI A.su A.n ≠ 0 → Q (some (.int 2)) (dm_co u (fun _ => true) A.n)) ∧
    (sI A.su A.n = 0 → ∀ (u1 : dm_S) (lo : Nat → Int) (S : Nat → Bool), ff_fr u u1 → fits A.K mm lo → stk A.n A.K A.b A.e A.ln mm A.s lo S → (∃ v, v < A.n ∧ A.s v - dv A.K A.b A.e lo v ≠ 0) → (∀ v, v < A.n → (u1.1 33 v = -2 ↔ S v = false)) → Q (some (.int 2)) (dm_co u1 (fun j => !decide (u1.1 33 j = -2)) A.n)) ∧
    (sI A.su A.n = 0 → ∀ lo, fits A.K mm lo → bal A.n A.K A.b A.e A.s lo → (∀ U, ¬ A.nor U) → ∃ f rq, rqok A f rq ∧ ∀ u' : dm_S, lk_fr u u' → u'.1 8 3 = nI f → (∀ i, i < f → u'.1 46 i = nI (rq i)) → Q (some (.int 1)) u') ∧
    (sI A.su A.n = 0 → ∀ lo0, fits A.K mm lo0 → bal A.n A.K A.b A.e A.s lo0 → ∀ U, A.nor U → ∀ (u' : dm_S) (lo p : Nat → Int) (C : Nat) (nb : Nat → Nat), lb_fr u u' → u'.2 24 = lF lo → u'.2 36 = lF p → A.opt mm p lo → A.lex mm p lo A.M → A.prc mm lo p → WG u' A mm lo C nb → Q (some (.int 0)) u')
  | _ => False
def p_X10_lookFor : List dm_I := [(0, .aload_n 0, 1, [0]), (1, .getfield 12, 3, []), (4, .invokevirtual 222, 3, []), (7, .lconst 0, 1, []), (8, .lcmp, 1, []), (9, .ifCond .eq 12, 3, [21]), (12, .aload_n 0, 1, [0]), (13, .getfield 80, 3, []), (16, .invokevirtual 225, 3, []), (19, .iconst 2, 1, []), (20, .ireturn, 1, []), (21, .aload_n 0, 1, [0]), (22, .getfield 37, 3, []), (25, .invokevirtual 228, 3, []), (28, .ifCond .ne 19, 3, [47]), (31, .aload_n 0, 1, [0]), (32, .getfield 80, 3, []), (35, .aload_n 0, 1, [0]), (36, .getfield 37, 3, []), (39, .getfield 231, 3, []), (42, .invokevirtual 234, 3, []), (45, .iconst 2, 1, []), (46, .ireturn, 1, []), (47, .aload_n 0, 1, [0]), (48, .getfield 46, 3, []), (51, .invokevirtual 238, 3, []), (54, .ifCond .ne 12, 3, [66]), (57, .aload_n 0, 1, [0]), (58, .getfield 73, 3, []), (61, .invokevirtual 241, 3, []), (64, .iconst 1, 1, []), (65, .ireturn, 1, []), (66, .iload_n 1, 1, [1]), (67, .iconst 1, 1, []), (68, .if_icmp .ne 13, 3, [81]), (71, .aload_n 0, 1, [0]), (72, .getfield 66, 3, []), (75, .invokevirtual 244, 3, []), (78, .goto 32, 3, [110]), (81, .aload_n 0, 1, [0]), (82, .getfield 21, 3, []), (85, .invokevirtual 247, 3, []), (88, .iload_n 1, 1, [1]), (89, .iconst 2, 1, []), (90, .if_icmp .eq 13, 3, [103]), (93, .aload_n 0, 1, [0]), (94, .getfield 59, 3, []), (97, .invokevirtual 250, 3, []), (100, .ifCond .ne 10, 3, [110]), (103, .aload_n 0, 1, [0]), (104, .getfield 59, 3, []), (107, .invokevirtual 253, 3, []), (110, .aload_n 0, 1, [0]), (111, .getfield 30, 3, []), (114, .invokevirtual 256, 3, []), (117, .aload_n 0, 1, [0]), (118, .getfield 46, 3, []), (121, .invokevirtual 259, 3, []), (124, .aload_n 0, 1, [0]), (125, .getfield 37, 3, []), (128, .aload_n 0, 1, [0]), (129, .getfield 46, 3, []), (132, .getfield 52, 3, []), (135, .invokevirtual 262, 3, []), (138, .aload_n 0, 1, [0]), (139, .getfield 30, 3, []), (142, .invokevirtual 256, 3, []), (145, .iconst 0, 1, []), (146, .ireturn, 1, [])]
set_option maxRecDepth 100000 in
theorem v_X10_lookFor : p_X10_lookFor.all (dm_vb cX10_lookFor) = true := by decide +kernel
def k_X10_lookFor : dm_Sp := fun a => match a with
  | 0 => sp_X2_sumOfSupplies
  | 1 => sp_X8_takeAll
  | 2 => sp_X7_findFlow
  | 3 => sp_X8_takeSeen
  | 4 => sp_X5_settleEndless
  | 5 => sp_X0_seek
  | 6 => sp_X6_cancelAll
  | 7 => sp_X1_unload
  | 8 => sp_X4_sendOneByOne
  | 9 => sp_X4_sendGreatFirst
  | 10 => sp_X9_gather
  | 11 => sp_X5_measure
  | 12 => sp_X7_lessen
  | _ => fun _ _ _ => False
def x_X10_lookFor : dm_X := dm_mk [(12, 10, 0), (21, 10, 1), (30, 10, 2), (37, 10, 3), (46, 10, 4), (52, 5, 3), (59, 10, 5), (66, 10, 6), (73, 10, 7), (80, 10, 8), (231, 7, 3)] [] [] [(222, 0, 0, 2), (225, 1, 0, 8), (228, 2, 0, 7), (234, 3, 1, 8), (238, 4, 0, 5), (241, 5, 0, 0), (244, 6, 0, 6), (247, 7, 0, 1), (250, 8, 0, 4), (253, 9, 0, 4), (256, 10, 0, 9), (259, 11, 0, 5), (262, 12, 1, 7)] 1
set_option maxRecDepth 100000 in
set_option maxHeartbeats 1600000 in
theorem u_X10_lookFor : dm_Pure shC x_X10_lookFor k_X10_lookFor p_X10_lookFor 2 sp_X10_lookFor := by
  intro As u Qp hh
  unfold sp_X10_lookFor at hh
  split at hh
  · obtain ⟨A, mm, hd, sr, way, hA, hC, hL, hS, ⟨e22, hm⟩, rfl, hway, q1, q2, q3, q4⟩ := hh
    obtain ⟨hn, hM⟩ := hA.1
    have hK := A.K_le hA
    have hwb := fun l hl => A.w_bd hA (B := 1000000000) (l := l) (by omega) hl
    have hmm : ∀ l, l < A.K → 0 ≤ mm l ∧ mm l ≤ 1000000000 := fun l hl => by rw [hm l hl]; have := hwb l hl; omega
    refine ⟨Nat.le_of_ble_eq_true rfl, fun G Wp hW0 hW1 hG => ?_⟩
    have tail : ∀ (u' : dm_S) (lo ex : Nat → Int), lb_fr u u' → tl_ok u' A mm lo ex hd sr → (∀ (u' : dm_S) (lo p : Nat → Int) (C : Nat) (nb : Nat → Nat), lb_fr u u' → u'.2 24 = lF lo → u'.2 36 = lF p → A.opt mm p lo → A.lex mm p lo A.M → A.prc mm lo p → WG u' A mm lo C nb → Qp (some (.int 0)) u') → G 110 [some (.ref 0), some (.int (nI way))] [] u' := by
      intro u' lo ex a1 ht hQ
      obtain ⟨t1, t2, t3, ⟨t4, -⟩, t5, t6, t7, p0, t8⟩ := ht
      obtain ⟨C, nb, hg⟩ := WG_all hA (LN_c t2) t4 t5 t8.1 (fun l hl => by have := hmm l hl; omega)
      have f1 : lb_fr u' (wy_ga u' A.pt A.M) := lb_ca ca_ga
      obtain ⟨p, hp1, hp2⟩ := ms_prc hA hg t8.1 t8.2.2
      have hop : A.opt mm p lo := ⟨t8.1, t8.2.1, hp2.2.1⟩
      have f2 := lb_frt f1 (lb_36 (f := lF p))
      have f12 := lb_frt a1 f2
      have k24 : (dm_sj (wy_ga u' A.pt A.M) 36 (lF p)).2 24 = lF lo := by
        rw [dm_sj_2, if_neg (by decide), (wy_ga_k (u := u') (pt := A.pt) A.M).2.2 24 (by decide)]; exact t5
      have k25 : (dm_sj (wy_ga u' A.pt A.M) 36 (lF p)).2 25 = lF ex := by
        rw [dm_sj_2, if_neg (by decide), (wy_ga_k (u := u') (pt := A.pt) A.M).2.2 25 (by decide)]; exact t6
      apply hG (fun pc => pc == 110) 60
      simp (config := { maxSteps := 2000000 }) [-Prod.forall, -Prod.exists, -exists_and_left, -exists_and_right, hW0, hW1, dm_fn, dm_fd, dm_x, dm_L0, dm_la, dm_t1, dm_sw, List.headD, dm_ic, dm_mk, dm_s1, dm_s2, dm_clr, dm_cs, dm_cc, dm_nb0, dm_nb1, Value.category, List.lookup, p_X10_lookFor, x_X10_lookFor, k_X10_lookFor, dm_cm, upd, vp_updL, dm_ui_1, dm_ui_2, dm_ul_1, dm_ul_2, sp_X2_sumOfSupplies, sp_X8_takeAll, sp_X7_findFlow, sp_X8_takeSeen, sp_X5_settleEndless, sp_X0_seek, sp_X6_cancelAll, sp_X1_unload, sp_X4_sendOneByOne, sp_X4_sendGreatFirst, sp_X9_gather, sp_X5_measure, sp_X7_lessen, sC_0, sC_1, sC_2, sC_3, sC_4, sC_5, sC_6, sC_7, sC_8, sC_9, sC_10, sC_11, sC_12, sC_13, sC_14, sC_15, sC_16, sC_17, sC_18, sC_19, sC_20, sC_21, sC_22, sC_23, sC_24, sC_25, sC_26, sC_27, sC_28, sC_29, sC_30, sC_31, sC_32, sC_33, sC_34, sC_35, sC_36, sC_37, sC_38, sC_39, sC_40, sC_41, sC_42, sC_43, sC_44, sC_45, sC_46, sC_47, sC_48, sC_49, sC_50, sC_51]
      refine ⟨A.n, A.M, A.fr, A.tr, A.pt, CR_cn t1 hA, t2.1, A.n, C, nb, fun j => wb A.b A.e (nb j), fun j => we A.b A.e (nb j), ⟨hn, by rw [f1.1 1 (by decide)]; exact t1.1.1⟩, WG_wg hA hg, ?_⟩
      rw [hp1]
      refine ⟨A, mm, p, lo, ex, hd, sr, hA, CR_fr t1 (lb_nt f2), LN_lb t2 f2, so_lb t3 f2, ⟨(f2.2 22 (by decide)).trans t4, hm⟩, rfl, fun v hv => by have := hp2.1 v hv; omega, k24, k25, hop, t7, fun u3 lo3 g1 g2 g3 g4 => ?_⟩
      have f3 := lb_frt f12 (lb_ff g1)
      have f23 := lb_frt f2 (lb_ff g1)
      have hL3 := LN_lb t2 f23
      obtain ⟨C3, nb3, hg3⟩ := WG_all hA (LN_c hL3) ((f23.2 22 (by decide)).trans t4) g2 g3.1 (fun l hl => by have := hmm l hl; omega)
      refine ⟨A.n, A.M, A.fr, A.tr, A.pt, CR_cn (CR_fr t1 (lb_nt f23)) hA, hL3.1, ?_⟩
      refine hQ _ lo3 p C3 nb3 (lb_frt f3 (lb_ca ca_ga)) ?_ ?_ g3 g4 (A.prc_move hA hp2 hop g3) hg3
      · rw [(wy_ga_k (u := u3) (pt := A.pt) A.M).2.2 24 (by decide)]; exact g2
      · rw [(wy_ga_k (u := u3) (pt := A.pt) A.M).2.2 36 (by decide), g1.2.2 36 (by decide)]; rfl
    have hcx : ∃ c : Nat → Int, u.2 23 = lF c ∧ ∀ l, l < A.K → c l = A.c l := by
      refine ⟨fun l => (u.2 23 l).toInt, (lF_to _).symm, fun l hl => ?_⟩
      have := A.c_bd hA hl
      show (u.2 23 l).toInt = _
      rw [(hL.2.2 l hl).2, lI_ti (by omega)]
    obtain ⟨c, e23, hc⟩ := hcx
    have hcb : ∀ l, l < A.K → -1000000 ≤ c l ∧ c l ≤ 1000000 := fun l hl => by rw [hc l hl]; exact A.c_bd hA hl
    have mid : sI A.su A.n = 0 → ∀ (u' : dm_S) (lo0 ex0 p : Nat → Int), lb_fr u u' → u'.2 24 = lF lo0 → u'.2 25 = lF ex0 → (∀ v, v < A.n → ex0 v = 0) → u'.2 36 = lF p → fits A.K mm lo0 → bal A.n A.K A.b A.e A.s lo0 → A.nor p → (∀ v, v < A.n → -24000000 ≤ p v ∧ p v ≤ 0) → G 66 [some (.ref 0), some (.int (nI way))] [] u' := by
      intro hs0 u' lo0 ex0 p a1 a2 a3 a4 a5 a6 a7 a8 a9
      have hQ := q4 hs0 lo0 a6 a7 p a8
      have hC' := CR_fr hC (lb_nt a1)
      have hL' := LN_lb hL a1
      have e22' : u'.2 22 = lF mm := (a1.2 22 (by decide)).trans e22
      obtain ⟨lz, ez, eU, hl0, he0⟩ := ul_I hA hC'
      have hcg : gq_ok (st_x u' lz ez) A.n A.K A.b A.e c mm lz ez p lo0 hd sr := by
        refine ⟨⟨hL'.2.1, (st_xo (by decide) (by decide)).trans e22', st_x24, st_x25⟩, fun l hl => ?_, fun l hl => (hmm l hl).2, so_lb (so_lb hS a1) (lb_sa sa_x), (st_xo (by decide) (by decide)).trans ((a1.2 23 (by decide)).trans e23), hcb, (st_xo (by decide) (by decide)).trans a5, a6, fun v hv => ?_⟩
        · rw [hl0 l (by omega)]; have := hmm l hl; omega
        · rw [a7 v hv, he0 v hv]
          have g2 : dv A.K A.b A.e lz v = 0 := by
            have : dv A.K A.b A.e lz v = dv A.K A.b A.e (fun _ => 0) v := dv_cg (fun l hl => hl0 l (by omega))
            rw [this]
            exact sI_0 (fun l _ => by split <;> split <;> rfl)
          omega
      have hpe := A.pe_s hA he0
      have hiv := AN.nor_inv hA (lo := lz) hm (fun l hl => hl0 l (by omega)) hc a8
      have fin : ∀ (u2 : dm_S) (lo2 ex2 p2 : Nat → Int), sa_fr (st_x u' lz ez) u2 → gq_ok u2 A.n A.K A.b A.e c mm lo2 ex2 p2 lo0 hd sr → inv A.K A.b A.e c mm lo2 p2 1 → (∀ v, v < A.n → ex2 v = 0) → G 110 [some (.ref 0), some (.int (nI way))] [] u2 := by
        intro u2 lo2 ex2 p2 b1 b2 b3 b4
        have fb := lb_frt a1 (lb_frt (lb_sa sa_x) (lb_sa b1))
        refine tail u2 lo2 ex2 fb ⟨CR_fr hC (lb_nt fb), LN_lb hL fb, so_lb hS fb, ⟨(fb.2 22 (by decide)).trans e22, hm⟩, b2.1.2.2.1, b2.1.2.2.2, b4, p2, ?_⟩ hQ
        refine A.opt_inv (c := c) (fun l hl => (hc l hl).symm) b2.2.1 (fun v hv => ?_) b3
        have := b2.2.2.2.2.2.2.2.2 v hv
        rw [a7 v hv, b4 v hv] at this
        omega
      have grt : ∀ (u2 : dm_S) (lo2 ex2 p2 : Nat → Int), sa_fr (st_x u' lz ez) u2 → gq_ok u2 A.n A.K A.b A.e c mm lo2 ex2 p2 lo0 hd sr → inv A.K A.b A.e c mm lo2 p2 134217728 → pe A.n ex2 ≤ 424000320 → (∀ v, v < A.n → -24000000 ≤ p2 v ∧ p2 v ≤ 48000000) → sp_X4_sendGreatFirst [.ref 6] u2 (fun _ u3 => G 110 [some (.ref 0), some (.int (nI way))] [] u3) := by
        intro u2 lo2 ex2 p2 b1 b2 b3 b4 b5
        exact ⟨A.n, A.K, A.b, A.e, c, mm, lo2, ex2, p2, lo0, hd, sr, b2, b4, b5, b3, fun u3 lo3 ex3 p3 c1 c2 c3 c4 c5 => fin u3 lo3 ex3 p3 (sa_frt b1 c1) c2 c3 c4⟩
      apply hG (fun pc => pc == 110) 40
      simp (config := { maxSteps := 2000000 }) [-Prod.forall, -Prod.exists, -exists_and_left, -exists_and_right, hW0, hW1, dm_fn, dm_fd, dm_x, dm_L0, dm_la, dm_t1, dm_sw, List.headD, dm_ic, dm_mk, dm_s1, dm_s2, dm_clr, dm_cs, dm_cc, dm_nb0, dm_nb1, Value.category, List.lookup, p_X10_lookFor, x_X10_lookFor, k_X10_lookFor, dm_cm, upd, vp_updL, dm_ui_1, dm_ui_2, dm_ul_1, dm_ul_2, sp_X2_sumOfSupplies, sp_X8_takeAll, sp_X7_findFlow, sp_X8_takeSeen, sp_X5_settleEndless, sp_X0_seek, sp_X6_cancelAll, sp_X1_unload, sp_X4_sendOneByOne, sp_X4_sendGreatFirst, sp_X9_gather, sp_X5_measure, sp_X7_lessen, sC_0, sC_1, sC_2, sC_3, sC_4, sC_5, sC_6, sC_7, sC_8, sC_9, sC_10, sC_11, sC_12, sC_13, sC_14, sC_15, sC_16, sC_17, sC_18, sC_19, sC_20, sC_21, sC_22, sC_23, sC_24, sC_25, sC_26, sC_27, sC_28, sC_29, sC_30, sC_31, sC_32, sC_33, sC_34, sC_35, sC_36, sC_37, sC_38, sC_39, sC_40, sC_41, sC_42, sC_43, sC_44, sC_45, sC_46, sC_47, sC_48, sC_49, sC_50, sC_51]
      refine ⟨fun _ => ⟨A.n, A.M, A.fr, A.tr, A.pt, CR_cn hC' hA, hL'.1, ?_⟩, fun _ => ⟨A, mm, lo0, ex0, hA, hC', hL', ⟨e22', hm⟩, a2, a3, a6, a7, a4, fun u2 lo2 p2 c1 c2 c3 c4 => ?_⟩⟩
      · rw [eU]
        refine ⟨fun _ => grt _ lz ez p (sa_fr0 _) hcg (inv_up hiv (by omega)) (by omega) (fun v hv => by have := a9 v hv; omega), fun _ => ⟨A.n, A.K, A.b, A.e, c, mm, lz, ez, p, lo0, hd, sr, hcg, hpe, a9, hiv, fun u2 lo2 ex2 p2 c1 c2 c3 c4 c5 => fin u2 lo2 ex2 p2 c1 c2 c3 c4, fun u2 lo2 ex2 p2 c1 c2 c3 c4 c5 => grt u2 lo2 ex2 p2 c1 c2 (inv_up c3 (by omega)) c4 c5⟩⟩
      · have fb := lb_frt a1 (lb_ca c1)
        exact tail u2 lo2 ex0 fb ⟨CR_fr hC (lb_nt fb), LN_lb hL fb, so_lb hS fb, ⟨(fb.2 22 (by decide)).trans e22, hm⟩, c2, c3, a4, p2, c4⟩ hQ
    have s47 : sI A.su A.n = 0 → ∀ (u' : dm_S) (lo : Nat → Int), ff_fr u u' → u'.2 24 = lF lo → fits A.K (A.w 1000000000) lo → bal A.n A.K A.b A.e A.s lo → (∀ v, v < A.n → u'.2 25 v = 0) → G 47 [some (.ref 0), some (.int (nI way))] [] u' := by
      intro hs0 u' lo a1 a2 a3 a4 a5
      have hC' := CR_fr hC (ff_nt a1)
      have hfm : fits A.K mm lo := fun l hl => by rw [hm l hl]; exact a3 l hl
      obtain ⟨p, hp1, hp2, hp3⟩ := st_nor hA hC'
      have hx25 : ∃ ex0 : Nat → Int, u'.2 25 = lF ex0 ∧ ∀ v, v < A.n → ex0 v = 0 := ⟨fun v => (u'.2 25 v).toInt, (lF_to _).symm, fun v hv => by show (u'.2 25 v).toInt = 0; rw [a5 v hv]; rfl⟩
      obtain ⟨ex0, hx1, hx2⟩ := hx25
      apply hG (fun pc => pc == 66) 40
      simp (config := { maxSteps := 2000000 }) [-Prod.forall, -Prod.exists, -exists_and_left, -exists_and_right, hW0, hW1, dm_fn, dm_fd, dm_x, dm_L0, dm_la, dm_t1, dm_sw, List.headD, dm_ic, dm_mk, dm_s1, dm_s2, dm_clr, dm_cs, dm_cc, dm_nb0, dm_nb1, Value.category, List.lookup, p_X10_lookFor, x_X10_lookFor, k_X10_lookFor, dm_cm, upd, vp_updL, dm_ui_1, dm_ui_2, dm_ul_1, dm_ul_2, sp_X2_sumOfSupplies, sp_X8_takeAll, sp_X7_findFlow, sp_X8_takeSeen, sp_X5_settleEndless, sp_X0_seek, sp_X6_cancelAll, sp_X1_unload, sp_X4_sendOneByOne, sp_X4_sendGreatFirst, sp_X9_gather, sp_X5_measure, sp_X7_lessen, sC_0, sC_1, sC_2, sC_3, sC_4, sC_5, sC_6, sC_7, sC_8, sC_9, sC_10, sC_11, sC_12, sC_13, sC_14, sC_15, sC_16, sC_17, sC_18, sC_19, sC_20, sC_21, sC_22, sC_23, sC_24, sC_25, sC_26, sC_27, sC_28, sC_29, sC_30, sC_31, sC_32, sC_33, sC_34, sC_35, sC_36, sC_37, sC_38, sC_39, sC_40, sC_41, sC_42, sC_43, sC_44, sC_45, sC_46, sC_47, sC_48, sC_49, sC_50, sC_51]
      refine ⟨A.n, A.M, A.fr, A.tr, A.pt, CR_cn hC' hA, ?_⟩
      rw [hp1]
      refine ⟨fun z => ?_, fun z => ?_⟩
      · obtain ⟨n1, n2⟩ := hp2 z
        exact mid hs0 _ lo ex0 p (lb_frt (lb_ff a1) lb_36) a2 hx1 hx2 rfl hfm a4 n1 n2
      · have hno : ∀ U, ¬ A.nor U := fun U hU => by
          have := hp3.mpr ⟨U, hU⟩
          rw [z] at this; cases this
        obtain ⟨f, rq, r1, r2⟩ := q3 hs0 lo hfm a4 hno
        have fb : lb_fr u (dm_sj u' 36 (lF p)) := lb_frt (lb_ff a1) lb_36
        refine ⟨A, f, rq, hA, CR_fr hC (lb_nt fb), r1, fun u2 c1 c2 c3 => r2 u2 ⟨fun k hk => ?_, fun k hk => ?_⟩ c2 c3⟩
        · simp at hk
          rw [c1.1 k (by omega) (by omega)]
          exact a1.1 k (by simp; omega)
        · simp at hk
          rw [c1.2.2 k (by omega), dm_sj_2, if_neg (by omega)]
          exact a1.2.2 k (by simp; omega)
    have hsb : -24000000 ≤ sI A.su A.n ∧ sI A.su A.n ≤ 24000000 := by
      have g1 := sI_bd (f := A.su) (n := A.n) (a := 1000000) (fun v hv => (hA.2.2 v hv).2)
      have g2 : sI (fun v => (-1) * A.su v) A.n ≤ A.n * 1000000 := sI_bd (fun v hv => by have := (hA.2.2 v hv).1; show (-1) * A.su v ≤ 1000000; omega)
      rw [sI_mul] at g2
      omega
    have hds : dm_sum (u.2 11) A.n = lI (sI A.su A.n) := dm_sum_I hC.2.1
    have hd0 : dm_sum (u.2 11) A.n = 0 ↔ sI A.su A.n = 0 := by
      rw [hds, show (0 : Int64) = lI 0 from rfl, lI_eq (by unfold lB; omega) (by unfold lB; omega)]
    apply hG (fun pc => pc == 47 || pc == 66) 40
    simp (config := { maxSteps := 2000000 }) [-Prod.forall, -Prod.exists, -exists_and_left, -exists_and_right, hW0, hW1, dm_fn, dm_fd, dm_x, dm_L0, dm_la, dm_t1, dm_sw, List.headD, dm_ic, dm_mk, dm_s1, dm_s2, dm_clr, dm_cs, dm_cc, dm_nb0, dm_nb1, Value.category, List.lookup, p_X10_lookFor, x_X10_lookFor, k_X10_lookFor, dm_cm, upd, vp_updL, dm_ui_1, dm_ui_2, dm_ul_1, dm_ul_2, sp_X2_sumOfSupplies, sp_X8_takeAll, sp_X7_findFlow, sp_X8_takeSeen, sp_X5_settleEndless, sp_X0_seek, sp_X6_cancelAll, sp_X1_unload, sp_X4_sendOneByOne, sp_X4_sendGreatFirst, sp_X9_gather, sp_X5_measure, sp_X7_lessen, sC_0, sC_1, sC_2, sC_3, sC_4, sC_5, sC_6, sC_7, sC_8, sC_9, sC_10, sC_11, sC_12, sC_13, sC_14, sC_15, sC_16, sC_17, sC_18, sC_19, sC_20, sC_21, sC_22, sC_23, sC_24, sC_25, sC_26, sC_27, sC_28, sC_29, sC_30, sC_31, sC_32, sC_33, sC_34, sC_35, sC_36, sC_37, sC_38, sC_39, sC_40, sC_41, sC_42, sC_43, sC_44, sC_45, sC_46, sC_47, sC_48, sC_49, sC_50, sC_51]
    refine ⟨A.n, hn, hC.1.1, fun z => ⟨A, hd, sr, hA, hC, hL, hS, s47 (hd0.mp z), fun u1 lo S b1 b2 b3 v b4 b5 b6 => ⟨A.n, hn, by rw [b1.1 1 (by decide)]; exact hC.1.1, q2 (hd0.mp z) u1 lo S b1 (fun l hl => by rw [hm l hl]; exact b2 l hl) ?_ ⟨v, b4, b5⟩ b6⟩⟩, fun z => ⟨A.n, hn, hC.1.1, q1 (fun y => z (hd0.mpr y))⟩⟩
    obtain ⟨s1, s2, s3, s4, s5⟩ := b3
    refine ⟨fun l hl x1 x2 => ?_, s2, s3, s4, fun T t1 t2 t3 => s5 T (fun l hl x1 x2 => ?_) t2 t3⟩
    · have := s1 l hl x1 x2
      rw [hm l hl]; exact this
    · have := t1 l hl x1 x2
      rw [hm l hl] at this; exact this
  · exact hh.elim
set_option maxRecDepth 100000 in
theorem t_X10_lookFor (l : Launch) (D : va_G) (cA : Nat → ClassId) (ad : Nat → Nat) : dm_Met l D dm_cl cA ad shC yX10_lookFor (Cond.code yX10_lookFor cX10_lookFor 2 (dm_rt 1) :: dm_tt) ({ frames := 5, cells := 0, slots := 0, locals := 126 } : Room) sp_X10_lookFor := dm_meth (own := RX10) (X := x_X10_lookFor) (Sp := k_X10_lookFor) (prog := p_X10_lookFor) (by decide +kernel) rfl rfl (dm_FO_s ffX10 [(12, 10, 0), (21, 10, 1), (30, 10, 2), (37, 10, 3), (46, 10, 4), (52, 5, 3), (59, 10, 5), (66, 10, 6), (73, 10, 7), (80, 10, 8), (231, 7, 3)] rfl dm_hT (by decide +kernel)) (dm_IO_s ifX10 jfX10 [] [] rfl rfl dm_hT (by decide +kernel) (by decide +kernel)) soC (dm_MO_of (List.forall_mem_cons.mpr ⟨dm_M1_of (t_X2_sumOfSupplies l D cA ad) dm_hT (dm_mem [561, 67, 558] (by decide +kernel) (by decide +kernel)) (by decide) (by decide +kernel) (Or.inr ⟨by decide, dm_mem [559, 560] (by decide +kernel) (by decide +kernel), rfl⟩), List.forall_mem_cons.mpr ⟨dm_M1_of (t_X8_takeAll l D cA ad) dm_hT (dm_mem [565, 75, 562] (by decide +kernel) (by decide +kernel)) (by decide) (by decide +kernel) (Or.inr ⟨by decide, dm_mem [563, 564] (by decide +kernel) (by decide +kernel), rfl⟩), List.forall_mem_cons.mpr ⟨dm_M1_of (t_X7_findFlow l D cA ad) dm_hT (dm_mem [569, 70, 566] (by decide +kernel) (by decide +kernel)) (by decide) (by decide +kernel) (Or.inr ⟨by decide, dm_mem [567, 568] (by decide +kernel) (by decide +kernel), rfl⟩), List.forall_mem_cons.mpr ⟨dm_M1_of (t_X8_takeSeen l D cA ad) dm_hT (dm_mem [638, 75, 635] (by decide +kernel) (by decide +kernel)) (by decide) (by decide +kernel) (Or.inr ⟨by decide, dm_mem [636, 637] (by decide +kernel) (by decide +kernel), rfl⟩), List.forall_mem_cons.mpr ⟨dm_M1_of (t_X5_settleEndless l D cA ad) dm_hT (dm_mem [642, 71, 639] (by decide +kernel) (by decide +kernel)) (by decide) (by decide +kernel) (Or.inr ⟨by decide, dm_mem [640, 641] (by decide +kernel) (by decide +kernel), rfl⟩), List.forall_mem_cons.mpr ⟨dm_M1_of (t_X0_seek l D cA ad) dm_hT (dm_mem [655, 74, 652] (by decide +kernel) (by decide +kernel)) (by decide) (by decide +kernel) (Or.inr ⟨by decide, dm_mem [653, 654] (by decide +kernel) (by decide +kernel), rfl⟩), List.forall_mem_cons.mpr ⟨dm_M1_of (t_X6_cancelAll l D cA ad) dm_hT (dm_mem [681, 73, 678] (by decide +kernel) (by decide +kernel)) (by decide) (by decide +kernel) (Or.inr ⟨by decide, dm_mem [679, 680] (by decide +kernel) (by decide +kernel), rfl⟩), List.forall_mem_cons.mpr ⟨dm_M1_of (t_X1_unload l D cA ad) dm_hT (dm_mem [573, 68, 745] (by decide +kernel) (by decide +kernel)) (by decide) (by decide +kernel) (Or.inr ⟨by decide, dm_mem [571, 572] (by decide +kernel) (by decide +kernel), rfl⟩), List.forall_mem_cons.mpr ⟨dm_M1_of (t_X4_sendOneByOne l D cA ad) dm_hT (dm_mem [749, 72, 746] (by decide +kernel) (by decide +kernel)) (by decide) (by decide +kernel) (Or.inr ⟨by decide, dm_mem [747, 748] (by decide +kernel) (by decide +kernel), rfl⟩), List.forall_mem_cons.mpr ⟨dm_M1_of (t_X4_sendGreatFirst l D cA ad) dm_hT (dm_mem [790, 72, 787] (by decide +kernel) (by decide +kernel)) (by decide) (by decide +kernel) (Or.inr ⟨by decide, dm_mem [788, 789] (by decide +kernel) (by decide +kernel), rfl⟩), List.forall_mem_cons.mpr ⟨dm_M1_of (t_X9_gather l D cA ad) dm_hT (dm_mem [691, 69, 793] (by decide +kernel) (by decide +kernel)) (by decide) (by decide +kernel) (Or.inr ⟨by decide, dm_mem [689, 690] (by decide +kernel) (by decide +kernel), rfl⟩), List.forall_mem_cons.mpr ⟨dm_M1_of (t_X5_measure l D cA ad) dm_hT (dm_mem [797, 71, 794] (by decide +kernel) (by decide +kernel)) (by decide) (by decide +kernel) (Or.inr ⟨by decide, dm_mem [795, 796] (by decide +kernel) (by decide +kernel), rfl⟩), List.forall_mem_cons.mpr ⟨dm_M1_of (t_X7_lessen l D cA ad) dm_hT (dm_mem [810, 70, 807] (by decide +kernel) (by decide +kernel)) (by decide) (by decide +kernel) (Or.inr ⟨by decide, dm_mem [808, 809] (by decide +kernel) (by decide +kernel), rfl⟩), fun _ h => absurd h List.not_mem_nil⟩⟩⟩⟩⟩⟩⟩⟩⟩⟩⟩⟩⟩)) v_X10_lookFor u_X10_lookFor
