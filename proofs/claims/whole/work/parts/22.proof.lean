/-! ===== the proof by PRICES; the cost ===== -/
def sp_X5_areProof (As : List Value) (u : dm_S) (Q : Option Value → dm_S → Prop) : Prop := match As with
  | [.ref 5] => ∃ (N M : Nat) (fr tr pt : Nat → Nat) (C : Nat) (nb bg en : Nat → Nat), cn_ok u N M fr tr pt ∧ cn_ln u M pt ∧ wg_ok u C nb bg en ∧ ((∃ j, j < C ∧ u.2 36 (bg j) + u.2 31 j < u.2 36 (en j)) → Q (some (.int 0)) u) ∧ ((∀ j, j < C → u.2 36 (en j) ≤ u.2 36 (bg j) + u.2 31 j) → ((∀ j, j < N → cn_ex u N fr tr pt M j = 0) → Q (some (.int 1)) (dm_sj u 25 (cn_ex u N fr tr pt M))) ∧ ((∃ j, j < N ∧ ¬ cn_ex u N fr tr pt M j = 0) → Q (some (.int 0)) (dm_sj u 25 (cn_ex u N fr tr pt M))))
  | _ => False
def p_X5_areProof : List dm_I := [(0, .iconst 0, 1, []), (1, .istore_n 1, 1, [1]), (2, .iload_n 1, 1, [1]), (3, .aload_n 0, 1, [0]), (4, .getfield 26, 3, []), (7, .getfield 68, 3, []), (10, .if_icmp .ge 53, 3, [63]), (13, .aload_n 0, 1, [0]), (14, .getfield 9, 3, []), (17, .aload_n 0, 1, [0]), (18, .getfield 26, 3, []), (21, .getfield 73, 3, []), (24, .iload_n 1, 1, [1]), (25, .iaload, 1, []), (26, .laload, 1, []), (27, .aload_n 0, 1, [0]), (28, .getfield 9, 3, []), (31, .aload_n 0, 1, [0]), (32, .getfield 26, 3, []), (35, .getfield 76, 3, []), (38, .iload_n 1, 1, [1]), (39, .iaload, 1, []), (40, .laload, 1, []), (41, .aload_n 0, 1, [0]), (42, .getfield 26, 3, []), (45, .getfield 79, 3, []), (48, .iload_n 1, 1, [1]), (49, .laload, 1, []), (50, .ladd, 1, []), (51, .lcmp, 1, []), (52, .ifCond .le 5, 3, [57]), (55, .iconst 0, 1, []), (56, .ireturn, 1, []), (57, .iinc 1 1, 3, []), (60, .goto (-58), 3, [2]), (63, .aload_n 0, 1, [0]), (64, .getfield 22, 3, []), (67, .invokevirtual 82, 3, []), (70, .aload_n 0, 1, [0]), (71, .getfield 22, 3, []), (74, .invokevirtual 87, 3, []), (77, .ireturn, 1, [])]
set_option maxRecDepth 100000 in
theorem v_X5_areProof : p_X5_areProof.all (dm_vb cX5_areProof) = true := by decide +kernel
def k_X5_areProof : dm_Sp := fun a => match a with
  | 0 => sp_X1_weigh
  | 1 => sp_X1_isBalanced
  | _ => fun _ _ _ => False
def x_X5_areProof : dm_X := dm_mk [(9, 5, 3), (22, 5, 1), (26, 5, 2), (68, 9, 6), (73, 9, 4), (76, 9, 3), (79, 9, 5)] [] [] [(82, 0, 0, 1), (87, 1, 0, 1)] 3
set_option maxRecDepth 100000 in
set_option maxHeartbeats 400000 in
theorem u_X5_areProof : dm_Pure shC x_X5_areProof k_X5_areProof p_X5_areProof 2 sp_X5_areProof := by
  intro As u Qp h
  unfold sp_X5_areProof at h
  split at h
  · obtain ⟨N, M, fr, tr, pt, C, nb, bg, en, hok, hln, ⟨eC, hC, ho⟩, h1, h2⟩ := h
    refine ⟨Nat.le_of_ble_eq_true rfl, fun G Wp hW0 hW1 hG => ?_⟩
    have loop : ∀ k j : Nat, j + k = C → (∀ i, i < j → u.2 36 (en i) ≤ u.2 36 (bg i) + u.2 31 i) → G 2 [some (.ref 5), some (.int (nI j))] [] u := by
      intro k
      induction k with
      | zero =>
        intro j hj hz
        apply hG (fun pc => pc == 2) 50
        simp (config := { maxSteps := 2000000 }) [hW0, hW1, dm_fn, dm_fd, dm_x, dm_L0, dm_la, dm_t1, dm_sw, List.headD, dm_ic, dm_mk, dm_s1, dm_s2, dm_clr, dm_cs, dm_cc, dm_nb0, dm_nb1, Value.category, List.lookup, p_X5_areProof, x_X5_areProof, k_X5_areProof, dm_cm, upd, vp_updL, dm_ui_1, dm_ui_2, dm_ul_1, dm_ul_2, sp_X1_weigh, sp_X1_isBalanced, sC_0, sC_1, sC_2, sC_3, sC_4, sC_5, sC_6, sC_7, sC_8, sC_9, sC_10, sC_11, sC_12, sC_13, sC_14, sC_15, sC_16, sC_17, sC_18, sC_19, sC_20, sC_21, sC_22, sC_23, sC_24, sC_25, sC_26, sC_27, sC_28, sC_29, sC_30, sC_31, sC_32, sC_33, sC_34, sC_35, sC_36, sC_37, sC_38, sC_39, sC_40, sC_41, sC_42, sC_43, sC_44, sC_45, sC_46, sC_47, sC_48, sC_49, sC_50, sC_51]
        have e : j = C := by omega
        subst e
        rw [eC]
        refine ⟨fun _ => ⟨N, M, fr, tr, pt, hok, hln, N, hok.1.1, hok.1.2.2.1, ?_, ?_⟩, fun q => absurd q (nI_nlt (Nat.le_refl _) (by omega))⟩
        · intro z; exact (h2 hz).1 z
        · intro z1 z2 z3; exact (h2 hz).2 ⟨z1, z2, z3⟩
      | succ k ih =>
        intro j hj hz
        obtain ⟨⟨e1, l1⟩, ⟨e2, l2⟩, ⟨e3, l3⟩⟩ := ho j (by omega)
        have c1 : (nI j).toNatClampNeg = j := nI_clamp (by omega)
        have c2 : (nI (bg j)).toNatClampNeg = bg j := nI_clamp (by omega)
        have c3 : (nI (en j)).toNatClampNeg = en j := nI_clamp (by omega)
        have i1 : vp_in (nI j) 160 := vp_in_nI (by omega) (by omega)
        apply hG (fun pc => pc == 2) 50
        simp (config := { maxSteps := 2000000 }) [hW0, hW1, dm_fn, dm_fd, dm_x, dm_L0, dm_la, dm_t1, dm_sw, List.headD, dm_ic, dm_mk, dm_s1, dm_s2, dm_clr, dm_cs, dm_cc, dm_nb0, dm_nb1, Value.category, List.lookup, p_X5_areProof, x_X5_areProof, k_X5_areProof, dm_cm, upd, vp_updL, dm_ui_1, dm_ui_2, dm_ul_1, dm_ul_2, sp_X1_weigh, sp_X1_isBalanced, sC_0, sC_1, sC_2, sC_3, sC_4, sC_5, sC_6, sC_7, sC_8, sC_9, sC_10, sC_11, sC_12, sC_13, sC_14, sC_15, sC_16, sC_17, sC_18, sC_19, sC_20, sC_21, sC_22, sC_23, sC_24, sC_25, sC_26, sC_27, sC_28, sC_29, sC_30, sC_31, sC_32, sC_33, sC_34, sC_35, sC_36, sC_37, sC_38, sC_39, sC_40, sC_41, sC_42, sC_43, sC_44, sC_45, sC_46, sC_47, sC_48, sC_49, sC_50, sC_51]
        simp only [eC, c1, e2, e3, c2, c3, nI_1]
        refine ⟨fun q => absurd q (nI_ge (by omega) (by omega)), fun q => ⟨i1, vp_in_nI (by omega) (by omega), i1, vp_in_nI (by omega) (by omega), i1, fun z => ih (j + 1) (by omega) (fun i hi => ?_), fun z => h1 ⟨j, by omega, z⟩⟩⟩
        rcases Nat.lt_or_ge i j with y | y
        · exact hz i y
        · rw [show i = j by omega]; exact z
    apply hG (fun pc => pc == 2) 50
    simp (config := { maxSteps := 2000000 }) [hW0, hW1, dm_fn, dm_fd, dm_x, dm_L0, dm_la, dm_t1, dm_sw, List.headD, dm_ic, dm_mk, dm_s1, dm_s2, dm_clr, dm_cs, dm_cc, dm_nb0, dm_nb1, Value.category, List.lookup, p_X5_areProof, x_X5_areProof, k_X5_areProof, dm_cm, upd, vp_updL, dm_ui_1, dm_ui_2, dm_ul_1, dm_ul_2, sp_X1_weigh, sp_X1_isBalanced, sC_0, sC_1, sC_2, sC_3, sC_4, sC_5, sC_6, sC_7, sC_8, sC_9, sC_10, sC_11, sC_12, sC_13, sC_14, sC_15, sC_16, sC_17, sC_18, sC_19, sC_20, sC_21, sC_22, sC_23, sC_24, sC_25, sC_26, sC_27, sC_28, sC_29, sC_30, sC_31, sC_32, sC_33, sC_34, sC_35, sC_36, sC_37, sC_38, sC_39, sC_40, sC_41, sC_42, sC_43, sC_44, sC_45, sC_46, sC_47, sC_48, sC_49, sC_50, sC_51]
    exact loop C 0 (by omega) (fun i hi => by omega)
  · exact h.elim
set_option maxRecDepth 100000 in
theorem t_X5_areProof (l : Launch) (D : va_G) (cA : Nat → ClassId) (ad : Nat → Nat) : dm_Met l D dm_cl cA ad shC yX5_areProof (Cond.code yX5_areProof cX5_areProof 2 (dm_rt 3) :: dm_tt) ({ frames := 3, cells := 0, slots := 0, locals := 68 } : Room) sp_X5_areProof := dm_meth (own := RX5) (X := x_X5_areProof) (Sp := k_X5_areProof) (prog := p_X5_areProof) (by decide +kernel) rfl rfl (dm_FO_s ffX5 [(9, 5, 3), (22, 5, 1), (26, 5, 2), (68, 9, 6), (73, 9, 4), (76, 9, 3), (79, 9, 5)] rfl dm_hT (by decide +kernel)) (dm_IO_s ifX5 jfX5 [] [] rfl rfl dm_hT (by decide +kernel) (by decide +kernel)) soC (dm_MO_of (List.forall_mem_cons.mpr ⟨dm_M1_of (t_X1_weigh l D cA ad) dm_hT (dm_mem [580, 68, 846] (by decide +kernel) (by decide +kernel)) (by decide) (by decide +kernel) (Or.inr ⟨by decide, dm_mem [578, 579] (by decide +kernel) (by decide +kernel), rfl⟩), List.forall_mem_cons.mpr ⟨dm_M1_of (t_X1_isBalanced l D cA ad) dm_hT (dm_mem [634, 68, 847] (by decide +kernel) (by decide +kernel)) (by decide) (by decide +kernel) (Or.inr ⟨by decide, dm_mem [632, 633] (by decide +kernel) (by decide +kernel), rfl⟩), fun _ h => absurd h List.not_mem_nil⟩⟩)) v_X5_areProof u_X5_areProof
/-- the sum of costs: LOWS at the first lane's rate, then the lanes -/
def cn_c1 (u : dm_S) (pt : Nat → Nat) : Nat → Int64
  | 0 => 0
  | a + 1 => cn_c1 u pt a + u.2 17 (4 * a) * u.2 23 (cn_fs pt a)
def cn_c2 (u : dm_S) (s : Int64) : Nat → Int64
  | 0 => s
  | l + 1 => cn_c2 u s l + u.2 24 l * u.2 23 l
def sp_X1_sumOfCosts (As : List Value) (u : dm_S) (Q : Option Value → dm_S → Prop) : Prop := match As with
  | [.ref 2] => ∃ (N M : Nat) (fr tr pt : Nat → Nat), cn_ok u N M fr tr pt ∧ cn_ln u M pt ∧ u.1 2 10 = nI (cn_fs pt M) ∧ Q (some (.long (cn_c2 u (cn_c1 u pt M) (cn_fs pt M)))) u
  | _ => False
def p_X1_sumOfCosts : List dm_I := [(0, .lconst 0, 1, []), (1, .lstore_n 1, 1, [1]), (2, .iconst 0, 1, []), (3, .istore_n 3, 1, [3]), (4, .iload_n 3, 1, [3]), (5, .aload_n 0, 1, [0]), (6, .getfield 40, 3, []), (9, .getfield 48, 3, []), (12, .if_icmp .ge 32, 3, [44]), (15, .lload_n 1, 1, [1]), (16, .aload_n 0, 1, [0]), (17, .getfield 40, 3, []), (20, .iload_n 3, 1, [3]), (21, .invokevirtual 105, 3, []), (24, .aload_n 0, 1, [0]), (25, .getfield 25, 3, []), (28, .aload_n 0, 1, [0]), (29, .getfield 9, 3, []), (32, .iload_n 3, 1, [3]), (33, .iaload, 1, []), (34, .laload, 1, []), (35, .lmul, 1, []), (36, .ladd, 1, []), (37, .lstore_n 1, 1, [1]), (38, .iinc 3 1, 3, []), (41, .goto (-37), 3, [4]), (44, .iconst 0, 1, []), (45, .istore_n 3, 1, [3]), (46, .iload_n 3, 1, [3]), (47, .aload_n 0, 1, [0]), (48, .getfield 44, 3, []), (51, .if_icmp .ge 25, 3, [76]), (54, .lload_n 1, 1, [1]), (55, .aload_n 0, 1, [0]), (56, .getfield 28, 3, []), (59, .iload_n 3, 1, [3]), (60, .laload, 1, []), (61, .aload_n 0, 1, [0]), (62, .getfield 25, 3, []), (65, .iload_n 3, 1, [3]), (66, .laload, 1, []), (67, .lmul, 1, []), (68, .ladd, 1, []), (69, .lstore_n 1, 1, [1]), (70, .iinc 3 1, 3, []), (73, .goto (-27), 3, [46]), (76, .lload_n 1, 1, [1]), (77, .lreturn, 1, [])]
set_option maxRecDepth 100000 in
theorem v_X1_sumOfCosts : p_X1_sumOfCosts.all (dm_vb cX1_sumOfCosts) = true := by decide +kernel
def k_X1_sumOfCosts : dm_Sp := fun a => match a with
  | 0 => sp_X2_lowOf
  | _ => fun _ _ _ => False
def x_X1_sumOfCosts : dm_X := dm_mk [(9, 1, 1), (25, 1, 5), (28, 1, 6), (40, 1, 0), (44, 1, 10), (48, 2, 9)] [] [] [(105, 0, 1, 2)] 2
set_option maxRecDepth 100000 in
set_option maxHeartbeats 400000 in
theorem u_X1_sumOfCosts : dm_Pure shC x_X1_sumOfCosts k_X1_sumOfCosts p_X1_sumOfCosts 4 sp_X1_sumOfCosts := by
  intro As u Qp h
  unfold sp_X1_sumOfCosts at h
  split at h
  · obtain ⟨N, M, fr, tr, pt, ⟨⟨hN, hM, eN, eM⟩, ho⟩, hln, eL, h⟩ := h
    refine ⟨Nat.le_of_ble_eq_true rfl, fun G Wp hW0 hW1 hG => ?_⟩
    have hf := cn_fs_le (pt := pt) (M := M) (fun a ha => (ho a ha).2.2.2.2)
    have hL := hf M (Nat.le_refl _)
    have loop2 : ∀ k l : Nat, l + k = cn_fs pt M → G 46 [some (.ref 2), some (.long (cn_c2 u (cn_c1 u pt M) l)), none, some (.int (nI l))] [] u := by
      intro k
      induction k with
      | zero =>
        intro l hl
        apply hG (fun pc => pc == 46) 40
        simp (config := { maxSteps := 2000000 }) [hW0, hW1, dm_fn, dm_fd, dm_x, dm_L0, dm_la, dm_t1, dm_sw, List.headD, dm_ic, dm_mk, dm_s1, dm_s2, dm_clr, dm_cs, dm_cc, dm_nb0, dm_nb1, Value.category, List.lookup, p_X1_sumOfCosts, x_X1_sumOfCosts, k_X1_sumOfCosts, dm_cm, upd, vp_updL, dm_ui_1, dm_ui_2, dm_ul_1, dm_ul_2, sp_X2_lowOf, sC_0, sC_1, sC_2, sC_3, sC_4, sC_5, sC_6, sC_7, sC_8, sC_9, sC_10, sC_11, sC_12, sC_13, sC_14, sC_15, sC_16, sC_17, sC_18, sC_19, sC_20, sC_21, sC_22, sC_23, sC_24, sC_25, sC_26, sC_27, sC_28, sC_29, sC_30, sC_31, sC_32, sC_33, sC_34, sC_35, sC_36, sC_37, sC_38, sC_39, sC_40, sC_41, sC_42, sC_43, sC_44, sC_45, sC_46, sC_47, sC_48, sC_49, sC_50, sC_51]
        have e : l = cn_fs pt M := by omega
        subst e
        rw [eL]
        exact ⟨fun _ => h, fun q => absurd q (nI_nlt (Nat.le_refl _) (by omega))⟩
      | succ k ih =>
        intro l hl
        have e := ih (l + 1) (by omega)
        apply hG (fun pc => pc == 46) 40
        simp (config := { maxSteps := 2000000 }) [hW0, hW1, dm_fn, dm_fd, dm_x, dm_L0, dm_la, dm_t1, dm_sw, List.headD, dm_ic, dm_mk, dm_s1, dm_s2, dm_clr, dm_cs, dm_cc, dm_nb0, dm_nb1, Value.category, List.lookup, p_X1_sumOfCosts, x_X1_sumOfCosts, k_X1_sumOfCosts, dm_cm, upd, vp_updL, dm_ui_1, dm_ui_2, dm_ul_1, dm_ul_2, sp_X2_lowOf, sC_0, sC_1, sC_2, sC_3, sC_4, sC_5, sC_6, sC_7, sC_8, sC_9, sC_10, sC_11, sC_12, sC_13, sC_14, sC_15, sC_16, sC_17, sC_18, sC_19, sC_20, sC_21, sC_22, sC_23, sC_24, sC_25, sC_26, sC_27, sC_28, sC_29, sC_30, sC_31, sC_32, sC_33, sC_34, sC_35, sC_36, sC_37, sC_38, sC_39, sC_40, sC_41, sC_42, sC_43, sC_44, sC_45, sC_46, sC_47, sC_48, sC_49, sC_50, sC_51]
        rw [eL, nI_clamp (by omega), nI_1]
        exact ⟨fun q => absurd q (nI_ge (by omega) (by omega)), fun q => ⟨vp_in_nI (by omega) (by omega), e⟩⟩
    have loop1 : ∀ k a : Nat, a + k = M → G 4 [some (.ref 2), some (.long (cn_c1 u pt a)), none, some (.int (nI a))] [] u := by
      intro k
      induction k with
      | zero =>
        intro a ha
        apply hG (fun pc => pc == 4 || pc == 46) 40
        simp (config := { maxSteps := 2000000 }) [hW0, hW1, dm_fn, dm_fd, dm_x, dm_L0, dm_la, dm_t1, dm_sw, List.headD, dm_ic, dm_mk, dm_s1, dm_s2, dm_clr, dm_cs, dm_cc, dm_nb0, dm_nb1, Value.category, List.lookup, p_X1_sumOfCosts, x_X1_sumOfCosts, k_X1_sumOfCosts, dm_cm, upd, vp_updL, dm_ui_1, dm_ui_2, dm_ul_1, dm_ul_2, sp_X2_lowOf, sC_0, sC_1, sC_2, sC_3, sC_4, sC_5, sC_6, sC_7, sC_8, sC_9, sC_10, sC_11, sC_12, sC_13, sC_14, sC_15, sC_16, sC_17, sC_18, sC_19, sC_20, sC_21, sC_22, sC_23, sC_24, sC_25, sC_26, sC_27, sC_28, sC_29, sC_30, sC_31, sC_32, sC_33, sC_34, sC_35, sC_36, sC_37, sC_38, sC_39, sC_40, sC_41, sC_42, sC_43, sC_44, sC_45, sC_46, sC_47, sC_48, sC_49, sC_50, sC_51]
        have e : a = M := by omega
        subst e
        rw [eM]
        exact ⟨fun _ => loop2 (cn_fs pt a) 0 (by omega), fun q => absurd q (nI_nlt (Nat.le_refl _) (by omega))⟩
      | succ k ih =>
        intro a ha
        have e := ih (a + 1) (by omega)
        have h9 := hf a (by omega)
        have c1 : (nI a).toNatClampNeg = a := nI_clamp (by omega)
        have c4 : (nI (4 * a)).toNatClampNeg = 4 * a := nI_clamp (by omega)
        have c5 : (nI (cn_fs pt a)).toNatClampNeg = cn_fs pt a := nI_clamp (by omega)
        apply hG (fun pc => pc == 4 || pc == 46) 40
        simp (config := { maxSteps := 2000000 }) [hW0, hW1, dm_fn, dm_fd, dm_x, dm_L0, dm_la, dm_t1, dm_sw, List.headD, dm_ic, dm_mk, dm_s1, dm_s2, dm_clr, dm_cs, dm_cc, dm_nb0, dm_nb1, Value.category, List.lookup, p_X1_sumOfCosts, x_X1_sumOfCosts, k_X1_sumOfCosts, dm_cm, upd, vp_updL, dm_ui_1, dm_ui_2, dm_ul_1, dm_ul_2, sp_X2_lowOf, sC_0, sC_1, sC_2, sC_3, sC_4, sC_5, sC_6, sC_7, sC_8, sC_9, sC_10, sC_11, sC_12, sC_13, sC_14, sC_15, sC_16, sC_17, sC_18, sC_19, sC_20, sC_21, sC_22, sC_23, sC_24, sC_25, sC_26, sC_27, sC_28, sC_29, sC_30, sC_31, sC_32, sC_33, sC_34, sC_35, sC_36, sC_37, sC_38, sC_39, sC_40, sC_41, sC_42, sC_43, sC_44, sC_45, sC_46, sC_47, sC_48, sC_49, sC_50, sC_51]
        rw [eM, dm_l4 (by omega), c4, c1, hln a (by omega), c5, nI_1]
        exact ⟨fun q => absurd q (nI_ge (by omega) (by omega)), fun q => ⟨vp_in_nI (by omega) (by omega), vp_in_nI (by omega) (by omega), vp_in_nI (by omega) (by omega), e⟩⟩
    apply hG (fun pc => pc == 4 || pc == 46) 40
    simp (config := { maxSteps := 2000000 }) [hW0, hW1, dm_fn, dm_fd, dm_x, dm_L0, dm_la, dm_t1, dm_sw, List.headD, dm_ic, dm_mk, dm_s1, dm_s2, dm_clr, dm_cs, dm_cc, dm_nb0, dm_nb1, Value.category, List.lookup, p_X1_sumOfCosts, x_X1_sumOfCosts, k_X1_sumOfCosts, dm_cm, upd, vp_updL, dm_ui_1, dm_ui_2, dm_ul_1, dm_ul_2, sp_X2_lowOf, sC_0, sC_1, sC_2, sC_3, sC_4, sC_5, sC_6, sC_7, sC_8, sC_9, sC_10, sC_11, sC_12, sC_13, sC_14, sC_15, sC_16, sC_17, sC_18, sC_19, sC_20, sC_21, sC_22, sC_23, sC_24, sC_25, sC_26, sC_27, sC_28, sC_29, sC_30, sC_31, sC_32, sC_33, sC_34, sC_35, sC_36, sC_37, sC_38, sC_39, sC_40, sC_41, sC_42, sC_43, sC_44, sC_45, sC_46, sC_47, sC_48, sC_49, sC_50, sC_51]
    exact loop1 M 0 (by omega)
  · exact h.elim
set_option maxRecDepth 100000 in
theorem t_X1_sumOfCosts (l : Launch) (D : va_G) (cA : Nat → ClassId) (ad : Nat → Nat) : dm_Met l D dm_cl cA ad shC yX1_sumOfCosts (Cond.code yX1_sumOfCosts cX1_sumOfCosts 4 (dm_rt 2) :: dm_tt) ({ frames := 1, cells := 0, slots := 0, locals := 21 } : Room) sp_X1_sumOfCosts := dm_meth (own := RX1) (X := x_X1_sumOfCosts) (Sp := k_X1_sumOfCosts) (prog := p_X1_sumOfCosts) (by decide +kernel) rfl rfl (dm_FO_s ffX1 [(9, 1, 1), (25, 1, 5), (28, 1, 6), (40, 1, 0), (44, 1, 10), (48, 2, 9)] rfl dm_hT (by decide +kernel)) (dm_IO_s ifX1 jfX1 [] [] rfl rfl dm_hT (by decide +kernel) (by decide +kernel)) soC (dm_MO_of (List.forall_mem_cons.mpr ⟨dm_M1_of (t_X2_lowOf l D cA ad) dm_hT (dm_mem [588, 67, 585] (by decide +kernel) (by decide +kernel)) (by decide) (by decide +kernel) (Or.inr ⟨by decide, dm_mem [586, 587] (by decide +kernel) (by decide +kernel), rfl⟩), fun _ h => absurd h List.not_mem_nil⟩)) v_X1_sumOfCosts u_X1_sumOfCosts
