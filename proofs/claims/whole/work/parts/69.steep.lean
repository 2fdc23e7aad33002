/-! ===== Rings.flattestStep, endOfSteepest: Karp's rule ===== -/
theorem nI_lI {k : Nat} (h : k < 2147483648) : (nI k).toInt64 = lI k := by
  apply Int64.toInt_inj.mp
  rw [Int32.toInt_toInt64, nI_toInt h, lI_ti (by omega)]
theorem nI_sb {a b : Nat} (h : b ≤ a) : nI a - nI b = nI (a - b) := by
  have h1 : nI (a - b) + nI b = nI a := by rw [nI_add, Nat.sub_add_cancel h]
  rw [← h1, Int32.add_sub_cancel]
/-- a / p is no more than b / q, and that less than c / r -/
theorem fr_tr {a b c p q r : Int} (hp : 0 < p) (hq : 0 < q) (hr : 0 < r) (h1 : a * q ≤ b * p) (h2 : b * r ≤ c * q) : a * r ≤ c * p := by
  have e1 : (a * q) * r ≤ (b * p) * r := Int.mul_le_mul_of_nonneg_right h1 (by omega)
  have e2 : (b * r) * p ≤ (c * q) * p := Int.mul_le_mul_of_nonneg_right h2 (by omega)
  have e3 : (b * p) * r = (b * r) * p := by ac_rfl
  have e4 : (a * q) * r = q * (a * r) := by ac_rfl
  have e5 : (c * q) * p = q * (c * p) := by ac_rfl
  refine Int.le_of_mul_le_mul_left (a := q) ?_ hq
  omega
theorem kb_ml {k n : Nat} {a : Int} (hk : k ≤ 24) (hn : n ≤ 24) (ha : -48000000 ≤ a ∧ a ≤ 48000000) : lB (a * (n : Int)) := by
  have h1 : a * (n : Int) ≤ 48000000 * n := Int.mul_le_mul_of_nonneg_right ha.2 (by omega)
  have h2 : -48000000 * (n : Int) ≤ a * n := Int.mul_le_mul_of_nonneg_right ha.1 (by omega)
  unfold lB
  omega
def sp_X6_flattestStep (As : List Value) (u : dm_S) (Q : Option Value → dm_S → Prop) : Prop := match As with
  | [.ref 7, .int x] => ∃ (n : Nat) (D : Nat → Nat → Int) (v : Nat), n ≤ 24 ∧ 1 ≤ n ∧ u.1 1 8 = nI n ∧ kc_ok u n D ∧ (∀ k, k ≤ n → kb_ok k (D k)) ∧ D 0 v = 0 ∧ v < n ∧ x = nI v ∧ (D n v = fAR → Q (some (.int (-1))) u) ∧ (D n v ≠ fAR → ∀ f, f < n → D f v ≠ fAR → (∀ k, k < n → D k v ≠ fAR → (D n v - D k v) * ((n - f : Nat) : Int) ≤ (D n v - D f v) * ((n - k : Nat) : Int)) → Q (some (.int (nI f))) u)
  | _ => False
def p_X6_flattestStep : List dm_I := [(0, .aload_n 0, 1, [0]), (1, .getfield 9, 3, []), (4, .aload_n 0, 1, [0]), (5, .getfield 25, 3, []), (8, .getfield 59, 3, []), (11, .bipush 24, 2, []), (13, .imul, 1, []), (14, .iload_n 1, 1, [1]), (15, .iadd, 1, []), (16, .laload, 1, []), (17, .ldc2_w 65, 3, []), (20, .lcmp, 1, []), (21, .ifCond .ne 5, 3, [26]), (24, .iconst (-1), 1, []), (25, .ireturn, 1, []), (26, .iconst 0, 1, []), (27, .istore_n 2, 1, [2]), (28, .iconst 1, 1, []), (29, .istore_n 3, 1, [3]), (30, .iload_n 3, 1, [3]), (31, .aload_n 0, 1, [0]), (32, .getfield 25, 3, []), (35, .getfield 59, 3, []), (38, .if_icmp .ge 74, 3, [112]), (41, .aload_n 0, 1, [0]), (42, .getfield 9, 3, []), (45, .iload_n 3, 1, [3]), (46, .bipush 24, 2, []), (48, .imul, 1, []), (49, .iload_n 1, 1, [1]), (50, .iadd, 1, []), (51, .laload, 1, []), (52, .ldc2_w 65, 3, []), (55, .lcmp, 1, []), (56, .ifCond .ne 6, 3, [62]), (59, .goto 47, 3, [106]), (62, .aload_n 0, 1, [0]), (63, .iload_n 1, 1, [1]), (64, .iload_n 3, 1, [3]), (65, .invokevirtual 90, 3, []), (68, .aload_n 0, 1, [0]), (69, .getfield 25, 3, []), (72, .getfield 59, 3, []), (75, .iload_n 2, 1, [2]), (76, .isub, 1, []), (77, .i2l, 1, []), (78, .lmul, 1, []), (79, .lstore 4, 2, []), (81, .lload 4, 2, []), (83, .aload_n 0, 1, [0]), (84, .iload_n 1, 1, [1]), (85, .iload_n 2, 1, [2]), (86, .invokevirtual 90, 3, []), (89, .aload_n 0, 1, [0]), (90, .getfield 25, 3, []), (93, .getfield 59, 3, []), (96, .iload_n 3, 1, [3]), (97, .isub, 1, []), (98, .i2l, 1, []), (99, .lmul, 1, []), (100, .lcmp, 1, []), (101, .ifCond .le 5, 3, [106]), (104, .iload_n 3, 1, [3]), (105, .istore_n 2, 1, [2]), (106, .iinc 3 1, 3, []), (109, .goto (-79), 3, [30]), (112, .iload_n 2, 1, [2]), (113, .ireturn, 1, [])]
set_option maxRecDepth 100000 in
theorem v_X6_flattestStep : p_X6_flattestStep.all (dm_vb cX6_flattestStep) = true := by decide +kernel
def k_X6_flattestStep : dm_Sp := fun a => match a with
  | 0 => sp_X6_costOfRest
  | _ => fun _ _ _ => False
def x_X6_flattestStep : dm_X := dm_mk [(9, 6, 3), (25, 6, 0), (59, 2, 8)] [] [(65, 1152921504606846976)] [(90, 0, 2, 6)] 1
set_option maxRecDepth 100000 in
set_option maxHeartbeats 1600000 in
theorem u_X6_flattestStep : dm_Pure shC x_X6_flattestStep k_X6_flattestStep p_X6_flattestStep 6 sp_X6_flattestStep := by
  intro As u Qp hh
  unfold sp_X6_flattestStep at hh
  split at hh
  · obtain ⟨n, D, v, hn, hn1, en, hc, hb, hD0, hv, rfl, h1, h2⟩ := hh
    have hF0 : lB fAR := by unfold lB fAR; omega
    have hFe : (1152921504606846976 : Int64) = lI fAR := rfl
    have e24 : ∀ k, nI k * 24 + nI v = nI (24 * k + v) := fun k => by rw [show (24 : Int32) = nI 24 from rfl, pk_mul, nI_add, Nat.mul_comm]
    have c24 : ∀ k, k ≤ n → (nI (24 * k + v)).toNatClampNeg = 24 * k + v := fun k hk => nI_clamp (by omega)
    have i24 : ∀ k, k ≤ n → vp_in (nI (24 * k + v)) 600 := fun k hk => vp_in_nI (by omega) (by omega)
    have hcv : ∀ k, k ≤ n → u.2 42 (24 * k + v) = lI (D k v) := fun k hk => hc k v hk (by omega)
    have hbv : ∀ k, k ≤ n → lB (D k v) ∧ (D k v ≠ fAR → -24000000 ≤ D k v ∧ D k v ≤ 24000000) := fun k hk => by
      rcases hb k hk v with y | y
      · exact ⟨by rw [y]; exact hF0, fun z => absurd y z⟩
      · exact ⟨by unfold lB; omega, fun _ => by omega⟩
    refine ⟨Nat.le_of_ble_eq_true rfl, fun G Wp hW0 hW1 hG => ?_⟩
    have loop : D n v ≠ fAR → ∀ m s : Nat, s + m = n → ∀ (f : Nat) (o4 o5 : Option Value), f < n → D f v ≠ fAR → (∀ k, k < s → D k v ≠ fAR → (D n v - D k v) * ((n - f : Nat) : Int) ≤ (D n v - D f v) * ((n - k : Nat) : Int)) → G 30 [some (.ref 7), some (.int (nI v)), some (.int (nI f)), some (.int (nI s)), o4, o5] [] u := by
      intro hnn m
      induction m with
      | zero =>
        intro s hs f o4 o5 hf hd hk
        have e0 : s = n := by omega
        subst e0
        apply hG (fun pc => pc == 30) 80
        simp (config := { maxSteps := 2000000 }) [-Prod.forall, -Prod.exists, -exists_and_left, -exists_and_right, hW0, hW1, dm_fn, dm_fd, dm_x, dm_L0, dm_la, dm_t1, dm_sw, List.headD, dm_ic, dm_mk, dm_s1, dm_s2, dm_clr, dm_cs, dm_cc, dm_nb0, dm_nb1, Value.category, List.lookup, p_X6_flattestStep, x_X6_flattestStep, k_X6_flattestStep, dm_cm, upd, vp_updL, dm_ui_1, dm_ui_2, dm_ul_1, dm_ul_2, sp_X6_costOfRest, sC_0, sC_1, sC_2, sC_3, sC_4, sC_5, sC_6, sC_7, sC_8, sC_9, sC_10, sC_11, sC_12, sC_13, sC_14, sC_15, sC_16, sC_17, sC_18, sC_19, sC_20, sC_21, sC_22, sC_23, sC_24, sC_25, sC_26, sC_27, sC_28, sC_29, sC_30, sC_31, sC_32, sC_33, sC_34, sC_35, sC_36, sC_37, sC_38, sC_39, sC_40, sC_41, sC_42, sC_43, sC_44, sC_45, sC_46, sC_47, sC_48, sC_49, sC_50, sC_51]
        rw [en]
        exact ⟨fun _ => h2 hnn f hf hd hk, fun zq => absurd zq (nI_nlt (Nat.le_refl _) (by omega))⟩
      | succ m ih =>
        intro s hs f o4 o5 hf hd hk
        have dn := (hbv n (Nat.le_refl _)).2 hnn
        have df := (hbv f (by omega)).2 hd
        apply hG (fun pc => pc == 30) 80
        simp (config := { maxSteps := 2000000 }) [-Prod.forall, -Prod.exists, -exists_and_left, -exists_and_right, hW0, hW1, dm_fn, dm_fd, dm_x, dm_L0, dm_la, dm_t1, dm_sw, List.headD, dm_ic, dm_mk, dm_s1, dm_s2, dm_clr, dm_cs, dm_cc, dm_nb0, dm_nb1, Value.category, List.lookup, p_X6_flattestStep, x_X6_flattestStep, k_X6_flattestStep, dm_cm, upd, vp_updL, dm_ui_1, dm_ui_2, dm_ul_1, dm_ul_2, sp_X6_costOfRest, sC_0, sC_1, sC_2, sC_3, sC_4, sC_5, sC_6, sC_7, sC_8, sC_9, sC_10, sC_11, sC_12, sC_13, sC_14, sC_15, sC_16, sC_17, sC_18, sC_19, sC_20, sC_21, sC_22, sC_23, sC_24, sC_25, sC_26, sC_27, sC_28, sC_29, sC_30, sC_31, sC_32, sC_33, sC_34, sC_35, sC_36, sC_37, sC_38, sC_39, sC_40, sC_41, sC_42, sC_43, sC_44, sC_45, sC_46, sC_47, sC_48, sC_49, sC_50, sC_51]
        rw [en, e24 s, e24 n, e24 f, c24 s (by omega), c24 n (Nat.le_refl _), c24 f (by omega), hcv s (by omega), hcv n (Nat.le_refl _), hcv f (by omega), nI_1, hFe, lI_eq (hbv s (by omega)).1 hF0, lI_sub, lI_sub, nI_sb (show f ≤ n by omega), nI_sb (show s ≤ n by omega), nI_lI (show n - f < 2147483648 by omega), nI_lI (show n - s < 2147483648 by omega), lI_mul, lI_mul]
        have keep : (D s v ≠ fAR → (D n v - D s v) * ((n - f : Nat) : Int) ≤ (D n v - D f v) * ((n - s : Nat) : Int)) → ∀ (o4 o5 : Option Value), G 30 [some (.ref 7), some (.int (nI v)), some (.int (nI f)), some (.int (nI (s + 1))), o4, o5] [] u := by
          intro hkp o4 o5
          refine ih (s + 1) (by omega) f _ _ hf hd (fun k hk2 hdk => ?_)
          rcases Nat.lt_or_ge k s with y | y
          · exact hk k y hdk
          · rw [show k = s by omega] at hdk ⊢; exact hkp hdk
        refine ⟨fun zq => absurd zq (nI_ge (by omega) (by omega)), fun zq => ⟨i24 s (by omega), fun z => ?_, fun z => keep (fun hq => absurd z hq) _ _⟩⟩
        have ds := (hbv s (by omega)).2 z
        have l1 : lB ((D n v - D s v) * ((n - f : Nat) : Int)) := kb_ml (k := 0) (by omega) (by omega) (by omega)
        have l2 : lB ((D n v - D f v) * ((n - s : Nat) : Int)) := kb_ml (k := 0) (by omega) (by omega) (by omega)
        refine ⟨i24 n (Nat.le_refl _), i24 s (by omega), i24 n (Nat.le_refl _), i24 f (by omega), fun z2 => ?_, fun z2 => ?_⟩
        · rw [lI_le l1 l2] at z2
          exact keep (fun _ => z2) _ _
        · rw [lI_lt l2 l1] at z2
          refine ih (s + 1) (by omega) s _ _ (by omega) z (fun k hk2 hdk => ?_)
          rcases Nat.lt_or_ge k s with y | y
          · exact fr_tr (b := D n v - D f v) (q := ((n - f : Nat) : Int)) (by omega) (by omega) (by omega) (hk k y hdk) (by omega)
          · rw [show k = s by omega]; exact Int.le_refl _
    apply hG (fun pc => pc == 30) 80
    simp (config := { maxSteps := 2000000 }) [-Prod.forall, -Prod.exists, -exists_and_left, -exists_and_right, hW0, hW1, dm_fn, dm_fd, dm_x, dm_L0, dm_la, dm_t1, dm_sw, List.headD, dm_ic, dm_mk, dm_s1, dm_s2, dm_clr, dm_cs, dm_cc, dm_nb0, dm_nb1, Value.category, List.lookup, p_X6_flattestStep, x_X6_flattestStep, k_X6_flattestStep, dm_cm, upd, vp_updL, dm_ui_1, dm_ui_2, dm_ul_1, dm_ul_2, sp_X6_costOfRest, sC_0, sC_1, sC_2, sC_3, sC_4, sC_5, sC_6, sC_7, sC_8, sC_9, sC_10, sC_11, sC_12, sC_13, sC_14, sC_15, sC_16, sC_17, sC_18, sC_19, sC_20, sC_21, sC_22, sC_23, sC_24, sC_25, sC_26, sC_27, sC_28, sC_29, sC_30, sC_31, sC_32, sC_33, sC_34, sC_35, sC_36, sC_37, sC_38, sC_39, sC_40, sC_41, sC_42, sC_43, sC_44, sC_45, sC_46, sC_47, sC_48, sC_49, sC_50, sC_51]
    rw [en, e24 n, c24 n (Nat.le_refl _), hcv n (Nat.le_refl _), hFe, lI_eq (hbv n (Nat.le_refl _)).1 hF0]
    refine ⟨i24 n (Nat.le_refl _), fun z => ?_, fun z => ?_⟩
    · exact loop z (n - 1) 1 (by omega) 0 _ _ (by omega) (by rw [hD0]; unfold fAR; omega) (fun k hk hd => by rw [show k = 0 by omega]; exact Int.le_refl _)
    · exact h1 z
  · exact hh.elim
set_option maxRecDepth 100000 in
theorem t_X6_flattestStep (l : Launch) (D : va_G) (cA : Nat → ClassId) (ad : Nat → Nat) : dm_Met l D dm_cl cA ad shC yX6_flattestStep (Cond.code yX6_flattestStep cX6_flattestStep 6 (dm_rt 1) :: dm_tt) ({ frames := 1, cells := 0, slots := 0, locals := 22 } : Room) sp_X6_flattestStep := dm_meth (own := RX6) (X := x_X6_flattestStep) (Sp := k_X6_flattestStep) (prog := p_X6_flattestStep) (by decide +kernel) rfl rfl (dm_FO_s ffX6 [(9, 6, 3), (25, 6, 0), (59, 2, 8)] rfl dm_hT (by decide +kernel)) (dm_IO_s ifX6 jfX6 [] [(65, 1152921504606846976)] rfl rfl dm_hT (by decide +kernel) (by decide +kernel)) soC (dm_MO_of (List.forall_mem_cons.mpr ⟨dm_M1_of (t_X6_costOfRest l D cA ad) dm_hT (dm_mem [730, 73, 727] (by decide +kernel) (by decide +kernel)) (by decide) (by decide +kernel) (Or.inr ⟨by decide, dm_mem [729, 22] (by decide +kernel) (by decide +kernel), rfl⟩), fun _ h => absurd h List.not_mem_nil⟩)) v_X6_flattestStep u_X6_flattestStep
/-- no ring falls, or the node where a walk ends whose rings have the least mean F / W -/
def kS (n : Nat) (D : Nat → Nat → Int) (F W : Int) (i : Nat) : Prop := 1 ≤ W ∧ W ≤ 24 ∧ (-1000000000 ≤ F ∧ F ≤ 0) ∧ ∀ v, v < i → D n v ≠ fAR → ∃ k, k < n ∧ D k v ≠ fAR ∧ F * ((n - k : Nat) : Int) ≤ (D n v - D k v) * W
def kE (n : Nat) (D : Nat → Nat → Int) (F W : Int) (v : Nat) : Prop := F < 0 ∧ D n v ≠ fAR ∧ ∀ k, k < n → D k v ≠ fAR → (D n v - D k v) * W ≤ F * ((n - k : Nat) : Int)
def sp_X6_endOfSteepest (As : List Value) (u : dm_S) (Q : Option Value → dm_S → Prop) : Prop := match As with
  | [.ref 7] => ∃ (n : Nat) (D : Nat → Nat → Int), n ≤ 24 ∧ u.1 1 8 = nI n ∧ kc_ok u n D ∧ (∀ k, k ≤ n → kb_ok k (D k)) ∧ (∀ v, D 0 v = 0) ∧ (kS n D 0 1 n → Q (some (.int (-1))) u) ∧ ∀ (F W : Int) (v : Nat), v < n → kS n D F W n → kE n D F W v → Q (some (.int (nI v))) u
  | _ => False
def p_X6_endOfSteepest : List dm_I := [(0, .iconst (-1), 1, []), (1, .istore_n 1, 1, [1]), (2, .lconst 0, 1, []), (3, .lstore_n 2, 1, [2]), (4, .lconst 1, 1, []), (5, .lstore 4, 2, []), (7, .iconst 0, 1, []), (8, .istore 6, 2, []), (10, .iload 6, 2, []), (12, .aload_n 0, 1, [0]), (13, .getfield 25, 3, []), (16, .getfield 59, 3, []), (19, .if_icmp .ge 72, 3, [91]), (22, .aload_n 0, 1, [0]), (23, .iload 6, 2, []), (25, .invokevirtual 86, 3, []), (28, .istore 7, 2, []), (30, .iload 7, 2, []), (32, .iconst (-1), 1, []), (33, .if_icmp .ne 6, 3, [39]), (36, .goto 49, 3, [85]), (39, .aload_n 0, 1, [0]), (40, .iload 6, 2, []), (42, .iload 7, 2, []), (44, .invokevirtual 90, 3, []), (47, .lstore 8, 2, []), (49, .aload_n 0, 1, [0]), (50, .getfield 25, 3, []), (53, .getfield 59, 3, []), (56, .iload 7, 2, []), (58, .isub, 1, []), (59, .i2l, 1, []), (60, .lstore 10, 2, []), (62, .lload 8, 2, []), (64, .lload 4, 2, []), (66, .lmul, 1, []), (67, .lload_n 2, 1, [2]), (68, .lload 10, 2, []), (70, .lmul, 1, []), (71, .lcmp, 1, []), (72, .ifCond .ge 13, 3, [85]), (75, .iload 6, 2, []), (77, .istore_n 1, 1, [1]), (78, .lload 8, 2, []), (80, .lstore_n 2, 1, [2]), (81, .lload 10, 2, []), (83, .lstore 4, 2, []), (85, .iinc 6 1, 3, []), (88, .goto (-78), 3, [10]), (91, .iload_n 1, 1, [1]), (92, .ireturn, 1, [])]
set_option maxRecDepth 100000 in
theorem v_X6_endOfSteepest : p_X6_endOfSteepest.all (dm_vb cX6_endOfSteepest) = true := by decide +kernel
def k_X6_endOfSteepest : dm_Sp := fun a => match a with
  | 0 => sp_X6_flattestStep
  | 1 => sp_X6_costOfRest
  | _ => fun _ _ _ => False
def x_X6_endOfSteepest : dm_X := dm_mk [(25, 6, 0), (59, 2, 8)] [] [] [(86, 0, 1, 6), (90, 1, 2, 6)] 1
set_option maxRecDepth 100000 in
set_option maxHeartbeats 1600000 in
theorem u_X6_endOfSteepest : dm_Pure shC x_X6_endOfSteepest k_X6_endOfSteepest p_X6_endOfSteepest 12 sp_X6_endOfSteepest := by
  intro As u Qp hh
  unfold sp_X6_endOfSteepest at hh
  split at hh
  · obtain ⟨n, D, hn, en, hc, hb, hD0, h1, h2⟩ := hh
    have hF0 : lB fAR := by unfold lB fAR; omega
    have hbv : ∀ k v, k ≤ n → D k v ≠ fAR → -24000000 ≤ D k v ∧ D k v ≤ 24000000 := fun k v hk hd => by
      rcases hb k hk v with y | y
      · exact absurd y hd
      · omega
    refine ⟨Nat.le_of_ble_eq_true rfl, fun G Wp hW0 hW1 hG => ?_⟩
    have loop : ∀ m i : Nat, i + m = n → ∀ (x : Int32) (F W : Int) (o7 o8 o9 o10 o11 : Option Value), kS n D F W i → ((x = -1 ∧ F = 0 ∧ W = 1) ∨ ∃ v, v < n ∧ x = nI v ∧ kE n D F W v) → G 10 [some (.ref 7), some (.int x), some (.long (lI F)), none, some (.long (lI W)), none, some (.int (nI i)), o7, o8, o9, o10, o11] [] u := by
      intro m
      induction m with
      | zero =>
        intro i hi x F W o7 o8 o9 o10 o11 hs hx
        have e0 : i = n := by omega
        subst e0
        apply hG (fun pc => pc == 10) 80
        simp (config := { maxSteps := 2000000 }) [-Prod.forall, -Prod.exists, -exists_and_left, -exists_and_right, hW0, hW1, dm_fn, dm_fd, dm_x, dm_L0, dm_la, dm_t1, dm_sw, List.headD, dm_ic, dm_mk, dm_s1, dm_s2, dm_clr, dm_cs, dm_cc, dm_nb0, dm_nb1, Value.category, List.lookup, p_X6_endOfSteepest, x_X6_endOfSteepest, k_X6_endOfSteepest, dm_cm, upd, vp_updL, dm_ui_1, dm_ui_2, dm_ul_1, dm_ul_2, sp_X6_flattestStep, sp_X6_costOfRest, sC_0, sC_1, sC_2, sC_3, sC_4, sC_5, sC_6, sC_7, sC_8, sC_9, sC_10, sC_11, sC_12, sC_13, sC_14, sC_15, sC_16, sC_17, sC_18, sC_19, sC_20, sC_21, sC_22, sC_23, sC_24, sC_25, sC_26, sC_27, sC_28, sC_29, sC_30, sC_31, sC_32, sC_33, sC_34, sC_35, sC_36, sC_37, sC_38, sC_39, sC_40, sC_41, sC_42, sC_43, sC_44, sC_45, sC_46, sC_47, sC_48, sC_49, sC_50, sC_51]
        rw [en]
        refine ⟨fun _ => ?_, fun zq => absurd zq (nI_nlt (Nat.le_refl _) (by omega))⟩
        rcases hx with ⟨rfl, rfl, rfl⟩ | ⟨v, hv, rfl, he⟩
        · exact h1 hs
        · exact h2 F W v hv hs he
      | succ m ih =>
        intro i hi x F W o7 o8 o9 o10 o11 hs hx
        have e24 : ∀ k, nI k * 24 + nI i = nI (24 * k + i) := fun k => by rw [show (24 : Int32) = nI 24 from rfl, pk_mul, nI_add, Nat.mul_comm]
        have c24 : ∀ k, k ≤ n → (nI (24 * k + i)).toNatClampNeg = 24 * k + i := fun k hk => nI_clamp (by omega)
        have i24 : ∀ k, k ≤ n → vp_in (nI (24 * k + i)) 600 := fun k hk => vp_in_nI (by omega) (by omega)
        have hcv : ∀ k, k ≤ n → u.2 42 (24 * k + i) = lI (D k i) := fun k hk => hc k i hk (by omega)
        have keep : (D n i ≠ fAR → ∃ k, k < n ∧ D k i ≠ fAR ∧ F * ((n - k : Nat) : Int) ≤ (D n i - D k i) * W) → ∀ (o7 o8 o9 o10 o11 : Option Value), G 10 [some (.ref 7), some (.int x), some (.long (lI F)), none, some (.long (lI W)), none, some (.int (nI (i + 1))), o7, o8, o9, o10, o11] [] u := by
          intro hk o7 o8 o9 o10 o11
          refine ih (i + 1) (by omega) x F W _ _ _ _ _ ⟨hs.1, hs.2.1, hs.2.2.1, fun v hv hd => ?_⟩ hx
          rcases Nat.lt_or_ge v i with y | y
          · exact hs.2.2.2 v y hd
          · rw [show v = i by omega] at hd ⊢; exact hk hd
        apply hG (fun pc => pc == 10) 80
        simp (config := { maxSteps := 2000000 }) [-Prod.forall, -Prod.exists, -exists_and_left, -exists_and_right, hW0, hW1, dm_fn, dm_fd, dm_x, dm_L0, dm_la, dm_t1, dm_sw, List.headD, dm_ic, dm_mk, dm_s1, dm_s2, dm_clr, dm_cs, dm_cc, dm_nb0, dm_nb1, Value.category, List.lookup, p_X6_endOfSteepest, x_X6_endOfSteepest, k_X6_endOfSteepest, dm_cm, upd, vp_updL, dm_ui_1, dm_ui_2, dm_ul_1, dm_ul_2, sp_X6_flattestStep, sp_X6_costOfRest, sC_0, sC_1, sC_2, sC_3, sC_4, sC_5, sC_6, sC_7, sC_8, sC_9, sC_10, sC_11, sC_12, sC_13, sC_14, sC_15, sC_16, sC_17, sC_18, sC_19, sC_20, sC_21, sC_22, sC_23, sC_24, sC_25, sC_26, sC_27, sC_28, sC_29, sC_30, sC_31, sC_32, sC_33, sC_34, sC_35, sC_36, sC_37, sC_38, sC_39, sC_40, sC_41, sC_42, sC_43, sC_44, sC_45, sC_46, sC_47, sC_48, sC_49, sC_50, sC_51]
        rw [en, nI_1]
        refine ⟨fun zq => absurd zq (nI_ge (by omega) (by omega)), fun zq => ⟨n, D, i, hn, by omega, rfl, hc, hb, hD0 i, by omega, rfl, fun z => keep (fun hq => absurd z hq) _ _ _ _ _, fun z f hf hdf hfk => ?_⟩⟩
        rw [e24 n, e24 f, c24 n (Nat.le_refl _), c24 f (by omega), hcv n (Nat.le_refl _), hcv f (by omega), lI_sub, nI_sb (show f ≤ n by omega), nI_lI (show n - f < 2147483648 by omega), lI_mul, lI_mul]
        have dn := hbv n i (Nat.le_refl _) z
        have df := hbv f i (by omega) hdf
        obtain ⟨w1, w2, w3, w4⟩ := hs
        have l1 : lB ((D n i - D f i) * W) := by
          have q1 : (D n i - D f i) * W ≤ 48000000 * W := Int.mul_le_mul_of_nonneg_right (by omega) (by omega)
          have q2 : -48000000 * W ≤ (D n i - D f i) * W := Int.mul_le_mul_of_nonneg_right (by omega) (by omega)
          unfold lB; omega
        have l2 : lB (F * ((n - f : Nat) : Int)) := by
          have q1 : F * ((n - f : Nat) : Int) ≤ 0 * ((n - f : Nat) : Int) := Int.mul_le_mul_of_nonneg_right (by omega) (by omega)
          have q2 : -1000000000 * ((n - f : Nat) : Int) ≤ F * ((n - f : Nat) : Int) := Int.mul_le_mul_of_nonneg_right (by omega) (by omega)
          unfold lB; omega
        refine ⟨fun _ => ⟨i24 n (Nat.le_refl _), i24 f (by omega), fun z2 => ?_, fun z2 => ?_⟩, fun z2 => absurd (z2 ▸ nI_pos (n := f) (by omega)) (by decide)⟩
        · rw [lI_le l2 l1] at z2
          exact keep (fun _ => ⟨f, hf, hdf, z2⟩) _ _ _ _ _
        · rw [lI_lt l1 l2] at z2
          have q1 : F * ((n - f : Nat) : Int) ≤ 0 * ((n - f : Nat) : Int) := Int.mul_le_mul_of_nonneg_right (by omega) (by omega)
          have q2 : D n i - D f i < 0 := by
            rcases Int.lt_or_le (D n i - D f i) 0 with y | y
            · exact y
            · have := Int.mul_nonneg y (show 0 ≤ W by omega)
              omega
          refine ih (i + 1) (by omega) (nI i) (D n i - D f i) ((n - f : Nat) : Int) _ _ _ _ _ ⟨by omega, by omega, by omega, fun v hv hd => ?_⟩ (Or.inr ⟨i, by omega, rfl, q2, z, hfk⟩)
          rcases Nat.lt_or_ge v i with y | y
          · obtain ⟨k, k1, k2, k3⟩ := w4 v y hd
            exact ⟨k, k1, k2, fr_tr (b := F) (q := W) (by omega) (by omega) (by omega) (by omega) k3⟩
          · rw [show v = i by omega]
            exact ⟨f, hf, hdf, Int.le_refl _⟩
    apply hG (fun pc => pc == 10) 80
    simp (config := { maxSteps := 2000000 }) [-Prod.forall, -Prod.exists, -exists_and_left, -exists_and_right, hW0, hW1, dm_fn, dm_fd, dm_x, dm_L0, dm_la, dm_t1, dm_sw, List.headD, dm_ic, dm_mk, dm_s1, dm_s2, dm_clr, dm_cs, dm_cc, dm_nb0, dm_nb1, Value.category, List.lookup, p_X6_endOfSteepest, x_X6_endOfSteepest, k_X6_endOfSteepest, dm_cm, upd, vp_updL, dm_ui_1, dm_ui_2, dm_ul_1, dm_ul_2, sp_X6_flattestStep, sp_X6_costOfRest, sC_0, sC_1, sC_2, sC_3, sC_4, sC_5, sC_6, sC_7, sC_8, sC_9, sC_10, sC_11, sC_12, sC_13, sC_14, sC_15, sC_16, sC_17, sC_18, sC_19, sC_20, sC_21, sC_22, sC_23, sC_24, sC_25, sC_26, sC_27, sC_28, sC_29, sC_30, sC_31, sC_32, sC_33, sC_34, sC_35, sC_36, sC_37, sC_38, sC_39, sC_40, sC_41, sC_42, sC_43, sC_44, sC_45, sC_46, sC_47, sC_48, sC_49, sC_50, sC_51]
    exact loop n 0 (by omega) (-1) 0 1 _ _ _ _ _ ⟨by omega, by omega, by omega, fun v hv => by omega⟩ (Or.inl ⟨rfl, rfl, rfl⟩)
  · exact hh.elim
set_option maxRecDepth 100000 in
theorem t_X6_endOfSteepest (l : Launch) (D : va_G) (cA : Nat → ClassId) (ad : Nat → Nat) : dm_Met l D dm_cl cA ad shC yX6_endOfSteepest (Cond.code yX6_endOfSteepest cX6_endOfSteepest 12 (dm_rt 1) :: dm_tt) ({ frames := 2, cells := 0, slots := 0, locals := 47 } : Room) sp_X6_endOfSteepest := dm_meth (own := RX6) (X := x_X6_endOfSteepest) (Sp := k_X6_endOfSteepest) (prog := p_X6_endOfSteepest) (by decide +kernel) rfl rfl (dm_FO_s ffX6 [(25, 6, 0), (59, 2, 8)] rfl dm_hT (by decide +kernel)) (dm_IO_s ifX6 jfX6 [] [] rfl rfl dm_hT (by decide +kernel) (by decide +kernel)) soC (dm_MO_of (List.forall_mem_cons.mpr ⟨dm_M1_of (t_X6_flattestStep l D cA ad) dm_hT (dm_mem [726, 73, 723] (by decide +kernel) (by decide +kernel)) (by decide) (by decide +kernel) (Or.inr ⟨by decide, dm_mem [725, 21] (by decide +kernel) (by decide +kernel), rfl⟩), List.forall_mem_cons.mpr ⟨dm_M1_of (t_X6_costOfRest l D cA ad) dm_hT (dm_mem [730, 73, 727] (by decide +kernel) (by decide +kernel)) (by decide) (by decide +kernel) (Or.inr ⟨by decide, dm_mem [729, 22] (by decide +kernel) (by decide +kernel), rfl⟩), fun _ h => absurd h List.not_mem_nil⟩⟩)) v_X6_endOfSteepest u_X6_endOfSteepest
