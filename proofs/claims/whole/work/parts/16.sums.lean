/-! ===== sums and collections ===== -/
def dm_sg (f : Nat → Int64) (p : Nat) : Nat → Int64
  | 0 => 0
  | n + 1 => dm_sg f p n + f (p + n)
theorem dm_l4 {a : Nat} (h : a < 80) : nI a * 4 = nI (4 * a) := by
  rw [show (4 : Int32) = nI 4 from rfl, pk_mul, Nat.mul_comm]
def sp_X1_amountOn (As : List Value) (u : dm_S) (Q : Option Value → dm_S → Prop) : Prop := match As with
  | [.ref 2, .int x] => ∃ a p n : Nat, a < 80 ∧ x = nI a ∧ u.1 19 a = nI p ∧ u.1 19 (a + 1) = nI (p + n) ∧ p + n ≤ 320 ∧ Q (some (.long (u.2 17 (4 * a) + dm_sg (u.2 24) p n))) u
  | _ => False
def p_X1_amountOn : List dm_I := [(0, .aload_n 0, 1, [0]), (1, .getfield 40, 3, []), (4, .iload_n 1, 1, [1]), (5, .invokevirtual 105, 3, []), (8, .lstore_n 2, 1, [2]), (9, .aload_n 0, 1, [0]), (10, .getfield 9, 3, []), (13, .iload_n 1, 1, [1]), (14, .iaload, 1, []), (15, .istore 4, 2, []), (17, .iload 4, 2, []), (19, .aload_n 0, 1, [0]), (20, .getfield 9, 3, []), (23, .iload_n 1, 1, [1]), (24, .iconst 1, 1, []), (25, .iadd, 1, []), (26, .iaload, 1, []), (27, .if_icmp .ge 19, 3, [46]), (30, .lload_n 2, 1, [2]), (31, .aload_n 0, 1, [0]), (32, .getfield 28, 3, []), (35, .iload 4, 2, []), (37, .laload, 1, []), (38, .ladd, 1, []), (39, .lstore_n 2, 1, [2]), (40, .iinc 4 1, 3, []), (43, .goto (-26), 3, [17]), (46, .lload_n 2, 1, [2]), (47, .lreturn, 1, [])]
set_option maxRecDepth 100000 in
theorem v_X1_amountOn : p_X1_amountOn.all (dm_vb cX1_amountOn) = true := by decide +kernel
def k_X1_amountOn : dm_Sp := fun a => match a with
  | 0 => sp_X2_lowOf
  | _ => fun _ _ _ => False
def x_X1_amountOn : dm_X := dm_mk [(9, 1, 1), (28, 1, 6), (40, 1, 0)] [] [] [(105, 0, 1, 2)] 2
set_option maxRecDepth 100000 in
set_option maxHeartbeats 400000 in
theorem u_X1_amountOn : dm_Pure shC x_X1_amountOn k_X1_amountOn p_X1_amountOn 5 sp_X1_amountOn := by
  intro As u Qp h
  unfold sp_X1_amountOn at h
  split at h
  · obtain ⟨a, p, n, ha, rfl, e1, e2, hn, h⟩ := h
    refine ⟨Nat.le_of_ble_eq_true rfl, fun G Wp hW0 hW1 hG => ?_⟩
    have ca : (nI a).toNatClampNeg = a := nI_clamp (by omega)
    have cb : (nI (a + 1)).toNatClampNeg = a + 1 := nI_clamp (by omega)
    have c4 : (nI (4 * a)).toNatClampNeg = 4 * a := nI_clamp (by omega)
    have i1 : vp_in (nI a) 81 := vp_in_nI (by omega) (by omega)
    have i2 : vp_in (nI (a + 1)) 81 := vp_in_nI (by omega) (by omega)
    have i3 : vp_in (nI (4 * a)) 320 := vp_in_nI (by omega) (by omega)
    have loop : ∀ k i : Nat, i + k = n → G 17 [some (.ref 2), some (.int (nI a)), some (.long (u.2 17 (4 * a) + dm_sg (u.2 24) p i)), none, some (.int (nI (p + i)))] [] u := by
      intro k
      induction k with
      | zero =>
        intro i hi
        apply hG (fun pc => pc == 17) 30
        simp (config := { maxSteps := 2000000 }) [hW0, hW1, dm_fn, dm_fd, dm_x, dm_L0, dm_la, dm_t1, dm_sw, List.headD, dm_ic, dm_mk, dm_s1, dm_s2, dm_clr, dm_cs, dm_cc, dm_nb0, dm_nb1, Value.category, List.lookup, p_X1_amountOn, x_X1_amountOn, k_X1_amountOn, dm_cm, upd, vp_updL, dm_ui_1, dm_ui_2, dm_ul_1, dm_ul_2, sp_X2_lowOf, sC_0, sC_1, sC_2, sC_3, sC_4, sC_5, sC_6, sC_7, sC_8, sC_9, sC_10, sC_11, sC_12, sC_13, sC_14, sC_15, sC_16, sC_17, sC_18, sC_19, sC_20, sC_21, sC_22, sC_23, sC_24, sC_25, sC_26, sC_27, sC_28, sC_29, sC_30, sC_31, sC_32, sC_33, sC_34, sC_35, sC_36, sC_37, sC_38, sC_39, sC_40, sC_41, sC_42, sC_43, sC_44, sC_45, sC_46, sC_47, sC_48, sC_49, sC_50, sC_51]
        rw [nI_1, cb, e2]
        have e : i = n := by omega
        subst e
        exact ⟨i2, fun _ => h, fun q => absurd q (nI_nlt (Nat.le_refl _) (by omega))⟩
      | succ k ih =>
        intro i hi
        apply hG (fun pc => pc == 17) 30
        simp (config := { maxSteps := 2000000 }) [hW0, hW1, dm_fn, dm_fd, dm_x, dm_L0, dm_la, dm_t1, dm_sw, List.headD, dm_ic, dm_mk, dm_s1, dm_s2, dm_clr, dm_cs, dm_cc, dm_nb0, dm_nb1, Value.category, List.lookup, p_X1_amountOn, x_X1_amountOn, k_X1_amountOn, dm_cm, upd, vp_updL, dm_ui_1, dm_ui_2, dm_ul_1, dm_ul_2, sp_X2_lowOf, sC_0, sC_1, sC_2, sC_3, sC_4, sC_5, sC_6, sC_7, sC_8, sC_9, sC_10, sC_11, sC_12, sC_13, sC_14, sC_15, sC_16, sC_17, sC_18, sC_19, sC_20, sC_21, sC_22, sC_23, sC_24, sC_25, sC_26, sC_27, sC_28, sC_29, sC_30, sC_31, sC_32, sC_33, sC_34, sC_35, sC_36, sC_37, sC_38, sC_39, sC_40, sC_41, sC_42, sC_43, sC_44, sC_45, sC_46, sC_47, sC_48, sC_49, sC_50, sC_51]
        rw [nI_1, cb, e2]
        have e := ih (i + 1) (by omega)
        refine ⟨i2, fun q => absurd q (nI_ge (by omega) (by omega)), fun q => ⟨vp_in_nI (by omega) (by omega), ?_⟩⟩
        rw [nI_clamp (by omega), nI_1, Int64.add_assoc]
        exact e
    apply hG (fun pc => pc == 17) 30
    simp (config := { maxSteps := 2000000 }) [hW0, hW1, dm_fn, dm_fd, dm_x, dm_L0, dm_la, dm_t1, dm_sw, List.headD, dm_ic, dm_mk, dm_s1, dm_s2, dm_clr, dm_cs, dm_cc, dm_nb0, dm_nb1, Value.category, List.lookup, p_X1_amountOn, x_X1_amountOn, k_X1_amountOn, dm_cm, upd, vp_updL, dm_ui_1, dm_ui_2, dm_ul_1, dm_ul_2, sp_X2_lowOf, sC_0, sC_1, sC_2, sC_3, sC_4, sC_5, sC_6, sC_7, sC_8, sC_9, sC_10, sC_11, sC_12, sC_13, sC_14, sC_15, sC_16, sC_17, sC_18, sC_19, sC_20, sC_21, sC_22, sC_23, sC_24, sC_25, sC_26, sC_27, sC_28, sC_29, sC_30, sC_31, sC_32, sC_33, sC_34, sC_35, sC_36, sC_37, sC_38, sC_39, sC_40, sC_41, sC_42, sC_43, sC_44, sC_45, sC_46, sC_47, sC_48, sC_49, sC_50, sC_51]
    rw [dm_l4 ha, c4, ca, e1]
    have e := loop n 0 (by omega)
    simp only [dm_sg, Int64.add_zero] at e
    exact ⟨i3, i1, e⟩
  · exact h.elim
set_option maxRecDepth 100000 in
theorem t_X1_amountOn (l : Launch) (D : va_G) (cA : Nat → ClassId) (ad : Nat → Nat) : dm_Met l D dm_cl cA ad shC yX1_amountOn (Cond.code yX1_amountOn cX1_amountOn 5 (dm_rt 2) :: dm_tt) ({ frames := 1, cells := 0, slots := 0, locals := 21 } : Room) sp_X1_amountOn := dm_meth (own := RX1) (X := x_X1_amountOn) (Sp := k_X1_amountOn) (prog := p_X1_amountOn) (by decide +kernel) rfl rfl (dm_FO_s ffX1 [(9, 1, 1), (28, 1, 6), (40, 1, 0)] rfl dm_hT (by decide +kernel)) (dm_IO_s ifX1 jfX1 [] [] rfl rfl dm_hT (by decide +kernel) (by decide +kernel)) soC (dm_MO_of (List.forall_mem_cons.mpr ⟨dm_M1_of (t_X2_lowOf l D cA ad) dm_hT (dm_mem [588, 67, 585] (by decide +kernel) (by decide +kernel)) (by decide) (by decide +kernel) (Or.inr ⟨by decide, dm_mem [586, 587] (by decide +kernel) (by decide +kernel), rfl⟩), fun _ h => absurd h List.not_mem_nil⟩)) v_X1_amountOn u_X1_amountOn
def sp_X1_isBalanced (As : List Value) (u : dm_S) (Q : Option Value → dm_S → Prop) : Prop := match As with
  | [.ref 2] => ∃ n : Nat, n ≤ 24 ∧ u.1 1 8 = nI n ∧ ((∀ j, j < n → u.2 25 j = 0) → Q (some (.int 1)) u) ∧ ((∃ j, j < n ∧ ¬ u.2 25 j = 0) → Q (some (.int 0)) u)
  | _ => False
def p_X1_isBalanced : List dm_I := [(0, .iconst 0, 1, []), (1, .istore_n 1, 1, [1]), (2, .iload_n 1, 1, [1]), (3, .aload_n 0, 1, [0]), (4, .getfield 40, 3, []), (7, .getfield 89, 3, []), (10, .if_icmp .ge 22, 3, [32]), (13, .aload_n 0, 1, [0]), (14, .getfield 31, 3, []), (17, .iload_n 1, 1, [1]), (18, .laload, 1, []), (19, .lconst 0, 1, []), (20, .lcmp, 1, []), (21, .ifCond .eq 5, 3, [26]), (24, .iconst 0, 1, []), (25, .ireturn, 1, []), (26, .iinc 1 1, 3, []), (29, .goto (-27), 3, [2]), (32, .iconst 1, 1, []), (33, .ireturn, 1, [])]
set_option maxRecDepth 100000 in
theorem v_X1_isBalanced : p_X1_isBalanced.all (dm_vb cX1_isBalanced) = true := by decide +kernel
def k_X1_isBalanced : dm_Sp := fun a => match a with
  | _ => fun _ _ _ => False
def x_X1_isBalanced : dm_X := dm_mk [(31, 1, 7), (40, 1, 0), (89, 2, 8)] [] [] [] 3
set_option maxRecDepth 100000 in
set_option maxHeartbeats 400000 in
theorem u_X1_isBalanced : dm_Pure shC x_X1_isBalanced k_X1_isBalanced p_X1_isBalanced 2 sp_X1_isBalanced := by
  intro As u Qp h
  unfold sp_X1_isBalanced at h
  split at h
  · obtain ⟨n, hn, en, h1, h2⟩ := h
    refine ⟨Nat.le_of_ble_eq_true rfl, fun G Wp hW0 hW1 hG => ?_⟩
    have loop : ∀ k i : Nat, i + k = n → (∀ j, j < i → u.2 25 j = 0) → G 2 [some (.ref 2), some (.int (nI i))] [] u := by
      intro k
      induction k with
      | zero =>
        intro i hi hz
        apply hG (fun pc => pc == 2) 30
        simp (config := { maxSteps := 2000000 }) [hW0, hW1, dm_fn, dm_fd, dm_x, dm_L0, dm_la, dm_t1, dm_sw, List.headD, dm_ic, dm_mk, dm_s1, dm_s2, dm_clr, dm_cs, dm_cc, dm_nb0, dm_nb1, Value.category, List.lookup, p_X1_isBalanced, x_X1_isBalanced, k_X1_isBalanced, dm_cm, upd, vp_updL, dm_ui_1, dm_ui_2, dm_ul_1, dm_ul_2, sC_0, sC_1, sC_2, sC_3, sC_4, sC_5, sC_6, sC_7, sC_8, sC_9, sC_10, sC_11, sC_12, sC_13, sC_14, sC_15, sC_16, sC_17, sC_18, sC_19, sC_20, sC_21, sC_22, sC_23, sC_24, sC_25, sC_26, sC_27, sC_28, sC_29, sC_30, sC_31, sC_32, sC_33, sC_34, sC_35, sC_36, sC_37, sC_38, sC_39, sC_40, sC_41, sC_42, sC_43, sC_44, sC_45, sC_46, sC_47, sC_48, sC_49, sC_50, sC_51]
        have e : i = n := by omega
        subst e
        rw [en]
        exact ⟨fun _ => h1 hz, fun q => absurd q (nI_nlt (Nat.le_refl _) (by omega))⟩
      | succ k ih =>
        intro i hi hz
        apply hG (fun pc => pc == 2) 30
        simp (config := { maxSteps := 2000000 }) [hW0, hW1, dm_fn, dm_fd, dm_x, dm_L0, dm_la, dm_t1, dm_sw, List.headD, dm_ic, dm_mk, dm_s1, dm_s2, dm_clr, dm_cs, dm_cc, dm_nb0, dm_nb1, Value.category, List.lookup, p_X1_isBalanced, x_X1_isBalanced, k_X1_isBalanced, dm_cm, upd, vp_updL, dm_ui_1, dm_ui_2, dm_ul_1, dm_ul_2, sC_0, sC_1, sC_2, sC_3, sC_4, sC_5, sC_6, sC_7, sC_8, sC_9, sC_10, sC_11, sC_12, sC_13, sC_14, sC_15, sC_16, sC_17, sC_18, sC_19, sC_20, sC_21, sC_22, sC_23, sC_24, sC_25, sC_26, sC_27, sC_28, sC_29, sC_30, sC_31, sC_32, sC_33, sC_34, sC_35, sC_36, sC_37, sC_38, sC_39, sC_40, sC_41, sC_42, sC_43, sC_44, sC_45, sC_46, sC_47, sC_48, sC_49, sC_50, sC_51]
        rw [en, nI_clamp (by omega), nI_1]
        refine ⟨fun q => absurd q (nI_ge (by omega) (by omega)), fun q => ⟨vp_in_nI (by omega) (by omega), fun z => ih (i + 1) (by omega) (fun j hj => ?_), fun z => h2 ⟨i, by omega, z⟩⟩⟩
        rcases Nat.lt_or_ge j i with y | y
        · exact hz j y
        · rw [show j = i by omega]; exact z
    apply hG (fun pc => pc == 2) 30
    simp (config := { maxSteps := 2000000 }) [hW0, hW1, dm_fn, dm_fd, dm_x, dm_L0, dm_la, dm_t1, dm_sw, List.headD, dm_ic, dm_mk, dm_s1, dm_s2, dm_clr, dm_cs, dm_cc, dm_nb0, dm_nb1, Value.category, List.lookup, p_X1_isBalanced, x_X1_isBalanced, k_X1_isBalanced, dm_cm, upd, vp_updL, dm_ui_1, dm_ui_2, dm_ul_1, dm_ul_2, sC_0, sC_1, sC_2, sC_3, sC_4, sC_5, sC_6, sC_7, sC_8, sC_9, sC_10, sC_11, sC_12, sC_13, sC_14, sC_15, sC_16, sC_17, sC_18, sC_19, sC_20, sC_21, sC_22, sC_23, sC_24, sC_25, sC_26, sC_27, sC_28, sC_29, sC_30, sC_31, sC_32, sC_33, sC_34, sC_35, sC_36, sC_37, sC_38, sC_39, sC_40, sC_41, sC_42, sC_43, sC_44, sC_45, sC_46, sC_47, sC_48, sC_49, sC_50, sC_51]
    exact loop n 0 (by omega) (fun j hj => by omega)
  · exact h.elim
set_option maxRecDepth 100000 in
theorem t_X1_isBalanced (l : Launch) (D : va_G) (cA : Nat → ClassId) (ad : Nat → Nat) : dm_Met l D dm_cl cA ad shC yX1_isBalanced (Cond.code yX1_isBalanced cX1_isBalanced 2 (dm_rt 3) :: dm_tt) ({ frames := 0, cells := 0, slots := 0, locals := 0 } : Room) sp_X1_isBalanced := dm_meth (own := RX1) (X := x_X1_isBalanced) (Sp := k_X1_isBalanced) (prog := p_X1_isBalanced) (by decide +kernel) rfl rfl (dm_FO_s ffX1 [(31, 1, 7), (40, 1, 0), (89, 2, 8)] rfl dm_hT (by decide +kernel)) (dm_IO_s ifX1 jfX1 [] [] rfl rfl dm_hT (by decide +kernel) (by decide +kernel)) soC (dm_MO_of (fun _ h => absurd h List.not_mem_nil)) v_X1_isBalanced u_X1_isBalanced
/-- THE SET's members: those of which b tells -/
def dm_ct (b : Nat → Bool) : Nat → Nat
  | 0 => 0
  | n + 1 => dm_ct b n + (if b n then 1 else 0)
theorem dm_ct_le (b : Nat → Bool) : ∀ n, dm_ct b n ≤ n
  | 0 => Nat.le_refl _
  | n + 1 => by
    have := dm_ct_le b n
    unfold dm_ct
    split <;> omega
def dm_co (u : dm_S) (b : Nat → Bool) : Nat → dm_S
  | 0 => dm_ui u 9 2 0
  | n + 1 => if b n then dm_ui (dm_ui (dm_co u b n) 48 (dm_ct b n) (nI n)) 9 2 (nI (dm_ct b n + 1)) else dm_co u b n
theorem dm_co_at (u : dm_S) (b : Nat → Bool) : ∀ n, (dm_co u b n).1 9 2 = nI (dm_ct b n) ∧ (∀ c, c ≠ 9 → c ≠ 48 → (dm_co u b n).1 c = u.1 c) ∧ (dm_co u b n).2 = u.2
  | 0 => ⟨rfl, fun c h1 _ => if_neg h1, rfl⟩
  | n + 1 => by
    obtain ⟨h1, h2, h3⟩ := dm_co_at u b n
    rw [show dm_co u b (n + 1) = if b n then dm_ui (dm_ui (dm_co u b n) 48 (dm_ct b n) (nI n)) 9 2 (nI (dm_ct b n + 1)) else dm_co u b n from rfl, show dm_ct b (n + 1) = dm_ct b n + (if b n then 1 else 0) from rfl]
    by_cases e : b n = true
    · rw [if_pos e, if_pos e]
      refine ⟨rfl, fun c q1 q2 => ?_, h3⟩
      rw [dm_ui_1, if_neg q1, dm_ui_1, if_neg q2]
      exact h2 c q1 q2
    · rw [if_neg e, if_neg e]
      exact ⟨h1, h2, h3⟩
def sp_X8_takeAll (As : List Value) (u : dm_S) (Q : Option Value → dm_S → Prop) : Prop := match As with
  | [.ref 9] => ∃ n : Nat, n ≤ 24 ∧ u.1 1 8 = nI n ∧ Q none (dm_co u (fun _ => true) n)
  | _ => False
def p_X8_takeAll : List dm_I := [(0, .aload_n 0, 1, [0]), (1, .iconst 0, 1, []), (2, .putfield 19, 3, []), (5, .iconst 0, 1, []), (6, .istore_n 1, 1, [1]), (7, .iload_n 1, 1, [1]), (8, .aload_n 0, 1, [0]), (9, .getfield 15, 3, []), (12, .getfield 23, 3, []), (15, .if_icmp .ge 29, 3, [44]), (18, .aload_n 0, 1, [0]), (19, .getfield 9, 3, []), (22, .aload_n 0, 1, [0]), (23, .getfield 19, 3, []), (26, .iload_n 1, 1, [1]), (27, .iastore, 1, []), (28, .aload_n 0, 1, [0]), (29, .dup, 1, []), (30, .getfield 19, 3, []), (33, .iconst 1, 1, []), (34, .iadd, 1, []), (35, .putfield 19, 3, []), (38, .iinc 1 1, 3, []), (41, .goto (-34), 3, [7]), (44, .return_, 1, [])]
set_option maxRecDepth 100000 in
theorem v_X8_takeAll : p_X8_takeAll.all (dm_vb cX8_takeAll) = true := by decide +kernel
def k_X8_takeAll : dm_Sp := fun a => match a with
  | _ => fun _ _ _ => False
def x_X8_takeAll : dm_X := dm_mk [(9, 8, 1), (15, 8, 0), (19, 8, 2), (23, 2, 8)] [] [] [] 0
set_option maxRecDepth 100000 in
set_option maxHeartbeats 400000 in
theorem u_X8_takeAll : dm_Pure shC x_X8_takeAll k_X8_takeAll p_X8_takeAll 2 sp_X8_takeAll := by
  intro As u Qp h
  unfold sp_X8_takeAll at h
  split at h
  · obtain ⟨n, hn, en, h⟩ := h
    refine ⟨Nat.le_of_ble_eq_true rfl, fun G Wp hW0 hW1 hG => ?_⟩
    have loop : ∀ k i : Nat, i + k = n → G 7 [some (.ref 9), some (.int (nI i))] [] (dm_co u (fun _ => true) i) := by
      intro k
      induction k with
      | zero =>
        intro i hi
        obtain ⟨a1, a2, a3⟩ := dm_co_at u (fun _ => true) i
        apply hG (fun pc => pc == 7) 30
        simp (config := { maxSteps := 2000000 }) [hW0, hW1, dm_fn, dm_fd, dm_x, dm_L0, dm_la, dm_t1, dm_sw, List.headD, dm_ic, dm_mk, dm_s1, dm_s2, dm_clr, dm_cs, dm_cc, dm_nb0, dm_nb1, Value.category, List.lookup, p_X8_takeAll, x_X8_takeAll, k_X8_takeAll, dm_cm, upd, vp_updL, dm_ui_1, dm_ui_2, dm_ul_1, dm_ul_2, sC_0, sC_1, sC_2, sC_3, sC_4, sC_5, sC_6, sC_7, sC_8, sC_9, sC_10, sC_11, sC_12, sC_13, sC_14, sC_15, sC_16, sC_17, sC_18, sC_19, sC_20, sC_21, sC_22, sC_23, sC_24, sC_25, sC_26, sC_27, sC_28, sC_29, sC_30, sC_31, sC_32, sC_33, sC_34, sC_35, sC_36, sC_37, sC_38, sC_39, sC_40, sC_41, sC_42, sC_43, sC_44, sC_45, sC_46, sC_47, sC_48, sC_49, sC_50, sC_51]
        have e : i = n := by omega
        subst e
        rw [a2 1 (by decide) (by decide), en]
        exact ⟨fun _ => h, fun q => absurd q (nI_nlt (Nat.le_refl _) (by omega))⟩
      | succ k ih =>
        intro i hi
        obtain ⟨a1, a2, a3⟩ := dm_co_at u (fun _ => true) i
        have hc := dm_ct_le (fun _ => true) i
        apply hG (fun pc => pc == 7) 30
        simp (config := { maxSteps := 2000000 }) [hW0, hW1, dm_fn, dm_fd, dm_x, dm_L0, dm_la, dm_t1, dm_sw, List.headD, dm_ic, dm_mk, dm_s1, dm_s2, dm_clr, dm_cs, dm_cc, dm_nb0, dm_nb1, Value.category, List.lookup, p_X8_takeAll, x_X8_takeAll, k_X8_takeAll, dm_cm, upd, vp_updL, dm_ui_1, dm_ui_2, dm_ul_1, dm_ul_2, sC_0, sC_1, sC_2, sC_3, sC_4, sC_5, sC_6, sC_7, sC_8, sC_9, sC_10, sC_11, sC_12, sC_13, sC_14, sC_15, sC_16, sC_17, sC_18, sC_19, sC_20, sC_21, sC_22, sC_23, sC_24, sC_25, sC_26, sC_27, sC_28, sC_29, sC_30, sC_31, sC_32, sC_33, sC_34, sC_35, sC_36, sC_37, sC_38, sC_39, sC_40, sC_41, sC_42, sC_43, sC_44, sC_45, sC_46, sC_47, sC_48, sC_49, sC_50, sC_51]
        rw [a2 1 (by decide) (by decide), en, a1, nI_1, nI_1, nI_clamp (by omega)]
        exact ⟨fun q => absurd q (nI_ge (by omega) (by omega)), fun q => ⟨vp_in_nI (by omega) (by omega), ih (i + 1) (by omega)⟩⟩
    apply hG (fun pc => pc == 7) 30
    simp (config := { maxSteps := 2000000 }) [hW0, hW1, dm_fn, dm_fd, dm_x, dm_L0, dm_la, dm_t1, dm_sw, List.headD, dm_ic, dm_mk, dm_s1, dm_s2, dm_clr, dm_cs, dm_cc, dm_nb0, dm_nb1, Value.category, List.lookup, p_X8_takeAll, x_X8_takeAll, k_X8_takeAll, dm_cm, upd, vp_updL, dm_ui_1, dm_ui_2, dm_ul_1, dm_ul_2, sC_0, sC_1, sC_2, sC_3, sC_4, sC_5, sC_6, sC_7, sC_8, sC_9, sC_10, sC_11, sC_12, sC_13, sC_14, sC_15, sC_16, sC_17, sC_18, sC_19, sC_20, sC_21, sC_22, sC_23, sC_24, sC_25, sC_26, sC_27, sC_28, sC_29, sC_30, sC_31, sC_32, sC_33, sC_34, sC_35, sC_36, sC_37, sC_38, sC_39, sC_40, sC_41, sC_42, sC_43, sC_44, sC_45, sC_46, sC_47, sC_48, sC_49, sC_50, sC_51]
    exact loop n 0 (by omega)
  · exact h.elim
set_option maxRecDepth 100000 in
theorem t_X8_takeAll (l : Launch) (D : va_G) (cA : Nat → ClassId) (ad : Nat → Nat) : dm_Met l D dm_cl cA ad shC yX8_takeAll (Cond.code yX8_takeAll cX8_takeAll 2 (dm_rt 0) :: dm_tt) ({ frames := 0, cells := 0, slots := 0, locals := 0 } : Room) sp_X8_takeAll := dm_meth (own := RX8) (X := x_X8_takeAll) (Sp := k_X8_takeAll) (prog := p_X8_takeAll) (by decide +kernel) rfl rfl (dm_FO_s ffX8 [(9, 8, 1), (15, 8, 0), (19, 8, 2), (23, 2, 8)] rfl dm_hT (by decide +kernel)) (dm_IO_s ifX8 jfX8 [] [] rfl rfl dm_hT (by decide +kernel) (by decide +kernel)) soC (dm_MO_of (fun _ h => absurd h List.not_mem_nil)) v_X8_takeAll u_X8_takeAll
def sp_X8_takeSeen (As : List Value) (u : dm_S) (Q : Option Value → dm_S → Prop) : Prop := match As with
  | [.ref 9, .ref 33] => ∃ n : Nat, n ≤ 24 ∧ u.1 1 8 = nI n ∧ Q none (dm_co u (fun j => !decide (u.1 33 j = -2)) n)
  | _ => False
def p_X8_takeSeen : List dm_I := [(0, .aload_n 0, 1, [0]), (1, .iconst 0, 1, []), (2, .putfield 19, 3, []), (5, .iconst 0, 1, []), (6, .istore_n 2, 1, [2]), (7, .iload_n 2, 1, [2]), (8, .aload_n 0, 1, [0]), (9, .getfield 15, 3, []), (12, .getfield 23, 3, []), (15, .if_icmp .ge 37, 3, [52]), (18, .aload_n 1, 1, [1]), (19, .iload_n 2, 1, [2]), (20, .iaload, 1, []), (21, .bipush (-2), 2, []), (23, .if_icmp .eq 23, 3, [46]), (26, .aload_n 0, 1, [0]), (27, .getfield 9, 3, []), (30, .aload_n 0, 1, [0]), (31, .getfield 19, 3, []), (34, .iload_n 2, 1, [2]), (35, .iastore, 1, []), (36, .aload_n 0, 1, [0]), (37, .dup, 1, []), (38, .getfield 19, 3, []), (41, .iconst 1, 1, []), (42, .iadd, 1, []), (43, .putfield 19, 3, []), (46, .iinc 2 1, 3, []), (49, .goto (-42), 3, [7]), (52, .return_, 1, [])]
set_option maxRecDepth 100000 in
theorem v_X8_takeSeen : p_X8_takeSeen.all (dm_vb cX8_takeSeen) = true := by decide +kernel
def k_X8_takeSeen : dm_Sp := fun a => match a with
  | _ => fun _ _ _ => False
def x_X8_takeSeen : dm_X := dm_mk [(9, 8, 1), (15, 8, 0), (19, 8, 2), (23, 2, 8)] [] [] [] 0
set_option maxRecDepth 100000 in
set_option maxHeartbeats 400000 in
theorem u_X8_takeSeen : dm_Pure shC x_X8_takeSeen k_X8_takeSeen p_X8_takeSeen 3 sp_X8_takeSeen := by
  intro As u Qp h
  unfold sp_X8_takeSeen at h
  split at h
  · obtain ⟨n, hn, en, h⟩ := h
    refine ⟨Nat.le_of_ble_eq_true rfl, fun G Wp hW0 hW1 hG => ?_⟩
    generalize hb : (fun j => !decide (u.1 33 j = -2)) = b at h
    have loop : ∀ k i : Nat, i + k = n → G 7 [some (.ref 9), some (.ref 33), some (.int (nI i))] [] (dm_co u b i) := by
      intro k
      induction k with
      | zero =>
        intro i hi
        obtain ⟨a1, a2, a3⟩ := dm_co_at u b i
        apply hG (fun pc => pc == 7) 30
        simp (config := { maxSteps := 2000000 }) [hW0, hW1, dm_fn, dm_fd, dm_x, dm_L0, dm_la, dm_t1, dm_sw, List.headD, dm_ic, dm_mk, dm_s1, dm_s2, dm_clr, dm_cs, dm_cc, dm_nb0, dm_nb1, Value.category, List.lookup, p_X8_takeSeen, x_X8_takeSeen, k_X8_takeSeen, dm_cm, upd, vp_updL, dm_ui_1, dm_ui_2, dm_ul_1, dm_ul_2, sC_0, sC_1, sC_2, sC_3, sC_4, sC_5, sC_6, sC_7, sC_8, sC_9, sC_10, sC_11, sC_12, sC_13, sC_14, sC_15, sC_16, sC_17, sC_18, sC_19, sC_20, sC_21, sC_22, sC_23, sC_24, sC_25, sC_26, sC_27, sC_28, sC_29, sC_30, sC_31, sC_32, sC_33, sC_34, sC_35, sC_36, sC_37, sC_38, sC_39, sC_40, sC_41, sC_42, sC_43, sC_44, sC_45, sC_46, sC_47, sC_48, sC_49, sC_50, sC_51]
        have e : i = n := by omega
        subst e
        rw [a2 1 (by decide) (by decide), en]
        exact ⟨fun _ => h, fun q => absurd q (nI_nlt (Nat.le_refl _) (by omega))⟩
      | succ k ih =>
        intro i hi
        obtain ⟨a1, a2, a3⟩ := dm_co_at u b i
        have hc := dm_ct_le b i
        have e := ih (i + 1) (by omega)
        apply hG (fun pc => pc == 7) 30
        simp (config := { maxSteps := 2000000 }) [hW0, hW1, dm_fn, dm_fd, dm_x, dm_L0, dm_la, dm_t1, dm_sw, List.headD, dm_ic, dm_mk, dm_s1, dm_s2, dm_clr, dm_cs, dm_cc, dm_nb0, dm_nb1, Value.category, List.lookup, p_X8_takeSeen, x_X8_takeSeen, k_X8_takeSeen, dm_cm, upd, vp_updL, dm_ui_1, dm_ui_2, dm_ul_1, dm_ul_2, sC_0, sC_1, sC_2, sC_3, sC_4, sC_5, sC_6, sC_7, sC_8, sC_9, sC_10, sC_11, sC_12, sC_13, sC_14, sC_15, sC_16, sC_17, sC_18, sC_19, sC_20, sC_21, sC_22, sC_23, sC_24, sC_25, sC_26, sC_27, sC_28, sC_29, sC_30, sC_31, sC_32, sC_33, sC_34, sC_35, sC_36, sC_37, sC_38, sC_39, sC_40, sC_41, sC_42, sC_43, sC_44, sC_45, sC_46, sC_47, sC_48, sC_49, sC_50, sC_51]
        rw [a2 1 (by decide) (by decide), a2 33 (by decide) (by decide), en, a1, nI_1, nI_1, nI_clamp (n := i) (by omega), nI_clamp (by omega)]
        rw [show dm_co u b (i + 1) = if b i then dm_ui (dm_ui (dm_co u b i) 48 (dm_ct b i) (nI i)) 9 2 (nI (dm_ct b i + 1)) else dm_co u b i from rfl] at e
        refine ⟨fun q => absurd q (nI_ge (by omega) (by omega)), fun q => ⟨vp_in_nI (by omega) (by omega), fun z => ?_, fun z => ⟨vp_in_nI (by omega) (by omega), ?_⟩⟩⟩
        · rw [if_neg (by rw [← hb]; simp [z])] at e; exact e
        · rw [if_pos (by rw [← hb]; simp [z])] at e; exact e
    apply hG (fun pc => pc == 7) 30
    simp (config := { maxSteps := 2000000 }) [hW0, hW1, dm_fn, dm_fd, dm_x, dm_L0, dm_la, dm_t1, dm_sw, List.headD, dm_ic, dm_mk, dm_s1, dm_s2, dm_clr, dm_cs, dm_cc, dm_nb0, dm_nb1, Value.category, List.lookup, p_X8_takeSeen, x_X8_takeSeen, k_X8_takeSeen, dm_cm, upd, vp_updL, dm_ui_1, dm_ui_2, dm_ul_1, dm_ul_2, sC_0, sC_1, sC_2, sC_3, sC_4, sC_5, sC_6, sC_7, sC_8, sC_9, sC_10, sC_11, sC_12, sC_13, sC_14, sC_15, sC_16, sC_17, sC_18, sC_19, sC_20, sC_21, sC_22, sC_23, sC_24, sC_25, sC_26, sC_27, sC_28, sC_29, sC_30, sC_31, sC_32, sC_33, sC_34, sC_35, sC_36, sC_37, sC_38, sC_39, sC_40, sC_41, sC_42, sC_43, sC_44, sC_45, sC_46, sC_47, sC_48, sC_49, sC_50, sC_51]
    exact loop n 0 (by omega)
  · exact h.elim
set_option maxRecDepth 100000 in
theorem t_X8_takeSeen (l : Launch) (D : va_G) (cA : Nat → ClassId) (ad : Nat → Nat) : dm_Met l D dm_cl cA ad shC yX8_takeSeen (Cond.code yX8_takeSeen cX8_takeSeen 3 (dm_rt 0) :: dm_tt) ({ frames := 0, cells := 0, slots := 0, locals := 0 } : Room) sp_X8_takeSeen := dm_meth (own := RX8) (X := x_X8_takeSeen) (Sp := k_X8_takeSeen) (prog := p_X8_takeSeen) (by decide +kernel) rfl rfl (dm_FO_s ffX8 [(9, 8, 1), (15, 8, 0), (19, 8, 2), (23, 2, 8)] rfl dm_hT (by decide +kernel)) (dm_IO_s ifX8 jfX8 [] [] rfl rfl dm_hT (by decide +kernel) (by decide +kernel)) soC (dm_MO_of (fun _ h => absurd h List.not_mem_nil)) v_X8_takeSeen u_X8_takeSeen
