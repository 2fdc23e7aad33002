/-! ===== Ways: the WAYS are gathered ===== -/
/-- the first of n places from p on of which b tells; the last one -/
def dm_fst (b : Nat → Bool) : Nat → Nat → Option Nat
  | _, 0 => none
  | p, n + 1 => if b p then some p else dm_fst b (p + 1) n
def dm_lst (b : Nat → Bool) (p : Nat) : Nat → Option Nat
  | 0 => none
  | n + 1 => if b (p + n) then some (p + n) else dm_lst b p n
/-- a way is added -/
def dm_ad (u : dm_S) (w : Nat) : dm_S := dm_ui (dm_ul (dm_ui (dm_ui (dm_ui u 28 (u.1 3 6).toNatClampNeg (nI w)) 29 (u.1 3 6).toNatClampNeg (lw_b u w)) 30 (u.1 3 6).toNatClampNeg (lw_e u w)) 31 (u.1 3 6).toNatClampNeg (lw_r u w)) 3 6 (u.1 3 6 + 1)
def dm_ao (u : dm_S) (o : Option Nat) : dm_S := match o with
  | some w => dm_ad u w
  | none => u
def wy_al (u : dm_S) (p n : Nat) : Option Nat := (dm_fst (fun l => decide (u.2 24 l < u.2 22 l)) p n).map (fun l => 2 * l)
def wy_ag (u : dm_S) (p n : Nat) : Option Nat := (dm_lst (fun l => decide (0 < u.2 24 l)) p n).map (fun l => 2 * l + 1)
def sp_X9_gatherAlong (As : List Value) (u : dm_S) (Q : Option Value → dm_S → Prop) : Prop := match As with
  | [.ref 3, .int x] => ∃ a p n : Nat, a < 80 ∧ x = nI a ∧ u.1 19 a = nI p ∧ u.1 19 (a + 1) = nI (p + n) ∧ p + n ≤ 320 ∧ vp_in (u.1 3 6) 160 ∧ Q none (dm_ao u (wy_al u p n))
  | _ => False
def p_X9_gatherAlong : List dm_I := [(0, .aload_n 0, 1, [0]), (1, .getfield 29, 3, []), (4, .getfield 49, 3, []), (7, .iload_n 1, 1, [1]), (8, .iaload, 1, []), (9, .istore_n 2, 1, [2]), (10, .iload_n 2, 1, [2]), (11, .aload_n 0, 1, [0]), (12, .getfield 29, 3, []), (15, .getfield 49, 3, []), (18, .iload_n 1, 1, [1]), (19, .iconst 1, 1, []), (20, .iadd, 1, []), (21, .iaload, 1, []), (22, .if_icmp .ge 39, 3, [61]), (25, .aload_n 0, 1, [0]), (26, .getfield 29, 3, []), (29, .getfield 54, 3, []), (32, .iload_n 2, 1, [2]), (33, .laload, 1, []), (34, .aload_n 0, 1, [0]), (35, .getfield 29, 3, []), (38, .getfield 57, 3, []), (41, .iload_n 2, 1, [2]), (42, .laload, 1, []), (43, .lcmp, 1, []), (44, .ifCond .ge 11, 3, [55]), (47, .aload_n 0, 1, [0]), (48, .iconst 2, 1, []), (49, .iload_n 2, 1, [2]), (50, .imul, 1, []), (51, .invokevirtual 60, 3, []), (54, .return_, 1, []), (55, .iinc 2 1, 3, []), (58, .goto (-48), 3, [10]), (61, .return_, 1, [])]
set_option maxRecDepth 100000 in
theorem v_X9_gatherAlong : p_X9_gatherAlong.all (dm_vb cX9_gatherAlong) = true := by decide +kernel
def k_X9_gatherAlong : dm_Sp := fun a => match a with
  | 0 => sp_X9_add
  | _ => fun _ _ _ => False
def x_X9_gatherAlong : dm_X := dm_mk [(29, 9, 1), (49, 1, 1), (54, 1, 6), (57, 1, 4)] [] [] [(60, 0, 1, 9)] 0
set_option maxRecDepth 100000 in
set_option maxHeartbeats 400000 in
theorem u_X9_gatherAlong : dm_Pure shC x_X9_gatherAlong k_X9_gatherAlong p_X9_gatherAlong 3 sp_X9_gatherAlong := by
  intro As u Qp h
  unfold sp_X9_gatherAlong at h
  split at h
  · obtain ⟨a, p, n, ha, rfl, e1, e2, hn, hc, h⟩ := h
    refine ⟨Nat.le_of_ble_eq_true rfl, fun G Wp hW0 hW1 hG => ?_⟩
    have ca : (nI a).toNatClampNeg = a := nI_clamp (by omega)
    have cb : (nI (a + 1)).toNatClampNeg = a + 1 := nI_clamp (by omega)
    have i1 : vp_in (nI a) 81 := vp_in_nI (by omega) (by omega)
    have i2 : vp_in (nI (a + 1)) 81 := vp_in_nI (by omega) (by omega)
    have loop : ∀ k i : Nat, i + k = n → dm_fst (fun l => decide (u.2 24 l < u.2 22 l)) p n = dm_fst (fun l => decide (u.2 24 l < u.2 22 l)) (p + i) k → G 10 [some (.ref 3), some (.int (nI a)), some (.int (nI (p + i)))] [] u := by
      intro k
      induction k with
      | zero =>
        intro i hi hf
        apply hG (fun pc => pc == 10) 40
        simp (config := { maxSteps := 2000000 }) [hW0, hW1, dm_fn, dm_fd, dm_x, dm_L0, dm_la, dm_t1, dm_sw, List.headD, dm_ic, dm_mk, dm_s1, dm_s2, dm_clr, dm_cs, dm_cc, dm_nb0, dm_nb1, Value.category, List.lookup, p_X9_gatherAlong, x_X9_gatherAlong, k_X9_gatherAlong, dm_cm, upd, vp_updL, dm_ui_1, dm_ui_2, dm_ul_1, dm_ul_2, sp_X9_add, sC_0, sC_1, sC_2, sC_3, sC_4, sC_5, sC_6, sC_7, sC_8, sC_9, sC_10, sC_11, sC_12, sC_13, sC_14, sC_15, sC_16, sC_17, sC_18, sC_19, sC_20, sC_21, sC_22, sC_23, sC_24, sC_25, sC_26, sC_27, sC_28, sC_29, sC_30, sC_31, sC_32, sC_33, sC_34, sC_35, sC_36, sC_37, sC_38, sC_39, sC_40, sC_41, sC_42, sC_43, sC_44, sC_45, sC_46, sC_47, sC_48, sC_49, sC_50, sC_51]
        rw [nI_1, cb, e2]
        have e : i = n := by omega
        subst e
        refine ⟨i2, fun _ => ?_, fun q => absurd q (nI_nlt (Nat.le_refl _) (by omega))⟩
        rw [wy_al, hf] at h
        exact h
      | succ k ih =>
        intro i hi hf
        have e := ih (i + 1) (by omega)
        have c1 : (nI (p + i)).toNatClampNeg = p + i := nI_clamp (by omega)
        have i3 : vp_in (nI (p + i)) 320 := vp_in_nI (by omega) (by omega)
        apply hG (fun pc => pc == 10) 40
        simp (config := { maxSteps := 2000000 }) [hW0, hW1, dm_fn, dm_fd, dm_x, dm_L0, dm_la, dm_t1, dm_sw, List.headD, dm_ic, dm_mk, dm_s1, dm_s2, dm_clr, dm_cs, dm_cc, dm_nb0, dm_nb1, Value.category, List.lookup, p_X9_gatherAlong, x_X9_gatherAlong, k_X9_gatherAlong, dm_cm, upd, vp_updL, dm_ui_1, dm_ui_2, dm_ul_1, dm_ul_2, sp_X9_add, sC_0, sC_1, sC_2, sC_3, sC_4, sC_5, sC_6, sC_7, sC_8, sC_9, sC_10, sC_11, sC_12, sC_13, sC_14, sC_15, sC_16, sC_17, sC_18, sC_19, sC_20, sC_21, sC_22, sC_23, sC_24, sC_25, sC_26, sC_27, sC_28, sC_29, sC_30, sC_31, sC_32, sC_33, sC_34, sC_35, sC_36, sC_37, sC_38, sC_39, sC_40, sC_41, sC_42, sC_43, sC_44, sC_45, sC_46, sC_47, sC_48, sC_49, sC_50, sC_51]
        rw [nI_1, nI_1, cb, e2, c1, show (2 : Int32) = nI 2 from rfl, pk_mul]
        rw [show dm_fst (fun l => decide (u.2 24 l < u.2 22 l)) (p + i) (k + 1) = if decide (u.2 24 (p + i) < u.2 22 (p + i)) then some (p + i) else dm_fst (fun l => decide (u.2 24 l < u.2 22 l)) (p + i + 1) k from rfl] at hf
        refine ⟨i2, fun q => absurd q (nI_ge (by omega) (by omega)), fun q => ⟨i3, fun z => e ?_, fun z => ⟨2 * (p + i), by omega, rfl, hc, ?_⟩⟩⟩
        · rw [hf, if_neg (by simpa using dm_l_lt.mpr z)]; rfl
        · rw [wy_al, hf, if_pos (by simpa using z)] at h
          exact h
    apply hG (fun pc => pc == 10) 40
    simp (config := { maxSteps := 2000000 }) [hW0, hW1, dm_fn, dm_fd, dm_x, dm_L0, dm_la, dm_t1, dm_sw, List.headD, dm_ic, dm_mk, dm_s1, dm_s2, dm_clr, dm_cs, dm_cc, dm_nb0, dm_nb1, Value.category, List.lookup, p_X9_gatherAlong, x_X9_gatherAlong, k_X9_gatherAlong, dm_cm, upd, vp_updL, dm_ui_1, dm_ui_2, dm_ul_1, dm_ul_2, sp_X9_add, sC_0, sC_1, sC_2, sC_3, sC_4, sC_5, sC_6, sC_7, sC_8, sC_9, sC_10, sC_11, sC_12, sC_13, sC_14, sC_15, sC_16, sC_17, sC_18, sC_19, sC_20, sC_21, sC_22, sC_23, sC_24, sC_25, sC_26, sC_27, sC_28, sC_29, sC_30, sC_31, sC_32, sC_33, sC_34, sC_35, sC_36, sC_37, sC_38, sC_39, sC_40, sC_41, sC_42, sC_43, sC_44, sC_45, sC_46, sC_47, sC_48, sC_49, sC_50, sC_51]
    rw [ca, e1]
    exact ⟨i1, loop n 0 (by omega) rfl⟩
  · exact h.elim
set_option maxRecDepth 100000 in
theorem t_X9_gatherAlong (l : Launch) (D : va_G) (cA : Nat → ClassId) (ad : Nat → Nat) : dm_Met l D dm_cl cA ad shC yX9_gatherAlong (Cond.code yX9_gatherAlong cX9_gatherAlong 3 (dm_rt 0) :: dm_tt) ({ frames := 2, cells := 0, slots := 0, locals := 42 } : Room) sp_X9_gatherAlong := dm_meth (own := RX9) (X := x_X9_gatherAlong) (Sp := k_X9_gatherAlong) (prog := p_X9_gatherAlong) (by decide +kernel) rfl rfl (dm_FO_s ffX9 [(29, 9, 1), (49, 1, 1), (54, 1, 6), (57, 1, 4)] rfl dm_hT (by decide +kernel)) (dm_IO_s ifX9 jfX9 [] [] rfl rfl dm_hT (by decide +kernel) (by decide +kernel)) soC (dm_MO_of (List.forall_mem_cons.mpr ⟨dm_M1_of (t_X9_add l D cA ad) dm_hT (dm_mem [699, 69, 696] (by decide +kernel) (by decide +kernel)) (by decide) (by decide +kernel) (Or.inr ⟨by decide, dm_mem [698, 16] (by decide +kernel) (by decide +kernel), rfl⟩), fun _ h => absurd h List.not_mem_nil⟩)) v_X9_gatherAlong u_X9_gatherAlong
theorem dm_pm {p : Nat} (h : p ≤ 640) : nI p - 1 < nI p := by
  rw [Int32.lt_iff_toInt_lt, show (1 : Int32) = nI 1 from rfl, pk_sub_toInt (by omega) (by omega), nI_toInt (by omega)]
  omega
theorem dm_m1 (x : Int32) : x + -1 = x - 1 := by rw [Int32.sub_eq_add_neg]
def sp_X9_gatherAgainst (As : List Value) (u : dm_S) (Q : Option Value → dm_S → Prop) : Prop := match As with
  | [.ref 3, .int x] => ∃ a p n : Nat, a < 80 ∧ x = nI a ∧ u.1 19 a = nI p ∧ u.1 19 (a + 1) = nI (p + n) ∧ p + n ≤ 320 ∧ vp_in (u.1 3 6) 160 ∧ Q none (dm_ao u (wy_ag u p n))
  | _ => False
def p_X9_gatherAgainst : List dm_I := [(0, .aload_n 0, 1, [0]), (1, .getfield 29, 3, []), (4, .getfield 49, 3, []), (7, .iload_n 1, 1, [1]), (8, .iconst 1, 1, []), (9, .iadd, 1, []), (10, .iaload, 1, []), (11, .iconst 1, 1, []), (12, .isub, 1, []), (13, .istore_n 2, 1, [2]), (14, .iload_n 2, 1, [2]), (15, .aload_n 0, 1, [0]), (16, .getfield 29, 3, []), (19, .getfield 49, 3, []), (22, .iload_n 1, 1, [1]), (23, .iaload, 1, []), (24, .if_icmp .lt 33, 3, [57]), (27, .aload_n 0, 1, [0]), (28, .getfield 29, 3, []), (31, .getfield 54, 3, []), (34, .iload_n 2, 1, [2]), (35, .laload, 1, []), (36, .lconst 0, 1, []), (37, .lcmp, 1, []), (38, .ifCond .le 13, 3, [51]), (41, .aload_n 0, 1, [0]), (42, .iconst 2, 1, []), (43, .iload_n 2, 1, [2]), (44, .imul, 1, []), (45, .iconst 1, 1, []), (46, .iadd, 1, []), (47, .invokevirtual 60, 3, []), (50, .return_, 1, []), (51, .iinc 2 (-1), 3, []), (54, .goto (-40), 3, [14]), (57, .return_, 1, [])]
set_option maxRecDepth 100000 in
theorem v_X9_gatherAgainst : p_X9_gatherAgainst.all (dm_vb cX9_gatherAgainst) = true := by decide +kernel
def k_X9_gatherAgainst : dm_Sp := fun a => match a with
  | 0 => sp_X9_add
  | _ => fun _ _ _ => False
def x_X9_gatherAgainst : dm_X := dm_mk [(29, 9, 1), (49, 1, 1), (54, 1, 6)] [] [] [(60, 0, 1, 9)] 0
set_option maxRecDepth 100000 in
set_option maxHeartbeats 400000 in
theorem u_X9_gatherAgainst : dm_Pure shC x_X9_gatherAgainst k_X9_gatherAgainst p_X9_gatherAgainst 3 sp_X9_gatherAgainst := by
  intro As u Qp h
  unfold sp_X9_gatherAgainst at h
  split at h
  · obtain ⟨a, p, n, ha, rfl, e1, e2, hn, hc, h⟩ := h
    refine ⟨Nat.le_of_ble_eq_true rfl, fun G Wp hW0 hW1 hG => ?_⟩
    have ca : (nI a).toNatClampNeg = a := nI_clamp (by omega)
    have cb : (nI (a + 1)).toNatClampNeg = a + 1 := nI_clamp (by omega)
    have i1 : vp_in (nI a) 81 := vp_in_nI (by omega) (by omega)
    have i2 : vp_in (nI (a + 1)) 81 := vp_in_nI (by omega) (by omega)
    have loop : ∀ k : Nat, k ≤ n → dm_lst (fun l => decide (0 < u.2 24 l)) p n = dm_lst (fun l => decide (0 < u.2 24 l)) p k → G 14 [some (.ref 3), some (.int (nI a)), some (.int (nI (p + k) - 1))] [] u := by
      intro k
      induction k with
      | zero =>
        intro hi hf
        apply hG (fun pc => pc == 14) 40
        simp (config := { maxSteps := 2000000 }) [hW0, hW1, dm_fn, dm_fd, dm_x, dm_L0, dm_la, dm_t1, dm_sw, List.headD, dm_ic, dm_mk, dm_s1, dm_s2, dm_clr, dm_cs, dm_cc, dm_nb0, dm_nb1, Value.category, List.lookup, p_X9_gatherAgainst, x_X9_gatherAgainst, k_X9_gatherAgainst, dm_cm, upd, vp_updL, dm_ui_1, dm_ui_2, dm_ul_1, dm_ul_2, sp_X9_add, sC_0, sC_1, sC_2, sC_3, sC_4, sC_5, sC_6, sC_7, sC_8, sC_9, sC_10, sC_11, sC_12, sC_13, sC_14, sC_15, sC_16, sC_17, sC_18, sC_19, sC_20, sC_21, sC_22, sC_23, sC_24, sC_25, sC_26, sC_27, sC_28, sC_29, sC_30, sC_31, sC_32, sC_33, sC_34, sC_35, sC_36, sC_37, sC_38, sC_39, sC_40, sC_41, sC_42, sC_43, sC_44, sC_45, sC_46, sC_47, sC_48, sC_49, sC_50, sC_51]
        rw [ca, e1]
        refine ⟨i1, fun _ => ?_, fun q => absurd q (dm_i_le.mpr (dm_pm (by omega)))⟩
        rw [wy_ag, hf] at h
        exact h
      | succ k ih =>
        intro hi hf
        have c1 : (nI (p + k)).toNatClampNeg = p + k := nI_clamp (by omega)
        have i3 : vp_in (nI (p + k)) 320 := vp_in_nI (by omega) (by omega)
        rw [show p + (k + 1) = p + k + 1 from rfl, nI_pred]
        apply hG (fun pc => pc == 14) 40
        simp (config := { maxSteps := 2000000 }) [hW0, hW1, dm_fn, dm_fd, dm_x, dm_L0, dm_la, dm_t1, dm_sw, List.headD, dm_ic, dm_mk, dm_s1, dm_s2, dm_clr, dm_cs, dm_cc, dm_nb0, dm_nb1, Value.category, List.lookup, p_X9_gatherAgainst, x_X9_gatherAgainst, k_X9_gatherAgainst, dm_cm, upd, vp_updL, dm_ui_1, dm_ui_2, dm_ul_1, dm_ul_2, sp_X9_add, sC_0, sC_1, sC_2, sC_3, sC_4, sC_5, sC_6, sC_7, sC_8, sC_9, sC_10, sC_11, sC_12, sC_13, sC_14, sC_15, sC_16, sC_17, sC_18, sC_19, sC_20, sC_21, sC_22, sC_23, sC_24, sC_25, sC_26, sC_27, sC_28, sC_29, sC_30, sC_31, sC_32, sC_33, sC_34, sC_35, sC_36, sC_37, sC_38, sC_39, sC_40, sC_41, sC_42, sC_43, sC_44, sC_45, sC_46, sC_47, sC_48, sC_49, sC_50, sC_51]
        rw [ca, e1, c1, show (2 : Int32) = nI 2 from rfl, pk_mul, nI_1, dm_m1]
        rw [show dm_lst (fun l => decide (0 < u.2 24 l)) p (k + 1) = if decide (0 < u.2 24 (p + k)) then some (p + k) else dm_lst (fun l => decide (0 < u.2 24 l)) p k from rfl] at hf
        refine ⟨i1, fun q => absurd q (nI_nlt (by omega) (by omega)), fun q => ⟨i3, fun z => ih (by omega) ?_, fun z => ⟨2 * (p + k) + 1, by omega, rfl, hc, ?_⟩⟩⟩
        · rw [hf, if_neg (by simpa using dm_l_lt.mpr z)]
        · rw [wy_ag, hf, if_pos (by simpa using z)] at h
          exact h
    apply hG (fun pc => pc == 14) 40
    simp (config := { maxSteps := 2000000 }) [hW0, hW1, dm_fn, dm_fd, dm_x, dm_L0, dm_la, dm_t1, dm_sw, List.headD, dm_ic, dm_mk, dm_s1, dm_s2, dm_clr, dm_cs, dm_cc, dm_nb0, dm_nb1, Value.category, List.lookup, p_X9_gatherAgainst, x_X9_gatherAgainst, k_X9_gatherAgainst, dm_cm, upd, vp_updL, dm_ui_1, dm_ui_2, dm_ul_1, dm_ul_2, sp_X9_add, sC_0, sC_1, sC_2, sC_3, sC_4, sC_5, sC_6, sC_7, sC_8, sC_9, sC_10, sC_11, sC_12, sC_13, sC_14, sC_15, sC_16, sC_17, sC_18, sC_19, sC_20, sC_21, sC_22, sC_23, sC_24, sC_25, sC_26, sC_27, sC_28, sC_29, sC_30, sC_31, sC_32, sC_33, sC_34, sC_35, sC_36, sC_37, sC_38, sC_39, sC_40, sC_41, sC_42, sC_43, sC_44, sC_45, sC_46, sC_47, sC_48, sC_49, sC_50, sC_51]
    rw [nI_1, cb, e2]
    exact ⟨i2, loop n (Nat.le_refl n) rfl⟩
  · exact h.elim
set_option maxRecDepth 100000 in
theorem t_X9_gatherAgainst (l : Launch) (D : va_G) (cA : Nat → ClassId) (ad : Nat → Nat) : dm_Met l D dm_cl cA ad shC yX9_gatherAgainst (Cond.code yX9_gatherAgainst cX9_gatherAgainst 3 (dm_rt 0) :: dm_tt) ({ frames := 2, cells := 0, slots := 0, locals := 42 } : Room) sp_X9_gatherAgainst := dm_meth (own := RX9) (X := x_X9_gatherAgainst) (Sp := k_X9_gatherAgainst) (prog := p_X9_gatherAgainst) (by decide +kernel) rfl rfl (dm_FO_s ffX9 [(29, 9, 1), (49, 1, 1), (54, 1, 6)] rfl dm_hT (by decide +kernel)) (dm_IO_s ifX9 jfX9 [] [] rfl rfl dm_hT (by decide +kernel) (by decide +kernel)) soC (dm_MO_of (List.forall_mem_cons.mpr ⟨dm_M1_of (t_X9_add l D cA ad) dm_hT (dm_mem [699, 69, 696] (by decide +kernel) (by decide +kernel)) (by decide) (by decide +kernel) (Or.inr ⟨by decide, dm_mem [698, 16] (by decide +kernel) (by decide +kernel), rfl⟩), fun _ h => absurd h List.not_mem_nil⟩)) v_X9_gatherAgainst u_X9_gatherAgainst
/-- all ARCS up to a gathered -/
def wy_ga (u : dm_S) (pt : Nat → Nat) : Nat → dm_S
  | 0 => dm_ui u 3 6 0
  | a + 1 => dm_ao (dm_ao (wy_ga u pt a) (wy_al u (cn_fs pt a) (pt a))) (wy_ag u (cn_fs pt a) (pt a))
theorem dm_ao_c {u : dm_S} {o : Option Nat} {n : Nat} (h : u.1 3 6 = nI n) : ∃ m, m ≤ n + 1 ∧ (dm_ao u o).1 3 6 = nI m := by
  cases o with
  | none => exact ⟨n, by omega, h⟩
  | some w => exact ⟨n + 1, by omega, by rw [← nI_1, ← h]; rfl⟩
theorem dm_ao_k {u : dm_S} {o : Option Nat} : (∀ c, c ≠ 3 → c ≠ 28 → c ≠ 29 → c ≠ 30 → (dm_ao u o).1 c = u.1 c) ∧ ∀ c, c ≠ 31 → (dm_ao u o).2 c = u.2 c := by
  cases o with
  | none => exact ⟨fun _ _ _ _ _ => rfl, fun _ _ => rfl⟩
  | some w =>
    refine ⟨fun c h1 h2 h3 h4 => ?_, fun c h1 => ?_⟩
    · simp only [dm_ao, dm_ad, dm_ui_1, dm_ul_1, if_neg h1, if_neg h2, if_neg h3, if_neg h4]
    · simp only [dm_ao, dm_ad, dm_ui_2, dm_ul_2, if_neg h1]
theorem wy_ga_k {u : dm_S} {pt : Nat → Nat} : ∀ a, (∃ n, n ≤ 2 * a ∧ (wy_ga u pt a).1 3 6 = nI n) ∧ (∀ c, c ≠ 3 → c ≠ 28 → c ≠ 29 → c ≠ 30 → (wy_ga u pt a).1 c = u.1 c) ∧ ∀ c, c ≠ 31 → (wy_ga u pt a).2 c = u.2 c
  | 0 => ⟨⟨0, Nat.le_refl _, rfl⟩, fun c h1 _ _ _ => if_neg h1, fun _ _ => rfl⟩
  | a + 1 => by
    obtain ⟨⟨n, hn, e⟩, h1, h2⟩ := wy_ga_k (u := u) (pt := pt) a
    obtain ⟨m, hm, e2⟩ := dm_ao_c (o := wy_al u (cn_fs pt a) (pt a)) e
    obtain ⟨q, hq, e3⟩ := dm_ao_c (o := wy_ag u (cn_fs pt a) (pt a)) e2
    refine ⟨⟨q, by omega, e3⟩, fun c q1 q2 q3 q4 => ?_, fun c q1 => ?_⟩
    · show (dm_ao (dm_ao (wy_ga u pt a) _) _).1 c = _
      rw [dm_ao_k.1 c q1 q2 q3 q4, dm_ao_k.1 c q1 q2 q3 q4, h1 c q1 q2 q3 q4]
    · show (dm_ao (dm_ao (wy_ga u pt a) _) _).2 c = _
      rw [dm_ao_k.2 c q1, dm_ao_k.2 c q1, h2 c q1]
