/-! ===== Lanes: changing what goes on them ===== -/
/-- the state behind push -/
def dm_pu (u : dm_S) (w : Nat) (d : Int64) : dm_S := dm_ul (dm_ul (dm_ul u 24 (w / 2) (u.2 24 (w / 2) + if w % 2 = 0 then d else -d)) 25 (lw_b u w).toNatClampNeg (u.2 25 (lw_b u w).toNatClampNeg - d)) 25 (lw_e u w).toNatClampNeg ((if (lw_e u w).toNatClampNeg = (lw_b u w).toNatClampNeg then u.2 25 (lw_b u w).toNatClampNeg - d else u.2 25 (lw_e u w).toNatClampNeg) + d)
def sp_X1_push (As : List Value) (u : dm_S) (Q : Option Value → dm_S → Prop) : Prop := match As with
  | [.ref 2, .int x, .long d] => ∃ w : Nat, w < 640 ∧ x = nI w ∧ vp_in (lw_b u w) 24 ∧ vp_in (lw_e u w) 24 ∧ Q none (dm_pu u w d)
  | _ => False
def p_X1_push : List dm_I := [(0, .aload_n 0, 1, [0]), (1, .getfield 28, 3, []), (4, .iload_n 1, 1, [1]), (5, .iconst 1, 1, []), (6, .ishr, 1, []), (7, .dup2, 1, []), (8, .laload, 1, []), (9, .iload_n 1, 1, [1]), (10, .iconst 1, 1, []), (11, .iand, 1, []), (12, .ifCond .ne 7, 3, [19]), (15, .lload_n 2, 1, [2]), (16, .goto 5, 3, [21]), (19, .lload_n 2, 1, [2]), (20, .lneg, 1, []), (21, .ladd, 1, []), (22, .lastore, 1, []), (23, .aload_n 0, 1, [0]), (24, .getfield 31, 3, []), (27, .aload_n 0, 1, [0]), (28, .iload_n 1, 1, [1]), (29, .invokevirtual 79, 3, []), (32, .dup2, 1, []), (33, .laload, 1, []), (34, .lload_n 2, 1, [2]), (35, .lsub, 1, []), (36, .lastore, 1, []), (37, .aload_n 0, 1, [0]), (38, .getfield 31, 3, []), (41, .aload_n 0, 1, [0]), (42, .iload_n 1, 1, [1]), (43, .invokevirtual 99, 3, []), (46, .dup2, 1, []), (47, .laload, 1, []), (48, .lload_n 2, 1, [2]), (49, .ladd, 1, []), (50, .lastore, 1, []), (51, .return_, 1, [])]
set_option maxRecDepth 100000 in
theorem v_X1_push : p_X1_push.all (dm_vb cX1_push) = true := by decide +kernel
def k_X1_push : dm_Sp := fun a => match a with
  | 0 => sp_X1_beginOf
  | 1 => sp_X1_endOf
  | _ => fun _ _ _ => False
def x_X1_push : dm_X := dm_mk [(28, 1, 6), (31, 1, 7)] [] [] [(79, 0, 1, 1), (99, 1, 1, 1)] 0
set_option maxRecDepth 100000 in
set_option maxHeartbeats 400000 in
theorem u_X1_push : dm_Pure shC x_X1_push k_X1_push p_X1_push 4 sp_X1_push := by
  intro As u Qp h
  unfold sp_X1_push at h
  split at h
  · refine ⟨Nat.le_of_ble_eq_true rfl, fun G Wp hW0 hW1 hG => ?_⟩
    apply hG (fun _ => false) 39
    simp (config := { maxSteps := 2000000 }) [hW0, hW1, dm_fn, dm_fd, dm_x, dm_L0, dm_la, dm_t1, dm_sw, List.headD, dm_ic, dm_mk, dm_s1, dm_s2, dm_clr, dm_cs, dm_cc, dm_nb0, dm_nb1, Value.category, List.lookup, p_X1_push, x_X1_push, k_X1_push, dm_cm, upd, vp_updL, dm_ui_1, dm_ui_2, dm_ul_1, dm_ul_2, sp_X1_beginOf, sp_X1_endOf, sC_0, sC_1, sC_2, sC_3, sC_4, sC_5, sC_6, sC_7, sC_8, sC_9, sC_10, sC_11, sC_12, sC_13, sC_14, sC_15, sC_16, sC_17, sC_18, sC_19, sC_20, sC_21, sC_22, sC_23, sC_24, sC_25, sC_26, sC_27, sC_28, sC_29, sC_30, sC_31, sC_32, sC_33, sC_34, sC_35, sC_36, sC_37, sC_38, sC_39, sC_40, sC_41, sC_42, sC_43, sC_44, sC_45, sC_46, sC_47, sC_48, sC_49, sC_50, sC_51]
    obtain ⟨w, hw, rfl, h1, h2, h⟩ := h
    simp only [dm_w1 hw, dm_w2 hw, dm_w4 hw]
    refine ⟨dm_w3 hw, fun q => ⟨dm_w3 hw, w, hw, rfl, h1, w, hw, rfl, h2, ?_⟩, fun q => ⟨dm_w3 hw, w, hw, rfl, h1, w, hw, rfl, h2, ?_⟩⟩
    · rw [dm_pu, if_neg q] at h; exact h
    · rw [dm_pu, if_pos q] at h; exact h
  · exact h.elim
set_option maxRecDepth 100000 in
theorem t_X1_push (l : Launch) (D : va_G) (cA : Nat → ClassId) (ad : Nat → Nat) : dm_Met l D dm_cl cA ad shC yX1_push (Cond.code yX1_push cX1_push 4 (dm_rt 0) :: dm_tt) ({ frames := 1, cells := 0, slots := 0, locals := 21 } : Room) sp_X1_push := dm_meth (own := RX1) (X := x_X1_push) (Sp := k_X1_push) (prog := p_X1_push) (by decide +kernel) rfl rfl (dm_FO_s ffX1 [(28, 1, 6), (31, 1, 7)] rfl dm_hT (by decide +kernel)) (dm_IO_s ifX1 jfX1 [] [] rfl rfl dm_hT (by decide +kernel) (by decide +kernel)) soC (dm_MO_of (List.forall_mem_cons.mpr ⟨dm_M1_of (t_X1_beginOf l D cA ad) dm_hT (dm_mem [553, 68, 550] (by decide +kernel) (by decide +kernel)) (by decide) (by decide +kernel) (Or.inr ⟨by decide, dm_mem [551, 552] (by decide +kernel) (by decide +kernel), rfl⟩), List.forall_mem_cons.mpr ⟨dm_M1_of (t_X1_endOf l D cA ad) dm_hT (dm_mem [614, 68, 630] (by decide +kernel) (by decide +kernel)) (by decide) (by decide +kernel) (Or.inr ⟨by decide, dm_mem [612, 613] (by decide +kernel) (by decide +kernel), rfl⟩), fun _ h => absurd h List.not_mem_nil⟩⟩)) v_X1_push u_X1_push
def sp_X7_enqueue (As : List Value) (u : dm_S) (Q : Option Value → dm_S → Prop) : Prop := match As with
  | [.ref 4, .int a, .int b, .long d] => vp_in a 24 ∧ vp_in (u.1 4 6) 24 ∧ Q none (dm_ui (dm_ui (dm_ul (dm_ui u 33 a.toNatClampNeg b) 34 a.toNatClampNeg d) 35 (u.1 4 6).toNatClampNeg a) 4 6 (u.1 4 6 + 1))
  | _ => False
def p_X7_enqueue : List dm_I := [(0, .aload_n 0, 1, [0]), (1, .getfield 15, 3, []), (4, .iload_n 1, 1, [1]), (5, .iload_n 2, 1, [2]), (6, .iastore, 1, []), (7, .aload_n 0, 1, [0]), (8, .getfield 19, 3, []), (11, .iload_n 1, 1, [1]), (12, .lload_n 3, 1, [3]), (13, .lastore, 1, []), (14, .aload_n 0, 1, [0]), (15, .getfield 23, 3, []), (18, .aload_n 0, 1, [0]), (19, .getfield 113, 3, []), (22, .iload_n 1, 1, [1]), (23, .iastore, 1, []), (24, .aload_n 0, 1, [0]), (25, .dup, 1, []), (26, .getfield 113, 3, []), (29, .iconst 1, 1, []), (30, .iadd, 1, []), (31, .putfield 113, 3, []), (34, .return_, 1, [])]
set_option maxRecDepth 100000 in
theorem v_X7_enqueue : p_X7_enqueue.all (dm_vb cX7_enqueue) = true := by decide +kernel
def k_X7_enqueue : dm_Sp := fun a => match a with
  | _ => fun _ _ _ => False
def x_X7_enqueue : dm_X := dm_mk [(15, 7, 3), (19, 7, 4), (23, 7, 5), (113, 7, 6)] [] [] [] 0
set_option maxRecDepth 100000 in
set_option maxHeartbeats 400000 in
theorem u_X7_enqueue : dm_Pure shC x_X7_enqueue k_X7_enqueue p_X7_enqueue 5 sp_X7_enqueue := by
  intro As u Qp h
  unfold sp_X7_enqueue at h
  split at h
  · refine ⟨Nat.le_of_ble_eq_true rfl, fun G Wp hW0 hW1 hG => ?_⟩
    apply hG (fun _ => false) 24
    simp (config := { maxSteps := 2000000 }) [hW0, hW1, dm_fn, dm_fd, dm_x, dm_L0, dm_la, dm_t1, dm_sw, List.headD, dm_ic, dm_mk, dm_s1, dm_s2, dm_clr, dm_cs, dm_cc, dm_nb0, dm_nb1, Value.category, List.lookup, p_X7_enqueue, x_X7_enqueue, k_X7_enqueue, dm_cm, upd, vp_updL, dm_ui_1, dm_ui_2, dm_ul_1, dm_ul_2, sC_0, sC_1, sC_2, sC_3, sC_4, sC_5, sC_6, sC_7, sC_8, sC_9, sC_10, sC_11, sC_12, sC_13, sC_14, sC_15, sC_16, sC_17, sC_18, sC_19, sC_20, sC_21, sC_22, sC_23, sC_24, sC_25, sC_26, sC_27, sC_28, sC_29, sC_30, sC_31, sC_32, sC_33, sC_34, sC_35, sC_36, sC_37, sC_38, sC_39, sC_40, sC_41, sC_42, sC_43, sC_44, sC_45, sC_46, sC_47, sC_48, sC_49, sC_50, sC_51]
    exact h
  · exact h.elim
set_option maxRecDepth 100000 in
theorem t_X7_enqueue (l : Launch) (D : va_G) (cA : Nat → ClassId) (ad : Nat → Nat) : dm_Met l D dm_cl cA ad shC yX7_enqueue (Cond.code yX7_enqueue cX7_enqueue 5 (dm_rt 0) :: dm_tt) ({ frames := 0, cells := 0, slots := 0, locals := 0 } : Room) sp_X7_enqueue := dm_meth (own := RX7) (X := x_X7_enqueue) (Sp := k_X7_enqueue) (prog := p_X7_enqueue) (by decide +kernel) rfl rfl (dm_FO_s ffX7 [(15, 7, 3), (19, 7, 4), (23, 7, 5), (113, 7, 6)] rfl dm_hT (by decide +kernel)) (dm_IO_s ifX7 jfX7 [] [] rfl rfl dm_hT (by decide +kernel) (by decide +kernel)) soC (dm_MO_of (fun _ h => absurd h List.not_mem_nil)) v_X7_enqueue u_X7_enqueue
def sp_X9_add (As : List Value) (u : dm_S) (Q : Option Value → dm_S → Prop) : Prop := match As with
  | [.ref 3, .int x] => ∃ w : Nat, w < 640 ∧ x = nI w ∧ vp_in (u.1 3 6) 160 ∧ Q none (dm_ui (dm_ul (dm_ui (dm_ui (dm_ui u 28 (u.1 3 6).toNatClampNeg (nI w)) 29 (u.1 3 6).toNatClampNeg (lw_b u w)) 30 (u.1 3 6).toNatClampNeg (lw_e u w)) 31 (u.1 3 6).toNatClampNeg (lw_r u w)) 3 6 (u.1 3 6 + 1))
  | _ => False
def p_X9_add : List dm_I := [(0, .aload_n 0, 1, [0]), (1, .getfield 9, 3, []), (4, .aload_n 0, 1, [0]), (5, .getfield 33, 3, []), (8, .iload_n 1, 1, [1]), (9, .iastore, 1, []), (10, .aload_n 0, 1, [0]), (11, .getfield 15, 3, []), (14, .aload_n 0, 1, [0]), (15, .getfield 33, 3, []), (18, .aload_n 0, 1, [0]), (19, .getfield 29, 3, []), (22, .iload_n 1, 1, [1]), (23, .invokevirtual 63, 3, []), (26, .iastore, 1, []), (27, .aload_n 0, 1, [0]), (28, .getfield 18, 3, []), (31, .aload_n 0, 1, [0]), (32, .getfield 33, 3, []), (35, .aload_n 0, 1, [0]), (36, .getfield 29, 3, []), (39, .iload_n 1, 1, [1]), (40, .invokevirtual 67, 3, []), (43, .iastore, 1, []), (44, .aload_n 0, 1, [0]), (45, .getfield 21, 3, []), (48, .aload_n 0, 1, [0]), (49, .getfield 33, 3, []), (52, .aload_n 0, 1, [0]), (53, .getfield 29, 3, []), (56, .iload_n 1, 1, [1]), (57, .invokevirtual 70, 3, []), (60, .lastore, 1, []), (61, .aload_n 0, 1, [0]), (62, .dup, 1, []), (63, .getfield 33, 3, []), (66, .iconst 1, 1, []), (67, .iadd, 1, []), (68, .putfield 33, 3, []), (71, .return_, 1, [])]
set_option maxRecDepth 100000 in
theorem v_X9_add : p_X9_add.all (dm_vb cX9_add) = true := by decide +kernel
def k_X9_add : dm_Sp := fun a => match a with
  | 0 => sp_X1_beginOf
  | 1 => sp_X1_endOf
  | 2 => sp_X1_rateOf
  | _ => fun _ _ _ => False
def x_X9_add : dm_X := dm_mk [(9, 9, 2), (15, 9, 3), (18, 9, 4), (21, 9, 5), (29, 9, 1), (33, 9, 6)] [] [] [(63, 0, 1, 1), (67, 1, 1, 1), (70, 2, 1, 1)] 0
set_option maxRecDepth 100000 in
set_option maxHeartbeats 400000 in
theorem u_X9_add : dm_Pure shC x_X9_add k_X9_add p_X9_add 2 sp_X9_add := by
  intro As u Qp h
  unfold sp_X9_add at h
  split at h
  · refine ⟨Nat.le_of_ble_eq_true rfl, fun G Wp hW0 hW1 hG => ?_⟩
    apply hG (fun _ => false) 41
    simp (config := { maxSteps := 2000000 }) [hW0, hW1, dm_fn, dm_fd, dm_x, dm_L0, dm_la, dm_t1, dm_sw, List.headD, dm_ic, dm_mk, dm_s1, dm_s2, dm_clr, dm_cs, dm_cc, dm_nb0, dm_nb1, Value.category, List.lookup, p_X9_add, x_X9_add, k_X9_add, dm_cm, upd, vp_updL, dm_ui_1, dm_ui_2, dm_ul_1, dm_ul_2, sp_X1_beginOf, sp_X1_endOf, sp_X1_rateOf, sC_0, sC_1, sC_2, sC_3, sC_4, sC_5, sC_6, sC_7, sC_8, sC_9, sC_10, sC_11, sC_12, sC_13, sC_14, sC_15, sC_16, sC_17, sC_18, sC_19, sC_20, sC_21, sC_22, sC_23, sC_24, sC_25, sC_26, sC_27, sC_28, sC_29, sC_30, sC_31, sC_32, sC_33, sC_34, sC_35, sC_36, sC_37, sC_38, sC_39, sC_40, sC_41, sC_42, sC_43, sC_44, sC_45, sC_46, sC_47, sC_48, sC_49, sC_50, sC_51]
    obtain ⟨w, hw, rfl, h1, h⟩ := h
    exact ⟨h1, w, hw, rfl, h1, w, hw, rfl, h1, w, hw, rfl, h1, h⟩
  · exact h.elim
set_option maxRecDepth 100000 in
theorem t_X9_add (l : Launch) (D : va_G) (cA : Nat → ClassId) (ad : Nat → Nat) : dm_Met l D dm_cl cA ad shC yX9_add (Cond.code yX9_add cX9_add 2 (dm_rt 0) :: dm_tt) ({ frames := 1, cells := 0, slots := 0, locals := 21 } : Room) sp_X9_add := dm_meth (own := RX9) (X := x_X9_add) (Sp := k_X9_add) (prog := p_X9_add) (by decide +kernel) rfl rfl (dm_FO_s ffX9 [(9, 9, 2), (15, 9, 3), (18, 9, 4), (21, 9, 5), (29, 9, 1), (33, 9, 6)] rfl dm_hT (by decide +kernel)) (dm_IO_s ifX9 jfX9 [] [] rfl rfl dm_hT (by decide +kernel) (by decide +kernel)) soC (dm_MO_of (List.forall_mem_cons.mpr ⟨dm_M1_of (t_X1_beginOf l D cA ad) dm_hT (dm_mem [553, 68, 700] (by decide +kernel) (by decide +kernel)) (by decide) (by decide +kernel) (Or.inr ⟨by decide, dm_mem [551, 552] (by decide +kernel) (by decide +kernel), rfl⟩), List.forall_mem_cons.mpr ⟨dm_M1_of (t_X1_endOf l D cA ad) dm_hT (dm_mem [614, 68, 701] (by decide +kernel) (by decide +kernel)) (by decide) (by decide +kernel) (Or.inr ⟨by decide, dm_mem [612, 613] (by decide +kernel) (by decide +kernel), rfl⟩), List.forall_mem_cons.mpr ⟨dm_M1_of (t_X1_rateOf l D cA ad) dm_hT (dm_mem [705, 68, 702] (by decide +kernel) (by decide +kernel)) (by decide) (by decide +kernel) (Or.inr ⟨by decide, dm_mem [703, 704] (by decide +kernel) (by decide +kernel), rfl⟩), fun _ h => absurd h List.not_mem_nil⟩⟩⟩)) v_X9_add u_X9_add
def sp_X0_endsBelow (As : List Value) (u : dm_S) (Q : Option Value → dm_S → Prop) : Prop := match As with
  | [.ref 8, .int a, .int b, .long d] => vp_in a 80 ∧ vp_in (a * 4 + u.1 16 a.toNatClampNeg - 1) 320 ∧ vp_in (b * 24 + u.1 13 a.toNatClampNeg) 600 ∧ Q (some (.int (if d + u.2 18 (a * 4 + u.1 16 a.toNatClampNeg - 1).toNatClampNeg + u.2 47 (b * 24 + u.1 13 a.toNatClampNeg).toNatClampNeg < 0 then 1 else 0))) u
  | _ => False
def p_X0_endsBelow : List dm_I := [(0, .lload_n 3, 1, [3]), (1, .aload_n 0, 1, [0]), (2, .getfield 19, 3, []), (5, .iload_n 1, 1, [1]), (6, .invokevirtual 44, 3, []), (9, .ladd, 1, []), (10, .aload_n 0, 1, [0]), (11, .getfield 15, 3, []), (14, .iload_n 2, 1, [2]), (15, .bipush 24, 2, []), (17, .imul, 1, []), (18, .aload_n 0, 1, [0]), (19, .getfield 19, 3, []), (22, .getfield 48, 3, []), (25, .iload_n 1, 1, [1]), (26, .iaload, 1, []), (27, .iadd, 1, []), (28, .laload, 1, []), (29, .ladd, 1, []), (30, .lconst 0, 1, []), (31, .lcmp, 1, []), (32, .ifCond .ge 7, 3, [39]), (35, .iconst 1, 1, []), (36, .goto 4, 3, [40]), (39, .iconst 0, 1, []), (40, .ireturn, 1, [])]
set_option maxRecDepth 100000 in
theorem v_X0_endsBelow : p_X0_endsBelow.all (dm_vb cX0_endsBelow) = true := by decide +kernel
def k_X0_endsBelow : dm_Sp := fun a => match a with
  | 0 => sp_X2_lastRate
  | _ => fun _ _ _ => False
def x_X0_endsBelow : dm_X := dm_mk [(15, 0, 2), (19, 0, 0), (48, 2, 2)] [] [] [(44, 0, 1, 2)] 3
set_option maxRecDepth 100000 in
set_option maxHeartbeats 400000 in
theorem u_X0_endsBelow : dm_Pure shC x_X0_endsBelow k_X0_endsBelow p_X0_endsBelow 5 sp_X0_endsBelow := by
  intro As u Qp h
  unfold sp_X0_endsBelow at h
  split at h
  · refine ⟨Nat.le_of_ble_eq_true rfl, fun G Wp hW0 hW1 hG => ?_⟩
    apply hG (fun _ => false) 27
    simp (config := { maxSteps := 2000000 }) [hW0, hW1, dm_fn, dm_fd, dm_x, dm_L0, dm_la, dm_t1, dm_sw, List.headD, dm_ic, dm_mk, dm_s1, dm_s2, dm_clr, dm_cs, dm_cc, dm_nb0, dm_nb1, Value.category, List.lookup, p_X0_endsBelow, x_X0_endsBelow, k_X0_endsBelow, dm_cm, upd, vp_updL, dm_ui_1, dm_ui_2, dm_ul_1, dm_ul_2, sp_X2_lastRate, sC_0, sC_1, sC_2, sC_3, sC_4, sC_5, sC_6, sC_7, sC_8, sC_9, sC_10, sC_11, sC_12, sC_13, sC_14, sC_15, sC_16, sC_17, sC_18, sC_19, sC_20, sC_21, sC_22, sC_23, sC_24, sC_25, sC_26, sC_27, sC_28, sC_29, sC_30, sC_31, sC_32, sC_33, sC_34, sC_35, sC_36, sC_37, sC_38, sC_39, sC_40, sC_41, sC_42, sC_43, sC_44, sC_45, sC_46, sC_47, sC_48, sC_49, sC_50, sC_51]
    obtain ⟨h1, h2, h3, h4⟩ := h
    refine ⟨h1, h2, h1, h3, fun q => ?_, fun q => ?_⟩
    · rw [if_neg (dm_l_lt.mpr q)] at h4; exact h4
    · rw [if_pos q] at h4; exact h4
  · exact h.elim
set_option maxRecDepth 100000 in
theorem t_X0_endsBelow (l : Launch) (D : va_G) (cA : Nat → ClassId) (ad : Nat → Nat) : dm_Met l D dm_cl cA ad shC yX0_endsBelow (Cond.code yX0_endsBelow cX0_endsBelow 5 (dm_rt 3) :: dm_tt) ({ frames := 2, cells := 0, slots := 0, locals := 42 } : Room) sp_X0_endsBelow := dm_meth (own := RX0) (X := x_X0_endsBelow) (Sp := k_X0_endsBelow) (prog := p_X0_endsBelow) (by decide +kernel) rfl rfl (dm_FO_s ffX0 [(15, 0, 2), (19, 0, 0), (48, 2, 2)] rfl dm_hT (by decide +kernel)) (dm_IO_s ifX0 jfX0 [] [] rfl rfl dm_hT (by decide +kernel) (by decide +kernel)) soC (dm_MO_of (List.forall_mem_cons.mpr ⟨dm_M1_of (t_X2_lastRate l D cA ad) dm_hT (dm_mem [651, 67, 665] (by decide +kernel) (by decide +kernel)) (by decide) (by decide +kernel) (Or.inr ⟨by decide, dm_mem [649, 650] (by decide +kernel) (by decide +kernel), rfl⟩), fun _ h => absurd h List.not_mem_nil⟩)) v_X0_endsBelow u_X0_endsBelow
def sp_X6_costOfRest (As : List Value) (u : dm_S) (Q : Option Value → dm_S → Prop) : Prop := match As with
  | [.ref 7, .int a, .int b] => vp_in (u.1 1 8 * 24 + a) 600 ∧ vp_in (b * 24 + a) 600 ∧ Q (some (.long (u.2 42 (u.1 1 8 * 24 + a).toNatClampNeg - u.2 42 (b * 24 + a).toNatClampNeg))) u
  | _ => False
def p_X6_costOfRest : List dm_I := [(0, .aload_n 0, 1, [0]), (1, .getfield 9, 3, []), (4, .aload_n 0, 1, [0]), (5, .getfield 25, 3, []), (8, .getfield 59, 3, []), (11, .bipush 24, 2, []), (13, .imul, 1, []), (14, .iload_n 1, 1, [1]), (15, .iadd, 1, []), (16, .laload, 1, []), (17, .aload_n 0, 1, [0]), (18, .getfield 9, 3, []), (21, .iload_n 2, 1, [2]), (22, .bipush 24, 2, []), (24, .imul, 1, []), (25, .iload_n 1, 1, [1]), (26, .iadd, 1, []), (27, .laload, 1, []), (28, .lsub, 1, []), (29, .lreturn, 1, [])]
set_option maxRecDepth 100000 in
theorem v_X6_costOfRest : p_X6_costOfRest.all (dm_vb cX6_costOfRest) = true := by decide +kernel
def k_X6_costOfRest : dm_Sp := fun a => match a with
  | _ => fun _ _ _ => False
def x_X6_costOfRest : dm_X := dm_mk [(9, 6, 3), (25, 6, 0), (59, 2, 8)] [] [] [] 2
set_option maxRecDepth 100000 in
set_option maxHeartbeats 400000 in
theorem u_X6_costOfRest : dm_Pure shC x_X6_costOfRest k_X6_costOfRest p_X6_costOfRest 3 sp_X6_costOfRest := by
  intro As u Qp h
  unfold sp_X6_costOfRest at h
  split at h
  · refine ⟨Nat.le_of_ble_eq_true rfl, fun G Wp hW0 hW1 hG => ?_⟩
    apply hG (fun _ => false) 21
    simp (config := { maxSteps := 2000000 }) [hW0, hW1, dm_fn, dm_fd, dm_x, dm_L0, dm_la, dm_t1, dm_sw, List.headD, dm_ic, dm_mk, dm_s1, dm_s2, dm_clr, dm_cs, dm_cc, dm_nb0, dm_nb1, Value.category, List.lookup, p_X6_costOfRest, x_X6_costOfRest, k_X6_costOfRest, dm_cm, upd, vp_updL, dm_ui_1, dm_ui_2, dm_ul_1, dm_ul_2, sC_0, sC_1, sC_2, sC_3, sC_4, sC_5, sC_6, sC_7, sC_8, sC_9, sC_10, sC_11, sC_12, sC_13, sC_14, sC_15, sC_16, sC_17, sC_18, sC_19, sC_20, sC_21, sC_22, sC_23, sC_24, sC_25, sC_26, sC_27, sC_28, sC_29, sC_30, sC_31, sC_32, sC_33, sC_34, sC_35, sC_36, sC_37, sC_38, sC_39, sC_40, sC_41, sC_42, sC_43, sC_44, sC_45, sC_46, sC_47, sC_48, sC_49, sC_50, sC_51]
    exact h
  · exact h.elim
set_option maxRecDepth 100000 in
theorem t_X6_costOfRest (l : Launch) (D : va_G) (cA : Nat → ClassId) (ad : Nat → Nat) : dm_Met l D dm_cl cA ad shC yX6_costOfRest (Cond.code yX6_costOfRest cX6_costOfRest 3 (dm_rt 2) :: dm_tt) ({ frames := 0, cells := 0, slots := 0, locals := 0 } : Room) sp_X6_costOfRest := dm_meth (own := RX6) (X := x_X6_costOfRest) (Sp := k_X6_costOfRest) (prog := p_X6_costOfRest) (by decide +kernel) rfl rfl (dm_FO_s ffX6 [(9, 6, 3), (25, 6, 0), (59, 2, 8)] rfl dm_hT (by decide +kernel)) (dm_IO_s ifX6 jfX6 [] [] rfl rfl dm_hT (by decide +kernel) (by decide +kernel)) soC (dm_MO_of (fun _ h => absurd h List.not_mem_nil)) v_X6_costOfRest u_X6_costOfRest
/-- a way (of Ways, by its place) lowers the cost of its end -/
def dm_lb (u : dm_S) (c a : Nat) : Prop := ¬ u.2 c (u.1 29 a).toNatClampNeg = 1152921504606846976 ∧ u.2 c (u.1 29 a).toNatClampNeg + u.2 31 a < u.2 c (u.1 30 a).toNatClampNeg
def sp_X5_lowerBy (As : List Value) (u : dm_S) (Q : Option Value → dm_S → Prop) : Prop := match As with
  | [.ref 5, .int x, .ref c] => ∃ a : Nat, a < 160 ∧ x = nI a ∧ shC[c]? = some (.inl (1, 24)) ∧ vp_in (u.1 29 a) 24 ∧ vp_in (u.1 30 a) 24 ∧ (dm_lb u c a → Q (some (.int 1)) (dm_ul u c (u.1 30 a).toNatClampNeg (u.2 c (u.1 29 a).toNatClampNeg + u.2 31 a))) ∧ (¬ dm_lb u c a → Q (some (.int 0)) u)
  | _ => False
def p_X5_lowerBy : List dm_I := [(0, .aload_n 2, 1, [2]), (1, .aload_n 0, 1, [0]), (2, .getfield 26, 3, []), (5, .getfield 76, 3, []), (8, .iload_n 1, 1, [1]), (9, .iaload, 1, []), (10, .laload, 1, []), (11, .lstore_n 3, 1, [3]), (12, .lload_n 3, 1, [3]), (13, .ldc2_w 102, 3, []), (16, .lcmp, 1, []), (17, .ifCond .eq 29, 3, [46]), (20, .lload_n 3, 1, [3]), (21, .aload_n 0, 1, [0]), (22, .getfield 26, 3, []), (25, .getfield 79, 3, []), (28, .iload_n 1, 1, [1]), (29, .laload, 1, []), (30, .ladd, 1, []), (31, .aload_n 2, 1, [2]), (32, .aload_n 0, 1, [0]), (33, .getfield 26, 3, []), (36, .getfield 73, 3, []), (39, .iload_n 1, 1, [1]), (40, .iaload, 1, []), (41, .laload, 1, []), (42, .lcmp, 1, []), (43, .ifCond .lt 5, 3, [48]), (46, .iconst 0, 1, []), (47, .ireturn, 1, []), (48, .aload_n 2, 1, [2]), (49, .aload_n 0, 1, [0]), (50, .getfield 26, 3, []), (53, .getfield 73, 3, []), (56, .iload_n 1, 1, [1]), (57, .iaload, 1, []), (58, .lload_n 3, 1, [3]), (59, .aload_n 0, 1, [0]), (60, .getfield 26, 3, []), (63, .getfield 79, 3, []), (66, .iload_n 1, 1, [1]), (67, .laload, 1, []), (68, .ladd, 1, []), (69, .lastore, 1, []), (70, .iconst 1, 1, []), (71, .ireturn, 1, [])]
set_option maxRecDepth 100000 in
theorem v_X5_lowerBy : p_X5_lowerBy.all (dm_vb cX5_lowerBy) = true := by decide +kernel
def k_X5_lowerBy : dm_Sp := fun a => match a with
  | _ => fun _ _ _ => False
def x_X5_lowerBy : dm_X := dm_mk [(26, 5, 2), (73, 9, 4), (76, 9, 3), (79, 9, 5)] [] [(102, 1152921504606846976)] [] 3
set_option maxRecDepth 100000 in
set_option maxHeartbeats 400000 in
theorem u_X5_lowerBy : dm_Pure shC x_X5_lowerBy k_X5_lowerBy p_X5_lowerBy 5 sp_X5_lowerBy := by
  intro As u Qp h
  unfold sp_X5_lowerBy at h
  split at h
  · refine ⟨Nat.le_of_ble_eq_true rfl, fun G Wp hW0 hW1 hG => ?_⟩
    apply hG (fun _ => false) 47
    simp (config := { maxSteps := 2000000 }) [hW0, hW1, dm_fn, dm_fd, dm_x, dm_L0, dm_la, dm_t1, dm_sw, List.headD, dm_ic, dm_mk, dm_s1, dm_s2, dm_clr, dm_cs, dm_cc, dm_nb0, dm_nb1, Value.category, List.lookup, p_X5_lowerBy, x_X5_lowerBy, k_X5_lowerBy, dm_cm, upd, vp_updL, dm_ui_1, dm_ui_2, dm_ul_1, dm_ul_2, sC_0, sC_1, sC_2, sC_3, sC_4, sC_5, sC_6, sC_7, sC_8, sC_9, sC_10, sC_11, sC_12, sC_13, sC_14, sC_15, sC_16, sC_17, sC_18, sC_19, sC_20, sC_21, sC_22, sC_23, sC_24, sC_25, sC_26, sC_27, sC_28, sC_29, sC_30, sC_31, sC_32, sC_33, sC_34, sC_35, sC_36, sC_37, sC_38, sC_39, sC_40, sC_41, sC_42, sC_43, sC_44, sC_45, sC_46, sC_47, sC_48, sC_49, sC_50, sC_51]
    obtain ⟨a, ha, rfl, h0, h2, h3, h4, h5⟩ := h
    have e : (nI a).toNatClampNeg = a := nI_clamp (by omega)
    have hi : vp_in (nI a) 160 := vp_in_nI ha (by omega)
    simp [h0, e]
    exact ⟨hi, h2, fun q => h5 (fun z => z.1 q), fun q => ⟨hi, h3, fun q2 => ⟨hi, h3, h4 ⟨q, q2⟩⟩, fun q2 => h5 (fun z => dm_l_lt.mpr q2 z.2)⟩⟩
  · exact h.elim
set_option maxRecDepth 100000 in
theorem t_X5_lowerBy (l : Launch) (D : va_G) (cA : Nat → ClassId) (ad : Nat → Nat) : dm_Met l D dm_cl cA ad shC yX5_lowerBy (Cond.code yX5_lowerBy cX5_lowerBy 5 (dm_rt 3) :: dm_tt) ({ frames := 0, cells := 0, slots := 0, locals := 0 } : Room) sp_X5_lowerBy := dm_meth (own := RX5) (X := x_X5_lowerBy) (Sp := k_X5_lowerBy) (prog := p_X5_lowerBy) (by decide +kernel) rfl rfl (dm_FO_s ffX5 [(26, 5, 2), (73, 9, 4), (76, 9, 3), (79, 9, 5)] rfl dm_hT (by decide +kernel)) (dm_IO_s ifX5 jfX5 [] [(102, 1152921504606846976)] rfl rfl dm_hT (by decide +kernel) (by decide +kernel)) soC (dm_MO_of (fun _ h => absurd h List.not_mem_nil)) v_X5_lowerBy u_X5_lowerBy
