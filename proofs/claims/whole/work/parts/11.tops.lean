/-! ===== the class's calls that only tell or ask ===== -/
def sp_X10_isUsual (As : List Value) (u : dm_S) (Q : Option Value → dm_S → Prop) : Prop := match As with
  | [.long a] => Q (some (.int (if -1000000 ≤ a ∧ a ≤ 1000000 then 1 else 0))) u
  | _ => False
def p_X10_isUsual : List dm_I := [(0, .lload_n 0, 1, [0]), (1, .ldc2_w 220, 3, []), (4, .lcmp, 1, []), (5, .ifCond .lt 15, 3, [20]), (8, .lload_n 0, 1, [0]), (9, .ldc2_w 116, 3, []), (12, .lcmp, 1, []), (13, .ifCond .gt 7, 3, [20]), (16, .iconst 1, 1, []), (17, .goto 4, 3, [21]), (20, .iconst 0, 1, []), (21, .ireturn, 1, [])]
set_option maxRecDepth 100000 in
theorem v_X10_isUsual : p_X10_isUsual.all (dm_vb cX10_isUsual) = true := by decide +kernel
def k_X10_isUsual : dm_Sp := fun a => match a with
  | _ => fun _ _ _ => False
def x_X10_isUsual : dm_X := dm_mk [] [] [(116, 1000000), (220, -1000000)] [] 3
set_option maxRecDepth 100000 in
set_option maxHeartbeats 400000 in
theorem u_X10_isUsual : dm_Pure shC x_X10_isUsual k_X10_isUsual p_X10_isUsual 2 sp_X10_isUsual := by
  intro As u Qp h
  unfold sp_X10_isUsual at h
  split at h
  · refine ⟨Nat.le_of_ble_eq_true rfl, fun G Wp hW0 hW1 hG => ?_⟩
    apply hG (fun _ => false) 13
    simp (config := { maxSteps := 2000000 }) [hW0, hW1, dm_fn, dm_fd, dm_x, dm_L0, dm_la, dm_t1, dm_sw, List.headD, dm_ic, dm_mk, dm_s1, dm_s2, dm_clr, dm_cs, dm_cc, dm_nb0, dm_nb1, Value.category, List.lookup, p_X10_isUsual, x_X10_isUsual, k_X10_isUsual, dm_cm, upd, vp_updL, dm_ui_1, dm_ui_2, dm_ul_1, dm_ul_2, sC_0, sC_1, sC_2, sC_3, sC_4, sC_5, sC_6, sC_7, sC_8, sC_9, sC_10, sC_11, sC_12, sC_13, sC_14, sC_15, sC_16, sC_17, sC_18, sC_19, sC_20, sC_21, sC_22, sC_23, sC_24, sC_25, sC_26, sC_27, sC_28, sC_29, sC_30, sC_31, sC_32, sC_33, sC_34, sC_35, sC_36, sC_37, sC_38, sC_39, sC_40, sC_41, sC_42, sC_43, sC_44, sC_45, sC_46, sC_47, sC_48, sC_49, sC_50, sC_51]
    refine ⟨fun q => ?_, fun q => ⟨fun q2 => ?_, fun q2 => ?_⟩⟩
    · rw [if_neg (fun z => dm_l_le.mpr q z.1)] at h; exact h
    · rw [if_neg (fun z => dm_l_le.mpr q2 z.2)] at h; exact h
    · rw [if_pos ⟨q, q2⟩] at h; exact h
  · exact h.elim
set_option maxRecDepth 100000 in
theorem t_X10_isUsual (l : Launch) (D : va_G) (cA : Nat → ClassId) (ad : Nat → Nat) : dm_Met l D dm_cl cA ad shC yX10_isUsual (Cond.code yX10_isUsual cX10_isUsual 2 (dm_rt 3) :: dm_tt) ({ frames := 0, cells := 0, slots := 0, locals := 0 } : Room) sp_X10_isUsual := dm_meth (own := RX10) (X := x_X10_isUsual) (Sp := k_X10_isUsual) (prog := p_X10_isUsual) (by decide +kernel) rfl rfl (dm_FO_s ffX10 [] rfl dm_hT (by decide +kernel)) (dm_IO_s ifX10 jfX10 [] [(116, 1000000), (220, -1000000)] rfl rfl dm_hT (by decide +kernel) (by decide +kernel)) soC (dm_MO_of (fun _ h => absurd h List.not_mem_nil)) v_X10_isUsual u_X10_isUsual
/-- what is told of a run is gone: answer, ring, set -/
abbrev dm_fg (u : dm_S) : dm_S := dm_ui (dm_ui (dm_ui u 0 10 (-1)) 8 3 0) 9 2 0
def sp_X10_forget (As : List Value) (u : dm_S) (Q : Option Value → dm_S → Prop) : Prop := match As with
  | [.ref 0] => Q none (dm_fg u)
  | _ => False
def p_X10_forget : List dm_I := [(0, .aload_n 0, 1, [0]), (1, .iconst (-1), 1, []), (2, .putfield 91, 3, []), (5, .aload_n 0, 1, [0]), (6, .getfield 73, 3, []), (9, .iconst 0, 1, []), (10, .putfield 167, 3, []), (13, .aload_n 0, 1, [0]), (14, .getfield 80, 3, []), (17, .iconst 0, 1, []), (18, .putfield 173, 3, []), (21, .return_, 1, [])]
set_option maxRecDepth 100000 in
theorem v_X10_forget : p_X10_forget.all (dm_vb cX10_forget) = true := by decide +kernel
def k_X10_forget : dm_Sp := fun a => match a with
  | _ => fun _ _ _ => False
def x_X10_forget : dm_X := dm_mk [(73, 10, 7), (80, 10, 8), (91, 10, 10), (167, 0, 3), (173, 8, 2)] [] [] [] 0
set_option maxRecDepth 100000 in
set_option maxHeartbeats 400000 in
theorem u_X10_forget : dm_Pure shC x_X10_forget k_X10_forget p_X10_forget 1 sp_X10_forget := by
  intro As u Qp h
  unfold sp_X10_forget at h
  split at h
  · refine ⟨Nat.le_of_ble_eq_true rfl, fun G Wp hW0 hW1 hG => ?_⟩
    apply hG (fun _ => false) 13
    simp (config := { maxSteps := 2000000 }) [hW0, hW1, dm_fn, dm_fd, dm_x, dm_L0, dm_la, dm_t1, dm_sw, List.headD, dm_ic, dm_mk, dm_s1, dm_s2, dm_clr, dm_cs, dm_cc, dm_nb0, dm_nb1, Value.category, List.lookup, p_X10_forget, x_X10_forget, k_X10_forget, dm_cm, upd, vp_updL, dm_ui_1, dm_ui_2, dm_ul_1, dm_ul_2, sC_0, sC_1, sC_2, sC_3, sC_4, sC_5, sC_6, sC_7, sC_8, sC_9, sC_10, sC_11, sC_12, sC_13, sC_14, sC_15, sC_16, sC_17, sC_18, sC_19, sC_20, sC_21, sC_22, sC_23, sC_24, sC_25, sC_26, sC_27, sC_28, sC_29, sC_30, sC_31, sC_32, sC_33, sC_34, sC_35, sC_36, sC_37, sC_38, sC_39, sC_40, sC_41, sC_42, sC_43, sC_44, sC_45, sC_46, sC_47, sC_48, sC_49, sC_50, sC_51]
    exact h
  · exact h.elim
set_option maxRecDepth 100000 in
theorem t_X10_forget (l : Launch) (D : va_G) (cA : Nat → ClassId) (ad : Nat → Nat) : dm_Met l D dm_cl cA ad shC yX10_forget (Cond.code yX10_forget cX10_forget 1 (dm_rt 0) :: dm_tt) ({ frames := 0, cells := 0, slots := 0, locals := 0 } : Room) sp_X10_forget := dm_meth (own := RX10) (X := x_X10_forget) (Sp := k_X10_forget) (prog := p_X10_forget) (by decide +kernel) rfl rfl (dm_FO_s ffX10 [(73, 10, 7), (80, 10, 8), (91, 10, 10), (167, 0, 3), (173, 8, 2)] rfl dm_hT (by decide +kernel)) (dm_IO_s ifX10 jfX10 [] [] rfl rfl dm_hT (by decide +kernel) (by decide +kernel)) soC (dm_MO_of (fun _ h => absurd h List.not_mem_nil)) v_X10_forget u_X10_forget
