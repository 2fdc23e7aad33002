/-! ===== the reference's leaves ===== -/
def sp_X11_within (As : List Value) (u : dm_S) (Q : Option Value → dm_S → Prop) : Prop := match As with
  | [.long v, .long a, .long b] => Q (some (.int (if a ≤ v ∧ v ≤ b then 1 else 0))) u
  | _ => False
def p_X11_within : List dm_I := [(0, .lload_n 0, 1, [0]), (1, .lload_n 2, 1, [2]), (2, .lcmp, 1, []), (3, .ifCond .lt 14, 3, [17]), (6, .lload_n 0, 1, [0]), (7, .lload 4, 2, []), (9, .lcmp, 1, []), (10, .ifCond .gt 7, 3, [17]), (13, .iconst 1, 1, []), (14, .goto 4, 3, [18]), (17, .iconst 0, 1, []), (18, .ireturn, 1, [])]
set_option maxRecDepth 100000 in
theorem v_X11_within : p_X11_within.all (dm_vb cX11_within) = true := by decide +kernel
def k_X11_within : dm_Sp := fun a => match a with
  | _ => fun _ _ _ => False
def x_X11_within : dm_X := dm_mk [] [] [] [] 3
set_option maxRecDepth 100000 in
set_option maxHeartbeats 400000 in
theorem u_X11_within : dm_Pure shM x_X11_within k_X11_within p_X11_within 6 sp_X11_within := by
  intro As u Qp h
  unfold sp_X11_within at h
  split at h
  · refine ⟨Nat.le_of_ble_eq_true rfl, fun G Wp hW0 hW1 hG => ?_⟩
    apply hG (fun _ => false) 13
    simp (config := { maxSteps := 2000000 }) [hW0, hW1, dm_fn, dm_fd, dm_x, dm_L0, dm_la, dm_t1, dm_sw, List.headD, dm_ic, dm_mk, dm_s1, dm_s2, dm_clr, dm_cs, dm_cc, dm_nb0, dm_nb1, Value.category, List.lookup, p_X11_within, x_X11_within, k_X11_within, dm_cm, upd, vp_updL, dm_ui_1, dm_ui_2, dm_ul_1, dm_ul_2, sM_0, sM_1, sM_2, sM_3, sM_4, sM_5, sM_6, sM_7, sM_8, sM_9, sM_10, sM_11, sM_12, sM_13, sM_14, sM_15, sM_16, sM_17, sM_18, sM_19, sM_20, sM_21, sM_22, sM_23, sM_24, sM_25, sM_26, sM_27, sM_28, sM_29]
    refine ⟨fun q => ?_, fun q => ⟨fun q2 => ?_, fun q2 => ?_⟩⟩
    · rw [if_neg (fun z => dm_l_le.mpr q z.1)] at h; exact h
    · rw [if_neg (fun z => dm_l_le.mpr q2 z.2)] at h; exact h
    · rw [if_pos ⟨q, q2⟩] at h; exact h
  · exact h.elim
set_option maxRecDepth 100000 in
theorem t_X11_within (l : Launch) (D : va_G) (cA : Nat → ClassId) (ad : Nat → Nat) : dm_Met l D dm_cl cA ad shM yX11_within (Cond.code yX11_within cX11_within 6 (dm_rt 3) :: dm_tt) ({ frames := 0, cells := 0, slots := 0, locals := 0 } : Room) sp_X11_within := dm_meth (own := RX11) (X := x_X11_within) (Sp := k_X11_within) (prog := p_X11_within) (by decide +kernel) rfl rfl (dm_FO_s ffX11 [] rfl dm_hT (by decide +kernel)) (dm_IO_s ifX11 jfX11 [] [] rfl rfl dm_hT (by decide +kernel) (by decide +kernel)) soM (dm_MO_of (fun _ h => absurd h List.not_mem_nil)) v_X11_within u_X11_within
abbrev dm_mg (u : dm_S) : dm_S := dm_ui (dm_ui (dm_ui u 0 10 (-1)) 0 13 0) 0 15 0
def sp_X11_gone (As : List Value) (u : dm_S) (Q : Option Value → dm_S → Prop) : Prop := match As with
  | [.ref 0] => Q none (dm_mg u)
  | _ => False
def p_X11_gone : List dm_I := [(0, .aload_n 0, 1, [0]), (1, .iconst (-1), 1, []), (2, .putfield 99, 3, []), (5, .aload_n 0, 1, [0]), (6, .iconst 0, 1, []), (7, .putfield 103, 3, []), (10, .aload_n 0, 1, [0]), (11, .iconst 0, 1, []), (12, .putfield 106, 3, []), (15, .return_, 1, [])]
set_option maxRecDepth 100000 in
theorem v_X11_gone : p_X11_gone.all (dm_vb cX11_gone) = true := by decide +kernel
def k_X11_gone : dm_Sp := fun a => match a with
  | _ => fun _ _ _ => False
def x_X11_gone : dm_X := dm_mk [(99, 11, 10), (103, 11, 13), (106, 11, 15)] [] [] [] 0
set_option maxRecDepth 100000 in
set_option maxHeartbeats 400000 in
theorem u_X11_gone : dm_Pure shM x_X11_gone k_X11_gone p_X11_gone 1 sp_X11_gone := by
  intro As u Qp h
  unfold sp_X11_gone at h
  split at h
  · refine ⟨Nat.le_of_ble_eq_true rfl, fun G Wp hW0 hW1 hG => ?_⟩
    apply hG (fun _ => false) 11
    simp (config := { maxSteps := 2000000 }) [hW0, hW1, dm_fn, dm_fd, dm_x, dm_L0, dm_la, dm_t1, dm_sw, List.headD, dm_ic, dm_mk, dm_s1, dm_s2, dm_clr, dm_cs, dm_cc, dm_nb0, dm_nb1, Value.category, List.lookup, p_X11_gone, x_X11_gone, k_X11_gone, dm_cm, upd, vp_updL, dm_ui_1, dm_ui_2, dm_ul_1, dm_ul_2, sM_0, sM_1, sM_2, sM_3, sM_4, sM_5, sM_6, sM_7, sM_8, sM_9, sM_10, sM_11, sM_12, sM_13, sM_14, sM_15, sM_16, sM_17, sM_18, sM_19, sM_20, sM_21, sM_22, sM_23, sM_24, sM_25, sM_26, sM_27, sM_28, sM_29]
    exact h
  · exact h.elim
set_option maxRecDepth 100000 in
theorem t_X11_gone (l : Launch) (D : va_G) (cA : Nat → ClassId) (ad : Nat → Nat) : dm_Met l D dm_cl cA ad shM yX11_gone (Cond.code yX11_gone cX11_gone 1 (dm_rt 0) :: dm_tt) ({ frames := 0, cells := 0, slots := 0, locals := 0 } : Room) sp_X11_gone := dm_meth (own := RX11) (X := x_X11_gone) (Sp := k_X11_gone) (prog := p_X11_gone) (by decide +kernel) rfl rfl (dm_FO_s ffX11 [(99, 11, 10), (103, 11, 13), (106, 11, 15)] rfl dm_hT (by decide +kernel)) (dm_IO_s ifX11 jfX11 [] [] rfl rfl dm_hT (by decide +kernel) (by decide +kernel)) soM (dm_MO_of (fun _ h => absurd h List.not_mem_nil)) v_X11_gone u_X11_gone
def sp_X11_isNode (As : List Value) (u : dm_S) (Q : Option Value → dm_S → Prop) : Prop := match As with
  | [.ref 0, .int x] => Q (some (.int (if 0 ≤ x ∧ x < u.1 0 0 then 1 else 0))) u
  | _ => False
def p_X11_isNode : List dm_I := [(0, .iload_n 1, 1, [1]), (1, .ifCond .lt 15, 3, [16]), (4, .iload_n 1, 1, [1]), (5, .aload_n 0, 1, [0]), (6, .getfield 109, 3, []), (9, .if_icmp .ge 7, 3, [16]), (12, .iconst 1, 1, []), (13, .goto 4, 3, [17]), (16, .iconst 0, 1, []), (17, .ireturn, 1, [])]
set_option maxRecDepth 100000 in
theorem v_X11_isNode : p_X11_isNode.all (dm_vb cX11_isNode) = true := by decide +kernel
def k_X11_isNode : dm_Sp := fun a => match a with
  | _ => fun _ _ _ => False
def x_X11_isNode : dm_X := dm_mk [(109, 11, 0)] [] [] [] 3
set_option maxRecDepth 100000 in
set_option maxHeartbeats 400000 in
theorem u_X11_isNode : dm_Pure shM x_X11_isNode k_X11_isNode p_X11_isNode 2 sp_X11_isNode := by
  intro As u Qp h
  unfold sp_X11_isNode at h
  split at h
  · refine ⟨Nat.le_of_ble_eq_true rfl, fun G Wp hW0 hW1 hG => ?_⟩
    apply hG (fun _ => false) 11
    simp (config := { maxSteps := 2000000 }) [hW0, hW1, dm_fn, dm_fd, dm_x, dm_L0, dm_la, dm_t1, dm_sw, List.headD, dm_ic, dm_mk, dm_s1, dm_s2, dm_clr, dm_cs, dm_cc, dm_nb0, dm_nb1, Value.category, List.lookup, p_X11_isNode, x_X11_isNode, k_X11_isNode, dm_cm, upd, vp_updL, dm_ui_1, dm_ui_2, dm_ul_1, dm_ul_2, sM_0, sM_1, sM_2, sM_3, sM_4, sM_5, sM_6, sM_7, sM_8, sM_9, sM_10, sM_11, sM_12, sM_13, sM_14, sM_15, sM_16, sM_17, sM_18, sM_19, sM_20, sM_21, sM_22, sM_23, sM_24, sM_25, sM_26, sM_27, sM_28, sM_29]
    refine ⟨fun q => ?_, fun q => ⟨fun q2 => ?_, fun q2 => ?_⟩⟩
    · rw [if_neg (fun z => dm_i_le.mpr q z.1)] at h; exact h
    · rw [if_neg (fun z => dm_i_lt.mpr q2 z.2)] at h; exact h
    · rw [if_pos ⟨q, q2⟩] at h; exact h
  · exact h.elim
set_option maxRecDepth 100000 in
theorem t_X11_isNode (l : Launch) (D : va_G) (cA : Nat → ClassId) (ad : Nat → Nat) : dm_Met l D dm_cl cA ad shM yX11_isNode (Cond.code yX11_isNode cX11_isNode 2 (dm_rt 3) :: dm_tt) ({ frames := 0, cells := 0, slots := 0, locals := 0 } : Room) sp_X11_isNode := dm_meth (own := RX11) (X := x_X11_isNode) (Sp := k_X11_isNode) (prog := p_X11_isNode) (by decide +kernel) rfl rfl (dm_FO_s ffX11 [(109, 11, 0)] rfl dm_hT (by decide +kernel)) (dm_IO_s ifX11 jfX11 [] [] rfl rfl dm_hT (by decide +kernel) (by decide +kernel)) soM (dm_MO_of (fun _ h => absurd h List.not_mem_nil)) v_X11_isNode u_X11_isNode
def sp_X11_isArc (As : List Value) (u : dm_S) (Q : Option Value → dm_S → Prop) : Prop := match As with
  | [.ref 0, .int x] => Q (some (.int (if 0 ≤ x ∧ x < u.1 0 1 then 1 else 0))) u
  | _ => False
def p_X11_isArc : List dm_I := [(0, .iload_n 1, 1, [1]), (1, .ifCond .lt 15, 3, [16]), (4, .iload_n 1, 1, [1]), (5, .aload_n 0, 1, [0]), (6, .getfield 123, 3, []), (9, .if_icmp .ge 7, 3, [16]), (12, .iconst 1, 1, []), (13, .goto 4, 3, [17]), (16, .iconst 0, 1, []), (17, .ireturn, 1, [])]
set_option maxRecDepth 100000 in
theorem v_X11_isArc : p_X11_isArc.all (dm_vb cX11_isArc) = true := by decide +kernel
def k_X11_isArc : dm_Sp := fun a => match a with
  | _ => fun _ _ _ => False
def x_X11_isArc : dm_X := dm_mk [(123, 11, 1)] [] [] [] 3
set_option maxRecDepth 100000 in
set_option maxHeartbeats 400000 in
theorem u_X11_isArc : dm_Pure shM x_X11_isArc k_X11_isArc p_X11_isArc 2 sp_X11_isArc := by
  intro As u Qp h
  unfold sp_X11_isArc at h
  split at h
  · refine ⟨Nat.le_of_ble_eq_true rfl, fun G Wp hW0 hW1 hG => ?_⟩
    apply hG (fun _ => false) 11
    simp (config := { maxSteps := 2000000 }) [hW0, hW1, dm_fn, dm_fd, dm_x, dm_L0, dm_la, dm_t1, dm_sw, List.headD, dm_ic, dm_mk, dm_s1, dm_s2, dm_clr, dm_cs, dm_cc, dm_nb0, dm_nb1, Value.category, List.lookup, p_X11_isArc, x_X11_isArc, k_X11_isArc, dm_cm, upd, vp_updL, dm_ui_1, dm_ui_2, dm_ul_1, dm_ul_2, sM_0, sM_1, sM_2, sM_3, sM_4, sM_5, sM_6, sM_7, sM_8, sM_9, sM_10, sM_11, sM_12, sM_13, sM_14, sM_15, sM_16, sM_17, sM_18, sM_19, sM_20, sM_21, sM_22, sM_23, sM_24, sM_25, sM_26, sM_27, sM_28, sM_29]
    refine ⟨fun q => ?_, fun q => ⟨fun q2 => ?_, fun q2 => ?_⟩⟩
    · rw [if_neg (fun z => dm_i_le.mpr q z.1)] at h; exact h
    · rw [if_neg (fun z => dm_i_lt.mpr q2 z.2)] at h; exact h
    · rw [if_pos ⟨q, q2⟩] at h; exact h
  · exact h.elim
set_option maxRecDepth 100000 in
theorem t_X11_isArc (l : Launch) (D : va_G) (cA : Nat → ClassId) (ad : Nat → Nat) : dm_Met l D dm_cl cA ad shM yX11_isArc (Cond.code yX11_isArc cX11_isArc 2 (dm_rt 3) :: dm_tt) ({ frames := 0, cells := 0, slots := 0, locals := 0 } : Room) sp_X11_isArc := dm_meth (own := RX11) (X := x_X11_isArc) (Sp := k_X11_isArc) (prog := p_X11_isArc) (by decide +kernel) rfl rfl (dm_FO_s ffX11 [(123, 11, 1)] rfl dm_hT (by decide +kernel)) (dm_IO_s ifX11 jfX11 [] [] rfl rfl dm_hT (by decide +kernel) (by decide +kernel)) soM (dm_MO_of (fun _ h => absurd h List.not_mem_nil)) v_X11_isArc u_X11_isArc
def sp_X11_lesser (As : List Value) (u : dm_S) (Q : Option Value → dm_S → Prop) : Prop := match As with
  | [.long a, .long b] => Q (some (.long (if a < b then a else b))) u
  | _ => False
def p_X11_lesser : List dm_I := [(0, .lload_n 0, 1, [0]), (1, .lload_n 2, 1, [2]), (2, .lcmp, 1, []), (3, .ifCond .ge 7, 3, [10]), (6, .lload_n 0, 1, [0]), (7, .goto 4, 3, [11]), (10, .lload_n 2, 1, [2]), (11, .lreturn, 1, [])]
set_option maxRecDepth 100000 in
theorem v_X11_lesser : p_X11_lesser.all (dm_vb cX11_lesser) = true := by decide +kernel
def k_X11_lesser : dm_Sp := fun a => match a with
  | _ => fun _ _ _ => False
def x_X11_lesser : dm_X := dm_mk [] [] [] [] 2
set_option maxRecDepth 100000 in
set_option maxHeartbeats 400000 in
theorem u_X11_lesser : dm_Pure shM x_X11_lesser k_X11_lesser p_X11_lesser 4 sp_X11_lesser := by
  intro As u Qp h
  unfold sp_X11_lesser at h
  split at h
  · refine ⟨Nat.le_of_ble_eq_true rfl, fun G Wp hW0 hW1 hG => ?_⟩
    apply hG (fun _ => false) 9
    simp (config := { maxSteps := 2000000 }) [hW0, hW1, dm_fn, dm_fd, dm_x, dm_L0, dm_la, dm_t1, dm_sw, List.headD, dm_ic, dm_mk, dm_s1, dm_s2, dm_clr, dm_cs, dm_cc, dm_nb0, dm_nb1, Value.category, List.lookup, p_X11_lesser, x_X11_lesser, k_X11_lesser, dm_cm, upd, vp_updL, dm_ui_1, dm_ui_2, dm_ul_1, dm_ul_2, sM_0, sM_1, sM_2, sM_3, sM_4, sM_5, sM_6, sM_7, sM_8, sM_9, sM_10, sM_11, sM_12, sM_13, sM_14, sM_15, sM_16, sM_17, sM_18, sM_19, sM_20, sM_21, sM_22, sM_23, sM_24, sM_25, sM_26, sM_27, sM_28, sM_29]
    refine ⟨fun q => ?_, fun q => ?_⟩
    · rw [if_neg (dm_l_lt.mpr q)] at h; exact h
    · rw [if_pos q] at h; exact h
  · exact h.elim
set_option maxRecDepth 100000 in
theorem t_X11_lesser (l : Launch) (D : va_G) (cA : Nat → ClassId) (ad : Nat → Nat) : dm_Met l D dm_cl cA ad shM yX11_lesser (Cond.code yX11_lesser cX11_lesser 4 (dm_rt 2) :: dm_tt) ({ frames := 0, cells := 0, slots := 0, locals := 0 } : Room) sp_X11_lesser := dm_meth (own := RX11) (X := x_X11_lesser) (Sp := k_X11_lesser) (prog := p_X11_lesser) (by decide +kernel) rfl rfl (dm_FO_s ffX11 [] rfl dm_hT (by decide +kernel)) (dm_IO_s ifX11 jfX11 [] [] rfl rfl dm_hT (by decide +kernel) (by decide +kernel)) soM (dm_MO_of (fun _ h => absurd h List.not_mem_nil)) v_X11_lesser u_X11_lesser
def sp_X11_lastCost (As : List Value) (u : dm_S) (Q : Option Value → dm_S → Prop) : Prop := match As with
  | [.ref 0, .int a] => vp_in a 80 ∧ vp_in (4 * a + u.1 6 a.toNatClampNeg) 320 ∧ Q (some (.long (u.2 7 (4 * a + u.1 6 a.toNatClampNeg).toNatClampNeg))) u
  | _ => False
def p_X11_lastCost : List dm_I := [(0, .aload_n 0, 1, [0]), (1, .getfield 29, 3, []), (4, .iconst 4, 1, []), (5, .iload_n 1, 1, [1]), (6, .imul, 1, []), (7, .aload_n 0, 1, [0]), (8, .getfield 26, 3, []), (11, .iload_n 1, 1, [1]), (12, .iaload, 1, []), (13, .iadd, 1, []), (14, .laload, 1, []), (15, .lreturn, 1, [])]
set_option maxRecDepth 100000 in
theorem v_X11_lastCost : p_X11_lastCost.all (dm_vb cX11_lastCost) = true := by decide +kernel
def k_X11_lastCost : dm_Sp := fun a => match a with
  | _ => fun _ _ _ => False
def x_X11_lastCost : dm_X := dm_mk [(26, 11, 7), (29, 11, 8)] [] [] [] 2
set_option maxRecDepth 100000 in
set_option maxHeartbeats 400000 in
theorem u_X11_lastCost : dm_Pure shM x_X11_lastCost k_X11_lastCost p_X11_lastCost 2 sp_X11_lastCost := by
  intro As u Qp h
  unfold sp_X11_lastCost at h
  split at h
  · refine ⟨Nat.le_of_ble_eq_true rfl, fun G Wp hW0 hW1 hG => ?_⟩
    apply hG (fun _ => false) 13
    simp (config := { maxSteps := 2000000 }) [hW0, hW1, dm_fn, dm_fd, dm_x, dm_L0, dm_la, dm_t1, dm_sw, List.headD, dm_ic, dm_mk, dm_s1, dm_s2, dm_clr, dm_cs, dm_cc, dm_nb0, dm_nb1, Value.category, List.lookup, p_X11_lastCost, x_X11_lastCost, k_X11_lastCost, dm_cm, upd, vp_updL, dm_ui_1, dm_ui_2, dm_ul_1, dm_ul_2, sM_0, sM_1, sM_2, sM_3, sM_4, sM_5, sM_6, sM_7, sM_8, sM_9, sM_10, sM_11, sM_12, sM_13, sM_14, sM_15, sM_16, sM_17, sM_18, sM_19, sM_20, sM_21, sM_22, sM_23, sM_24, sM_25, sM_26, sM_27, sM_28, sM_29]
    exact h
  · exact h.elim
set_option maxRecDepth 100000 in
theorem t_X11_lastCost (l : Launch) (D : va_G) (cA : Nat → ClassId) (ad : Nat → Nat) : dm_Met l D dm_cl cA ad shM yX11_lastCost (Cond.code yX11_lastCost cX11_lastCost 2 (dm_rt 2) :: dm_tt) ({ frames := 0, cells := 0, slots := 0, locals := 0 } : Room) sp_X11_lastCost := dm_meth (own := RX11) (X := x_X11_lastCost) (Sp := k_X11_lastCost) (prog := p_X11_lastCost) (by decide +kernel) rfl rfl (dm_FO_s ffX11 [(26, 11, 7), (29, 11, 8)] rfl dm_hT (by decide +kernel)) (dm_IO_s ifX11 jfX11 [] [] rfl rfl dm_hT (by decide +kernel) (by decide +kernel)) soM (dm_MO_of (fun _ h => absurd h List.not_mem_nil)) v_X11_lastCost u_X11_lastCost
def sp_X11_room (As : List Value) (u : dm_S) (Q : Option Value → dm_S → Prop) : Prop := match As with
  | [.ref 0, .int p, .int b] => vp_in p 400 ∧ Q (some (.long (if b = 0 then u.2 17 p.toNatClampNeg else u.2 15 p.toNatClampNeg - u.2 17 p.toNatClampNeg))) u
  | _ => False
def p_X11_room : List dm_I := [(0, .iload_n 2, 1, [2]), (1, .ifCond .eq 19, 3, [20]), (4, .aload_n 0, 1, [0]), (5, .getfield 53, 3, []), (8, .iload_n 1, 1, [1]), (9, .laload, 1, []), (10, .aload_n 0, 1, [0]), (11, .getfield 59, 3, []), (14, .iload_n 1, 1, [1]), (15, .laload, 1, []), (16, .lsub, 1, []), (17, .goto 9, 3, [26]), (20, .aload_n 0, 1, [0]), (21, .getfield 59, 3, []), (24, .iload_n 1, 1, [1]), (25, .laload, 1, []), (26, .lreturn, 1, [])]
set_option maxRecDepth 100000 in
theorem v_X11_room : p_X11_room.all (dm_vb cX11_room) = true := by decide +kernel
def k_X11_room : dm_Sp := fun a => match a with
  | _ => fun _ _ _ => False
def x_X11_room : dm_X := dm_mk [(53, 11, 21), (59, 11, 23)] [] [] [] 2
set_option maxRecDepth 100000 in
set_option maxHeartbeats 400000 in
theorem u_X11_room : dm_Pure shM x_X11_room k_X11_room p_X11_room 3 sp_X11_room := by
  intro As u Qp h
  unfold sp_X11_room at h
  split at h
  · refine ⟨Nat.le_of_ble_eq_true rfl, fun G Wp hW0 hW1 hG => ?_⟩
    apply hG (fun _ => false) 18
    simp (config := { maxSteps := 2000000 }) [hW0, hW1, dm_fn, dm_fd, dm_x, dm_L0, dm_la, dm_t1, dm_sw, List.headD, dm_ic, dm_mk, dm_s1, dm_s2, dm_clr, dm_cs, dm_cc, dm_nb0, dm_nb1, Value.category, List.lookup, p_X11_room, x_X11_room, k_X11_room, dm_cm, upd, vp_updL, dm_ui_1, dm_ui_2, dm_ul_1, dm_ul_2, sM_0, sM_1, sM_2, sM_3, sM_4, sM_5, sM_6, sM_7, sM_8, sM_9, sM_10, sM_11, sM_12, sM_13, sM_14, sM_15, sM_16, sM_17, sM_18, sM_19, sM_20, sM_21, sM_22, sM_23, sM_24, sM_25, sM_26, sM_27, sM_28, sM_29]
    refine ⟨fun q => ⟨h.1, ?_⟩, fun q => ⟨h.1, ?_⟩⟩
    · have := h.2; rw [if_pos q] at this; exact this
    · have := h.2; rw [if_neg q] at this; exact this
  · exact h.elim
set_option maxRecDepth 100000 in
theorem t_X11_room (l : Launch) (D : va_G) (cA : Nat → ClassId) (ad : Nat → Nat) : dm_Met l D dm_cl cA ad shM yX11_room (Cond.code yX11_room cX11_room 3 (dm_rt 2) :: dm_tt) ({ frames := 0, cells := 0, slots := 0, locals := 0 } : Room) sp_X11_room := dm_meth (own := RX11) (X := x_X11_room) (Sp := k_X11_room) (prog := p_X11_room) (by decide +kernel) rfl rfl (dm_FO_s ffX11 [(53, 11, 21), (59, 11, 23)] rfl dm_hT (by decide +kernel)) (dm_IO_s ifX11 jfX11 [] [] rfl rfl dm_hT (by decide +kernel) (by decide +kernel)) soM (dm_MO_of (fun _ h => absurd h List.not_mem_nil)) v_X11_room u_X11_room
def sp_X11_tail (As : List Value) (u : dm_S) (Q : Option Value → dm_S → Prop) : Prop := match As with
  | [.ref 0, .int p, .int b] => vp_in p 400 ∧ Q (some (.int (if b = 0 then u.1 13 p.toNatClampNeg else u.1 12 p.toNatClampNeg))) u
  | _ => False
def p_X11_tail : List dm_I := [(0, .iload_n 2, 1, [2]), (1, .ifCond .eq 12, 3, [13]), (4, .aload_n 0, 1, [0]), (5, .getfield 44, 3, []), (8, .iload_n 1, 1, [1]), (9, .iaload, 1, []), (10, .goto 9, 3, [19]), (13, .aload_n 0, 1, [0]), (14, .getfield 47, 3, []), (17, .iload_n 1, 1, [1]), (18, .iaload, 1, []), (19, .ireturn, 1, [])]
set_option maxRecDepth 100000 in
theorem v_X11_tail : p_X11_tail.all (dm_vb cX11_tail) = true := by decide +kernel
def k_X11_tail : dm_Sp := fun a => match a with
  | _ => fun _ _ _ => False
def x_X11_tail : dm_X := dm_mk [(44, 11, 18), (47, 11, 19)] [] [] [] 1
set_option maxRecDepth 100000 in
set_option maxHeartbeats 400000 in
theorem u_X11_tail : dm_Pure shM x_X11_tail k_X11_tail p_X11_tail 3 sp_X11_tail := by
  intro As u Qp h
  unfold sp_X11_tail at h
  split at h
  · refine ⟨Nat.le_of_ble_eq_true rfl, fun G Wp hW0 hW1 hG => ?_⟩
    apply hG (fun _ => false) 13
    simp (config := { maxSteps := 2000000 }) [hW0, hW1, dm_fn, dm_fd, dm_x, dm_L0, dm_la, dm_t1, dm_sw, List.headD, dm_ic, dm_mk, dm_s1, dm_s2, dm_clr, dm_cs, dm_cc, dm_nb0, dm_nb1, Value.category, List.lookup, p_X11_tail, x_X11_tail, k_X11_tail, dm_cm, upd, vp_updL, dm_ui_1, dm_ui_2, dm_ul_1, dm_ul_2, sM_0, sM_1, sM_2, sM_3, sM_4, sM_5, sM_6, sM_7, sM_8, sM_9, sM_10, sM_11, sM_12, sM_13, sM_14, sM_15, sM_16, sM_17, sM_18, sM_19, sM_20, sM_21, sM_22, sM_23, sM_24, sM_25, sM_26, sM_27, sM_28, sM_29]
    refine ⟨fun q => ⟨h.1, ?_⟩, fun q => ⟨h.1, ?_⟩⟩
    · have := h.2; rw [if_pos q] at this; exact this
    · have := h.2; rw [if_neg q] at this; exact this
  · exact h.elim
set_option maxRecDepth 100000 in
theorem t_X11_tail (l : Launch) (D : va_G) (cA : Nat → ClassId) (ad : Nat → Nat) : dm_Met l D dm_cl cA ad shM yX11_tail (Cond.code yX11_tail cX11_tail 3 (dm_rt 1) :: dm_tt) ({ frames := 0, cells := 0, slots := 0, locals := 0 } : Room) sp_X11_tail := dm_meth (own := RX11) (X := x_X11_tail) (Sp := k_X11_tail) (prog := p_X11_tail) (by decide +kernel) rfl rfl (dm_FO_s ffX11 [(44, 11, 18), (47, 11, 19)] rfl dm_hT (by decide +kernel)) (dm_IO_s ifX11 jfX11 [] [] rfl rfl dm_hT (by decide +kernel) (by decide +kernel)) soM (dm_MO_of (fun _ h => absurd h List.not_mem_nil)) v_X11_tail u_X11_tail
def sp_X11_head (As : List Value) (u : dm_S) (Q : Option Value → dm_S → Prop) : Prop := match As with
  | [.ref 0, .int p, .int b] => vp_in p 400 ∧ Q (some (.int (if b = 0 then u.1 12 p.toNatClampNeg else u.1 13 p.toNatClampNeg))) u
  | _ => False
def p_X11_head : List dm_I := [(0, .iload_n 2, 1, [2]), (1, .ifCond .eq 12, 3, [13]), (4, .aload_n 0, 1, [0]), (5, .getfield 47, 3, []), (8, .iload_n 1, 1, [1]), (9, .iaload, 1, []), (10, .goto 9, 3, [19]), (13, .aload_n 0, 1, [0]), (14, .getfield 44, 3, []), (17, .iload_n 1, 1, [1]), (18, .iaload, 1, []), (19, .ireturn, 1, [])]
set_option maxRecDepth 100000 in
theorem v_X11_head : p_X11_head.all (dm_vb cX11_head) = true := by decide +kernel
def k_X11_head : dm_Sp := fun a => match a with
  | _ => fun _ _ _ => False
def x_X11_head : dm_X := dm_mk [(44, 11, 18), (47, 11, 19)] [] [] [] 1
set_option maxRecDepth 100000 in
set_option maxHeartbeats 400000 in
theorem u_X11_head : dm_Pure shM x_X11_head k_X11_head p_X11_head 3 sp_X11_head := by
  intro As u Qp h
  unfold sp_X11_head at h
  split at h
  · refine ⟨Nat.le_of_ble_eq_true rfl, fun G Wp hW0 hW1 hG => ?_⟩
    apply hG (fun _ => false) 13
    simp (config := { maxSteps := 2000000 }) [hW0, hW1, dm_fn, dm_fd, dm_x, dm_L0, dm_la, dm_t1, dm_sw, List.headD, dm_ic, dm_mk, dm_s1, dm_s2, dm_clr, dm_cs, dm_cc, dm_nb0, dm_nb1, Value.category, List.lookup, p_X11_head, x_X11_head, k_X11_head, dm_cm, upd, vp_updL, dm_ui_1, dm_ui_2, dm_ul_1, dm_ul_2, sM_0, sM_1, sM_2, sM_3, sM_4, sM_5, sM_6, sM_7, sM_8, sM_9, sM_10, sM_11, sM_12, sM_13, sM_14, sM_15, sM_16, sM_17, sM_18, sM_19, sM_20, sM_21, sM_22, sM_23, sM_24, sM_25, sM_26, sM_27, sM_28, sM_29]
    refine ⟨fun q => ⟨h.1, ?_⟩, fun q => ⟨h.1, ?_⟩⟩
    · have := h.2; rw [if_pos q] at this; exact this
    · have := h.2; rw [if_neg q] at this; exact this
  · exact h.elim
set_option maxRecDepth 100000 in
theorem t_X11_head (l : Launch) (D : va_G) (cA : Nat → ClassId) (ad : Nat → Nat) : dm_Met l D dm_cl cA ad shM yX11_head (Cond.code yX11_head cX11_head 3 (dm_rt 1) :: dm_tt) ({ frames := 0, cells := 0, slots := 0, locals := 0 } : Room) sp_X11_head := dm_meth (own := RX11) (X := x_X11_head) (Sp := k_X11_head) (prog := p_X11_head) (by decide +kernel) rfl rfl (dm_FO_s ffX11 [(44, 11, 18), (47, 11, 19)] rfl dm_hT (by decide +kernel)) (dm_IO_s ifX11 jfX11 [] [] rfl rfl dm_hT (by decide +kernel) (by decide +kernel)) soM (dm_MO_of (fun _ h => absurd h List.not_mem_nil)) v_X11_head u_X11_head
def sp_X11_canGrow (As : List Value) (u : dm_S) (Q : Option Value → dm_S → Prop) : Prop := match As with
  | [.ref 0, .int a] => vp_in a 80 ∧ Q (some (.int (if u.2 5 a.toNatClampNeg = -2 ∨ u.2 9 a.toNatClampNeg < u.2 5 a.toNatClampNeg then 1 else 0))) u
  | _ => False
def p_X11_canGrow : List dm_I := [(0, .aload_n 0, 1, [0]), (1, .getfield 23, 3, []), (4, .iload_n 1, 1, [1]), (5, .laload, 1, []), (6, .ldc2_w 130, 3, []), (9, .lcmp, 1, []), (10, .ifCond .eq 19, 3, [29]), (13, .aload_n 0, 1, [0]), (14, .getfield 35, 3, []), (17, .iload_n 1, 1, [1]), (18, .laload, 1, []), (19, .aload_n 0, 1, [0]), (20, .getfield 23, 3, []), (23, .iload_n 1, 1, [1]), (24, .laload, 1, []), (25, .lcmp, 1, []), (26, .ifCond .ge 7, 3, [33]), (29, .iconst 1, 1, []), (30, .goto 4, 3, [34]), (33, .iconst 0, 1, []), (34, .ireturn, 1, [])]
set_option maxRecDepth 100000 in
theorem v_X11_canGrow : p_X11_canGrow.all (dm_vb cX11_canGrow) = true := by decide +kernel
def k_X11_canGrow : dm_Sp := fun a => match a with
  | _ => fun _ _ _ => False
def x_X11_canGrow : dm_X := dm_mk [(23, 11, 6), (35, 11, 11)] [] [(130, -2)] [] 3
set_option maxRecDepth 100000 in
set_option maxHeartbeats 400000 in
theorem u_X11_canGrow : dm_Pure shM x_X11_canGrow k_X11_canGrow p_X11_canGrow 2 sp_X11_canGrow := by
  intro As u Qp h
  unfold sp_X11_canGrow at h
  split at h
  · refine ⟨Nat.le_of_ble_eq_true rfl, fun G Wp hW0 hW1 hG => ?_⟩
    apply hG (fun _ => false) 22
    simp (config := { maxSteps := 2000000 }) [hW0, hW1, dm_fn, dm_fd, dm_x, dm_L0, dm_la, dm_t1, dm_sw, List.headD, dm_ic, dm_mk, dm_s1, dm_s2, dm_clr, dm_cs, dm_cc, dm_nb0, dm_nb1, Value.category, List.lookup, p_X11_canGrow, x_X11_canGrow, k_X11_canGrow, dm_cm, upd, vp_updL, dm_ui_1, dm_ui_2, dm_ul_1, dm_ul_2, sM_0, sM_1, sM_2, sM_3, sM_4, sM_5, sM_6, sM_7, sM_8, sM_9, sM_10, sM_11, sM_12, sM_13, sM_14, sM_15, sM_16, sM_17, sM_18, sM_19, sM_20, sM_21, sM_22, sM_23, sM_24, sM_25, sM_26, sM_27, sM_28, sM_29]
    obtain ⟨h1, h2⟩ := h
    refine ⟨h1, fun q => ?_, fun q => ⟨h1, fun q2 => ?_, fun q2 => ?_⟩⟩
    · rw [if_pos (Or.inl q)] at h2; exact h2
    · rw [if_neg (fun z => z.elim q (dm_l_lt.mpr q2))] at h2; exact h2
    · rw [if_pos (Or.inr q2)] at h2; exact h2
  · exact h.elim
set_option maxRecDepth 100000 in
theorem t_X11_canGrow (l : Launch) (D : va_G) (cA : Nat → ClassId) (ad : Nat → Nat) : dm_Met l D dm_cl cA ad shM yX11_canGrow (Cond.code yX11_canGrow cX11_canGrow 2 (dm_rt 3) :: dm_tt) ({ frames := 0, cells := 0, slots := 0, locals := 0 } : Room) sp_X11_canGrow := dm_meth (own := RX11) (X := x_X11_canGrow) (Sp := k_X11_canGrow) (prog := p_X11_canGrow) (by decide +kernel) rfl rfl (dm_FO_s ffX11 [(23, 11, 6), (35, 11, 11)] rfl dm_hT (by decide +kernel)) (dm_IO_s ifX11 jfX11 [] [(130, -2)] rfl rfl dm_hT (by decide +kernel) (by decide +kernel)) soM (dm_MO_of (fun _ h => absurd h List.not_mem_nil)) v_X11_canGrow u_X11_canGrow
def sp_X11_addPart (As : List Value) (u : dm_S) (Q : Option Value → dm_S → Prop) : Prop := match As with
  | [.ref 0, .int a, .int b, .int d, .long r, .long k] => vp_in (u.1 0 17) 400 ∧ Q none (dm_ui (dm_ul (dm_ul (dm_ul (dm_ui (dm_ui (dm_ui u 12 (u.1 0 17).toNatClampNeg a) 13 (u.1 0 17).toNatClampNeg b) 14 (u.1 0 17).toNatClampNeg d) 15 (u.1 0 17).toNatClampNeg r) 16 (u.1 0 17).toNatClampNeg k) 17 (u.1 0 17).toNatClampNeg 0) 0 17 (u.1 0 17 + 1))
  | _ => False
def p_X11_addPart : List dm_I := [(0, .aload_n 0, 1, [0]), (1, .getfield 44, 3, []), (4, .aload_n 0, 1, [0]), (5, .getfield 139, 3, []), (8, .iload_n 1, 1, [1]), (9, .iastore, 1, []), (10, .aload_n 0, 1, [0]), (11, .getfield 47, 3, []), (14, .aload_n 0, 1, [0]), (15, .getfield 139, 3, []), (18, .iload_n 2, 1, [2]), (19, .iastore, 1, []), (20, .aload_n 0, 1, [0]), (21, .getfield 50, 3, []), (24, .aload_n 0, 1, [0]), (25, .getfield 139, 3, []), (28, .iload_n 3, 1, [3]), (29, .iastore, 1, []), (30, .aload_n 0, 1, [0]), (31, .getfield 53, 3, []), (34, .aload_n 0, 1, [0]), (35, .getfield 139, 3, []), (38, .lload 4, 2, []), (40, .lastore, 1, []), (41, .aload_n 0, 1, [0]), (42, .getfield 56, 3, []), (45, .aload_n 0, 1, [0]), (46, .getfield 139, 3, []), (49, .lload 6, 2, []), (51, .lastore, 1, []), (52, .aload_n 0, 1, [0]), (53, .getfield 59, 3, []), (56, .aload_n 0, 1, [0]), (57, .getfield 139, 3, []), (60, .lconst 0, 1, []), (61, .lastore, 1, []), (62, .aload_n 0, 1, [0]), (63, .dup, 1, []), (64, .getfield 139, 3, []), (67, .iconst 1, 1, []), (68, .iadd, 1, []), (69, .putfield 139, 3, []), (72, .return_, 1, [])]
set_option maxRecDepth 100000 in
theorem v_X11_addPart : p_X11_addPart.all (dm_vb cX11_addPart) = true := by decide +kernel
def k_X11_addPart : dm_Sp := fun a => match a with
  | _ => fun _ _ _ => False
def x_X11_addPart : dm_X := dm_mk [(44, 11, 18), (47, 11, 19), (50, 11, 20), (53, 11, 21), (56, 11, 22), (59, 11, 23), (139, 11, 17)] [] [] [] 0
set_option maxRecDepth 100000 in
set_option maxHeartbeats 400000 in
theorem u_X11_addPart : dm_Pure shM x_X11_addPart k_X11_addPart p_X11_addPart 8 sp_X11_addPart := by
  intro As u Qp h
  unfold sp_X11_addPart at h
  split at h
  · refine ⟨Nat.le_of_ble_eq_true rfl, fun G Wp hW0 hW1 hG => ?_⟩
    apply hG (fun _ => false) 44
    simp (config := { maxSteps := 2000000 }) [hW0, hW1, dm_fn, dm_fd, dm_x, dm_L0, dm_la, dm_t1, dm_sw, List.headD, dm_ic, dm_mk, dm_s1, dm_s2, dm_clr, dm_cs, dm_cc, dm_nb0, dm_nb1, Value.category, List.lookup, p_X11_addPart, x_X11_addPart, k_X11_addPart, dm_cm, upd, vp_updL, dm_ui_1, dm_ui_2, dm_ul_1, dm_ul_2, sM_0, sM_1, sM_2, sM_3, sM_4, sM_5, sM_6, sM_7, sM_8, sM_9, sM_10, sM_11, sM_12, sM_13, sM_14, sM_15, sM_16, sM_17, sM_18, sM_19, sM_20, sM_21, sM_22, sM_23, sM_24, sM_25, sM_26, sM_27, sM_28, sM_29]
    exact h
  · exact h.elim
set_option maxRecDepth 100000 in
theorem t_X11_addPart (l : Launch) (D : va_G) (cA : Nat → ClassId) (ad : Nat → Nat) : dm_Met l D dm_cl cA ad shM yX11_addPart (Cond.code yX11_addPart cX11_addPart 8 (dm_rt 0) :: dm_tt) ({ frames := 0, cells := 0, slots := 0, locals := 0 } : Room) sp_X11_addPart := dm_meth (own := RX11) (X := x_X11_addPart) (Sp := k_X11_addPart) (prog := p_X11_addPart) (by decide +kernel) rfl rfl (dm_FO_s ffX11 [(44, 11, 18), (47, 11, 19), (50, 11, 20), (53, 11, 21), (56, 11, 22), (59, 11, 23), (139, 11, 17)] rfl dm_hT (by decide +kernel)) (dm_IO_s ifX11 jfX11 [] [] rfl rfl dm_hT (by decide +kernel) (by decide +kernel)) soM (dm_MO_of (fun _ h => absurd h List.not_mem_nil)) v_X11_addPart u_X11_addPart
def sp_X11_node (As : List Value) (u : dm_S) (Q : Option Value → dm_S → Prop) : Prop := match As with
  | [.ref 0, .long a] => (¬ u.1 0 0 = 24 ∧ -1000000 ≤ a ∧ a ≤ 1000000 → vp_in (u.1 0 0) 24 ∧ Q (some (.int (u.1 0 0))) (dm_mg (dm_ui (dm_ul u 1 (u.1 0 0).toNatClampNeg a) 0 0 (u.1 0 0 + 1)))) ∧ (¬ (¬ u.1 0 0 = 24 ∧ -1000000 ≤ a ∧ a ≤ 1000000) → Q (some (.int (-1))) u)
  | _ => False
def p_X11_node : List dm_I := [(0, .aload_n 0, 1, [0]), (1, .getfield 109, 3, []), (4, .bipush 24, 2, []), (6, .if_icmp .eq 16, 3, [22]), (9, .lload_n 1, 1, [1]), (10, .ldc2_w 112, 3, []), (13, .ldc2_w 114, 3, []), (16, .invokestatic 116, 3, []), (19, .ifCond .ne 5, 3, [24]), (22, .iconst (-1), 1, []), (23, .ireturn, 1, []), (24, .aload_n 0, 1, [0]), (25, .getfield 7, 3, []), (28, .aload_n 0, 1, [0]), (29, .getfield 109, 3, []), (32, .lload_n 1, 1, [1]), (33, .lastore, 1, []), (34, .aload_n 0, 1, [0]), (35, .dup, 1, []), (36, .getfield 109, 3, []), (39, .iconst 1, 1, []), (40, .iadd, 1, []), (41, .putfield 109, 3, []), (44, .aload_n 0, 1, [0]), (45, .invokevirtual 120, 3, []), (48, .aload_n 0, 1, [0]), (49, .getfield 109, 3, []), (52, .iconst 1, 1, []), (53, .isub, 1, []), (54, .ireturn, 1, [])]
set_option maxRecDepth 100000 in
theorem v_X11_node : p_X11_node.all (dm_vb cX11_node) = true := by decide +kernel
def k_X11_node : dm_Sp := fun a => match a with
  | 0 => sp_X11_within
  | 1 => sp_X11_gone
  | _ => fun _ _ _ => False
def x_X11_node : dm_X := dm_mk [(7, 11, 2), (109, 11, 0)] [] [(112, -1000000), (114, 1000000)] [(116, 0, 3, 1000), (120, 1, 0, 11)] 1
set_option maxRecDepth 100000 in
set_option maxHeartbeats 400000 in
theorem u_X11_node : dm_Pure shM x_X11_node k_X11_node p_X11_node 3 sp_X11_node := by
  intro As u Qp h
  unfold sp_X11_node at h
  split at h
  · refine ⟨Nat.le_of_ble_eq_true rfl, fun G Wp hW0 hW1 hG => ?_⟩
    apply hG (fun _ => false) 31
    simp (config := { maxSteps := 2000000 }) [hW0, hW1, dm_fn, dm_fd, dm_x, dm_L0, dm_la, dm_t1, dm_sw, List.headD, dm_ic, dm_mk, dm_s1, dm_s2, dm_clr, dm_cs, dm_cc, dm_nb0, dm_nb1, Value.category, List.lookup, p_X11_node, x_X11_node, k_X11_node, dm_cm, upd, vp_updL, dm_ui_1, dm_ui_2, dm_ul_1, dm_ul_2, sp_X11_within, sp_X11_gone, sM_0, sM_1, sM_2, sM_3, sM_4, sM_5, sM_6, sM_7, sM_8, sM_9, sM_10, sM_11, sM_12, sM_13, sM_14, sM_15, sM_16, sM_17, sM_18, sM_19, sM_20, sM_21, sM_22, sM_23, sM_24, sM_25, sM_26, sM_27, sM_28, sM_29]
    exact ⟨fun q => h.2 (fun z => z.1 q), fun q => ⟨fun q1 q2 => h.1 ⟨q, q1, q2⟩, fun q1 => h.2 (fun z => dm_l_le.mpr (q1 z.2.1) z.2.2)⟩⟩
  · exact h.elim
set_option maxRecDepth 100000 in
theorem t_X11_node (l : Launch) (D : va_G) (cA : Nat → ClassId) (ad : Nat → Nat) : dm_Met l D dm_cl cA ad shM yX11_node (Cond.code yX11_node cX11_node 3 (dm_rt 1) :: dm_tt) ({ frames := 1, cells := 0, slots := 0, locals := 25 } : Room) sp_X11_node := dm_meth (own := RX11) (X := x_X11_node) (Sp := k_X11_node) (prog := p_X11_node) (by decide +kernel) rfl rfl (dm_FO_s ffX11 [(7, 11, 2), (109, 11, 0)] rfl dm_hT (by decide +kernel)) (dm_IO_s ifX11 jfX11 [] [(112, -1000000), (114, 1000000)] rfl rfl dm_hT (by decide +kernel) (by decide +kernel)) soM (dm_MO_of (List.forall_mem_cons.mpr ⟨dm_M1_of (t_X11_within l D cA ad) dm_hT (dm_mem [1072, 77, 1070] (by decide +kernel) (by decide +kernel)) (by decide) (by decide +kernel) (Or.inl ⟨rfl, dm_mem (ws := [.static yX11_within]) [1071] (by decide +kernel) (by decide +kernel) _ List.mem_cons_self⟩), List.forall_mem_cons.mpr ⟨dm_M1_of (t_X11_gone l D cA ad) dm_hT (dm_mem [1076, 77, 1073] (by decide +kernel) (by decide +kernel)) (by decide) (by decide +kernel) (Or.inr ⟨by decide, dm_mem [1075, 40] (by decide +kernel) (by decide +kernel), rfl⟩), fun _ h => absurd h List.not_mem_nil⟩⟩)) v_X11_node u_X11_node
def dm_am (u : dm_S) (a b : Int32) (lo mo co : Int64) : Prop := (0 ≤ a ∧ a < u.1 0 0) ∧ (0 ≤ b ∧ b < u.1 0 0) ∧ ¬ a = b ∧ ¬ u.1 0 1 = 80 ∧ (0 ≤ lo ∧ lo ≤ 1000000) ∧ (-1000000 ≤ co ∧ co ≤ 1000000) ∧ (mo = -2 ∨ lo ≤ mo ∧ mo ≤ 1000000)
def sp_X11_arc (As : List Value) (u : dm_S) (Q : Option Value → dm_S → Prop) : Prop := match As with
  | [.ref 0, .int a, .int b, .long lo, .long mo, .long co] => (dm_am u a b lo mo co → vp_in (u.1 0 1) 80 ∧ vp_in (4 * u.1 0 1) 320 ∧ Q (some (.int (u.1 0 1))) (dm_mg (dm_ui (dm_ul (dm_ui (dm_ul (dm_ul (dm_ui (dm_ui u 2 (u.1 0 1).toNatClampNeg a) 3 (u.1 0 1).toNatClampNeg b) 4 (u.1 0 1).toNatClampNeg lo) 5 (u.1 0 1).toNatClampNeg mo) 6 (u.1 0 1).toNatClampNeg 0) 7 (4 * u.1 0 1).toNatClampNeg co) 0 1 (u.1 0 1 + 1)))) ∧ (¬ dm_am u a b lo mo co → Q (some (.int (-1))) u)
  | _ => False
def p_X11_arc : List dm_I := [(0, .aload_n 0, 1, [0]), (1, .iload_n 1, 1, [1]), (2, .invokevirtual 126, 3, []), (5, .ifCond .eq 50, 3, [55]), (8, .aload_n 0, 1, [0]), (9, .iload_n 2, 1, [2]), (10, .invokevirtual 126, 3, []), (13, .ifCond .eq 42, 3, [55]), (16, .iload_n 1, 1, [1]), (17, .iload_n 2, 1, [2]), (18, .if_icmp .eq 37, 3, [55]), (21, .aload_n 0, 1, [0]), (22, .getfield 123, 3, []), (25, .bipush 80, 2, []), (27, .if_icmp .eq 28, 3, [55]), (30, .lload_n 3, 1, [3]), (31, .lconst 0, 1, []), (32, .ldc2_w 114, 3, []), (35, .invokestatic 116, 3, []), (38, .ifCond .eq 17, 3, [55]), (41, .lload 7, 2, []), (43, .ldc2_w 112, 3, []), (46, .ldc2_w 114, 3, []), (49, .invokestatic 116, 3, []), (52, .ifCond .ne 7, 3, [59]), (55, .iconst 1, 1, []), (56, .goto 4, 3, [60]), (59, .iconst 0, 1, []), (60, .istore 9, 2, []), (62, .iload 9, 2, []), (64, .ifCond .ne 24, 3, [88]), (67, .lload 5, 2, []), (69, .ldc2_w 130, 3, []), (72, .lcmp, 1, []), (73, .ifCond .eq 17, 3, [90]), (76, .lload 5, 2, []), (78, .lload_n 3, 1, [3]), (79, .ldc2_w 114, 3, []), (82, .invokestatic 116, 3, []), (85, .ifCond .ne 5, 3, [90]), (88, .iconst (-1), 1, []), (89, .ireturn, 1, []), (90, .aload_n 0, 1, [0]), (91, .getfield 13, 3, []), (94, .aload_n 0, 1, [0]), (95, .getfield 123, 3, []), (98, .iload_n 1, 1, [1]), (99, .iastore, 1, []), (100, .aload_n 0, 1, [0]), (101, .getfield 17, 3, []), (104, .aload_n 0, 1, [0]), (105, .getfield 123, 3, []), (108, .iload_n 2, 1, [2]), (109, .iastore, 1, []), (110, .aload_n 0, 1, [0]), (111, .getfield 20, 3, []), (114, .aload_n 0, 1, [0]), (115, .getfield 123, 3, []), (118, .lload_n 3, 1, [3]), (119, .lastore, 1, []), (120, .aload_n 0, 1, [0]), (121, .getfield 23, 3, []), (124, .aload_n 0, 1, [0]), (125, .getfield 123, 3, []), (128, .lload 5, 2, []), (130, .lastore, 1, []), (131, .aload_n 0, 1, [0]), (132, .getfield 26, 3, []), (135, .aload_n 0, 1, [0]), (136, .getfield 123, 3, []), (139, .iconst 0, 1, []), (140, .iastore, 1, []), (141, .aload_n 0, 1, [0]), (142, .getfield 29, 3, []), (145, .iconst 4, 1, []), (146, .aload_n 0, 1, [0]), (147, .getfield 123, 3, []), (150, .imul, 1, []), (151, .lload 7, 2, []), (153, .lastore, 1, []), (154, .aload_n 0, 1, [0]), (155, .dup, 1, []), (156, .getfield 123, 3, []), (159, .iconst 1, 1, []), (160, .iadd, 1, []), (161, .putfield 123, 3, []), (164, .aload_n 0, 1, [0]), (165, .invokevirtual 120, 3, []), (168, .aload_n 0, 1, [0]), (169, .getfield 123, 3, []), (172, .iconst 1, 1, []), (173, .isub, 1, []), (174, .ireturn, 1, [])]
set_option maxRecDepth 100000 in
theorem v_X11_arc : p_X11_arc.all (dm_vb cX11_arc) = true := by decide +kernel
def k_X11_arc : dm_Sp := fun a => match a with
  | 0 => sp_X11_isNode
  | 1 => sp_X11_within
  | 2 => sp_X11_gone
  | _ => fun _ _ _ => False
def x_X11_arc : dm_X := dm_mk [(13, 11, 3), (17, 11, 4), (20, 11, 5), (23, 11, 6), (26, 11, 7), (29, 11, 8), (123, 11, 1)] [] [(112, -1000000), (114, 1000000), (130, -2)] [(126, 0, 1, 11), (116, 1, 3, 1000), (120, 2, 0, 11)] 1
set_option maxRecDepth 100000 in
set_option maxHeartbeats 400000 in
theorem u_X11_arc : dm_Pure shM x_X11_arc k_X11_arc p_X11_arc 10 sp_X11_arc := by
  intro As u Qp h
  unfold sp_X11_arc at h
  split at h
  · refine ⟨Nat.le_of_ble_eq_true rfl, fun G Wp hW0 hW1 hG => ?_⟩
    apply hG (fun _ => false) 94
    simp (config := { maxSteps := 2000000 }) [hW0, hW1, dm_fn, dm_fd, dm_x, dm_L0, dm_la, dm_t1, dm_sw, List.headD, dm_ic, dm_mk, dm_s1, dm_s2, dm_clr, dm_cs, dm_cc, dm_nb0, dm_nb1, Value.category, List.lookup, p_X11_arc, x_X11_arc, k_X11_arc, dm_cm, upd, vp_updL, dm_ui_1, dm_ui_2, dm_ul_1, dm_ul_2, sp_X11_isNode, sp_X11_within, sp_X11_gone, sM_0, sM_1, sM_2, sM_3, sM_4, sM_5, sM_6, sM_7, sM_8, sM_9, sM_10, sM_11, sM_12, sM_13, sM_14, sM_15, sM_16, sM_17, sM_18, sM_19, sM_20, sM_21, sM_22, sM_23, sM_24, sM_25, sM_26, sM_27, sM_28, sM_29]
    rename_i a b lo mo co
    obtain ⟨h1, h2⟩ := h
    refine ⟨fun q => h2 (fun z => dm_i_lt.mpr (q z.1.1) z.1.2), fun a1 a2 => ⟨fun q => h2 (fun z => dm_i_lt.mpr (q z.2.1.1) z.2.1.2), fun b1 b2 => ⟨fun q => h2 (fun z => z.2.2.1 q), fun ne => ⟨fun q => h2 (fun z => z.2.2.2.1 q), fun m1 => ⟨fun q => h2 (fun z => dm_l_le.mpr (q z.2.2.2.2.1.1) z.2.2.2.2.1.2), fun l1 l2 => ⟨fun c1 c2 => ?_, fun q => h2 (fun z => dm_l_le.mpr (q z.2.2.2.2.2.1.1) z.2.2.2.2.2.1.2)⟩⟩⟩⟩⟩⟩
    have key : (mo = -2 ∨ lo ≤ mo ∧ mo ≤ 1000000) → dm_am u a b lo mo co := fun z => ⟨⟨a1, a2⟩, ⟨b1, b2⟩, ne, m1, ⟨l1, l2⟩, ⟨c1, c2⟩, z⟩
    exact ⟨fun q => h1 (key (Or.inl q)), fun q => ⟨fun q1 q2 => h1 (key (Or.inr ⟨q1, q2⟩)), fun q1 => h2 (fun z => z.2.2.2.2.2.2.elim q (fun y => dm_l_le.mpr (q1 y.1) y.2))⟩⟩
  · exact h.elim
set_option maxRecDepth 100000 in
theorem t_X11_arc (l : Launch) (D : va_G) (cA : Nat → ClassId) (ad : Nat → Nat) : dm_Met l D dm_cl cA ad shM yX11_arc (Cond.code yX11_arc cX11_arc 10 (dm_rt 1) :: dm_tt) ({ frames := 1, cells := 0, slots := 0, locals := 25 } : Room) sp_X11_arc := dm_meth (own := RX11) (X := x_X11_arc) (Sp := k_X11_arc) (prog := p_X11_arc) (by decide +kernel) rfl rfl (dm_FO_s ffX11 [(13, 11, 3), (17, 11, 4), (20, 11, 5), (23, 11, 6), (26, 11, 7), (29, 11, 8), (123, 11, 1)] rfl dm_hT (by decide +kernel)) (dm_IO_s ifX11 jfX11 [] [(112, -1000000), (114, 1000000), (130, -2)] rfl rfl dm_hT (by decide +kernel) (by decide +kernel)) soM (dm_MO_of (List.forall_mem_cons.mpr ⟨dm_M1_of (t_X11_isNode l D cA ad) dm_hT (dm_mem [1084, 77, 1081] (by decide +kernel) (by decide +kernel)) (by decide) (by decide +kernel) (Or.inr ⟨by decide, dm_mem [1083, 41] (by decide +kernel) (by decide +kernel), rfl⟩), List.forall_mem_cons.mpr ⟨dm_M1_of (t_X11_within l D cA ad) dm_hT (dm_mem [1072, 77, 1070] (by decide +kernel) (by decide +kernel)) (by decide) (by decide +kernel) (Or.inl ⟨rfl, dm_mem (ws := [.static yX11_within]) [1071] (by decide +kernel) (by decide +kernel) _ List.mem_cons_self⟩), List.forall_mem_cons.mpr ⟨dm_M1_of (t_X11_gone l D cA ad) dm_hT (dm_mem [1076, 77, 1073] (by decide +kernel) (by decide +kernel)) (by decide) (by decide +kernel) (Or.inr ⟨by decide, dm_mem [1075, 40] (by decide +kernel) (by decide +kernel), rfl⟩), fun _ h => absurd h List.not_mem_nil⟩⟩⟩)) v_X11_arc u_X11_arc
def sp_X11_supply (As : List Value) (u : dm_S) (Q : Option Value → dm_S → Prop) : Prop := match As with
  | [.ref 0, .int a, .long d] => ((0 ≤ a ∧ a < u.1 0 0) ∧ -1000000 ≤ d ∧ d ≤ 1000000 → vp_in a 24 ∧ Q (some (.long (u.2 1 a.toNatClampNeg))) (dm_mg (dm_ul u 1 a.toNatClampNeg d))) ∧ (¬ ((0 ≤ a ∧ a < u.1 0 0) ∧ -1000000 ≤ d ∧ d ≤ 1000000) → Q (some (.long (-1000001))) u)
  | _ => False
def p_X11_supply : List dm_I := [(0, .aload_n 0, 1, [0]), (1, .iload_n 1, 1, [1]), (2, .invokevirtual 126, 3, []), (5, .ifCond .eq 16, 3, [21]), (8, .lload_n 2, 1, [2]), (9, .ldc2_w 112, 3, []), (12, .ldc2_w 114, 3, []), (15, .invokestatic 116, 3, []), (18, .ifCond .ne 7, 3, [25]), (21, .ldc2_w 137, 3, []), (24, .lreturn, 1, []), (25, .aload_n 0, 1, [0]), (26, .getfield 7, 3, []), (29, .iload_n 1, 1, [1]), (30, .laload, 1, []), (31, .lstore 4, 2, []), (33, .aload_n 0, 1, [0]), (34, .getfield 7, 3, []), (37, .iload_n 1, 1, [1]), (38, .lload_n 2, 1, [2]), (39, .lastore, 1, []), (40, .aload_n 0, 1, [0]), (41, .invokevirtual 120, 3, []), (44, .lload 4, 2, []), (46, .lreturn, 1, [])]
set_option maxRecDepth 100000 in
theorem v_X11_supply : p_X11_supply.all (dm_vb cX11_supply) = true := by decide +kernel
def k_X11_supply : dm_Sp := fun a => match a with
  | 0 => sp_X11_isNode
  | 1 => sp_X11_within
  | 2 => sp_X11_gone
  | _ => fun _ _ _ => False
def x_X11_supply : dm_X := dm_mk [(7, 11, 2)] [] [(112, -1000000), (114, 1000000), (137, -1000001)] [(126, 0, 1, 11), (116, 1, 3, 1000), (120, 2, 0, 11)] 2
set_option maxRecDepth 100000 in
set_option maxHeartbeats 400000 in
theorem u_X11_supply : dm_Pure shM x_X11_supply k_X11_supply p_X11_supply 6 sp_X11_supply := by
  intro As u Qp h
  unfold sp_X11_supply at h
  split at h
  · refine ⟨Nat.le_of_ble_eq_true rfl, fun G Wp hW0 hW1 hG => ?_⟩
    apply hG (fun _ => false) 26
    simp (config := { maxSteps := 2000000 }) [hW0, hW1, dm_fn, dm_fd, dm_x, dm_L0, dm_la, dm_t1, dm_sw, List.headD, dm_ic, dm_mk, dm_s1, dm_s2, dm_clr, dm_cs, dm_cc, dm_nb0, dm_nb1, Value.category, List.lookup, p_X11_supply, x_X11_supply, k_X11_supply, dm_cm, upd, vp_updL, dm_ui_1, dm_ui_2, dm_ul_1, dm_ul_2, sp_X11_isNode, sp_X11_within, sp_X11_gone, sM_0, sM_1, sM_2, sM_3, sM_4, sM_5, sM_6, sM_7, sM_8, sM_9, sM_10, sM_11, sM_12, sM_13, sM_14, sM_15, sM_16, sM_17, sM_18, sM_19, sM_20, sM_21, sM_22, sM_23, sM_24, sM_25, sM_26, sM_27, sM_28, sM_29]
    obtain ⟨h1, h2⟩ := h
    exact ⟨fun q => h2 (fun z => dm_i_lt.mpr (q z.1.1) z.1.2), fun a1 a2 => ⟨fun d1 d2 => h1 ⟨⟨a1, a2⟩, d1, d2⟩, fun q => h2 (fun z => dm_l_le.mpr (q z.2.1) z.2.2)⟩⟩
  · exact h.elim
set_option maxRecDepth 100000 in
theorem t_X11_supply (l : Launch) (D : va_G) (cA : Nat → ClassId) (ad : Nat → Nat) : dm_Met l D dm_cl cA ad shM yX11_supply (Cond.code yX11_supply cX11_supply 6 (dm_rt 2) :: dm_tt) ({ frames := 1, cells := 0, slots := 0, locals := 25 } : Room) sp_X11_supply := dm_meth (own := RX11) (X := x_X11_supply) (Sp := k_X11_supply) (prog := p_X11_supply) (by decide +kernel) rfl rfl (dm_FO_s ffX11 [(7, 11, 2)] rfl dm_hT (by decide +kernel)) (dm_IO_s ifX11 jfX11 [] [(112, -1000000), (114, 1000000), (137, -1000001)] rfl rfl dm_hT (by decide +kernel) (by decide +kernel)) soM (dm_MO_of (List.forall_mem_cons.mpr ⟨dm_M1_of (t_X11_isNode l D cA ad) dm_hT (dm_mem [1084, 77, 1081] (by decide +kernel) (by decide +kernel)) (by decide) (by decide +kernel) (Or.inr ⟨by decide, dm_mem [1083, 41] (by decide +kernel) (by decide +kernel), rfl⟩), List.forall_mem_cons.mpr ⟨dm_M1_of (t_X11_within l D cA ad) dm_hT (dm_mem [1072, 77, 1070] (by decide +kernel) (by decide +kernel)) (by decide) (by decide +kernel) (Or.inl ⟨rfl, dm_mem (ws := [.static yX11_within]) [1071] (by decide +kernel) (by decide +kernel) _ List.mem_cons_self⟩), List.forall_mem_cons.mpr ⟨dm_M1_of (t_X11_gone l D cA ad) dm_hT (dm_mem [1076, 77, 1073] (by decide +kernel) (by decide +kernel)) (by decide) (by decide +kernel) (Or.inr ⟨by decide, dm_mem [1075, 40] (by decide +kernel) (by decide +kernel), rfl⟩), fun _ h => absurd h List.not_mem_nil⟩⟩⟩)) v_X11_supply u_X11_supply
def sp_X11_price (As : List Value) (u : dm_S) (Q : Option Value → dm_S → Prop) : Prop := match As with
  | [.ref 0, .int a, .long d] => (0 ≤ a ∧ a < u.1 0 1 → vp_in a 80 ∧ vp_in (4 * a) 320) ∧ ((0 ≤ a ∧ a < u.1 0 1) ∧ u.1 6 a.toNatClampNeg ≤ 0 ∧ -1000000 ≤ d ∧ d ≤ 1000000 → Q (some (.int 1)) (dm_mg (dm_ul u 7 (4 * a).toNatClampNeg d))) ∧ (¬ ((0 ≤ a ∧ a < u.1 0 1) ∧ u.1 6 a.toNatClampNeg ≤ 0 ∧ -1000000 ≤ d ∧ d ≤ 1000000) → Q (some (.int 0)) u)
  | _ => False
def p_X11_price : List dm_I := [(0, .aload_n 0, 1, [0]), (1, .iload_n 1, 1, [1]), (2, .invokevirtual 132, 3, []), (5, .ifCond .eq 25, 3, [30]), (8, .aload_n 0, 1, [0]), (9, .getfield 26, 3, []), (12, .iload_n 1, 1, [1]), (13, .iaload, 1, []), (14, .ifCond .gt 16, 3, [30]), (17, .lload_n 2, 1, [2]), (18, .ldc2_w 112, 3, []), (21, .ldc2_w 114, 3, []), (24, .invokestatic 116, 3, []), (27, .ifCond .ne 5, 3, [32]), (30, .iconst 0, 1, []), (31, .ireturn, 1, []), (32, .aload_n 0, 1, [0]), (33, .getfield 29, 3, []), (36, .iconst 4, 1, []), (37, .iload_n 1, 1, [1]), (38, .imul, 1, []), (39, .lload_n 2, 1, [2]), (40, .lastore, 1, []), (41, .aload_n 0, 1, [0]), (42, .invokevirtual 120, 3, []), (45, .iconst 1, 1, []), (46, .ireturn, 1, [])]
set_option maxRecDepth 100000 in
theorem v_X11_price : p_X11_price.all (dm_vb cX11_price) = true := by decide +kernel
def k_X11_price : dm_Sp := fun a => match a with
  | 0 => sp_X11_isArc
  | 1 => sp_X11_within
  | 2 => sp_X11_gone
  | _ => fun _ _ _ => False
def x_X11_price : dm_X := dm_mk [(26, 11, 7), (29, 11, 8)] [] [(112, -1000000), (114, 1000000)] [(132, 0, 1, 11), (116, 1, 3, 1000), (120, 2, 0, 11)] 3
set_option maxRecDepth 100000 in
set_option maxHeartbeats 400000 in
theorem u_X11_price : dm_Pure shM x_X11_price k_X11_price p_X11_price 4 sp_X11_price := by
  intro As u Qp h
  unfold sp_X11_price at h
  split at h
  · refine ⟨Nat.le_of_ble_eq_true rfl, fun G Wp hW0 hW1 hG => ?_⟩
    apply hG (fun _ => false) 28
    simp (config := { maxSteps := 2000000 }) [hW0, hW1, dm_fn, dm_fd, dm_x, dm_L0, dm_la, dm_t1, dm_sw, List.headD, dm_ic, dm_mk, dm_s1, dm_s2, dm_clr, dm_cs, dm_cc, dm_nb0, dm_nb1, Value.category, List.lookup, p_X11_price, x_X11_price, k_X11_price, dm_cm, upd, vp_updL, dm_ui_1, dm_ui_2, dm_ul_1, dm_ul_2, sp_X11_isArc, sp_X11_within, sp_X11_gone, sM_0, sM_1, sM_2, sM_3, sM_4, sM_5, sM_6, sM_7, sM_8, sM_9, sM_10, sM_11, sM_12, sM_13, sM_14, sM_15, sM_16, sM_17, sM_18, sM_19, sM_20, sM_21, sM_22, sM_23, sM_24, sM_25, sM_26, sM_27, sM_28, sM_29]
    obtain ⟨h0, h1, h2⟩ := h
    exact ⟨fun q => h2 (fun z => dm_i_lt.mpr (q z.1.1) z.1.2), fun a1 a2 => ⟨(h0 ⟨a1, a2⟩).1, fun q => h2 (fun z => dm_i_le.mpr q z.2.1), fun a3 => ⟨fun d1 d2 => ⟨(h0 ⟨a1, a2⟩).2, h1 ⟨⟨a1, a2⟩, a3, d1, d2⟩⟩, fun q => h2 (fun z => dm_l_le.mpr (q z.2.2.1) z.2.2.2)⟩⟩⟩
  · exact h.elim
set_option maxRecDepth 100000 in
theorem t_X11_price (l : Launch) (D : va_G) (cA : Nat → ClassId) (ad : Nat → Nat) : dm_Met l D dm_cl cA ad shM yX11_price (Cond.code yX11_price cX11_price 4 (dm_rt 3) :: dm_tt) ({ frames := 1, cells := 0, slots := 0, locals := 25 } : Room) sp_X11_price := dm_meth (own := RX11) (X := x_X11_price) (Sp := k_X11_price) (prog := p_X11_price) (by decide +kernel) rfl rfl (dm_FO_s ffX11 [(26, 11, 7), (29, 11, 8)] rfl dm_hT (by decide +kernel)) (dm_IO_s ifX11 jfX11 [] [(112, -1000000), (114, 1000000)] rfl rfl dm_hT (by decide +kernel) (by decide +kernel)) soM (dm_MO_of (List.forall_mem_cons.mpr ⟨dm_M1_of (t_X11_isArc l D cA ad) dm_hT (dm_mem [1093, 77, 1090] (by decide +kernel) (by decide +kernel)) (by decide) (by decide +kernel) (Or.inr ⟨by decide, dm_mem [1092, 42] (by decide +kernel) (by decide +kernel), rfl⟩), List.forall_mem_cons.mpr ⟨dm_M1_of (t_X11_within l D cA ad) dm_hT (dm_mem [1072, 77, 1070] (by decide +kernel) (by decide +kernel)) (by decide) (by decide +kernel) (Or.inl ⟨rfl, dm_mem (ws := [.static yX11_within]) [1071] (by decide +kernel) (by decide +kernel) _ List.mem_cons_self⟩), List.forall_mem_cons.mpr ⟨dm_M1_of (t_X11_gone l D cA ad) dm_hT (dm_mem [1076, 77, 1073] (by decide +kernel) (by decide +kernel)) (by decide) (by decide +kernel) (Or.inr ⟨by decide, dm_mem [1075, 40] (by decide +kernel) (by decide +kernel), rfl⟩), fun _ h => absurd h List.not_mem_nil⟩⟩⟩)) v_X11_price u_X11_price
