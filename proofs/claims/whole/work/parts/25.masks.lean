/-! ===== the reference's calls that ask ===== -/
def sp_X11_cost (As : List Value) (u : dm_S) (Q : Option Value → dm_S → Prop) : Prop := match As with
  | [.ref 0] => (u.1 0 10 = 0 → Q (some (.long (u.2 0 12))) u) ∧ (¬ u.1 0 10 = 0 → Q (some (.long 0)) u)
  | _ => False
def p_X11_cost : List dm_I := [(0, .aload_n 0, 1, [0]), (1, .getfield 99, 3, []), (4, .ifCond .ne 10, 3, [14]), (7, .aload_n 0, 1, [0]), (8, .getfield 201, 3, []), (11, .goto 4, 3, [15]), (14, .lconst 0, 1, []), (15, .lreturn, 1, [])]
set_option maxRecDepth 100000 in
theorem v_X11_cost : p_X11_cost.all (dm_vb cX11_cost) = true := by decide +kernel
def k_X11_cost : dm_Sp := fun a => match a with
  | _ => fun _ _ _ => False
def x_X11_cost : dm_X := dm_mk [(99, 11, 10), (201, 11, 12)] [] [] [] 2
set_option maxRecDepth 100000 in
set_option maxHeartbeats 400000 in
theorem u_X11_cost : dm_Pure shM x_X11_cost k_X11_cost p_X11_cost 1 sp_X11_cost := by
  intro As u Qp h
  unfold sp_X11_cost at h
  split at h
  · refine ⟨Nat.le_of_ble_eq_true rfl, fun G Wp hW0 hW1 hG => ?_⟩
    apply hG (fun _ => false) 9
    simp (config := { maxSteps := 2000000 }) [hW0, hW1, dm_fn, dm_fd, dm_x, dm_L0, dm_la, dm_t1, dm_sw, List.headD, dm_ic, dm_mk, dm_s1, dm_s2, dm_clr, dm_cs, dm_cc, dm_nb0, dm_nb1, Value.category, List.lookup, p_X11_cost, x_X11_cost, k_X11_cost, dm_cm, upd, vp_updL, dm_ui_1, dm_ui_2, dm_ul_1, dm_ul_2, sM_0, sM_1, sM_2, sM_3, sM_4, sM_5, sM_6, sM_7, sM_8, sM_9, sM_10, sM_11, sM_12, sM_13, sM_14, sM_15, sM_16, sM_17, sM_18, sM_19, sM_20, sM_21, sM_22, sM_23, sM_24, sM_25, sM_26, sM_27, sM_28, sM_29]
    exact ⟨h.2, h.1⟩
  · exact h.elim
set_option maxRecDepth 100000 in
theorem t_X11_cost (l : Launch) (D : va_G) (cA : Nat → ClassId) (ad : Nat → Nat) : dm_Met l D dm_cl cA ad shM yX11_cost (Cond.code yX11_cost cX11_cost 1 (dm_rt 2) :: dm_tt) ({ frames := 0, cells := 0, slots := 0, locals := 0 } : Room) sp_X11_cost := dm_meth (own := RX11) (X := x_X11_cost) (Sp := k_X11_cost) (prog := p_X11_cost) (by decide +kernel) rfl rfl (dm_FO_s ffX11 [(99, 11, 10), (201, 11, 12)] rfl dm_hT (by decide +kernel)) (dm_IO_s ifX11 jfX11 [] [] rfl rfl dm_hT (by decide +kernel) (by decide +kernel)) soM (dm_MO_of (fun _ h => absurd h List.not_mem_nil)) v_X11_cost u_X11_cost
def sp_X11_on (As : List Value) (u : dm_S) (Q : Option Value → dm_S → Prop) : Prop := match As with
  | [.ref 0, .int x] => (u.1 0 10 = 0 ∧ 0 ≤ x ∧ x < u.1 0 1 → vp_in x 80 ∧ Q (some (.long (u.2 9 x.toNatClampNeg))) u) ∧ (¬ (u.1 0 10 = 0 ∧ 0 ≤ x ∧ x < u.1 0 1) → Q (some (.long (-1))) u)
  | _ => False
def p_X11_on : List dm_I := [(0, .aload_n 0, 1, [0]), (1, .getfield 99, 3, []), (4, .ifCond .ne 20, 3, [24]), (7, .aload_n 0, 1, [0]), (8, .iload_n 1, 1, [1]), (9, .invokevirtual 132, 3, []), (12, .ifCond .eq 12, 3, [24]), (15, .aload_n 0, 1, [0]), (16, .getfield 35, 3, []), (19, .iload_n 1, 1, [1]), (20, .laload, 1, []), (21, .goto 6, 3, [27]), (24, .ldc2_w 229, 3, []), (27, .lreturn, 1, [])]
set_option maxRecDepth 100000 in
theorem v_X11_on : p_X11_on.all (dm_vb cX11_on) = true := by decide +kernel
def k_X11_on : dm_Sp := fun a => match a with
  | 0 => sp_X11_isArc
  | _ => fun _ _ _ => False
def x_X11_on : dm_X := dm_mk [(35, 11, 11), (99, 11, 10)] [] [(229, -1)] [(132, 0, 1, 11)] 2
set_option maxRecDepth 100000 in
set_option maxHeartbeats 400000 in
theorem u_X11_on : dm_Pure shM x_X11_on k_X11_on p_X11_on 2 sp_X11_on := by
  intro As u Qp h
  unfold sp_X11_on at h
  split at h
  · refine ⟨Nat.le_of_ble_eq_true rfl, fun G Wp hW0 hW1 hG => ?_⟩
    apply hG (fun _ => false) 15
    simp (config := { maxSteps := 2000000 }) [hW0, hW1, dm_fn, dm_fd, dm_x, dm_L0, dm_la, dm_t1, dm_sw, List.headD, dm_ic, dm_mk, dm_s1, dm_s2, dm_clr, dm_cs, dm_cc, dm_nb0, dm_nb1, Value.category, List.lookup, p_X11_on, x_X11_on, k_X11_on, dm_cm, upd, vp_updL, dm_ui_1, dm_ui_2, dm_ul_1, dm_ul_2, sp_X11_isArc, sM_0, sM_1, sM_2, sM_3, sM_4, sM_5, sM_6, sM_7, sM_8, sM_9, sM_10, sM_11, sM_12, sM_13, sM_14, sM_15, sM_16, sM_17, sM_18, sM_19, sM_20, sM_21, sM_22, sM_23, sM_24, sM_25, sM_26, sM_27, sM_28, sM_29]
    obtain ⟨h1, h2⟩ := h
    exact ⟨fun q => h2 (fun z => q z.1), fun q => ⟨fun q1 => h2 (fun z => dm_i_lt.mpr (q1 z.2.1) z.2.2), fun q1 q2 => h1 ⟨q, q1, q2⟩⟩⟩
  · exact h.elim
set_option maxRecDepth 100000 in
theorem t_X11_on (l : Launch) (D : va_G) (cA : Nat → ClassId) (ad : Nat → Nat) : dm_Met l D dm_cl cA ad shM yX11_on (Cond.code yX11_on cX11_on 2 (dm_rt 2) :: dm_tt) ({ frames := 1, cells := 0, slots := 0, locals := 21 } : Room) sp_X11_on := dm_meth (own := RX11) (X := x_X11_on) (Sp := k_X11_on) (prog := p_X11_on) (by decide +kernel) rfl rfl (dm_FO_s ffX11 [(35, 11, 11), (99, 11, 10)] rfl dm_hT (by decide +kernel)) (dm_IO_s ifX11 jfX11 [] [(229, -1)] rfl rfl dm_hT (by decide +kernel) (by decide +kernel)) soM (dm_MO_of (List.forall_mem_cons.mpr ⟨dm_M1_of (t_X11_isArc l D cA ad) dm_hT (dm_mem [1093, 77, 1090] (by decide +kernel) (by decide +kernel)) (by decide) (by decide +kernel) (Or.inr ⟨by decide, dm_mem [1092, 42] (by decide +kernel) (by decide +kernel), rfl⟩), fun _ h => absurd h List.not_mem_nil⟩)) v_X11_on u_X11_on
def sp_X11_check (As : List Value) (u : dm_S) (Q : Option Value → dm_S → Prop) : Prop := match As with
  | [.ref 0] => (u.1 0 10 = 0 → Q (some (.int 1)) u) ∧ (¬ u.1 0 10 = 0 → Q (some (.int (-1))) u)
  | _ => False
def p_X11_check : List dm_I := [(0, .aload_n 0, 1, [0]), (1, .getfield 99, 3, []), (4, .ifCond .ne 7, 3, [11]), (7, .iconst 1, 1, []), (8, .goto 4, 3, [12]), (11, .iconst (-1), 1, []), (12, .ireturn, 1, [])]
set_option maxRecDepth 100000 in
theorem v_X11_check : p_X11_check.all (dm_vb cX11_check) = true := by decide +kernel
def k_X11_check : dm_Sp := fun a => match a with
  | _ => fun _ _ _ => False
def x_X11_check : dm_X := dm_mk [(99, 11, 10)] [] [] [] 1
set_option maxRecDepth 100000 in
set_option maxHeartbeats 400000 in
theorem u_X11_check : dm_Pure shM x_X11_check k_X11_check p_X11_check 1 sp_X11_check := by
  intro As u Qp h
  unfold sp_X11_check at h
  split at h
  · refine ⟨Nat.le_of_ble_eq_true rfl, fun G Wp hW0 hW1 hG => ?_⟩
    apply hG (fun _ => false) 8
    simp (config := { maxSteps := 2000000 }) [hW0, hW1, dm_fn, dm_fd, dm_x, dm_L0, dm_la, dm_t1, dm_sw, List.headD, dm_ic, dm_mk, dm_s1, dm_s2, dm_clr, dm_cs, dm_cc, dm_nb0, dm_nb1, Value.category, List.lookup, p_X11_check, x_X11_check, k_X11_check, dm_cm, upd, vp_updL, dm_ui_1, dm_ui_2, dm_ul_1, dm_ul_2, sM_0, sM_1, sM_2, sM_3, sM_4, sM_5, sM_6, sM_7, sM_8, sM_9, sM_10, sM_11, sM_12, sM_13, sM_14, sM_15, sM_16, sM_17, sM_18, sM_19, sM_20, sM_21, sM_22, sM_23, sM_24, sM_25, sM_26, sM_27, sM_28, sM_29]
    exact ⟨h.2, h.1⟩
  · exact h.elim
set_option maxRecDepth 100000 in
theorem t_X11_check (l : Launch) (D : va_G) (cA : Nat → ClassId) (ad : Nat → Nat) : dm_Met l D dm_cl cA ad shM yX11_check (Cond.code yX11_check cX11_check 1 (dm_rt 1) :: dm_tt) ({ frames := 0, cells := 0, slots := 0, locals := 0 } : Room) sp_X11_check := dm_meth (own := RX11) (X := x_X11_check) (Sp := k_X11_check) (prog := p_X11_check) (by decide +kernel) rfl rfl (dm_FO_s ffX11 [(99, 11, 10)] rfl dm_hT (by decide +kernel)) (dm_IO_s ifX11 jfX11 [] [] rfl rfl dm_hT (by decide +kernel) (by decide +kernel)) soM (dm_MO_of (fun _ h => absurd h List.not_mem_nil)) v_X11_check u_X11_check
def sp_X11_ring (As : List Value) (u : dm_S) (Q : Option Value → dm_S → Prop) : Prop := match As with
  | [.ref 0, .int a] => (0 ≤ a ∧ a < u.1 0 13 → vp_in a 24) ∧ Q (some (.int (if 0 ≤ a ∧ a < u.1 0 13 then u.1 10 a.toNatClampNeg else -1))) u
  | _ => False
def p_X11_ring : List dm_I := [(0, .iload_n 1, 1, [1]), (1, .ifCond .lt 20, 3, [21]), (4, .iload_n 1, 1, [1]), (5, .aload_n 0, 1, [0]), (6, .getfield 103, 3, []), (9, .if_icmp .ge 12, 3, [21]), (12, .aload_n 0, 1, [0]), (13, .getfield 38, 3, []), (16, .iload_n 1, 1, [1]), (17, .iaload, 1, []), (18, .goto 4, 3, [22]), (21, .iconst (-1), 1, []), (22, .ireturn, 1, [])]
set_option maxRecDepth 100000 in
theorem v_X11_ring : p_X11_ring.all (dm_vb cX11_ring) = true := by decide +kernel
def k_X11_ring : dm_Sp := fun a => match a with
  | _ => fun _ _ _ => False
def x_X11_ring : dm_X := dm_mk [(38, 11, 14), (103, 11, 13)] [] [] [] 1
set_option maxRecDepth 100000 in
set_option maxHeartbeats 400000 in
theorem u_X11_ring : dm_Pure shM x_X11_ring k_X11_ring p_X11_ring 2 sp_X11_ring := by
  intro As u Qp h
  unfold sp_X11_ring at h
  split at h
  · refine ⟨Nat.le_of_ble_eq_true rfl, fun G Wp hW0 hW1 hG => ?_⟩
    apply hG (fun _ => false) 14
    simp (config := { maxSteps := 2000000 }) [hW0, hW1, dm_fn, dm_fd, dm_x, dm_L0, dm_la, dm_t1, dm_sw, List.headD, dm_ic, dm_mk, dm_s1, dm_s2, dm_clr, dm_cs, dm_cc, dm_nb0, dm_nb1, Value.category, List.lookup, p_X11_ring, x_X11_ring, k_X11_ring, dm_cm, upd, vp_updL, dm_ui_1, dm_ui_2, dm_ul_1, dm_ul_2, sM_0, sM_1, sM_2, sM_3, sM_4, sM_5, sM_6, sM_7, sM_8, sM_9, sM_10, sM_11, sM_12, sM_13, sM_14, sM_15, sM_16, sM_17, sM_18, sM_19, sM_20, sM_21, sM_22, sM_23, sM_24, sM_25, sM_26, sM_27, sM_28, sM_29]
    obtain ⟨h1, h2⟩ := h
    refine ⟨fun q => ?_, fun q => ⟨fun q2 => ?_, fun q2 => ⟨h1 ⟨q, q2⟩, ?_⟩⟩⟩
    · rw [if_neg (fun z => dm_i_le.mpr q z.1)] at h2; exact h2
    · rw [if_neg (fun z => dm_i_lt.mpr q2 z.2)] at h2; exact h2
    · rw [if_pos ⟨q, q2⟩] at h2; exact h2
  · exact h.elim
set_option maxRecDepth 100000 in
theorem t_X11_ring (l : Launch) (D : va_G) (cA : Nat → ClassId) (ad : Nat → Nat) : dm_Met l D dm_cl cA ad shM yX11_ring (Cond.code yX11_ring cX11_ring 2 (dm_rt 1) :: dm_tt) ({ frames := 0, cells := 0, slots := 0, locals := 0 } : Room) sp_X11_ring := dm_meth (own := RX11) (X := x_X11_ring) (Sp := k_X11_ring) (prog := p_X11_ring) (by decide +kernel) rfl rfl (dm_FO_s ffX11 [(38, 11, 14), (103, 11, 13)] rfl dm_hT (by decide +kernel)) (dm_IO_s ifX11 jfX11 [] [] rfl rfl dm_hT (by decide +kernel) (by decide +kernel)) soM (dm_MO_of (fun _ h => absurd h List.not_mem_nil)) v_X11_ring u_X11_ring
def sp_X11_set (As : List Value) (u : dm_S) (Q : Option Value → dm_S → Prop) : Prop := match As with
  | [.ref 0, .int a] => (0 ≤ a ∧ a < u.1 0 15 → vp_in a 24) ∧ Q (some (.int (if 0 ≤ a ∧ a < u.1 0 15 then u.1 11 a.toNatClampNeg else -1))) u
  | _ => False
def p_X11_set : List dm_I := [(0, .iload_n 1, 1, [1]), (1, .ifCond .lt 20, 3, [21]), (4, .iload_n 1, 1, [1]), (5, .aload_n 0, 1, [0]), (6, .getfield 106, 3, []), (9, .if_icmp .ge 12, 3, [21]), (12, .aload_n 0, 1, [0]), (13, .getfield 41, 3, []), (16, .iload_n 1, 1, [1]), (17, .iaload, 1, []), (18, .goto 4, 3, [22]), (21, .iconst (-1), 1, []), (22, .ireturn, 1, [])]
set_option maxRecDepth 100000 in
theorem v_X11_set : p_X11_set.all (dm_vb cX11_set) = true := by decide +kernel
def k_X11_set : dm_Sp := fun a => match a with
  | _ => fun _ _ _ => False
def x_X11_set : dm_X := dm_mk [(41, 11, 16), (106, 11, 15)] [] [] [] 1
set_option maxRecDepth 100000 in
set_option maxHeartbeats 400000 in
theorem u_X11_set : dm_Pure shM x_X11_set k_X11_set p_X11_set 2 sp_X11_set := by
  intro As u Qp h
  unfold sp_X11_set at h
  split at h
  · refine ⟨Nat.le_of_ble_eq_true rfl, fun G Wp hW0 hW1 hG => ?_⟩
    apply hG (fun _ => false) 14
    simp (config := { maxSteps := 2000000 }) [hW0, hW1, dm_fn, dm_fd, dm_x, dm_L0, dm_la, dm_t1, dm_sw, List.headD, dm_ic, dm_mk, dm_s1, dm_s2, dm_clr, dm_cs, dm_cc, dm_nb0, dm_nb1, Value.category, List.lookup, p_X11_set, x_X11_set, k_X11_set, dm_cm, upd, vp_updL, dm_ui_1, dm_ui_2, dm_ul_1, dm_ul_2, sM_0, sM_1, sM_2, sM_3, sM_4, sM_5, sM_6, sM_7, sM_8, sM_9, sM_10, sM_11, sM_12, sM_13, sM_14, sM_15, sM_16, sM_17, sM_18, sM_19, sM_20, sM_21, sM_22, sM_23, sM_24, sM_25, sM_26, sM_27, sM_28, sM_29]
    obtain ⟨h1, h2⟩ := h
    refine ⟨fun q => ?_, fun q => ⟨fun q2 => ?_, fun q2 => ⟨h1 ⟨q, q2⟩, ?_⟩⟩⟩
    · rw [if_neg (fun z => dm_i_le.mpr q z.1)] at h2; exact h2
    · rw [if_neg (fun z => dm_i_lt.mpr q2 z.2)] at h2; exact h2
    · rw [if_pos ⟨q, q2⟩] at h2; exact h2
  · exact h.elim
set_option maxRecDepth 100000 in
theorem t_X11_set (l : Launch) (D : va_G) (cA : Nat → ClassId) (ad : Nat → Nat) : dm_Met l D dm_cl cA ad shM yX11_set (Cond.code yX11_set cX11_set 2 (dm_rt 1) :: dm_tt) ({ frames := 0, cells := 0, slots := 0, locals := 0 } : Room) sp_X11_set := dm_meth (own := RX11) (X := x_X11_set) (Sp := k_X11_set) (prog := p_X11_set) (by decide +kernel) rfl rfl (dm_FO_s ffX11 [(41, 11, 16), (106, 11, 15)] rfl dm_hT (by decide +kernel)) (dm_IO_s ifX11 jfX11 [] [] rfl rfl dm_hT (by decide +kernel) (by decide +kernel)) soM (dm_MO_of (fun _ h => absurd h List.not_mem_nil)) v_X11_set u_X11_set
def sp_X11_clear (As : List Value) (u : dm_S) (Q : Option Value → dm_S → Prop) : Prop := match As with
  | [.ref 0] => Q none (dm_mg (dm_ui (dm_ui (dm_ui u 0 0 0) 0 1 0) 0 27 0))
  | _ => False
def p_X11_clear : List dm_I := [(0, .aload_n 0, 1, [0]), (1, .iconst 0, 1, []), (2, .putfield 109, 3, []), (5, .aload_n 0, 1, [0]), (6, .iconst 0, 1, []), (7, .putfield 123, 3, []), (10, .aload_n 0, 1, [0]), (11, .iconst 0, 1, []), (12, .putfield 239, 3, []), (15, .aload_n 0, 1, [0]), (16, .invokevirtual 120, 3, []), (19, .return_, 1, [])]
set_option maxRecDepth 100000 in
theorem v_X11_clear : p_X11_clear.all (dm_vb cX11_clear) = true := by decide +kernel
def k_X11_clear : dm_Sp := fun a => match a with
  | 0 => sp_X11_gone
  | _ => fun _ _ _ => False
def x_X11_clear : dm_X := dm_mk [(109, 11, 0), (123, 11, 1), (239, 11, 27)] [] [] [(120, 0, 0, 11)] 0
set_option maxRecDepth 100000 in
set_option maxHeartbeats 400000 in
theorem u_X11_clear : dm_Pure shM x_X11_clear k_X11_clear p_X11_clear 1 sp_X11_clear := by
  intro As u Qp h
  unfold sp_X11_clear at h
  split at h
  · refine ⟨Nat.le_of_ble_eq_true rfl, fun G Wp hW0 hW1 hG => ?_⟩
    apply hG (fun _ => false) 13
    simp (config := { maxSteps := 2000000 }) [hW0, hW1, dm_fn, dm_fd, dm_x, dm_L0, dm_la, dm_t1, dm_sw, List.headD, dm_ic, dm_mk, dm_s1, dm_s2, dm_clr, dm_cs, dm_cc, dm_nb0, dm_nb1, Value.category, List.lookup, p_X11_clear, x_X11_clear, k_X11_clear, dm_cm, upd, vp_updL, dm_ui_1, dm_ui_2, dm_ul_1, dm_ul_2, sp_X11_gone, sM_0, sM_1, sM_2, sM_3, sM_4, sM_5, sM_6, sM_7, sM_8, sM_9, sM_10, sM_11, sM_12, sM_13, sM_14, sM_15, sM_16, sM_17, sM_18, sM_19, sM_20, sM_21, sM_22, sM_23, sM_24, sM_25, sM_26, sM_27, sM_28, sM_29]
    exact h
  · exact h.elim
set_option maxRecDepth 100000 in
theorem t_X11_clear (l : Launch) (D : va_G) (cA : Nat → ClassId) (ad : Nat → Nat) : dm_Met l D dm_cl cA ad shM yX11_clear (Cond.code yX11_clear cX11_clear 1 (dm_rt 0) :: dm_tt) ({ frames := 1, cells := 0, slots := 0, locals := 20 } : Room) sp_X11_clear := dm_meth (own := RX11) (X := x_X11_clear) (Sp := k_X11_clear) (prog := p_X11_clear) (by decide +kernel) rfl rfl (dm_FO_s ffX11 [(109, 11, 0), (123, 11, 1), (239, 11, 27)] rfl dm_hT (by decide +kernel)) (dm_IO_s ifX11 jfX11 [] [] rfl rfl dm_hT (by decide +kernel) (by decide +kernel)) soM (dm_MO_of (List.forall_mem_cons.mpr ⟨dm_M1_of (t_X11_gone l D cA ad) dm_hT (dm_mem [1076, 77, 1073] (by decide +kernel) (by decide +kernel)) (by decide) (by decide +kernel) (Or.inr ⟨by decide, dm_mem [1075, 40] (by decide +kernel) (by decide +kernel), rfl⟩), fun _ h => absurd h List.not_mem_nil⟩)) v_X11_clear u_X11_clear
def sp_X11_put (As : List Value) (u : dm_S) (Q : Option Value → dm_S → Prop) : Prop := match As with
  | [.ref 0, .int a, .int b, .long d] => ((0 ≤ a ∧ a < u.1 0 27) ∧ (0 ≤ b ∧ b < u.1 0 27) ∧ -1000000 ≤ d ∧ d ≤ 1000000 → vp_in (8 * a + b) 64 ∧ Q (some (.int 1)) (dm_ui (dm_ul u 21 (8 * a + b).toNatClampNeg d) 22 (8 * a + b).toNatClampNeg 1)) ∧ (¬ ((0 ≤ a ∧ a < u.1 0 27) ∧ (0 ≤ b ∧ b < u.1 0 27) ∧ -1000000 ≤ d ∧ d ≤ 1000000) → Q (some (.int 0)) u)
  | _ => False
def p_X11_put : List dm_I := [(0, .iload_n 1, 1, [1]), (1, .ifCond .lt 36, 3, [37]), (4, .iload_n 1, 1, [1]), (5, .aload_n 0, 1, [0]), (6, .getfield 239, 3, []), (9, .if_icmp .ge 28, 3, [37]), (12, .iload_n 2, 1, [2]), (13, .ifCond .lt 24, 3, [37]), (16, .iload_n 2, 1, [2]), (17, .aload_n 0, 1, [0]), (18, .getfield 239, 3, []), (21, .if_icmp .ge 16, 3, [37]), (24, .lload_n 3, 1, [3]), (25, .ldc2_w 112, 3, []), (28, .ldc2_w 114, 3, []), (31, .invokestatic 116, 3, []), (34, .ifCond .ne 5, 3, [39]), (37, .iconst 0, 1, []), (38, .ireturn, 1, []), (39, .aload_n 0, 1, [0]), (40, .getfield 71, 3, []), (43, .bipush 8, 2, []), (45, .iload_n 1, 1, [1]), (46, .imul, 1, []), (47, .iload_n 2, 1, [2]), (48, .iadd, 1, []), (49, .lload_n 3, 1, [3]), (50, .lastore, 1, []), (51, .aload_n 0, 1, [0]), (52, .getfield 74, 3, []), (55, .bipush 8, 2, []), (57, .iload_n 1, 1, [1]), (58, .imul, 1, []), (59, .iload_n 2, 1, [2]), (60, .iadd, 1, []), (61, .iconst 1, 1, []), (62, .bastore, 1, []), (63, .iconst 1, 1, []), (64, .ireturn, 1, [])]
set_option maxRecDepth 100000 in
theorem v_X11_put : p_X11_put.all (dm_vb cX11_put) = true := by decide +kernel
def k_X11_put : dm_Sp := fun a => match a with
  | 0 => sp_X11_within
  | _ => fun _ _ _ => False
def x_X11_put : dm_X := dm_mk [(71, 11, 28), (74, 11, 29), (239, 11, 27)] [] [(112, -1000000), (114, 1000000)] [(116, 0, 3, 1000)] 3
set_option maxRecDepth 100000 in
set_option maxHeartbeats 400000 in
theorem u_X11_put : dm_Pure shM x_X11_put k_X11_put p_X11_put 5 sp_X11_put := by
  intro As u Qp h
  unfold sp_X11_put at h
  split at h
  · refine ⟨Nat.le_of_ble_eq_true rfl, fun G Wp hW0 hW1 hG => ?_⟩
    apply hG (fun _ => false) 40
    simp (config := { maxSteps := 2000000 }) [hW0, hW1, dm_fn, dm_fd, dm_x, dm_L0, dm_la, dm_t1, dm_sw, List.headD, dm_ic, dm_mk, dm_s1, dm_s2, dm_clr, dm_cs, dm_cc, dm_nb0, dm_nb1, Value.category, List.lookup, p_X11_put, x_X11_put, k_X11_put, dm_cm, upd, vp_updL, dm_ui_1, dm_ui_2, dm_ul_1, dm_ul_2, sp_X11_within, sM_0, sM_1, sM_2, sM_3, sM_4, sM_5, sM_6, sM_7, sM_8, sM_9, sM_10, sM_11, sM_12, sM_13, sM_14, sM_15, sM_16, sM_17, sM_18, sM_19, sM_20, sM_21, sM_22, sM_23, sM_24, sM_25, sM_26, sM_27, sM_28, sM_29]
    obtain ⟨h1, h2⟩ := h
    exact ⟨fun q => h2 (fun z => dm_i_le.mpr q z.1.1), fun a1 => ⟨fun q => h2 (fun z => dm_i_lt.mpr q z.1.2), fun a2 => ⟨fun q => h2 (fun z => dm_i_le.mpr q z.2.1.1), fun b1 => ⟨fun q => h2 (fun z => dm_i_lt.mpr q z.2.1.2), fun b2 => ⟨fun d1 d2 => h1 ⟨⟨a1, a2⟩, ⟨b1, b2⟩, d1, d2⟩, fun q => h2 (fun z => dm_l_le.mpr (q z.2.2.1) z.2.2.2)⟩⟩⟩⟩⟩
  · exact h.elim
set_option maxRecDepth 100000 in
theorem t_X11_put (l : Launch) (D : va_G) (cA : Nat → ClassId) (ad : Nat → Nat) : dm_Met l D dm_cl cA ad shM yX11_put (Cond.code yX11_put cX11_put 5 (dm_rt 3) :: dm_tt) ({ frames := 1, cells := 0, slots := 0, locals := 25 } : Room) sp_X11_put := dm_meth (own := RX11) (X := x_X11_put) (Sp := k_X11_put) (prog := p_X11_put) (by decide +kernel) rfl rfl (dm_FO_s ffX11 [(71, 11, 28), (74, 11, 29), (239, 11, 27)] rfl dm_hT (by decide +kernel)) (dm_IO_s ifX11 jfX11 [] [(112, -1000000), (114, 1000000)] rfl rfl dm_hT (by decide +kernel) (by decide +kernel)) soM (dm_MO_of (List.forall_mem_cons.mpr ⟨dm_M1_of (t_X11_within l D cA ad) dm_hT (dm_mem [1072, 77, 1070] (by decide +kernel) (by decide +kernel)) (by decide) (by decide +kernel) (Or.inl ⟨rfl, dm_mem (ws := [.static yX11_within]) [1071] (by decide +kernel) (by decide +kernel) _ List.mem_cons_self⟩), fun _ h => absurd h List.not_mem_nil⟩)) v_X11_put u_X11_put
def sp_X11_isServed (As : List Value) (u : dm_S) (Q : Option Value → dm_S → Prop) : Prop := match As with
  | [.ref 0] => ∃ n : Nat, n ≤ 24 ∧ u.1 0 0 = nI n ∧ ((∀ j, j < n → u.2 18 j = 0) → Q (some (.int 1)) u) ∧ ((∃ j, j < n ∧ ¬ u.2 18 j = 0) → Q (some (.int 0)) u)
  | _ => False
def p_X11_isServed : List dm_I := [(0, .iconst 1, 1, []), (1, .istore_n 1, 1, [1]), (2, .iconst 0, 1, []), (3, .istore_n 2, 1, [2]), (4, .iload_n 2, 1, [2]), (5, .aload_n 0, 1, [0]), (6, .getfield 109, 3, []), (9, .if_icmp .ge 30, 3, [39]), (12, .iload_n 1, 1, [1]), (13, .ifCond .eq 18, 3, [31]), (16, .aload_n 0, 1, [0]), (17, .getfield 62, 3, []), (20, .iload_n 2, 1, [2]), (21, .laload, 1, []), (22, .lconst 0, 1, []), (23, .lcmp, 1, []), (24, .ifCond .ne 7, 3, [31]), (27, .iconst 1, 1, []), (28, .goto 4, 3, [32]), (31, .iconst 0, 1, []), (32, .istore_n 1, 1, [1]), (33, .iinc 2 1, 3, []), (36, .goto (-32), 3, [4]), (39, .iload_n 1, 1, [1]), (40, .ireturn, 1, [])]
set_option maxRecDepth 100000 in
theorem v_X11_isServed : p_X11_isServed.all (dm_vb cX11_isServed) = true := by decide +kernel
def k_X11_isServed : dm_Sp := fun a => match a with
  | _ => fun _ _ _ => False
def x_X11_isServed : dm_X := dm_mk [(62, 11, 24), (109, 11, 0)] [] [] [] 3
set_option maxRecDepth 100000 in
set_option maxHeartbeats 400000 in
theorem u_X11_isServed : dm_Pure shM x_X11_isServed k_X11_isServed p_X11_isServed 3 sp_X11_isServed := by
  intro As u Qp h
  unfold sp_X11_isServed at h
  split at h
  · obtain ⟨n, hn, en, h1, h2⟩ := h
    refine ⟨Nat.le_of_ble_eq_true rfl, fun G Wp hW0 hW1 hG => ?_⟩
    have loop : ∀ (k i : Nat) (b : Bool), i + k = n → (b = true ↔ ∀ j, j < i → u.2 18 j = 0) → G 4 [some (.ref 0), some (.int (if b then 1 else 0)), some (.int (nI i))] [] u := by
      intro k
      induction k with
      | zero =>
        intro i b hi hz
        apply hG (fun pc => pc == 4) 30
        simp (config := { maxSteps := 2000000 }) [hW0, hW1, dm_fn, dm_fd, dm_x, dm_L0, dm_la, dm_t1, dm_sw, List.headD, dm_ic, dm_mk, dm_s1, dm_s2, dm_clr, dm_cs, dm_cc, dm_nb0, dm_nb1, Value.category, List.lookup, p_X11_isServed, x_X11_isServed, k_X11_isServed, dm_cm, upd, vp_updL, dm_ui_1, dm_ui_2, dm_ul_1, dm_ul_2, sM_0, sM_1, sM_2, sM_3, sM_4, sM_5, sM_6, sM_7, sM_8, sM_9, sM_10, sM_11, sM_12, sM_13, sM_14, sM_15, sM_16, sM_17, sM_18, sM_19, sM_20, sM_21, sM_22, sM_23, sM_24, sM_25, sM_26, sM_27, sM_28, sM_29]
        have e : i = n := by omega
        subst e
        rw [en]
        refine ⟨fun _ => ⟨dm_nz b, ?_⟩, fun q => absurd q (nI_nlt (Nat.le_refl _) (by omega))⟩
        cases b with
        | true => exact h1 (hz.mp rfl)
        | false =>
          refine h2 ?_
          by_cases y : ∃ j, j < i ∧ ¬ u.2 18 j = 0
          · exact y
          · have := hz.mpr (fun j hj => Classical.byContradiction (fun t => y ⟨j, hj, t⟩))
            cases this
      | succ k ih =>
        intro i b hi hz
        apply hG (fun pc => pc == 4) 30
        simp (config := { maxSteps := 2000000 }) [hW0, hW1, dm_fn, dm_fd, dm_x, dm_L0, dm_la, dm_t1, dm_sw, List.headD, dm_ic, dm_mk, dm_s1, dm_s2, dm_clr, dm_cs, dm_cc, dm_nb0, dm_nb1, Value.category, List.lookup, p_X11_isServed, x_X11_isServed, k_X11_isServed, dm_cm, upd, vp_updL, dm_ui_1, dm_ui_2, dm_ul_1, dm_ul_2, sM_0, sM_1, sM_2, sM_3, sM_4, sM_5, sM_6, sM_7, sM_8, sM_9, sM_10, sM_11, sM_12, sM_13, sM_14, sM_15, sM_16, sM_17, sM_18, sM_19, sM_20, sM_21, sM_22, sM_23, sM_24, sM_25, sM_26, sM_27, sM_28, sM_29]
        rw [en, nI_clamp (by omega), nI_1]
        refine ⟨fun q => absurd q (nI_ge (by omega) (by omega)), fun q => ⟨fun y => ih (i + 1) false (by omega) ⟨fun t => (by cases t), fun t => ?_⟩, fun y => ⟨vp_in_nI (by omega) (by omega), fun t => ih (i + 1) false (by omega) ⟨fun t2 => (by cases t2), fun t2 => absurd (t2 i (by omega)) t⟩, fun t => ih (i + 1) true (by omega) ⟨fun _ j hj => ?_, fun _ => rfl⟩⟩⟩⟩
        · have := hz.mpr (fun j hj => t j (by omega))
          rw [y] at this
          cases this
        · rcases Nat.lt_or_ge j i with z | z
          · exact hz.mp y j z
          · rw [show j = i by omega]; exact t
    apply hG (fun pc => pc == 4) 30
    simp (config := { maxSteps := 2000000 }) [hW0, hW1, dm_fn, dm_fd, dm_x, dm_L0, dm_la, dm_t1, dm_sw, List.headD, dm_ic, dm_mk, dm_s1, dm_s2, dm_clr, dm_cs, dm_cc, dm_nb0, dm_nb1, Value.category, List.lookup, p_X11_isServed, x_X11_isServed, k_X11_isServed, dm_cm, upd, vp_updL, dm_ui_1, dm_ui_2, dm_ul_1, dm_ul_2, sM_0, sM_1, sM_2, sM_3, sM_4, sM_5, sM_6, sM_7, sM_8, sM_9, sM_10, sM_11, sM_12, sM_13, sM_14, sM_15, sM_16, sM_17, sM_18, sM_19, sM_20, sM_21, sM_22, sM_23, sM_24, sM_25, sM_26, sM_27, sM_28, sM_29]
    exact loop n 0 true (by omega) ⟨fun _ j hj => by omega, fun _ => rfl⟩
  · exact h.elim
set_option maxRecDepth 100000 in
theorem t_X11_isServed (l : Launch) (D : va_G) (cA : Nat → ClassId) (ad : Nat → Nat) : dm_Met l D dm_cl cA ad shM yX11_isServed (Cond.code yX11_isServed cX11_isServed 3 (dm_rt 3) :: dm_tt) ({ frames := 0, cells := 0, slots := 0, locals := 0 } : Room) sp_X11_isServed := dm_meth (own := RX11) (X := x_X11_isServed) (Sp := k_X11_isServed) (prog := p_X11_isServed) (by decide +kernel) rfl rfl (dm_FO_s ffX11 [(62, 11, 24), (109, 11, 0)] rfl dm_hT (by decide +kernel)) (dm_IO_s ifX11 jfX11 [] [] rfl rfl dm_hT (by decide +kernel) (by decide +kernel)) soM (dm_MO_of (fun _ h => absurd h List.not_mem_nil)) v_X11_isServed u_X11_isServed
