/-! ===== the class's calls that ask ===== -/
def sp_X3_begin (As : List Value) (u : dm_S) (Q : Option Value → dm_S → Prop) : Prop := match As with
  | [.ref 10, .int n] => Q none (dm_fj (dm_ui (dm_ui u 10 3 n) 10 4 0) 49 64 1152921504606846976)
  | _ => False
def p_X3_begin : List dm_I := [(0, .aload_n 0, 1, [0]), (1, .iload_n 1, 1, [1]), (2, .putfield 22, 3, []), (5, .aload_n 0, 1, [0]), (6, .iconst 0, 1, []), (7, .putfield 26, 3, []), (10, .aload_n 0, 1, [0]), (11, .getfield 9, 3, []), (14, .ldc2_w 30, 3, []), (17, .invokestatic 32, 3, []), (20, .return_, 1, [])]
set_option maxRecDepth 100000 in
theorem v_X3_begin : p_X3_begin.all (dm_vb cX3_begin) = true := by decide +kernel
def k_X3_begin : dm_Sp := fun a => match a with
  | 0 => sp_J7_fill_d0a16
  | _ => fun _ _ _ => False
def x_X3_begin : dm_X := dm_mk [(9, 3, 0), (22, 3, 3), (26, 3, 4)] [] [(30, 1152921504606846976)] [(32, 0, 2, 1000)] 0
set_option maxRecDepth 100000 in
set_option maxHeartbeats 400000 in
theorem u_X3_begin : dm_Pure shC x_X3_begin k_X3_begin p_X3_begin 2 sp_X3_begin := by
  intro As u Qp h
  unfold sp_X3_begin at h
  split at h
  · refine ⟨Nat.le_of_ble_eq_true rfl, fun G Wp hW0 hW1 hG => ?_⟩
    apply hG (fun _ => false) 12
    simp (config := { maxSteps := 2000000 }) [hW0, hW1, dm_fn, dm_fd, dm_x, dm_L0, dm_la, dm_t1, dm_sw, List.headD, dm_ic, dm_mk, dm_s1, dm_s2, dm_clr, dm_cs, dm_cc, dm_nb0, dm_nb1, Value.category, List.lookup, p_X3_begin, x_X3_begin, k_X3_begin, dm_cm, upd, vp_updL, dm_ui_1, dm_ui_2, dm_ul_1, dm_ul_2, sp_J7_fill_d0a16, sC_0, sC_1, sC_2, sC_3, sC_4, sC_5, sC_6, sC_7, sC_8, sC_9, sC_10, sC_11, sC_12, sC_13, sC_14, sC_15, sC_16, sC_17, sC_18, sC_19, sC_20, sC_21, sC_22, sC_23, sC_24, sC_25, sC_26, sC_27, sC_28, sC_29, sC_30, sC_31, sC_32, sC_33, sC_34, sC_35, sC_36, sC_37, sC_38, sC_39, sC_40, sC_41, sC_42, sC_43, sC_44, sC_45, sC_46, sC_47, sC_48, sC_49, sC_50, sC_51]
    exact ⟨64, by omega, rfl, h⟩
  · exact h.elim
set_option maxRecDepth 100000 in
theorem t_X3_begin (l : Launch) (D : va_G) (cA : Nat → ClassId) (ad : Nat → Nat) : dm_Met l D dm_cl cA ad shC yX3_begin (Cond.code yX3_begin cX3_begin 2 (dm_rt 0) :: dm_tt) ({ frames := 1, cells := 0, slots := 0, locals := 24 } : Room) sp_X3_begin := dm_meth (own := RX3) (X := x_X3_begin) (Sp := k_X3_begin) (prog := p_X3_begin) (by decide +kernel) rfl rfl (dm_FO_s ffX3 [(9, 3, 0), (22, 3, 3), (26, 3, 4)] rfl dm_hT (by decide +kernel)) (dm_IO_s ifX3 jfX3 [] [(30, 1152921504606846976)] rfl rfl dm_hT (by decide +kernel) (by decide +kernel)) soC (dm_MO_of (List.forall_mem_cons.mpr ⟨dm_M1_of (t_J7_fill_d0a16 l D cA ad) dm_hT (dm_mem [576, 78, 889] (by decide +kernel) (by decide +kernel)) (by decide) (by decide +kernel) (Or.inl ⟨rfl, dm_mem (ws := [.static yJ7_fill_d0a16]) [575] (by decide +kernel) (by decide +kernel) _ List.mem_cons_self⟩), fun _ h => absurd h List.not_mem_nil⟩)) v_X3_begin u_X3_begin
def sp_X10_assign (As : List Value) (u : dm_S) (Q : Option Value → dm_S → Prop) : Prop := match As with
  | [.ref 0, .int n] => (1 ≤ n ∧ n ≤ 8 → Q (some (.int 1)) (dm_fj (dm_ui (dm_ui u 10 3 n) 10 4 0) 49 64 1152921504606846976)) ∧ (¬ (1 ≤ n ∧ n ≤ 8) → Q (some (.int 0)) u)
  | _ => False
def p_X10_assign : List dm_I := [(0, .iload_n 1, 1, [1]), (1, .iconst 1, 1, []), (2, .if_icmp .lt 9, 3, [11]), (5, .iload_n 1, 1, [1]), (6, .bipush 8, 2, []), (8, .if_icmp .le 5, 3, [13]), (11, .iconst 0, 1, []), (12, .ireturn, 1, []), (13, .aload_n 0, 1, [0]), (14, .getfield 87, 3, []), (17, .iload_n 1, 1, [1]), (18, .invokevirtual 189, 3, []), (21, .iconst 1, 1, []), (22, .ireturn, 1, [])]
set_option maxRecDepth 100000 in
theorem v_X10_assign : p_X10_assign.all (dm_vb cX10_assign) = true := by decide +kernel
def k_X10_assign : dm_Sp := fun a => match a with
  | 0 => sp_X3_begin
  | _ => fun _ _ _ => False
def x_X10_assign : dm_X := dm_mk [(87, 10, 9)] [] [] [(189, 0, 1, 3)] 3
set_option maxRecDepth 100000 in
set_option maxHeartbeats 400000 in
theorem u_X10_assign : dm_Pure shC x_X10_assign k_X10_assign p_X10_assign 2 sp_X10_assign := by
  intro As u Qp h
  unfold sp_X10_assign at h
  split at h
  · refine ⟨Nat.le_of_ble_eq_true rfl, fun G Wp hW0 hW1 hG => ?_⟩
    apply hG (fun _ => false) 15
    simp (config := { maxSteps := 2000000 }) [hW0, hW1, dm_fn, dm_fd, dm_x, dm_L0, dm_la, dm_t1, dm_sw, List.headD, dm_ic, dm_mk, dm_s1, dm_s2, dm_clr, dm_cs, dm_cc, dm_nb0, dm_nb1, Value.category, List.lookup, p_X10_assign, x_X10_assign, k_X10_assign, dm_cm, upd, vp_updL, dm_ui_1, dm_ui_2, dm_ul_1, dm_ul_2, sp_X3_begin, sC_0, sC_1, sC_2, sC_3, sC_4, sC_5, sC_6, sC_7, sC_8, sC_9, sC_10, sC_11, sC_12, sC_13, sC_14, sC_15, sC_16, sC_17, sC_18, sC_19, sC_20, sC_21, sC_22, sC_23, sC_24, sC_25, sC_26, sC_27, sC_28, sC_29, sC_30, sC_31, sC_32, sC_33, sC_34, sC_35, sC_36, sC_37, sC_38, sC_39, sC_40, sC_41, sC_42, sC_43, sC_44, sC_45, sC_46, sC_47, sC_48, sC_49, sC_50, sC_51]
    obtain ⟨h1, h2⟩ := h
    exact ⟨fun q => h2 (fun z => dm_i_le.mpr q z.1), fun q => ⟨fun q2 => h1 ⟨q, q2⟩, fun q2 => h2 (fun z => dm_i_le.mpr q2 z.2)⟩⟩
  · exact h.elim
set_option maxRecDepth 100000 in
theorem t_X10_assign (l : Launch) (D : va_G) (cA : Nat → ClassId) (ad : Nat → Nat) : dm_Met l D dm_cl cA ad shC yX10_assign (Cond.code yX10_assign cX10_assign 2 (dm_rt 3) :: dm_tt) ({ frames := 2, cells := 0, slots := 0, locals := 45 } : Room) sp_X10_assign := dm_meth (own := RX10) (X := x_X10_assign) (Sp := k_X10_assign) (prog := p_X10_assign) (by decide +kernel) rfl rfl (dm_FO_s ffX10 [(87, 10, 9)] rfl dm_hT (by decide +kernel)) (dm_IO_s ifX10 jfX10 [] [] rfl rfl dm_hT (by decide +kernel) (by decide +kernel)) soC (dm_MO_of (List.forall_mem_cons.mpr ⟨dm_M1_of (t_X3_begin l D cA ad) dm_hT (dm_mem [887, 76, 884] (by decide +kernel) (by decide +kernel)) (by decide) (by decide +kernel) (Or.inr ⟨by decide, dm_mem [885, 886] (by decide +kernel) (by decide +kernel), rfl⟩), fun _ h => absurd h List.not_mem_nil⟩)) v_X10_assign u_X10_assign
def sp_X10_clear (As : List Value) (u : dm_S) (Q : Option Value → dm_S → Prop) : Prop := match As with
  | [.ref 0] => Q none (dm_fj (dm_ui (dm_ui (dm_ui (dm_ui (dm_ui (dm_fg u) 1 8 0) 1 9 0) 1 10 0) 10 3 0) 10 4 0) 49 64 1152921504606846976)
  | _ => False
def p_X10_clear : List dm_I := [(0, .aload_n 0, 1, [0]), (1, .invokevirtual 102, 3, []), (4, .aload_n 0, 1, [0]), (5, .getfield 12, 3, []), (8, .invokevirtual 217, 3, []), (11, .aload_n 0, 1, [0]), (12, .getfield 87, 3, []), (15, .iconst 0, 1, []), (16, .invokevirtual 189, 3, []), (19, .return_, 1, [])]
set_option maxRecDepth 100000 in
theorem v_X10_clear : p_X10_clear.all (dm_vb cX10_clear) = true := by decide +kernel
def k_X10_clear : dm_Sp := fun a => match a with
  | 0 => sp_X10_forget
  | 1 => sp_X2_empty
  | 2 => sp_X3_begin
  | _ => fun _ _ _ => False
def x_X10_clear : dm_X := dm_mk [(12, 10, 0), (87, 10, 9)] [] [] [(102, 0, 0, 10), (217, 1, 0, 2), (189, 2, 1, 3)] 0
set_option maxRecDepth 100000 in
set_option maxHeartbeats 400000 in
theorem u_X10_clear : dm_Pure shC x_X10_clear k_X10_clear p_X10_clear 1 sp_X10_clear := by
  intro As u Qp h
  unfold sp_X10_clear at h
  split at h
  · refine ⟨Nat.le_of_ble_eq_true rfl, fun G Wp hW0 hW1 hG => ?_⟩
    apply hG (fun _ => false) 11
    simp (config := { maxSteps := 2000000 }) [hW0, hW1, dm_fn, dm_fd, dm_x, dm_L0, dm_la, dm_t1, dm_sw, List.headD, dm_ic, dm_mk, dm_s1, dm_s2, dm_clr, dm_cs, dm_cc, dm_nb0, dm_nb1, Value.category, List.lookup, p_X10_clear, x_X10_clear, k_X10_clear, dm_cm, upd, vp_updL, dm_ui_1, dm_ui_2, dm_ul_1, dm_ul_2, sp_X10_forget, sp_X2_empty, sp_X3_begin, sC_0, sC_1, sC_2, sC_3, sC_4, sC_5, sC_6, sC_7, sC_8, sC_9, sC_10, sC_11, sC_12, sC_13, sC_14, sC_15, sC_16, sC_17, sC_18, sC_19, sC_20, sC_21, sC_22, sC_23, sC_24, sC_25, sC_26, sC_27, sC_28, sC_29, sC_30, sC_31, sC_32, sC_33, sC_34, sC_35, sC_36, sC_37, sC_38, sC_39, sC_40, sC_41, sC_42, sC_43, sC_44, sC_45, sC_46, sC_47, sC_48, sC_49, sC_50, sC_51]
    exact h
  · exact h.elim
set_option maxRecDepth 100000 in
theorem t_X10_clear (l : Launch) (D : va_G) (cA : Nat → ClassId) (ad : Nat → Nat) : dm_Met l D dm_cl cA ad shC yX10_clear (Cond.code yX10_clear cX10_clear 1 (dm_rt 0) :: dm_tt) ({ frames := 2, cells := 0, slots := 0, locals := 45 } : Room) sp_X10_clear := dm_meth (own := RX10) (X := x_X10_clear) (Sp := k_X10_clear) (prog := p_X10_clear) (by decide +kernel) rfl rfl (dm_FO_s ffX10 [(12, 10, 0), (87, 10, 9)] rfl dm_hT (by decide +kernel)) (dm_IO_s ifX10 jfX10 [] [] rfl rfl dm_hT (by decide +kernel) (by decide +kernel)) soC (dm_MO_of (List.forall_mem_cons.mpr ⟨dm_M1_of (t_X10_forget l D cA ad) dm_hT (dm_mem [476, 66, 473] (by decide +kernel) (by decide +kernel)) (by decide) (by decide +kernel) (Or.inr ⟨by decide, dm_mem [475, 0] (by decide +kernel) (by decide +kernel), rfl⟩), List.forall_mem_cons.mpr ⟨dm_M1_of (t_X2_empty l D cA ad) dm_hT (dm_mem [945, 67, 942] (by decide +kernel) (by decide +kernel)) (by decide) (by decide +kernel) (Or.inr ⟨by decide, dm_mem [943, 944] (by decide +kernel) (by decide +kernel), rfl⟩), List.forall_mem_cons.mpr ⟨dm_M1_of (t_X3_begin l D cA ad) dm_hT (dm_mem [887, 76, 884] (by decide +kernel) (by decide +kernel)) (by decide) (by decide +kernel) (Or.inr ⟨by decide, dm_mem [885, 886] (by decide +kernel) (by decide +kernel), rfl⟩), fun _ h => absurd h List.not_mem_nil⟩⟩⟩)) v_X10_clear u_X10_clear
def sp_X10_cost (As : List Value) (u : dm_S) (Q : Option Value → dm_S → Prop) : Prop := match As with
  | [.ref 0] => (u.1 0 10 = 0 → ∃ (N M : Nat) (fr tr pt : Nat → Nat), cn_ok u N M fr tr pt ∧ cn_ln u M pt ∧ u.1 2 10 = nI (cn_fs pt M) ∧ Q (some (.long (cn_c2 u (cn_c1 u pt M) (cn_fs pt M)))) u) ∧ (¬ u.1 0 10 = 0 → Q (some (.long 0)) u)
  | _ => False
def p_X10_cost : List dm_I := [(0, .aload_n 0, 1, [0]), (1, .getfield 91, 3, []), (4, .ifCond .ne 13, 3, [17]), (7, .aload_n 0, 1, [0]), (8, .getfield 21, 3, []), (11, .invokevirtual 153, 3, []), (14, .goto 4, 3, [18]), (17, .lconst 0, 1, []), (18, .lreturn, 1, [])]
set_option maxRecDepth 100000 in
theorem v_X10_cost : p_X10_cost.all (dm_vb cX10_cost) = true := by decide +kernel
def k_X10_cost : dm_Sp := fun a => match a with
  | 0 => sp_X1_sumOfCosts
  | _ => fun _ _ _ => False
def x_X10_cost : dm_X := dm_mk [(21, 10, 1), (91, 10, 10)] [] [] [(153, 0, 0, 1)] 2
set_option maxRecDepth 100000 in
set_option maxHeartbeats 400000 in
theorem u_X10_cost : dm_Pure shC x_X10_cost k_X10_cost p_X10_cost 1 sp_X10_cost := by
  intro As u Qp h
  unfold sp_X10_cost at h
  split at h
  · refine ⟨Nat.le_of_ble_eq_true rfl, fun G Wp hW0 hW1 hG => ?_⟩
    apply hG (fun _ => false) 10
    simp (config := { maxSteps := 2000000 }) [hW0, hW1, dm_fn, dm_fd, dm_x, dm_L0, dm_la, dm_t1, dm_sw, List.headD, dm_ic, dm_mk, dm_s1, dm_s2, dm_clr, dm_cs, dm_cc, dm_nb0, dm_nb1, Value.category, List.lookup, p_X10_cost, x_X10_cost, k_X10_cost, dm_cm, upd, vp_updL, dm_ui_1, dm_ui_2, dm_ul_1, dm_ul_2, sp_X1_sumOfCosts, sC_0, sC_1, sC_2, sC_3, sC_4, sC_5, sC_6, sC_7, sC_8, sC_9, sC_10, sC_11, sC_12, sC_13, sC_14, sC_15, sC_16, sC_17, sC_18, sC_19, sC_20, sC_21, sC_22, sC_23, sC_24, sC_25, sC_26, sC_27, sC_28, sC_29, sC_30, sC_31, sC_32, sC_33, sC_34, sC_35, sC_36, sC_37, sC_38, sC_39, sC_40, sC_41, sC_42, sC_43, sC_44, sC_45, sC_46, sC_47, sC_48, sC_49, sC_50, sC_51]
    exact ⟨h.2, h.1⟩
  · exact h.elim
set_option maxRecDepth 100000 in
theorem t_X10_cost (l : Launch) (D : va_G) (cA : Nat → ClassId) (ad : Nat → Nat) : dm_Met l D dm_cl cA ad shC yX10_cost (Cond.code yX10_cost cX10_cost 1 (dm_rt 2) :: dm_tt) ({ frames := 2, cells := 0, slots := 0, locals := 44 } : Room) sp_X10_cost := dm_meth (own := RX10) (X := x_X10_cost) (Sp := k_X10_cost) (prog := p_X10_cost) (by decide +kernel) rfl rfl (dm_FO_s ffX10 [(21, 10, 1), (91, 10, 10)] rfl dm_hT (by decide +kernel)) (dm_IO_s ifX10 jfX10 [] [] rfl rfl dm_hT (by decide +kernel) (by decide +kernel)) soC (dm_MO_of (List.forall_mem_cons.mpr ⟨dm_M1_of (t_X1_sumOfCosts l D cA ad) dm_hT (dm_mem [827, 68, 824] (by decide +kernel) (by decide +kernel)) (by decide) (by decide +kernel) (Or.inr ⟨by decide, dm_mem [825, 826] (by decide +kernel) (by decide +kernel), rfl⟩), fun _ h => absurd h List.not_mem_nil⟩)) v_X10_cost u_X10_cost
def sp_X10_on (As : List Value) (u : dm_S) (Q : Option Value → dm_S → Prop) : Prop := match As with
  | [.ref 0, .int x] => (u.1 0 10 = 0 ∧ 0 ≤ x ∧ x < u.1 1 9 → ∃ (N M : Nat) (fr tr pt : Nat → Nat) (a : Nat), cn_ok u N M fr tr pt ∧ cn_ln u M pt ∧ a < M ∧ x = nI a ∧ Q (some (.long (cn_am u pt a))) u) ∧ (¬ (u.1 0 10 = 0 ∧ 0 ≤ x ∧ x < u.1 1 9) → Q (some (.long (-1))) u)
  | _ => False
def p_X10_on : List dm_I := [(0, .aload_n 0, 1, [0]), (1, .getfield 91, 3, []), (4, .ifCond .ne 25, 3, [29]), (7, .aload_n 0, 1, [0]), (8, .getfield 12, 3, []), (11, .iload_n 1, 1, [1]), (12, .invokevirtual 124, 3, []), (15, .ifCond .eq 14, 3, [29]), (18, .aload_n 0, 1, [0]), (19, .getfield 21, 3, []), (22, .iload_n 1, 1, [1]), (23, .invokevirtual 157, 3, []), (26, .goto 6, 3, [32]), (29, .ldc2_w 161, 3, []), (32, .lreturn, 1, [])]
set_option maxRecDepth 100000 in
theorem v_X10_on : p_X10_on.all (dm_vb cX10_on) = true := by decide +kernel
def k_X10_on : dm_Sp := fun a => match a with
  | 0 => sp_X2_hasArc
  | 1 => sp_X1_amountOn
  | _ => fun _ _ _ => False
def x_X10_on : dm_X := dm_mk [(12, 10, 0), (21, 10, 1), (91, 10, 10)] [] [(161, -1)] [(124, 0, 1, 2), (157, 1, 1, 1)] 2
set_option maxRecDepth 100000 in
set_option maxHeartbeats 400000 in
theorem u_X10_on : dm_Pure shC x_X10_on k_X10_on p_X10_on 2 sp_X10_on := by
  intro As u Qp h
  unfold sp_X10_on at h
  split at h
  · refine ⟨Nat.le_of_ble_eq_true rfl, fun G Wp hW0 hW1 hG => ?_⟩
    apply hG (fun _ => false) 16
    simp (config := { maxSteps := 2000000 }) [hW0, hW1, dm_fn, dm_fd, dm_x, dm_L0, dm_la, dm_t1, dm_sw, List.headD, dm_ic, dm_mk, dm_s1, dm_s2, dm_clr, dm_cs, dm_cc, dm_nb0, dm_nb1, Value.category, List.lookup, p_X10_on, x_X10_on, k_X10_on, dm_cm, upd, vp_updL, dm_ui_1, dm_ui_2, dm_ul_1, dm_ul_2, sp_X2_hasArc, sp_X1_amountOn, sC_0, sC_1, sC_2, sC_3, sC_4, sC_5, sC_6, sC_7, sC_8, sC_9, sC_10, sC_11, sC_12, sC_13, sC_14, sC_15, sC_16, sC_17, sC_18, sC_19, sC_20, sC_21, sC_22, sC_23, sC_24, sC_25, sC_26, sC_27, sC_28, sC_29, sC_30, sC_31, sC_32, sC_33, sC_34, sC_35, sC_36, sC_37, sC_38, sC_39, sC_40, sC_41, sC_42, sC_43, sC_44, sC_45, sC_46, sC_47, sC_48, sC_49, sC_50, sC_51]
    obtain ⟨h1, h2⟩ := h
    refine ⟨fun q => h2 (fun z => q z.1), fun q => ⟨fun q1 => h2 (fun z => dm_i_lt.mpr (q1 z.2.1) z.2.2), fun q1 q2 => ?_⟩⟩
    obtain ⟨N, M, fr, tr, pt, a, ⟨⟨hN, hM, eN, eM⟩, ho⟩, hln, ha, rfl, h⟩ := h1 ⟨q, q1, q2⟩
    have h9 : cn_fs pt a + pt a ≤ 4 * (a + 1) := cn_fs_le (pt := pt) (M := M) (fun a ha => (ho a ha).2.2.2.2) (a + 1) (by omega)
    exact ⟨a, by omega, rfl, cn_fs pt a, hln a (by omega), pt a, hln (a + 1) (by omega), by omega, h⟩
  · exact h.elim
set_option maxRecDepth 100000 in
theorem t_X10_on (l : Launch) (D : va_G) (cA : Nat → ClassId) (ad : Nat → Nat) : dm_Met l D dm_cl cA ad shC yX10_on (Cond.code yX10_on cX10_on 2 (dm_rt 2) :: dm_tt) ({ frames := 2, cells := 0, slots := 0, locals := 45 } : Room) sp_X10_on := dm_meth (own := RX10) (X := x_X10_on) (Sp := k_X10_on) (prog := p_X10_on) (by decide +kernel) rfl rfl (dm_FO_s ffX10 [(12, 10, 0), (21, 10, 1), (91, 10, 10)] rfl dm_hT (by decide +kernel)) (dm_IO_s ifX10 jfX10 [] [(161, -1)] rfl rfl dm_hT (by decide +kernel) (by decide +kernel)) soC (dm_MO_of (List.forall_mem_cons.mpr ⟨dm_M1_of (t_X2_hasArc l D cA ad) dm_hT (dm_mem [503, 67, 500] (by decide +kernel) (by decide +kernel)) (by decide) (by decide +kernel) (Or.inr ⟨by decide, dm_mem [501, 502] (by decide +kernel) (by decide +kernel), rfl⟩), List.forall_mem_cons.mpr ⟨dm_M1_of (t_X1_amountOn l D cA ad) dm_hT (dm_mem [584, 68, 832] (by decide +kernel) (by decide +kernel)) (by decide) (by decide +kernel) (Or.inr ⟨by decide, dm_mem [582, 583] (by decide +kernel) (by decide +kernel), rfl⟩), fun _ h => absurd h List.not_mem_nil⟩⟩)) v_X10_on u_X10_on
def sp_X10_potential (As : List Value) (u : dm_S) (Q : Option Value → dm_S → Prop) : Prop := match As with
  | [.ref 0, .int x] => (u.1 0 10 = 0 ∧ 0 ≤ x ∧ x < u.1 1 8 → vp_in x 24 ∧ Q (some (.long (u.2 36 x.toNatClampNeg))) u) ∧ (¬ (u.1 0 10 = 0 ∧ 0 ≤ x ∧ x < u.1 1 8) → Q (some (.long 1)) u)
  | _ => False
def p_X10_potential : List dm_I := [(0, .aload_n 0, 1, [0]), (1, .getfield 91, 3, []), (4, .ifCond .ne 26, 3, [30]), (7, .aload_n 0, 1, [0]), (8, .getfield 12, 3, []), (11, .iload_n 1, 1, [1]), (12, .invokevirtual 109, 3, []), (15, .ifCond .eq 15, 3, [30]), (18, .aload_n 0, 1, [0]), (19, .getfield 46, 3, []), (22, .getfield 52, 3, []), (25, .iload_n 1, 1, [1]), (26, .laload, 1, []), (27, .goto 4, 3, [31]), (30, .lconst 1, 1, []), (31, .lreturn, 1, [])]
set_option maxRecDepth 100000 in
theorem v_X10_potential : p_X10_potential.all (dm_vb cX10_potential) = true := by decide +kernel
def k_X10_potential : dm_Sp := fun a => match a with
  | 0 => sp_X2_hasNode
  | _ => fun _ _ _ => False
def x_X10_potential : dm_X := dm_mk [(12, 10, 0), (46, 10, 4), (52, 5, 3), (91, 10, 10)] [] [] [(109, 0, 1, 2)] 2
set_option maxRecDepth 100000 in
set_option maxHeartbeats 400000 in
theorem u_X10_potential : dm_Pure shC x_X10_potential k_X10_potential p_X10_potential 2 sp_X10_potential := by
  intro As u Qp h
  unfold sp_X10_potential at h
  split at h
  · refine ⟨Nat.le_of_ble_eq_true rfl, fun G Wp hW0 hW1 hG => ?_⟩
    apply hG (fun _ => false) 17
    simp (config := { maxSteps := 2000000 }) [hW0, hW1, dm_fn, dm_fd, dm_x, dm_L0, dm_la, dm_t1, dm_sw, List.headD, dm_ic, dm_mk, dm_s1, dm_s2, dm_clr, dm_cs, dm_cc, dm_nb0, dm_nb1, Value.category, List.lookup, p_X10_potential, x_X10_potential, k_X10_potential, dm_cm, upd, vp_updL, dm_ui_1, dm_ui_2, dm_ul_1, dm_ul_2, sp_X2_hasNode, sC_0, sC_1, sC_2, sC_3, sC_4, sC_5, sC_6, sC_7, sC_8, sC_9, sC_10, sC_11, sC_12, sC_13, sC_14, sC_15, sC_16, sC_17, sC_18, sC_19, sC_20, sC_21, sC_22, sC_23, sC_24, sC_25, sC_26, sC_27, sC_28, sC_29, sC_30, sC_31, sC_32, sC_33, sC_34, sC_35, sC_36, sC_37, sC_38, sC_39, sC_40, sC_41, sC_42, sC_43, sC_44, sC_45, sC_46, sC_47, sC_48, sC_49, sC_50, sC_51]
    obtain ⟨h1, h2⟩ := h
    exact ⟨fun q => h2 (fun z => q z.1), fun q => ⟨fun q1 => h2 (fun z => dm_i_lt.mpr (q1 z.2.1) z.2.2), fun q1 q2 => h1 ⟨q, q1, q2⟩⟩⟩
  · exact h.elim
set_option maxRecDepth 100000 in
theorem t_X10_potential (l : Launch) (D : va_G) (cA : Nat → ClassId) (ad : Nat → Nat) : dm_Met l D dm_cl cA ad shC yX10_potential (Cond.code yX10_potential cX10_potential 2 (dm_rt 2) :: dm_tt) ({ frames := 1, cells := 0, slots := 0, locals := 21 } : Room) sp_X10_potential := dm_meth (own := RX10) (X := x_X10_potential) (Sp := k_X10_potential) (prog := p_X10_potential) (by decide +kernel) rfl rfl (dm_FO_s ffX10 [(12, 10, 0), (46, 10, 4), (52, 5, 3), (91, 10, 10)] rfl dm_hT (by decide +kernel)) (dm_IO_s ifX10 jfX10 [] [] rfl rfl dm_hT (by decide +kernel) (by decide +kernel)) soC (dm_MO_of (List.forall_mem_cons.mpr ⟨dm_M1_of (t_X2_hasNode l D cA ad) dm_hT (dm_mem [488, 67, 485] (by decide +kernel) (by decide +kernel)) (by decide) (by decide +kernel) (Or.inr ⟨by decide, dm_mem [486, 487] (by decide +kernel) (by decide +kernel), rfl⟩), fun _ h => absurd h List.not_mem_nil⟩)) v_X10_potential u_X10_potential
def sp_X10_check (As : List Value) (u : dm_S) (Q : Option Value → dm_S → Prop) : Prop := match As with
  | [.ref 0] => (u.1 0 10 = 0 → ∃ (N M : Nat) (fr tr pt : Nat → Nat) (C : Nat) (nb bg en : Nat → Nat), cn_ok u N M fr tr pt ∧ cn_ln u M pt ∧ wg_ok u C nb bg en ∧ (∀ j, j < C → u.2 36 (en j) ≤ u.2 36 (bg j) + u.2 31 j) ∧ (∀ j, j < N → cn_ex u N fr tr pt M j = 0) ∧ Q (some (.int 1)) (dm_sj u 25 (cn_ex u N fr tr pt M))) ∧ (¬ u.1 0 10 = 0 → Q (some (.int (-1))) u)
  | _ => False
def p_X10_check : List dm_I := [(0, .aload_n 0, 1, [0]), (1, .getfield 91, 3, []), (4, .ifCond .eq 5, 3, [9]), (7, .iconst (-1), 1, []), (8, .ireturn, 1, []), (9, .aload_n 0, 1, [0]), (10, .getfield 46, 3, []), (13, .invokevirtual 163, 3, []), (16, .ifCond .eq 7, 3, [23]), (19, .iconst 1, 1, []), (20, .goto 4, 3, [24]), (23, .iconst 0, 1, []), (24, .ireturn, 1, [])]
set_option maxRecDepth 100000 in
theorem v_X10_check : p_X10_check.all (dm_vb cX10_check) = true := by decide +kernel
def k_X10_check : dm_Sp := fun a => match a with
  | 0 => sp_X5_areProof
  | _ => fun _ _ _ => False
def x_X10_check : dm_X := dm_mk [(46, 10, 4), (91, 10, 10)] [] [] [(163, 0, 0, 5)] 1
set_option maxRecDepth 100000 in
set_option maxHeartbeats 400000 in
theorem u_X10_check : dm_Pure shC x_X10_check k_X10_check p_X10_check 1 sp_X10_check := by
  intro As u Qp h
  unfold sp_X10_check at h
  split at h
  · refine ⟨Nat.le_of_ble_eq_true rfl, fun G Wp hW0 hW1 hG => ?_⟩
    apply hG (fun _ => false) 14
    simp (config := { maxSteps := 2000000 }) [hW0, hW1, dm_fn, dm_fd, dm_x, dm_L0, dm_la, dm_t1, dm_sw, List.headD, dm_ic, dm_mk, dm_s1, dm_s2, dm_clr, dm_cs, dm_cc, dm_nb0, dm_nb1, Value.category, List.lookup, p_X10_check, x_X10_check, k_X10_check, dm_cm, upd, vp_updL, dm_ui_1, dm_ui_2, dm_ul_1, dm_ul_2, sp_X5_areProof, sC_0, sC_1, sC_2, sC_3, sC_4, sC_5, sC_6, sC_7, sC_8, sC_9, sC_10, sC_11, sC_12, sC_13, sC_14, sC_15, sC_16, sC_17, sC_18, sC_19, sC_20, sC_21, sC_22, sC_23, sC_24, sC_25, sC_26, sC_27, sC_28, sC_29, sC_30, sC_31, sC_32, sC_33, sC_34, sC_35, sC_36, sC_37, sC_38, sC_39, sC_40, sC_41, sC_42, sC_43, sC_44, sC_45, sC_46, sC_47, sC_48, sC_49, sC_50, sC_51]
    obtain ⟨h1, h2⟩ := h
    refine ⟨fun q => ?_, h2⟩
    obtain ⟨N, M, fr, tr, pt, C, nb, bg, en, a1, a2, a3, a4, a5, h⟩ := h1 q
    exact ⟨N, M, fr, tr, pt, a1, a2, C, nb, bg, en, a3, fun j hj y => absurd (a4 j hj) (dm_l_le.mpr y), fun _ => ⟨fun _ => h, fun j hj y => absurd (a5 j hj) y⟩⟩
  · exact h.elim
set_option maxRecDepth 100000 in
theorem t_X10_check (l : Launch) (D : va_G) (cA : Nat → ClassId) (ad : Nat → Nat) : dm_Met l D dm_cl cA ad shC yX10_check (Cond.code yX10_check cX10_check 1 (dm_rt 1) :: dm_tt) ({ frames := 4, cells := 0, slots := 0, locals := 89 } : Room) sp_X10_check := dm_meth (own := RX10) (X := x_X10_check) (Sp := k_X10_check) (prog := p_X10_check) (by decide +kernel) rfl rfl (dm_FO_s ffX10 [(46, 10, 4), (91, 10, 10)] rfl dm_hT (by decide +kernel)) (dm_IO_s ifX10 jfX10 [] [] rfl rfl dm_hT (by decide +kernel) (by decide +kernel)) soC (dm_MO_of (List.forall_mem_cons.mpr ⟨dm_M1_of (t_X5_areProof l D cA ad) dm_hT (dm_mem [845, 71, 842] (by decide +kernel) (by decide +kernel)) (by decide) (by decide +kernel) (Or.inr ⟨by decide, dm_mem [843, 844] (by decide +kernel) (by decide +kernel), rfl⟩), fun _ h => absurd h List.not_mem_nil⟩)) v_X10_check u_X10_check
