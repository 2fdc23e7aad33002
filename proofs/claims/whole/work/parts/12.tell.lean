def sp_X10_node (As : List Value) (u : dm_S) (Q : Option Value → dm_S → Prop) : Prop := match As with
  | [.ref 0, .long a] => True
  | _ => False
def p_X10_node : List dm_I := [(0, .aload_n 0, 1, [0]), (1, .getfield 12, 3, []), (4, .getfield 95, 3, []), (7, .bipush 24, 2, []), (9, .if_icmp .ge 10, 3, [19]), (12, .lload_n 1, 1, [1]), (13, .invokestatic 98, 3, []), (16, .ifCond .ne 5, 3, [21]), (19, .iconst (-1), 1, []), (20, .ireturn, 1, []), (21, .aload_n 0, 1, [0]), (22, .invokevirtual 102, 3, []), (25, .aload_n 0, 1, [0]), (26, .getfield 12, 3, []), (29, .lload_n 1, 1, [1]), (30, .invokevirtual 105, 3, []), (33, .ireturn, 1, [])]
set_option maxRecDepth 100000 in
theorem v_X10_node : p_X10_node.all (dm_vb cX10_node) = true := by decide +kernel
def k_X10_node : dm_Sp := fun a => match a with
  | 0 => sp_X10_isUsual
  | 1 => sp_X10_forget
  | 2 => sp_X2_addNode
  | _ => fun _ _ _ => False
def x_X10_node : dm_X := dm_mk [(12, 10, 0), (95, 2, 8)] [] [] [(98, 0, 1, 1000), (102, 1, 0, 10), (105, 2, 1, 2)] 1
set_option maxRecDepth 100000 in
set_option maxHeartbeats 4000000 in
theorem u_X10_node : dm_Pure shC x_X10_node k_X10_node p_X10_node 3 sp_X10_node := by
  intro As u Qp h
  unfold sp_X10_node at h
  split at h
  · refine ⟨Nat.le_of_ble_eq_true rfl, fun G Wp hW0 hW1 hG => ?_⟩
    apply hG (fun _ => false) 18
    simp (config := { maxSteps := 2000000 }) [hW0, hW1, dm_fn, dm_fd, dm_x, dm_L0, dm_la, dm_li, dm_lj, dm_lr, dm_p1, dm_p2, dm_q1, dm_q2, dm_t1, dm_ic, dm_mk, dm_s1, dm_s2, dm_clr, dm_cs, dm_cc, dm_nb0, dm_nb1, Value.category, List.lookup, p_X10_node, x_X10_node, k_X10_node, dm_cm, pk_us, dm_ui_1, dm_ui_2, dm_ul_1, dm_ul_2, sp_X10_isUsual, sp_X10_forget, sp_X2_addNode, sC_0, sC_1, sC_2, sC_3, sC_4, sC_5, sC_6, sC_7, sC_8, sC_9, sC_10, sC_11, sC_12, sC_13, sC_14, sC_15, sC_16, sC_17, sC_18, sC_19, sC_20, sC_21, sC_22, sC_23, sC_24, sC_25, sC_26, sC_27, sC_28, sC_29, sC_30, sC_31, sC_32, sC_33, sC_34, sC_35, sC_36, sC_37, sC_38, sC_39, sC_40, sC_41, sC_42, sC_43, sC_44, sC_45, sC_46, sC_47, sC_48, sC_49, sC_50, sC_51]
    trace_state
    sorry
  · exact h.elim
set_option maxRecDepth 100000 in
theorem t_X10_node (l : Launch) (D : va_G) (cA : Nat → ClassId) (ad : Nat → Nat) : dm_Met l D dm_cl cA ad shC yX10_node (Cond.code yX10_node cX10_node 3 (dm_rt 1) :: dm_tt) ({ frames := 1, cells := 0, slots := 0, locals := 22 } : Room) sp_X10_node := dm_meth (own := RX10) (X := x_X10_node) (Sp := k_X10_node) (prog := p_X10_node) (by decide +kernel) rfl rfl (dm_FO_s ffX10 [(12, 10, 0), (95, 2, 8)] rfl dm_hT (by decide +kernel)) (dm_IO_s ifX10 jfX10 [] [] rfl rfl dm_hT (by decide +kernel) (by decide +kernel)) soC (dm_MO_of (List.forall_mem_cons.mpr ⟨dm_M1_of (t_X10_isUsual l D cA ad) dm_hT (dm_mem [470, 66, 468] (by decide +kernel) (by decide +kernel)) (by decide) (by decide +kernel) (Or.inl ⟨rfl, dm_mem (ws := [.static yX10_isUsual]) [469] (by decide +kernel) (by decide +kernel) _ List.mem_cons_self⟩), List.forall_mem_cons.mpr ⟨dm_M1_of (t_X10_forget l D cA ad) dm_hT (dm_mem [476, 66, 473] (by decide +kernel) (by decide +kernel)) (by decide) (by decide +kernel) (Or.inr ⟨by decide, dm_mem [475, 0] (by decide +kernel) (by decide +kernel), rfl⟩), List.forall_mem_cons.mpr ⟨dm_M1_of (t_X2_addNode l D cA ad) dm_hT (dm_mem [480, 67, 477] (by decide +kernel) (by decide +kernel)) (by decide) (by decide +kernel) (Or.inr ⟨by decide, dm_mem [478, 479] (by decide +kernel) (by decide +kernel), rfl⟩), fun _ h => absurd h List.not_mem_nil⟩⟩⟩)) v_X10_node u_X10_node
