/-! ===== the class's calls that tell ===== -/
def sp_X10_node (As : List Value) (u : dm_S) (Q : Option Value → dm_S → Prop) : Prop := match As with
  | [.ref 0, .long a] => (u.1 1 8 < 24 ∧ -1000000 ≤ a ∧ a ≤ 1000000 → vp_in (u.1 1 8) 24 ∧ Q (some (.int (u.1 1 8))) (dm_ui (dm_ul (dm_fg u) 11 (u.1 1 8).toNatClampNeg a) 1 8 (u.1 1 8 + 1))) ∧ (¬ (u.1 1 8 < 24 ∧ -1000000 ≤ a ∧ a ≤ 1000000) → Q (some (.int (-1))) u)
  | _ => False
def p_X10_node : List dm_I := [(0, .aload_n 0, 1, [0]), (1, .getfield 12, 3, []), (4, .getfield 95, 3, []), (7, .bipush 24, 2, []), (9, .if_icmp .ge 10, 3, [19]), (12, .lload_n 1, 1, [1]), (13, .invokestatic 98, 3, []), (16, .ifCond .ne 5, 3, [21]), (19, .iconst (-1), 1, []), (20, .ireturn, 1, []), (21, .aload_n 0, 1, [0]), (22, .invokevirtual 102, 3, []), (25, .aload_n 0, 1, [0]), (26, .getfield 12, 3, []), (29, .lload_n 1, 1, [1]), (30, .invokevirtual 105, 3, []), (33, .ireturn, 1, [])]
set_option maxRecDepth 100000 in
theorem v_X10_node : p_X10_node.all (dm_vb cX10_node) = true := by decide +kernel
def k_X10_node : dm_Sp := fun a => match a with
  | 0 => sp_X10_isUsual
  | 1 => sp_X10_forget
  | 2 => sp_X2_addNode
  | _ => fun _ _ _ => False
def x_X10_node : dm_X := dm_mk [(12, 10, 0), (95, 2, 8)] [] [] [(98, 0, 1, 1000), (102, 1, 0, 10), (105, 2, 1, 2)] 1
set_option maxRecDepth 100000 in
set_option maxHeartbeats 400000 in
theorem u_X10_node : dm_Pure shC x_X10_node k_X10_node p_X10_node 3 sp_X10_node := by
  intro As u Qp h
  unfold sp_X10_node at h
  split at h
  · refine ⟨Nat.le_of_ble_eq_true rfl, fun G Wp hW0 hW1 hG => ?_⟩
    apply hG (fun _ => false) 18
    simp (config := { maxSteps := 2000000 }) [hW0, hW1, dm_fn, dm_fd, dm_x, dm_L0, dm_la, dm_t1, dm_sw, List.headD, dm_ic, dm_mk, dm_s1, dm_s2, dm_clr, dm_cs, dm_cc, dm_nb0, dm_nb1, Value.category, List.lookup, p_X10_node, x_X10_node, k_X10_node, dm_cm, upd, vp_updL, dm_ui_1, dm_ui_2, dm_ul_1, dm_ul_2, sp_X10_isUsual, sp_X10_forget, sp_X2_addNode, sC_0, sC_1, sC_2, sC_3, sC_4, sC_5, sC_6, sC_7, sC_8, sC_9, sC_10, sC_11, sC_12, sC_13, sC_14, sC_15, sC_16, sC_17, sC_18, sC_19, sC_20, sC_21, sC_22, sC_23, sC_24, sC_25, sC_26, sC_27, sC_28, sC_29, sC_30, sC_31, sC_32, sC_33, sC_34, sC_35, sC_36, sC_37, sC_38, sC_39, sC_40, sC_41, sC_42, sC_43, sC_44, sC_45, sC_46, sC_47, sC_48, sC_49, sC_50, sC_51]
    exact ⟨fun q => h.2 (fun z => dm_i_lt.mpr q z.1), fun q => ⟨fun q1 q2 => h.1 ⟨q, q1, q2⟩, fun q1 => h.2 (fun z => dm_l_le.mpr (q1 z.2.1) z.2.2)⟩⟩
  · exact h.elim
set_option maxRecDepth 100000 in
theorem t_X10_node (l : Launch) (D : va_G) (cA : Nat → ClassId) (ad : Nat → Nat) : dm_Met l D dm_cl cA ad shC yX10_node (Cond.code yX10_node cX10_node 3 (dm_rt 1) :: dm_tt) ({ frames := 1, cells := 0, slots := 0, locals := 22 } : Room) sp_X10_node := dm_meth (own := RX10) (X := x_X10_node) (Sp := k_X10_node) (prog := p_X10_node) (by decide +kernel) rfl rfl (dm_FO_s ffX10 [(12, 10, 0), (95, 2, 8)] rfl dm_hT (by decide +kernel)) (dm_IO_s ifX10 jfX10 [] [] rfl rfl dm_hT (by decide +kernel) (by decide +kernel)) soC (dm_MO_of (List.forall_mem_cons.mpr ⟨dm_M1_of (t_X10_isUsual l D cA ad) dm_hT (dm_mem [470, 66, 468] (by decide +kernel) (by decide +kernel)) (by decide) (by decide +kernel) (Or.inl ⟨rfl, dm_mem (ws := [.static yX10_isUsual]) [469] (by decide +kernel) (by decide +kernel) _ List.mem_cons_self⟩), List.forall_mem_cons.mpr ⟨dm_M1_of (t_X10_forget l D cA ad) dm_hT (dm_mem [476, 66, 473] (by decide +kernel) (by decide +kernel)) (by decide) (by decide +kernel) (Or.inr ⟨by decide, dm_mem [475, 0] (by decide +kernel) (by decide +kernel), rfl⟩), List.forall_mem_cons.mpr ⟨dm_M1_of (t_X2_addNode l D cA ad) dm_hT (dm_mem [480, 67, 477] (by decide +kernel) (by decide +kernel)) (by decide) (by decide +kernel) (Or.inr ⟨by decide, dm_mem [478, 479] (by decide +kernel) (by decide +kernel), rfl⟩), fun _ h => absurd h List.not_mem_nil⟩⟩⟩)) v_X10_node u_X10_node
/-- an ARC may be told so -/
def dm_ac (u : dm_S) (a b : Int32) (lo mo co : Int64) : Prop := (0 ≤ a ∧ a < u.1 1 8) ∧ (0 ≤ b ∧ b < u.1 1 8) ∧ ¬ a = b ∧ u.1 1 9 < 80 ∧ (0 ≤ lo ∧ lo ≤ 1000000) ∧ (-1000000 ≤ co ∧ co ≤ 1000000) ∧ (mo = -2 ∨ lo ≤ mo ∧ mo ≤ 1000000)
def sp_X10_arc (As : List Value) (u : dm_S) (Q : Option Value → dm_S → Prop) : Prop := match As with
  | [.ref 0, .int a, .int b, .long lo, .long mo, .long co] => (dm_ac u a b lo mo co → sp_X2_addArc [.ref 1, .int a, .int b, .long lo, .long mo, .long co] (dm_fg u) Q) ∧ (¬ dm_ac u a b lo mo co → Q (some (.int (-1))) u)
  | _ => False
def p_X10_arc : List dm_I := [(0, .aload_n 0, 1, [0]), (1, .getfield 12, 3, []), (4, .iload_n 1, 1, [1]), (5, .invokevirtual 109, 3, []), (8, .ifCond .eq 31, 3, [39]), (11, .aload_n 0, 1, [0]), (12, .getfield 12, 3, []), (15, .iload_n 2, 1, [2]), (16, .invokevirtual 109, 3, []), (19, .ifCond .eq 20, 3, [39]), (22, .iload_n 1, 1, [1]), (23, .iload_n 2, 1, [2]), (24, .if_icmp .eq 15, 3, [39]), (27, .aload_n 0, 1, [0]), (28, .getfield 12, 3, []), (31, .getfield 113, 3, []), (34, .bipush 80, 2, []), (36, .if_icmp .lt 5, 3, [41]), (39, .iconst (-1), 1, []), (40, .ireturn, 1, []), (41, .lload_n 3, 1, [3]), (42, .lconst 0, 1, []), (43, .lcmp, 1, []), (44, .ifCond .lt 19, 3, [63]), (47, .lload_n 3, 1, [3]), (48, .ldc2_w 116, 3, []), (51, .lcmp, 1, []), (52, .ifCond .gt 11, 3, [63]), (55, .lload 7, 2, []), (57, .invokestatic 98, 3, []), (60, .ifCond .ne 5, 3, [65]), (63, .iconst (-1), 1, []), (64, .ireturn, 1, []), (65, .lload 5, 2, []), (67, .ldc2_w 118, 3, []), (70, .lcmp, 1, []), (71, .ifCond .eq 21, 3, [92]), (74, .lload 5, 2, []), (76, .lload_n 3, 1, [3]), (77, .lcmp, 1, []), (78, .ifCond .lt 12, 3, [90]), (81, .lload 5, 2, []), (83, .ldc2_w 116, 3, []), (86, .lcmp, 1, []), (87, .ifCond .le 5, 3, [92]), (90, .iconst (-1), 1, []), (91, .ireturn, 1, []), (92, .aload_n 0, 1, [0]), (93, .invokevirtual 102, 3, []), (96, .aload_n 0, 1, [0]), (97, .getfield 12, 3, []), (100, .iload_n 1, 1, [1]), (101, .iload_n 2, 1, [2]), (102, .lload_n 3, 1, [3]), (103, .lload 5, 2, []), (105, .lload 7, 2, []), (107, .invokevirtual 120, 3, []), (110, .ireturn, 1, [])]
set_option maxRecDepth 100000 in
theorem v_X10_arc : p_X10_arc.all (dm_vb cX10_arc) = true := by decide +kernel
def k_X10_arc : dm_Sp := fun a => match a with
  | 0 => sp_X2_hasNode
  | 1 => sp_X10_isUsual
  | 2 => sp_X10_forget
  | 3 => sp_X2_addArc
  | _ => fun _ _ _ => False
def x_X10_arc : dm_X := dm_mk [(12, 10, 0), (113, 2, 9)] [] [(116, 1000000), (118, -2)] [(109, 0, 1, 2), (98, 1, 1, 1000), (102, 2, 0, 10), (120, 3, 5, 2)] 1
set_option maxRecDepth 100000 in
set_option maxHeartbeats 400000 in
theorem u_X10_arc : dm_Pure shC x_X10_arc k_X10_arc p_X10_arc 9 sp_X10_arc := by
  intro As u Qp h
  unfold sp_X10_arc at h
  split at h
  · refine ⟨Nat.le_of_ble_eq_true rfl, fun G Wp hW0 hW1 hG => ?_⟩
    apply hG (fun _ => false) 59
    simp (config := { maxSteps := 2000000 }) [hW0, hW1, dm_fn, dm_fd, dm_x, dm_L0, dm_la, dm_t1, dm_sw, List.headD, dm_ic, dm_mk, dm_s1, dm_s2, dm_clr, dm_cs, dm_cc, dm_nb0, dm_nb1, Value.category, List.lookup, p_X10_arc, x_X10_arc, k_X10_arc, dm_cm, upd, vp_updL, dm_ui_1, dm_ui_2, dm_ul_1, dm_ul_2, sp_X2_hasNode, sp_X10_isUsual, sp_X10_forget, sp_X2_addArc, sC_0, sC_1, sC_2, sC_3, sC_4, sC_5, sC_6, sC_7, sC_8, sC_9, sC_10, sC_11, sC_12, sC_13, sC_14, sC_15, sC_16, sC_17, sC_18, sC_19, sC_20, sC_21, sC_22, sC_23, sC_24, sC_25, sC_26, sC_27, sC_28, sC_29, sC_30, sC_31, sC_32, sC_33, sC_34, sC_35, sC_36, sC_37, sC_38, sC_39, sC_40, sC_41, sC_42, sC_43, sC_44, sC_45, sC_46, sC_47, sC_48, sC_49, sC_50, sC_51]
    rename_i a b lo mo co
    obtain ⟨h1, h2⟩ := h
    simp only [sp_X2_addArc, dm_ui_1, dm_ui_2] at h1
    simp at h1
    refine ⟨fun q => h2 (fun z => dm_i_lt.mpr (q z.1.1) z.1.2), fun a1 a2 => ⟨fun q => h2 (fun z => dm_i_lt.mpr (q z.2.1.1) z.2.1.2), fun b1 b2 => ⟨fun q => h2 (fun z => z.2.2.1 q), fun ne => ⟨fun m1 => ⟨fun q => h2 (fun z => dm_l_le.mpr q z.2.2.2.2.1.1), fun l1 => ⟨fun q => h2 (fun z => dm_l_le.mpr q z.2.2.2.2.1.2), fun l2 => ⟨fun c1 c2 => ?_, fun q => h2 (fun z => dm_l_le.mpr (q z.2.2.2.2.2.1.1) z.2.2.2.2.2.1.2)⟩⟩⟩, fun q => h2 (fun z => dm_i_lt.mpr q z.2.2.2.1)⟩⟩⟩⟩
    have key : (mo = -2 ∨ lo ≤ mo ∧ mo ≤ 1000000) → dm_ac u a b lo mo co := fun z => ⟨⟨a1, a2⟩, ⟨b1, b2⟩, ne, m1, ⟨l1, l2⟩, ⟨c1, c2⟩, z⟩
    exact ⟨fun q => h1 (key (Or.inl q)), fun q => ⟨fun q1 => h2 (fun z => z.2.2.2.2.2.2.elim q (fun y => dm_l_le.mpr q1 y.1)), fun q1 => ⟨fun q2 => h1 (key (Or.inr ⟨q1, q2⟩)), fun q2 => h2 (fun z => z.2.2.2.2.2.2.elim q (fun y => dm_l_le.mpr q2 y.2))⟩⟩⟩
  · exact h.elim
set_option maxRecDepth 100000 in
theorem t_X10_arc (l : Launch) (D : va_G) (cA : Nat → ClassId) (ad : Nat → Nat) : dm_Met l D dm_cl cA ad shC yX10_arc (Cond.code yX10_arc cX10_arc 9 (dm_rt 1) :: dm_tt) ({ frames := 1, cells := 0, slots := 0, locals := 28 } : Room) sp_X10_arc := dm_meth (own := RX10) (X := x_X10_arc) (Sp := k_X10_arc) (prog := p_X10_arc) (by decide +kernel) rfl rfl (dm_FO_s ffX10 [(12, 10, 0), (113, 2, 9)] rfl dm_hT (by decide +kernel)) (dm_IO_s ifX10 jfX10 [] [(116, 1000000), (118, -2)] rfl rfl dm_hT (by decide +kernel) (by decide +kernel)) soC (dm_MO_of (List.forall_mem_cons.mpr ⟨dm_M1_of (t_X2_hasNode l D cA ad) dm_hT (dm_mem [488, 67, 485] (by decide +kernel) (by decide +kernel)) (by decide) (by decide +kernel) (Or.inr ⟨by decide, dm_mem [486, 487] (by decide +kernel) (by decide +kernel), rfl⟩), List.forall_mem_cons.mpr ⟨dm_M1_of (t_X10_isUsual l D cA ad) dm_hT (dm_mem [470, 66, 468] (by decide +kernel) (by decide +kernel)) (by decide) (by decide +kernel) (Or.inl ⟨rfl, dm_mem (ws := [.static yX10_isUsual]) [469] (by decide +kernel) (by decide +kernel) _ List.mem_cons_self⟩), List.forall_mem_cons.mpr ⟨dm_M1_of (t_X10_forget l D cA ad) dm_hT (dm_mem [476, 66, 473] (by decide +kernel) (by decide +kernel)) (by decide) (by decide +kernel) (Or.inr ⟨by decide, dm_mem [475, 0] (by decide +kernel) (by decide +kernel), rfl⟩), List.forall_mem_cons.mpr ⟨dm_M1_of (t_X2_addArc l D cA ad) dm_hT (dm_mem [493, 67, 490] (by decide +kernel) (by decide +kernel)) (by decide) (by decide +kernel) (Or.inr ⟨by decide, dm_mem [491, 492] (by decide +kernel) (by decide +kernel), rfl⟩), fun _ h => absurd h List.not_mem_nil⟩⟩⟩⟩)) v_X10_arc u_X10_arc
/-- a PIECE may be told so -/
def dm_pc (u : dm_S) (a : Int32) (mq co : Int64) : Prop := (0 ≤ a ∧ a < u.1 1 9) ∧ u.1 16 a.toNatClampNeg < 4 ∧ u.2 17 (a * 4 + u.1 16 a.toNatClampNeg - 1).toNatClampNeg < mq ∧ mq < u.2 15 a.toNatClampNeg ∧ mq ≤ 1000000 ∧ u.2 18 (a * 4 + u.1 16 a.toNatClampNeg - 1).toNatClampNeg ≤ co ∧ co ≤ 1000000
def sp_X10_piece (As : List Value) (u : dm_S) (Q : Option Value → dm_S → Prop) : Prop := match As with
  | [.ref 0, .int a, .long mq, .long co] => (0 ≤ a ∧ a < u.1 1 9 → vp_in a 80 ∧ (u.1 16 a.toNatClampNeg < 4 → vp_in (a * 4 + u.1 16 a.toNatClampNeg - 1) 320)) ∧ (dm_pc u a mq co → vp_in (a * 4 + u.1 16 a.toNatClampNeg) 320 ∧ Q (some (.int (u.1 16 a.toNatClampNeg))) (dm_ui (dm_ui (dm_ul (dm_ul (dm_fg u) 17 (a * 4 + u.1 16 a.toNatClampNeg).toNatClampNeg mq) 18 (a * 4 + u.1 16 a.toNatClampNeg).toNatClampNeg co) 16 a.toNatClampNeg (u.1 16 a.toNatClampNeg + 1)) 1 10 (u.1 1 10 + 1))) ∧ (¬ dm_pc u a mq co → Q (some (.int (-1))) u)
  | _ => False
def p_X10_piece : List dm_I := [(0, .aload_n 0, 1, [0]), (1, .getfield 12, 3, []), (4, .iload_n 1, 1, [1]), (5, .invokevirtual 124, 3, []), (8, .ifCond .eq 17, 3, [25]), (11, .aload_n 0, 1, [0]), (12, .getfield 12, 3, []), (15, .iload_n 1, 1, [1]), (16, .lload_n 2, 1, [2]), (17, .lload 4, 2, []), (19, .invokevirtual 127, 3, []), (22, .ifCond .ne 5, 3, [27]), (25, .iconst (-1), 1, []), (26, .ireturn, 1, []), (27, .aload_n 0, 1, [0]), (28, .invokevirtual 102, 3, []), (31, .aload_n 0, 1, [0]), (32, .getfield 12, 3, []), (35, .iload_n 1, 1, [1]), (36, .lload_n 2, 1, [2]), (37, .lload 4, 2, []), (39, .invokevirtual 131, 3, []), (42, .ireturn, 1, [])]
set_option maxRecDepth 100000 in
theorem v_X10_piece : p_X10_piece.all (dm_vb cX10_piece) = true := by decide +kernel
def k_X10_piece : dm_Sp := fun a => match a with
  | 0 => sp_X2_hasArc
  | 1 => sp_X2_takesPiece
  | 2 => sp_X10_forget
  | 3 => sp_X2_addPiece
  | _ => fun _ _ _ => False
def x_X10_piece : dm_X := dm_mk [(12, 10, 0)] [] [] [(124, 0, 1, 2), (127, 1, 3, 2), (102, 2, 0, 10), (131, 3, 3, 2)] 1
set_option maxRecDepth 100000 in
set_option maxHeartbeats 400000 in
theorem u_X10_piece : dm_Pure shC x_X10_piece k_X10_piece p_X10_piece 6 sp_X10_piece := by
  intro As u Qp h
  unfold sp_X10_piece at h
  split at h
  · refine ⟨Nat.le_of_ble_eq_true rfl, fun G Wp hW0 hW1 hG => ?_⟩
    apply hG (fun _ => false) 24
    simp (config := { maxSteps := 2000000 }) [hW0, hW1, dm_fn, dm_fd, dm_x, dm_L0, dm_la, dm_t1, dm_sw, List.headD, dm_ic, dm_mk, dm_s1, dm_s2, dm_clr, dm_cs, dm_cc, dm_nb0, dm_nb1, Value.category, List.lookup, p_X10_piece, x_X10_piece, k_X10_piece, dm_cm, upd, vp_updL, dm_ui_1, dm_ui_2, dm_ul_1, dm_ul_2, sp_X2_hasArc, sp_X2_takesPiece, sp_X10_forget, sp_X2_addPiece, sC_0, sC_1, sC_2, sC_3, sC_4, sC_5, sC_6, sC_7, sC_8, sC_9, sC_10, sC_11, sC_12, sC_13, sC_14, sC_15, sC_16, sC_17, sC_18, sC_19, sC_20, sC_21, sC_22, sC_23, sC_24, sC_25, sC_26, sC_27, sC_28, sC_29, sC_30, sC_31, sC_32, sC_33, sC_34, sC_35, sC_36, sC_37, sC_38, sC_39, sC_40, sC_41, sC_42, sC_43, sC_44, sC_45, sC_46, sC_47, sC_48, sC_49, sC_50, sC_51]
    rename_i a mq co
    obtain ⟨h0, h1, h2⟩ := h
    refine ⟨fun q => h2 (fun z => dm_i_lt.mpr (q z.1.1) z.1.2), fun a1 a2 => ⟨(h0 ⟨a1, a2⟩).1, (h0 ⟨a1, a2⟩).2, fun q1 q2 q3 q4 q5 q6 => ⟨(h0 ⟨a1, a2⟩).1, h1 ⟨⟨a1, a2⟩, q1, q2, q3, q4, q5, q6⟩⟩, fun q => h2 (fun z => ?_)⟩⟩
    obtain ⟨z1, z2, z3, z4, z5, z6, z7⟩ := z
    exact dm_l_le.mpr (q z2 z3 z4 z5 z6) z7
  · exact h.elim
set_option maxRecDepth 100000 in
theorem t_X10_piece (l : Launch) (D : va_G) (cA : Nat → ClassId) (ad : Nat → Nat) : dm_Met l D dm_cl cA ad shC yX10_piece (Cond.code yX10_piece cX10_piece 6 (dm_rt 1) :: dm_tt) ({ frames := 2, cells := 0, slots := 0, locals := 47 } : Room) sp_X10_piece := dm_meth (own := RX10) (X := x_X10_piece) (Sp := k_X10_piece) (prog := p_X10_piece) (by decide +kernel) rfl rfl (dm_FO_s ffX10 [(12, 10, 0)] rfl dm_hT (by decide +kernel)) (dm_IO_s ifX10 jfX10 [] [] rfl rfl dm_hT (by decide +kernel) (by decide +kernel)) soC (dm_MO_of (List.forall_mem_cons.mpr ⟨dm_M1_of (t_X2_hasArc l D cA ad) dm_hT (dm_mem [503, 67, 500] (by decide +kernel) (by decide +kernel)) (by decide) (by decide +kernel) (Or.inr ⟨by decide, dm_mem [501, 502] (by decide +kernel) (by decide +kernel), rfl⟩), List.forall_mem_cons.mpr ⟨dm_M1_of (t_X2_takesPiece l D cA ad) dm_hT (dm_mem [507, 67, 504] (by decide +kernel) (by decide +kernel)) (by decide) (by decide +kernel) (Or.inr ⟨by decide, dm_mem [505, 506] (by decide +kernel) (by decide +kernel), rfl⟩), List.forall_mem_cons.mpr ⟨dm_M1_of (t_X10_forget l D cA ad) dm_hT (dm_mem [476, 66, 473] (by decide +kernel) (by decide +kernel)) (by decide) (by decide +kernel) (Or.inr ⟨by decide, dm_mem [475, 0] (by decide +kernel) (by decide +kernel), rfl⟩), List.forall_mem_cons.mpr ⟨dm_M1_of (t_X2_addPiece l D cA ad) dm_hT (dm_mem [516, 67, 513] (by decide +kernel) (by decide +kernel)) (by decide) (by decide +kernel) (Or.inr ⟨by decide, dm_mem [514, 515] (by decide +kernel) (by decide +kernel), rfl⟩), fun _ h => absurd h List.not_mem_nil⟩⟩⟩⟩)) v_X10_piece u_X10_piece
def sp_X10_supply (As : List Value) (u : dm_S) (Q : Option Value → dm_S → Prop) : Prop := match As with
  | [.ref 0, .int a, .long d] => ((0 ≤ a ∧ a < u.1 1 8) ∧ -1000000 ≤ d ∧ d ≤ 1000000 → vp_in a 24 ∧ Q (some (.long (u.2 11 a.toNatClampNeg))) (dm_ul (dm_fg u) 11 a.toNatClampNeg d)) ∧ (¬ ((0 ≤ a ∧ a < u.1 1 8) ∧ -1000000 ≤ d ∧ d ≤ 1000000) → Q (some (.long (-1000001))) u)
  | _ => False
def p_X10_supply : List dm_I := [(0, .aload_n 0, 1, [0]), (1, .getfield 12, 3, []), (4, .iload_n 1, 1, [1]), (5, .invokevirtual 109, 3, []), (8, .ifCond .eq 10, 3, [18]), (11, .lload_n 2, 1, [2]), (12, .invokestatic 98, 3, []), (15, .ifCond .ne 7, 3, [22]), (18, .ldc2_w 135, 3, []), (21, .lreturn, 1, []), (22, .aload_n 0, 1, [0]), (23, .invokevirtual 102, 3, []), (26, .aload_n 0, 1, [0]), (27, .getfield 12, 3, []), (30, .getfield 137, 3, []), (33, .iload_n 1, 1, [1]), (34, .laload, 1, []), (35, .lstore 4, 2, []), (37, .aload_n 0, 1, [0]), (38, .getfield 12, 3, []), (41, .getfield 137, 3, []), (44, .iload_n 1, 1, [1]), (45, .lload_n 2, 1, [2]), (46, .lastore, 1, []), (47, .lload 4, 2, []), (49, .lreturn, 1, [])]
set_option maxRecDepth 100000 in
theorem v_X10_supply : p_X10_supply.all (dm_vb cX10_supply) = true := by decide +kernel
def k_X10_supply : dm_Sp := fun a => match a with
  | 0 => sp_X2_hasNode
  | 1 => sp_X10_isUsual
  | 2 => sp_X10_forget
  | _ => fun _ _ _ => False
def x_X10_supply : dm_X := dm_mk [(12, 10, 0), (137, 2, 0)] [] [(135, -1000001)] [(109, 0, 1, 2), (98, 1, 1, 1000), (102, 2, 0, 10)] 2
set_option maxRecDepth 100000 in
set_option maxHeartbeats 400000 in
theorem u_X10_supply : dm_Pure shC x_X10_supply k_X10_supply p_X10_supply 6 sp_X10_supply := by
  intro As u Qp h
  unfold sp_X10_supply at h
  split at h
  · refine ⟨Nat.le_of_ble_eq_true rfl, fun G Wp hW0 hW1 hG => ?_⟩
    apply hG (fun _ => false) 27
    simp (config := { maxSteps := 2000000 }) [hW0, hW1, dm_fn, dm_fd, dm_x, dm_L0, dm_la, dm_t1, dm_sw, List.headD, dm_ic, dm_mk, dm_s1, dm_s2, dm_clr, dm_cs, dm_cc, dm_nb0, dm_nb1, Value.category, List.lookup, p_X10_supply, x_X10_supply, k_X10_supply, dm_cm, upd, vp_updL, dm_ui_1, dm_ui_2, dm_ul_1, dm_ul_2, sp_X2_hasNode, sp_X10_isUsual, sp_X10_forget, sC_0, sC_1, sC_2, sC_3, sC_4, sC_5, sC_6, sC_7, sC_8, sC_9, sC_10, sC_11, sC_12, sC_13, sC_14, sC_15, sC_16, sC_17, sC_18, sC_19, sC_20, sC_21, sC_22, sC_23, sC_24, sC_25, sC_26, sC_27, sC_28, sC_29, sC_30, sC_31, sC_32, sC_33, sC_34, sC_35, sC_36, sC_37, sC_38, sC_39, sC_40, sC_41, sC_42, sC_43, sC_44, sC_45, sC_46, sC_47, sC_48, sC_49, sC_50, sC_51]
    obtain ⟨h1, h2⟩ := h
    exact ⟨fun q => h2 (fun z => dm_i_lt.mpr (q z.1.1) z.1.2), fun a1 a2 => ⟨fun d1 d2 => h1 ⟨⟨a1, a2⟩, d1, d2⟩, fun q => h2 (fun z => dm_l_le.mpr (q z.2.1) z.2.2)⟩⟩
  · exact h.elim
set_option maxRecDepth 100000 in
theorem t_X10_supply (l : Launch) (D : va_G) (cA : Nat → ClassId) (ad : Nat → Nat) : dm_Met l D dm_cl cA ad shC yX10_supply (Cond.code yX10_supply cX10_supply 6 (dm_rt 2) :: dm_tt) ({ frames := 1, cells := 0, slots := 0, locals := 21 } : Room) sp_X10_supply := dm_meth (own := RX10) (X := x_X10_supply) (Sp := k_X10_supply) (prog := p_X10_supply) (by decide +kernel) rfl rfl (dm_FO_s ffX10 [(12, 10, 0), (137, 2, 0)] rfl dm_hT (by decide +kernel)) (dm_IO_s ifX10 jfX10 [] [(135, -1000001)] rfl rfl dm_hT (by decide +kernel) (by decide +kernel)) soC (dm_MO_of (List.forall_mem_cons.mpr ⟨dm_M1_of (t_X2_hasNode l D cA ad) dm_hT (dm_mem [488, 67, 485] (by decide +kernel) (by decide +kernel)) (by decide) (by decide +kernel) (Or.inr ⟨by decide, dm_mem [486, 487] (by decide +kernel) (by decide +kernel), rfl⟩), List.forall_mem_cons.mpr ⟨dm_M1_of (t_X10_isUsual l D cA ad) dm_hT (dm_mem [470, 66, 468] (by decide +kernel) (by decide +kernel)) (by decide) (by decide +kernel) (Or.inl ⟨rfl, dm_mem (ws := [.static yX10_isUsual]) [469] (by decide +kernel) (by decide +kernel) _ List.mem_cons_self⟩), List.forall_mem_cons.mpr ⟨dm_M1_of (t_X10_forget l D cA ad) dm_hT (dm_mem [476, 66, 473] (by decide +kernel) (by decide +kernel)) (by decide) (by decide +kernel) (Or.inr ⟨by decide, dm_mem [475, 0] (by decide +kernel) (by decide +kernel), rfl⟩), fun _ h => absurd h List.not_mem_nil⟩⟩⟩)) v_X10_supply u_X10_supply
def sp_X10_price (As : List Value) (u : dm_S) (Q : Option Value → dm_S → Prop) : Prop := match As with
  | [.ref 0, .int a, .long d] => (0 ≤ a ∧ a < u.1 1 9 → vp_in a 80 ∧ vp_in (a * 4) 320) ∧ ((0 ≤ a ∧ a < u.1 1 9) ∧ u.1 16 a.toNatClampNeg = 1 ∧ -1000000 ≤ d ∧ d ≤ 1000000 → Q (some (.int 1)) (dm_ul (dm_fg u) 18 (a * 4).toNatClampNeg d)) ∧ (¬ ((0 ≤ a ∧ a < u.1 1 9) ∧ u.1 16 a.toNatClampNeg = 1 ∧ -1000000 ≤ d ∧ d ≤ 1000000) → Q (some (.int 0)) u)
  | _ => False
def p_X10_price : List dm_I := [(0, .aload_n 0, 1, [0]), (1, .getfield 12, 3, []), (4, .iload_n 1, 1, [1]), (5, .invokevirtual 140, 3, []), (8, .ifCond .eq 10, 3, [18]), (11, .lload_n 2, 1, [2]), (12, .invokestatic 98, 3, []), (15, .ifCond .ne 5, 3, [20]), (18, .iconst 0, 1, []), (19, .ireturn, 1, []), (20, .aload_n 0, 1, [0]), (21, .invokevirtual 102, 3, []), (24, .aload_n 0, 1, [0]), (25, .getfield 12, 3, []), (28, .getfield 143, 3, []), (31, .iload_n 1, 1, [1]), (32, .iconst 4, 1, []), (33, .imul, 1, []), (34, .lload_n 2, 1, [2]), (35, .lastore, 1, []), (36, .iconst 1, 1, []), (37, .ireturn, 1, [])]
set_option maxRecDepth 100000 in
theorem v_X10_price : p_X10_price.all (dm_vb cX10_price) = true := by decide +kernel
def k_X10_price : dm_Sp := fun a => match a with
  | 0 => sp_X2_isPlain
  | 1 => sp_X10_isUsual
  | 2 => sp_X10_forget
  | _ => fun _ _ _ => False
def x_X10_price : dm_X := dm_mk [(12, 10, 0), (143, 2, 7)] [] [] [(140, 0, 1, 2), (98, 1, 1, 1000), (102, 2, 0, 10)] 3
set_option maxRecDepth 100000 in
set_option maxHeartbeats 400000 in
theorem u_X10_price : dm_Pure shC x_X10_price k_X10_price p_X10_price 4 sp_X10_price := by
  intro As u Qp h
  unfold sp_X10_price at h
  split at h
  · refine ⟨Nat.le_of_ble_eq_true rfl, fun G Wp hW0 hW1 hG => ?_⟩
    apply hG (fun _ => false) 23
    simp (config := { maxSteps := 2000000 }) [hW0, hW1, dm_fn, dm_fd, dm_x, dm_L0, dm_la, dm_t1, dm_sw, List.headD, dm_ic, dm_mk, dm_s1, dm_s2, dm_clr, dm_cs, dm_cc, dm_nb0, dm_nb1, Value.category, List.lookup, p_X10_price, x_X10_price, k_X10_price, dm_cm, upd, vp_updL, dm_ui_1, dm_ui_2, dm_ul_1, dm_ul_2, sp_X2_isPlain, sp_X10_isUsual, sp_X10_forget, sC_0, sC_1, sC_2, sC_3, sC_4, sC_5, sC_6, sC_7, sC_8, sC_9, sC_10, sC_11, sC_12, sC_13, sC_14, sC_15, sC_16, sC_17, sC_18, sC_19, sC_20, sC_21, sC_22, sC_23, sC_24, sC_25, sC_26, sC_27, sC_28, sC_29, sC_30, sC_31, sC_32, sC_33, sC_34, sC_35, sC_36, sC_37, sC_38, sC_39, sC_40, sC_41, sC_42, sC_43, sC_44, sC_45, sC_46, sC_47, sC_48, sC_49, sC_50, sC_51]
    obtain ⟨h0, h1, h2⟩ := h
    exact ⟨fun a1 a2 => (h0 ⟨a1, a2⟩).1, fun q => h2 (fun z => q z.1.1 z.1.2 z.2.1), fun a1 a2 a3 => ⟨fun d1 d2 => ⟨(h0 ⟨a1, a2⟩).2, h1 ⟨⟨a1, a2⟩, a3, d1, d2⟩⟩, fun q => h2 (fun z => dm_l_le.mpr (q z.2.2.1) z.2.2.2)⟩⟩
  · exact h.elim
set_option maxRecDepth 100000 in
theorem t_X10_price (l : Launch) (D : va_G) (cA : Nat → ClassId) (ad : Nat → Nat) : dm_Met l D dm_cl cA ad shC yX10_price (Cond.code yX10_price cX10_price 4 (dm_rt 3) :: dm_tt) ({ frames := 2, cells := 0, slots := 0, locals := 42 } : Room) sp_X10_price := dm_meth (own := RX10) (X := x_X10_price) (Sp := k_X10_price) (prog := p_X10_price) (by decide +kernel) rfl rfl (dm_FO_s ffX10 [(12, 10, 0), (143, 2, 7)] rfl dm_hT (by decide +kernel)) (dm_IO_s ifX10 jfX10 [] [] rfl rfl dm_hT (by decide +kernel) (by decide +kernel)) soC (dm_MO_of (List.forall_mem_cons.mpr ⟨dm_M1_of (t_X2_isPlain l D cA ad) dm_hT (dm_mem [529, 67, 526] (by decide +kernel) (by decide +kernel)) (by decide) (by decide +kernel) (Or.inr ⟨by decide, dm_mem [527, 528] (by decide +kernel) (by decide +kernel), rfl⟩), List.forall_mem_cons.mpr ⟨dm_M1_of (t_X10_isUsual l D cA ad) dm_hT (dm_mem [470, 66, 468] (by decide +kernel) (by decide +kernel)) (by decide) (by decide +kernel) (Or.inl ⟨rfl, dm_mem (ws := [.static yX10_isUsual]) [469] (by decide +kernel) (by decide +kernel) _ List.mem_cons_self⟩), List.forall_mem_cons.mpr ⟨dm_M1_of (t_X10_forget l D cA ad) dm_hT (dm_mem [476, 66, 473] (by decide +kernel) (by decide +kernel)) (by decide) (by decide +kernel) (Or.inr ⟨by decide, dm_mem [475, 0] (by decide +kernel) (by decide +kernel), rfl⟩), fun _ h => absurd h List.not_mem_nil⟩⟩⟩)) v_X10_price u_X10_price
def sp_X10_told (As : List Value) (u : dm_S) (Q : Option Value → dm_S → Prop) : Prop := match As with
  | [.ref 0, .int a] => Q (some (.int (if a.toInt = 0 then u.1 1 8 else if a.toInt = 1 then u.1 1 9 else if a.toInt = 2 then u.1 1 10 else if a.toInt = 3 then u.1 8 3 else if a.toInt = 4 then u.1 9 2 else if a.toInt = 5 then u.1 10 3 else if a.toInt = 6 then u.1 0 10 else -1))) u
  | _ => False
def p_X10_told : List dm_I := [(0, .iload_n 1, 1, [1]), (1, .tableswitch 96 0 6 #[43, 51, 59, 67, 75, 83, 91], 43, [97, 44, 52, 60, 68, 76, 84, 92]), (44, .aload_n 0, 1, [0]), (45, .getfield 12, 3, []), (48, .getfield 95, 3, []), (51, .ireturn, 1, []), (52, .aload_n 0, 1, [0]), (53, .getfield 12, 3, []), (56, .getfield 113, 3, []), (59, .ireturn, 1, []), (60, .aload_n 0, 1, [0]), (61, .getfield 12, 3, []), (64, .getfield 211, 3, []), (67, .ireturn, 1, []), (68, .aload_n 0, 1, [0]), (69, .getfield 73, 3, []), (72, .getfield 167, 3, []), (75, .ireturn, 1, []), (76, .aload_n 0, 1, [0]), (77, .getfield 80, 3, []), (80, .getfield 173, 3, []), (83, .ireturn, 1, []), (84, .aload_n 0, 1, [0]), (85, .getfield 87, 3, []), (88, .getfield 214, 3, []), (91, .ireturn, 1, []), (92, .aload_n 0, 1, [0]), (93, .getfield 91, 3, []), (96, .ireturn, 1, []), (97, .iconst (-1), 1, []), (98, .ireturn, 1, [])]
set_option maxRecDepth 100000 in
theorem v_X10_told : p_X10_told.all (dm_vb cX10_told) = true := by decide +kernel
def k_X10_told : dm_Sp := fun a => match a with
  | _ => fun _ _ _ => False
def x_X10_told : dm_X := dm_mk [(12, 10, 0), (73, 10, 7), (80, 10, 8), (87, 10, 9), (91, 10, 10), (95, 2, 8), (113, 2, 9), (167, 0, 3), (173, 8, 2), (211, 2, 10), (214, 3, 3)] [] [] [] 1
set_option maxRecDepth 100000 in
set_option maxHeartbeats 400000 in
theorem u_X10_told : dm_Pure shC x_X10_told k_X10_told p_X10_told 2 sp_X10_told := by
  intro As u Qp h
  unfold sp_X10_told at h
  split at h
  · refine ⟨Nat.le_of_ble_eq_true rfl, fun G Wp hW0 hW1 hG => ?_⟩
    apply hG (fun _ => false) 32
    simp (config := { maxSteps := 2000000 }) [hW0, hW1, dm_fn, dm_fd, dm_x, dm_L0, dm_la, dm_t1, dm_sw, List.headD, dm_ic, dm_mk, dm_s1, dm_s2, dm_clr, dm_cs, dm_cc, dm_nb0, dm_nb1, Value.category, List.lookup, p_X10_told, x_X10_told, k_X10_told, dm_cm, upd, vp_updL, dm_ui_1, dm_ui_2, dm_ul_1, dm_ul_2, sC_0, sC_1, sC_2, sC_3, sC_4, sC_5, sC_6, sC_7, sC_8, sC_9, sC_10, sC_11, sC_12, sC_13, sC_14, sC_15, sC_16, sC_17, sC_18, sC_19, sC_20, sC_21, sC_22, sC_23, sC_24, sC_25, sC_26, sC_27, sC_28, sC_29, sC_30, sC_31, sC_32, sC_33, sC_34, sC_35, sC_36, sC_37, sC_38, sC_39, sC_40, sC_41, sC_42, sC_43, sC_44, sC_45, sC_46, sC_47, sC_48, sC_49, sC_50, sC_51]
    refine ⟨fun q => ?_, fun q => ?_, fun q => ?_, fun q => ?_, fun q => ?_, fun q => ?_, fun q => ?_, fun q => ?_⟩
    · rw [if_neg (by omega), if_neg (by omega), if_neg (by omega), if_neg (by omega), if_neg (by omega), if_neg (by omega), if_neg (by omega)] at h; exact h
    all_goals (simp [q] at h; exact h)
  · exact h.elim
set_option maxRecDepth 100000 in
theorem t_X10_told (l : Launch) (D : va_G) (cA : Nat → ClassId) (ad : Nat → Nat) : dm_Met l D dm_cl cA ad shC yX10_told (Cond.code yX10_told cX10_told 2 (dm_rt 1) :: dm_tt) ({ frames := 0, cells := 0, slots := 0, locals := 0 } : Room) sp_X10_told := dm_meth (own := RX10) (X := x_X10_told) (Sp := k_X10_told) (prog := p_X10_told) (by decide +kernel) rfl rfl (dm_FO_s ffX10 [(12, 10, 0), (73, 10, 7), (80, 10, 8), (87, 10, 9), (91, 10, 10), (95, 2, 8), (113, 2, 9), (167, 0, 3), (173, 8, 2), (211, 2, 10), (214, 3, 3)] rfl dm_hT (by decide +kernel)) (dm_IO_s ifX10 jfX10 [] [] rfl rfl dm_hT (by decide +kernel) (by decide +kernel)) soC (dm_MO_of (fun _ h => absurd h List.not_mem_nil)) v_X10_told u_X10_told
def sp_X10_ring (As : List Value) (u : dm_S) (Q : Option Value → dm_S → Prop) : Prop := match As with
  | [.ref 0, .int a] => (0 ≤ a ∧ a < u.1 8 3 → vp_in a 24) ∧ Q (some (.int (if 0 ≤ a ∧ a < u.1 8 3 then u.1 46 a.toNatClampNeg else -1))) u
  | _ => False
def p_X10_ring : List dm_I := [(0, .iload_n 1, 1, [1]), (1, .ifCond .lt 26, 3, [27]), (4, .iload_n 1, 1, [1]), (5, .aload_n 0, 1, [0]), (6, .getfield 73, 3, []), (9, .getfield 167, 3, []), (12, .if_icmp .ge 15, 3, [27]), (15, .aload_n 0, 1, [0]), (16, .getfield 73, 3, []), (19, .getfield 170, 3, []), (22, .iload_n 1, 1, [1]), (23, .iaload, 1, []), (24, .goto 4, 3, [28]), (27, .iconst (-1), 1, []), (28, .ireturn, 1, [])]
set_option maxRecDepth 100000 in
theorem v_X10_ring : p_X10_ring.all (dm_vb cX10_ring) = true := by decide +kernel
def k_X10_ring : dm_Sp := fun a => match a with
  | _ => fun _ _ _ => False
def x_X10_ring : dm_X := dm_mk [(73, 10, 7), (167, 0, 3), (170, 0, 1)] [] [] [] 1
set_option maxRecDepth 100000 in
set_option maxHeartbeats 400000 in
theorem u_X10_ring : dm_Pure shC x_X10_ring k_X10_ring p_X10_ring 2 sp_X10_ring := by
  intro As u Qp h
  unfold sp_X10_ring at h
  split at h
  · refine ⟨Nat.le_of_ble_eq_true rfl, fun G Wp hW0 hW1 hG => ?_⟩
    apply hG (fun _ => false) 16
    simp (config := { maxSteps := 2000000 }) [hW0, hW1, dm_fn, dm_fd, dm_x, dm_L0, dm_la, dm_t1, dm_sw, List.headD, dm_ic, dm_mk, dm_s1, dm_s2, dm_clr, dm_cs, dm_cc, dm_nb0, dm_nb1, Value.category, List.lookup, p_X10_ring, x_X10_ring, k_X10_ring, dm_cm, upd, vp_updL, dm_ui_1, dm_ui_2, dm_ul_1, dm_ul_2, sC_0, sC_1, sC_2, sC_3, sC_4, sC_5, sC_6, sC_7, sC_8, sC_9, sC_10, sC_11, sC_12, sC_13, sC_14, sC_15, sC_16, sC_17, sC_18, sC_19, sC_20, sC_21, sC_22, sC_23, sC_24, sC_25, sC_26, sC_27, sC_28, sC_29, sC_30, sC_31, sC_32, sC_33, sC_34, sC_35, sC_36, sC_37, sC_38, sC_39, sC_40, sC_41, sC_42, sC_43, sC_44, sC_45, sC_46, sC_47, sC_48, sC_49, sC_50, sC_51]
    obtain ⟨h1, h2⟩ := h
    refine ⟨fun q => ?_, fun q => ⟨fun q2 => ?_, fun q2 => ⟨h1 ⟨q, q2⟩, ?_⟩⟩⟩
    · rw [if_neg (fun z => dm_i_le.mpr q z.1)] at h2; exact h2
    · rw [if_neg (fun z => dm_i_lt.mpr q2 z.2)] at h2; exact h2
    · rw [if_pos ⟨q, q2⟩] at h2; exact h2
  · exact h.elim
set_option maxRecDepth 100000 in
theorem t_X10_ring (l : Launch) (D : va_G) (cA : Nat → ClassId) (ad : Nat → Nat) : dm_Met l D dm_cl cA ad shC yX10_ring (Cond.code yX10_ring cX10_ring 2 (dm_rt 1) :: dm_tt) ({ frames := 0, cells := 0, slots := 0, locals := 0 } : Room) sp_X10_ring := dm_meth (own := RX10) (X := x_X10_ring) (Sp := k_X10_ring) (prog := p_X10_ring) (by decide +kernel) rfl rfl (dm_FO_s ffX10 [(73, 10, 7), (167, 0, 3), (170, 0, 1)] rfl dm_hT (by decide +kernel)) (dm_IO_s ifX10 jfX10 [] [] rfl rfl dm_hT (by decide +kernel) (by decide +kernel)) soC (dm_MO_of (fun _ h => absurd h List.not_mem_nil)) v_X10_ring u_X10_ring
def sp_X10_set (As : List Value) (u : dm_S) (Q : Option Value → dm_S → Prop) : Prop := match As with
  | [.ref 0, .int a] => (0 ≤ a ∧ a < u.1 9 2 → vp_in a 24) ∧ Q (some (.int (if 0 ≤ a ∧ a < u.1 9 2 then u.1 48 a.toNatClampNeg else -1))) u
  | _ => False
def p_X10_set : List dm_I := [(0, .iload_n 1, 1, [1]), (1, .ifCond .lt 26, 3, [27]), (4, .iload_n 1, 1, [1]), (5, .aload_n 0, 1, [0]), (6, .getfield 80, 3, []), (9, .getfield 173, 3, []), (12, .if_icmp .ge 15, 3, [27]), (15, .aload_n 0, 1, [0]), (16, .getfield 80, 3, []), (19, .getfield 176, 3, []), (22, .iload_n 1, 1, [1]), (23, .iaload, 1, []), (24, .goto 4, 3, [28]), (27, .iconst (-1), 1, []), (28, .ireturn, 1, [])]
set_option maxRecDepth 100000 in
theorem v_X10_set : p_X10_set.all (dm_vb cX10_set) = true := by decide +kernel
def k_X10_set : dm_Sp := fun a => match a with
  | _ => fun _ _ _ => False
def x_X10_set : dm_X := dm_mk [(80, 10, 8), (173, 8, 2), (176, 8, 1)] [] [] [] 1
set_option maxRecDepth 100000 in
set_option maxHeartbeats 400000 in
theorem u_X10_set : dm_Pure shC x_X10_set k_X10_set p_X10_set 2 sp_X10_set := by
  intro As u Qp h
  unfold sp_X10_set at h
  split at h
  · refine ⟨Nat.le_of_ble_eq_true rfl, fun G Wp hW0 hW1 hG => ?_⟩
    apply hG (fun _ => false) 16
    simp (config := { maxSteps := 2000000 }) [hW0, hW1, dm_fn, dm_fd, dm_x, dm_L0, dm_la, dm_t1, dm_sw, List.headD, dm_ic, dm_mk, dm_s1, dm_s2, dm_clr, dm_cs, dm_cc, dm_nb0, dm_nb1, Value.category, List.lookup, p_X10_set, x_X10_set, k_X10_set, dm_cm, upd, vp_updL, dm_ui_1, dm_ui_2, dm_ul_1, dm_ul_2, sC_0, sC_1, sC_2, sC_3, sC_4, sC_5, sC_6, sC_7, sC_8, sC_9, sC_10, sC_11, sC_12, sC_13, sC_14, sC_15, sC_16, sC_17, sC_18, sC_19, sC_20, sC_21, sC_22, sC_23, sC_24, sC_25, sC_26, sC_27, sC_28, sC_29, sC_30, sC_31, sC_32, sC_33, sC_34, sC_35, sC_36, sC_37, sC_38, sC_39, sC_40, sC_41, sC_42, sC_43, sC_44, sC_45, sC_46, sC_47, sC_48, sC_49, sC_50, sC_51]
    obtain ⟨h1, h2⟩ := h
    refine ⟨fun q => ?_, fun q => ⟨fun q2 => ?_, fun q2 => ⟨h1 ⟨q, q2⟩, ?_⟩⟩⟩
    · rw [if_neg (fun z => dm_i_le.mpr q z.1)] at h2; exact h2
    · rw [if_neg (fun z => dm_i_lt.mpr q2 z.2)] at h2; exact h2
    · rw [if_pos ⟨q, q2⟩] at h2; exact h2
  · exact h.elim
set_option maxRecDepth 100000 in
theorem t_X10_set (l : Launch) (D : va_G) (cA : Nat → ClassId) (ad : Nat → Nat) : dm_Met l D dm_cl cA ad shC yX10_set (Cond.code yX10_set cX10_set 2 (dm_rt 1) :: dm_tt) ({ frames := 0, cells := 0, slots := 0, locals := 0 } : Room) sp_X10_set := dm_meth (own := RX10) (X := x_X10_set) (Sp := k_X10_set) (prog := p_X10_set) (by decide +kernel) rfl rfl (dm_FO_s ffX10 [(80, 10, 8), (173, 8, 2), (176, 8, 1)] rfl dm_hT (by decide +kernel)) (dm_IO_s ifX10 jfX10 [] [] rfl rfl dm_hT (by decide +kernel) (by decide +kernel)) soC (dm_MO_of (fun _ h => absurd h List.not_mem_nil)) v_X10_set u_X10_set
def sp_X10_put (As : List Value) (u : dm_S) (Q : Option Value → dm_S → Prop) : Prop := match As with
  | [.ref 0, .int a, .int b, .long d] => ((0 ≤ a ∧ a < u.1 10 3) ∧ (0 ≤ b ∧ b < u.1 10 3) ∧ -1000000 ≤ d ∧ d ≤ 1000000 → vp_in (a * 8 + b) 64 ∧ Q (some (.int 1)) (dm_ui (dm_ul u 49 (a * 8 + b).toNatClampNeg d) 10 4 0)) ∧ (¬ ((0 ≤ a ∧ a < u.1 10 3) ∧ (0 ≤ b ∧ b < u.1 10 3) ∧ -1000000 ≤ d ∧ d ≤ 1000000) → Q (some (.int 0)) u)
  | _ => False
def p_X10_put : List dm_I := [(0, .aload_n 0, 1, [0]), (1, .getfield 87, 3, []), (4, .iload_n 1, 1, [1]), (5, .invokevirtual 193, 3, []), (8, .ifCond .eq 21, 3, [29]), (11, .aload_n 0, 1, [0]), (12, .getfield 87, 3, []), (15, .iload_n 2, 1, [2]), (16, .invokevirtual 193, 3, []), (19, .ifCond .eq 10, 3, [29]), (22, .lload_n 3, 1, [3]), (23, .invokestatic 98, 3, []), (26, .ifCond .ne 5, 3, [31]), (29, .iconst 0, 1, []), (30, .ireturn, 1, []), (31, .aload_n 0, 1, [0]), (32, .getfield 87, 3, []), (35, .iload_n 1, 1, [1]), (36, .iload_n 2, 1, [2]), (37, .lload_n 3, 1, [3]), (38, .invokevirtual 196, 3, []), (41, .iconst 1, 1, []), (42, .ireturn, 1, [])]
set_option maxRecDepth 100000 in
theorem v_X10_put : p_X10_put.all (dm_vb cX10_put) = true := by decide +kernel
def k_X10_put : dm_Sp := fun a => match a with
  | 0 => sp_X3_has
  | 1 => sp_X10_isUsual
  | 2 => sp_X3_allow
  | _ => fun _ _ _ => False
def x_X10_put : dm_X := dm_mk [(87, 10, 9)] [] [] [(193, 0, 1, 3), (98, 1, 1, 1000), (196, 2, 3, 3)] 3
set_option maxRecDepth 100000 in
set_option maxHeartbeats 400000 in
theorem u_X10_put : dm_Pure shC x_X10_put k_X10_put p_X10_put 5 sp_X10_put := by
  intro As u Qp h
  unfold sp_X10_put at h
  split at h
  · refine ⟨Nat.le_of_ble_eq_true rfl, fun G Wp hW0 hW1 hG => ?_⟩
    apply hG (fun _ => false) 24
    simp (config := { maxSteps := 2000000 }) [hW0, hW1, dm_fn, dm_fd, dm_x, dm_L0, dm_la, dm_t1, dm_sw, List.headD, dm_ic, dm_mk, dm_s1, dm_s2, dm_clr, dm_cs, dm_cc, dm_nb0, dm_nb1, Value.category, List.lookup, p_X10_put, x_X10_put, k_X10_put, dm_cm, upd, vp_updL, dm_ui_1, dm_ui_2, dm_ul_1, dm_ul_2, sp_X3_has, sp_X10_isUsual, sp_X3_allow, sC_0, sC_1, sC_2, sC_3, sC_4, sC_5, sC_6, sC_7, sC_8, sC_9, sC_10, sC_11, sC_12, sC_13, sC_14, sC_15, sC_16, sC_17, sC_18, sC_19, sC_20, sC_21, sC_22, sC_23, sC_24, sC_25, sC_26, sC_27, sC_28, sC_29, sC_30, sC_31, sC_32, sC_33, sC_34, sC_35, sC_36, sC_37, sC_38, sC_39, sC_40, sC_41, sC_42, sC_43, sC_44, sC_45, sC_46, sC_47, sC_48, sC_49, sC_50, sC_51]
    obtain ⟨h1, h2⟩ := h
    exact ⟨fun q => h2 (fun z => dm_i_lt.mpr (q z.1.1) z.1.2), fun a1 a2 => ⟨fun q => h2 (fun z => dm_i_lt.mpr (q z.2.1.1) z.2.1.2), fun b1 b2 => ⟨fun d1 d2 => h1 ⟨⟨a1, a2⟩, ⟨b1, b2⟩, d1, d2⟩, fun q => h2 (fun z => dm_l_le.mpr (q z.2.2.1) z.2.2.2)⟩⟩⟩
  · exact h.elim
set_option maxRecDepth 100000 in
theorem t_X10_put (l : Launch) (D : va_G) (cA : Nat → ClassId) (ad : Nat → Nat) : dm_Met l D dm_cl cA ad shC yX10_put (Cond.code yX10_put cX10_put 5 (dm_rt 3) :: dm_tt) ({ frames := 1, cells := 0, slots := 0, locals := 24 } : Room) sp_X10_put := dm_meth (own := RX10) (X := x_X10_put) (Sp := k_X10_put) (prog := p_X10_put) (by decide +kernel) rfl rfl (dm_FO_s ffX10 [(87, 10, 9)] rfl dm_hT (by decide +kernel)) (dm_IO_s ifX10 jfX10 [] [] rfl rfl dm_hT (by decide +kernel) (by decide +kernel)) soC (dm_MO_of (List.forall_mem_cons.mpr ⟨dm_M1_of (t_X3_has l D cA ad) dm_hT (dm_mem [897, 76, 894] (by decide +kernel) (by decide +kernel)) (by decide) (by decide +kernel) (Or.inr ⟨by decide, dm_mem [895, 896] (by decide +kernel) (by decide +kernel), rfl⟩), List.forall_mem_cons.mpr ⟨dm_M1_of (t_X10_isUsual l D cA ad) dm_hT (dm_mem [470, 66, 468] (by decide +kernel) (by decide +kernel)) (by decide) (by decide +kernel) (Or.inl ⟨rfl, dm_mem (ws := [.static yX10_isUsual]) [469] (by decide +kernel) (by decide +kernel) _ List.mem_cons_self⟩), List.forall_mem_cons.mpr ⟨dm_M1_of (t_X3_allow l D cA ad) dm_hT (dm_mem [901, 76, 898] (by decide +kernel) (by decide +kernel)) (by decide) (by decide +kernel) (Or.inr ⟨by decide, dm_mem [899, 900] (by decide +kernel) (by decide +kernel), rfl⟩), fun _ h => absurd h List.not_mem_nil⟩⟩⟩)) v_X10_put u_X10_put
