/-! ===== the reference: potential, span ===== -/
def sp_X11_potential (As : List Value) (u : dm_S) (Q : Option Value → dm_S → Prop) : Prop := match As with
  | [.ref 0, .int x] => (¬ (u.1 0 10 = 0 ∧ 0 ≤ x ∧ x < u.1 0 0) → Q (some (.long 1)) u) ∧ (u.1 0 10 = 0 ∧ 0 ≤ x ∧ x < u.1 0 0 → ∃ (A : AN) (f U : Nat → Int) (v : Nat), ds_ok u A f U (-1) ∧ (v < A.n ∧ x = nI v) ∧ ∀ (u' : dm_S) (V : Nat → Int), ds_fr u u' → FV u' A.n V → dI A.n (2 * A.M) (wb A.fr A.tr) (we A.fr A.tr) (A.yc f) (yn A f (-1)) (ys (-1)) V → dR (2 * A.M) (wb A.fr A.tr) (we A.fr A.tr) (A.yc f) (yn A f (-1)) V → Q (some (.long (lI (V v)))) u')
  | _ => False
def p_X11_potential : List dm_I := [(0, .aload_n 0, 1, [0]), (1, .getfield 99, 3, []), (4, .ifCond .ne 11, 3, [15]), (7, .aload_n 0, 1, [0]), (8, .iload_n 1, 1, [1]), (9, .invokevirtual 126, 3, []), (12, .ifCond .ne 5, 3, [17]), (15, .lconst 1, 1, []), (16, .lreturn, 1, []), (17, .aload_n 0, 1, [0]), (18, .iconst (-1), 1, []), (19, .iconst (-1), 1, []), (20, .invokevirtual 215, 3, []), (23, .aload_n 0, 1, [0]), (24, .getfield 65, 3, []), (27, .iload_n 1, 1, [1]), (28, .laload, 1, []), (29, .lreturn, 1, [])]
set_option maxRecDepth 100000 in
theorem v_X11_potential : p_X11_potential.all (dm_vb cX11_potential) = true := by decide +kernel
def k_X11_potential : dm_Sp := fun a => match a with
  | 0 => sp_X11_isNode
  | 1 => sp_X11_distances
  | _ => fun _ _ _ => False
def x_X11_potential : dm_X := dm_mk [(65, 11, 25), (99, 11, 10)] [] [] [(126, 0, 1, 11), (215, 1, 2, 11)] 2
set_option maxRecDepth 100000 in
set_option maxHeartbeats 800000 in
theorem u_X11_potential : dm_Pure shM x_X11_potential k_X11_potential p_X11_potential 2 sp_X11_potential := by
  intro As u Qp hh
  unfold sp_X11_potential at hh
  split at hh
  · rename_i x
    obtain ⟨h1, h2⟩ := hh
    refine ⟨Nat.le_of_ble_eq_true rfl, fun G Wp hW0 hW1 hG => ?_⟩
    apply hG (fun _ => false) 60
    simp (config := { maxSteps := 2000000 }) [-Prod.forall, -Prod.exists, -exists_and_left, -exists_and_right, hW0, hW1, dm_fn, dm_fd, dm_x, dm_L0, dm_la, dm_t1, dm_sw, List.headD, dm_ic, dm_mk, dm_s1, dm_s2, dm_clr, dm_cs, dm_cc, dm_nb0, dm_nb1, Value.category, List.lookup, p_X11_potential, x_X11_potential, k_X11_potential, dm_cm, upd, vp_updL, dm_ui_1, dm_ui_2, dm_ul_1, dm_ul_2, sp_X11_isNode, sp_X11_distances, sM_0, sM_1, sM_2, sM_3, sM_4, sM_5, sM_6, sM_7, sM_8, sM_9, sM_10, sM_11, sM_12, sM_13, sM_14, sM_15, sM_16, sM_17, sM_18, sM_19, sM_20, sM_21, sM_22, sM_23, sM_24, sM_25, sM_26, sM_27, sM_28, sM_29]
    skip
  · exact hh.elim
set_option maxRecDepth 100000 in
theorem t_X11_potential (l : Launch) (D : va_G) (cA : Nat → ClassId) (ad : Nat → Nat) : dm_Met l D dm_cl cA ad shM yX11_potential (Cond.code yX11_potential cX11_potential 2 (dm_rt 2) :: dm_tt) ({ frames := 2, cells := 0, slots := 0, locals := 48 } : Room) sp_X11_potential := dm_meth (own := RX11) (X := x_X11_potential) (Sp := k_X11_potential) (prog := p_X11_potential) (by decide +kernel) rfl rfl (dm_FO_s ffX11 [(65, 11, 25), (99, 11, 10)] rfl dm_hT (by decide +kernel)) (dm_IO_s ifX11 jfX11 [] [] rfl rfl dm_hT (by decide +kernel) (by decide +kernel)) soM (dm_MO_of (List.forall_mem_cons.mpr ⟨dm_M1_of (t_X11_isNode l D cA ad) dm_hT (dm_mem [1084, 77, 1081] (by decide +kernel) (by decide +kernel)) (by decide) (by decide +kernel) (Or.inr ⟨by decide, dm_mem [1083, 41] (by decide +kernel) (by decide +kernel), rfl⟩), List.forall_mem_cons.mpr ⟨dm_M1_of (t_X11_distances l D cA ad) dm_hT (dm_mem [1181, 77, 1178] (by decide +kernel) (by decide +kernel)) (by decide) (by decide +kernel) (Or.inr ⟨by decide, dm_mem [1180, 59] (by decide +kernel) (by decide +kernel), rfl⟩), fun _ h => absurd h List.not_mem_nil⟩⟩)) v_X11_potential u_X11_potential
def sp_X11_span (As : List Value) (u : dm_S) (Q : Option Value → dm_S → Prop) : Prop := match As with
  | [.ref 0, .int x, .int y] => True
  | _ => False
def p_X11_span : List dm_I := [(0, .aload_n 0, 1, [0]), (1, .getfield 99, 3, []), (4, .ifCond .ne 29, 3, [33]), (7, .aload_n 0, 1, [0]), (8, .iload_n 1, 1, [1]), (9, .invokevirtual 132, 3, []), (12, .ifCond .eq 21, 3, [33]), (15, .iload_n 2, 1, [2]), (16, .ifCond .lt 17, 3, [33]), (19, .iload_n 2, 1, [2]), (20, .iconst 1, 1, []), (21, .if_icmp .gt 12, 3, [33]), (24, .aload_n 0, 1, [0]), (25, .getfield 26, 3, []), (28, .iload_n 1, 1, [1]), (29, .iaload, 1, []), (30, .ifCond .le 7, 3, [37]), (33, .ldc2_w 231, 3, []), (36, .lreturn, 1, []), (37, .iload_n 2, 1, [2]), (38, .ifCond .ne 59, 3, [97]), (41, .aload_n 0, 1, [0]), (42, .aload_n 0, 1, [0]), (43, .getfield 17, 3, []), (46, .iload_n 1, 1, [1]), (47, .iaload, 1, []), (48, .iload_n 1, 1, [1]), (49, .invokevirtual 215, 3, []), (52, .aload_n 0, 1, [0]), (53, .iload_n 1, 1, [1]), (54, .invokevirtual 209, 3, []), (57, .ifCond .eq 36, 3, [93]), (60, .aload_n 0, 1, [0]), (61, .getfield 65, 3, []), (64, .aload_n 0, 1, [0]), (65, .getfield 13, 3, []), (68, .iload_n 1, 1, [1]), (69, .iaload, 1, []), (70, .laload, 1, []), (71, .ldc2_w 152, 3, []), (74, .lcmp, 1, []), (75, .ifCond .ge 18, 3, [93]), (78, .aload_n 0, 1, [0]), (79, .getfield 65, 3, []), (82, .aload_n 0, 1, [0]), (83, .getfield 13, 3, []), (86, .iload_n 1, 1, [1]), (87, .iaload, 1, []), (88, .laload, 1, []), (89, .lneg, 1, []), (90, .goto 6, 3, [96]), (93, .ldc2_w 233, 3, []), (96, .lreturn, 1, []), (97, .aload_n 0, 1, [0]), (98, .aload_n 0, 1, [0]), (99, .getfield 13, 3, []), (102, .iload_n 1, 1, [1]), (103, .iaload, 1, []), (104, .iload_n 1, 1, [1]), (105, .invokevirtual 215, 3, []), (108, .aload_n 0, 1, [0]), (109, .getfield 35, 3, []), (112, .iload_n 1, 1, [1]), (113, .laload, 1, []), (114, .aload_n 0, 1, [0]), (115, .getfield 20, 3, []), (118, .iload_n 1, 1, [1]), (119, .laload, 1, []), (120, .lcmp, 1, []), (121, .ifCond .le 35, 3, [156]), (124, .aload_n 0, 1, [0]), (125, .getfield 65, 3, []), (128, .aload_n 0, 1, [0]), (129, .getfield 17, 3, []), (132, .iload_n 1, 1, [1]), (133, .iaload, 1, []), (134, .laload, 1, []), (135, .ldc2_w 152, 3, []), (138, .lcmp, 1, []), (139, .ifCond .ge 17, 3, [156]), (142, .aload_n 0, 1, [0]), (143, .getfield 65, 3, []), (146, .aload_n 0, 1, [0]), (147, .getfield 17, 3, []), (150, .iload_n 1, 1, [1]), (151, .iaload, 1, []), (152, .laload, 1, []), (153, .goto 6, 3, [159]), (156, .ldc2_w 233, 3, []), (159, .lreturn, 1, [])]
set_option maxRecDepth 100000 in
theorem v_X11_span : p_X11_span.all (dm_vb cX11_span) = true := by decide +kernel
def k_X11_span : dm_Sp := fun a => match a with
  | 0 => sp_X11_isArc
  | 1 => sp_X11_distances
  | 2 => sp_X11_canGrow
  | _ => fun _ _ _ => False
def x_X11_span : dm_X := dm_mk [(13, 11, 3), (17, 11, 4), (20, 11, 5), (26, 11, 7), (35, 11, 11), (65, 11, 25), (99, 11, 10)] [] [(152, 1152921504606846976), (231, -1000000001), (233, -1000000002)] [(132, 0, 1, 11), (215, 1, 2, 11), (209, 2, 1, 11)] 2
set_option maxRecDepth 100000 in
set_option maxHeartbeats 1600000 in
theorem u_X11_span : dm_Pure shM x_X11_span k_X11_span p_X11_span 3 sp_X11_span := by
  intro As u Qp hh
  unfold sp_X11_span at hh
  split at hh
  · rename_i x y
    refine ⟨Nat.le_of_ble_eq_true rfl, fun G Wp hW0 hW1 hG => ?_⟩
    apply hG (fun _ => false) 80
    simp (config := { maxSteps := 2000000 }) [-Prod.forall, -Prod.exists, -exists_and_left, -exists_and_right, hW0, hW1, dm_fn, dm_fd, dm_x, dm_L0, dm_la, dm_t1, dm_sw, List.headD, dm_ic, dm_mk, dm_s1, dm_s2, dm_clr, dm_cs, dm_cc, dm_nb0, dm_nb1, Value.category, List.lookup, p_X11_span, x_X11_span, k_X11_span, dm_cm, upd, vp_updL, dm_ui_1, dm_ui_2, dm_ul_1, dm_ul_2, sp_X11_isArc, sp_X11_distances, sp_X11_canGrow, sM_0, sM_1, sM_2, sM_3, sM_4, sM_5, sM_6, sM_7, sM_8, sM_9, sM_10, sM_11, sM_12, sM_13, sM_14, sM_15, sM_16, sM_17, sM_18, sM_19, sM_20, sM_21, sM_22, sM_23, sM_24, sM_25, sM_26, sM_27, sM_28, sM_29]
    skip
  · exact hh.elim
def sp_X11_piece (As : List Value) (u : dm_S) (Q : Option Value → dm_S → Prop) : Prop := match As with
  | [.ref 0, .int x, .long m, .long c] => True
  | _ => False
def p_X11_piece : List dm_I := [(0, .aload_n 0, 1, [0]), (1, .iload_n 1, 1, [1]), (2, .invokevirtual 132, 3, []), (5, .ifCond .eq 13, 3, [18]), (8, .aload_n 0, 1, [0]), (9, .getfield 26, 3, []), (12, .iload_n 1, 1, [1]), (13, .iaload, 1, []), (14, .iconst 3, 1, []), (15, .if_icmp .ne 5, 3, [20]), (18, .iconst (-1), 1, []), (19, .ireturn, 1, []), (20, .aload_n 0, 1, [0]), (21, .getfield 26, 3, []), (24, .iload_n 1, 1, [1]), (25, .iaload, 1, []), (26, .istore 6, 2, []), (28, .iload 6, 2, []), (30, .ifCond .le 17, 3, [47]), (33, .aload_n 0, 1, [0]), (34, .getfield 32, 3, []), (37, .iconst 4, 1, []), (38, .iload_n 1, 1, [1]), (39, .imul, 1, []), (40, .iload 6, 2, []), (42, .iadd, 1, []), (43, .laload, 1, []), (44, .goto 9, 3, [53]), (47, .aload_n 0, 1, [0]), (48, .getfield 20, 3, []), (51, .iload_n 1, 1, [1]), (52, .laload, 1, []), (53, .lstore 7, 2, []), (55, .aload_n 0, 1, [0]), (56, .getfield 23, 3, []), (59, .iload_n 1, 1, [1]), (60, .laload, 1, []), (61, .ldc2_w 130, 3, []), (64, .lcmp, 1, []), (65, .ifCond .ne 9, 3, [74]), (68, .ldc2_w 135, 3, []), (71, .goto 9, 3, [80]), (74, .aload_n 0, 1, [0]), (75, .getfield 23, 3, []), (78, .iload_n 1, 1, [1]), (79, .laload, 1, []), (80, .lstore 9, 2, []), (82, .lload_n 2, 1, [2]), (83, .lload 7, 2, []), (85, .lcmp, 1, []), (86, .ifCond .le 36, 3, [122]), (89, .lload_n 2, 1, [2]), (90, .lload 9, 2, []), (92, .lcmp, 1, []), (93, .ifCond .ge 29, 3, [122]), (96, .lload 4, 2, []), (98, .aload_n 0, 1, [0]), (99, .getfield 29, 3, []), (102, .iconst 4, 1, []), (103, .iload_n 1, 1, [1]), (104, .imul, 1, []), (105, .iload 6, 2, []), (107, .iadd, 1, []), (108, .laload, 1, []), (109, .lcmp, 1, []), (110, .ifCond .lt 12, 3, [122]), (113, .lload 4, 2, []), (115, .ldc2_w 114, 3, []), (118, .lcmp, 1, []), (119, .ifCond .le 5, 3, [124]), (122, .iconst (-1), 1, []), (123, .ireturn, 1, []), (124, .aload_n 0, 1, [0]), (125, .getfield 26, 3, []), (128, .iload_n 1, 1, [1]), (129, .dup2, 1, []), (130, .iaload, 1, []), (131, .iconst 1, 1, []), (132, .iadd, 1, []), (133, .iastore, 1, []), (134, .aload_n 0, 1, [0]), (135, .getfield 32, 3, []), (138, .iconst 4, 1, []), (139, .iload_n 1, 1, [1]), (140, .imul, 1, []), (141, .iload 6, 2, []), (143, .iadd, 1, []), (144, .iconst 1, 1, []), (145, .iadd, 1, []), (146, .lload_n 2, 1, [2]), (147, .lastore, 1, []), (148, .aload_n 0, 1, [0]), (149, .getfield 29, 3, []), (152, .iconst 4, 1, []), (153, .iload_n 1, 1, [1]), (154, .imul, 1, []), (155, .iload 6, 2, []), (157, .iadd, 1, []), (158, .iconst 1, 1, []), (159, .iadd, 1, []), (160, .lload 4, 2, []), (162, .lastore, 1, []), (163, .aload_n 0, 1, [0]), (164, .invokevirtual 120, 3, []), (167, .aload_n 0, 1, [0]), (168, .getfield 26, 3, []), (171, .iload_n 1, 1, [1]), (172, .iaload, 1, []), (173, .ireturn, 1, [])]
set_option maxRecDepth 100000 in
theorem v_X11_piece : p_X11_piece.all (dm_vb cX11_piece) = true := by decide +kernel
def k_X11_piece : dm_Sp := fun a => match a with
  | 0 => sp_X11_isArc
  | 1 => sp_X11_gone
  | _ => fun _ _ _ => False
def x_X11_piece : dm_X := dm_mk [(20, 11, 5), (23, 11, 6), (26, 11, 7), (29, 11, 8), (32, 11, 9)] [] [(114, 1000000), (130, -2), (135, 1000001)] [(132, 0, 1, 11), (120, 1, 0, 11)] 1
set_option maxRecDepth 100000 in
set_option maxHeartbeats 1600000 in
theorem u_X11_piece : dm_Pure shM x_X11_piece k_X11_piece p_X11_piece 11 sp_X11_piece := by
  intro As u Qp hh
  unfold sp_X11_piece at hh
  split at hh
  · rename_i x m c
    refine ⟨Nat.le_of_ble_eq_true rfl, fun G Wp hW0 hW1 hG => ?_⟩
    apply hG (fun pc => pc == 45 || pc == 68) 90
    simp (config := { maxSteps := 2000000 }) [-Prod.forall, -Prod.exists, -exists_and_left, -exists_and_right, hW0, hW1, dm_fn, dm_fd, dm_x, dm_L0, dm_la, dm_t1, dm_sw, List.headD, dm_ic, dm_mk, dm_s1, dm_s2, dm_clr, dm_cs, dm_cc, dm_nb0, dm_nb1, Value.category, List.lookup, p_X11_piece, x_X11_piece, k_X11_piece, dm_cm, upd, vp_updL, dm_ui_1, dm_ui_2, dm_ul_1, dm_ul_2, sp_X11_isArc, sp_X11_gone, sM_0, sM_1, sM_2, sM_3, sM_4, sM_5, sM_6, sM_7, sM_8, sM_9, sM_10, sM_11, sM_12, sM_13, sM_14, sM_15, sM_16, sM_17, sM_18, sM_19, sM_20, sM_21, sM_22, sM_23, sM_24, sM_25, sM_26, sM_27, sM_28, sM_29]
    skip
  · exact hh.elim
