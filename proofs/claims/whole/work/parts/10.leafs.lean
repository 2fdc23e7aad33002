/-! ===== leaves: methods without loops ===== -/
theorem dm_ite {P : Prop} [Decidable P] {α : Type} {a b : α} {Q : α → Prop} (h1 : P → Q a) (h2 : ¬ P → Q b) : Q (if P then a else b) := by
  by_cases h : P
  · rw [if_pos h]; exact h1 h
  · rw [if_neg h]; exact h2 h
theorem dm_i_le {x y : Int32} : (¬ x ≤ y) ↔ y < x := by rw [Int32.le_iff_toInt_le, Int32.lt_iff_toInt_lt]; omega
theorem dm_i_lt {x y : Int32} : (¬ x < y) ↔ y ≤ x := by rw [Int32.le_iff_toInt_le, Int32.lt_iff_toInt_lt]; omega
theorem dm_l_le {x y : Int64} : (¬ x ≤ y) ↔ y < x := by rw [Int64.le_iff_toInt_le, Int64.lt_iff_toInt_lt]; omega
theorem dm_l_lt {x y : Int64} : (¬ x < y) ↔ y ≤ x := by rw [Int64.le_iff_toInt_le, Int64.lt_iff_toInt_lt]; omega
def dm_b (P : Bool) : Int32 := if P then 1 else 0
def sp_J9_min_f86c9 (As : List Value) (u : dm_S) (Q : Option Value → dm_S → Prop) : Prop := match As with
  | [.long a, .long b] => Q (some (.long (if a ≤ b then a else b))) u
  | _ => False
def p_J9_min_f86c9 : List dm_I := [(0, .lload_n 0, 1, [0]), (1, .lload_n 2, 1, [2]), (2, .lcmp, 1, []), (3, .ifCond .gt 7, 3, [10]), (6, .lload_n 0, 1, [0]), (7, .goto 4, 3, [11]), (10, .lload_n 2, 1, [2]), (11, .lreturn, 1, [])]
set_option maxRecDepth 100000 in
theorem v_J9_min_f86c9 : p_J9_min_f86c9.all (dm_vb cJ9_min_f86c9) = true := by decide +kernel
def k_J9_min_f86c9 : dm_Sp := fun a => match a with
  | _ => fun _ _ _ => False
def x_J9_min_f86c9 : dm_X := dm_mk [] [] [] [] 2
set_option maxRecDepth 100000 in
set_option maxHeartbeats 400000 in
theorem u_J9_min_f86c9 : dm_Pure shC x_J9_min_f86c9 k_J9_min_f86c9 p_J9_min_f86c9 4 sp_J9_min_f86c9 := by
  intro As u Qp h
  unfold sp_J9_min_f86c9 at h
  split at h
  · refine ⟨Nat.le_of_ble_eq_true rfl, fun G Wp hW0 hW1 hG => ?_⟩
    apply hG (fun _ => false) 9
    simp (config := { maxSteps := 2000000 }) [hW0, hW1, dm_fn, dm_fd, dm_x, dm_L0, dm_la, dm_t1, dm_sw, List.headD, dm_ic, dm_mk, dm_s1, dm_s2, dm_clr, dm_cs, dm_cc, dm_nb0, dm_nb1, Value.category, List.lookup, p_J9_min_f86c9, x_J9_min_f86c9, k_J9_min_f86c9, dm_cm, upd, vp_updL, dm_ui_1, dm_ui_2, dm_ul_1, dm_ul_2, sC_0, sC_1, sC_2, sC_3, sC_4, sC_5, sC_6, sC_7, sC_8, sC_9, sC_10, sC_11, sC_12, sC_13, sC_14, sC_15, sC_16, sC_17, sC_18, sC_19, sC_20, sC_21, sC_22, sC_23, sC_24, sC_25, sC_26, sC_27, sC_28, sC_29, sC_30, sC_31, sC_32, sC_33, sC_34, sC_35, sC_36, sC_37, sC_38, sC_39, sC_40, sC_41, sC_42, sC_43, sC_44, sC_45, sC_46, sC_47, sC_48, sC_49, sC_50, sC_51]
    refine ⟨fun q => ?_, fun q => ?_⟩
    · rw [if_neg (dm_l_le.mpr q)] at h; exact h
    · rw [if_pos q] at h; exact h
  · exact h.elim
set_option maxRecDepth 100000 in
theorem t_J9_min_f86c9 (l : Launch) (D : va_G) (cA : Nat → ClassId) (ad : Nat → Nat) : dm_Met l D dm_cl cA ad shC yJ9_min_f86c9 (Cond.code yJ9_min_f86c9 cJ9_min_f86c9 4 (dm_rt 2) :: dm_tt) ({ frames := 0, cells := 0, slots := 0, locals := 0 } : Room) sp_J9_min_f86c9 := dm_meth (own := RJ9) (X := x_J9_min_f86c9) (Sp := k_J9_min_f86c9) (prog := p_J9_min_f86c9) (by decide +kernel) rfl rfl (dm_FO_s ffJ9 [] rfl dm_hT (by decide +kernel)) (dm_IO_s ifJ9 jfJ9 [] [] rfl rfl dm_hT (by decide +kernel) (by decide +kernel)) soC (dm_MO_of (fun _ h => absurd h List.not_mem_nil)) v_J9_min_f86c9 u_J9_min_f86c9
def sp_X2_hasNode (As : List Value) (u : dm_S) (Q : Option Value → dm_S → Prop) : Prop := match As with
  | [.ref 1, .int x] => Q (some (.int (if 0 ≤ x ∧ x < u.1 1 8 then 1 else 0))) u
  | _ => False
def p_X2_hasNode : List dm_I := [(0, .iload_n 1, 1, [1]), (1, .ifCond .lt 15, 3, [16]), (4, .iload_n 1, 1, [1]), (5, .aload_n 0, 1, [0]), (6, .getfield 38, 3, []), (9, .if_icmp .ge 7, 3, [16]), (12, .iconst 1, 1, []), (13, .goto 4, 3, [17]), (16, .iconst 0, 1, []), (17, .ireturn, 1, [])]
set_option maxRecDepth 100000 in
theorem v_X2_hasNode : p_X2_hasNode.all (dm_vb cX2_hasNode) = true := by decide +kernel
def k_X2_hasNode : dm_Sp := fun a => match a with
  | _ => fun _ _ _ => False
def x_X2_hasNode : dm_X := dm_mk [(38, 2, 8)] [] [] [] 3
set_option maxRecDepth 100000 in
set_option maxHeartbeats 400000 in
theorem u_X2_hasNode : dm_Pure shC x_X2_hasNode k_X2_hasNode p_X2_hasNode 2 sp_X2_hasNode := by
  intro As u Qp h
  unfold sp_X2_hasNode at h
  split at h
  · refine ⟨Nat.le_of_ble_eq_true rfl, fun G Wp hW0 hW1 hG => ?_⟩
    apply hG (fun _ => false) 11
    simp (config := { maxSteps := 2000000 }) [hW0, hW1, dm_fn, dm_fd, dm_x, dm_L0, dm_la, dm_t1, dm_sw, List.headD, dm_ic, dm_mk, dm_s1, dm_s2, dm_clr, dm_cs, dm_cc, dm_nb0, dm_nb1, Value.category, List.lookup, p_X2_hasNode, x_X2_hasNode, k_X2_hasNode, dm_cm, upd, vp_updL, dm_ui_1, dm_ui_2, dm_ul_1, dm_ul_2, sC_0, sC_1, sC_2, sC_3, sC_4, sC_5, sC_6, sC_7, sC_8, sC_9, sC_10, sC_11, sC_12, sC_13, sC_14, sC_15, sC_16, sC_17, sC_18, sC_19, sC_20, sC_21, sC_22, sC_23, sC_24, sC_25, sC_26, sC_27, sC_28, sC_29, sC_30, sC_31, sC_32, sC_33, sC_34, sC_35, sC_36, sC_37, sC_38, sC_39, sC_40, sC_41, sC_42, sC_43, sC_44, sC_45, sC_46, sC_47, sC_48, sC_49, sC_50, sC_51]
    refine ⟨fun q => ?_, fun q => ⟨fun q2 => ?_, fun q2 => ?_⟩⟩
    · rw [if_neg (fun z => dm_i_le.mpr q z.1)] at h; exact h
    · rw [if_neg (fun z => dm_i_lt.mpr q2 z.2)] at h; exact h
    · rw [if_pos ⟨q, q2⟩] at h; exact h
  · exact h.elim
set_option maxRecDepth 100000 in
theorem t_X2_hasNode (l : Launch) (D : va_G) (cA : Nat → ClassId) (ad : Nat → Nat) : dm_Met l D dm_cl cA ad shC yX2_hasNode (Cond.code yX2_hasNode cX2_hasNode 2 (dm_rt 3) :: dm_tt) ({ frames := 0, cells := 0, slots := 0, locals := 0 } : Room) sp_X2_hasNode := dm_meth (own := RX2) (X := x_X2_hasNode) (Sp := k_X2_hasNode) (prog := p_X2_hasNode) (by decide +kernel) rfl rfl (dm_FO_s ffX2 [(38, 2, 8)] rfl dm_hT (by decide +kernel)) (dm_IO_s ifX2 jfX2 [] [] rfl rfl dm_hT (by decide +kernel) (by decide +kernel)) soC (dm_MO_of (fun _ h => absurd h List.not_mem_nil)) v_X2_hasNode u_X2_hasNode
def sp_X2_hasArc (As : List Value) (u : dm_S) (Q : Option Value → dm_S → Prop) : Prop := match As with
  | [.ref 1, .int x] => Q (some (.int (if 0 ≤ x ∧ x < u.1 1 9 then 1 else 0))) u
  | _ => False
def p_X2_hasArc : List dm_I := [(0, .iload_n 1, 1, [1]), (1, .ifCond .lt 15, 3, [16]), (4, .iload_n 1, 1, [1]), (5, .aload_n 0, 1, [0]), (6, .getfield 42, 3, []), (9, .if_icmp .ge 7, 3, [16]), (12, .iconst 1, 1, []), (13, .goto 4, 3, [17]), (16, .iconst 0, 1, []), (17, .ireturn, 1, [])]
set_option maxRecDepth 100000 in
theorem v_X2_hasArc : p_X2_hasArc.all (dm_vb cX2_hasArc) = true := by decide +kernel
def k_X2_hasArc : dm_Sp := fun a => match a with
  | _ => fun _ _ _ => False
def x_X2_hasArc : dm_X := dm_mk [(42, 2, 9)] [] [] [] 3
set_option maxRecDepth 100000 in
set_option maxHeartbeats 400000 in
theorem u_X2_hasArc : dm_Pure shC x_X2_hasArc k_X2_hasArc p_X2_hasArc 2 sp_X2_hasArc := by
  intro As u Qp h
  unfold sp_X2_hasArc at h
  split at h
  · refine ⟨Nat.le_of_ble_eq_true rfl, fun G Wp hW0 hW1 hG => ?_⟩
    apply hG (fun _ => false) 11
    simp (config := { maxSteps := 2000000 }) [hW0, hW1, dm_fn, dm_fd, dm_x, dm_L0, dm_la, dm_t1, dm_sw, List.headD, dm_ic, dm_mk, dm_s1, dm_s2, dm_clr, dm_cs, dm_cc, dm_nb0, dm_nb1, Value.category, List.lookup, p_X2_hasArc, x_X2_hasArc, k_X2_hasArc, dm_cm, upd, vp_updL, dm_ui_1, dm_ui_2, dm_ul_1, dm_ul_2, sC_0, sC_1, sC_2, sC_3, sC_4, sC_5, sC_6, sC_7, sC_8, sC_9, sC_10, sC_11, sC_12, sC_13, sC_14, sC_15, sC_16, sC_17, sC_18, sC_19, sC_20, sC_21, sC_22, sC_23, sC_24, sC_25, sC_26, sC_27, sC_28, sC_29, sC_30, sC_31, sC_32, sC_33, sC_34, sC_35, sC_36, sC_37, sC_38, sC_39, sC_40, sC_41, sC_42, sC_43, sC_44, sC_45, sC_46, sC_47, sC_48, sC_49, sC_50, sC_51]
    refine ⟨fun q => ?_, fun q => ⟨fun q2 => ?_, fun q2 => ?_⟩⟩
    · rw [if_neg (fun z => dm_i_le.mpr q z.1)] at h; exact h
    · rw [if_neg (fun z => dm_i_lt.mpr q2 z.2)] at h; exact h
    · rw [if_pos ⟨q, q2⟩] at h; exact h
  · exact h.elim
set_option maxRecDepth 100000 in
theorem t_X2_hasArc (l : Launch) (D : va_G) (cA : Nat → ClassId) (ad : Nat → Nat) : dm_Met l D dm_cl cA ad shC yX2_hasArc (Cond.code yX2_hasArc cX2_hasArc 2 (dm_rt 3) :: dm_tt) ({ frames := 0, cells := 0, slots := 0, locals := 0 } : Room) sp_X2_hasArc := dm_meth (own := RX2) (X := x_X2_hasArc) (Sp := k_X2_hasArc) (prog := p_X2_hasArc) (by decide +kernel) rfl rfl (dm_FO_s ffX2 [(42, 2, 9)] rfl dm_hT (by decide +kernel)) (dm_IO_s ifX2 jfX2 [] [] rfl rfl dm_hT (by decide +kernel) (by decide +kernel)) soC (dm_MO_of (fun _ h => absurd h List.not_mem_nil)) v_X2_hasArc u_X2_hasArc
def sp_X2_lastPart (As : List Value) (u : dm_S) (Q : Option Value → dm_S → Prop) : Prop := match As with
  | [.ref 1, .int a] => vp_in a 80 ∧ Q (some (.int (a * 4 + u.1 16 a.toNatClampNeg - 1))) u
  | _ => False
def p_X2_lastPart : List dm_I := [(0, .iload_n 1, 1, [1]), (1, .iconst 4, 1, []), (2, .imul, 1, []), (3, .aload_n 0, 1, [0]), (4, .getfield 29, 3, []), (7, .iload_n 1, 1, [1]), (8, .iaload, 1, []), (9, .iadd, 1, []), (10, .iconst 1, 1, []), (11, .isub, 1, []), (12, .ireturn, 1, [])]
set_option maxRecDepth 100000 in
theorem v_X2_lastPart : p_X2_lastPart.all (dm_vb cX2_lastPart) = true := by decide +kernel
def k_X2_lastPart : dm_Sp := fun a => match a with
  | _ => fun _ _ _ => False
def x_X2_lastPart : dm_X := dm_mk [(29, 2, 5)] [] [] [] 1
set_option maxRecDepth 100000 in
set_option maxHeartbeats 400000 in
theorem u_X2_lastPart : dm_Pure shC x_X2_lastPart k_X2_lastPart p_X2_lastPart 2 sp_X2_lastPart := by
  intro As u Qp h
  unfold sp_X2_lastPart at h
  split at h
  · refine ⟨Nat.le_of_ble_eq_true rfl, fun G Wp hW0 hW1 hG => ?_⟩
    apply hG (fun _ => false) 12
    simp (config := { maxSteps := 2000000 }) [hW0, hW1, dm_fn, dm_fd, dm_x, dm_L0, dm_la, dm_t1, dm_sw, List.headD, dm_ic, dm_mk, dm_s1, dm_s2, dm_clr, dm_cs, dm_cc, dm_nb0, dm_nb1, Value.category, List.lookup, p_X2_lastPart, x_X2_lastPart, k_X2_lastPart, dm_cm, upd, vp_updL, dm_ui_1, dm_ui_2, dm_ul_1, dm_ul_2, sC_0, sC_1, sC_2, sC_3, sC_4, sC_5, sC_6, sC_7, sC_8, sC_9, sC_10, sC_11, sC_12, sC_13, sC_14, sC_15, sC_16, sC_17, sC_18, sC_19, sC_20, sC_21, sC_22, sC_23, sC_24, sC_25, sC_26, sC_27, sC_28, sC_29, sC_30, sC_31, sC_32, sC_33, sC_34, sC_35, sC_36, sC_37, sC_38, sC_39, sC_40, sC_41, sC_42, sC_43, sC_44, sC_45, sC_46, sC_47, sC_48, sC_49, sC_50, sC_51]
    exact h
  · exact h.elim
set_option maxRecDepth 100000 in
theorem t_X2_lastPart (l : Launch) (D : va_G) (cA : Nat → ClassId) (ad : Nat → Nat) : dm_Met l D dm_cl cA ad shC yX2_lastPart (Cond.code yX2_lastPart cX2_lastPart 2 (dm_rt 1) :: dm_tt) ({ frames := 0, cells := 0, slots := 0, locals := 0 } : Room) sp_X2_lastPart := dm_meth (own := RX2) (X := x_X2_lastPart) (Sp := k_X2_lastPart) (prog := p_X2_lastPart) (by decide +kernel) rfl rfl (dm_FO_s ffX2 [(29, 2, 5)] rfl dm_hT (by decide +kernel)) (dm_IO_s ifX2 jfX2 [] [] rfl rfl dm_hT (by decide +kernel) (by decide +kernel)) soC (dm_MO_of (fun _ h => absurd h List.not_mem_nil)) v_X2_lastPart u_X2_lastPart
def sp_X2_isPlain (As : List Value) (u : dm_S) (Q : Option Value → dm_S → Prop) : Prop := match As with
  | [.ref 1, .int x] => (0 ≤ x ∧ x < u.1 1 9 → vp_in x 80) ∧ Q (some (.int (if (0 ≤ x ∧ x < u.1 1 9) ∧ u.1 16 x.toNatClampNeg = 1 then 1 else 0))) u
  | _ => False
def p_X2_isPlain : List dm_I := [(0, .aload_n 0, 1, [0]), (1, .iload_n 1, 1, [1]), (2, .invokevirtual 45, 3, []), (5, .ifCond .eq 17, 3, [22]), (8, .aload_n 0, 1, [0]), (9, .getfield 29, 3, []), (12, .iload_n 1, 1, [1]), (13, .iaload, 1, []), (14, .iconst 1, 1, []), (15, .if_icmp .ne 7, 3, [22]), (18, .iconst 1, 1, []), (19, .goto 4, 3, [23]), (22, .iconst 0, 1, []), (23, .ireturn, 1, [])]
set_option maxRecDepth 100000 in
theorem v_X2_isPlain : p_X2_isPlain.all (dm_vb cX2_isPlain) = true := by decide +kernel
def k_X2_isPlain : dm_Sp := fun a => match a with
  | 0 => sp_X2_hasArc
  | _ => fun _ _ _ => False
def x_X2_isPlain : dm_X := dm_mk [(29, 2, 5)] [] [] [(45, 0, 1, 2)] 3
set_option maxRecDepth 100000 in
set_option maxHeartbeats 400000 in
theorem u_X2_isPlain : dm_Pure shC x_X2_isPlain k_X2_isPlain p_X2_isPlain 2 sp_X2_isPlain := by
  intro As u Qp h
  unfold sp_X2_isPlain at h
  split at h
  · refine ⟨Nat.le_of_ble_eq_true rfl, fun G Wp hW0 hW1 hG => ?_⟩
    apply hG (fun _ => false) 15
    simp (config := { maxSteps := 2000000 }) [hW0, hW1, dm_fn, dm_fd, dm_x, dm_L0, dm_la, dm_t1, dm_sw, List.headD, dm_ic, dm_mk, dm_s1, dm_s2, dm_clr, dm_cs, dm_cc, dm_nb0, dm_nb1, Value.category, List.lookup, p_X2_isPlain, x_X2_isPlain, k_X2_isPlain, dm_cm, upd, vp_updL, dm_ui_1, dm_ui_2, dm_ul_1, dm_ul_2, sp_X2_hasArc, sC_0, sC_1, sC_2, sC_3, sC_4, sC_5, sC_6, sC_7, sC_8, sC_9, sC_10, sC_11, sC_12, sC_13, sC_14, sC_15, sC_16, sC_17, sC_18, sC_19, sC_20, sC_21, sC_22, sC_23, sC_24, sC_25, sC_26, sC_27, sC_28, sC_29, sC_30, sC_31, sC_32, sC_33, sC_34, sC_35, sC_36, sC_37, sC_38, sC_39, sC_40, sC_41, sC_42, sC_43, sC_44, sC_45, sC_46, sC_47, sC_48, sC_49, sC_50, sC_51]
    obtain ⟨h1, h2⟩ := h
    refine ⟨fun q => ?_, fun q1 q2 => ⟨h1 ⟨q1, q2⟩, fun q3 => ?_, fun q3 => ?_⟩⟩
    · rw [if_neg (fun z => dm_i_lt.mpr (q z.1.1) z.1.2)] at h2; exact h2
    · rw [if_neg (fun z => q3 z.2)] at h2; exact h2
    · rw [if_pos ⟨⟨q1, q2⟩, q3⟩] at h2; exact h2
  · exact h.elim
set_option maxRecDepth 100000 in
theorem t_X2_isPlain (l : Launch) (D : va_G) (cA : Nat → ClassId) (ad : Nat → Nat) : dm_Met l D dm_cl cA ad shC yX2_isPlain (Cond.code yX2_isPlain cX2_isPlain 2 (dm_rt 3) :: dm_tt) ({ frames := 1, cells := 0, slots := 0, locals := 21 } : Room) sp_X2_isPlain := dm_meth (own := RX2) (X := x_X2_isPlain) (Sp := k_X2_isPlain) (prog := p_X2_isPlain) (by decide +kernel) rfl rfl (dm_FO_s ffX2 [(29, 2, 5)] rfl dm_hT (by decide +kernel)) (dm_IO_s ifX2 jfX2 [] [] rfl rfl dm_hT (by decide +kernel) (by decide +kernel)) soC (dm_MO_of (List.forall_mem_cons.mpr ⟨dm_M1_of (t_X2_hasArc l D cA ad) dm_hT (dm_mem [503, 67, 530] (by decide +kernel) (by decide +kernel)) (by decide) (by decide +kernel) (Or.inr ⟨by decide, dm_mem [501, 502] (by decide +kernel) (by decide +kernel), rfl⟩), fun _ h => absurd h List.not_mem_nil⟩)) v_X2_isPlain u_X2_isPlain
def sp_X2_addNode (As : List Value) (u : dm_S) (Q : Option Value → dm_S → Prop) : Prop := match As with
  | [.ref 1, .long a] => vp_in (u.1 1 8) 24 ∧ Q (some (.int (u.1 1 8))) (dm_ui (dm_ul u 11 (u.1 1 8).toNatClampNeg a) 1 8 (u.1 1 8 + 1))
  | _ => False
def p_X2_addNode : List dm_I := [(0, .aload_n 0, 1, [0]), (1, .getfield 9, 3, []), (4, .aload_n 0, 1, [0]), (5, .getfield 38, 3, []), (8, .lload_n 1, 1, [1]), (9, .lastore, 1, []), (10, .aload_n 0, 1, [0]), (11, .dup, 1, []), (12, .getfield 38, 3, []), (15, .iconst 1, 1, []), (16, .iadd, 1, []), (17, .putfield 38, 3, []), (20, .aload_n 0, 1, [0]), (21, .getfield 38, 3, []), (24, .iconst 1, 1, []), (25, .isub, 1, []), (26, .ireturn, 1, [])]
set_option maxRecDepth 100000 in
theorem v_X2_addNode : p_X2_addNode.all (dm_vb cX2_addNode) = true := by decide +kernel
def k_X2_addNode : dm_Sp := fun a => match a with
  | _ => fun _ _ _ => False
def x_X2_addNode : dm_X := dm_mk [(9, 2, 0), (38, 2, 8)] [] [] [] 1
set_option maxRecDepth 100000 in
set_option maxHeartbeats 400000 in
theorem u_X2_addNode : dm_Pure shC x_X2_addNode k_X2_addNode p_X2_addNode 3 sp_X2_addNode := by
  intro As u Qp h
  unfold sp_X2_addNode at h
  split at h
  · refine ⟨Nat.le_of_ble_eq_true rfl, fun G Wp hW0 hW1 hG => ?_⟩
    apply hG (fun _ => false) 18
    simp (config := { maxSteps := 2000000 }) [hW0, hW1, dm_fn, dm_fd, dm_x, dm_L0, dm_la, dm_t1, dm_sw, List.headD, dm_ic, dm_mk, dm_s1, dm_s2, dm_clr, dm_cs, dm_cc, dm_nb0, dm_nb1, Value.category, List.lookup, p_X2_addNode, x_X2_addNode, k_X2_addNode, dm_cm, upd, vp_updL, dm_ui_1, dm_ui_2, dm_ul_1, dm_ul_2, sC_0, sC_1, sC_2, sC_3, sC_4, sC_5, sC_6, sC_7, sC_8, sC_9, sC_10, sC_11, sC_12, sC_13, sC_14, sC_15, sC_16, sC_17, sC_18, sC_19, sC_20, sC_21, sC_22, sC_23, sC_24, sC_25, sC_26, sC_27, sC_28, sC_29, sC_30, sC_31, sC_32, sC_33, sC_34, sC_35, sC_36, sC_37, sC_38, sC_39, sC_40, sC_41, sC_42, sC_43, sC_44, sC_45, sC_46, sC_47, sC_48, sC_49, sC_50, sC_51]
    exact h
  · exact h.elim
set_option maxRecDepth 100000 in
theorem t_X2_addNode (l : Launch) (D : va_G) (cA : Nat → ClassId) (ad : Nat → Nat) : dm_Met l D dm_cl cA ad shC yX2_addNode (Cond.code yX2_addNode cX2_addNode 3 (dm_rt 1) :: dm_tt) ({ frames := 0, cells := 0, slots := 0, locals := 0 } : Room) sp_X2_addNode := dm_meth (own := RX2) (X := x_X2_addNode) (Sp := k_X2_addNode) (prog := p_X2_addNode) (by decide +kernel) rfl rfl (dm_FO_s ffX2 [(9, 2, 0), (38, 2, 8)] rfl dm_hT (by decide +kernel)) (dm_IO_s ifX2 jfX2 [] [] rfl rfl dm_hT (by decide +kernel) (by decide +kernel)) soC (dm_MO_of (fun _ h => absurd h List.not_mem_nil)) v_X2_addNode u_X2_addNode
def sp_X2_addArc (As : List Value) (u : dm_S) (Q : Option Value → dm_S → Prop) : Prop := match As with
  | [.ref 1, .int a, .int b, .long lo, .long mo, .long co] => vp_in (u.1 1 9) 80 ∧ vp_in (u.1 1 9 * 4) 320 ∧ Q (some (.int (u.1 1 9))) (dm_ui (dm_ul (dm_ul (dm_ui (dm_ul (dm_ui (dm_ui (dm_ui u 12 (u.1 1 9).toNatClampNeg a) 13 (u.1 1 9).toNatClampNeg b) 14 (u.1 1 9).toNatClampNeg (if mo = -2 then 1 else 0)) 15 (u.1 1 9).toNatClampNeg (if mo = -2 then 1000000000 else mo)) 16 (u.1 1 9).toNatClampNeg 1) 17 (u.1 1 9 * 4).toNatClampNeg lo) 18 (u.1 1 9 * 4).toNatClampNeg co) 1 9 (u.1 1 9 + 1))
  | _ => False
def p_X2_addArc : List dm_I := [(0, .aload_n 0, 1, [0]), (1, .getfield 15, 3, []), (4, .aload_n 0, 1, [0]), (5, .getfield 42, 3, []), (8, .iload_n 1, 1, [1]), (9, .iastore, 1, []), (10, .aload_n 0, 1, [0]), (11, .getfield 19, 3, []), (14, .aload_n 0, 1, [0]), (15, .getfield 42, 3, []), (18, .iload_n 2, 1, [2]), (19, .iastore, 1, []), (20, .aload_n 0, 1, [0]), (21, .getfield 22, 3, []), (24, .aload_n 0, 1, [0]), (25, .getfield 42, 3, []), (28, .lload 5, 2, []), (30, .ldc2_w 49, 3, []), (33, .lcmp, 1, []), (34, .ifCond .ne 7, 3, [41]), (37, .iconst 1, 1, []), (38, .goto 4, 3, [42]), (41, .iconst 0, 1, []), (42, .bastore, 1, []), (43, .aload_n 0, 1, [0]), (44, .getfield 26, 3, []), (47, .aload_n 0, 1, [0]), (48, .getfield 42, 3, []), (51, .lload 5, 2, []), (53, .ldc2_w 49, 3, []), (56, .lcmp, 1, []), (57, .ifCond .ne 9, 3, [66]), (60, .ldc2_w 51, 3, []), (63, .goto 5, 3, [68]), (66, .lload 5, 2, []), (68, .lastore, 1, []), (69, .aload_n 0, 1, [0]), (70, .getfield 29, 3, []), (73, .aload_n 0, 1, [0]), (74, .getfield 42, 3, []), (77, .iconst 1, 1, []), (78, .iastore, 1, []), (79, .aload_n 0, 1, [0]), (80, .getfield 32, 3, []), (83, .aload_n 0, 1, [0]), (84, .getfield 42, 3, []), (87, .iconst 4, 1, []), (88, .imul, 1, []), (89, .lload_n 3, 1, [3]), (90, .lastore, 1, []), (91, .aload_n 0, 1, [0]), (92, .getfield 35, 3, []), (95, .aload_n 0, 1, [0]), (96, .getfield 42, 3, []), (99, .iconst 4, 1, []), (100, .imul, 1, []), (101, .lload 7, 2, []), (103, .lastore, 1, []), (104, .aload_n 0, 1, [0]), (105, .dup, 1, []), (106, .getfield 42, 3, []), (109, .iconst 1, 1, []), (110, .iadd, 1, []), (111, .putfield 42, 3, []), (114, .aload_n 0, 1, [0]), (115, .getfield 42, 3, []), (118, .iconst 1, 1, []), (119, .isub, 1, []), (120, .ireturn, 1, [])]
set_option maxRecDepth 100000 in
theorem v_X2_addArc : p_X2_addArc.all (dm_vb cX2_addArc) = true := by decide +kernel
def k_X2_addArc : dm_Sp := fun a => match a with
  | _ => fun _ _ _ => False
def x_X2_addArc : dm_X := dm_mk [(15, 2, 1), (19, 2, 2), (22, 2, 3), (26, 2, 4), (29, 2, 5), (32, 2, 6), (35, 2, 7), (42, 2, 9)] [] [(49, -2), (51, 1000000000)] [] 1
set_option maxRecDepth 100000 in
set_option maxHeartbeats 400000 in
theorem u_X2_addArc : dm_Pure shC x_X2_addArc k_X2_addArc p_X2_addArc 9 sp_X2_addArc := by
  intro As u Qp h
  unfold sp_X2_addArc at h
  split at h
  · refine ⟨Nat.le_of_ble_eq_true rfl, fun G Wp hW0 hW1 hG => ?_⟩
    apply hG (fun _ => false) 70
    simp (config := { maxSteps := 2000000 }) [hW0, hW1, dm_fn, dm_fd, dm_x, dm_L0, dm_la, dm_t1, dm_sw, List.headD, dm_ic, dm_mk, dm_s1, dm_s2, dm_clr, dm_cs, dm_cc, dm_nb0, dm_nb1, Value.category, List.lookup, p_X2_addArc, x_X2_addArc, k_X2_addArc, dm_cm, upd, vp_updL, dm_ui_1, dm_ui_2, dm_ul_1, dm_ul_2, sC_0, sC_1, sC_2, sC_3, sC_4, sC_5, sC_6, sC_7, sC_8, sC_9, sC_10, sC_11, sC_12, sC_13, sC_14, sC_15, sC_16, sC_17, sC_18, sC_19, sC_20, sC_21, sC_22, sC_23, sC_24, sC_25, sC_26, sC_27, sC_28, sC_29, sC_30, sC_31, sC_32, sC_33, sC_34, sC_35, sC_36, sC_37, sC_38, sC_39, sC_40, sC_41, sC_42, sC_43, sC_44, sC_45, sC_46, sC_47, sC_48, sC_49, sC_50, sC_51]
    obtain ⟨h1, h2, h3⟩ := h
    refine ⟨h1, fun q => ⟨h1, fun _ => ⟨h1, h2, ?_⟩, fun q2 => absurd q2 q⟩, fun q => ⟨h1, fun q2 => absurd q q2, fun _ => ⟨h1, h2, ?_⟩⟩⟩
    · rw [if_neg q, if_neg q] at h3; simpa using h3
    · rw [if_pos q, if_pos q] at h3; simpa using h3
  · exact h.elim
set_option maxRecDepth 100000 in
theorem t_X2_addArc (l : Launch) (D : va_G) (cA : Nat → ClassId) (ad : Nat → Nat) : dm_Met l D dm_cl cA ad shC yX2_addArc (Cond.code yX2_addArc cX2_addArc 9 (dm_rt 1) :: dm_tt) ({ frames := 0, cells := 0, slots := 0, locals := 0 } : Room) sp_X2_addArc := dm_meth (own := RX2) (X := x_X2_addArc) (Sp := k_X2_addArc) (prog := p_X2_addArc) (by decide +kernel) rfl rfl (dm_FO_s ffX2 [(15, 2, 1), (19, 2, 2), (22, 2, 3), (26, 2, 4), (29, 2, 5), (32, 2, 6), (35, 2, 7), (42, 2, 9)] rfl dm_hT (by decide +kernel)) (dm_IO_s ifX2 jfX2 [] [(49, -2), (51, 1000000000)] rfl rfl dm_hT (by decide +kernel) (by decide +kernel)) soC (dm_MO_of (fun _ h => absurd h List.not_mem_nil)) v_X2_addArc u_X2_addArc
def sp_X2_takesPiece (As : List Value) (u : dm_S) (Q : Option Value → dm_S → Prop) : Prop := match As with
  | [.ref 1, .int a, .long mq, .long co] => vp_in a 80 ∧ (u.1 16 a.toNatClampNeg < 4 → vp_in (a * 4 + u.1 16 a.toNatClampNeg - 1) 320) ∧ Q (some (.int (if u.1 16 a.toNatClampNeg < 4 ∧ u.2 17 (a * 4 + u.1 16 a.toNatClampNeg - 1).toNatClampNeg < mq ∧ mq < u.2 15 a.toNatClampNeg ∧ mq ≤ 1000000 ∧ u.2 18 (a * 4 + u.1 16 a.toNatClampNeg - 1).toNatClampNeg ≤ co ∧ co ≤ 1000000 then 1 else 0))) u
  | _ => False
def p_X2_takesPiece : List dm_I := [(0, .aload_n 0, 1, [0]), (1, .getfield 29, 3, []), (4, .iload_n 1, 1, [1]), (5, .iaload, 1, []), (6, .iconst 4, 1, []), (7, .if_icmp .lt 5, 3, [12]), (10, .iconst 0, 1, []), (11, .ireturn, 1, []), (12, .aload_n 0, 1, [0]), (13, .iload_n 1, 1, [1]), (14, .invokevirtual 53, 3, []), (17, .istore 6, 2, []), (19, .lload_n 2, 1, [2]), (20, .aload_n 0, 1, [0]), (21, .getfield 32, 3, []), (24, .iload 6, 2, []), (26, .laload, 1, []), (27, .lcmp, 1, []), (28, .ifCond .le 48, 3, [76]), (31, .lload_n 2, 1, [2]), (32, .aload_n 0, 1, [0]), (33, .getfield 26, 3, []), (36, .iload_n 1, 1, [1]), (37, .laload, 1, []), (38, .lcmp, 1, []), (39, .ifCond .ge 37, 3, [76]), (42, .lload_n 2, 1, [2]), (43, .ldc2_w 57, 3, []), (46, .lcmp, 1, []), (47, .ifCond .gt 29, 3, [76]), (50, .lload 4, 2, []), (52, .aload_n 0, 1, [0]), (53, .getfield 35, 3, []), (56, .iload 6, 2, []), (58, .laload, 1, []), (59, .lcmp, 1, []), (60, .ifCond .lt 16, 3, [76]), (63, .lload 4, 2, []), (65, .ldc2_w 57, 3, []), (68, .lcmp, 1, []), (69, .ifCond .gt 7, 3, [76]), (72, .iconst 1, 1, []), (73, .goto 4, 3, [77]), (76, .iconst 0, 1, []), (77, .ireturn, 1, [])]
set_option maxRecDepth 100000 in
theorem v_X2_takesPiece : p_X2_takesPiece.all (dm_vb cX2_takesPiece) = true := by decide +kernel
def k_X2_takesPiece : dm_Sp := fun a => match a with
  | 0 => sp_X2_lastPart
  | _ => fun _ _ _ => False
def x_X2_takesPiece : dm_X := dm_mk [(26, 2, 4), (29, 2, 5), (32, 2, 6), (35, 2, 7)] [] [(57, 1000000)] [(53, 0, 1, 2)] 3
set_option maxRecDepth 100000 in
set_option maxHeartbeats 400000 in
theorem u_X2_takesPiece : dm_Pure shC x_X2_takesPiece k_X2_takesPiece p_X2_takesPiece 7 sp_X2_takesPiece := by
  intro As u Qp h
  unfold sp_X2_takesPiece at h
  split at h
  · refine ⟨Nat.le_of_ble_eq_true rfl, fun G Wp hW0 hW1 hG => ?_⟩
    apply hG (fun _ => false) 46
    simp (config := { maxSteps := 2000000 }) [hW0, hW1, dm_fn, dm_fd, dm_x, dm_L0, dm_la, dm_t1, dm_sw, List.headD, dm_ic, dm_mk, dm_s1, dm_s2, dm_clr, dm_cs, dm_cc, dm_nb0, dm_nb1, Value.category, List.lookup, p_X2_takesPiece, x_X2_takesPiece, k_X2_takesPiece, dm_cm, upd, vp_updL, dm_ui_1, dm_ui_2, dm_ul_1, dm_ul_2, sp_X2_lastPart, sC_0, sC_1, sC_2, sC_3, sC_4, sC_5, sC_6, sC_7, sC_8, sC_9, sC_10, sC_11, sC_12, sC_13, sC_14, sC_15, sC_16, sC_17, sC_18, sC_19, sC_20, sC_21, sC_22, sC_23, sC_24, sC_25, sC_26, sC_27, sC_28, sC_29, sC_30, sC_31, sC_32, sC_33, sC_34, sC_35, sC_36, sC_37, sC_38, sC_39, sC_40, sC_41, sC_42, sC_43, sC_44, sC_45, sC_46, sC_47, sC_48, sC_49, sC_50, sC_51]
    obtain ⟨h1, h2, h3⟩ := h
    refine ⟨h1, fun q1 => ⟨h1, h2 q1, fun q2 => ?_, fun q2 => ⟨h1, fun q3 => ?_, fun q3 => ⟨fun q4 => ?_, fun q4 => ⟨h2 q1, fun q5 => ?_, fun q5 => ⟨fun q6 => ?_, fun q6 => ?_⟩⟩⟩⟩⟩, fun q1 => ?_⟩
    · rw [if_neg (fun z => dm_l_lt.mpr q2 z.2.1)] at h3; exact h3
    · rw [if_neg (fun z => dm_l_lt.mpr q3 z.2.2.1)] at h3; exact h3
    · rw [if_neg (fun z => dm_l_le.mpr q4 z.2.2.2.1)] at h3; exact h3
    · rw [if_neg (fun z => dm_l_le.mpr q5 z.2.2.2.2.1)] at h3; exact h3
    · rw [if_neg (fun z => dm_l_le.mpr q6 z.2.2.2.2.2)] at h3; exact h3
    · rw [if_pos ⟨q1, q2, q3, q4, q5, q6⟩] at h3; exact h3
    · rw [if_neg (fun z => dm_i_lt.mpr q1 z.1)] at h3; exact h3
  · exact h.elim
set_option maxRecDepth 100000 in
theorem t_X2_takesPiece (l : Launch) (D : va_G) (cA : Nat → ClassId) (ad : Nat → Nat) : dm_Met l D dm_cl cA ad shC yX2_takesPiece (Cond.code yX2_takesPiece cX2_takesPiece 7 (dm_rt 3) :: dm_tt) ({ frames := 1, cells := 0, slots := 0, locals := 21 } : Room) sp_X2_takesPiece := dm_meth (own := RX2) (X := x_X2_takesPiece) (Sp := k_X2_takesPiece) (prog := p_X2_takesPiece) (by decide +kernel) rfl rfl (dm_FO_s ffX2 [(26, 2, 4), (29, 2, 5), (32, 2, 6), (35, 2, 7)] rfl dm_hT (by decide +kernel)) (dm_IO_s ifX2 jfX2 [] [(57, 1000000)] rfl rfl dm_hT (by decide +kernel) (by decide +kernel)) soC (dm_MO_of (List.forall_mem_cons.mpr ⟨dm_M1_of (t_X2_lastPart l D cA ad) dm_hT (dm_mem [511, 67, 508] (by decide +kernel) (by decide +kernel)) (by decide) (by decide +kernel) (Or.inr ⟨by decide, dm_mem [510, 1] (by decide +kernel) (by decide +kernel), rfl⟩), fun _ h => absurd h List.not_mem_nil⟩)) v_X2_takesPiece u_X2_takesPiece
def sp_X2_addPiece (As : List Value) (u : dm_S) (Q : Option Value → dm_S → Prop) : Prop := match As with
  | [.ref 1, .int a, .long mq, .long co] => vp_in a 80 ∧ vp_in (a * 4 + u.1 16 a.toNatClampNeg) 320 ∧ Q (some (.int (u.1 16 a.toNatClampNeg))) (dm_ui (dm_ui (dm_ul (dm_ul u 17 (a * 4 + u.1 16 a.toNatClampNeg).toNatClampNeg mq) 18 (a * 4 + u.1 16 a.toNatClampNeg).toNatClampNeg co) 16 a.toNatClampNeg (u.1 16 a.toNatClampNeg + 1)) 1 10 (u.1 1 10 + 1))
  | _ => False
def p_X2_addPiece : List dm_I := [(0, .aload_n 0, 1, [0]), (1, .iload_n 1, 1, [1]), (2, .invokevirtual 53, 3, []), (5, .iconst 1, 1, []), (6, .iadd, 1, []), (7, .istore 6, 2, []), (9, .aload_n 0, 1, [0]), (10, .getfield 32, 3, []), (13, .iload 6, 2, []), (15, .lload_n 2, 1, [2]), (16, .lastore, 1, []), (17, .aload_n 0, 1, [0]), (18, .getfield 35, 3, []), (21, .iload 6, 2, []), (23, .lload 4, 2, []), (25, .lastore, 1, []), (26, .aload_n 0, 1, [0]), (27, .getfield 29, 3, []), (30, .iload_n 1, 1, [1]), (31, .dup2, 1, []), (32, .iaload, 1, []), (33, .iconst 1, 1, []), (34, .iadd, 1, []), (35, .iastore, 1, []), (36, .aload_n 0, 1, [0]), (37, .dup, 1, []), (38, .getfield 59, 3, []), (41, .iconst 1, 1, []), (42, .iadd, 1, []), (43, .putfield 59, 3, []), (46, .aload_n 0, 1, [0]), (47, .getfield 29, 3, []), (50, .iload_n 1, 1, [1]), (51, .iaload, 1, []), (52, .iconst 1, 1, []), (53, .isub, 1, []), (54, .ireturn, 1, [])]
set_option maxRecDepth 100000 in
theorem v_X2_addPiece : p_X2_addPiece.all (dm_vb cX2_addPiece) = true := by decide +kernel
def k_X2_addPiece : dm_Sp := fun a => match a with
  | 0 => sp_X2_lastPart
  | _ => fun _ _ _ => False
def x_X2_addPiece : dm_X := dm_mk [(29, 2, 5), (32, 2, 6), (35, 2, 7), (59, 2, 10)] [] [] [(53, 0, 1, 2)] 1
set_option maxRecDepth 100000 in
set_option maxHeartbeats 400000 in
theorem u_X2_addPiece : dm_Pure shC x_X2_addPiece k_X2_addPiece p_X2_addPiece 7 sp_X2_addPiece := by
  intro As u Qp h
  unfold sp_X2_addPiece at h
  split at h
  · refine ⟨Nat.le_of_ble_eq_true rfl, fun G Wp hW0 hW1 hG => ?_⟩
    apply hG (fun _ => false) 38
    simp (config := { maxSteps := 2000000 }) [hW0, hW1, dm_fn, dm_fd, dm_x, dm_L0, dm_la, dm_t1, dm_sw, List.headD, dm_ic, dm_mk, dm_s1, dm_s2, dm_clr, dm_cs, dm_cc, dm_nb0, dm_nb1, Value.category, List.lookup, p_X2_addPiece, x_X2_addPiece, k_X2_addPiece, dm_cm, upd, vp_updL, dm_ui_1, dm_ui_2, dm_ul_1, dm_ul_2, sp_X2_lastPart, sC_0, sC_1, sC_2, sC_3, sC_4, sC_5, sC_6, sC_7, sC_8, sC_9, sC_10, sC_11, sC_12, sC_13, sC_14, sC_15, sC_16, sC_17, sC_18, sC_19, sC_20, sC_21, sC_22, sC_23, sC_24, sC_25, sC_26, sC_27, sC_28, sC_29, sC_30, sC_31, sC_32, sC_33, sC_34, sC_35, sC_36, sC_37, sC_38, sC_39, sC_40, sC_41, sC_42, sC_43, sC_44, sC_45, sC_46, sC_47, sC_48, sC_49, sC_50, sC_51]
    exact ⟨h.1, h.2.1, h.1, h.2.2⟩
  · exact h.elim
set_option maxRecDepth 100000 in
theorem t_X2_addPiece (l : Launch) (D : va_G) (cA : Nat → ClassId) (ad : Nat → Nat) : dm_Met l D dm_cl cA ad shC yX2_addPiece (Cond.code yX2_addPiece cX2_addPiece 7 (dm_rt 1) :: dm_tt) ({ frames := 1, cells := 0, slots := 0, locals := 21 } : Room) sp_X2_addPiece := dm_meth (own := RX2) (X := x_X2_addPiece) (Sp := k_X2_addPiece) (prog := p_X2_addPiece) (by decide +kernel) rfl rfl (dm_FO_s ffX2 [(29, 2, 5), (32, 2, 6), (35, 2, 7), (59, 2, 10)] rfl dm_hT (by decide +kernel)) (dm_IO_s ifX2 jfX2 [] [] rfl rfl dm_hT (by decide +kernel) (by decide +kernel)) soC (dm_MO_of (List.forall_mem_cons.mpr ⟨dm_M1_of (t_X2_lastPart l D cA ad) dm_hT (dm_mem [511, 67, 508] (by decide +kernel) (by decide +kernel)) (by decide) (by decide +kernel) (Or.inr ⟨by decide, dm_mem [510, 1] (by decide +kernel) (by decide +kernel), rfl⟩), fun _ h => absurd h List.not_mem_nil⟩)) v_X2_addPiece u_X2_addPiece
def sp_X2_lowOf (As : List Value) (u : dm_S) (Q : Option Value → dm_S → Prop) : Prop := match As with
  | [.ref 1, .int a] => vp_in (a * 4) 320 ∧ Q (some (.long (u.2 17 (a * 4).toNatClampNeg))) u
  | _ => False
def p_X2_lowOf : List dm_I := [(0, .aload_n 0, 1, [0]), (1, .getfield 32, 3, []), (4, .iload_n 1, 1, [1]), (5, .iconst 4, 1, []), (6, .imul, 1, []), (7, .laload, 1, []), (8, .lreturn, 1, [])]
set_option maxRecDepth 100000 in
theorem v_X2_lowOf : p_X2_lowOf.all (dm_vb cX2_lowOf) = true := by decide +kernel
def k_X2_lowOf : dm_Sp := fun a => match a with
  | _ => fun _ _ _ => False
def x_X2_lowOf : dm_X := dm_mk [(32, 2, 6)] [] [] [] 2
set_option maxRecDepth 100000 in
set_option maxHeartbeats 400000 in
theorem u_X2_lowOf : dm_Pure shC x_X2_lowOf k_X2_lowOf p_X2_lowOf 2 sp_X2_lowOf := by
  intro As u Qp h
  unfold sp_X2_lowOf at h
  split at h
  · refine ⟨Nat.le_of_ble_eq_true rfl, fun G Wp hW0 hW1 hG => ?_⟩
    apply hG (fun _ => false) 8
    simp (config := { maxSteps := 2000000 }) [hW0, hW1, dm_fn, dm_fd, dm_x, dm_L0, dm_la, dm_t1, dm_sw, List.headD, dm_ic, dm_mk, dm_s1, dm_s2, dm_clr, dm_cs, dm_cc, dm_nb0, dm_nb1, Value.category, List.lookup, p_X2_lowOf, x_X2_lowOf, k_X2_lowOf, dm_cm, upd, vp_updL, dm_ui_1, dm_ui_2, dm_ul_1, dm_ul_2, sC_0, sC_1, sC_2, sC_3, sC_4, sC_5, sC_6, sC_7, sC_8, sC_9, sC_10, sC_11, sC_12, sC_13, sC_14, sC_15, sC_16, sC_17, sC_18, sC_19, sC_20, sC_21, sC_22, sC_23, sC_24, sC_25, sC_26, sC_27, sC_28, sC_29, sC_30, sC_31, sC_32, sC_33, sC_34, sC_35, sC_36, sC_37, sC_38, sC_39, sC_40, sC_41, sC_42, sC_43, sC_44, sC_45, sC_46, sC_47, sC_48, sC_49, sC_50, sC_51]
    exact h
  · exact h.elim
set_option maxRecDepth 100000 in
theorem t_X2_lowOf (l : Launch) (D : va_G) (cA : Nat → ClassId) (ad : Nat → Nat) : dm_Met l D dm_cl cA ad shC yX2_lowOf (Cond.code yX2_lowOf cX2_lowOf 2 (dm_rt 2) :: dm_tt) ({ frames := 0, cells := 0, slots := 0, locals := 0 } : Room) sp_X2_lowOf := dm_meth (own := RX2) (X := x_X2_lowOf) (Sp := k_X2_lowOf) (prog := p_X2_lowOf) (by decide +kernel) rfl rfl (dm_FO_s ffX2 [(32, 2, 6)] rfl dm_hT (by decide +kernel)) (dm_IO_s ifX2 jfX2 [] [] rfl rfl dm_hT (by decide +kernel) (by decide +kernel)) soC (dm_MO_of (fun _ h => absurd h List.not_mem_nil)) v_X2_lowOf u_X2_lowOf
def sp_X2_lastRate (As : List Value) (u : dm_S) (Q : Option Value → dm_S → Prop) : Prop := match As with
  | [.ref 1, .int a] => vp_in a 80 ∧ vp_in (a * 4 + u.1 16 a.toNatClampNeg - 1) 320 ∧ Q (some (.long (u.2 18 (a * 4 + u.1 16 a.toNatClampNeg - 1).toNatClampNeg))) u
  | _ => False
def p_X2_lastRate : List dm_I := [(0, .aload_n 0, 1, [0]), (1, .getfield 35, 3, []), (4, .aload_n 0, 1, [0]), (5, .iload_n 1, 1, [1]), (6, .invokevirtual 53, 3, []), (9, .laload, 1, []), (10, .lreturn, 1, [])]
set_option maxRecDepth 100000 in
theorem v_X2_lastRate : p_X2_lastRate.all (dm_vb cX2_lastRate) = true := by decide +kernel
def k_X2_lastRate : dm_Sp := fun a => match a with
  | 0 => sp_X2_lastPart
  | _ => fun _ _ _ => False
def x_X2_lastRate : dm_X := dm_mk [(35, 2, 7)] [] [] [(53, 0, 1, 2)] 2
set_option maxRecDepth 100000 in
set_option maxHeartbeats 400000 in
theorem u_X2_lastRate : dm_Pure shC x_X2_lastRate k_X2_lastRate p_X2_lastRate 2 sp_X2_lastRate := by
  intro As u Qp h
  unfold sp_X2_lastRate at h
  split at h
  · refine ⟨Nat.le_of_ble_eq_true rfl, fun G Wp hW0 hW1 hG => ?_⟩
    apply hG (fun _ => false) 8
    simp (config := { maxSteps := 2000000 }) [hW0, hW1, dm_fn, dm_fd, dm_x, dm_L0, dm_la, dm_t1, dm_sw, List.headD, dm_ic, dm_mk, dm_s1, dm_s2, dm_clr, dm_cs, dm_cc, dm_nb0, dm_nb1, Value.category, List.lookup, p_X2_lastRate, x_X2_lastRate, k_X2_lastRate, dm_cm, upd, vp_updL, dm_ui_1, dm_ui_2, dm_ul_1, dm_ul_2, sp_X2_lastPart, sC_0, sC_1, sC_2, sC_3, sC_4, sC_5, sC_6, sC_7, sC_8, sC_9, sC_10, sC_11, sC_12, sC_13, sC_14, sC_15, sC_16, sC_17, sC_18, sC_19, sC_20, sC_21, sC_22, sC_23, sC_24, sC_25, sC_26, sC_27, sC_28, sC_29, sC_30, sC_31, sC_32, sC_33, sC_34, sC_35, sC_36, sC_37, sC_38, sC_39, sC_40, sC_41, sC_42, sC_43, sC_44, sC_45, sC_46, sC_47, sC_48, sC_49, sC_50, sC_51]
    exact h
  · exact h.elim
set_option maxRecDepth 100000 in
theorem t_X2_lastRate (l : Launch) (D : va_G) (cA : Nat → ClassId) (ad : Nat → Nat) : dm_Met l D dm_cl cA ad shC yX2_lastRate (Cond.code yX2_lastRate cX2_lastRate 2 (dm_rt 2) :: dm_tt) ({ frames := 1, cells := 0, slots := 0, locals := 21 } : Room) sp_X2_lastRate := dm_meth (own := RX2) (X := x_X2_lastRate) (Sp := k_X2_lastRate) (prog := p_X2_lastRate) (by decide +kernel) rfl rfl (dm_FO_s ffX2 [(35, 2, 7)] rfl dm_hT (by decide +kernel)) (dm_IO_s ifX2 jfX2 [] [] rfl rfl dm_hT (by decide +kernel) (by decide +kernel)) soC (dm_MO_of (List.forall_mem_cons.mpr ⟨dm_M1_of (t_X2_lastPart l D cA ad) dm_hT (dm_mem [511, 67, 508] (by decide +kernel) (by decide +kernel)) (by decide) (by decide +kernel) (Or.inr ⟨by decide, dm_mem [510, 1] (by decide +kernel) (by decide +kernel), rfl⟩), fun _ h => absurd h List.not_mem_nil⟩)) v_X2_lastRate u_X2_lastRate
def sp_X2_endOf (As : List Value) (u : dm_S) (Q : Option Value → dm_S → Prop) : Prop := match As with
  | [.ref 1, .int a, .int b] => vp_in a 80 ∧ (b + 1 < u.1 16 a.toNatClampNeg → vp_in (a * 4 + b + 1) 320) ∧ Q (some (.long (if b + 1 < u.1 16 a.toNatClampNeg then u.2 17 (a * 4 + b + 1).toNatClampNeg else u.2 15 a.toNatClampNeg))) u
  | _ => False
def p_X2_endOf : List dm_I := [(0, .iload_n 2, 1, [2]), (1, .iconst 1, 1, []), (2, .iadd, 1, []), (3, .aload_n 0, 1, [0]), (4, .getfield 29, 3, []), (7, .iload_n 1, 1, [1]), (8, .iaload, 1, []), (9, .if_icmp .ge 18, 3, [27]), (12, .aload_n 0, 1, [0]), (13, .getfield 32, 3, []), (16, .iload_n 1, 1, [1]), (17, .iconst 4, 1, []), (18, .imul, 1, []), (19, .iload_n 2, 1, [2]), (20, .iadd, 1, []), (21, .iconst 1, 1, []), (22, .iadd, 1, []), (23, .laload, 1, []), (24, .goto 9, 3, [33]), (27, .aload_n 0, 1, [0]), (28, .getfield 26, 3, []), (31, .iload_n 1, 1, [1]), (32, .laload, 1, []), (33, .lreturn, 1, [])]
set_option maxRecDepth 100000 in
theorem v_X2_endOf : p_X2_endOf.all (dm_vb cX2_endOf) = true := by decide +kernel
def k_X2_endOf : dm_Sp := fun a => match a with
  | _ => fun _ _ _ => False
def x_X2_endOf : dm_X := dm_mk [(26, 2, 4), (29, 2, 5), (32, 2, 6)] [] [] [] 2
set_option maxRecDepth 100000 in
set_option maxHeartbeats 400000 in
theorem u_X2_endOf : dm_Pure shC x_X2_endOf k_X2_endOf p_X2_endOf 3 sp_X2_endOf := by
  intro As u Qp h
  unfold sp_X2_endOf at h
  split at h
  · refine ⟨Nat.le_of_ble_eq_true rfl, fun G Wp hW0 hW1 hG => ?_⟩
    apply hG (fun _ => false) 25
    simp (config := { maxSteps := 2000000 }) [hW0, hW1, dm_fn, dm_fd, dm_x, dm_L0, dm_la, dm_t1, dm_sw, List.headD, dm_ic, dm_mk, dm_s1, dm_s2, dm_clr, dm_cs, dm_cc, dm_nb0, dm_nb1, Value.category, List.lookup, p_X2_endOf, x_X2_endOf, k_X2_endOf, dm_cm, upd, vp_updL, dm_ui_1, dm_ui_2, dm_ul_1, dm_ul_2, sC_0, sC_1, sC_2, sC_3, sC_4, sC_5, sC_6, sC_7, sC_8, sC_9, sC_10, sC_11, sC_12, sC_13, sC_14, sC_15, sC_16, sC_17, sC_18, sC_19, sC_20, sC_21, sC_22, sC_23, sC_24, sC_25, sC_26, sC_27, sC_28, sC_29, sC_30, sC_31, sC_32, sC_33, sC_34, sC_35, sC_36, sC_37, sC_38, sC_39, sC_40, sC_41, sC_42, sC_43, sC_44, sC_45, sC_46, sC_47, sC_48, sC_49, sC_50, sC_51]
    refine ⟨h.1, fun q => ⟨h.1, ?_⟩, fun q => ⟨h.2.1 q, ?_⟩⟩
    · have := h.2.2; rw [if_neg (dm_i_lt.mpr q)] at this; exact this
    · have := h.2.2; rw [if_pos q] at this; exact this
  · exact h.elim
set_option maxRecDepth 100000 in
theorem t_X2_endOf (l : Launch) (D : va_G) (cA : Nat → ClassId) (ad : Nat → Nat) : dm_Met l D dm_cl cA ad shC yX2_endOf (Cond.code yX2_endOf cX2_endOf 3 (dm_rt 2) :: dm_tt) ({ frames := 0, cells := 0, slots := 0, locals := 0 } : Room) sp_X2_endOf := dm_meth (own := RX2) (X := x_X2_endOf) (Sp := k_X2_endOf) (prog := p_X2_endOf) (by decide +kernel) rfl rfl (dm_FO_s ffX2 [(26, 2, 4), (29, 2, 5), (32, 2, 6)] rfl dm_hT (by decide +kernel)) (dm_IO_s ifX2 jfX2 [] [] rfl rfl dm_hT (by decide +kernel) (by decide +kernel)) soC (dm_MO_of (fun _ h => absurd h List.not_mem_nil)) v_X2_endOf u_X2_endOf
def sp_X2_empty (As : List Value) (u : dm_S) (Q : Option Value → dm_S → Prop) : Prop := match As with
  | [.ref 1] => Q none (dm_ui (dm_ui (dm_ui u 1 8 0) 1 9 0) 1 10 0)
  | _ => False
def p_X2_empty : List dm_I := [(0, .aload_n 0, 1, [0]), (1, .iconst 0, 1, []), (2, .putfield 38, 3, []), (5, .aload_n 0, 1, [0]), (6, .iconst 0, 1, []), (7, .putfield 42, 3, []), (10, .aload_n 0, 1, [0]), (11, .iconst 0, 1, []), (12, .putfield 59, 3, []), (15, .return_, 1, [])]
set_option maxRecDepth 100000 in
theorem v_X2_empty : p_X2_empty.all (dm_vb cX2_empty) = true := by decide +kernel
def k_X2_empty : dm_Sp := fun a => match a with
  | _ => fun _ _ _ => False
def x_X2_empty : dm_X := dm_mk [(38, 2, 8), (42, 2, 9), (59, 2, 10)] [] [] [] 0
set_option maxRecDepth 100000 in
set_option maxHeartbeats 400000 in
theorem u_X2_empty : dm_Pure shC x_X2_empty k_X2_empty p_X2_empty 1 sp_X2_empty := by
  intro As u Qp h
  unfold sp_X2_empty at h
  split at h
  · refine ⟨Nat.le_of_ble_eq_true rfl, fun G Wp hW0 hW1 hG => ?_⟩
    apply hG (fun _ => false) 11
    simp (config := { maxSteps := 2000000 }) [hW0, hW1, dm_fn, dm_fd, dm_x, dm_L0, dm_la, dm_t1, dm_sw, List.headD, dm_ic, dm_mk, dm_s1, dm_s2, dm_clr, dm_cs, dm_cc, dm_nb0, dm_nb1, Value.category, List.lookup, p_X2_empty, x_X2_empty, k_X2_empty, dm_cm, upd, vp_updL, dm_ui_1, dm_ui_2, dm_ul_1, dm_ul_2, sC_0, sC_1, sC_2, sC_3, sC_4, sC_5, sC_6, sC_7, sC_8, sC_9, sC_10, sC_11, sC_12, sC_13, sC_14, sC_15, sC_16, sC_17, sC_18, sC_19, sC_20, sC_21, sC_22, sC_23, sC_24, sC_25, sC_26, sC_27, sC_28, sC_29, sC_30, sC_31, sC_32, sC_33, sC_34, sC_35, sC_36, sC_37, sC_38, sC_39, sC_40, sC_41, sC_42, sC_43, sC_44, sC_45, sC_46, sC_47, sC_48, sC_49, sC_50, sC_51]
    exact h
  · exact h.elim
set_option maxRecDepth 100000 in
theorem t_X2_empty (l : Launch) (D : va_G) (cA : Nat → ClassId) (ad : Nat → Nat) : dm_Met l D dm_cl cA ad shC yX2_empty (Cond.code yX2_empty cX2_empty 1 (dm_rt 0) :: dm_tt) ({ frames := 0, cells := 0, slots := 0, locals := 0 } : Room) sp_X2_empty := dm_meth (own := RX2) (X := x_X2_empty) (Sp := k_X2_empty) (prog := p_X2_empty) (by decide +kernel) rfl rfl (dm_FO_s ffX2 [(38, 2, 8), (42, 2, 9), (59, 2, 10)] rfl dm_hT (by decide +kernel)) (dm_IO_s ifX2 jfX2 [] [] rfl rfl dm_hT (by decide +kernel) (by decide +kernel)) soC (dm_MO_of (fun _ h => absurd h List.not_mem_nil)) v_X2_empty u_X2_empty
def sp_X3_has (As : List Value) (u : dm_S) (Q : Option Value → dm_S → Prop) : Prop := match As with
  | [.ref 10, .int x] => Q (some (.int (if 0 ≤ x ∧ x < u.1 10 3 then 1 else 0))) u
  | _ => False
def p_X3_has : List dm_I := [(0, .iload_n 1, 1, [1]), (1, .ifCond .lt 15, 3, [16]), (4, .iload_n 1, 1, [1]), (5, .aload_n 0, 1, [0]), (6, .getfield 22, 3, []), (9, .if_icmp .ge 7, 3, [16]), (12, .iconst 1, 1, []), (13, .goto 4, 3, [17]), (16, .iconst 0, 1, []), (17, .ireturn, 1, [])]
set_option maxRecDepth 100000 in
theorem v_X3_has : p_X3_has.all (dm_vb cX3_has) = true := by decide +kernel
def k_X3_has : dm_Sp := fun a => match a with
  | _ => fun _ _ _ => False
def x_X3_has : dm_X := dm_mk [(22, 3, 3)] [] [] [] 3
set_option maxRecDepth 100000 in
set_option maxHeartbeats 400000 in
theorem u_X3_has : dm_Pure shC x_X3_has k_X3_has p_X3_has 2 sp_X3_has := by
  intro As u Qp h
  unfold sp_X3_has at h
  split at h
  · refine ⟨Nat.le_of_ble_eq_true rfl, fun G Wp hW0 hW1 hG => ?_⟩
    apply hG (fun _ => false) 11
    simp (config := { maxSteps := 2000000 }) [hW0, hW1, dm_fn, dm_fd, dm_x, dm_L0, dm_la, dm_t1, dm_sw, List.headD, dm_ic, dm_mk, dm_s1, dm_s2, dm_clr, dm_cs, dm_cc, dm_nb0, dm_nb1, Value.category, List.lookup, p_X3_has, x_X3_has, k_X3_has, dm_cm, upd, vp_updL, dm_ui_1, dm_ui_2, dm_ul_1, dm_ul_2, sC_0, sC_1, sC_2, sC_3, sC_4, sC_5, sC_6, sC_7, sC_8, sC_9, sC_10, sC_11, sC_12, sC_13, sC_14, sC_15, sC_16, sC_17, sC_18, sC_19, sC_20, sC_21, sC_22, sC_23, sC_24, sC_25, sC_26, sC_27, sC_28, sC_29, sC_30, sC_31, sC_32, sC_33, sC_34, sC_35, sC_36, sC_37, sC_38, sC_39, sC_40, sC_41, sC_42, sC_43, sC_44, sC_45, sC_46, sC_47, sC_48, sC_49, sC_50, sC_51]
    refine ⟨fun q => ?_, fun q => ⟨fun q2 => ?_, fun q2 => ?_⟩⟩
    · rw [if_neg (fun z => dm_i_le.mpr q z.1)] at h; exact h
    · rw [if_neg (fun z => dm_i_lt.mpr q2 z.2)] at h; exact h
    · rw [if_pos ⟨q, q2⟩] at h; exact h
  · exact h.elim
set_option maxRecDepth 100000 in
theorem t_X3_has (l : Launch) (D : va_G) (cA : Nat → ClassId) (ad : Nat → Nat) : dm_Met l D dm_cl cA ad shC yX3_has (Cond.code yX3_has cX3_has 2 (dm_rt 3) :: dm_tt) ({ frames := 0, cells := 0, slots := 0, locals := 0 } : Room) sp_X3_has := dm_meth (own := RX3) (X := x_X3_has) (Sp := k_X3_has) (prog := p_X3_has) (by decide +kernel) rfl rfl (dm_FO_s ffX3 [(22, 3, 3)] rfl dm_hT (by decide +kernel)) (dm_IO_s ifX3 jfX3 [] [] rfl rfl dm_hT (by decide +kernel) (by decide +kernel)) soC (dm_MO_of (fun _ h => absurd h List.not_mem_nil)) v_X3_has u_X3_has
def sp_X3_allow (As : List Value) (u : dm_S) (Q : Option Value → dm_S → Prop) : Prop := match As with
  | [.ref 10, .int a, .int b, .long d] => vp_in (a * 8 + b) 64 ∧ Q none (dm_ui (dm_ul u 49 (a * 8 + b).toNatClampNeg d) 10 4 0)
  | _ => False
def p_X3_allow : List dm_I := [(0, .aload_n 0, 1, [0]), (1, .getfield 9, 3, []), (4, .iload_n 1, 1, [1]), (5, .bipush 8, 2, []), (7, .imul, 1, []), (8, .iload_n 2, 1, [2]), (9, .iadd, 1, []), (10, .lload_n 3, 1, [3]), (11, .lastore, 1, []), (12, .aload_n 0, 1, [0]), (13, .iconst 0, 1, []), (14, .putfield 26, 3, []), (17, .return_, 1, [])]
set_option maxRecDepth 100000 in
theorem v_X3_allow : p_X3_allow.all (dm_vb cX3_allow) = true := by decide +kernel
def k_X3_allow : dm_Sp := fun a => match a with
  | _ => fun _ _ _ => False
def x_X3_allow : dm_X := dm_mk [(9, 3, 0), (26, 3, 4)] [] [] [] 0
set_option maxRecDepth 100000 in
set_option maxHeartbeats 400000 in
theorem u_X3_allow : dm_Pure shC x_X3_allow k_X3_allow p_X3_allow 5 sp_X3_allow := by
  intro As u Qp h
  unfold sp_X3_allow at h
  split at h
  · refine ⟨Nat.le_of_ble_eq_true rfl, fun G Wp hW0 hW1 hG => ?_⟩
    apply hG (fun _ => false) 14
    simp (config := { maxSteps := 2000000 }) [hW0, hW1, dm_fn, dm_fd, dm_x, dm_L0, dm_la, dm_t1, dm_sw, List.headD, dm_ic, dm_mk, dm_s1, dm_s2, dm_clr, dm_cs, dm_cc, dm_nb0, dm_nb1, Value.category, List.lookup, p_X3_allow, x_X3_allow, k_X3_allow, dm_cm, upd, vp_updL, dm_ui_1, dm_ui_2, dm_ul_1, dm_ul_2, sC_0, sC_1, sC_2, sC_3, sC_4, sC_5, sC_6, sC_7, sC_8, sC_9, sC_10, sC_11, sC_12, sC_13, sC_14, sC_15, sC_16, sC_17, sC_18, sC_19, sC_20, sC_21, sC_22, sC_23, sC_24, sC_25, sC_26, sC_27, sC_28, sC_29, sC_30, sC_31, sC_32, sC_33, sC_34, sC_35, sC_36, sC_37, sC_38, sC_39, sC_40, sC_41, sC_42, sC_43, sC_44, sC_45, sC_46, sC_47, sC_48, sC_49, sC_50, sC_51]
    exact h
  · exact h.elim
set_option maxRecDepth 100000 in
theorem t_X3_allow (l : Launch) (D : va_G) (cA : Nat → ClassId) (ad : Nat → Nat) : dm_Met l D dm_cl cA ad shC yX3_allow (Cond.code yX3_allow cX3_allow 5 (dm_rt 0) :: dm_tt) ({ frames := 0, cells := 0, slots := 0, locals := 0 } : Room) sp_X3_allow := dm_meth (own := RX3) (X := x_X3_allow) (Sp := k_X3_allow) (prog := p_X3_allow) (by decide +kernel) rfl rfl (dm_FO_s ffX3 [(9, 3, 0), (26, 3, 4)] rfl dm_hT (by decide +kernel)) (dm_IO_s ifX3 jfX3 [] [] rfl rfl dm_hT (by decide +kernel) (by decide +kernel)) soC (dm_MO_of (fun _ h => absurd h List.not_mem_nil)) v_X3_allow u_X3_allow
/-! ways by their numbers: 2 * lane along, 2 * lane + 1 against -/
theorem dm_w1 {w : Nat} (h : w < 640) : (nI w &&& 1 = 0) ↔ w % 2 = 0 := by
  rw [pk_andN (m := 1) (by omega) 1 (by decide), show (0 : Int32) = nI 0 from rfl, nI_eq (by omega) (by omega)]
theorem dm_w2 {w : Nat} (h : w < 640) : nI w >>> ((1 : Int32) &&& 31) = nI (w / 2) := pk_shrN (by omega) _ 1 (by decide)
theorem dm_w3 {w : Nat} (h : w < 640) : vp_in (nI (w / 2)) 320 := vp_in_nI (by omega) (by omega)
theorem dm_w4 {w : Nat} (h : w < 640) : (nI (w / 2)).toNatClampNeg = w / 2 := nI_clamp (by omega)
def lw_b (u : dm_S) (w : Nat) : Int32 := if w % 2 = 0 then u.1 20 (w / 2) else u.1 21 (w / 2)
def lw_e (u : dm_S) (w : Nat) : Int32 := if w % 2 = 0 then u.1 21 (w / 2) else u.1 20 (w / 2)
def lw_r (u : dm_S) (w : Nat) : Int64 := if w % 2 = 0 then u.2 23 (w / 2) else -u.2 23 (w / 2)
def lw_m (u : dm_S) (w : Nat) : Int64 := if w % 2 = 0 then u.2 22 (w / 2) - u.2 24 (w / 2) else u.2 24 (w / 2)
def sp_X1_beginOf (As : List Value) (u : dm_S) (Q : Option Value → dm_S → Prop) : Prop := match As with
  | [.ref 2, .int x] => ∃ w : Nat, w < 640 ∧ x = nI w ∧ Q (some (.int (lw_b u w))) u
  | _ => False
def p_X1_beginOf : List dm_I := [(0, .iload_n 1, 1, [1]), (1, .iconst 1, 1, []), (2, .iand, 1, []), (3, .ifCond .ne 14, 3, [17]), (6, .aload_n 0, 1, [0]), (7, .getfield 15, 3, []), (10, .iload_n 1, 1, [1]), (11, .iconst 1, 1, []), (12, .ishr, 1, []), (13, .iaload, 1, []), (14, .goto 11, 3, [25]), (17, .aload_n 0, 1, [0]), (18, .getfield 18, 3, []), (21, .iload_n 1, 1, [1]), (22, .iconst 1, 1, []), (23, .ishr, 1, []), (24, .iaload, 1, []), (25, .ireturn, 1, [])]
set_option maxRecDepth 100000 in
theorem v_X1_beginOf : p_X1_beginOf.all (dm_vb cX1_beginOf) = true := by decide +kernel
def k_X1_beginOf : dm_Sp := fun a => match a with
  | _ => fun _ _ _ => False
def x_X1_beginOf : dm_X := dm_mk [(15, 1, 2), (18, 1, 3)] [] [] [] 1
set_option maxRecDepth 100000 in
set_option maxHeartbeats 400000 in
theorem u_X1_beginOf : dm_Pure shC x_X1_beginOf k_X1_beginOf p_X1_beginOf 2 sp_X1_beginOf := by
  intro As u Qp h
  unfold sp_X1_beginOf at h
  split at h
  · refine ⟨Nat.le_of_ble_eq_true rfl, fun G Wp hW0 hW1 hG => ?_⟩
    apply hG (fun _ => false) 19
    simp (config := { maxSteps := 2000000 }) [hW0, hW1, dm_fn, dm_fd, dm_x, dm_L0, dm_la, dm_t1, dm_sw, List.headD, dm_ic, dm_mk, dm_s1, dm_s2, dm_clr, dm_cs, dm_cc, dm_nb0, dm_nb1, Value.category, List.lookup, p_X1_beginOf, x_X1_beginOf, k_X1_beginOf, dm_cm, upd, vp_updL, dm_ui_1, dm_ui_2, dm_ul_1, dm_ul_2, sC_0, sC_1, sC_2, sC_3, sC_4, sC_5, sC_6, sC_7, sC_8, sC_9, sC_10, sC_11, sC_12, sC_13, sC_14, sC_15, sC_16, sC_17, sC_18, sC_19, sC_20, sC_21, sC_22, sC_23, sC_24, sC_25, sC_26, sC_27, sC_28, sC_29, sC_30, sC_31, sC_32, sC_33, sC_34, sC_35, sC_36, sC_37, sC_38, sC_39, sC_40, sC_41, sC_42, sC_43, sC_44, sC_45, sC_46, sC_47, sC_48, sC_49, sC_50, sC_51]
    obtain ⟨w, hw, rfl, h⟩ := h
    simp only [dm_w1 hw, dm_w2 hw, dm_w4 hw]
    refine ⟨fun q => ⟨dm_w3 hw, ?_⟩, fun q => ⟨dm_w3 hw, ?_⟩⟩
    · rw [lw_b, if_neg q] at h; exact h
    · rw [lw_b, if_pos q] at h; exact h
  · exact h.elim
set_option maxRecDepth 100000 in
theorem t_X1_beginOf (l : Launch) (D : va_G) (cA : Nat → ClassId) (ad : Nat → Nat) : dm_Met l D dm_cl cA ad shC yX1_beginOf (Cond.code yX1_beginOf cX1_beginOf 2 (dm_rt 1) :: dm_tt) ({ frames := 0, cells := 0, slots := 0, locals := 0 } : Room) sp_X1_beginOf := dm_meth (own := RX1) (X := x_X1_beginOf) (Sp := k_X1_beginOf) (prog := p_X1_beginOf) (by decide +kernel) rfl rfl (dm_FO_s ffX1 [(15, 1, 2), (18, 1, 3)] rfl dm_hT (by decide +kernel)) (dm_IO_s ifX1 jfX1 [] [] rfl rfl dm_hT (by decide +kernel) (by decide +kernel)) soC (dm_MO_of (fun _ h => absurd h List.not_mem_nil)) v_X1_beginOf u_X1_beginOf
def sp_X1_endOf (As : List Value) (u : dm_S) (Q : Option Value → dm_S → Prop) : Prop := match As with
  | [.ref 2, .int x] => ∃ w : Nat, w < 640 ∧ x = nI w ∧ Q (some (.int (lw_e u w))) u
  | _ => False
def p_X1_endOf : List dm_I := [(0, .iload_n 1, 1, [1]), (1, .iconst 1, 1, []), (2, .iand, 1, []), (3, .ifCond .ne 14, 3, [17]), (6, .aload_n 0, 1, [0]), (7, .getfield 18, 3, []), (10, .iload_n 1, 1, [1]), (11, .iconst 1, 1, []), (12, .ishr, 1, []), (13, .iaload, 1, []), (14, .goto 11, 3, [25]), (17, .aload_n 0, 1, [0]), (18, .getfield 15, 3, []), (21, .iload_n 1, 1, [1]), (22, .iconst 1, 1, []), (23, .ishr, 1, []), (24, .iaload, 1, []), (25, .ireturn, 1, [])]
set_option maxRecDepth 100000 in
theorem v_X1_endOf : p_X1_endOf.all (dm_vb cX1_endOf) = true := by decide +kernel
def k_X1_endOf : dm_Sp := fun a => match a with
  | _ => fun _ _ _ => False
def x_X1_endOf : dm_X := dm_mk [(15, 1, 2), (18, 1, 3)] [] [] [] 1
set_option maxRecDepth 100000 in
set_option maxHeartbeats 400000 in
theorem u_X1_endOf : dm_Pure shC x_X1_endOf k_X1_endOf p_X1_endOf 2 sp_X1_endOf := by
  intro As u Qp h
  unfold sp_X1_endOf at h
  split at h
  · refine ⟨Nat.le_of_ble_eq_true rfl, fun G Wp hW0 hW1 hG => ?_⟩
    apply hG (fun _ => false) 19
    simp (config := { maxSteps := 2000000 }) [hW0, hW1, dm_fn, dm_fd, dm_x, dm_L0, dm_la, dm_t1, dm_sw, List.headD, dm_ic, dm_mk, dm_s1, dm_s2, dm_clr, dm_cs, dm_cc, dm_nb0, dm_nb1, Value.category, List.lookup, p_X1_endOf, x_X1_endOf, k_X1_endOf, dm_cm, upd, vp_updL, dm_ui_1, dm_ui_2, dm_ul_1, dm_ul_2, sC_0, sC_1, sC_2, sC_3, sC_4, sC_5, sC_6, sC_7, sC_8, sC_9, sC_10, sC_11, sC_12, sC_13, sC_14, sC_15, sC_16, sC_17, sC_18, sC_19, sC_20, sC_21, sC_22, sC_23, sC_24, sC_25, sC_26, sC_27, sC_28, sC_29, sC_30, sC_31, sC_32, sC_33, sC_34, sC_35, sC_36, sC_37, sC_38, sC_39, sC_40, sC_41, sC_42, sC_43, sC_44, sC_45, sC_46, sC_47, sC_48, sC_49, sC_50, sC_51]
    obtain ⟨w, hw, rfl, h⟩ := h
    simp only [dm_w1 hw, dm_w2 hw, dm_w4 hw]
    refine ⟨fun q => ⟨dm_w3 hw, ?_⟩, fun q => ⟨dm_w3 hw, ?_⟩⟩
    · rw [lw_e, if_neg q] at h; exact h
    · rw [lw_e, if_pos q] at h; exact h
  · exact h.elim
set_option maxRecDepth 100000 in
theorem t_X1_endOf (l : Launch) (D : va_G) (cA : Nat → ClassId) (ad : Nat → Nat) : dm_Met l D dm_cl cA ad shC yX1_endOf (Cond.code yX1_endOf cX1_endOf 2 (dm_rt 1) :: dm_tt) ({ frames := 0, cells := 0, slots := 0, locals := 0 } : Room) sp_X1_endOf := dm_meth (own := RX1) (X := x_X1_endOf) (Sp := k_X1_endOf) (prog := p_X1_endOf) (by decide +kernel) rfl rfl (dm_FO_s ffX1 [(15, 1, 2), (18, 1, 3)] rfl dm_hT (by decide +kernel)) (dm_IO_s ifX1 jfX1 [] [] rfl rfl dm_hT (by decide +kernel) (by decide +kernel)) soC (dm_MO_of (fun _ h => absurd h List.not_mem_nil)) v_X1_endOf u_X1_endOf
def sp_X1_rateOf (As : List Value) (u : dm_S) (Q : Option Value → dm_S → Prop) : Prop := match As with
  | [.ref 2, .int x] => ∃ w : Nat, w < 640 ∧ x = nI w ∧ Q (some (.long (lw_r u w))) u
  | _ => False
def p_X1_rateOf : List dm_I := [(0, .iload_n 1, 1, [1]), (1, .iconst 1, 1, []), (2, .iand, 1, []), (3, .ifCond .ne 14, 3, [17]), (6, .aload_n 0, 1, [0]), (7, .getfield 25, 3, []), (10, .iload_n 1, 1, [1]), (11, .iconst 1, 1, []), (12, .ishr, 1, []), (13, .laload, 1, []), (14, .goto 12, 3, [26]), (17, .aload_n 0, 1, [0]), (18, .getfield 25, 3, []), (21, .iload_n 1, 1, [1]), (22, .iconst 1, 1, []), (23, .ishr, 1, []), (24, .laload, 1, []), (25, .lneg, 1, []), (26, .lreturn, 1, [])]
set_option maxRecDepth 100000 in
theorem v_X1_rateOf : p_X1_rateOf.all (dm_vb cX1_rateOf) = true := by decide +kernel
def k_X1_rateOf : dm_Sp := fun a => match a with
  | _ => fun _ _ _ => False
def x_X1_rateOf : dm_X := dm_mk [(25, 1, 5)] [] [] [] 2
set_option maxRecDepth 100000 in
set_option maxHeartbeats 400000 in
theorem u_X1_rateOf : dm_Pure shC x_X1_rateOf k_X1_rateOf p_X1_rateOf 2 sp_X1_rateOf := by
  intro As u Qp h
  unfold sp_X1_rateOf at h
  split at h
  · refine ⟨Nat.le_of_ble_eq_true rfl, fun G Wp hW0 hW1 hG => ?_⟩
    apply hG (fun _ => false) 20
    simp (config := { maxSteps := 2000000 }) [hW0, hW1, dm_fn, dm_fd, dm_x, dm_L0, dm_la, dm_t1, dm_sw, List.headD, dm_ic, dm_mk, dm_s1, dm_s2, dm_clr, dm_cs, dm_cc, dm_nb0, dm_nb1, Value.category, List.lookup, p_X1_rateOf, x_X1_rateOf, k_X1_rateOf, dm_cm, upd, vp_updL, dm_ui_1, dm_ui_2, dm_ul_1, dm_ul_2, sC_0, sC_1, sC_2, sC_3, sC_4, sC_5, sC_6, sC_7, sC_8, sC_9, sC_10, sC_11, sC_12, sC_13, sC_14, sC_15, sC_16, sC_17, sC_18, sC_19, sC_20, sC_21, sC_22, sC_23, sC_24, sC_25, sC_26, sC_27, sC_28, sC_29, sC_30, sC_31, sC_32, sC_33, sC_34, sC_35, sC_36, sC_37, sC_38, sC_39, sC_40, sC_41, sC_42, sC_43, sC_44, sC_45, sC_46, sC_47, sC_48, sC_49, sC_50, sC_51]
    obtain ⟨w, hw, rfl, h⟩ := h
    simp only [dm_w1 hw, dm_w2 hw, dm_w4 hw]
    refine ⟨fun q => ⟨dm_w3 hw, ?_⟩, fun q => ⟨dm_w3 hw, ?_⟩⟩
    · rw [lw_r, if_neg q] at h; exact h
    · rw [lw_r, if_pos q] at h; exact h
  · exact h.elim
set_option maxRecDepth 100000 in
theorem t_X1_rateOf (l : Launch) (D : va_G) (cA : Nat → ClassId) (ad : Nat → Nat) : dm_Met l D dm_cl cA ad shC yX1_rateOf (Cond.code yX1_rateOf cX1_rateOf 2 (dm_rt 2) :: dm_tt) ({ frames := 0, cells := 0, slots := 0, locals := 0 } : Room) sp_X1_rateOf := dm_meth (own := RX1) (X := x_X1_rateOf) (Sp := k_X1_rateOf) (prog := p_X1_rateOf) (by decide +kernel) rfl rfl (dm_FO_s ffX1 [(25, 1, 5)] rfl dm_hT (by decide +kernel)) (dm_IO_s ifX1 jfX1 [] [] rfl rfl dm_hT (by decide +kernel) (by decide +kernel)) soC (dm_MO_of (fun _ h => absurd h List.not_mem_nil)) v_X1_rateOf u_X1_rateOf
def sp_X1_roomOf (As : List Value) (u : dm_S) (Q : Option Value → dm_S → Prop) : Prop := match As with
  | [.ref 2, .int x] => ∃ w : Nat, w < 640 ∧ x = nI w ∧ Q (some (.long (lw_m u w))) u
  | _ => False
def p_X1_roomOf : List dm_I := [(0, .iload_n 1, 1, [1]), (1, .iconst 1, 1, []), (2, .ishr, 1, []), (3, .istore_n 2, 1, [2]), (4, .iload_n 1, 1, [1]), (5, .iconst 1, 1, []), (6, .iand, 1, []), (7, .ifCond .ne 19, 3, [26]), (10, .aload_n 0, 1, [0]), (11, .getfield 21, 3, []), (14, .iload_n 2, 1, [2]), (15, .laload, 1, []), (16, .aload_n 0, 1, [0]), (17, .getfield 28, 3, []), (20, .iload_n 2, 1, [2]), (21, .laload, 1, []), (22, .lsub, 1, []), (23, .goto 9, 3, [32]), (26, .aload_n 0, 1, [0]), (27, .getfield 28, 3, []), (30, .iload_n 2, 1, [2]), (31, .laload, 1, []), (32, .lreturn, 1, [])]
set_option maxRecDepth 100000 in
theorem v_X1_roomOf : p_X1_roomOf.all (dm_vb cX1_roomOf) = true := by decide +kernel
def k_X1_roomOf : dm_Sp := fun a => match a with
  | _ => fun _ _ _ => False
def x_X1_roomOf : dm_X := dm_mk [(21, 1, 4), (28, 1, 6)] [] [] [] 2
set_option maxRecDepth 100000 in
set_option maxHeartbeats 400000 in
theorem u_X1_roomOf : dm_Pure shC x_X1_roomOf k_X1_roomOf p_X1_roomOf 3 sp_X1_roomOf := by
  intro As u Qp h
  unfold sp_X1_roomOf at h
  split at h
  · refine ⟨Nat.le_of_ble_eq_true rfl, fun G Wp hW0 hW1 hG => ?_⟩
    apply hG (fun _ => false) 24
    simp (config := { maxSteps := 2000000 }) [hW0, hW1, dm_fn, dm_fd, dm_x, dm_L0, dm_la, dm_t1, dm_sw, List.headD, dm_ic, dm_mk, dm_s1, dm_s2, dm_clr, dm_cs, dm_cc, dm_nb0, dm_nb1, Value.category, List.lookup, p_X1_roomOf, x_X1_roomOf, k_X1_roomOf, dm_cm, upd, vp_updL, dm_ui_1, dm_ui_2, dm_ul_1, dm_ul_2, sC_0, sC_1, sC_2, sC_3, sC_4, sC_5, sC_6, sC_7, sC_8, sC_9, sC_10, sC_11, sC_12, sC_13, sC_14, sC_15, sC_16, sC_17, sC_18, sC_19, sC_20, sC_21, sC_22, sC_23, sC_24, sC_25, sC_26, sC_27, sC_28, sC_29, sC_30, sC_31, sC_32, sC_33, sC_34, sC_35, sC_36, sC_37, sC_38, sC_39, sC_40, sC_41, sC_42, sC_43, sC_44, sC_45, sC_46, sC_47, sC_48, sC_49, sC_50, sC_51]
    obtain ⟨w, hw, rfl, h⟩ := h
    simp only [dm_w1 hw, dm_w2 hw, dm_w4 hw]
    refine ⟨fun q => ⟨dm_w3 hw, ?_⟩, fun q => ⟨dm_w3 hw, ?_⟩⟩
    · rw [lw_m, if_neg q] at h; exact h
    · rw [lw_m, if_pos q] at h; exact h
  · exact h.elim
set_option maxRecDepth 100000 in
theorem t_X1_roomOf (l : Launch) (D : va_G) (cA : Nat → ClassId) (ad : Nat → Nat) : dm_Met l D dm_cl cA ad shC yX1_roomOf (Cond.code yX1_roomOf cX1_roomOf 3 (dm_rt 2) :: dm_tt) ({ frames := 0, cells := 0, slots := 0, locals := 0 } : Room) sp_X1_roomOf := dm_meth (own := RX1) (X := x_X1_roomOf) (Sp := k_X1_roomOf) (prog := p_X1_roomOf) (by decide +kernel) rfl rfl (dm_FO_s ffX1 [(21, 1, 4), (28, 1, 6)] rfl dm_hT (by decide +kernel)) (dm_IO_s ifX1 jfX1 [] [] rfl rfl dm_hT (by decide +kernel) (by decide +kernel)) soC (dm_MO_of (fun _ h => absurd h List.not_mem_nil)) v_X1_roomOf u_X1_roomOf
