/-! ===== pairs ===== -/
def pr_pc (k : Nat) : Nat := k % 2 + k / 2 % 2 + k / 4 % 2 + k / 8 % 2 + k / 16 % 2 + k / 32 % 2 + k / 64 % 2 + k / 128 % 2
def sp_J6_bitCount_0f7a4 (As : List Value) (u : dm_S) (Q : Option Value → dm_S → Prop) : Prop := match As with
  | [.int x] => ∃ k : Nat, k < 256 ∧ x = nI k ∧ Q (some (.int (nI (pr_pc k)))) u
  | _ => False
def p_J6_bitCount_0f7a4 : List dm_I := [(0, .iload_n 0, 1, [0]), (1, .iload_n 0, 1, [0]), (2, .iconst 1, 1, []), (3, .iushr, 1, []), (4, .ldc_w 265, 3, []), (7, .iand, 1, []), (8, .isub, 1, []), (9, .istore_n 0, 1, [0]), (10, .iload_n 0, 1, [0]), (11, .ldc_w 266, 3, []), (14, .iand, 1, []), (15, .iload_n 0, 1, [0]), (16, .iconst 2, 1, []), (17, .iushr, 1, []), (18, .ldc_w 266, 3, []), (21, .iand, 1, []), (22, .iadd, 1, []), (23, .istore_n 0, 1, [0]), (24, .iload_n 0, 1, [0]), (25, .iload_n 0, 1, [0]), (26, .iconst 4, 1, []), (27, .iushr, 1, []), (28, .iadd, 1, []), (29, .ldc_w 267, 3, []), (32, .iand, 1, []), (33, .istore_n 0, 1, [0]), (34, .iload_n 0, 1, [0]), (35, .iload_n 0, 1, [0]), (36, .bipush 8, 2, []), (38, .iushr, 1, []), (39, .iadd, 1, []), (40, .istore_n 0, 1, [0]), (41, .iload_n 0, 1, [0]), (42, .iload_n 0, 1, [0]), (43, .bipush 16, 2, []), (45, .iushr, 1, []), (46, .iadd, 1, []), (47, .istore_n 0, 1, [0]), (48, .iload_n 0, 1, [0]), (49, .bipush 63, 2, []), (51, .iand, 1, []), (52, .ireturn, 1, [])]
set_option maxRecDepth 100000 in
theorem v_J6_bitCount_0f7a4 : p_J6_bitCount_0f7a4.all (dm_vb cJ6_bitCount_0f7a4) = true := by decide +kernel
def k_J6_bitCount_0f7a4 : dm_Sp := fun a => match a with
  | _ => fun _ _ _ => False
def x_J6_bitCount_0f7a4 : dm_X := dm_mk [] [(265, 1431655765), (266, 858993459), (267, 252645135)] [] [] 1
set_option maxRecDepth 100000 in
set_option maxHeartbeats 400000 in
theorem u_J6_bitCount_0f7a4 : dm_Pure shC x_J6_bitCount_0f7a4 k_J6_bitCount_0f7a4 p_J6_bitCount_0f7a4 1 sp_J6_bitCount_0f7a4 := by
  intro As u Qp h
  unfold sp_J6_bitCount_0f7a4 at h
  split at h
  · refine ⟨Nat.le_of_ble_eq_true rfl, fun G Wp hW0 hW1 hG => ?_⟩
    apply hG (fun _ => false) 43
    simp (config := { maxSteps := 2000000 }) [hW0, hW1, dm_fn, dm_fd, dm_x, dm_L0, dm_la, dm_t1, dm_sw, List.headD, dm_ic, dm_mk, dm_s1, dm_s2, dm_clr, dm_cs, dm_cc, dm_nb0, dm_nb1, Value.category, List.lookup, p_J6_bitCount_0f7a4, x_J6_bitCount_0f7a4, k_J6_bitCount_0f7a4, dm_cm, upd, vp_updL, dm_ui_1, dm_ui_2, dm_ul_1, dm_ul_2, sC_0, sC_1, sC_2, sC_3, sC_4, sC_5, sC_6, sC_7, sC_8, sC_9, sC_10, sC_11, sC_12, sC_13, sC_14, sC_15, sC_16, sC_17, sC_18, sC_19, sC_20, sC_21, sC_22, sC_23, sC_24, sC_25, sC_26, sC_27, sC_28, sC_29, sC_30, sC_31, sC_32, sC_33, sC_34, sC_35, sC_36, sC_37, sC_38, sC_39, sC_40, sC_41, sC_42, sC_43, sC_44, sC_45, sC_46, sC_47, sC_48, sC_49, sC_50, sC_51]
    obtain ⟨k, hk, rfl, h⟩ := h
    refine (congrArg (fun e => Qp (some (.int e)) u) ?_).mpr h
    clear h hG hW0 hW1
    revert hk
    revert k
    decide +kernel
  · exact h.elim
set_option maxRecDepth 100000 in
theorem t_J6_bitCount_0f7a4 (l : Launch) (D : va_G) (cA : Nat → ClassId) (ad : Nat → Nat) : dm_Met l D dm_cl cA ad shC yJ6_bitCount_0f7a4 (Cond.code yJ6_bitCount_0f7a4 cJ6_bitCount_0f7a4 1 (dm_rt 1) :: dm_tt) ({ frames := 0, cells := 0, slots := 0, locals := 0 } : Room) sp_J6_bitCount_0f7a4 := dm_meth (own := RJ6) (X := x_J6_bitCount_0f7a4) (Sp := k_J6_bitCount_0f7a4) (prog := p_J6_bitCount_0f7a4) (by decide +kernel) rfl rfl (dm_FO_s ffJ6 [] rfl dm_hT (by decide +kernel)) (dm_IO_s ifJ6 jfJ6 [(265, 1431655765), (266, 858993459), (267, 252645135)] [] rfl rfl dm_hT (by decide +kernel) (by decide +kernel)) soC (dm_MO_of (fun _ h => absurd h List.not_mem_nil)) v_J6_bitCount_0f7a4 u_J6_bitCount_0f7a4
theorem pr_bit : ∀ g, g < 256 → ∀ j, j < 8 → (nI g >>> (nI j &&& 31)) &&& 1 = nI (g / 2 ^ j % 2) := by decide +kernel
theorem pr_or : ∀ g, g < 256 → ∀ j, j < 8 → nI g ||| ((1 : Int32) <<< (nI j &&& 31)) = nI (g ||| 2 ^ j) ∧ g ||| 2 ^ j < 256 := by decide +kernel
/-- with j given to the next of the first -/
def pr_sw (u : dm_S) (g j : Nat) : Int64 := if g / 2 ^ j % 2 = 1 ∨ u.2 49 (8 * pr_pc g + j) = 1152921504606846976 ∨ u.2 51 (g ||| 2 ^ j) = 1152921504606846976 then 1152921504606846976 else u.2 49 (8 * pr_pc g + j) + u.2 51 (g ||| 2 ^ j)
def sp_X3_sumWith (As : List Value) (u : dm_S) (Q : Option Value → dm_S → Prop) : Prop := match As with
  | [.ref 10, .int x, .int y] => ∃ g j : Nat, g < 256 ∧ j < 8 ∧ pr_pc g < 8 ∧ x = nI g ∧ y = nI j ∧ Q (some (.long (pr_sw u g j))) u
  | _ => False
def p_X3_sumWith : List dm_I := [(0, .iload_n 1, 1, [1]), (1, .invokestatic 54, 3, []), (4, .istore_n 3, 1, [3]), (5, .iload_n 1, 1, [1]), (6, .iload_n 2, 1, [2]), (7, .ishr, 1, []), (8, .iconst 1, 1, []), (9, .iand, 1, []), (10, .iconst 1, 1, []), (11, .if_icmp .eq 38, 3, [49]), (14, .aload_n 0, 1, [0]), (15, .getfield 9, 3, []), (18, .iload_n 3, 1, [3]), (19, .bipush 8, 2, []), (21, .imul, 1, []), (22, .iload_n 2, 1, [2]), (23, .iadd, 1, []), (24, .laload, 1, []), (25, .ldc2_w 30, 3, []), (28, .lcmp, 1, []), (29, .ifCond .eq 20, 3, [49]), (32, .aload_n 0, 1, [0]), (33, .getfield 19, 3, []), (36, .iload_n 1, 1, [1]), (37, .iconst 1, 1, []), (38, .iload_n 2, 1, [2]), (39, .ishl, 1, []), (40, .ior, 1, []), (41, .laload, 1, []), (42, .ldc2_w 30, 3, []), (45, .lcmp, 1, []), (46, .ifCond .ne 7, 3, [53]), (49, .ldc2_w 30, 3, []), (52, .lreturn, 1, []), (53, .aload_n 0, 1, [0]), (54, .getfield 9, 3, []), (57, .iload_n 3, 1, [3]), (58, .bipush 8, 2, []), (60, .imul, 1, []), (61, .iload_n 2, 1, [2]), (62, .iadd, 1, []), (63, .laload, 1, []), (64, .aload_n 0, 1, [0]), (65, .getfield 19, 3, []), (68, .iload_n 1, 1, [1]), (69, .iconst 1, 1, []), (70, .iload_n 2, 1, [2]), (71, .ishl, 1, []), (72, .ior, 1, []), (73, .laload, 1, []), (74, .ladd, 1, []), (75, .lreturn, 1, [])]
set_option maxRecDepth 100000 in
theorem v_X3_sumWith : p_X3_sumWith.all (dm_vb cX3_sumWith) = true := by decide +kernel
def k_X3_sumWith : dm_Sp := fun a => match a with
  | 0 => sp_J6_bitCount_0f7a4
  | _ => fun _ _ _ => False
def x_X3_sumWith : dm_X := dm_mk [(9, 3, 0), (19, 3, 2)] [] [(30, 1152921504606846976)] [(54, 0, 1, 1000)] 2
set_option maxRecDepth 100000 in
set_option maxHeartbeats 400000 in
theorem u_X3_sumWith : dm_Pure shC x_X3_sumWith k_X3_sumWith p_X3_sumWith 4 sp_X3_sumWith := by
  intro As u Qp h
  unfold sp_X3_sumWith at h
  split at h
  · refine ⟨Nat.le_of_ble_eq_true rfl, fun G Wp hW0 hW1 hG => ?_⟩
    apply hG (fun _ => false) 53
    simp (config := { maxSteps := 2000000 }) [hW0, hW1, dm_fn, dm_fd, dm_x, dm_L0, dm_la, dm_t1, dm_sw, List.headD, dm_ic, dm_mk, dm_s1, dm_s2, dm_clr, dm_cs, dm_cc, dm_nb0, dm_nb1, Value.category, List.lookup, p_X3_sumWith, x_X3_sumWith, k_X3_sumWith, dm_cm, upd, vp_updL, dm_ui_1, dm_ui_2, dm_ul_1, dm_ul_2, sp_J6_bitCount_0f7a4, sC_0, sC_1, sC_2, sC_3, sC_4, sC_5, sC_6, sC_7, sC_8, sC_9, sC_10, sC_11, sC_12, sC_13, sC_14, sC_15, sC_16, sC_17, sC_18, sC_19, sC_20, sC_21, sC_22, sC_23, sC_24, sC_25, sC_26, sC_27, sC_28, sC_29, sC_30, sC_31, sC_32, sC_33, sC_34, sC_35, sC_36, sC_37, sC_38, sC_39, sC_40, sC_41, sC_42, sC_43, sC_44, sC_45, sC_46, sC_47, sC_48, sC_49, sC_50, sC_51]
    obtain ⟨g, j, hg, hj, hp, rfl, rfl, h⟩ := h
    obtain ⟨o1, o2⟩ := pr_or g hg j hj
    have e8 : nI (pr_pc g) * 8 + nI j = nI (8 * pr_pc g + j) := by rw [show (8 : Int32) = nI 8 from rfl, pk_mul, nI_add, Nat.mul_comm]
    have c1 : (nI (8 * pr_pc g + j)).toNatClampNeg = 8 * pr_pc g + j := nI_clamp (by omega)
    have c2 : (nI (g ||| 2 ^ j)).toNatClampNeg = g ||| 2 ^ j := nI_clamp (by omega)
    have b1 : (nI g >>> (nI j &&& 31)) &&& 1 = 1 ↔ g / 2 ^ j % 2 = 1 := by
      rw [pr_bit g hg j hj, show (1 : Int32) = nI 1 from rfl, nI_eq (by omega) (by omega)]
    refine ⟨g, hg, rfl, ?_⟩
    simp only [b1, e8, c1, o1, c2]
    have i1 : vp_in (nI (8 * pr_pc g + j)) 64 := vp_in_nI (by omega) (by omega)
    have i2 : vp_in (nI (g ||| 2 ^ j)) 256 := vp_in_nI o2 (by omega)
    unfold pr_sw at h
    refine ⟨fun q => ?_, fun q => ⟨i1, fun q2 => ?_, fun q2 => ⟨i2, fun q3 => ?_, fun q3 => ?_⟩⟩⟩
    · rw [if_pos (Or.inl q)] at h; exact h
    · rw [if_pos (Or.inr (Or.inl q2))] at h; exact h
    · rw [if_neg (fun z => z.elim q (fun z => z.elim q2 q3))] at h
      first | exact h | exact ⟨i1, i2, h⟩ | exact ⟨i1, h⟩
    · rw [if_pos (Or.inr (Or.inr q3))] at h; exact h
  · exact h.elim
set_option maxRecDepth 100000 in
theorem t_X3_sumWith (l : Launch) (D : va_G) (cA : Nat → ClassId) (ad : Nat → Nat) : dm_Met l D dm_cl cA ad shC yX3_sumWith (Cond.code yX3_sumWith cX3_sumWith 4 (dm_rt 2) :: dm_tt) ({ frames := 1, cells := 0, slots := 0, locals := 20 } : Room) sp_X3_sumWith := dm_meth (own := RX3) (X := x_X3_sumWith) (Sp := k_X3_sumWith) (prog := p_X3_sumWith) (by decide +kernel) rfl rfl (dm_FO_s ffX3 [(9, 3, 0), (19, 3, 2)] rfl dm_hT (by decide +kernel)) (dm_IO_s ifX3 jfX3 [] [(30, 1152921504606846976)] rfl rfl dm_hT (by decide +kernel) (by decide +kernel)) soC (dm_MO_of (List.forall_mem_cons.mpr ⟨dm_M1_of (t_J6_bitCount_0f7a4 l D cA ad) dm_hT (dm_mem [920, 80, 918] (by decide +kernel) (by decide +kernel)) (by decide) (by decide +kernel) (Or.inl ⟨rfl, dm_mem (ws := [.static yJ6_bitCount_0f7a4]) [919] (by decide +kernel) (by decide +kernel) _ List.mem_cons_self⟩), fun _ h => absurd h List.not_mem_nil⟩)) v_X3_sumWith u_X3_sumWith
