/-! ===== the class's net as it stands in the cells; what lacks or is too much ===== -/
/-- N NODES, M ARCS from fr to tr with pt parts: the numbers as the cells hold them -/
def cn_ok (u : dm_S) (N M : Nat) (fr tr pt : Nat → Nat) : Prop := (N ≤ 24 ∧ M ≤ 80 ∧ u.1 1 8 = nI N ∧ u.1 1 9 = nI M) ∧ ∀ a, a < M → (u.1 12 a = nI (fr a) ∧ fr a < N) ∧ (u.1 13 a = nI (tr a) ∧ tr a < N) ∧ (u.1 16 a = nI (pt a) ∧ 1 ≤ pt a ∧ pt a ≤ 4)
/-- the first lane of an ARC -/
def cn_fs (pt : Nat → Nat) : Nat → Nat
  | 0 => 0
  | a + 1 => cn_fs pt a + pt a
theorem cn_fs_le {pt : Nat → Nat} {M : Nat} (h : ∀ a, a < M → pt a ≤ 4) : ∀ a, a ≤ M → cn_fs pt a ≤ 4 * a
  | 0, _ => Nat.le_refl _
  | a + 1, ha => by
    have h1 := cn_fs_le h a (by omega)
    have h2 := h a (by omega)
    show cn_fs pt a + pt a ≤ _
    omega
/-- the lanes are laid: where each ARC's begin -/
def cn_ln (u : dm_S) (M : Nat) (pt : Nat → Nat) : Prop := ∀ a, a ≤ M → u.1 19 a = nI (cn_fs pt a)
/-- what goes on an ARC -/
def cn_am (u : dm_S) (pt : Nat → Nat) (a : Nat) : Int64 := u.2 17 (4 * a) + dm_sg (u.2 24) (cn_fs pt a) (pt a)
/-- excess behind weigh, a ARCS counted -/
def cn_ex (u : dm_S) (N : Nat) (fr tr pt : Nat → Nat) : Nat → Nat → Int64
  | 0 => fun j => if j < N then u.2 11 j else u.2 25 j
  | a + 1 => vp_updL (vp_updL (cn_ex u N fr tr pt a) (fr a) (cn_ex u N fr tr pt a (fr a) - cn_am u pt a)) (tr a) (vp_updL (cn_ex u N fr tr pt a) (fr a) (cn_ex u N fr tr pt a (fr a) - cn_am u pt a) (tr a) + cn_am u pt a)
/-- a state with another array of longs -/
def dm_sj (u : dm_S) (c : Nat) (f : Nat → Int64) : dm_S := (u.1, fun c' => if c' = c then f else u.2 c')
theorem dm_sj_1 {u : dm_S} {c : Nat} {f : Nat → Int64} : (dm_sj u c f).1 = u.1 := rfl
theorem dm_sj_2 {u : dm_S} {c c' : Nat} {f : Nat → Int64} : (dm_sj u c f).2 c' = if c' = c then f else u.2 c' := rfl
theorem dm_sj_u {u : dm_S} {c j : Nat} {f : Nat → Int64} {x : Int64} : dm_ul (dm_sj u c f) c j x = dm_sj u c (vp_updL f j x) := by
  unfold dm_ul dm_sj
  refine Prod.ext rfl ?_
  funext c'
  by_cases e : c' = c
  · simp [e]
  · simp [e]
theorem dm_sj_self {u : dm_S} {c : Nat} : dm_sj u c (u.2 c) = u := by
  unfold dm_sj
  refine Prod.ext rfl ?_
  funext c'
  by_cases e : c' = c
  · simp [e]
  · simp [e]
def sp_X1_weigh (As : List Value) (u : dm_S) (Q : Option Value → dm_S → Prop) : Prop := match As with
  | [.ref 2] => ∃ (N M : Nat) (fr tr pt : Nat → Nat), cn_ok u N M fr tr pt ∧ cn_ln u M pt ∧ Q none (dm_sj u 25 (cn_ex u N fr tr pt M))
  | _ => False
def p_X1_weigh : List dm_I := [(0, .iconst 0, 1, []), (1, .istore_n 1, 1, [1]), (2, .iload_n 1, 1, [1]), (3, .aload_n 0, 1, [0]), (4, .getfield 40, 3, []), (7, .getfield 89, 3, []), (10, .if_icmp .ge 24, 3, [34]), (13, .aload_n 0, 1, [0]), (14, .getfield 31, 3, []), (17, .iload_n 1, 1, [1]), (18, .aload_n 0, 1, [0]), (19, .getfield 40, 3, []), (22, .getfield 92, 3, []), (25, .iload_n 1, 1, [1]), (26, .laload, 1, []), (27, .lastore, 1, []), (28, .iinc 1 1, 3, []), (31, .goto (-29), 3, [2]), (34, .iconst 0, 1, []), (35, .istore_n 1, 1, [1]), (36, .iload_n 1, 1, [1]), (37, .aload_n 0, 1, [0]), (38, .getfield 40, 3, []), (41, .getfield 48, 3, []), (44, .if_icmp .ge 51, 3, [95]), (47, .aload_n 0, 1, [0]), (48, .iload_n 1, 1, [1]), (49, .invokevirtual 95, 3, []), (52, .lstore_n 2, 1, [2]), (53, .aload_n 0, 1, [0]), (54, .getfield 31, 3, []), (57, .aload_n 0, 1, [0]), (58, .getfield 40, 3, []), (61, .getfield 56, 3, []), (64, .iload_n 1, 1, [1]), (65, .iaload, 1, []), (66, .dup2, 1, []), (67, .laload, 1, []), (68, .lload_n 2, 1, [2]), (69, .lsub, 1, []), (70, .lastore, 1, []), (71, .aload_n 0, 1, [0]), (72, .getfield 31, 3, []), (75, .aload_n 0, 1, [0]), (76, .getfield 40, 3, []), (79, .getfield 59, 3, []), (82, .iload_n 1, 1, [1]), (83, .iaload, 1, []), (84, .dup2, 1, []), (85, .laload, 1, []), (86, .lload_n 2, 1, [2]), (87, .ladd, 1, []), (88, .lastore, 1, []), (89, .iinc 1 1, 3, []), (92, .goto (-56), 3, [36]), (95, .return_, 1, [])]
set_option maxRecDepth 100000 in
theorem v_X1_weigh : p_X1_weigh.all (dm_vb cX1_weigh) = true := by decide +kernel
def k_X1_weigh : dm_Sp := fun a => match a with
  | 0 => sp_X1_amountOn
  | _ => fun _ _ _ => False
def x_X1_weigh : dm_X := dm_mk [(31, 1, 7), (40, 1, 0), (48, 2, 9), (56, 2, 1), (59, 2, 2), (89, 2, 8), (92, 2, 0)] [] [] [(95, 0, 1, 1)] 0
set_option maxRecDepth 100000 in
set_option maxHeartbeats 400000 in
theorem u_X1_weigh : dm_Pure shC x_X1_weigh k_X1_weigh p_X1_weigh 4 sp_X1_weigh := by
  intro As u Qp h
  unfold sp_X1_weigh at h
  split at h
  · obtain ⟨N, M, fr, tr, pt, ⟨⟨hN, hM, eN, eM⟩, ho⟩, hln, h⟩ := h
    refine ⟨Nat.le_of_ble_eq_true rfl, fun G Wp hW0 hW1 hG => ?_⟩
    have hf := cn_fs_le (pt := pt) (M := M) (fun a ha => (ho a ha).2.2.2.2)
    have loop2 : ∀ k a : Nat, a + k = M → ∀ (o2 o3 : Option Value), G 36 [some (.ref 2), some (.int (nI a)), o2, o3] [] (dm_sj u 25 (cn_ex u N fr tr pt a)) := by
      intro k
      induction k with
      | zero =>
        intro a ha o2 o3
        apply hG (fun pc => pc == 36) 60
        simp (config := { maxSteps := 2000000 }) [hW0, hW1, dm_fn, dm_fd, dm_x, dm_L0, dm_la, dm_t1, dm_sw, List.headD, dm_ic, dm_mk, dm_s1, dm_s2, dm_clr, dm_cs, dm_cc, dm_nb0, dm_nb1, Value.category, List.lookup, p_X1_weigh, x_X1_weigh, k_X1_weigh, dm_cm, upd, vp_updL, dm_ui_1, dm_ui_2, dm_ul_1, dm_ul_2, sp_X1_amountOn, sC_0, sC_1, sC_2, sC_3, sC_4, sC_5, sC_6, sC_7, sC_8, sC_9, sC_10, sC_11, sC_12, sC_13, sC_14, sC_15, sC_16, sC_17, sC_18, sC_19, sC_20, sC_21, sC_22, sC_23, sC_24, sC_25, sC_26, sC_27, sC_28, sC_29, sC_30, sC_31, sC_32, sC_33, sC_34, sC_35, sC_36, sC_37, sC_38, sC_39, sC_40, sC_41, sC_42, sC_43, sC_44, sC_45, sC_46, sC_47, sC_48, sC_49, sC_50, sC_51]
        have e : a = M := by omega
        subst e
        simp only [dm_sj_1, eM]
        exact ⟨fun _ => h, fun q => absurd q (nI_nlt (Nat.le_refl _) (by omega))⟩
      | succ k ih =>
        intro a ha o2 o3
        apply hG (fun pc => pc == 36) 60
        simp (config := { maxSteps := 2000000 }) [hW0, hW1, dm_fn, dm_fd, dm_x, dm_L0, dm_la, dm_t1, dm_sw, List.headD, dm_ic, dm_mk, dm_s1, dm_s2, dm_clr, dm_cs, dm_cc, dm_nb0, dm_nb1, Value.category, List.lookup, p_X1_weigh, x_X1_weigh, k_X1_weigh, dm_cm, upd, vp_updL, dm_ui_1, dm_ui_2, dm_ul_1, dm_ul_2, sp_X1_amountOn, sC_0, sC_1, sC_2, sC_3, sC_4, sC_5, sC_6, sC_7, sC_8, sC_9, sC_10, sC_11, sC_12, sC_13, sC_14, sC_15, sC_16, sC_17, sC_18, sC_19, sC_20, sC_21, sC_22, sC_23, sC_24, sC_25, sC_26, sC_27, sC_28, sC_29, sC_30, sC_31, sC_32, sC_33, sC_34, sC_35, sC_36, sC_37, sC_38, sC_39, sC_40, sC_41, sC_42, sC_43, sC_44, sC_45, sC_46, sC_47, sC_48, sC_49, sC_50, sC_51]
        obtain ⟨⟨e1, l1⟩, ⟨e2, l2⟩, ⟨e3, l3, l4⟩⟩ := ho a (by omega)
        have e := ih (a + 1) (by omega)
        have c1 : (nI a).toNatClampNeg = a := nI_clamp (by omega)
        have c2 : (nI (fr a)).toNatClampNeg = fr a := nI_clamp (by omega)
        have c3 : (nI (tr a)).toNatClampNeg = tr a := nI_clamp (by omega)
        have hq : cn_fs pt a + pt a ≤ 320 := by
          have h9 : cn_fs pt a + pt a ≤ 4 * (a + 1) := hf (a + 1) (by omega)
          omega
        simp only [dm_sj_1, eM, c1, e1, e2, c2, c3, dm_sj_u, nI_1]
        exact ⟨fun q => absurd q (nI_ge (by omega) (by omega)), fun q => ⟨a, by omega, rfl, cn_fs pt a, hln a (by omega), pt a, hln (a + 1) (by omega), hq, vp_in_nI (by omega) (by omega), vp_in_nI (by omega) (by omega), vp_in_nI (by omega) (by omega), vp_in_nI (by omega) (by omega), e _ _⟩⟩
    have loop1 : ∀ k i : Nat, i + k = N → G 2 [some (.ref 2), some (.int (nI i)), none, none] [] (dm_sj u 25 (fun j => if j < i then u.2 11 j else u.2 25 j)) := by
      intro k
      induction k with
      | zero =>
        intro i hi
        apply hG (fun pc => pc == 2 || pc == 36) 60
        simp (config := { maxSteps := 2000000 }) [hW0, hW1, dm_fn, dm_fd, dm_x, dm_L0, dm_la, dm_t1, dm_sw, List.headD, dm_ic, dm_mk, dm_s1, dm_s2, dm_clr, dm_cs, dm_cc, dm_nb0, dm_nb1, Value.category, List.lookup, p_X1_weigh, x_X1_weigh, k_X1_weigh, dm_cm, upd, vp_updL, dm_ui_1, dm_ui_2, dm_ul_1, dm_ul_2, sp_X1_amountOn, sC_0, sC_1, sC_2, sC_3, sC_4, sC_5, sC_6, sC_7, sC_8, sC_9, sC_10, sC_11, sC_12, sC_13, sC_14, sC_15, sC_16, sC_17, sC_18, sC_19, sC_20, sC_21, sC_22, sC_23, sC_24, sC_25, sC_26, sC_27, sC_28, sC_29, sC_30, sC_31, sC_32, sC_33, sC_34, sC_35, sC_36, sC_37, sC_38, sC_39, sC_40, sC_41, sC_42, sC_43, sC_44, sC_45, sC_46, sC_47, sC_48, sC_49, sC_50, sC_51]
        have e : i = N := by omega
        subst e
        simp only [dm_sj_1, eN]
        exact ⟨fun _ => loop2 M 0 (by omega) none none, fun q => absurd q (nI_nlt (Nat.le_refl _) (by omega))⟩
      | succ k ih =>
        intro i hi
        apply hG (fun pc => pc == 2 || pc == 36) 60
        simp (config := { maxSteps := 2000000 }) [hW0, hW1, dm_fn, dm_fd, dm_x, dm_L0, dm_la, dm_t1, dm_sw, List.headD, dm_ic, dm_mk, dm_s1, dm_s2, dm_clr, dm_cs, dm_cc, dm_nb0, dm_nb1, Value.category, List.lookup, p_X1_weigh, x_X1_weigh, k_X1_weigh, dm_cm, upd, vp_updL, dm_ui_1, dm_ui_2, dm_ul_1, dm_ul_2, sp_X1_amountOn, sC_0, sC_1, sC_2, sC_3, sC_4, sC_5, sC_6, sC_7, sC_8, sC_9, sC_10, sC_11, sC_12, sC_13, sC_14, sC_15, sC_16, sC_17, sC_18, sC_19, sC_20, sC_21, sC_22, sC_23, sC_24, sC_25, sC_26, sC_27, sC_28, sC_29, sC_30, sC_31, sC_32, sC_33, sC_34, sC_35, sC_36, sC_37, sC_38, sC_39, sC_40, sC_41, sC_42, sC_43, sC_44, sC_45, sC_46, sC_47, sC_48, sC_49, sC_50, sC_51]
        have e := ih (i + 1) (by omega)
        have c1 : (nI i).toNatClampNeg = i := nI_clamp (by omega)
        simp only [dm_sj_1, eN, c1, dm_sj_u, nI_1]
        refine ⟨fun q => absurd q (nI_ge (by omega) (by omega)), fun q => ⟨vp_in_nI (by omega) (by omega), ?_⟩⟩
        have ef : vp_updL (fun j => if j < i then u.2 11 j else u.2 25 j) i (u.2 11 i) = fun j => if j < i + 1 then u.2 11 j else u.2 25 j := by
          funext j
          unfold vp_updL
          by_cases z : j = i
          · rw [if_pos z, if_pos (by omega), z]
          · rw [if_neg z]
            dsimp only
            by_cases y : j < i
            · rw [if_pos y, if_pos (by omega)]
            · rw [if_neg y, if_neg (by omega)]
        rw [← ef] at e
        exact e
    apply hG (fun pc => pc == 2 || pc == 36) 60
    simp (config := { maxSteps := 2000000 }) [hW0, hW1, dm_fn, dm_fd, dm_x, dm_L0, dm_la, dm_t1, dm_sw, List.headD, dm_ic, dm_mk, dm_s1, dm_s2, dm_clr, dm_cs, dm_cc, dm_nb0, dm_nb1, Value.category, List.lookup, p_X1_weigh, x_X1_weigh, k_X1_weigh, dm_cm, upd, vp_updL, dm_ui_1, dm_ui_2, dm_ul_1, dm_ul_2, sp_X1_amountOn, sC_0, sC_1, sC_2, sC_3, sC_4, sC_5, sC_6, sC_7, sC_8, sC_9, sC_10, sC_11, sC_12, sC_13, sC_14, sC_15, sC_16, sC_17, sC_18, sC_19, sC_20, sC_21, sC_22, sC_23, sC_24, sC_25, sC_26, sC_27, sC_28, sC_29, sC_30, sC_31, sC_32, sC_33, sC_34, sC_35, sC_36, sC_37, sC_38, sC_39, sC_40, sC_41, sC_42, sC_43, sC_44, sC_45, sC_46, sC_47, sC_48, sC_49, sC_50, sC_51]
    have e := loop1 N 0 (by omega)
    simp only [Nat.not_lt_zero, if_false] at e
    rw [show (fun j => u.2 25 j) = u.2 25 from rfl, dm_sj_self] at e
    exact e
  · exact h.elim
set_option maxRecDepth 100000 in
theorem t_X1_weigh (l : Launch) (D : va_G) (cA : Nat → ClassId) (ad : Nat → Nat) : dm_Met l D dm_cl cA ad shC yX1_weigh (Cond.code yX1_weigh cX1_weigh 4 (dm_rt 0) :: dm_tt) ({ frames := 2, cells := 0, slots := 0, locals := 45 } : Room) sp_X1_weigh := dm_meth (own := RX1) (X := x_X1_weigh) (Sp := k_X1_weigh) (prog := p_X1_weigh) (by decide +kernel) rfl rfl (dm_FO_s ffX1 [(31, 1, 7), (40, 1, 0), (48, 2, 9), (56, 2, 1), (59, 2, 2), (89, 2, 8), (92, 2, 0)] rfl dm_hT (by decide +kernel)) (dm_IO_s ifX1 jfX1 [] [] rfl rfl dm_hT (by decide +kernel) (by decide +kernel)) soC (dm_MO_of (List.forall_mem_cons.mpr ⟨dm_M1_of (t_X1_amountOn l D cA ad) dm_hT (dm_mem [584, 68, 581] (by decide +kernel) (by decide +kernel)) (by decide) (by decide +kernel) (Or.inr ⟨by decide, dm_mem [582, 583] (by decide +kernel) (by decide +kernel), rfl⟩), fun _ h => absurd h List.not_mem_nil⟩)) v_X1_weigh u_X1_weigh
def sp_X1_unload (As : List Value) (u : dm_S) (Q : Option Value → dm_S → Prop) : Prop := match As with
  | [.ref 2] => ∃ (N M : Nat) (fr tr pt : Nat → Nat), cn_ok u N M fr tr pt ∧ cn_ln u M pt ∧ Q none (dm_sj (dm_fj u 24 320 0) 25 (cn_ex (dm_fj u 24 320 0) N fr tr pt M))
  | _ => False
def p_X1_unload : List dm_I := [(0, .aload_n 0, 1, [0]), (1, .getfield 28, 3, []), (4, .lconst 0, 1, []), (5, .invokestatic 83, 3, []), (8, .aload_n 0, 1, [0]), (9, .invokevirtual 86, 3, []), (12, .return_, 1, [])]
set_option maxRecDepth 100000 in
theorem v_X1_unload : p_X1_unload.all (dm_vb cX1_unload) = true := by decide +kernel
def k_X1_unload : dm_Sp := fun a => match a with
  | 0 => sp_J7_fill_d0a16
  | 1 => sp_X1_weigh
  | _ => fun _ _ _ => False
def x_X1_unload : dm_X := dm_mk [(28, 1, 6)] [] [] [(83, 0, 2, 1000), (86, 1, 0, 1)] 0
set_option maxRecDepth 100000 in
set_option maxHeartbeats 400000 in
theorem u_X1_unload : dm_Pure shC x_X1_unload k_X1_unload p_X1_unload 1 sp_X1_unload := by
  intro As u Qp h
  unfold sp_X1_unload at h
  split at h
  · refine ⟨Nat.le_of_ble_eq_true rfl, fun G Wp hW0 hW1 hG => ?_⟩
    apply hG (fun _ => false) 8
    simp (config := { maxSteps := 2000000 }) [hW0, hW1, dm_fn, dm_fd, dm_x, dm_L0, dm_la, dm_t1, dm_sw, List.headD, dm_ic, dm_mk, dm_s1, dm_s2, dm_clr, dm_cs, dm_cc, dm_nb0, dm_nb1, Value.category, List.lookup, p_X1_unload, x_X1_unload, k_X1_unload, dm_cm, upd, vp_updL, dm_ui_1, dm_ui_2, dm_ul_1, dm_ul_2, sp_J7_fill_d0a16, sp_X1_weigh, sC_0, sC_1, sC_2, sC_3, sC_4, sC_5, sC_6, sC_7, sC_8, sC_9, sC_10, sC_11, sC_12, sC_13, sC_14, sC_15, sC_16, sC_17, sC_18, sC_19, sC_20, sC_21, sC_22, sC_23, sC_24, sC_25, sC_26, sC_27, sC_28, sC_29, sC_30, sC_31, sC_32, sC_33, sC_34, sC_35, sC_36, sC_37, sC_38, sC_39, sC_40, sC_41, sC_42, sC_43, sC_44, sC_45, sC_46, sC_47, sC_48, sC_49, sC_50, sC_51]
    obtain ⟨N, M, fr, tr, pt, h1, h2, h3⟩ := h
    exact ⟨320, by omega, rfl, N, M, fr, tr, pt, h1, h2, h3⟩
  · exact h.elim
set_option maxRecDepth 100000 in
theorem t_X1_unload (l : Launch) (D : va_G) (cA : Nat → ClassId) (ad : Nat → Nat) : dm_Met l D dm_cl cA ad shC yX1_unload (Cond.code yX1_unload cX1_unload 1 (dm_rt 0) :: dm_tt) ({ frames := 3, cells := 0, slots := 0, locals := 68 } : Room) sp_X1_unload := dm_meth (own := RX1) (X := x_X1_unload) (Sp := k_X1_unload) (prog := p_X1_unload) (by decide +kernel) rfl rfl (dm_FO_s ffX1 [(28, 1, 6)] rfl dm_hT (by decide +kernel)) (dm_IO_s ifX1 jfX1 [] [] rfl rfl dm_hT (by decide +kernel) (by decide +kernel)) soC (dm_MO_of (List.forall_mem_cons.mpr ⟨dm_M1_of (t_J7_fill_d0a16 l D cA ad) dm_hT (dm_mem [576, 78, 574] (by decide +kernel) (by decide +kernel)) (by decide) (by decide +kernel) (Or.inl ⟨rfl, dm_mem (ws := [.static yJ7_fill_d0a16]) [575] (by decide +kernel) (by decide +kernel) _ List.mem_cons_self⟩), List.forall_mem_cons.mpr ⟨dm_M1_of (t_X1_weigh l D cA ad) dm_hT (dm_mem [580, 68, 577] (by decide +kernel) (by decide +kernel)) (by decide) (by decide +kernel) (Or.inr ⟨by decide, dm_mem [578, 579] (by decide +kernel) (by decide +kernel), rfl⟩), fun _ h => absurd h List.not_mem_nil⟩⟩)) v_X1_unload u_X1_unload
