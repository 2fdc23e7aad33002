/-! ===== loops: the pattern ===== -/
def dm_sum (f : Nat → Int64) : Nat → Int64
  | 0 => 0
  | n + 1 => dm_sum f n + f n
def sp_X2_sumOfSupplies (As : List Value) (u : dm_S) (Q : Option Value → dm_S → Prop) : Prop := match As with
  | [.ref 1] => ∃ n : Nat, n ≤ 24 ∧ u.1 1 8 = nI n ∧ Q (some (.long (dm_sum (u.2 11) n))) u
  | _ => False
def p_X2_sumOfSupplies : List dm_I := [(0, .lconst 0, 1, []), (1, .lstore_n 1, 1, [1]), (2, .iconst 0, 1, []), (3, .istore_n 3, 1, [3]), (4, .iload_n 3, 1, [3]), (5, .aload_n 0, 1, [0]), (6, .getfield 38, 3, []), (9, .if_icmp .ge 18, 3, [27]), (12, .lload_n 1, 1, [1]), (13, .aload_n 0, 1, [0]), (14, .getfield 9, 3, []), (17, .iload_n 3, 1, [3]), (18, .laload, 1, []), (19, .ladd, 1, []), (20, .lstore_n 1, 1, [1]), (21, .iinc 3 1, 3, []), (24, .goto (-20), 3, [4]), (27, .lload_n 1, 1, [1]), (28, .lreturn, 1, [])]
set_option maxRecDepth 100000 in
theorem v_X2_sumOfSupplies : p_X2_sumOfSupplies.all (dm_vb cX2_sumOfSupplies) = true := by decide +kernel
def k_X2_sumOfSupplies : dm_Sp := fun a => match a with
  | _ => fun _ _ _ => False
def x_X2_sumOfSupplies : dm_X := dm_mk [(9, 2, 0), (38, 2, 8)] [] [] [] 2
set_option maxRecDepth 100000 in
set_option maxHeartbeats 400000 in
theorem u_X2_sumOfSupplies : dm_Pure shC x_X2_sumOfSupplies k_X2_sumOfSupplies p_X2_sumOfSupplies 4 sp_X2_sumOfSupplies := by
  intro As u Qp h
  unfold sp_X2_sumOfSupplies at h
  split at h
  · obtain ⟨n, hn, en, h⟩ := h
    refine ⟨Nat.le_of_ble_eq_true rfl, fun G Wp hW0 hW1 hG => ?_⟩
    have loop : ∀ k i : Nat, i + k = n → G 4 [some (.ref 1), some (.long (dm_sum (u.2 11) i)), none, some (.int (nI i))] [] u := by
      intro k
      induction k with
      | zero =>
        intro i hi
        apply hG (fun pc => pc == 4) 30
        simp (config := { maxSteps := 2000000 }) [hW0, hW1, dm_fn, dm_fd, dm_x, dm_L0, dm_la, dm_t1, dm_sw, List.headD, dm_ic, dm_mk, dm_s1, dm_s2, dm_clr, dm_cs, dm_cc, dm_nb0, dm_nb1, Value.category, List.lookup, p_X2_sumOfSupplies, x_X2_sumOfSupplies, k_X2_sumOfSupplies, dm_cm, upd, vp_updL, dm_ui_1, dm_ui_2, dm_ul_1, dm_ul_2, sC_0, sC_1, sC_2, sC_3, sC_4, sC_5, sC_6, sC_7, sC_8, sC_9, sC_10, sC_11, sC_12, sC_13, sC_14, sC_15, sC_16, sC_17, sC_18, sC_19, sC_20, sC_21, sC_22, sC_23, sC_24, sC_25, sC_26, sC_27, sC_28, sC_29, sC_30, sC_31, sC_32, sC_33, sC_34, sC_35, sC_36, sC_37, sC_38, sC_39, sC_40, sC_41, sC_42, sC_43, sC_44, sC_45, sC_46, sC_47, sC_48, sC_49, sC_50, sC_51]
        have e : i = n := by omega
        subst e
        exact ⟨fun _ => h, fun q => absurd (en ▸ q) (nI_nlt (Nat.le_refl i) (by omega))⟩
      | succ k ih =>
        intro i hi
        apply hG (fun pc => pc == 4) 30
        simp (config := { maxSteps := 2000000 }) [hW0, hW1, dm_fn, dm_fd, dm_x, dm_L0, dm_la, dm_t1, dm_sw, List.headD, dm_ic, dm_mk, dm_s1, dm_s2, dm_clr, dm_cs, dm_cc, dm_nb0, dm_nb1, Value.category, List.lookup, p_X2_sumOfSupplies, x_X2_sumOfSupplies, k_X2_sumOfSupplies, dm_cm, upd, vp_updL, dm_ui_1, dm_ui_2, dm_ul_1, dm_ul_2, sC_0, sC_1, sC_2, sC_3, sC_4, sC_5, sC_6, sC_7, sC_8, sC_9, sC_10, sC_11, sC_12, sC_13, sC_14, sC_15, sC_16, sC_17, sC_18, sC_19, sC_20, sC_21, sC_22, sC_23, sC_24, sC_25, sC_26, sC_27, sC_28, sC_29, sC_30, sC_31, sC_32, sC_33, sC_34, sC_35, sC_36, sC_37, sC_38, sC_39, sC_40, sC_41, sC_42, sC_43, sC_44, sC_45, sC_46, sC_47, sC_48, sC_49, sC_50, sC_51]
        have e := ih (i + 1) (by omega)
        rw [nI_succ] at e
        refine ⟨fun q => absurd (en ▸ q) (nI_ge (by omega) (by omega)), fun q => ⟨vp_in_nI (by omega) (by omega), ?_⟩⟩
        rw [nI_clamp (by omega)]
        exact e
    apply hG (fun pc => pc == 4) 30
    simp (config := { maxSteps := 2000000 }) [hW0, hW1, dm_fn, dm_fd, dm_x, dm_L0, dm_la, dm_t1, dm_sw, List.headD, dm_ic, dm_mk, dm_s1, dm_s2, dm_clr, dm_cs, dm_cc, dm_nb0, dm_nb1, Value.category, List.lookup, p_X2_sumOfSupplies, x_X2_sumOfSupplies, k_X2_sumOfSupplies, dm_cm, upd, vp_updL, dm_ui_1, dm_ui_2, dm_ul_1, dm_ul_2, sC_0, sC_1, sC_2, sC_3, sC_4, sC_5, sC_6, sC_7, sC_8, sC_9, sC_10, sC_11, sC_12, sC_13, sC_14, sC_15, sC_16, sC_17, sC_18, sC_19, sC_20, sC_21, sC_22, sC_23, sC_24, sC_25, sC_26, sC_27, sC_28, sC_29, sC_30, sC_31, sC_32, sC_33, sC_34, sC_35, sC_36, sC_37, sC_38, sC_39, sC_40, sC_41, sC_42, sC_43, sC_44, sC_45, sC_46, sC_47, sC_48, sC_49, sC_50, sC_51]
    exact loop n 0 (by omega)
  · exact h.elim
set_option maxRecDepth 100000 in
theorem t_X2_sumOfSupplies (l : Launch) (D : va_G) (cA : Nat → ClassId) (ad : Nat → Nat) : dm_Met l D dm_cl cA ad shC yX2_sumOfSupplies (Cond.code yX2_sumOfSupplies cX2_sumOfSupplies 4 (dm_rt 2) :: dm_tt) ({ frames := 0, cells := 0, slots := 0, locals := 0 } : Room) sp_X2_sumOfSupplies := dm_meth (own := RX2) (X := x_X2_sumOfSupplies) (Sp := k_X2_sumOfSupplies) (prog := p_X2_sumOfSupplies) (by decide +kernel) rfl rfl (dm_FO_s ffX2 [(9, 2, 0), (38, 2, 8)] rfl dm_hT (by decide +kernel)) (dm_IO_s ifX2 jfX2 [] [] rfl rfl dm_hT (by decide +kernel) (by decide +kernel)) soC (dm_MO_of (fun _ h => absurd h List.not_mem_nil)) v_X2_sumOfSupplies u_X2_sumOfSupplies
/-- an array of longs filled -/
def dm_fj (u : dm_S) (c n : Nat) (x : Int64) : dm_S := (u.1, fun c' => if c' = c then (fun j => if j < n then x else u.2 c j) else u.2 c')
def dm_fi (u : dm_S) (c n : Nat) (x : Int32) : dm_S := (fun c' => if c' = c then (fun j => if j < n then x else u.1 c j) else u.1 c', u.2)
theorem dm_fj_0 {u : dm_S} {c : Nat} {x : Int64} : dm_fj u c 0 x = u := by
  unfold dm_fj
  refine Prod.ext rfl ?_
  funext c' j
  simp only [Nat.not_lt_zero, if_false]
  split
  · rename_i e; rw [e]
  · rfl
theorem dm_fj_s {u : dm_S} {c i : Nat} {x : Int64} : dm_ul (dm_fj u c i x) c i x = dm_fj u c (i + 1) x := by
  unfold dm_fj dm_ul
  refine Prod.ext rfl ?_
  funext c' j
  by_cases e : c' = c
  · simp only [e, if_true, vp_updL]
    by_cases h : j = i
    · simp [h]
    · by_cases h2 : j < i
      · rw [if_neg h, if_pos h2, if_pos (by omega)]
      · rw [if_neg h, if_neg h2, if_neg (by omega)]
  · simp only [e, if_false]
theorem dm_fi_0 {u : dm_S} {c : Nat} {x : Int32} : dm_fi u c 0 x = u := by
  unfold dm_fi
  refine Prod.ext ?_ rfl
  funext c' j
  simp only [Nat.not_lt_zero, if_false]
  split
  · rename_i e; rw [e]
  · rfl
theorem dm_fi_s {u : dm_S} {c i : Nat} {x : Int32} : dm_ui (dm_fi u c i x) c i x = dm_fi u c (i + 1) x := by
  unfold dm_fi dm_ui
  refine Prod.ext ?_ rfl
  funext c' j
  by_cases e : c' = c
  · simp only [e, if_true, upd]
    by_cases h : j = i
    · simp [h]
    · by_cases h2 : j < i
      · rw [if_neg h, if_pos h2, if_pos (by omega)]
      · rw [if_neg h, if_neg h2, if_neg (by omega)]
  · simp only [e, if_false]
def sp_J7_fill_d0a16 (As : List Value) (u : dm_S) (Q : Option Value → dm_S → Prop) : Prop := match As with
  | [.ref c, .long x] => ∃ n : Nat, n ≤ 1000 ∧ shC[c]? = some (.inl (1, n)) ∧ Q none (dm_fj u c n x)
  | _ => False
def p_J7_fill_d0a16 : List dm_I := [(0, .iconst 0, 1, []), (1, .istore_n 3, 1, [3]), (2, .aload_n 0, 1, [0]), (3, .arraylength, 1, []), (4, .istore 4, 2, []), (6, .iload_n 3, 1, [3]), (7, .iload 4, 2, []), (9, .if_icmp .ge 13, 3, [22]), (12, .aload_n 0, 1, [0]), (13, .iload_n 3, 1, [3]), (14, .lload_n 1, 1, [1]), (15, .lastore, 1, []), (16, .iinc 3 1, 3, []), (19, .goto (-13), 3, [6]), (22, .return_, 1, [])]
set_option maxRecDepth 100000 in
theorem v_J7_fill_d0a16 : p_J7_fill_d0a16.all (dm_vb cJ7_fill_d0a16) = true := by decide +kernel
def k_J7_fill_d0a16 : dm_Sp := fun a => match a with
  | _ => fun _ _ _ => False
def x_J7_fill_d0a16 : dm_X := dm_mk [] [] [] [] 0
set_option maxRecDepth 100000 in
set_option maxHeartbeats 400000 in
theorem u_J7_fill_d0a16 : dm_Pure shC x_J7_fill_d0a16 k_J7_fill_d0a16 p_J7_fill_d0a16 5 sp_J7_fill_d0a16 := by
  intro As u Qp h
  unfold sp_J7_fill_d0a16 at h
  split at h
  · rename_i c x
    obtain ⟨n, hn, hc, h⟩ := h
    refine ⟨Nat.le_of_ble_eq_true rfl, fun G Wp hW0 hW1 hG => ?_⟩
    have loop : ∀ k i : Nat, i + k = n → G 6 [some (.ref c), some (.long x), none, some (.int (nI i)), some (.int (nI n))] [] (dm_fj u c i x) := by
      intro k
      induction k with
      | zero =>
        intro i hi
        apply hG (fun pc => pc == 6) 30
        simp (config := { maxSteps := 2000000 }) [hW0, hW1, dm_fn, dm_fd, dm_x, dm_L0, dm_la, dm_t1, dm_sw, List.headD, dm_ic, dm_mk, dm_s1, dm_s2, dm_clr, dm_cs, dm_cc, dm_nb0, dm_nb1, Value.category, List.lookup, p_J7_fill_d0a16, x_J7_fill_d0a16, k_J7_fill_d0a16, dm_cm, upd, vp_updL, dm_ui_1, dm_ui_2, dm_ul_1, dm_ul_2, sC_0, sC_1, sC_2, sC_3, sC_4, sC_5, sC_6, sC_7, sC_8, sC_9, sC_10, sC_11, sC_12, sC_13, sC_14, sC_15, sC_16, sC_17, sC_18, sC_19, sC_20, sC_21, sC_22, sC_23, sC_24, sC_25, sC_26, sC_27, sC_28, sC_29, sC_30, sC_31, sC_32, sC_33, sC_34, sC_35, sC_36, sC_37, sC_38, sC_39, sC_40, sC_41, sC_42, sC_43, sC_44, sC_45, sC_46, sC_47, sC_48, sC_49, sC_50, sC_51]
        have e : i = n := by omega
        subst e
        exact ⟨fun _ => h, fun q => absurd q (nI_nlt (Nat.le_refl i) (by omega))⟩
      | succ k ih =>
        intro i hi
        apply hG (fun pc => pc == 6) 30
        simp (config := { maxSteps := 2000000 }) [hW0, hW1, dm_fn, dm_fd, dm_x, dm_L0, dm_la, dm_t1, dm_sw, List.headD, dm_ic, dm_mk, dm_s1, dm_s2, dm_clr, dm_cs, dm_cc, dm_nb0, dm_nb1, Value.category, List.lookup, p_J7_fill_d0a16, x_J7_fill_d0a16, k_J7_fill_d0a16, dm_cm, upd, vp_updL, dm_ui_1, dm_ui_2, dm_ul_1, dm_ul_2, sC_0, sC_1, sC_2, sC_3, sC_4, sC_5, sC_6, sC_7, sC_8, sC_9, sC_10, sC_11, sC_12, sC_13, sC_14, sC_15, sC_16, sC_17, sC_18, sC_19, sC_20, sC_21, sC_22, sC_23, sC_24, sC_25, sC_26, sC_27, sC_28, sC_29, sC_30, sC_31, sC_32, sC_33, sC_34, sC_35, sC_36, sC_37, sC_38, sC_39, sC_40, sC_41, sC_42, sC_43, sC_44, sC_45, sC_46, sC_47, sC_48, sC_49, sC_50, sC_51]
        simp [hc]
        have e := ih (i + 1) (by omega)
        rw [nI_succ] at e
        refine ⟨fun q => absurd q (nI_ge (by omega) (by omega)), fun q => ⟨vp_in_nI (by omega) (by omega), ?_⟩⟩
        rw [nI_clamp (by omega), dm_fj_s]
        exact e
    apply hG (fun pc => pc == 6) 30
    simp (config := { maxSteps := 2000000 }) [hW0, hW1, dm_fn, dm_fd, dm_x, dm_L0, dm_la, dm_t1, dm_sw, List.headD, dm_ic, dm_mk, dm_s1, dm_s2, dm_clr, dm_cs, dm_cc, dm_nb0, dm_nb1, Value.category, List.lookup, p_J7_fill_d0a16, x_J7_fill_d0a16, k_J7_fill_d0a16, dm_cm, upd, vp_updL, dm_ui_1, dm_ui_2, dm_ul_1, dm_ul_2, sC_0, sC_1, sC_2, sC_3, sC_4, sC_5, sC_6, sC_7, sC_8, sC_9, sC_10, sC_11, sC_12, sC_13, sC_14, sC_15, sC_16, sC_17, sC_18, sC_19, sC_20, sC_21, sC_22, sC_23, sC_24, sC_25, sC_26, sC_27, sC_28, sC_29, sC_30, sC_31, sC_32, sC_33, sC_34, sC_35, sC_36, sC_37, sC_38, sC_39, sC_40, sC_41, sC_42, sC_43, sC_44, sC_45, sC_46, sC_47, sC_48, sC_49, sC_50, sC_51]
    simp [hc]
    have e := loop n 0 (by omega)
    rw [dm_fj_0] at e
    exact e
  · exact h.elim
set_option maxRecDepth 100000 in
theorem t_J7_fill_d0a16 (l : Launch) (D : va_G) (cA : Nat → ClassId) (ad : Nat → Nat) : dm_Met l D dm_cl cA ad shC yJ7_fill_d0a16 (Cond.code yJ7_fill_d0a16 cJ7_fill_d0a16 5 (dm_rt 0) :: dm_tt) ({ frames := 0, cells := 0, slots := 0, locals := 0 } : Room) sp_J7_fill_d0a16 := dm_meth (own := RJ7) (X := x_J7_fill_d0a16) (Sp := k_J7_fill_d0a16) (prog := p_J7_fill_d0a16) (by decide +kernel) rfl rfl (dm_FO_s ffJ7 [] rfl dm_hT (by decide +kernel)) (dm_IO_s ifJ7 jfJ7 [] [] rfl rfl dm_hT (by decide +kernel) (by decide +kernel)) soC (dm_MO_of (fun _ h => absurd h List.not_mem_nil)) v_J7_fill_d0a16 u_J7_fill_d0a16
def sp_J7_fill_53178 (As : List Value) (u : dm_S) (Q : Option Value → dm_S → Prop) : Prop := match As with
  | [.ref c, .int x] => ∃ n : Nat, n ≤ 1000 ∧ shC[c]? = some (.inl (0, n)) ∧ Q none (dm_fi u c n x)
  | _ => False
def p_J7_fill_53178 : List dm_I := [(0, .iconst 0, 1, []), (1, .istore_n 2, 1, [2]), (2, .aload_n 0, 1, [0]), (3, .arraylength, 1, []), (4, .istore_n 3, 1, [3]), (5, .iload_n 2, 1, [2]), (6, .iload_n 3, 1, [3]), (7, .if_icmp .ge 13, 3, [20]), (10, .aload_n 0, 1, [0]), (11, .iload_n 2, 1, [2]), (12, .iload_n 1, 1, [1]), (13, .iastore, 1, []), (14, .iinc 2 1, 3, []), (17, .goto (-12), 3, [5]), (20, .return_, 1, [])]
set_option maxRecDepth 100000 in
theorem v_J7_fill_53178 : p_J7_fill_53178.all (dm_vb cJ7_fill_53178) = true := by decide +kernel
def k_J7_fill_53178 : dm_Sp := fun a => match a with
  | _ => fun _ _ _ => False
def x_J7_fill_53178 : dm_X := dm_mk [] [] [] [] 0
set_option maxRecDepth 100000 in
set_option maxHeartbeats 400000 in
theorem u_J7_fill_53178 : dm_Pure shC x_J7_fill_53178 k_J7_fill_53178 p_J7_fill_53178 4 sp_J7_fill_53178 := by
  intro As u Qp h
  unfold sp_J7_fill_53178 at h
  split at h
  · rename_i c x
    obtain ⟨n, hn, hc, h⟩ := h
    refine ⟨Nat.le_of_ble_eq_true rfl, fun G Wp hW0 hW1 hG => ?_⟩
    have loop : ∀ k i : Nat, i + k = n → G 5 [some (.ref c), some (.int x), some (.int (nI i)), some (.int (nI n))] [] (dm_fi u c i x) := by
      intro k
      induction k with
      | zero =>
        intro i hi
        apply hG (fun pc => pc == 5) 30
        simp (config := { maxSteps := 2000000 }) [hW0, hW1, dm_fn, dm_fd, dm_x, dm_L0, dm_la, dm_t1, dm_sw, List.headD, dm_ic, dm_mk, dm_s1, dm_s2, dm_clr, dm_cs, dm_cc, dm_nb0, dm_nb1, Value.category, List.lookup, p_J7_fill_53178, x_J7_fill_53178, k_J7_fill_53178, dm_cm, upd, vp_updL, dm_ui_1, dm_ui_2, dm_ul_1, dm_ul_2, sC_0, sC_1, sC_2, sC_3, sC_4, sC_5, sC_6, sC_7, sC_8, sC_9, sC_10, sC_11, sC_12, sC_13, sC_14, sC_15, sC_16, sC_17, sC_18, sC_19, sC_20, sC_21, sC_22, sC_23, sC_24, sC_25, sC_26, sC_27, sC_28, sC_29, sC_30, sC_31, sC_32, sC_33, sC_34, sC_35, sC_36, sC_37, sC_38, sC_39, sC_40, sC_41, sC_42, sC_43, sC_44, sC_45, sC_46, sC_47, sC_48, sC_49, sC_50, sC_51]
        have e : i = n := by omega
        subst e
        exact ⟨fun _ => h, fun q => absurd q (nI_nlt (Nat.le_refl i) (by omega))⟩
      | succ k ih =>
        intro i hi
        apply hG (fun pc => pc == 5) 30
        simp (config := { maxSteps := 2000000 }) [hW0, hW1, dm_fn, dm_fd, dm_x, dm_L0, dm_la, dm_t1, dm_sw, List.headD, dm_ic, dm_mk, dm_s1, dm_s2, dm_clr, dm_cs, dm_cc, dm_nb0, dm_nb1, Value.category, List.lookup, p_J7_fill_53178, x_J7_fill_53178, k_J7_fill_53178, dm_cm, upd, vp_updL, dm_ui_1, dm_ui_2, dm_ul_1, dm_ul_2, sC_0, sC_1, sC_2, sC_3, sC_4, sC_5, sC_6, sC_7, sC_8, sC_9, sC_10, sC_11, sC_12, sC_13, sC_14, sC_15, sC_16, sC_17, sC_18, sC_19, sC_20, sC_21, sC_22, sC_23, sC_24, sC_25, sC_26, sC_27, sC_28, sC_29, sC_30, sC_31, sC_32, sC_33, sC_34, sC_35, sC_36, sC_37, sC_38, sC_39, sC_40, sC_41, sC_42, sC_43, sC_44, sC_45, sC_46, sC_47, sC_48, sC_49, sC_50, sC_51]
        simp [hc]
        have e := ih (i + 1) (by omega)
        rw [nI_succ] at e
        refine ⟨fun q => absurd q (nI_ge (by omega) (by omega)), fun q => ⟨vp_in_nI (by omega) (by omega), ?_⟩⟩
        rw [nI_clamp (by omega), dm_fi_s]
        exact e
    apply hG (fun pc => pc == 5) 30
    simp (config := { maxSteps := 2000000 }) [hW0, hW1, dm_fn, dm_fd, dm_x, dm_L0, dm_la, dm_t1, dm_sw, List.headD, dm_ic, dm_mk, dm_s1, dm_s2, dm_clr, dm_cs, dm_cc, dm_nb0, dm_nb1, Value.category, List.lookup, p_J7_fill_53178, x_J7_fill_53178, k_J7_fill_53178, dm_cm, upd, vp_updL, dm_ui_1, dm_ui_2, dm_ul_1, dm_ul_2, sC_0, sC_1, sC_2, sC_3, sC_4, sC_5, sC_6, sC_7, sC_8, sC_9, sC_10, sC_11, sC_12, sC_13, sC_14, sC_15, sC_16, sC_17, sC_18, sC_19, sC_20, sC_21, sC_22, sC_23, sC_24, sC_25, sC_26, sC_27, sC_28, sC_29, sC_30, sC_31, sC_32, sC_33, sC_34, sC_35, sC_36, sC_37, sC_38, sC_39, sC_40, sC_41, sC_42, sC_43, sC_44, sC_45, sC_46, sC_47, sC_48, sC_49, sC_50, sC_51]
    simp [hc]
    have e := loop n 0 (by omega)
    rw [dm_fi_0] at e
    exact e
  · exact h.elim
set_option maxRecDepth 100000 in
theorem t_J7_fill_53178 (l : Launch) (D : va_G) (cA : Nat → ClassId) (ad : Nat → Nat) : dm_Met l D dm_cl cA ad shC yJ7_fill_53178 (Cond.code yJ7_fill_53178 cJ7_fill_53178 4 (dm_rt 0) :: dm_tt) ({ frames := 0, cells := 0, slots := 0, locals := 0 } : Room) sp_J7_fill_53178 := dm_meth (own := RJ7) (X := x_J7_fill_53178) (Sp := k_J7_fill_53178) (prog := p_J7_fill_53178) (by decide +kernel) rfl rfl (dm_FO_s ffJ7 [] rfl dm_hT (by decide +kernel)) (dm_IO_s ifJ7 jfJ7 [] [] rfl rfl dm_hT (by decide +kernel) (by decide +kernel)) soC (dm_MO_of (fun _ h => absurd h List.not_mem_nil)) v_J7_fill_53178 u_J7_fill_53178
