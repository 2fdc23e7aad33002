/-! ===== least costs along the WAYS that were gathered ===== -/
def wg_ok (u : dm_S) (C : Nat) (nb bg en : Nat → Nat) : Prop := u.1 3 6 = nI C ∧ C ≤ 160 ∧ ∀ j, j < C → (u.1 28 j = nI (nb j) ∧ nb j < 640) ∧ (u.1 29 j = nI (bg j) ∧ bg j < 24) ∧ (u.1 30 j = nI (en j) ∧ en j < 24)
/-- one pass over the WAYS, but those left out; FAR stands for 'not reached' -/
def rf_go (bg en : Nat → Nat) (w : Nat → Int64) (on : Nat → Bool) (V : Nat → Int64) : Nat → (Nat → Int64) × Bool
  | 0 => (V, false)
  | j + 1 => if on j = true ∧ ¬ (rf_go bg en w on V j).1 (bg j) = 1152921504606846976 ∧ (rf_go bg en w on V j).1 (bg j) + w j < (rf_go bg en w on V j).1 (en j) then (vp_updL (rf_go bg en w on V j).1 (en j) ((rf_go bg en w on V j).1 (bg j) + w j), true) else rf_go bg en w on V j
def rf_it (C : Nat) (bg en : Nat → Nat) (w : Nat → Int64) (on : Nat → Bool) : Nat → (Nat → Int64) → Nat → Int64
  | 0, V => V
  | r + 1, V => if (rf_go bg en w on V C).2 then rf_it C bg en w on r (rf_go bg en w on V C).1 else (rf_go bg en w on V C).1
def wg_on (nb : Nat → Nat) (x : Int32) (j : Nat) : Bool := !decide (nI (nb j / 2) = x)
def sp_X5_lowerAll (As : List Value) (u : dm_S) (Q : Option Value → dm_S → Prop) : Prop := match As with
  | [.ref 5, .ref c, .int x] => ∃ (N C : Nat) (nb bg en : Nat → Nat), (N ≤ 24 ∧ u.1 1 8 = nI N) ∧ wg_ok u C nb bg en ∧ shC[c]? = some (.inl (1, 24)) ∧ c ≠ 31 ∧ Q none (dm_sj u c (rf_it C bg en (u.2 31) (wg_on nb x) N (u.2 c)))
  | _ => False
def p_X5_lowerAll : List dm_I := [(0, .iconst 1, 1, []), (1, .istore_n 3, 1, [3]), (2, .iconst 0, 1, []), (3, .istore 4, 2, []), (5, .iload_n 3, 1, [3]), (6, .ifCond .eq 72, 3, [78]), (9, .iload 4, 2, []), (11, .aload_n 0, 1, [0]), (12, .getfield 18, 3, []), (15, .getfield 36, 3, []), (18, .if_icmp .ge 60, 3, [78]), (21, .iconst 0, 1, []), (22, .istore_n 3, 1, [3]), (23, .iconst 0, 1, []), (24, .istore 5, 2, []), (26, .iload 5, 2, []), (28, .aload_n 0, 1, [0]), (29, .getfield 26, 3, []), (32, .getfield 68, 3, []), (35, .if_icmp .ge 37, 3, [72]), (38, .aload_n 0, 1, [0]), (39, .getfield 26, 3, []), (42, .getfield 104, 3, []), (45, .iload 5, 2, []), (47, .iaload, 1, []), (48, .iconst 1, 1, []), (49, .ishr, 1, []), (50, .iload_n 2, 1, [2]), (51, .if_icmp .eq 15, 3, [66]), (54, .aload_n 0, 1, [0]), (55, .iload 5, 2, []), (57, .aload_n 1, 1, [1]), (58, .invokevirtual 107, 3, []), (61, .ifCond .eq 5, 3, [66]), (64, .iconst 1, 1, []), (65, .istore_n 3, 1, [3]), (66, .iinc 5 1, 3, []), (69, .goto (-43), 3, [26]), (72, .iinc 4 1, 3, []), (75, .goto (-70), 3, [5]), (78, .return_, 1, [])]
set_option maxRecDepth 100000 in
theorem v_X5_lowerAll : p_X5_lowerAll.all (dm_vb cX5_lowerAll) = true := by decide +kernel
def k_X5_lowerAll : dm_Sp := fun a => match a with
  | 0 => sp_X5_lowerBy
  | _ => fun _ _ _ => False
def x_X5_lowerAll : dm_X := dm_mk [(18, 5, 0), (26, 5, 2), (36, 2, 8), (68, 9, 6), (104, 9, 2)] [] [] [(107, 0, 2, 5)] 0
set_option maxRecDepth 100000 in
set_option maxHeartbeats 800000 in
theorem u_X5_lowerAll : dm_Pure shC x_X5_lowerAll k_X5_lowerAll p_X5_lowerAll 6 sp_X5_lowerAll := by
  intro As u Qp h
  unfold sp_X5_lowerAll at h
  split at h
  · rename_i c x
    obtain ⟨N, C, nb, bg, en, ⟨hN, eN⟩, ⟨eC, hC, ho⟩, hs, hc, h⟩ := h
    refine ⟨Nat.le_of_ble_eq_true rfl, fun G Wp hW0 hW1 hG => ?_⟩
    have inner : ∀ (V : Nat → Int64) (i : Nat), (∀ o5, G 72 [some (.ref 5), some (.ref c), some (.int x), some (.int (if (rf_go bg en (u.2 31) (wg_on nb x) V C).2 then 1 else 0)), some (.int (nI i)), o5] [] (dm_sj u c (rf_go bg en (u.2 31) (wg_on nb x) V C).1)) → ∀ k j : Nat, j + k = C → G 26 [some (.ref 5), some (.ref c), some (.int x), some (.int (if (rf_go bg en (u.2 31) (wg_on nb x) V j).2 then 1 else 0)), some (.int (nI i)), some (.int (nI j))] [] (dm_sj u c (rf_go bg en (u.2 31) (wg_on nb x) V j).1) := by
      intro V i hx
      generalize hR : rf_go bg en (u.2 31) (wg_on nb x) V = R at hx
      have hRs : ∀ j, R (j + 1) = if wg_on nb x j = true ∧ ¬ (R j).1 (bg j) = 1152921504606846976 ∧ (R j).1 (bg j) + u.2 31 j < (R j).1 (en j) then (vp_updL (R j).1 (en j) ((R j).1 (bg j) + u.2 31 j), true) else R j := fun j => by rw [← hR]; rfl
      intro k
      induction k with
      | zero =>
        intro j hj
        apply hG (fun pc => pc == 26 || pc == 72) 40
        simp (config := { maxSteps := 2000000 }) [hW0, hW1, dm_fn, dm_fd, dm_x, dm_L0, dm_la, dm_t1, dm_sw, List.headD, dm_ic, dm_mk, dm_s1, dm_s2, dm_clr, dm_cs, dm_cc, dm_nb0, dm_nb1, Value.category, List.lookup, p_X5_lowerAll, x_X5_lowerAll, k_X5_lowerAll, dm_cm, upd, vp_updL, dm_ui_1, dm_ui_2, dm_ul_1, dm_ul_2, sp_X5_lowerBy, sC_0, sC_1, sC_2, sC_3, sC_4, sC_5, sC_6, sC_7, sC_8, sC_9, sC_10, sC_11, sC_12, sC_13, sC_14, sC_15, sC_16, sC_17, sC_18, sC_19, sC_20, sC_21, sC_22, sC_23, sC_24, sC_25, sC_26, sC_27, sC_28, sC_29, sC_30, sC_31, sC_32, sC_33, sC_34, sC_35, sC_36, sC_37, sC_38, sC_39, sC_40, sC_41, sC_42, sC_43, sC_44, sC_45, sC_46, sC_47, sC_48, sC_49, sC_50, sC_51]
        have e : j = C := by omega
        subst e
        simp only [dm_sj_1, eC]
        exact ⟨fun _ => hx _, fun q => absurd q (nI_nlt (Nat.le_refl _) (by omega))⟩
      | succ k ih =>
        intro j hj
        obtain ⟨⟨e1, l1⟩, ⟨e2, l2⟩, ⟨e3, l3⟩⟩ := ho j (by omega)
        have e := ih (j + 1) (by omega)
        have c1 : (nI j).toNatClampNeg = j := nI_clamp (by omega)
        have c2 : (nI (bg j)).toNatClampNeg = bg j := nI_clamp (by omega)
        have c3 : (nI (en j)).toNatClampNeg = en j := nI_clamp (by omega)
        have i1 : vp_in (nI j) 160 := vp_in_nI (by omega) (by omega)
        have hlb : dm_lb (dm_sj u c (R j).1) c j ↔ (¬ (R j).1 (bg j) = 1152921504606846976 ∧ (R j).1 (bg j) + u.2 31 j < (R j).1 (en j)) := by
          unfold dm_lb
          rw [dm_sj_1, e2, e3, c2, c3, dm_sj_2, if_pos rfl, dm_sj_2, if_neg (fun q => hc q.symm)]
        apply hG (fun pc => pc == 26 || pc == 72) 40
        simp (config := { maxSteps := 2000000 }) [hW0, hW1, dm_fn, dm_fd, dm_x, dm_L0, dm_la, dm_t1, dm_sw, List.headD, dm_ic, dm_mk, dm_s1, dm_s2, dm_clr, dm_cs, dm_cc, dm_nb0, dm_nb1, Value.category, List.lookup, p_X5_lowerAll, x_X5_lowerAll, k_X5_lowerAll, dm_cm, upd, vp_updL, dm_ui_1, dm_ui_2, dm_ul_1, dm_ul_2, sp_X5_lowerBy, sC_0, sC_1, sC_2, sC_3, sC_4, sC_5, sC_6, sC_7, sC_8, sC_9, sC_10, sC_11, sC_12, sC_13, sC_14, sC_15, sC_16, sC_17, sC_18, sC_19, sC_20, sC_21, sC_22, sC_23, sC_24, sC_25, sC_26, sC_27, sC_28, sC_29, sC_30, sC_31, sC_32, sC_33, sC_34, sC_35, sC_36, sC_37, sC_38, sC_39, sC_40, sC_41, sC_42, sC_43, sC_44, sC_45, sC_46, sC_47, sC_48, sC_49, sC_50, sC_51]
        simp only [dm_sj_1, eC, c1, e1, dm_w2 l1, nI_1]
        refine ⟨fun q => absurd q (nI_ge (by omega) (by omega)), fun q => ⟨i1, fun z => ?_, fun z => ⟨j, by omega, rfl, hs, by rw [e2]; exact vp_in_nI (by omega) (by omega), by rw [e3]; exact vp_in_nI (by omega) (by omega), fun y => ?_, fun y => ?_⟩⟩⟩
        · have e4 : R (j + 1) = R j := by rw [hRs j, if_neg (fun t => by have := t.1; simp [wg_on, z] at this)]
          rw [e4] at e
          exact e
        · rw [hlb] at y
          have e4 : R (j + 1) = (vp_updL (R j).1 (en j) ((R j).1 (bg j) + u.2 31 j), true) := by rw [hRs j, if_pos ⟨by simp [wg_on, z], y⟩]
          rw [e4] at e
          rw [e2, e3, c2, c3, dm_sj_u, dm_sj_2, if_pos rfl, dm_sj_2, if_neg (fun q => hc q.symm)]
          exact e
        · rw [hlb] at y
          have e4 : R (j + 1) = R j := by rw [hRs j, if_neg (fun t => y t.2)]
          rw [e4] at e
          exact e
    have outer : ∀ (k i : Nat) (b : Bool) (V : Nat → Int64), i + k = N → (b = true → rf_it C bg en (u.2 31) (wg_on nb x) N (u.2 c) = rf_it C bg en (u.2 31) (wg_on nb x) k V) → (b = false → rf_it C bg en (u.2 31) (wg_on nb x) N (u.2 c) = V) → ∀ o5, G 5 [some (.ref 5), some (.ref c), some (.int x), some (.int (if b then 1 else 0)), some (.int (nI i)), o5] [] (dm_sj u c V) := by
      intro k
      induction k with
      | zero =>
        intro i b V hi h1 h2 o5
        have e : rf_it C bg en (u.2 31) (wg_on nb x) N (u.2 c) = V := by
          cases b with
          | true => exact h1 rfl
          | false => exact h2 rfl
        rw [e] at h
        apply hG (fun pc => pc == 5 || pc == 26 || pc == 72) 40
        simp (config := { maxSteps := 2000000 }) [hW0, hW1, dm_fn, dm_fd, dm_x, dm_L0, dm_la, dm_t1, dm_sw, List.headD, dm_ic, dm_mk, dm_s1, dm_s2, dm_clr, dm_cs, dm_cc, dm_nb0, dm_nb1, Value.category, List.lookup, p_X5_lowerAll, x_X5_lowerAll, k_X5_lowerAll, dm_cm, upd, vp_updL, dm_ui_1, dm_ui_2, dm_ul_1, dm_ul_2, sp_X5_lowerBy, sC_0, sC_1, sC_2, sC_3, sC_4, sC_5, sC_6, sC_7, sC_8, sC_9, sC_10, sC_11, sC_12, sC_13, sC_14, sC_15, sC_16, sC_17, sC_18, sC_19, sC_20, sC_21, sC_22, sC_23, sC_24, sC_25, sC_26, sC_27, sC_28, sC_29, sC_30, sC_31, sC_32, sC_33, sC_34, sC_35, sC_36, sC_37, sC_38, sC_39, sC_40, sC_41, sC_42, sC_43, sC_44, sC_45, sC_46, sC_47, sC_48, sC_49, sC_50, sC_51]
        simp only [dm_sj_1, eN]
        exact ⟨fun _ => h, fun _ => ⟨fun _ => h, fun q => absurd q (nI_nlt (by omega) (by omega))⟩⟩
      | succ k ih =>
        intro i b V hi h1 h2 o5
        apply hG (fun pc => pc == 5 || pc == 26 || pc == 72) 40
        simp (config := { maxSteps := 2000000 }) [hW0, hW1, dm_fn, dm_fd, dm_x, dm_L0, dm_la, dm_t1, dm_sw, List.headD, dm_ic, dm_mk, dm_s1, dm_s2, dm_clr, dm_cs, dm_cc, dm_nb0, dm_nb1, Value.category, List.lookup, p_X5_lowerAll, x_X5_lowerAll, k_X5_lowerAll, dm_cm, upd, vp_updL, dm_ui_1, dm_ui_2, dm_ul_1, dm_ul_2, sp_X5_lowerBy, sC_0, sC_1, sC_2, sC_3, sC_4, sC_5, sC_6, sC_7, sC_8, sC_9, sC_10, sC_11, sC_12, sC_13, sC_14, sC_15, sC_16, sC_17, sC_18, sC_19, sC_20, sC_21, sC_22, sC_23, sC_24, sC_25, sC_26, sC_27, sC_28, sC_29, sC_30, sC_31, sC_32, sC_33, sC_34, sC_35, sC_36, sC_37, sC_38, sC_39, sC_40, sC_41, sC_42, sC_43, sC_44, sC_45, sC_46, sC_47, sC_48, sC_49, sC_50, sC_51]
        simp only [dm_sj_1, eN]
        have hs2 : rf_it C bg en (u.2 31) (wg_on nb x) (k + 1) V = if (rf_go bg en (u.2 31) (wg_on nb x) V C).2 then rf_it C bg en (u.2 31) (wg_on nb x) k (rf_go bg en (u.2 31) (wg_on nb x) V C).1 else (rf_go bg en (u.2 31) (wg_on nb x) V C).1 := rfl
        refine ⟨fun q => ?_, fun q => ⟨fun y => absurd y (nI_ge (by omega) (by omega)), fun _ => ?_⟩⟩
        · rw [h2 q] at h
          exact h
        · refine inner V i (fun o5 => ?_) C 0 (by omega)
          apply hG (fun pc => pc == 5 || pc == 26 || pc == 72) 40
          simp (config := { maxSteps := 2000000 }) [hW0, hW1, dm_fn, dm_fd, dm_x, dm_L0, dm_la, dm_t1, dm_sw, List.headD, dm_ic, dm_mk, dm_s1, dm_s2, dm_clr, dm_cs, dm_cc, dm_nb0, dm_nb1, Value.category, List.lookup, p_X5_lowerAll, x_X5_lowerAll, k_X5_lowerAll, dm_cm, upd, vp_updL, dm_ui_1, dm_ui_2, dm_ul_1, dm_ul_2, sp_X5_lowerBy, sC_0, sC_1, sC_2, sC_3, sC_4, sC_5, sC_6, sC_7, sC_8, sC_9, sC_10, sC_11, sC_12, sC_13, sC_14, sC_15, sC_16, sC_17, sC_18, sC_19, sC_20, sC_21, sC_22, sC_23, sC_24, sC_25, sC_26, sC_27, sC_28, sC_29, sC_30, sC_31, sC_32, sC_33, sC_34, sC_35, sC_36, sC_37, sC_38, sC_39, sC_40, sC_41, sC_42, sC_43, sC_44, sC_45, sC_46, sC_47, sC_48, sC_49, sC_50, sC_51]
          rw [nI_1]
          exact ih (i + 1) _ _ (by omega) (fun t => by rw [h1 q, hs2, if_pos t]) (fun t => by rw [h1 q, hs2, if_neg (by rw [t]; decide)]) o5
    apply hG (fun pc => pc == 5 || pc == 26 || pc == 72) 40
    simp (config := { maxSteps := 2000000 }) [hW0, hW1, dm_fn, dm_fd, dm_x, dm_L0, dm_la, dm_t1, dm_sw, List.headD, dm_ic, dm_mk, dm_s1, dm_s2, dm_clr, dm_cs, dm_cc, dm_nb0, dm_nb1, Value.category, List.lookup, p_X5_lowerAll, x_X5_lowerAll, k_X5_lowerAll, dm_cm, upd, vp_updL, dm_ui_1, dm_ui_2, dm_ul_1, dm_ul_2, sp_X5_lowerBy, sC_0, sC_1, sC_2, sC_3, sC_4, sC_5, sC_6, sC_7, sC_8, sC_9, sC_10, sC_11, sC_12, sC_13, sC_14, sC_15, sC_16, sC_17, sC_18, sC_19, sC_20, sC_21, sC_22, sC_23, sC_24, sC_25, sC_26, sC_27, sC_28, sC_29, sC_30, sC_31, sC_32, sC_33, sC_34, sC_35, sC_36, sC_37, sC_38, sC_39, sC_40, sC_41, sC_42, sC_43, sC_44, sC_45, sC_46, sC_47, sC_48, sC_49, sC_50, sC_51]
    have e := outer N 0 true (u.2 c) (by omega) (fun _ => rfl) (fun q => by cases q) none
    rw [dm_sj_self] at e
    exact e
  · exact h.elim
set_option maxRecDepth 100000 in
theorem t_X5_lowerAll (l : Launch) (D : va_G) (cA : Nat → ClassId) (ad : Nat → Nat) : dm_Met l D dm_cl cA ad shC yX5_lowerAll (Cond.code yX5_lowerAll cX5_lowerAll 6 (dm_rt 0) :: dm_tt) ({ frames := 1, cells := 0, slots := 0, locals := 24 } : Room) sp_X5_lowerAll := dm_meth (own := RX5) (X := x_X5_lowerAll) (Sp := k_X5_lowerAll) (prog := p_X5_lowerAll) (by decide +kernel) rfl rfl (dm_FO_s ffX5 [(18, 5, 0), (26, 5, 2), (36, 2, 8), (68, 9, 6), (104, 9, 2)] rfl dm_hT (by decide +kernel)) (dm_IO_s ifX5 jfX5 [] [] rfl rfl dm_hT (by decide +kernel) (by decide +kernel)) soC (dm_MO_of (List.forall_mem_cons.mpr ⟨dm_M1_of (t_X5_lowerBy l D cA ad) dm_hT (dm_mem [805, 71, 802] (by decide +kernel) (by decide +kernel)) (by decide) (by decide +kernel) (Or.inr ⟨by decide, dm_mem [804, 33] (by decide +kernel) (by decide +kernel), rfl⟩), fun _ h => absurd h List.not_mem_nil⟩)) v_X5_lowerAll u_X5_lowerAll
def sp_X5_measure (As : List Value) (u : dm_S) (Q : Option Value → dm_S → Prop) : Prop := match As with
  | [.ref 5] => ∃ (N C : Nat) (nb bg en : Nat → Nat), (N ≤ 24 ∧ u.1 1 8 = nI N) ∧ wg_ok u C nb bg en ∧ Q none (dm_sj u 36 (rf_it C bg en (u.2 31) (wg_on nb (-1)) N (dm_z0 u)))
  | _ => False
def p_X5_measure : List dm_I := [(0, .aload_n 0, 1, [0]), (1, .getfield 9, 3, []), (4, .lconst 0, 1, []), (5, .invokestatic 30, 3, []), (8, .aload_n 0, 1, [0]), (9, .aload_n 0, 1, [0]), (10, .getfield 9, 3, []), (13, .iconst (-1), 1, []), (14, .invokevirtual 64, 3, []), (17, .return_, 1, [])]
set_option maxRecDepth 100000 in
theorem v_X5_measure : p_X5_measure.all (dm_vb cX5_measure) = true := by decide +kernel
def k_X5_measure : dm_Sp := fun a => match a with
  | 0 => sp_J7_fill_d0a16
  | 1 => sp_X5_lowerAll
  | _ => fun _ _ _ => False
def x_X5_measure : dm_X := dm_mk [(9, 5, 3)] [] [] [(30, 0, 2, 1000), (64, 1, 2, 5)] 0
set_option maxRecDepth 100000 in
set_option maxHeartbeats 400000 in
theorem u_X5_measure : dm_Pure shC x_X5_measure k_X5_measure p_X5_measure 1 sp_X5_measure := by
  intro As u Qp h
  unfold sp_X5_measure at h
  split at h
  · refine ⟨Nat.le_of_ble_eq_true rfl, fun G Wp hW0 hW1 hG => ?_⟩
    apply hG (fun _ => false) 11
    simp (config := { maxSteps := 2000000 }) [hW0, hW1, dm_fn, dm_fd, dm_x, dm_L0, dm_la, dm_t1, dm_sw, List.headD, dm_ic, dm_mk, dm_s1, dm_s2, dm_clr, dm_cs, dm_cc, dm_nb0, dm_nb1, Value.category, List.lookup, p_X5_measure, x_X5_measure, k_X5_measure, dm_cm, upd, vp_updL, dm_ui_1, dm_ui_2, dm_ul_1, dm_ul_2, sp_J7_fill_d0a16, sp_X5_lowerAll, sC_0, sC_1, sC_2, sC_3, sC_4, sC_5, sC_6, sC_7, sC_8, sC_9, sC_10, sC_11, sC_12, sC_13, sC_14, sC_15, sC_16, sC_17, sC_18, sC_19, sC_20, sC_21, sC_22, sC_23, sC_24, sC_25, sC_26, sC_27, sC_28, sC_29, sC_30, sC_31, sC_32, sC_33, sC_34, sC_35, sC_36, sC_37, sC_38, sC_39, sC_40, sC_41, sC_42, sC_43, sC_44, sC_45, sC_46, sC_47, sC_48, sC_49, sC_50, sC_51]
    obtain ⟨N, C, nb, bg, en, h1, h2, h⟩ := h
    exact ⟨24, by omega, rfl, N, h1, C, nb, bg, en, h2, by rw [dm_fj_sj, dm_sj_sj]; exact h⟩
  · exact h.elim
set_option maxRecDepth 100000 in
theorem t_X5_measure (l : Launch) (D : va_G) (cA : Nat → ClassId) (ad : Nat → Nat) : dm_Met l D dm_cl cA ad shC yX5_measure (Cond.code yX5_measure cX5_measure 1 (dm_rt 0) :: dm_tt) ({ frames := 2, cells := 0, slots := 0, locals := 49 } : Room) sp_X5_measure := dm_meth (own := RX5) (X := x_X5_measure) (Sp := k_X5_measure) (prog := p_X5_measure) (by decide +kernel) rfl rfl (dm_FO_s ffX5 [(9, 5, 3)] rfl dm_hT (by decide +kernel)) (dm_IO_s ifX5 jfX5 [] [] rfl rfl dm_hT (by decide +kernel) (by decide +kernel)) soC (dm_MO_of (List.forall_mem_cons.mpr ⟨dm_M1_of (t_J7_fill_d0a16 l D cA ad) dm_hT (dm_mem [576, 78, 643] (by decide +kernel) (by decide +kernel)) (by decide) (by decide +kernel) (Or.inl ⟨rfl, dm_mem (ws := [.static yJ7_fill_d0a16]) [575] (by decide +kernel) (by decide +kernel) _ List.mem_cons_self⟩), List.forall_mem_cons.mpr ⟨dm_M1_of (t_X5_lowerAll l D cA ad) dm_hT (dm_mem [801, 71, 798] (by decide +kernel) (by decide +kernel)) (by decide) (by decide +kernel) (Or.inr ⟨by decide, dm_mem [800, 32] (by decide +kernel) (by decide +kernel), rfl⟩), fun _ h => absurd h List.not_mem_nil⟩⟩)) v_X5_measure u_X5_measure
/-- least costs from a NODE by the WAYS, without those of a lane -/
def wg_ds (u : dm_S) (N C : Nat) (nb bg en : Nat → Nat) (l : Int32) (f : Nat) : Nat → Int64 := rf_it C bg en (u.2 31) (wg_on nb l) N (vp_updL (fun j => if j < 24 then 1152921504606846976 else u.2 37 j) f 0)
def sp_X5_distanceWithout (As : List Value) (u : dm_S) (Q : Option Value → dm_S → Prop) : Prop := match As with
  | [.ref 5, .int l, .int a, .int b] => ∃ (N C : Nat) (nb bg en : Nat → Nat) (f t : Nat), (N ≤ 24 ∧ u.1 1 8 = nI N) ∧ wg_ok u C nb bg en ∧ (f < 24 ∧ a = nI f) ∧ (t < 24 ∧ b = nI t) ∧ Q (some (.long (wg_ds u N C nb bg en l f t))) (dm_sj u 37 (wg_ds u N C nb bg en l f))
  | _ => False
def p_X5_distanceWithout : List dm_I := [(0, .aload_n 0, 1, [0]), (1, .getfield 15, 3, []), (4, .ldc2_w 102, 3, []), (7, .invokestatic 30, 3, []), (10, .aload_n 0, 1, [0]), (11, .getfield 15, 3, []), (14, .iload_n 2, 1, [2]), (15, .lconst 0, 1, []), (16, .lastore, 1, []), (17, .aload_n 0, 1, [0]), (18, .aload_n 0, 1, [0]), (19, .getfield 15, 3, []), (22, .iload_n 1, 1, [1]), (23, .invokevirtual 64, 3, []), (26, .aload_n 0, 1, [0]), (27, .getfield 15, 3, []), (30, .iload_n 3, 1, [3]), (31, .laload, 1, []), (32, .lreturn, 1, [])]
set_option maxRecDepth 100000 in
theorem v_X5_distanceWithout : p_X5_distanceWithout.all (dm_vb cX5_distanceWithout) = true := by decide +kernel
def k_X5_distanceWithout : dm_Sp := fun a => match a with
  | 0 => sp_J7_fill_d0a16
  | 1 => sp_X5_lowerAll
  | _ => fun _ _ _ => False
def x_X5_distanceWithout : dm_X := dm_mk [(15, 5, 4)] [] [(102, 1152921504606846976)] [(30, 0, 2, 1000), (64, 1, 2, 5)] 2
set_option maxRecDepth 100000 in
set_option maxHeartbeats 400000 in
theorem u_X5_distanceWithout : dm_Pure shC x_X5_distanceWithout k_X5_distanceWithout p_X5_distanceWithout 4 sp_X5_distanceWithout := by
  intro As u Qp h
  unfold sp_X5_distanceWithout at h
  split at h
  · refine ⟨Nat.le_of_ble_eq_true rfl, fun G Wp hW0 hW1 hG => ?_⟩
    apply hG (fun _ => false) 20
    simp (config := { maxSteps := 2000000 }) [hW0, hW1, dm_fn, dm_fd, dm_x, dm_L0, dm_la, dm_t1, dm_sw, List.headD, dm_ic, dm_mk, dm_s1, dm_s2, dm_clr, dm_cs, dm_cc, dm_nb0, dm_nb1, Value.category, List.lookup, p_X5_distanceWithout, x_X5_distanceWithout, k_X5_distanceWithout, dm_cm, upd, vp_updL, dm_ui_1, dm_ui_2, dm_ul_1, dm_ul_2, sp_J7_fill_d0a16, sp_X5_lowerAll, sC_0, sC_1, sC_2, sC_3, sC_4, sC_5, sC_6, sC_7, sC_8, sC_9, sC_10, sC_11, sC_12, sC_13, sC_14, sC_15, sC_16, sC_17, sC_18, sC_19, sC_20, sC_21, sC_22, sC_23, sC_24, sC_25, sC_26, sC_27, sC_28, sC_29, sC_30, sC_31, sC_32, sC_33, sC_34, sC_35, sC_36, sC_37, sC_38, sC_39, sC_40, sC_41, sC_42, sC_43, sC_44, sC_45, sC_46, sC_47, sC_48, sC_49, sC_50, sC_51]
    obtain ⟨N, C, nb, bg, en, f, t, h1, h2, ⟨hf, rfl⟩, ⟨ht, rfl⟩, h⟩ := h
    have c1 : (nI f).toNatClampNeg = f := nI_clamp (by omega)
    have c2 : (nI t).toNatClampNeg = t := nI_clamp (by omega)
    have i1 : vp_in (nI f) 24 := vp_in_nI (by omega) (by omega)
    have i2 : vp_in (nI t) 24 := vp_in_nI (by omega) (by omega)
    simp only [c1, c2]
    refine ⟨24, by omega, rfl, i1, N, h1, C, nb, bg, en, h2, i2, ?_⟩
    rw [dm_fj_sj, dm_sj_u, dm_sj_sj]
    exact h
  · exact h.elim
set_option maxRecDepth 100000 in
theorem t_X5_distanceWithout (l : Launch) (D : va_G) (cA : Nat → ClassId) (ad : Nat → Nat) : dm_Met l D dm_cl cA ad shC yX5_distanceWithout (Cond.code yX5_distanceWithout cX5_distanceWithout 4 (dm_rt 2) :: dm_tt) ({ frames := 2, cells := 0, slots := 0, locals := 49 } : Room) sp_X5_distanceWithout := dm_meth (own := RX5) (X := x_X5_distanceWithout) (Sp := k_X5_distanceWithout) (prog := p_X5_distanceWithout) (by decide +kernel) rfl rfl (dm_FO_s ffX5 [(15, 5, 4)] rfl dm_hT (by decide +kernel)) (dm_IO_s ifX5 jfX5 [] [(102, 1152921504606846976)] rfl rfl dm_hT (by decide +kernel) (by decide +kernel)) soC (dm_MO_of (List.forall_mem_cons.mpr ⟨dm_M1_of (t_J7_fill_d0a16 l D cA ad) dm_hT (dm_mem [576, 78, 643] (by decide +kernel) (by decide +kernel)) (by decide) (by decide +kernel) (Or.inl ⟨rfl, dm_mem (ws := [.static yJ7_fill_d0a16]) [575] (by decide +kernel) (by decide +kernel) _ List.mem_cons_self⟩), List.forall_mem_cons.mpr ⟨dm_M1_of (t_X5_lowerAll l D cA ad) dm_hT (dm_mem [801, 71, 798] (by decide +kernel) (by decide +kernel)) (by decide) (by decide +kernel) (Or.inr ⟨by decide, dm_mem [800, 32] (by decide +kernel) (by decide +kernel), rfl⟩), fun _ h => absurd h List.not_mem_nil⟩⟩)) v_X5_distanceWithout u_X5_distanceWithout
def sp_X5_leastRate (As : List Value) (u : dm_S) (Q : Option Value → dm_S → Prop) : Prop := match As with
  | [.ref 5, .int x] => ∃ (N M : Nat) (fr tr pt : Nat → Nat) (C : Nat) (nb bg en : Nat → Nat) (a p : Nat), cn_ok u N M fr tr pt ∧ wg_ok u C nb bg en ∧ (a < M ∧ x = nI a) ∧ (p < 320 ∧ u.1 19 a = nI p) ∧ (lw_m u (2 * p) = 0 → Q (some (.long (-1000000002))) u) ∧ (¬ lw_m u (2 * p) = 0 → Q (some (.long (if wg_ds u N C nb bg en (nI p) (tr a) (fr a) = 1152921504606846976 then -1000000002 else -wg_ds u N C nb bg en (nI p) (tr a) (fr a)))) (dm_sj u 37 (wg_ds u N C nb bg en (nI p) (tr a))))
  | _ => False
def p_X5_leastRate : List dm_I := [(0, .aload_n 0, 1, [0]), (1, .getfield 22, 3, []), (4, .getfield 90, 3, []), (7, .iload_n 1, 1, [1]), (8, .iaload, 1, []), (9, .istore_n 2, 1, [2]), (10, .aload_n 0, 1, [0]), (11, .getfield 22, 3, []), (14, .iconst 2, 1, []), (15, .iload_n 2, 1, [2]), (16, .imul, 1, []), (17, .invokevirtual 93, 3, []), (20, .lconst 0, 1, []), (21, .lcmp, 1, []), (22, .ifCond .ne 7, 3, [29]), (25, .ldc2_w 96, 3, []), (28, .lreturn, 1, []), (29, .aload_n 0, 1, [0]), (30, .iload_n 2, 1, [2]), (31, .aload_n 0, 1, [0]), (32, .getfield 18, 3, []), (35, .getfield 61, 3, []), (38, .iload_n 1, 1, [1]), (39, .iaload, 1, []), (40, .aload_n 0, 1, [0]), (41, .getfield 18, 3, []), (44, .getfield 49, 3, []), (47, .iload_n 1, 1, [1]), (48, .iaload, 1, []), (49, .invokevirtual 98, 3, []), (52, .lstore_n 3, 1, [3]), (53, .lload_n 3, 1, [3]), (54, .ldc2_w 102, 3, []), (57, .lcmp, 1, []), (58, .ifCond .ne 9, 3, [67]), (61, .ldc2_w 96, 3, []), (64, .goto 5, 3, [69]), (67, .lload_n 3, 1, [3]), (68, .lneg, 1, []), (69, .lreturn, 1, [])]
set_option maxRecDepth 100000 in
theorem v_X5_leastRate : p_X5_leastRate.all (dm_vb cX5_leastRate) = true := by decide +kernel
def k_X5_leastRate : dm_Sp := fun a => match a with
  | 0 => sp_X1_roomOf
  | 1 => sp_X5_distanceWithout
  | _ => fun _ _ _ => False
def x_X5_leastRate : dm_X := dm_mk [(18, 5, 0), (22, 5, 1), (49, 2, 1), (61, 2, 2), (90, 1, 1)] [] [(96, -1000000002), (102, 1152921504606846976)] [(93, 0, 1, 1), (98, 1, 3, 5)] 2
set_option maxRecDepth 100000 in
set_option maxHeartbeats 400000 in
theorem u_X5_leastRate : dm_Pure shC x_X5_leastRate k_X5_leastRate p_X5_leastRate 5 sp_X5_leastRate := by
  intro As u Qp h
  unfold sp_X5_leastRate at h
  split at h
  · refine ⟨Nat.le_of_ble_eq_true rfl, fun G Wp hW0 hW1 hG => ?_⟩
    apply hG (fun _ => false) 41
    simp (config := { maxSteps := 2000000 }) [hW0, hW1, dm_fn, dm_fd, dm_x, dm_L0, dm_la, dm_t1, dm_sw, List.headD, dm_ic, dm_mk, dm_s1, dm_s2, dm_clr, dm_cs, dm_cc, dm_nb0, dm_nb1, Value.category, List.lookup, p_X5_leastRate, x_X5_leastRate, k_X5_leastRate, dm_cm, upd, vp_updL, dm_ui_1, dm_ui_2, dm_ul_1, dm_ul_2, sp_X1_roomOf, sp_X5_distanceWithout, sC_0, sC_1, sC_2, sC_3, sC_4, sC_5, sC_6, sC_7, sC_8, sC_9, sC_10, sC_11, sC_12, sC_13, sC_14, sC_15, sC_16, sC_17, sC_18, sC_19, sC_20, sC_21, sC_22, sC_23, sC_24, sC_25, sC_26, sC_27, sC_28, sC_29, sC_30, sC_31, sC_32, sC_33, sC_34, sC_35, sC_36, sC_37, sC_38, sC_39, sC_40, sC_41, sC_42, sC_43, sC_44, sC_45, sC_46, sC_47, sC_48, sC_49, sC_50, sC_51]
    obtain ⟨N, M, fr, tr, pt, C, nb, bg, en, a, p, ⟨⟨hN, hM, eN, eM⟩, ho⟩, hw, ⟨ha, rfl⟩, ⟨hp, e5⟩, h1, h2⟩ := h
    have c1 : (nI a).toNatClampNeg = a := nI_clamp (by omega)
    have f1 := (ho a ha).2.1
    have f2 := (ho a ha).1
    refine ⟨vp_in_nI (by omega) (by omega), 2 * p, by omega, by rw [c1, e5, show (2 : Int32) = nI 2 from rfl, pk_mul], fun z => ⟨vp_in_nI (by omega) (by omega), N, ⟨hN, eN⟩, C, nb, bg, en, hw, tr a, ⟨by omega, by rw [c1]; exact f1.1⟩, fr a, ⟨by omega, by rw [c1]; exact f2.1⟩, ?_⟩, h1⟩
    have h3 := h2 z
    rw [c1, e5]
    refine ⟨fun y => ?_, fun y => ?_⟩
    · rw [if_neg y] at h3; exact h3
    · rw [if_pos y] at h3; exact h3
  · exact h.elim
set_option maxRecDepth 100000 in
theorem t_X5_leastRate (l : Launch) (D : va_G) (cA : Nat → ClassId) (ad : Nat → Nat) : dm_Met l D dm_cl cA ad shC yX5_leastRate (Cond.code yX5_leastRate cX5_leastRate 5 (dm_rt 2) :: dm_tt) ({ frames := 3, cells := 0, slots := 0, locals := 72 } : Room) sp_X5_leastRate := dm_meth (own := RX5) (X := x_X5_leastRate) (Sp := k_X5_leastRate) (prog := p_X5_leastRate) (by decide +kernel) rfl rfl (dm_FO_s ffX5 [(18, 5, 0), (22, 5, 1), (49, 2, 1), (61, 2, 2), (90, 1, 1)] rfl dm_hT (by decide +kernel)) (dm_IO_s ifX5 jfX5 [] [(96, -1000000002), (102, 1152921504606846976)] rfl rfl dm_hT (by decide +kernel) (by decide +kernel)) soC (dm_MO_of (List.forall_mem_cons.mpr ⟨dm_M1_of (t_X1_roomOf l D cA ad) dm_hT (dm_mem [618, 68, 865] (by decide +kernel) (by decide +kernel)) (by decide) (by decide +kernel) (Or.inr ⟨by decide, dm_mem [616, 617] (by decide +kernel) (by decide +kernel), rfl⟩), List.forall_mem_cons.mpr ⟨dm_M1_of (t_X5_distanceWithout l D cA ad) dm_hT (dm_mem [870, 71, 867] (by decide +kernel) (by decide +kernel)) (by decide) (by decide +kernel) (Or.inr ⟨by decide, dm_mem [869, 36] (by decide +kernel) (by decide +kernel), rfl⟩), fun _ h => absurd h List.not_mem_nil⟩⟩)) v_X5_leastRate u_X5_leastRate
def sp_X5_greatestRate (As : List Value) (u : dm_S) (Q : Option Value → dm_S → Prop) : Prop := match As with
  | [.ref 5, .int x] => ∃ (N M : Nat) (fr tr pt : Nat → Nat) (C : Nat) (nb bg en : Nat → Nat) (a p : Nat), cn_ok u N M fr tr pt ∧ wg_ok u C nb bg en ∧ (a < M ∧ x = nI a) ∧ (p < 320 ∧ u.1 19 a = nI p) ∧ (lw_m u (2 * p + 1) = 0 → Q (some (.long (-1000000002))) u) ∧ (¬ lw_m u (2 * p + 1) = 0 → Q (some (.long (if wg_ds u N C nb bg en (nI p) (fr a) (tr a) = 1152921504606846976 then -1000000002 else wg_ds u N C nb bg en (nI p) (fr a) (tr a)))) (dm_sj u 37 (wg_ds u N C nb bg en (nI p) (fr a))))
  | _ => False
def p_X5_greatestRate : List dm_I := [(0, .aload_n 0, 1, [0]), (1, .getfield 22, 3, []), (4, .getfield 90, 3, []), (7, .iload_n 1, 1, [1]), (8, .iaload, 1, []), (9, .istore_n 2, 1, [2]), (10, .aload_n 0, 1, [0]), (11, .getfield 22, 3, []), (14, .iconst 2, 1, []), (15, .iload_n 2, 1, [2]), (16, .imul, 1, []), (17, .iconst 1, 1, []), (18, .iadd, 1, []), (19, .invokevirtual 93, 3, []), (22, .lconst 0, 1, []), (23, .lcmp, 1, []), (24, .ifCond .ne 7, 3, [31]), (27, .ldc2_w 96, 3, []), (30, .lreturn, 1, []), (31, .aload_n 0, 1, [0]), (32, .iload_n 2, 1, [2]), (33, .aload_n 0, 1, [0]), (34, .getfield 18, 3, []), (37, .getfield 49, 3, []), (40, .iload_n 1, 1, [1]), (41, .iaload, 1, []), (42, .aload_n 0, 1, [0]), (43, .getfield 18, 3, []), (46, .getfield 61, 3, []), (49, .iload_n 1, 1, [1]), (50, .iaload, 1, []), (51, .invokevirtual 98, 3, []), (54, .lstore_n 3, 1, [3]), (55, .lload_n 3, 1, [3]), (56, .ldc2_w 102, 3, []), (59, .lcmp, 1, []), (60, .ifCond .ne 9, 3, [69]), (63, .ldc2_w 96, 3, []), (66, .goto 4, 3, [70]), (69, .lload_n 3, 1, [3]), (70, .lreturn, 1, [])]
set_option maxRecDepth 100000 in
theorem v_X5_greatestRate : p_X5_greatestRate.all (dm_vb cX5_greatestRate) = true := by decide +kernel
def k_X5_greatestRate : dm_Sp := fun a => match a with
  | 0 => sp_X1_roomOf
  | 1 => sp_X5_distanceWithout
  | _ => fun _ _ _ => False
def x_X5_greatestRate : dm_X := dm_mk [(18, 5, 0), (22, 5, 1), (49, 2, 1), (61, 2, 2), (90, 1, 1)] [] [(96, -1000000002), (102, 1152921504606846976)] [(93, 0, 1, 1), (98, 1, 3, 5)] 2
set_option maxRecDepth 100000 in
set_option maxHeartbeats 400000 in
theorem u_X5_greatestRate : dm_Pure shC x_X5_greatestRate k_X5_greatestRate p_X5_greatestRate 5 sp_X5_greatestRate := by
  intro As u Qp h
  unfold sp_X5_greatestRate at h
  split at h
  · refine ⟨Nat.le_of_ble_eq_true rfl, fun G Wp hW0 hW1 hG => ?_⟩
    apply hG (fun _ => false) 42
    simp (config := { maxSteps := 2000000 }) [hW0, hW1, dm_fn, dm_fd, dm_x, dm_L0, dm_la, dm_t1, dm_sw, List.headD, dm_ic, dm_mk, dm_s1, dm_s2, dm_clr, dm_cs, dm_cc, dm_nb0, dm_nb1, Value.category, List.lookup, p_X5_greatestRate, x_X5_greatestRate, k_X5_greatestRate, dm_cm, upd, vp_updL, dm_ui_1, dm_ui_2, dm_ul_1, dm_ul_2, sp_X1_roomOf, sp_X5_distanceWithout, sC_0, sC_1, sC_2, sC_3, sC_4, sC_5, sC_6, sC_7, sC_8, sC_9, sC_10, sC_11, sC_12, sC_13, sC_14, sC_15, sC_16, sC_17, sC_18, sC_19, sC_20, sC_21, sC_22, sC_23, sC_24, sC_25, sC_26, sC_27, sC_28, sC_29, sC_30, sC_31, sC_32, sC_33, sC_34, sC_35, sC_36, sC_37, sC_38, sC_39, sC_40, sC_41, sC_42, sC_43, sC_44, sC_45, sC_46, sC_47, sC_48, sC_49, sC_50, sC_51]
    obtain ⟨N, M, fr, tr, pt, C, nb, bg, en, a, p, ⟨⟨hN, hM, eN, eM⟩, ho⟩, hw, ⟨ha, rfl⟩, ⟨hp, e5⟩, h1, h2⟩ := h
    have c1 : (nI a).toNatClampNeg = a := nI_clamp (by omega)
    have f1 := (ho a ha).1
    have f2 := (ho a ha).2.1
    refine ⟨vp_in_nI (by omega) (by omega), 2 * p + 1, by omega, by rw [c1, e5, show (2 : Int32) = nI 2 from rfl, pk_mul, nI_1], fun z => ⟨vp_in_nI (by omega) (by omega), N, ⟨hN, eN⟩, C, nb, bg, en, hw, fr a, ⟨by omega, by rw [c1]; exact f1.1⟩, tr a, ⟨by omega, by rw [c1]; exact f2.1⟩, ?_⟩, h1⟩
    have h3 := h2 z
    rw [c1, e5]
    refine ⟨fun y => ?_, fun y => ?_⟩
    · rw [if_neg y] at h3; exact h3
    · rw [if_pos y] at h3; exact h3
  · exact h.elim
set_option maxRecDepth 100000 in
theorem t_X5_greatestRate (l : Launch) (D : va_G) (cA : Nat → ClassId) (ad : Nat → Nat) : dm_Met l D dm_cl cA ad shC yX5_greatestRate (Cond.code yX5_greatestRate cX5_greatestRate 5 (dm_rt 2) :: dm_tt) ({ frames := 3, cells := 0, slots := 0, locals := 72 } : Room) sp_X5_greatestRate := dm_meth (own := RX5) (X := x_X5_greatestRate) (Sp := k_X5_greatestRate) (prog := p_X5_greatestRate) (by decide +kernel) rfl rfl (dm_FO_s ffX5 [(18, 5, 0), (22, 5, 1), (49, 2, 1), (61, 2, 2), (90, 1, 1)] rfl dm_hT (by decide +kernel)) (dm_IO_s ifX5 jfX5 [] [(96, -1000000002), (102, 1152921504606846976)] rfl rfl dm_hT (by decide +kernel) (by decide +kernel)) soC (dm_MO_of (List.forall_mem_cons.mpr ⟨dm_M1_of (t_X1_roomOf l D cA ad) dm_hT (dm_mem [618, 68, 865] (by decide +kernel) (by decide +kernel)) (by decide) (by decide +kernel) (Or.inr ⟨by decide, dm_mem [616, 617] (by decide +kernel) (by decide +kernel), rfl⟩), List.forall_mem_cons.mpr ⟨dm_M1_of (t_X5_distanceWithout l D cA ad) dm_hT (dm_mem [870, 71, 867] (by decide +kernel) (by decide +kernel)) (by decide) (by decide +kernel) (Or.inr ⟨by decide, dm_mem [869, 36] (by decide +kernel) (by decide +kernel), rfl⟩), fun _ h => absurd h List.not_mem_nil⟩⟩)) v_X5_greatestRate u_X5_greatestRate
