/-! ===== prices that fall along ENDLESS ARCS: the same passes in both ===== -/
/-- one pass over a ARCS: what each value is then, and whether one fell -/
def rx_go (fr tr : Nat → Nat) (w : Nat → Int64) (on : Nat → Bool) (V : Nat → Int64) : Nat → (Nat → Int64) × Bool
  | 0 => (V, false)
  | a + 1 => if on a = true ∧ (rx_go fr tr w on V a).1 (fr a) + w a < (rx_go fr tr w on V a).1 (tr a) then (vp_updL (rx_go fr tr w on V a).1 (tr a) ((rx_go fr tr w on V a).1 (fr a) + w a), true) else rx_go fr tr w on V a
/-- passes until none falls: r of them at most; whether it came to rest -/
def rx_it (M : Nat) (fr tr : Nat → Nat) (w : Nat → Int64) (on : Nat → Bool) : Nat → (Nat → Int64) → (Nat → Int64) × Bool
  | 0, V => (V, false)
  | r + 1, V => if (rx_go fr tr w on V M).2 then rx_it M fr tr w on r (rx_go fr tr w on V M).1 else ((rx_go fr tr w on V M).1, true)
def cn_lw (u : dm_S) (pt : Nat → Nat) (a : Nat) : Int64 := u.2 18 (4 * a + pt a - 1)
def cn_en (u : dm_S) (a : Nat) : Bool := !decide (u.1 14 a = 0)
theorem dm_lp {a q : Nat} (h : 1 ≤ q) : nI a * 4 + nI q - 1 = nI (4 * a + q - 1) := by
  rw [show (4 : Int32) = nI 4 from rfl, pk_mul, nI_add, show a * 4 + q = (4 * a + q - 1) + 1 by omega, nI_pred]
theorem dm_nz (b : Bool) : narrow .boolean (.int (if b then 1 else 0)) = .int (if b then 1 else 0) := by cases b <;> rfl
def sp_X5_lowerByEndless (As : List Value) (u : dm_S) (Q : Option Value → dm_S → Prop) : Prop := match As with
  | [.ref 5] => ∃ (N M : Nat) (fr tr pt : Nat → Nat), cn_ok u N M fr tr pt ∧ Q (some (.int (if (rx_go fr tr (cn_lw u pt) (cn_en u) (u.2 36) M).2 then 1 else 0))) (dm_sj u 36 (rx_go fr tr (cn_lw u pt) (cn_en u) (u.2 36) M).1)
  | _ => False
def p_X5_lowerByEndless : List dm_I := [(0, .iconst 0, 1, []), (1, .istore_n 1, 1, [1]), (2, .iconst 0, 1, []), (3, .istore_n 2, 1, [2]), (4, .iload_n 2, 1, [2]), (5, .aload_n 0, 1, [0]), (6, .getfield 18, 3, []), (9, .getfield 46, 3, []), (12, .if_icmp .ge 81, 3, [93]), (15, .aload_n 0, 1, [0]), (16, .getfield 9, 3, []), (19, .aload_n 0, 1, [0]), (20, .getfield 18, 3, []), (23, .getfield 49, 3, []), (26, .iload_n 2, 1, [2]), (27, .iaload, 1, []), (28, .laload, 1, []), (29, .aload_n 0, 1, [0]), (30, .getfield 18, 3, []), (33, .iload_n 2, 1, [2]), (34, .invokevirtual 53, 3, []), (37, .ladd, 1, []), (38, .lstore_n 3, 1, [3]), (39, .aload_n 0, 1, [0]), (40, .getfield 18, 3, []), (43, .getfield 57, 3, []), (46, .iload_n 2, 1, [2]), (47, .baload, 1, []), (48, .ifCond .eq 39, 3, [87]), (51, .lload_n 3, 1, [3]), (52, .aload_n 0, 1, [0]), (53, .getfield 9, 3, []), (56, .aload_n 0, 1, [0]), (57, .getfield 18, 3, []), (60, .getfield 61, 3, []), (63, .iload_n 2, 1, [2]), (64, .iaload, 1, []), (65, .laload, 1, []), (66, .lcmp, 1, []), (67, .ifCond .ge 20, 3, [87]), (70, .aload_n 0, 1, [0]), (71, .getfield 9, 3, []), (74, .aload_n 0, 1, [0]), (75, .getfield 18, 3, []), (78, .getfield 61, 3, []), (81, .iload_n 2, 1, [2]), (82, .iaload, 1, []), (83, .lload_n 3, 1, [3]), (84, .lastore, 1, []), (85, .iconst 1, 1, []), (86, .istore_n 1, 1, [1]), (87, .iinc 2 1, 3, []), (90, .goto (-86), 3, [4]), (93, .iload_n 1, 1, [1]), (94, .ireturn, 1, [])]
set_option maxRecDepth 100000 in
theorem v_X5_lowerByEndless : p_X5_lowerByEndless.all (dm_vb cX5_lowerByEndless) = true := by decide +kernel
def k_X5_lowerByEndless : dm_Sp := fun a => match a with
  | 0 => sp_X2_lastRate
  | _ => fun _ _ _ => False
def x_X5_lowerByEndless : dm_X := dm_mk [(9, 5, 3), (18, 5, 0), (46, 2, 9), (49, 2, 1), (57, 2, 3), (61, 2, 2)] [] [] [(53, 0, 1, 2)] 3
set_option maxRecDepth 100000 in
set_option maxHeartbeats 400000 in
theorem u_X5_lowerByEndless : dm_Pure shC x_X5_lowerByEndless k_X5_lowerByEndless p_X5_lowerByEndless 5 sp_X5_lowerByEndless := by
  intro As u Qp h
  unfold sp_X5_lowerByEndless at h
  split at h
  · obtain ⟨N, M, fr, tr, pt, ⟨⟨hN, hM, eN, eM⟩, ho⟩, h⟩ := h
    refine ⟨Nat.le_of_ble_eq_true rfl, fun G Wp hW0 hW1 hG => ?_⟩
    generalize hR : rx_go fr tr (cn_lw u pt) (cn_en u) (u.2 36) = R at h
    have hRs : ∀ a, R (a + 1) = if cn_en u a = true ∧ (R a).1 (fr a) + cn_lw u pt a < (R a).1 (tr a) then (vp_updL (R a).1 (tr a) ((R a).1 (fr a) + cn_lw u pt a), true) else R a := fun a => by rw [← hR]; rfl
    have loop : ∀ k a : Nat, a + k = M → ∀ (o3 o4 : Option Value), G 4 [some (.ref 5), some (.int (if (R a).2 then 1 else 0)), some (.int (nI a)), o3, o4] [] (dm_sj u 36 (R a).1) := by
      intro k
      induction k with
      | zero =>
        intro a ha o3 o4
        apply hG (fun pc => pc == 4) 60
        simp (config := { maxSteps := 2000000 }) [hW0, hW1, dm_fn, dm_fd, dm_x, dm_L0, dm_la, dm_t1, dm_sw, List.headD, dm_ic, dm_mk, dm_s1, dm_s2, dm_clr, dm_cs, dm_cc, dm_nb0, dm_nb1, Value.category, List.lookup, p_X5_lowerByEndless, x_X5_lowerByEndless, k_X5_lowerByEndless, dm_cm, upd, vp_updL, dm_ui_1, dm_ui_2, dm_ul_1, dm_ul_2, sp_X2_lastRate, sC_0, sC_1, sC_2, sC_3, sC_4, sC_5, sC_6, sC_7, sC_8, sC_9, sC_10, sC_11, sC_12, sC_13, sC_14, sC_15, sC_16, sC_17, sC_18, sC_19, sC_20, sC_21, sC_22, sC_23, sC_24, sC_25, sC_26, sC_27, sC_28, sC_29, sC_30, sC_31, sC_32, sC_33, sC_34, sC_35, sC_36, sC_37, sC_38, sC_39, sC_40, sC_41, sC_42, sC_43, sC_44, sC_45, sC_46, sC_47, sC_48, sC_49, sC_50, sC_51]
        have e : a = M := by omega
        subst e
        simp only [dm_sj_1, eM]
        exact ⟨fun _ => ⟨dm_nz _, h⟩, fun q => absurd q (nI_nlt (Nat.le_refl _) (by omega))⟩
      | succ k ih =>
        intro a ha o3 o4
        obtain ⟨⟨e1, l1⟩, ⟨e2, l2⟩, ⟨e3, l3, l4⟩⟩ := ho a (by omega)
        have e := ih (a + 1) (by omega)
        have c1 : (nI a).toNatClampNeg = a := nI_clamp (by omega)
        have c2 : (nI (fr a)).toNatClampNeg = fr a := nI_clamp (by omega)
        have c3 : (nI (tr a)).toNatClampNeg = tr a := nI_clamp (by omega)
        have c4 : (nI (4 * a + pt a - 1)).toNatClampNeg = 4 * a + pt a - 1 := nI_clamp (by omega)
        apply hG (fun pc => pc == 4) 60
        simp (config := { maxSteps := 2000000 }) [hW0, hW1, dm_fn, dm_fd, dm_x, dm_L0, dm_la, dm_t1, dm_sw, List.headD, dm_ic, dm_mk, dm_s1, dm_s2, dm_clr, dm_cs, dm_cc, dm_nb0, dm_nb1, Value.category, List.lookup, p_X5_lowerByEndless, x_X5_lowerByEndless, k_X5_lowerByEndless, dm_cm, upd, vp_updL, dm_ui_1, dm_ui_2, dm_ul_1, dm_ul_2, sp_X2_lastRate, sC_0, sC_1, sC_2, sC_3, sC_4, sC_5, sC_6, sC_7, sC_8, sC_9, sC_10, sC_11, sC_12, sC_13, sC_14, sC_15, sC_16, sC_17, sC_18, sC_19, sC_20, sC_21, sC_22, sC_23, sC_24, sC_25, sC_26, sC_27, sC_28, sC_29, sC_30, sC_31, sC_32, sC_33, sC_34, sC_35, sC_36, sC_37, sC_38, sC_39, sC_40, sC_41, sC_42, sC_43, sC_44, sC_45, sC_46, sC_47, sC_48, sC_49, sC_50, sC_51]
        simp only [dm_sj_1, eM, c1, e1, e2, c2, c3, e3, dm_lp l3, c4, dm_sj_u, nI_1]
        have i1 : vp_in (nI a) 80 := vp_in_nI (by omega) (by omega)
        have i2 : vp_in (nI (tr a)) 24 := vp_in_nI (by omega) (by omega)
        refine ⟨fun q => absurd q (nI_ge (by omega) (by omega)), fun q => ⟨i1, vp_in_nI (by omega) (by omega), i1, vp_in_nI (by omega) (by omega), i1, fun z => ?_, fun z => ⟨i1, i2, fun y => ?_, fun y => ⟨i1, i2, ?_⟩⟩⟩⟩
        · have e4 : R (a + 1) = R a := by rw [hRs a, if_neg (fun x => by have := x.1; simp [cn_en, z] at this)]
          rw [e4] at e
          exact e _ _
        · have e4 : R (a + 1) = R a := by rw [hRs a, if_neg (fun x => dm_l_lt.mpr y x.2)]
          rw [e4] at e
          exact e _ _
        · have e4 : R (a + 1) = (vp_updL (R a).1 (tr a) ((R a).1 (fr a) + cn_lw u pt a), true) := by rw [hRs a, if_pos ⟨by simp [cn_en, z], y⟩]
          rw [e4] at e
          exact e _ _
    apply hG (fun pc => pc == 4) 60
    simp (config := { maxSteps := 2000000 }) [hW0, hW1, dm_fn, dm_fd, dm_x, dm_L0, dm_la, dm_t1, dm_sw, List.headD, dm_ic, dm_mk, dm_s1, dm_s2, dm_clr, dm_cs, dm_cc, dm_nb0, dm_nb1, Value.category, List.lookup, p_X5_lowerByEndless, x_X5_lowerByEndless, k_X5_lowerByEndless, dm_cm, upd, vp_updL, dm_ui_1, dm_ui_2, dm_ul_1, dm_ul_2, sp_X2_lastRate, sC_0, sC_1, sC_2, sC_3, sC_4, sC_5, sC_6, sC_7, sC_8, sC_9, sC_10, sC_11, sC_12, sC_13, sC_14, sC_15, sC_16, sC_17, sC_18, sC_19, sC_20, sC_21, sC_22, sC_23, sC_24, sC_25, sC_26, sC_27, sC_28, sC_29, sC_30, sC_31, sC_32, sC_33, sC_34, sC_35, sC_36, sC_37, sC_38, sC_39, sC_40, sC_41, sC_42, sC_43, sC_44, sC_45, sC_46, sC_47, sC_48, sC_49, sC_50, sC_51]
    have e := loop M 0 (by omega) none none
    rw [show R 0 = (u.2 36, false) from by rw [← hR]; rfl, dm_sj_self] at e
    exact e
  · exact h.elim
set_option maxRecDepth 100000 in
theorem t_X5_lowerByEndless (l : Launch) (D : va_G) (cA : Nat → ClassId) (ad : Nat → Nat) : dm_Met l D dm_cl cA ad shC yX5_lowerByEndless (Cond.code yX5_lowerByEndless cX5_lowerByEndless 5 (dm_rt 3) :: dm_tt) ({ frames := 2, cells := 0, slots := 0, locals := 42 } : Room) sp_X5_lowerByEndless := dm_meth (own := RX5) (X := x_X5_lowerByEndless) (Sp := k_X5_lowerByEndless) (prog := p_X5_lowerByEndless) (by decide +kernel) rfl rfl (dm_FO_s ffX5 [(9, 5, 3), (18, 5, 0), (46, 2, 9), (49, 2, 1), (57, 2, 3), (61, 2, 2)] rfl dm_hT (by decide +kernel)) (dm_IO_s ifX5 jfX5 [] [] rfl rfl dm_hT (by decide +kernel) (by decide +kernel)) soC (dm_MO_of (List.forall_mem_cons.mpr ⟨dm_M1_of (t_X2_lastRate l D cA ad) dm_hT (dm_mem [651, 67, 648] (by decide +kernel) (by decide +kernel)) (by decide) (by decide +kernel) (Or.inr ⟨by decide, dm_mem [649, 650] (by decide +kernel) (by decide +kernel), rfl⟩), fun _ h => absurd h List.not_mem_nil⟩)) v_X5_lowerByEndless u_X5_lowerByEndless
theorem cn_ok_sj {u : dm_S} {c : Nat} {f : Nat → Int64} {N M : Nat} {fr tr pt : Nat → Nat} (h : cn_ok u N M fr tr pt) : cn_ok (dm_sj u c f) N M fr tr pt := h
theorem dm_sj_sj {u : dm_S} {c : Nat} {f g : Nat → Int64} : dm_sj (dm_sj u c f) c g = dm_sj u c g := by
  unfold dm_sj
  refine Prod.ext rfl ?_
  funext c'
  by_cases e : c' = c
  · simp [e]
  · simp [e]
/-- the row of values at first -/
def dm_z0 (u : dm_S) : Nat → Int64 := fun j => if j < 24 then 0 else u.2 36 j
theorem dm_fj_sj {u : dm_S} {c n : Nat} {x : Int64} : dm_fj u c n x = dm_sj u c (fun j => if j < n then x else u.2 c j) := rfl
def sp_X5_settleEndless (As : List Value) (u : dm_S) (Q : Option Value → dm_S → Prop) : Prop := match As with
  | [.ref 5] => ∃ (N M : Nat) (fr tr pt : Nat → Nat), cn_ok u N M fr tr pt ∧ Q (some (.int (if (rx_it M fr tr (cn_lw u pt) (cn_en u) (N + 1) (dm_z0 u)).2 then 1 else 0))) (dm_sj u 36 (rx_it M fr tr (cn_lw u pt) (cn_en u) (N + 1) (dm_z0 u)).1)
  | _ => False
def p_X5_settleEndless : List dm_I := [(0, .aload_n 0, 1, [0]), (1, .getfield 9, 3, []), (4, .lconst 0, 1, []), (5, .invokestatic 30, 3, []), (8, .iconst 0, 1, []), (9, .istore_n 1, 1, [1]), (10, .iload_n 1, 1, [1]), (11, .aload_n 0, 1, [0]), (12, .getfield 18, 3, []), (15, .getfield 36, 3, []), (18, .if_icmp .gt 18, 3, [36]), (21, .aload_n 0, 1, [0]), (22, .invokevirtual 42, 3, []), (25, .ifCond .ne 5, 3, [30]), (28, .iconst 1, 1, []), (29, .ireturn, 1, []), (30, .iinc 1 1, 3, []), (33, .goto (-23), 3, [10]), (36, .iconst 0, 1, []), (37, .ireturn, 1, [])]
set_option maxRecDepth 100000 in
theorem v_X5_settleEndless : p_X5_settleEndless.all (dm_vb cX5_settleEndless) = true := by decide +kernel
def k_X5_settleEndless : dm_Sp := fun a => match a with
  | 0 => sp_J7_fill_d0a16
  | 1 => sp_X5_lowerByEndless
  | _ => fun _ _ _ => False
def x_X5_settleEndless : dm_X := dm_mk [(9, 5, 3), (18, 5, 0), (36, 2, 8)] [] [] [(30, 0, 2, 1000), (42, 1, 0, 5)] 3
set_option maxRecDepth 100000 in
set_option maxHeartbeats 400000 in
theorem u_X5_settleEndless : dm_Pure shC x_X5_settleEndless k_X5_settleEndless p_X5_settleEndless 2 sp_X5_settleEndless := by
  intro As u Qp h
  unfold sp_X5_settleEndless at h
  split at h
  · obtain ⟨N, M, fr, tr, pt, hok, h⟩ := h
    have hok0 := hok
    obtain ⟨⟨hN, hM, eN, eM⟩, ho⟩ := hok0
    refine ⟨Nat.le_of_ble_eq_true rfl, fun G Wp hW0 hW1 hG => ?_⟩
    have loop : ∀ (k i : Nat) (V : Nat → Int64), i + k = N + 1 → rx_it M fr tr (cn_lw u pt) (cn_en u) (N + 1) (dm_z0 u) = rx_it M fr tr (cn_lw u pt) (cn_en u) k V → G 10 [some (.ref 5), some (.int (nI i))] [] (dm_sj u 36 V) := by
      intro k
      induction k with
      | zero =>
        intro i V hi hf
        apply hG (fun pc => pc == 10) 40
        simp (config := { maxSteps := 2000000 }) [hW0, hW1, dm_fn, dm_fd, dm_x, dm_L0, dm_la, dm_t1, dm_sw, List.headD, dm_ic, dm_mk, dm_s1, dm_s2, dm_clr, dm_cs, dm_cc, dm_nb0, dm_nb1, Value.category, List.lookup, p_X5_settleEndless, x_X5_settleEndless, k_X5_settleEndless, dm_cm, upd, vp_updL, dm_ui_1, dm_ui_2, dm_ul_1, dm_ul_2, sp_J7_fill_d0a16, sp_X5_lowerByEndless, sC_0, sC_1, sC_2, sC_3, sC_4, sC_5, sC_6, sC_7, sC_8, sC_9, sC_10, sC_11, sC_12, sC_13, sC_14, sC_15, sC_16, sC_17, sC_18, sC_19, sC_20, sC_21, sC_22, sC_23, sC_24, sC_25, sC_26, sC_27, sC_28, sC_29, sC_30, sC_31, sC_32, sC_33, sC_34, sC_35, sC_36, sC_37, sC_38, sC_39, sC_40, sC_41, sC_42, sC_43, sC_44, sC_45, sC_46, sC_47, sC_48, sC_49, sC_50, sC_51]
        simp only [dm_sj_1, eN]
        rw [hf] at h
        exact ⟨fun _ => h, fun q => absurd q (nI_ge (by omega) (by omega))⟩
      | succ k ih =>
        intro i V hi hf
        apply hG (fun pc => pc == 10) 40
        simp (config := { maxSteps := 2000000 }) [hW0, hW1, dm_fn, dm_fd, dm_x, dm_L0, dm_la, dm_t1, dm_sw, List.headD, dm_ic, dm_mk, dm_s1, dm_s2, dm_clr, dm_cs, dm_cc, dm_nb0, dm_nb1, Value.category, List.lookup, p_X5_settleEndless, x_X5_settleEndless, k_X5_settleEndless, dm_cm, upd, vp_updL, dm_ui_1, dm_ui_2, dm_ul_1, dm_ul_2, sp_J7_fill_d0a16, sp_X5_lowerByEndless, sC_0, sC_1, sC_2, sC_3, sC_4, sC_5, sC_6, sC_7, sC_8, sC_9, sC_10, sC_11, sC_12, sC_13, sC_14, sC_15, sC_16, sC_17, sC_18, sC_19, sC_20, sC_21, sC_22, sC_23, sC_24, sC_25, sC_26, sC_27, sC_28, sC_29, sC_30, sC_31, sC_32, sC_33, sC_34, sC_35, sC_36, sC_37, sC_38, sC_39, sC_40, sC_41, sC_42, sC_43, sC_44, sC_45, sC_46, sC_47, sC_48, sC_49, sC_50, sC_51]
        simp only [dm_sj_1, eN]
        have hs : rx_it M fr tr (cn_lw u pt) (cn_en u) (k + 1) V = if (rx_go fr tr (cn_lw u pt) (cn_en u) V M).2 then rx_it M fr tr (cn_lw u pt) (cn_en u) k (rx_go fr tr (cn_lw u pt) (cn_en u) V M).1 else ((rx_go fr tr (cn_lw u pt) (cn_en u) V M).1, true) := rfl
        refine ⟨fun q => absurd q (nI_nlt (by omega) (by omega)), fun _ => ⟨N, M, fr, tr, pt, hok, fun z => ?_, fun z => ?_⟩⟩
        · have z' : (rx_go fr tr (cn_lw u pt) (cn_en u) V M).2 = true := z
          rw [dm_sj_sj, nI_1]
          exact ih (i + 1) _ (by omega) (by rw [hf, hs, if_pos z']; rfl)
        · have z' : (rx_go fr tr (cn_lw u pt) (cn_en u) V M).2 = false := z
          have hs2 : rx_it M fr tr (cn_lw u pt) (cn_en u) (k + 1) V = ((rx_go fr tr (cn_lw u pt) (cn_en u) V M).1, true) := by rw [hs, if_neg (by rw [z']; decide)]
          rw [hf, hs2] at h
          rw [dm_sj_sj]
          exact h
    apply hG (fun pc => pc == 10) 40
    simp (config := { maxSteps := 2000000 }) [hW0, hW1, dm_fn, dm_fd, dm_x, dm_L0, dm_la, dm_t1, dm_sw, List.headD, dm_ic, dm_mk, dm_s1, dm_s2, dm_clr, dm_cs, dm_cc, dm_nb0, dm_nb1, Value.category, List.lookup, p_X5_settleEndless, x_X5_settleEndless, k_X5_settleEndless, dm_cm, upd, vp_updL, dm_ui_1, dm_ui_2, dm_ul_1, dm_ul_2, sp_J7_fill_d0a16, sp_X5_lowerByEndless, sC_0, sC_1, sC_2, sC_3, sC_4, sC_5, sC_6, sC_7, sC_8, sC_9, sC_10, sC_11, sC_12, sC_13, sC_14, sC_15, sC_16, sC_17, sC_18, sC_19, sC_20, sC_21, sC_22, sC_23, sC_24, sC_25, sC_26, sC_27, sC_28, sC_29, sC_30, sC_31, sC_32, sC_33, sC_34, sC_35, sC_36, sC_37, sC_38, sC_39, sC_40, sC_41, sC_42, sC_43, sC_44, sC_45, sC_46, sC_47, sC_48, sC_49, sC_50, sC_51]
    exact ⟨24, by omega, rfl, loop (N + 1) 0 (dm_z0 u) (by omega) rfl⟩
  · exact h.elim
set_option maxRecDepth 100000 in
theorem t_X5_settleEndless (l : Launch) (D : va_G) (cA : Nat → ClassId) (ad : Nat → Nat) : dm_Met l D dm_cl cA ad shC yX5_settleEndless (Cond.code yX5_settleEndless cX5_settleEndless 2 (dm_rt 3) :: dm_tt) ({ frames := 3, cells := 0, slots := 0, locals := 66 } : Room) sp_X5_settleEndless := dm_meth (own := RX5) (X := x_X5_settleEndless) (Sp := k_X5_settleEndless) (prog := p_X5_settleEndless) (by decide +kernel) rfl rfl (dm_FO_s ffX5 [(9, 5, 3), (18, 5, 0), (36, 2, 8)] rfl dm_hT (by decide +kernel)) (dm_IO_s ifX5 jfX5 [] [] rfl rfl dm_hT (by decide +kernel) (by decide +kernel)) soC (dm_MO_of (List.forall_mem_cons.mpr ⟨dm_M1_of (t_J7_fill_d0a16 l D cA ad) dm_hT (dm_mem [576, 78, 643] (by decide +kernel) (by decide +kernel)) (by decide) (by decide +kernel) (Or.inl ⟨rfl, dm_mem (ws := [.static yJ7_fill_d0a16]) [575] (by decide +kernel) (by decide +kernel) _ List.mem_cons_self⟩), List.forall_mem_cons.mpr ⟨dm_M1_of (t_X5_lowerByEndless l D cA ad) dm_hT (dm_mem [647, 71, 644] (by decide +kernel) (by decide +kernel)) (by decide) (by decide +kernel) (Or.inr ⟨by decide, dm_mem [646, 9] (by decide +kernel) (by decide +kernel), rfl⟩), fun _ h => absurd h List.not_mem_nil⟩⟩)) v_X5_settleEndless u_X5_settleEndless
