/-! ===== the reference: prices along ENDLESS ARCS ===== -/
def mn_ok (u : dm_S) (N M : Nat) (fr tr pc : Nat → Nat) : Prop := (N ≤ 24 ∧ M ≤ 80 ∧ u.1 0 0 = nI N ∧ u.1 0 1 = nI M) ∧ ∀ a, a < M → (u.1 2 a = nI (fr a) ∧ fr a < N) ∧ (u.1 3 a = nI (tr a) ∧ tr a < N) ∧ (u.1 6 a = nI (pc a) ∧ pc a ≤ 3)
def mn_lw (u : dm_S) (pc : Nat → Nat) (a : Nat) : Int64 := u.2 7 (4 * a + pc a)
def mn_en (u : dm_S) (a : Nat) : Bool := decide (u.2 5 a = -2)
def mn_z0 (u : dm_S) (n : Nat) : Nat → Int64 := fun j => if j < n then 0 else u.2 19 j
theorem dm_4p {a q : Nat} : (4 : Int32) * nI a + nI q = nI (4 * a + q) := by rw [show (4 : Int32) = nI 4 from rfl, pk_mul, nI_add]
def sp_X11_endless (As : List Value) (u : dm_S) (Q : Option Value → dm_S → Prop) : Prop := match As with
  | [.ref 0] => ∃ (N M : Nat) (fr tr pc : Nat → Nat), mn_ok u N M fr tr pc ∧ Q (some (.int (if (rx_it M fr tr (mn_lw u pc) (mn_en u) (N + 1) (mn_z0 u N)).2 then 1 else 0))) (dm_sj u 19 (rx_it M fr tr (mn_lw u pc) (mn_en u) (N + 1) (mn_z0 u N)).1)
  | _ => False
def p_X11_endless : List dm_I := [(0, .iconst 0, 1, []), (1, .istore_n 1, 1, [1]), (2, .iload_n 1, 1, [1]), (3, .aload_n 0, 1, [0]), (4, .getfield 109, 3, []), (7, .if_icmp .ge 16, 3, [23]), (10, .aload_n 0, 1, [0]), (11, .getfield 65, 3, []), (14, .iload_n 1, 1, [1]), (15, .lconst 0, 1, []), (16, .lastore, 1, []), (17, .iinc 1 1, 3, []), (20, .goto (-18), 3, [2]), (23, .iconst 1, 1, []), (24, .istore_n 1, 1, [1]), (25, .iconst 0, 1, []), (26, .istore_n 2, 1, [2]), (27, .iload_n 2, 1, [2]), (28, .aload_n 0, 1, [0]), (29, .getfield 109, 3, []), (32, .if_icmp .gt 106, 3, [138]), (35, .iload_n 1, 1, [1]), (36, .ifCond .eq 102, 3, [138]), (39, .iconst 0, 1, []), (40, .istore_n 1, 1, [1]), (41, .iconst 0, 1, []), (42, .istore_n 3, 1, [3]), (43, .iload_n 3, 1, [3]), (44, .aload_n 0, 1, [0]), (45, .getfield 123, 3, []), (48, .if_icmp .ge 84, 3, [132]), (51, .aload_n 0, 1, [0]), (52, .getfield 23, 3, []), (55, .iload_n 3, 1, [3]), (56, .laload, 1, []), (57, .ldc2_w 130, 3, []), (60, .lcmp, 1, []), (61, .ifCond .ne 65, 3, [126]), (64, .aload_n 0, 1, [0]), (65, .getfield 65, 3, []), (68, .aload_n 0, 1, [0]), (69, .getfield 13, 3, []), (72, .iload_n 3, 1, [3]), (73, .iaload, 1, []), (74, .laload, 1, []), (75, .aload_n 0, 1, [0]), (76, .iload_n 3, 1, [3]), (77, .invokevirtual 148, 3, []), (80, .ladd, 1, []), (81, .aload_n 0, 1, [0]), (82, .getfield 65, 3, []), (85, .aload_n 0, 1, [0]), (86, .getfield 17, 3, []), (89, .iload_n 3, 1, [3]), (90, .iaload, 1, []), (91, .laload, 1, []), (92, .lcmp, 1, []), (93, .ifCond .ge 33, 3, [126]), (96, .aload_n 0, 1, [0]), (97, .getfield 65, 3, []), (100, .aload_n 0, 1, [0]), (101, .getfield 17, 3, []), (104, .iload_n 3, 1, [3]), (105, .iaload, 1, []), (106, .aload_n 0, 1, [0]), (107, .getfield 65, 3, []), (110, .aload_n 0, 1, [0]), (111, .getfield 13, 3, []), (114, .iload_n 3, 1, [3]), (115, .iaload, 1, []), (116, .laload, 1, []), (117, .aload_n 0, 1, [0]), (118, .iload_n 3, 1, [3]), (119, .invokevirtual 148, 3, []), (122, .ladd, 1, []), (123, .lastore, 1, []), (124, .iconst 1, 1, []), (125, .istore_n 1, 1, [1]), (126, .iinc 3 1, 3, []), (129, .goto (-86), 3, [43]), (132, .iinc 2 1, 3, []), (135, .goto (-108), 3, [27]), (138, .iload_n 1, 1, [1]), (139, .ifCond .ne 7, 3, [146]), (142, .iconst 1, 1, []), (143, .goto 4, 3, [147]), (146, .iconst 0, 1, []), (147, .ireturn, 1, [])]
set_option maxRecDepth 100000 in
theorem v_X11_endless : p_X11_endless.all (dm_vb cX11_endless) = true := by decide +kernel
def k_X11_endless : dm_Sp := fun a => match a with
  | 0 => sp_X11_lastCost
  | _ => fun _ _ _ => False
def x_X11_endless : dm_X := dm_mk [(13, 11, 3), (17, 11, 4), (23, 11, 6), (65, 11, 25), (109, 11, 0), (123, 11, 1)] [] [(130, -2)] [(148, 0, 1, 11)] 3
set_option maxRecDepth 100000 in
set_option maxHeartbeats 800000 in
theorem u_X11_endless : dm_Pure shM x_X11_endless k_X11_endless p_X11_endless 4 sp_X11_endless := by
  intro As u Qp h
  unfold sp_X11_endless at h
  split at h
  · obtain ⟨N, M, fr, tr, pc, ⟨⟨hN, hM, eN, eM⟩, ho⟩, h⟩ := h
    refine ⟨Nat.le_of_ble_eq_true rfl, fun G Wp hW0 hW1 hG => ?_⟩
    have inner : ∀ (V : Nat → Int64) (i : Nat), (∀ o3, G 132 [some (.ref 0), some (.int (if (rx_go fr tr (mn_lw u pc) (mn_en u) V M).2 then 1 else 0)), some (.int (nI i)), o3] [] (dm_sj u 19 (rx_go fr tr (mn_lw u pc) (mn_en u) V M).1)) → ∀ k a : Nat, a + k = M → G 43 [some (.ref 0), some (.int (if (rx_go fr tr (mn_lw u pc) (mn_en u) V a).2 then 1 else 0)), some (.int (nI i)), some (.int (nI a))] [] (dm_sj u 19 (rx_go fr tr (mn_lw u pc) (mn_en u) V a).1) := by
      intro V i hx
      generalize hR : rx_go fr tr (mn_lw u pc) (mn_en u) V = R at hx
      have hRs : ∀ a, R (a + 1) = if mn_en u a = true ∧ (R a).1 (fr a) + mn_lw u pc a < (R a).1 (tr a) then (vp_updL (R a).1 (tr a) ((R a).1 (fr a) + mn_lw u pc a), true) else R a := fun a => by rw [← hR]; rfl
      intro k
      induction k with
      | zero =>
        intro a ha
        apply hG (fun pc => pc == 43 || pc == 132) 60
        simp (config := { maxSteps := 2000000 }) [hW0, hW1, dm_fn, dm_fd, dm_x, dm_L0, dm_la, dm_t1, dm_sw, List.headD, dm_ic, dm_mk, dm_s1, dm_s2, dm_clr, dm_cs, dm_cc, dm_nb0, dm_nb1, Value.category, List.lookup, p_X11_endless, x_X11_endless, k_X11_endless, dm_cm, upd, vp_updL, dm_ui_1, dm_ui_2, dm_ul_1, dm_ul_2, sp_X11_lastCost, sM_0, sM_1, sM_2, sM_3, sM_4, sM_5, sM_6, sM_7, sM_8, sM_9, sM_10, sM_11, sM_12, sM_13, sM_14, sM_15, sM_16, sM_17, sM_18, sM_19, sM_20, sM_21, sM_22, sM_23, sM_24, sM_25, sM_26, sM_27, sM_28, sM_29]
        have e : a = M := by omega
        subst e
        simp only [dm_sj_1, eM]
        exact ⟨fun _ => hx _, fun q => absurd q (nI_nlt (Nat.le_refl _) (by omega))⟩
      | succ k ih =>
        intro a ha
        obtain ⟨⟨e1, l1⟩, ⟨e2, l2⟩, ⟨e3, l3⟩⟩ := ho a (by omega)
        have e := ih (a + 1) (by omega)
        have c1 : (nI a).toNatClampNeg = a := nI_clamp (by omega)
        have c2 : (nI (fr a)).toNatClampNeg = fr a := nI_clamp (by omega)
        have c3 : (nI (tr a)).toNatClampNeg = tr a := nI_clamp (by omega)
        have c4 : (nI (4 * a + pc a)).toNatClampNeg = 4 * a + pc a := nI_clamp (by omega)
        have i1 : vp_in (nI a) 80 := vp_in_nI (by omega) (by omega)
        have i2 : vp_in (nI (fr a)) 26 := vp_in_nI (by omega) (by omega)
        have i3 : vp_in (nI (tr a)) 26 := vp_in_nI (by omega) (by omega)
        have i4 : vp_in (nI (4 * a + pc a)) 320 := vp_in_nI (by omega) (by omega)
        apply hG (fun pc => pc == 43 || pc == 132) 60
        simp (config := { maxSteps := 2000000 }) [hW0, hW1, dm_fn, dm_fd, dm_x, dm_L0, dm_la, dm_t1, dm_sw, List.headD, dm_ic, dm_mk, dm_s1, dm_s2, dm_clr, dm_cs, dm_cc, dm_nb0, dm_nb1, Value.category, List.lookup, p_X11_endless, x_X11_endless, k_X11_endless, dm_cm, upd, vp_updL, dm_ui_1, dm_ui_2, dm_ul_1, dm_ul_2, sp_X11_lastCost, sM_0, sM_1, sM_2, sM_3, sM_4, sM_5, sM_6, sM_7, sM_8, sM_9, sM_10, sM_11, sM_12, sM_13, sM_14, sM_15, sM_16, sM_17, sM_18, sM_19, sM_20, sM_21, sM_22, sM_23, sM_24, sM_25, sM_26, sM_27, sM_28, sM_29]
        simp only [dm_sj_1, eM, c1, e1, e2, c2, c3, e3, dm_4p, c4, dm_sj_u, nI_1]
        refine ⟨fun q => absurd q (nI_ge (by omega) (by omega)), fun q => ⟨i1, fun z => ?_, fun z => ⟨i1, i2, i1, i4, i1, i3, fun y => ?_, fun y => ?_⟩⟩⟩
        · have z' : ¬ u.2 5 a = -2 := z
          have e4 : R (a + 1) = R a := by rw [hRs a, if_neg (fun x => z' (by have := x.1; simpa [mn_en] using this))]
          rw [e4] at e
          exact e
        · have e4 : R (a + 1) = R a := by rw [hRs a, if_neg (fun x => dm_l_lt.mpr y x.2)]
          rw [e4] at e
          exact e
        · have z' : u.2 5 a = -2 := z
          have e4 : R (a + 1) = (vp_updL (R a).1 (tr a) ((R a).1 (fr a) + mn_lw u pc a), true) := by rw [hRs a, if_pos ⟨by simpa [mn_en] using z', y⟩]
          rw [e4] at e
          first | exact ⟨i1, i2, i1, i4, i3, e⟩ | exact ⟨i1, i1, i2, i1, i4, i3, e⟩
    have outer : ∀ (k i : Nat) (b : Bool) (V : Nat → Int64), i + k = N + 1 → (b = true → rx_it M fr tr (mn_lw u pc) (mn_en u) (N + 1) (mn_z0 u N) = rx_it M fr tr (mn_lw u pc) (mn_en u) k V) → (b = false → rx_it M fr tr (mn_lw u pc) (mn_en u) (N + 1) (mn_z0 u N) = (V, true)) → ∀ o3, G 27 [some (.ref 0), some (.int (if b then 1 else 0)), some (.int (nI i)), o3] [] (dm_sj u 19 V) := by
      intro k
      induction k with
      | zero =>
        intro i b V hi h1 h2 o3
        apply hG (fun pc => pc == 27 || pc == 43 || pc == 132) 60
        simp (config := { maxSteps := 2000000 }) [hW0, hW1, dm_fn, dm_fd, dm_x, dm_L0, dm_la, dm_t1, dm_sw, List.headD, dm_ic, dm_mk, dm_s1, dm_s2, dm_clr, dm_cs, dm_cc, dm_nb0, dm_nb1, Value.category, List.lookup, p_X11_endless, x_X11_endless, k_X11_endless, dm_cm, upd, vp_updL, dm_ui_1, dm_ui_2, dm_ul_1, dm_ul_2, sp_X11_lastCost, sM_0, sM_1, sM_2, sM_3, sM_4, sM_5, sM_6, sM_7, sM_8, sM_9, sM_10, sM_11, sM_12, sM_13, sM_14, sM_15, sM_16, sM_17, sM_18, sM_19, sM_20, sM_21, sM_22, sM_23, sM_24, sM_25, sM_26, sM_27, sM_28, sM_29]
        simp only [dm_sj_1, eN]
        refine ⟨fun _ => ⟨fun t => ?_, fun t => ?_⟩, fun q => absurd q (nI_ge (by omega) (by omega))⟩
        · rw [h1 t] at h; exact h
        · rw [h2 t] at h; exact h
      | succ k ih =>
        intro i b V hi h1 h2 o3
        apply hG (fun pc => pc == 27 || pc == 43 || pc == 132) 60
        simp (config := { maxSteps := 2000000 }) [hW0, hW1, dm_fn, dm_fd, dm_x, dm_L0, dm_la, dm_t1, dm_sw, List.headD, dm_ic, dm_mk, dm_s1, dm_s2, dm_clr, dm_cs, dm_cc, dm_nb0, dm_nb1, Value.category, List.lookup, p_X11_endless, x_X11_endless, k_X11_endless, dm_cm, upd, vp_updL, dm_ui_1, dm_ui_2, dm_ul_1, dm_ul_2, sp_X11_lastCost, sM_0, sM_1, sM_2, sM_3, sM_4, sM_5, sM_6, sM_7, sM_8, sM_9, sM_10, sM_11, sM_12, sM_13, sM_14, sM_15, sM_16, sM_17, sM_18, sM_19, sM_20, sM_21, sM_22, sM_23, sM_24, sM_25, sM_26, sM_27, sM_28, sM_29]
        simp only [dm_sj_1, eN]
        have hs2 : rx_it M fr tr (mn_lw u pc) (mn_en u) (k + 1) V = if (rx_go fr tr (mn_lw u pc) (mn_en u) V M).2 then rx_it M fr tr (mn_lw u pc) (mn_en u) k (rx_go fr tr (mn_lw u pc) (mn_en u) V M).1 else ((rx_go fr tr (mn_lw u pc) (mn_en u) V M).1, true) := rfl
        refine ⟨fun q => absurd q (nI_nlt (by omega) (by omega)), fun _ => ⟨fun t => ⟨fun t2 => absurd (t.symm.trans t2) (by decide), fun _ => ?_⟩, fun t => inner V i (fun o5 => ?_) M 0 (by omega)⟩⟩
        · rw [h2 t] at h; exact h
        · apply hG (fun pc => pc == 27 || pc == 43 || pc == 132) 60
          simp (config := { maxSteps := 2000000 }) [hW0, hW1, dm_fn, dm_fd, dm_x, dm_L0, dm_la, dm_t1, dm_sw, List.headD, dm_ic, dm_mk, dm_s1, dm_s2, dm_clr, dm_cs, dm_cc, dm_nb0, dm_nb1, Value.category, List.lookup, p_X11_endless, x_X11_endless, k_X11_endless, dm_cm, upd, vp_updL, dm_ui_1, dm_ui_2, dm_ul_1, dm_ul_2, sp_X11_lastCost, sM_0, sM_1, sM_2, sM_3, sM_4, sM_5, sM_6, sM_7, sM_8, sM_9, sM_10, sM_11, sM_12, sM_13, sM_14, sM_15, sM_16, sM_17, sM_18, sM_19, sM_20, sM_21, sM_22, sM_23, sM_24, sM_25, sM_26, sM_27, sM_28, sM_29]
          rw [nI_1]
          exact ih (i + 1) _ _ (by omega) (fun y => by rw [h1 t, hs2, if_pos y]) (fun y => by rw [h1 t, hs2, if_neg (by rw [y]; decide)]) o5
    have fill : ∀ k i : Nat, i + k = N → G 2 [some (.ref 0), some (.int (nI i)), none, none] [] (dm_sj u 19 (mn_z0 u i)) := by
      intro k
      induction k with
      | zero =>
        intro i hi
        apply hG (fun pc => pc == 2 || pc == 27) 60
        simp (config := { maxSteps := 2000000 }) [hW0, hW1, dm_fn, dm_fd, dm_x, dm_L0, dm_la, dm_t1, dm_sw, List.headD, dm_ic, dm_mk, dm_s1, dm_s2, dm_clr, dm_cs, dm_cc, dm_nb0, dm_nb1, Value.category, List.lookup, p_X11_endless, x_X11_endless, k_X11_endless, dm_cm, upd, vp_updL, dm_ui_1, dm_ui_2, dm_ul_1, dm_ul_2, sp_X11_lastCost, sM_0, sM_1, sM_2, sM_3, sM_4, sM_5, sM_6, sM_7, sM_8, sM_9, sM_10, sM_11, sM_12, sM_13, sM_14, sM_15, sM_16, sM_17, sM_18, sM_19, sM_20, sM_21, sM_22, sM_23, sM_24, sM_25, sM_26, sM_27, sM_28, sM_29]
        have e : i = N := by omega
        subst e
        simp only [dm_sj_1, eN]
        exact ⟨fun _ => outer (i + 1) 0 true (mn_z0 u i) (by omega) (fun _ => rfl) (fun t => by cases t) none, fun q => absurd q (nI_nlt (Nat.le_refl _) (by omega))⟩
      | succ k ih =>
        intro i hi
        have e := ih (i + 1) (by omega)
        have c1 : (nI i).toNatClampNeg = i := nI_clamp (by omega)
        apply hG (fun pc => pc == 2 || pc == 27) 60
        simp (config := { maxSteps := 2000000 }) [hW0, hW1, dm_fn, dm_fd, dm_x, dm_L0, dm_la, dm_t1, dm_sw, List.headD, dm_ic, dm_mk, dm_s1, dm_s2, dm_clr, dm_cs, dm_cc, dm_nb0, dm_nb1, Value.category, List.lookup, p_X11_endless, x_X11_endless, k_X11_endless, dm_cm, upd, vp_updL, dm_ui_1, dm_ui_2, dm_ul_1, dm_ul_2, sp_X11_lastCost, sM_0, sM_1, sM_2, sM_3, sM_4, sM_5, sM_6, sM_7, sM_8, sM_9, sM_10, sM_11, sM_12, sM_13, sM_14, sM_15, sM_16, sM_17, sM_18, sM_19, sM_20, sM_21, sM_22, sM_23, sM_24, sM_25, sM_26, sM_27, sM_28, sM_29]
        simp only [dm_sj_1, eN, c1, dm_sj_u, nI_1]
        have ef : vp_updL (mn_z0 u i) i 0 = mn_z0 u (i + 1) := by
          funext j
          unfold vp_updL mn_z0
          by_cases z : j = i
          · rw [if_pos z, if_pos (by omega)]
          · rw [if_neg z]
            by_cases y : j < i
            · rw [if_pos y, if_pos (by omega)]
            · rw [if_neg y, if_neg (by omega)]
        rw [ef]
        exact ⟨fun q => absurd q (nI_ge (by omega) (by omega)), fun q => ⟨vp_in_nI (by omega) (by omega), e⟩⟩
    apply hG (fun pc => pc == 2 || pc == 27) 60
    simp (config := { maxSteps := 2000000 }) [hW0, hW1, dm_fn, dm_fd, dm_x, dm_L0, dm_la, dm_t1, dm_sw, List.headD, dm_ic, dm_mk, dm_s1, dm_s2, dm_clr, dm_cs, dm_cc, dm_nb0, dm_nb1, Value.category, List.lookup, p_X11_endless, x_X11_endless, k_X11_endless, dm_cm, upd, vp_updL, dm_ui_1, dm_ui_2, dm_ul_1, dm_ul_2, sp_X11_lastCost, sM_0, sM_1, sM_2, sM_3, sM_4, sM_5, sM_6, sM_7, sM_8, sM_9, sM_10, sM_11, sM_12, sM_13, sM_14, sM_15, sM_16, sM_17, sM_18, sM_19, sM_20, sM_21, sM_22, sM_23, sM_24, sM_25, sM_26, sM_27, sM_28, sM_29]
    have e := fill N 0 (by omega)
    rw [show mn_z0 u 0 = u.2 19 from by funext j; simp [mn_z0], dm_sj_self] at e
    exact e
  · exact h.elim
set_option maxRecDepth 100000 in
theorem t_X11_endless (l : Launch) (D : va_G) (cA : Nat → ClassId) (ad : Nat → Nat) : dm_Met l D dm_cl cA ad shM yX11_endless (Cond.code yX11_endless cX11_endless 4 (dm_rt 3) :: dm_tt) ({ frames := 1, cells := 0, slots := 0, locals := 21 } : Room) sp_X11_endless := dm_meth (own := RX11) (X := x_X11_endless) (Sp := k_X11_endless) (prog := p_X11_endless) (by decide +kernel) rfl rfl (dm_FO_s ffX11 [(13, 11, 3), (17, 11, 4), (23, 11, 6), (65, 11, 25), (109, 11, 0), (123, 11, 1)] rfl dm_hT (by decide +kernel)) (dm_IO_s ifX11 jfX11 [] [(130, -2)] rfl rfl dm_hT (by decide +kernel) (by decide +kernel)) soM (dm_MO_of (List.forall_mem_cons.mpr ⟨dm_M1_of (t_X11_lastCost l D cA ad) dm_hT (dm_mem [1156, 77, 1153] (by decide +kernel) (by decide +kernel)) (by decide) (by decide +kernel) (Or.inr ⟨by decide, dm_mem [1155, 53] (by decide +kernel) (by decide +kernel), rfl⟩), fun _ h => absurd h List.not_mem_nil⟩)) v_X11_endless u_X11_endless
