def sp_X11_assign (As : List Value) (u : dm_S) (Q : Option Value → dm_S → Prop) : Prop := match As with
  | [.ref 0, .int n] => (1 ≤ n ∧ n ≤ 8 → Q (some (.int 1)) (dm_fi (dm_ui u 0 27 n) 22 64 0)) ∧ (¬ (1 ≤ n ∧ n ≤ 8) → Q (some (.int 0)) u)
  | _ => False
def p_X11_assign : List dm_I := [(0, .iload_n 1, 1, [1]), (1, .iconst 1, 1, []), (2, .if_icmp .lt 9, 3, [11]), (5, .iload_n 1, 1, [1]), (6, .bipush 8, 2, []), (8, .if_icmp .le 5, 3, [13]), (11, .iconst 0, 1, []), (12, .ireturn, 1, []), (13, .aload_n 0, 1, [0]), (14, .iload_n 1, 1, [1]), (15, .putfield 239, 3, []), (18, .iconst 0, 1, []), (19, .istore_n 2, 1, [2]), (20, .iload_n 2, 1, [2]), (21, .bipush 64, 2, []), (23, .if_icmp .ge 16, 3, [39]), (26, .aload_n 0, 1, [0]), (27, .getfield 74, 3, []), (30, .iload_n 2, 1, [2]), (31, .iconst 0, 1, []), (32, .bastore, 1, []), (33, .iinc 2 1, 3, []), (36, .goto (-16), 3, [20]), (39, .iconst 1, 1, []), (40, .ireturn, 1, [])]
set_option maxRecDepth 100000 in
theorem v_X11_assign : p_X11_assign.all (dm_vb cX11_assign) = true := by decide +kernel
def k_X11_assign : dm_Sp := fun a => match a with
  | _ => fun _ _ _ => False
def x_X11_assign : dm_X := dm_mk [(74, 11, 29), (239, 11, 27)] [] [] [] 3
set_option maxRecDepth 100000 in
set_option maxHeartbeats 400000 in
theorem u_X11_assign : dm_Pure shM x_X11_assign k_X11_assign p_X11_assign 3 sp_X11_assign := by
  intro As u Qp h
  unfold sp_X11_assign at h
  split at h
  · rename_i n
    obtain ⟨h1, h2⟩ := h
    refine ⟨Nat.le_of_ble_eq_true rfl, fun G Wp hW0 hW1 hG => ?_⟩
    have loop : Qp (some (.int 1)) (dm_fi (dm_ui u 0 27 n) 22 64 0) → ∀ k i : Nat, i + k = 64 → G 20 [some (.ref 0), some (.int n), some (.int (nI i))] [] (dm_fi (dm_ui u 0 27 n) 22 i 0) := by
      intro h k
      induction k with
      | zero =>
        intro i hi
        apply hG (fun pc => pc == 20) 30
        simp (config := { maxSteps := 2000000 }) [hW0, hW1, dm_fn, dm_fd, dm_x, dm_L0, dm_la, dm_t1, dm_sw, List.headD, dm_ic, dm_mk, dm_s1, dm_s2, dm_clr, dm_cs, dm_cc, dm_nb0, dm_nb1, Value.category, List.lookup, p_X11_assign, x_X11_assign, k_X11_assign, dm_cm, upd, vp_updL, dm_ui_1, dm_ui_2, dm_ul_1, dm_ul_2, sM_0, sM_1, sM_2, sM_3, sM_4, sM_5, sM_6, sM_7, sM_8, sM_9, sM_10, sM_11, sM_12, sM_13, sM_14, sM_15, sM_16, sM_17, sM_18, sM_19, sM_20, sM_21, sM_22, sM_23, sM_24, sM_25, sM_26, sM_27, sM_28, sM_29]
        have e : i = 64 := by omega
        subst e
        exact ⟨fun _ => h, fun q => absurd q (nI_nlt (a := 64) (b := 64) (Nat.le_refl _) (by omega))⟩
      | succ k ih =>
        intro i hi
        have e := ih (i + 1) (by omega)
        apply hG (fun pc => pc == 20) 30
        simp (config := { maxSteps := 2000000 }) [hW0, hW1, dm_fn, dm_fd, dm_x, dm_L0, dm_la, dm_t1, dm_sw, List.headD, dm_ic, dm_mk, dm_s1, dm_s2, dm_clr, dm_cs, dm_cc, dm_nb0, dm_nb1, Value.category, List.lookup, p_X11_assign, x_X11_assign, k_X11_assign, dm_cm, upd, vp_updL, dm_ui_1, dm_ui_2, dm_ul_1, dm_ul_2, sM_0, sM_1, sM_2, sM_3, sM_4, sM_5, sM_6, sM_7, sM_8, sM_9, sM_10, sM_11, sM_12, sM_13, sM_14, sM_15, sM_16, sM_17, sM_18, sM_19, sM_20, sM_21, sM_22, sM_23, sM_24, sM_25, sM_26, sM_27, sM_28, sM_29]
        rw [nI_clamp (by omega), dm_fi_s, nI_1]
        exact ⟨fun q => absurd q (nI_ge (b := 64) (by omega) (by omega)), fun q => ⟨vp_in_nI (by omega) (by omega), e⟩⟩
    apply hG (fun pc => pc == 20) 30
    simp (config := { maxSteps := 2000000 }) [hW0, hW1, dm_fn, dm_fd, dm_x, dm_L0, dm_la, dm_t1, dm_sw, List.headD, dm_ic, dm_mk, dm_s1, dm_s2, dm_clr, dm_cs, dm_cc, dm_nb0, dm_nb1, Value.category, List.lookup, p_X11_assign, x_X11_assign, k_X11_assign, dm_cm, upd, vp_updL, dm_ui_1, dm_ui_2, dm_ul_1, dm_ul_2, sM_0, sM_1, sM_2, sM_3, sM_4, sM_5, sM_6, sM_7, sM_8, sM_9, sM_10, sM_11, sM_12, sM_13, sM_14, sM_15, sM_16, sM_17, sM_18, sM_19, sM_20, sM_21, sM_22, sM_23, sM_24, sM_25, sM_26, sM_27, sM_28, sM_29]
    have e := fun hh => loop hh 64 0 (by omega)
    rw [dm_fi_0] at e
    exact ⟨fun q => h2 (fun z => dm_i_le.mpr q z.1), fun q => ⟨fun q2 => e (h1 ⟨q, q2⟩), fun q2 => h2 (fun z => dm_i_le.mpr q2 z.2)⟩⟩
  · exact h.elim
set_option maxRecDepth 100000 in
theorem t_X11_assign (l : Launch) (D : va_G) (cA : Nat → ClassId) (ad : Nat → Nat) : dm_Met l D dm_cl cA ad shM yX11_assign (Cond.code yX11_assign cX11_assign 3 (dm_rt 3) :: dm_tt) ({ frames := 0, cells := 0, slots := 0, locals := 0 } : Room) sp_X11_assign := dm_meth (own := RX11) (X := x_X11_assign) (Sp := k_X11_assign) (prog := p_X11_assign) (by decide +kernel) rfl rfl (dm_FO_s ffX11 [(74, 11, 29), (239, 11, 27)] rfl dm_hT (by decide +kernel)) (dm_IO_s ifX11 jfX11 [] [] rfl rfl dm_hT (by decide +kernel) (by decide +kernel)) soM (dm_MO_of (fun _ h => absurd h List.not_mem_nil)) v_X11_assign u_X11_assign
