theorem wy_al_c {u v : dm_S} {p n : Nat} (h1 : v.2 24 = u.2 24) (h2 : v.2 22 = u.2 22) : wy_al v p n = wy_al u p n := by
  unfold wy_al
  rw [h1, h2]
theorem wy_ag_c {u v : dm_S} {p n : Nat} (h1 : v.2 24 = u.2 24) : wy_ag v p n = wy_ag u p n := by
  unfold wy_ag
  rw [h1]
def sp_X9_gather (As : List Value) (u : dm_S) (Q : Option Value → dm_S → Prop) : Prop := match As with
  | [.ref 3] => ∃ (N M : Nat) (fr tr pt : Nat → Nat), cn_ok u N M fr tr pt ∧ cn_ln u M pt ∧ Q none (wy_ga u pt M)
  | _ => False
def p_X9_gather : List dm_I := [(0, .aload_n 0, 1, [0]), (1, .iconst 0, 1, []), (2, .putfield 33, 3, []), (5, .iconst 0, 1, []), (6, .istore_n 1, 1, [1]), (7, .iload_n 1, 1, [1]), (8, .aload_n 0, 1, [0]), (9, .getfield 25, 3, []), (12, .getfield 37, 3, []), (15, .if_icmp .ge 19, 3, [34]), (18, .aload_n 0, 1, [0]), (19, .iload_n 1, 1, [1]), (20, .invokevirtual 42, 3, []), (23, .aload_n 0, 1, [0]), (24, .iload_n 1, 1, [1]), (25, .invokevirtual 46, 3, []), (28, .iinc 1 1, 3, []), (31, .goto (-24), 3, [7]), (34, .return_, 1, [])]
set_option maxRecDepth 100000 in
theorem v_X9_gather : p_X9_gather.all (dm_vb cX9_gather) = true := by decide +kernel
def k_X9_gather : dm_Sp := fun a => match a with
  | 0 => sp_X9_gatherAlong
  | 1 => sp_X9_gatherAgainst
  | _ => fun _ _ _ => False
def x_X9_gather : dm_X := dm_mk [(25, 9, 0), (33, 9, 6), (37, 2, 9)] [] [] [(42, 0, 1, 9), (46, 1, 1, 9)] 0
set_option maxRecDepth 100000 in
set_option maxHeartbeats 400000 in
theorem u_X9_gather : dm_Pure shC x_X9_gather k_X9_gather p_X9_gather 2 sp_X9_gather := by
  intro As u Qp h
  unfold sp_X9_gather at h
  split at h
  · obtain ⟨N, M, fr, tr, pt, ⟨⟨hN, hM, eN, eM⟩, ho⟩, hln, h⟩ := h
    refine ⟨Nat.le_of_ble_eq_true rfl, fun G Wp hW0 hW1 hG => ?_⟩
    have hf := cn_fs_le (pt := pt) (M := M) (fun a ha => (ho a ha).2.2.2.2)
    have loop : ∀ k a : Nat, a + k = M → G 7 [some (.ref 3), some (.int (nI a))] [] (wy_ga u pt a) := by
      intro k
      induction k with
      | zero =>
        intro a ha
        obtain ⟨⟨n, hn, e0⟩, k1, k2⟩ := wy_ga_k (u := u) (pt := pt) a
        apply hG (fun pc => pc == 7) 40
        simp (config := { maxSteps := 2000000 }) [hW0, hW1, dm_fn, dm_fd, dm_x, dm_L0, dm_la, dm_t1, dm_sw, List.headD, dm_ic, dm_mk, dm_s1, dm_s2, dm_clr, dm_cs, dm_cc, dm_nb0, dm_nb1, Value.category, List.lookup, p_X9_gather, x_X9_gather, k_X9_gather, dm_cm, upd, vp_updL, dm_ui_1, dm_ui_2, dm_ul_1, dm_ul_2, sp_X9_gatherAlong, sp_X9_gatherAgainst, sC_0, sC_1, sC_2, sC_3, sC_4, sC_5, sC_6, sC_7, sC_8, sC_9, sC_10, sC_11, sC_12, sC_13, sC_14, sC_15, sC_16, sC_17, sC_18, sC_19, sC_20, sC_21, sC_22, sC_23, sC_24, sC_25, sC_26, sC_27, sC_28, sC_29, sC_30, sC_31, sC_32, sC_33, sC_34, sC_35, sC_36, sC_37, sC_38, sC_39, sC_40, sC_41, sC_42, sC_43, sC_44, sC_45, sC_46, sC_47, sC_48, sC_49, sC_50, sC_51]
        have e : a = M := by omega
        subst e
        rw [k1 1 (by decide) (by decide) (by decide) (by decide), eM]
        exact ⟨fun _ => h, fun q => absurd q (nI_nlt (Nat.le_refl _) (by omega))⟩
      | succ k ih =>
        intro a ha
        obtain ⟨⟨n, hn, e0⟩, k1, k2⟩ := wy_ga_k (u := u) (pt := pt) a
        have e := ih (a + 1) (by omega)
        have hq : cn_fs pt a + pt a ≤ 320 := by
          have h9 : cn_fs pt a + pt a ≤ 4 * (a + 1) := hf (a + 1) (by omega)
          omega
        have g1 : (wy_ga u pt a).1 19 = u.1 19 := k1 19 (by decide) (by decide) (by decide) (by decide)
        have g2 : (wy_ga u pt a).2 24 = u.2 24 := k2 24 (by decide)
        have g3 : (wy_ga u pt a).2 22 = u.2 22 := k2 22 (by decide)
        obtain ⟨m, hm, e2⟩ := dm_ao_c (o := wy_al u (cn_fs pt a) (pt a)) e0
        have j1 : (dm_ao (wy_ga u pt a) (wy_al u (cn_fs pt a) (pt a))).1 19 = u.1 19 := by rw [dm_ao_k.1 19 (by decide) (by decide) (by decide) (by decide), g1]
        have j2 : (dm_ao (wy_ga u pt a) (wy_al u (cn_fs pt a) (pt a))).2 24 = u.2 24 := by rw [dm_ao_k.2 24 (by decide), g2]
        apply hG (fun pc => pc == 7) 40
        simp (config := { maxSteps := 2000000 }) [hW0, hW1, dm_fn, dm_fd, dm_x, dm_L0, dm_la, dm_t1, dm_sw, List.headD, dm_ic, dm_mk, dm_s1, dm_s2, dm_clr, dm_cs, dm_cc, dm_nb0, dm_nb1, Value.category, List.lookup, p_X9_gather, x_X9_gather, k_X9_gather, dm_cm, upd, vp_updL, dm_ui_1, dm_ui_2, dm_ul_1, dm_ul_2, sp_X9_gatherAlong, sp_X9_gatherAgainst, sC_0, sC_1, sC_2, sC_3, sC_4, sC_5, sC_6, sC_7, sC_8, sC_9, sC_10, sC_11, sC_12, sC_13, sC_14, sC_15, sC_16, sC_17, sC_18, sC_19, sC_20, sC_21, sC_22, sC_23, sC_24, sC_25, sC_26, sC_27, sC_28, sC_29, sC_30, sC_31, sC_32, sC_33, sC_34, sC_35, sC_36, sC_37, sC_38, sC_39, sC_40, sC_41, sC_42, sC_43, sC_44, sC_45, sC_46, sC_47, sC_48, sC_49, sC_50, sC_51]
        rw [k1 1 (by decide) (by decide) (by decide) (by decide), eM]
        refine ⟨fun q => absurd q (nI_ge (by omega) (by omega)), fun q => ⟨a, by omega, rfl, cn_fs pt a, by rw [g1]; exact hln a (by omega), pt a, by rw [g1]; exact hln (a + 1) (by omega), hq, by rw [e0]; exact vp_in_nI (by omega) (by omega), a, by omega, rfl, cn_fs pt a, ?_, pt a, ?_, hq, ?_, ?_⟩⟩
        · rw [wy_al_c g2 g3, j1]; exact hln a (by omega)
        · rw [wy_al_c g2 g3, j1]; exact hln (a + 1) (by omega)
        · rw [wy_al_c g2 g3, e2]; exact vp_in_nI (by omega) (by omega)
        · rw [wy_al_c g2 g3, wy_ag_c j2, nI_1]
          exact e
    apply hG (fun pc => pc == 7) 40
    simp (config := { maxSteps := 2000000 }) [hW0, hW1, dm_fn, dm_fd, dm_x, dm_L0, dm_la, dm_t1, dm_sw, List.headD, dm_ic, dm_mk, dm_s1, dm_s2, dm_clr, dm_cs, dm_cc, dm_nb0, dm_nb1, Value.category, List.lookup, p_X9_gather, x_X9_gather, k_X9_gather, dm_cm, upd, vp_updL, dm_ui_1, dm_ui_2, dm_ul_1, dm_ul_2, sp_X9_gatherAlong, sp_X9_gatherAgainst, sC_0, sC_1, sC_2, sC_3, sC_4, sC_5, sC_6, sC_7, sC_8, sC_9, sC_10, sC_11, sC_12, sC_13, sC_14, sC_15, sC_16, sC_17, sC_18, sC_19, sC_20, sC_21, sC_22, sC_23, sC_24, sC_25, sC_26, sC_27, sC_28, sC_29, sC_30, sC_31, sC_32, sC_33, sC_34, sC_35, sC_36, sC_37, sC_38, sC_39, sC_40, sC_41, sC_42, sC_43, sC_44, sC_45, sC_46, sC_47, sC_48, sC_49, sC_50, sC_51]
    exact loop M 0 (by omega)
  · exact h.elim
set_option maxRecDepth 100000 in
theorem t_X9_gather (l : Launch) (D : va_G) (cA : Nat → ClassId) (ad : Nat → Nat) : dm_Met l D dm_cl cA ad shC yX9_gather (Cond.code yX9_gather cX9_gather 2 (dm_rt 0) :: dm_tt) ({ frames := 3, cells := 0, slots := 0, locals := 64 } : Room) sp_X9_gather := dm_meth (own := RX9) (X := x_X9_gather) (Sp := k_X9_gather) (prog := p_X9_gather) (by decide +kernel) rfl rfl (dm_FO_s ffX9 [(25, 9, 0), (33, 9, 6), (37, 2, 9)] rfl dm_hT (by decide +kernel)) (dm_IO_s ifX9 jfX9 [] [] rfl rfl dm_hT (by decide +kernel) (by decide +kernel)) soC (dm_MO_of (List.forall_mem_cons.mpr ⟨dm_M1_of (t_X9_gatherAlong l D cA ad) dm_hT (dm_mem [695, 69, 692] (by decide +kernel) (by decide +kernel)) (by decide) (by decide +kernel) (Or.inr ⟨by decide, dm_mem [694, 15] (by decide +kernel) (by decide +kernel), rfl⟩), List.forall_mem_cons.mpr ⟨dm_M1_of (t_X9_gatherAgainst l D cA ad) dm_hT (dm_mem [709, 69, 706] (by decide +kernel) (by decide +kernel)) (by decide) (by decide +kernel) (Or.inr ⟨by decide, dm_mem [708, 17] (by decide +kernel) (by decide +kernel), rfl⟩), fun _ h => absurd h List.not_mem_nil⟩⟩)) v_X9_gather u_X9_gather
