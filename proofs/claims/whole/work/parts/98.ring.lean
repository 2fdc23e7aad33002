/-! ===== the reference: findRing ===== -/
def sp_X11_findRing (As : List Value) (u : dm_S) (Q : Option Value → dm_S → Prop) : Prop := match As with
  | [.ref 0] => ∃ (A : AN) (f : Nat) (rq : Nat → Nat), A.ok ∧ MR u A ∧ rqok A f rq ∧ ∀ u' : dm_S, tr_fr u u' → u'.1 0 13 = nI f → (∀ i, i < f → u'.1 10 i = nI (rq i)) → Q none u'
  | _ => False
def p_X11_findRing : List dm_I := [(0, .iconst 2, 1, []), (1, .istore_n 1, 1, [1]), (2, .iload_n 1, 1, [1]), (3, .aload_n 0, 1, [0]), (4, .getfield 109, 3, []), (7, .if_icmp .gt 98, 3, [105]), (10, .iconst 0, 1, []), (11, .istore_n 2, 1, [2]), (12, .iload_n 2, 1, [2]), (13, .aload_n 0, 1, [0]), (14, .getfield 123, 3, []), (17, .if_icmp .ge 82, 3, [99]), (20, .aload_n 0, 1, [0]), (21, .getfield 23, 3, []), (24, .iload_n 2, 1, [2]), (25, .laload, 1, []), (26, .ldc2_w 130, 3, []), (29, .lcmp, 1, []), (30, .ifCond .ne 63, 3, [93]), (33, .aload_n 0, 1, [0]), (34, .aload_n 0, 1, [0]), (35, .getfield 13, 3, []), (38, .iload_n 2, 1, [2]), (39, .iaload, 1, []), (40, .iload_n 2, 1, [2]), (41, .iload_n 1, 1, [1]), (42, .iconst 1, 1, []), (43, .isub, 1, []), (44, .invokevirtual 222, 3, []), (47, .aload_n 0, 1, [0]), (48, .getfield 96, 3, []), (51, .bipush 25, 2, []), (53, .aload_n 0, 1, [0]), (54, .getfield 17, 3, []), (57, .iload_n 2, 1, [2]), (58, .iaload, 1, []), (59, .imul, 1, []), (60, .iload_n 1, 1, [1]), (61, .iadd, 1, []), (62, .iconst 1, 1, []), (63, .isub, 1, []), (64, .laload, 1, []), (65, .lstore_n 3, 1, [3]), (66, .lload_n 3, 1, [3]), (67, .ldc2_w 152, 3, []), (70, .lcmp, 1, []), (71, .ifCond .ge 22, 3, [93]), (74, .lload_n 3, 1, [3]), (75, .aload_n 0, 1, [0]), (76, .iload_n 2, 1, [2]), (77, .invokevirtual 148, 3, []), (80, .ladd, 1, []), (81, .lconst 0, 1, []), (82, .lcmp, 1, []), (83, .ifCond .ge 10, 3, [93]), (86, .aload_n 0, 1, [0]), (87, .iload_n 2, 1, [2]), (88, .iload_n 1, 1, [1]), (89, .invokevirtual 226, 3, []), (92, .return_, 1, []), (93, .iinc 2 1, 3, []), (96, .goto (-84), 3, [12]), (99, .iinc 1 1, 3, []), (102, .goto (-100), 3, [2]), (105, .return_, 1, [])]
set_option maxRecDepth 100000 in
theorem v_X11_findRing : p_X11_findRing.all (dm_vb cX11_findRing) = true := by decide +kernel
def k_X11_findRing : dm_Sp := fun a => match a with
  | 0 => sp_X11_walks
  | 1 => sp_X11_lastCost
  | 2 => sp_X11_takeRing
  | _ => fun _ _ _ => False
def x_X11_findRing : dm_X := dm_mk [(13, 11, 3), (17, 11, 4), (23, 11, 6), (96, 11, 36), (109, 11, 0), (123, 11, 1)] [] [(130, -2), (152, 1152921504606846976)] [(222, 0, 3, 11), (148, 1, 1, 11), (226, 2, 2, 11)] 0
set_option maxRecDepth 100000 in
set_option maxHeartbeats 1600000 in
theorem u_X11_findRing : dm_Pure shM x_X11_findRing k_X11_findRing p_X11_findRing 5 sp_X11_findRing := by
  intro As u Qp h
  unfold sp_X11_findRing at h
  split at h
  · obtain ⟨A, f, rq, hA, hC, hR, h⟩ := h
    obtain ⟨hn, hM⟩ := hA.1
    have hin := rq_in hR
    have hf2 := rq_2 hA hR
    have hfn := hR.1.2
    have hmin := hR.2.1
    have hfst := ref_first hA hR
    have hF : fAR = 1152921504606846976 := rfl
    have hFl : (1152921504606846976 : Int64) = lI fAR := rfl
    have hFb : lB fAR := by unfold lB; omega
    have h0l : (0 : Int64) = lI 0 := rfl
    refine ⟨Nat.le_of_ble_eq_true rfl, fun G Wp hW0 hW1 hG => ?_⟩
    -- no ring before the one that is sought
    have body : ∀ (s a : Nat) (u' : dm_S) (o3 : Option Value), 2 ≤ s → s ≤ f → a < A.M → wa_fr u u' → (A.en a = true → gw A a (A.fr a) (s - 1) (A.tr a) ≠ fAR → gw A a (A.fr a) (s - 1) (A.tr a) + A.lr a < 0 → s = f ∧ a = rq 0) → (∀ (u2 : dm_S) (o3 : Option Value), wa_fr u u2 → ¬ (s = f ∧ a = rq 0) → G 12 [some (.ref 0), some (.int (nI s)), some (.int (nI (a + 1))), o3, none] [] u2) → G 12 [some (.ref 0), some (.int (nI s)), some (.int (nI a)), o3, none] [] u' := by
      intro s a u' o3 hs hsf ham a1 hq hx
      obtain ⟨⟨r1, r2, r3⟩, -⟩ := hA.2.1 a ham
      have hCu := MR_fr hC (wa_mn a1)
      obtain ⟨e2, e3⟩ := (hCu.2.2 a ham).1
      have ca : (nI a).toNatClampNeg = a := nI_clamp (by omega)
      have ia : vp_in (nI a) 80 := vp_in_nI (by omega) (by omega)
      have een := MR_en hA hCu ham
      have e1M : u'.1 0 1 = nI A.M := by rw [a1.1]; exact hC.1.2
      have es1 : nI s - 1 = nI (s - 1) := nI_sub1 (by omega)
      apply hG (fun pc => pc == 12) 110
      simp (config := { maxSteps := 2000000 }) [-Prod.forall, -Prod.exists, -exists_and_left, -exists_and_right, hW0, hW1, dm_fn, dm_fd, dm_x, dm_L0, dm_la, dm_t1, dm_sw, List.headD, dm_ic, dm_mk, dm_s1, dm_s2, dm_clr, dm_cs, dm_cc, dm_nb0, dm_nb1, Value.category, List.lookup, p_X11_findRing, x_X11_findRing, k_X11_findRing, dm_cm, upd, vp_updL, dm_ui_1, dm_ui_2, dm_ul_1, dm_ul_2, sp_X11_walks, sp_X11_lastCost, sp_X11_takeRing, sM_0, sM_1, sM_2, sM_3, sM_4, sM_5, sM_6, sM_7, sM_8, sM_9, sM_10, sM_11, sM_12, sM_13, sM_14, sM_15, sM_16, sM_17, sM_18, sM_19, sM_20, sM_21, sM_22, sM_23, sM_24, sM_25, sM_26, sM_27, sM_28, sM_29]
      simp only [ca, ia, een, e1M, e2, es1, true_and, nI_1]
      refine ⟨fun z => absurd z (nI_ge (by omega) (by omega)), fun _ => ⟨fun z => hx u' _ a1 (fun q => z (by rw [q.2]; exact hfst.1.2.1)), fun z => ⟨A, A.fr a, a, s - 1, hA, hCu, ⟨r1, rfl⟩, ⟨ham, rfl⟩, ⟨by omega, rfl⟩, fun u2 b1 b2 => ?_⟩⟩⟩
      have hC2 := MR_fr hCu (wa_mn b1)
      obtain ⟨f2, f3⟩ := (hC2.2.2 a ham).1
      obtain ⟨lc1, lc2, lc3⟩ := MR_lc hA hC2 ham
      rw [ca] at lc2 lc3
      have c25 : (25 : Int32) * nI (A.tr a) + nI s - 1 = nI (25 * A.tr a + (s - 1)) := by rw [dm_25, nI_sub1 (by omega), show 25 * A.tr a + s - 1 = 25 * A.tr a + (s - 1) by omega]
      have k1 : (nI (25 * A.tr a + (s - 1))).toNatClampNeg = 25 * A.tr a + (s - 1) := nI_clamp (by omega)
      have i2 : vp_in (nI (25 * A.tr a + (s - 1))) 625 := vp_in_nI (by omega) (by omega)
      have gt := b2 (s - 1) (by omega) (A.tr a) r2
      have gb := gw_b hA a (A.fr a) (s - 1) (A.tr a)
      have gtb : lB (gw A a (A.fr a) (s - 1) (A.tr a)) := by unfold lB; omega
      have lr2 := (AN.dFe hA a ham z).2
      have sb : lB (gw A a (A.fr a) (s - 1) (A.tr a) + A.lr a) := by unfold lB; omega
      simp only [f3, c25, k1, i2, gt, lc2, lc3, hFl, h0l, lI_add, true_and]
      refine ⟨fun z2 => ?_, fun z2 => ⟨fun z3 => ?_, fun z3 => ?_⟩⟩
      · rw [lI_le hFb gtb] at z2
        exact hx u2 _ (wa_frt a1 b1) (fun q => by
          have := hfst.1.2.2.1
          rw [← q.1, ← q.2] at this
          omega)
      · rw [lI_le (by unfold lB; omega) sb] at z3
        exact hx u2 _ (wa_frt a1 b1) (fun q => by
          have := hfst.1.2.2.2
          rw [← q.1, ← q.2] at this
          omega)
      · rw [lI_lt gtb hFb] at z2
        rw [lI_lt sb (by unfold lB; omega)] at z3
        obtain ⟨e4, e5⟩ := hq z (by omega) z3
        refine ⟨A, f, rq, hA, hC2, hR, ⟨by rw [e5], by rw [e4]⟩, ?_, fun u3 c1 c2 c3 => h u3 (tr_frt (tr_wa (wa_frt a1 b1)) c1) c2 c3⟩
        rw [← e5]
        rw [show s - 1 + 1 = f by omega] at b2
        exact b2
    have loop : ∀ k s : Nat, s + k = f → 2 ≤ s → ∀ d a : Nat, a + d = A.M → (s = f → a ≤ rq 0) → ∀ (u' : dm_S) (o3 : Option Value), wa_fr u u' → G 12 [some (.ref 0), some (.int (nI s)), some (.int (nI a)), o3, none] [] u' := by
      intro k
      induction k with
      | zero =>
        intro s hs hs2 d
        induction d with
        | zero =>
          intro a ha hr u' o3 a1
          have := hr (by omega)
          have := (hin 0 (by omega)).1
          omega
        | succ d ihd =>
          intro a ha hr u' o3 a1
          refine body s a u' o3 hs2 (by omega) (by omega) a1 (fun q1 q2 q3 => ?_) (fun u2 o3 b1 b2 => ihd (a + 1) (by omega) (fun q => ?_) u2 o3 b1)
          · have e : s = f := by omega
            subst e
            refine ⟨rfl, ?_⟩
            have := hr rfl
            rcases Nat.lt_or_ge a (rq 0) with y | y
            · exact absurd ⟨by omega, q1, q2, q3⟩ (hfst.2 a y)
            · omega
          · have := hr q
            rcases Nat.lt_or_ge a (rq 0) with y | y
            · omega
            · exact absurd ⟨q, by omega⟩ b2
      | succ k ih =>
        intro s hs hs2 d
        induction d with
        | zero =>
          intro a ha hr u' o3 a1
          have e : a = A.M := by omega
          subst e
          apply hG (fun pc => pc == 12) 110
          simp (config := { maxSteps := 2000000 }) [-Prod.forall, -Prod.exists, -exists_and_left, -exists_and_right, hW0, hW1, dm_fn, dm_fd, dm_x, dm_L0, dm_la, dm_t1, dm_sw, List.headD, dm_ic, dm_mk, dm_s1, dm_s2, dm_clr, dm_cs, dm_cc, dm_nb0, dm_nb1, Value.category, List.lookup, p_X11_findRing, x_X11_findRing, k_X11_findRing, dm_cm, upd, vp_updL, dm_ui_1, dm_ui_2, dm_ul_1, dm_ul_2, sp_X11_walks, sp_X11_lastCost, sp_X11_takeRing, sM_0, sM_1, sM_2, sM_3, sM_4, sM_5, sM_6, sM_7, sM_8, sM_9, sM_10, sM_11, sM_12, sM_13, sM_14, sM_15, sM_16, sM_17, sM_18, sM_19, sM_20, sM_21, sM_22, sM_23, sM_24, sM_25, sM_26, sM_27, sM_28, sM_29]
          rw [a1.1, hC.1.1, hC.1.2, nI_1]
          exact ⟨fun _ => ⟨fun z => absurd ((nI_ltI (by omega) (by omega)).mp z) (by omega), fun _ => ih (s + 1) (by omega) (by omega) A.M 0 (by omega) (fun _ => Nat.zero_le _) u' _ a1⟩, fun z => absurd z (nI_nlt (Nat.le_refl _) (by omega))⟩
        | succ d ihd =>
          intro a ha hr u' o3 a1
          refine body s a u' o3 hs2 (by omega) (by omega) a1 (fun q1 q2 q3 => ?_) (fun u2 o3 b1 b2 => ihd (a + 1) (by omega) (fun q => by omega) u2 o3 b1)
          have := ref_few hA (by omega) hmin (s := s) (a := a) (by omega) (by omega) (by omega) q1 q2
          omega
    apply hG (fun pc => pc == 12) 80
    simp (config := { maxSteps := 2000000 }) [-Prod.forall, -Prod.exists, -exists_and_left, -exists_and_right, hW0, hW1, dm_fn, dm_fd, dm_x, dm_L0, dm_la, dm_t1, dm_sw, List.headD, dm_ic, dm_mk, dm_s1, dm_s2, dm_clr, dm_cs, dm_cc, dm_nb0, dm_nb1, Value.category, List.lookup, p_X11_findRing, x_X11_findRing, k_X11_findRing, dm_cm, upd, vp_updL, dm_ui_1, dm_ui_2, dm_ul_1, dm_ul_2, sp_X11_walks, sp_X11_lastCost, sp_X11_takeRing, sM_0, sM_1, sM_2, sM_3, sM_4, sM_5, sM_6, sM_7, sM_8, sM_9, sM_10, sM_11, sM_12, sM_13, sM_14, sM_15, sM_16, sM_17, sM_18, sM_19, sM_20, sM_21, sM_22, sM_23, sM_24, sM_25, sM_26, sM_27, sM_28, sM_29]
    rw [hC.1.1]
    exact ⟨fun z => absurd ((nI_ltI (b := 2) (by omega) (by omega)).mp z) (by omega), fun _ => loop (f - 2) 2 (by omega) (by omega) A.M 0 (by omega) (fun _ => Nat.zero_le _) u _ (wa_fr0 u)⟩
  · exact h.elim
set_option maxRecDepth 100000 in
theorem t_X11_findRing (l : Launch) (D : va_G) (cA : Nat → ClassId) (ad : Nat → Nat) : dm_Met l D dm_cl cA ad shM yX11_findRing (Cond.code yX11_findRing cX11_findRing 5 (dm_rt 0) :: dm_tt) ({ frames := 2, cells := 0, slots := 0, locals := 50 } : Room) sp_X11_findRing := dm_meth (own := RX11) (X := x_X11_findRing) (Sp := k_X11_findRing) (prog := p_X11_findRing) (by decide +kernel) rfl rfl (dm_FO_s ffX11 [(13, 11, 3), (17, 11, 4), (23, 11, 6), (96, 11, 36), (109, 11, 0), (123, 11, 1)] rfl dm_hT (by decide +kernel)) (dm_IO_s ifX11 jfX11 [] [(130, -2), (152, 1152921504606846976)] rfl rfl dm_hT (by decide +kernel) (by decide +kernel)) soM (dm_MO_of (List.forall_mem_cons.mpr ⟨dm_M1_of (t_X11_walks l D cA ad) dm_hT (dm_mem [1164, 77, 1161] (by decide +kernel) (by decide +kernel)) (by decide) (by decide +kernel) (Or.inr ⟨by decide, dm_mem [1163, 55] (by decide +kernel) (by decide +kernel), rfl⟩), List.forall_mem_cons.mpr ⟨dm_M1_of (t_X11_lastCost l D cA ad) dm_hT (dm_mem [1156, 77, 1153] (by decide +kernel) (by decide +kernel)) (by decide) (by decide +kernel) (Or.inr ⟨by decide, dm_mem [1155, 53] (by decide +kernel) (by decide +kernel), rfl⟩), List.forall_mem_cons.mpr ⟨dm_M1_of (t_X11_takeRing l D cA ad) dm_hT (dm_mem [1168, 77, 1165] (by decide +kernel) (by decide +kernel)) (by decide) (by decide +kernel) (Or.inr ⟨by decide, dm_mem [1167, 56] (by decide +kernel) (by decide +kernel), rfl⟩), fun _ h => absurd h List.not_mem_nil⟩⟩⟩)) v_X11_findRing u_X11_findRing
