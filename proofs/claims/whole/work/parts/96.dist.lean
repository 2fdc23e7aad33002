/-! ===== the reference: distances ===== -/
def ds_fr (u u' : dm_S) : Prop := u'.1 = u.1 ∧ ∀ c, c ≠ 19 → u'.2 c = u.2 c
theorem ds_fr0 (u : dm_S) : ds_fr u u := ⟨rfl, fun _ _ => rfl⟩
theorem ds_frt {u u' u'' : dm_S} (h : ds_fr u u') (h2 : ds_fr u' u'') : ds_fr u u'' := ⟨h2.1.trans h.1, fun c a => (h2.2 c a).trans (h.2 c a)⟩
theorem ds_19 {u : dm_S} {j : Nat} {x : Int64} : ds_fr u (dm_ul u 19 j x) := ⟨rfl, fun c hc => by rw [dm_ul_2, if_neg hc]⟩
theorem ds_mn {u u' : dm_S} (h : ds_fr u u') : mn_fr u u' := by
  refine ⟨⟨by rw [h.1], by rw [h.1]⟩, fun c hc => by rw [h.1], fun c hc => h.2 c ?_⟩
  intro z; subst z; revert hc; decide
theorem FV_19 {u : dm_S} {n : Nat} {V : Nat → Int} {j : Nat} {z : Int} (h : FV u n V) : FV (dm_ul u 19 j (lI z)) n (uI V j z) := fun v hv => by
  rw [dm_ul_2, if_pos rfl]
  unfold vp_updL uI
  by_cases y : v = j
  · rw [if_pos y, if_pos y]
  · rw [if_neg y, if_neg y]; exact h v hv
/-- the ways by arcs that are asked -/
def yn (A : AN) (f : Nat → Int) (bt : Int32) (j : Nat) : Bool := A.yo f j && !decide (nI (j / 2) = bt)
def ys (s : Int32) : Nat → Int := fun v => if s = -1 ∨ nI v = s then 0 else fAR
theorem ys_0 {n : Nat} {s : Int32} : d0 n (ys s) := fun v _ => by unfold ys; split <;> simp
def ds_ok (u : dm_S) (A : AN) (f U : Nat → Int) (bt : Int32) : Prop := A.ok ∧ MR u A ∧ FL u A.M f ∧ (∀ a, a < A.M → 0 ≤ f a ∧ f a ≤ 1000000000000) ∧ dP (2 * A.M) (wb A.fr A.tr) (we A.fr A.tr) (A.yc f) (yn A f bt) U
def sp_X11_distances (As : List Value) (u : dm_S) (Q : Option Value → dm_S → Prop) : Prop := match As with
  | [.ref 0, .int s, .int bt] => ∃ (A : AN) (f U : Nat → Int), ds_ok u A f U bt ∧ ∀ (u' : dm_S) (V : Nat → Int), ds_fr u u' → FV u' A.n V → dI A.n (2 * A.M) (wb A.fr A.tr) (we A.fr A.tr) (A.yc f) (yn A f bt) (ys s) V → dR (2 * A.M) (wb A.fr A.tr) (we A.fr A.tr) (A.yc f) (yn A f bt) V → Q none u'
  | _ => False
def p_X11_distances : List dm_I := [(0, .iconst 0, 1, []), (1, .istore_n 3, 1, [3]), (2, .iload_n 3, 1, [3]), (3, .aload_n 0, 1, [0]), (4, .getfield 109, 3, []), (7, .if_icmp .ge 32, 3, [39]), (10, .aload_n 0, 1, [0]), (11, .getfield 65, 3, []), (14, .iload_n 3, 1, [3]), (15, .iload_n 1, 1, [1]), (16, .iconst (-1), 1, []), (17, .if_icmp .eq 8, 3, [25]), (20, .iload_n 3, 1, [3]), (21, .iload_n 1, 1, [1]), (22, .if_icmp .ne 7, 3, [29]), (25, .lconst 0, 1, []), (26, .goto 6, 3, [32]), (29, .ldc2_w 152, 3, []), (32, .lastore, 1, []), (33, .iinc 3 1, 3, []), (36, .goto (-34), 3, [2]), (39, .iconst 1, 1, []), (40, .istore_n 3, 1, [3]), (41, .iload_n 3, 1, [3]), (42, .ifCond .eq 265, 3, [307]), (45, .iconst 0, 1, []), (46, .istore_n 3, 1, [3]), (47, .iconst 0, 1, []), (48, .istore 4, 2, []), (50, .iload 4, 2, []), (52, .aload_n 0, 1, [0]), (53, .getfield 123, 3, []), (56, .if_icmp .ge 248, 3, [304]), (59, .iload 4, 2, []), (61, .iload_n 2, 1, [2]), (62, .if_icmp .eq 236, 3, [298]), (65, .aload_n 0, 1, [0]), (66, .iload 4, 2, []), (68, .invokevirtual 209, 3, []), (71, .ifCond .eq 104, 3, [175]), (74, .aload_n 0, 1, [0]), (75, .getfield 65, 3, []), (78, .aload_n 0, 1, [0]), (79, .getfield 13, 3, []), (82, .iload 4, 2, []), (84, .iaload, 1, []), (85, .laload, 1, []), (86, .ldc2_w 152, 3, []), (89, .lcmp, 1, []), (90, .ifCond .ge 85, 3, [175]), (93, .aload_n 0, 1, [0]), (94, .getfield 65, 3, []), (97, .aload_n 0, 1, [0]), (98, .getfield 13, 3, []), (101, .iload 4, 2, []), (103, .iaload, 1, []), (104, .laload, 1, []), (105, .aload_n 0, 1, [0]), (106, .iload 4, 2, []), (108, .aload_n 0, 1, [0]), (109, .getfield 35, 3, []), (112, .iload 4, 2, []), (114, .laload, 1, []), (115, .invokevirtual 212, 3, []), (118, .ladd, 1, []), (119, .aload_n 0, 1, [0]), (120, .getfield 65, 3, []), (123, .aload_n 0, 1, [0]), (124, .getfield 17, 3, []), (127, .iload 4, 2, []), (129, .iaload, 1, []), (130, .laload, 1, []), (131, .lcmp, 1, []), (132, .ifCond .ge 43, 3, [175]), (135, .aload_n 0, 1, [0]), (136, .getfield 65, 3, []), (139, .aload_n 0, 1, [0]), (140, .getfield 17, 3, []), (143, .iload 4, 2, []), (145, .iaload, 1, []), (146, .aload_n 0, 1, [0]), (147, .getfield 65, 3, []), (150, .aload_n 0, 1, [0]), (151, .getfield 13, 3, []), (154, .iload 4, 2, []), (156, .iaload, 1, []), (157, .laload, 1, []), (158, .aload_n 0, 1, [0]), (159, .iload 4, 2, []), (161, .aload_n 0, 1, [0]), (162, .getfield 35, 3, []), (165, .iload 4, 2, []), (167, .laload, 1, []), (168, .invokevirtual 212, 3, []), (171, .ladd, 1, []), (172, .lastore, 1, []), (173, .iconst 1, 1, []), (174, .istore_n 3, 1, [3]), (175, .aload_n 0, 1, [0]), (176, .getfield 35, 3, []), (179, .iload 4, 2, []), (181, .laload, 1, []), (182, .aload_n 0, 1, [0]), (183, .getfield 20, 3, []), (186, .iload 4, 2, []), (188, .laload, 1, []), (189, .lcmp, 1, []), (190, .ifCond .le 108, 3, [298]), (193, .aload_n 0, 1, [0]), (194, .getfield 65, 3, []), (197, .aload_n 0, 1, [0]), (198, .getfield 17, 3, []), (201, .iload 4, 2, []), (203, .iaload, 1, []), (204, .laload, 1, []), (205, .ldc2_w 152, 3, []), (208, .lcmp, 1, []), (209, .ifCond .ge 89, 3, [298]), (212, .aload_n 0, 1, [0]), (213, .getfield 65, 3, []), (216, .aload_n 0, 1, [0]), (217, .getfield 17, 3, []), (220, .iload 4, 2, []), (222, .iaload, 1, []), (223, .laload, 1, []), (224, .aload_n 0, 1, [0]), (225, .iload 4, 2, []), (227, .aload_n 0, 1, [0]), (228, .getfield 35, 3, []), (231, .iload 4, 2, []), (233, .laload, 1, []), (234, .lconst 1, 1, []), (235, .lsub, 1, []), (236, .invokevirtual 212, 3, []), (239, .lsub, 1, []), (240, .aload_n 0, 1, [0]), (241, .getfield 65, 3, []), (244, .aload_n 0, 1, [0]), (245, .getfield 13, 3, []), (248, .iload 4, 2, []), (250, .iaload, 1, []), (251, .laload, 1, []), (252, .lcmp, 1, []), (253, .ifCond .ge 45, 3, [298]), (256, .aload_n 0, 1, [0]), (257, .getfield 65, 3, []), (260, .aload_n 0, 1, [0]), (261, .getfield 13, 3, []), (264, .iload 4, 2, []), (266, .iaload, 1, []), (267, .aload_n 0, 1, [0]), (268, .getfield 65, 3, []), (271, .aload_n 0, 1, [0]), (272, .getfield 17, 3, []), (275, .iload 4, 2, []), (277, .iaload, 1, []), (278, .laload, 1, []), (279, .aload_n 0, 1, [0]), (280, .iload 4, 2, []), (282, .aload_n 0, 1, [0]), (283, .getfield 35, 3, []), (286, .iload 4, 2, []), (288, .laload, 1, []), (289, .lconst 1, 1, []), (290, .lsub, 1, []), (291, .invokevirtual 212, 3, []), (294, .lsub, 1, []), (295, .lastore, 1, []), (296, .iconst 1, 1, []), (297, .istore_n 3, 1, [3]), (298, .iinc 4 1, 3, []), (301, .goto (-251), 3, [50]), (304, .goto (-263), 3, [41]), (307, .return_, 1, [])]
set_option maxRecDepth 100000 in
theorem v_X11_distances : p_X11_distances.all (dm_vb cX11_distances) = true := by decide +kernel
def k_X11_distances : dm_Sp := fun a => match a with
  | 0 => sp_X11_canGrow
  | 1 => sp_X11_nextCost
  | _ => fun _ _ _ => False
def x_X11_distances : dm_X := dm_mk [(13, 11, 3), (17, 11, 4), (20, 11, 5), (35, 11, 11), (65, 11, 25), (109, 11, 0), (123, 11, 1)] [] [(152, 1152921504606846976)] [(209, 0, 1, 11), (212, 1, 2, 11)] 0
set_option maxRecDepth 100000 in
set_option maxHeartbeats 1600000 in
theorem u_X11_distances : dm_Pure shM x_X11_distances k_X11_distances p_X11_distances 5 sp_X11_distances := by
  intro As u Qp h
  unfold sp_X11_distances at h
  split at h
  · rename_i s bt
    obtain ⟨A, f, U, ⟨hA, hC, hfl, hfb, hU⟩, h⟩ := h
    obtain ⟨hn, hM⟩ := hA.1
    have hf := AN.dFy hA (f := f) (on := yn A f bt)
    have hF : fAR = 1152921504606846976 := rfl
    have hFl : (1152921504606846976 : Int64) = lI fAR := rfl
    have hFb : lB fAR := by unfold lB; omega
    refine ⟨Nat.le_of_ble_eq_true rfl, fun G Wp hW0 hW1 hG => ?_⟩
    -- a pass: from arc a on; S0 the sum before it
    have pass : ∀ S0 : Int, (∀ (u' : dm_S) (V : Nat → Int) (ch : Bool) (o4 : Option Value), ds_fr u u' → FV u' A.n V → dI A.n (2 * A.M) (wb A.fr A.tr) (we A.fr A.tr) (A.yc f) (yn A f bt) (ys s) V → (ch = true → sI V A.n < S0) → (ch = false → dR (2 * A.M) (wb A.fr A.tr) (we A.fr A.tr) (A.yc f) (yn A f bt) V) → G 41 [some (.ref 0), some (.int s), some (.int bt), some (.int (if ch then 1 else 0)), o4] [] u') → ∀ (k a : Nat), a + k = A.M → ∀ (u' : dm_S) (V : Nat → Int) (ch : Bool), ds_fr u u' → FV u' A.n V → dI A.n (2 * A.M) (wb A.fr A.tr) (we A.fr A.tr) (A.yc f) (yn A f bt) (ys s) V → (ch = true → sI V A.n < S0) → (ch = false → sI V A.n ≤ S0 ∧ ∀ j, j < 2 * a → yn A f bt j = true → V (wb A.fr A.tr j) ≠ fAR → V (we A.fr A.tr j) ≤ V (wb A.fr A.tr j) + A.yc f j) → G 50 [some (.ref 0), some (.int s), some (.int bt), some (.int (if ch then 1 else 0)), some (.int (nI a))] [] u' := by
      intro S0 hx k
      induction k with
      | zero =>
        intro a ha u' V ch a1 a2 a3 a4 a5
        have e : a = A.M := by omega
        subst e
        apply hG (fun pc => pc == 50 || pc == 175 || pc == 41) 80
        simp (config := { maxSteps := 2000000 }) [-Prod.forall, -Prod.exists, -exists_and_left, -exists_and_right, hW0, hW1, dm_fn, dm_fd, dm_x, dm_L0, dm_la, dm_t1, dm_sw, List.headD, dm_ic, dm_mk, dm_s1, dm_s2, dm_clr, dm_cs, dm_cc, dm_nb0, dm_nb1, Value.category, List.lookup, p_X11_distances, x_X11_distances, k_X11_distances, dm_cm, upd, vp_updL, dm_ui_1, dm_ui_2, dm_ul_1, dm_ul_2, sp_X11_canGrow, sp_X11_nextCost, sM_0, sM_1, sM_2, sM_3, sM_4, sM_5, sM_6, sM_7, sM_8, sM_9, sM_10, sM_11, sM_12, sM_13, sM_14, sM_15, sM_16, sM_17, sM_18, sM_19, sM_20, sM_21, sM_22, sM_23, sM_24, sM_25, sM_26, sM_27, sM_28, sM_29]
        rw [a1.1, hC.1.2]
        exact ⟨fun _ => hx u' V ch _ a1 a2 a3 a4 (fun z => (a5 z).2), fun z => absurd z (nI_nlt (Nat.le_refl _) (by omega))⟩
      | succ k ih =>
        intro a ha u' V ch a1 a2 a3 a4 a5
        have ham : a < A.M := by omega
        have mid : ∀ (u' : dm_S) (V : Nat → Int) (ch : Bool), ds_fr u u' → FV u' A.n V → dI A.n (2 * A.M) (wb A.fr A.tr) (we A.fr A.tr) (A.yc f) (yn A f bt) (ys s) V → (ch = true → sI V A.n < S0) → (ch = false → sI V A.n ≤ S0 ∧ ∀ j, j < 2 * a + 1 → yn A f bt j = true → V (wb A.fr A.tr j) ≠ fAR → V (we A.fr A.tr j) ≤ V (wb A.fr A.tr j) + A.yc f j) → ¬ nI a = bt → G 175 [some (.ref 0), some (.int s), some (.int bt), some (.int (if ch then 1 else 0)), some (.int (nI a))] [] u' := by
          intro u' V ch a1 a2 a3 a4 a5 hbt
          apply hG (fun pc => pc == 50 || pc == 41) 80
          simp (config := { maxSteps := 2000000 }) [-Prod.forall, -Prod.exists, -exists_and_left, -exists_and_right, hW0, hW1, dm_fn, dm_fd, dm_x, dm_L0, dm_la, dm_t1, dm_sw, List.headD, dm_ic, dm_mk, dm_s1, dm_s2, dm_clr, dm_cs, dm_cc, dm_nb0, dm_nb1, Value.category, List.lookup, p_X11_distances, x_X11_distances, k_X11_distances, dm_cm, upd, vp_updL, dm_ui_1, dm_ui_2, dm_ul_1, dm_ul_2, sp_X11_canGrow, sp_X11_nextCost, sM_0, sM_1, sM_2, sM_3, sM_4, sM_5, sM_6, sM_7, sM_8, sM_9, sM_10, sM_11, sM_12, sM_13, sM_14, sM_15, sM_16, sM_17, sM_18, sM_19, sM_20, sM_21, sM_22, sM_23, sM_24, sM_25, sM_26, sM_27, sM_28, sM_29]
        apply hG (fun pc => pc == 50 || pc == 175 || pc == 41) 80
        simp (config := { maxSteps := 2000000 }) [-Prod.forall, -Prod.exists, -exists_and_left, -exists_and_right, hW0, hW1, dm_fn, dm_fd, dm_x, dm_L0, dm_la, dm_t1, dm_sw, List.headD, dm_ic, dm_mk, dm_s1, dm_s2, dm_clr, dm_cs, dm_cc, dm_nb0, dm_nb1, Value.category, List.lookup, p_X11_distances, x_X11_distances, k_X11_distances, dm_cm, upd, vp_updL, dm_ui_1, dm_ui_2, dm_ul_1, dm_ul_2, sp_X11_canGrow, sp_X11_nextCost, sM_0, sM_1, sM_2, sM_3, sM_4, sM_5, sM_6, sM_7, sM_8, sM_9, sM_10, sM_11, sM_12, sM_13, sM_14, sM_15, sM_16, sM_17, sM_18, sM_19, sM_20, sM_21, sM_22, sM_23, sM_24, sM_25, sM_26, sM_27, sM_28, sM_29]
    skip
  · exact h.elim
set_option maxRecDepth 100000 in
theorem t_X11_distances (l : Launch) (D : va_G) (cA : Nat → ClassId) (ad : Nat → Nat) : dm_Met l D dm_cl cA ad shM yX11_distances (Cond.code yX11_distances cX11_distances 5 (dm_rt 0) :: dm_tt) ({ frames := 1, cells := 0, slots := 0, locals := 24 } : Room) sp_X11_distances := dm_meth (own := RX11) (X := x_X11_distances) (Sp := k_X11_distances) (prog := p_X11_distances) (by decide +kernel) rfl rfl (dm_FO_s ffX11 [(13, 11, 3), (17, 11, 4), (20, 11, 5), (35, 11, 11), (65, 11, 25), (109, 11, 0), (123, 11, 1)] rfl dm_hT (by decide +kernel)) (dm_IO_s ifX11 jfX11 [] [(152, 1152921504606846976)] rfl rfl dm_hT (by decide +kernel) (by decide +kernel)) soM (dm_MO_of (List.forall_mem_cons.mpr ⟨dm_M1_of (t_X11_canGrow l D cA ad) dm_hT (dm_mem [1185, 77, 1182] (by decide +kernel) (by decide +kernel)) (by decide) (by decide +kernel) (Or.inr ⟨by decide, dm_mem [1184, 60] (by decide +kernel) (by decide +kernel), rfl⟩), List.forall_mem_cons.mpr ⟨dm_M1_of (t_X11_nextCost l D cA ad) dm_hT (dm_mem [1189, 77, 1186] (by decide +kernel) (by decide +kernel)) (by decide) (by decide +kernel) (Or.inr ⟨by decide, dm_mem [1188, 61] (by decide +kernel) (by decide +kernel), rfl⟩), fun _ h => absurd h List.not_mem_nil⟩⟩)) v_X11_distances u_X11_distances
