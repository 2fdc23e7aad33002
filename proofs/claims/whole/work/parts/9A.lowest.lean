/-! ===== the reference: lowest ===== -/
def lt_fr (u u' : dm_S) : Prop := (∀ c, c ∉ [26, 27, 28] → u'.1 c = u.1 c) ∧ ∀ c, c ∉ [9, 19, 24, 25] → u'.2 c = u.2 c
theorem lt_fr0 (u : dm_S) : lt_fr u u := ⟨fun _ _ => rfl, fun _ _ => rfl⟩
theorem lt_frt {u u' u'' : dm_S} (h : lt_fr u u') (h2 : lt_fr u' u'') : lt_fr u u'' := ⟨fun c a => (h2.1 c a).trans (h.1 c a), fun c a => (h2.2 c a).trans (h.2 c a)⟩
theorem lt_l {u : dm_S} {c j : Nat} {x : Int64} (h : c ∈ [9, 19, 24, 25]) : lt_fr u (dm_ul u c j x) := by
  refine ⟨fun _ _ => rfl, fun k hk => ?_⟩
  have y : k ≠ c := fun y => hk (by rw [y]; exact h)
  rw [dm_ul_2, if_neg y]
theorem lt_ds {u u' : dm_S} (h : ds_fr u u') : lt_fr u u' := ⟨fun c _ => by rw [h.1], fun c hc => h.2 c (fun z => hc (by rw [z]; decide))⟩
theorem lt_lr {u u' : dm_S} (h : lr_fr u u') : lt_fr u u' := ⟨h.1, fun c hc => h.2 c (fun z => hc (by rw [z]; decide))⟩
theorem lt_mn {u u' : dm_S} (h : lt_fr u u') : mn_fr u u' := by
  refine ⟨⟨by rw [h.1 0 (by decide)], by rw [h.1 0 (by decide)]⟩, fun c hc => h.1 c ?_, fun c hc => h.2 c ?_⟩
  · intro z; revert hc z; revert c; decide
  · intro z; revert hc z; revert c; decide
/-- bounds while arcs below a are settled -/
def LLa (a : Nat) (f L : Nat → Int) : Nat → Int := fun i => if i < a then f i else L i
theorem AN.b_bd {A : AN} (hA : A.ok) {P : Nat → Int} {a : Nat} (ha : a < A.M) : 0 ≤ A.bL 1000000000000 P a ∧ A.bH 1000000000000 P a ≤ 1000000000000 := by
  obtain ⟨j, j1, j2, j3⟩ := AN.bL_cp hA (B := 1000000000000) (P := P) ha
  obtain ⟨i, i1, i2, i3⟩ := AN.bH_cp hA (B := 1000000000000) (P := P) ha
  have h1 := AN.cp_mono hA (B := 1000000000000) (by decide) ha (i := 0) j (by omega)
  have h2 := AN.cp_mono hA (B := 1000000000000) (by decide) ha (i := i) (A.pt a - i) (by omega)
  rw [show i + (A.pt a - i) = A.pt a by omega] at h2
  have c0 : A.cp 1000000000000 a 0 = A.st (4 * a) := by show A.st (4 * a) + 0 = _; omega
  rw [Nat.zero_add, c0] at h1
  have s0 := (hA.2.1 a ha).2.2.1
  have c1 : A.cp 1000000000000 a (A.pt a) = (if A.en a then 1000000000000 else A.tp a) := by unfold AN.cp; rw [AN.w_all hA ha]; omega
  have c2 : (if A.en a then (1000000000000 : Int) else A.tp a) ≤ 1000000000000 := by
    cases hq : A.en a with
    | true => rw [if_pos rfl]; decide
    | false => have := ((hA.2.1 a ha).2.2.2.2.2 hq).1; rw [if_neg (by decide)]; omega
  omega
def sp_X11_lowest (As : List Value) (u : dm_S) (Q : Option Value → dm_S → Prop) : Prop := match As with
  | [.ref 0] => ∃ (A : AN) (lo U : Nat → Int), A.ok ∧ MR u A ∧ FL u A.M (A.on lo) ∧ fits A.K (A.w 1000000000000) lo ∧ pf A.K A.b A.e (A.w 1000000000000) A.c U lo ∧ (∀ a, a < A.M → A.on lo a < 1000000000000) ∧ ∀ (u' : dm_S) (f P : Nat → Int), lt_fr u u' → FL u' A.M f → (∀ a, a < A.M → A.bL 1000000000000 P a ≤ f a ∧ f a ≤ A.bH 1000000000000 P a) → (∀ v, dv A.M A.fr A.tr f v = dv A.M A.fr A.tr (A.on lo) v) → aLex A.n A.M A.fr A.tr (A.bL 1000000000000 P) (A.bH 1000000000000 P) f A.M → Q none u'
  | _ => False
def p_X11_lowest : List dm_I := [(0, .aload_n 0, 1, [0]), (1, .iconst (-1), 1, []), (2, .iconst (-1), 1, []), (3, .invokevirtual 215, 3, []), (6, .iconst 0, 1, []), (7, .istore_n 1, 1, [1]), (8, .iload_n 1, 1, [1]), (9, .aload_n 0, 1, [0]), (10, .getfield 123, 3, []), (13, .if_icmp .ge 184, 3, [197]), (16, .aload_n 0, 1, [0]), (17, .getfield 65, 3, []), (20, .aload_n 0, 1, [0]), (21, .getfield 17, 3, []), (24, .iload_n 1, 1, [1]), (25, .iaload, 1, []), (26, .laload, 1, []), (27, .aload_n 0, 1, [0]), (28, .getfield 65, 3, []), (31, .aload_n 0, 1, [0]), (32, .getfield 13, 3, []), (35, .iload_n 1, 1, [1]), (36, .iaload, 1, []), (37, .laload, 1, []), (38, .lsub, 1, []), (39, .lstore_n 2, 1, [2]), (40, .aload_n 0, 1, [0]), (41, .getfield 20, 3, []), (44, .iload_n 1, 1, [1]), (45, .laload, 1, []), (46, .lstore 4, 2, []), (48, .aload_n 0, 1, [0]), (49, .getfield 20, 3, []), (52, .iload_n 1, 1, [1]), (53, .laload, 1, []), (54, .lstore 6, 2, []), (56, .iconst 0, 1, []), (57, .istore 8, 2, []), (59, .iload 8, 2, []), (61, .aload_n 0, 1, [0]), (62, .getfield 26, 3, []), (65, .iload_n 1, 1, [1]), (66, .iaload, 1, []), (67, .if_icmp .gt 108, 3, [175]), (70, .iload 8, 2, []), (72, .aload_n 0, 1, [0]), (73, .getfield 26, 3, []), (76, .iload_n 1, 1, [1]), (77, .iaload, 1, []), (78, .if_icmp .ge 19, 3, [97]), (81, .aload_n 0, 1, [0]), (82, .getfield 32, 3, []), (85, .iconst 4, 1, []), (86, .iload_n 1, 1, [1]), (87, .imul, 1, []), (88, .iload 8, 2, []), (90, .iadd, 1, []), (91, .iconst 1, 1, []), (92, .iadd, 1, []), (93, .laload, 1, []), (94, .goto 28, 3, [122]), (97, .aload_n 0, 1, [0]), (98, .getfield 23, 3, []), (101, .iload_n 1, 1, [1]), (102, .laload, 1, []), (103, .ldc2_w 130, 3, []), (106, .lcmp, 1, []), (107, .ifCond .ne 9, 3, [116]), (110, .ldc2_w 142, 3, []), (113, .goto 9, 3, [122]), (116, .aload_n 0, 1, [0]), (117, .getfield 23, 3, []), (120, .iload_n 1, 1, [1]), (121, .laload, 1, []), (122, .lstore 9, 2, []), (124, .aload_n 0, 1, [0]), (125, .getfield 29, 3, []), (128, .iconst 4, 1, []), (129, .iload_n 1, 1, [1]), (130, .imul, 1, []), (131, .iload 8, 2, []), (133, .iadd, 1, []), (134, .laload, 1, []), (135, .lstore 11, 2, []), (137, .lload 11, 2, []), (139, .lload_n 2, 1, [2]), (140, .lcmp, 1, []), (141, .ifCond .ge 8, 3, [149]), (144, .lload 9, 2, []), (146, .goto 5, 3, [151]), (149, .lload 4, 2, []), (151, .lstore 4, 2, []), (153, .lload 11, 2, []), (155, .lload_n 2, 1, [2]), (156, .lcmp, 1, []), (157, .ifCond .gt 8, 3, [165]), (160, .lload 9, 2, []), (162, .goto 5, 3, [167]), (165, .lload 6, 2, []), (167, .lstore 6, 2, []), (169, .iinc 8 1, 3, []), (172, .goto (-113), 3, [59]), (175, .aload_n 0, 1, [0]), (176, .getfield 81, 3, []), (179, .iload_n 1, 1, [1]), (180, .lload 4, 2, []), (182, .lastore, 1, []), (183, .aload_n 0, 1, [0]), (184, .getfield 84, 3, []), (187, .iload_n 1, 1, [1]), (188, .lload 6, 2, []), (190, .lastore, 1, []), (191, .iinc 1 1, 3, []), (194, .goto (-186), 3, [8]), (197, .iconst 0, 1, []), (198, .istore_n 1, 1, [1]), (199, .iload_n 1, 1, [1]), (200, .aload_n 0, 1, [0]), (201, .getfield 123, 3, []), (204, .if_icmp .ge 92, 3, [296]), (207, .aload_n 0, 1, [0]), (208, .getfield 35, 3, []), (211, .iload_n 1, 1, [1]), (212, .laload, 1, []), (213, .aload_n 0, 1, [0]), (214, .getfield 81, 3, []), (217, .iload_n 1, 1, [1]), (218, .laload, 1, []), (219, .lcmp, 1, []), (220, .ifCond .le 7, 3, [227]), (223, .iconst 1, 1, []), (224, .goto 4, 3, [228]), (227, .iconst 0, 1, []), (228, .istore_n 2, 1, [2]), (229, .iload_n 2, 1, [2]), (230, .ifCond .eq 36, 3, [266]), (233, .aload_n 0, 1, [0]), (234, .iload_n 1, 1, [1]), (235, .invokevirtual 219, 3, []), (238, .ifCond .eq 23, 3, [261]), (241, .aload_n 0, 1, [0]), (242, .getfield 35, 3, []), (245, .iload_n 1, 1, [1]), (246, .laload, 1, []), (247, .aload_n 0, 1, [0]), (248, .getfield 81, 3, []), (251, .iload_n 1, 1, [1]), (252, .laload, 1, []), (253, .lcmp, 1, []), (254, .ifCond .le 7, 3, [261]), (257, .iconst 1, 1, []), (258, .goto 4, 3, [262]), (261, .iconst 0, 1, []), (262, .istore_n 2, 1, [2]), (263, .goto (-34), 3, [229]), (266, .aload_n 0, 1, [0]), (267, .getfield 81, 3, []), (270, .iload_n 1, 1, [1]), (271, .aload_n 0, 1, [0]), (272, .getfield 35, 3, []), (275, .iload_n 1, 1, [1]), (276, .laload, 1, []), (277, .lastore, 1, []), (278, .aload_n 0, 1, [0]), (279, .getfield 84, 3, []), (282, .iload_n 1, 1, [1]), (283, .aload_n 0, 1, [0]), (284, .getfield 35, 3, []), (287, .iload_n 1, 1, [1]), (288, .laload, 1, []), (289, .lastore, 1, []), (290, .iinc 1 1, 3, []), (293, .goto (-94), 3, [199]), (296, .return_, 1, [])]
set_option maxRecDepth 100000 in
theorem v_X11_lowest : p_X11_lowest.all (dm_vb cX11_lowest) = true := by decide +kernel
def k_X11_lowest : dm_Sp := fun a => match a with
  | 0 => sp_X11_distances
  | 1 => sp_X11_lower
  | _ => fun _ _ _ => False
def x_X11_lowest : dm_X := dm_mk [(13, 11, 3), (17, 11, 4), (20, 11, 5), (23, 11, 6), (26, 11, 7), (29, 11, 8), (32, 11, 9), (35, 11, 11), (65, 11, 25), (81, 11, 31), (84, 11, 32), (123, 11, 1)] [] [(130, -2), (142, 1000000000000)] [(215, 0, 2, 11), (219, 1, 1, 11)] 0
set_option maxRecDepth 100000 in
set_option maxHeartbeats 12800000 in
theorem u_X11_lowest : dm_Pure shM x_X11_lowest k_X11_lowest p_X11_lowest 13 sp_X11_lowest := by
  intro As u Qp h
  unfold sp_X11_lowest at h
  split at h
  · obtain ⟨A, lo, U, hA, hC, hFl, hl, hp, hs, h⟩ := h
    obtain ⟨hn, hM⟩ := hA.1
    have on0 : ∀ a, a < A.M → 0 ≤ A.on lo a := fun a ha => by
      have h1 := (hA.2.1 a ha).2.2.1
      have h2 : 0 ≤ A.am lo a := sI_ge0 (fun k hk => (hl _ (A.l_at ha hk).1).1)
      unfold AN.on; omega
    refine ⟨Nat.le_of_ble_eq_true rfl, fun G Wp hW0 hW1 hG => ?_⟩
    have settle : ∀ (P : Nat → Int) (k a : Nat), a + k = A.M → ∀ (u' : dm_S) (f : Nat → Int) (o2 o3 o4 o5 o6 o7 o8 o9 o10 o11 o12 : Option Value), lt_fr u u' → FL u' A.M f → BX u' A.M (LLa a f (A.bL 1000000000000 P)) (LLa a f (A.bH 1000000000000 P)) → (∀ a, a < A.M → A.bL 1000000000000 P a ≤ f a ∧ f a ≤ A.bH 1000000000000 P a) → (∀ v, dv A.M A.fr A.tr f v = dv A.M A.fr A.tr (A.on lo) v) → aLex A.n A.M A.fr A.tr (A.bL 1000000000000 P) (A.bH 1000000000000 P) f a → G 199 [some (.ref 0), some (.int (nI a)), o2, o3, o4, o5, o6, o7, o8, o9, o10, o11, o12] [] u' := by
      intro P k
      induction k with
      | zero =>
        intro a ha u' f o2 o3 o4 o5 o6 o7 o8 o9 o10 o11 o12 a1 a2 a3 a4 a5 a6
        have e : a = A.M := by omega
        subst e
        apply hG (fun pc => pc == 199 || pc == 229 || pc == 266) 80
        simp (config := { maxSteps := 2000000 }) [-Prod.forall, -Prod.exists, -exists_and_left, -exists_and_right, hW0, hW1, dm_fn, dm_fd, dm_x, dm_L0, dm_la, dm_t1, dm_sw, List.headD, dm_ic, dm_mk, dm_s1, dm_s2, dm_clr, dm_cs, dm_cc, dm_nb0, dm_nb1, Value.category, List.lookup, p_X11_lowest, x_X11_lowest, k_X11_lowest, dm_cm, upd, vp_updL, dm_ui_1, dm_ui_2, dm_ul_1, dm_ul_2, sp_X11_distances, sp_X11_lower, sM_0, sM_1, sM_2, sM_3, sM_4, sM_5, sM_6, sM_7, sM_8, sM_9, sM_10, sM_11, sM_12, sM_13, sM_14, sM_15, sM_16, sM_17, sM_18, sM_19, sM_20, sM_21, sM_22, sM_23, sM_24, sM_25, sM_26, sM_27, sM_28, sM_29]
        rw [a1.1 0 (by decide), hC.1.2]
        exact ⟨fun _ => h u' f P a1 a2 a4 a5 a6, fun z => absurd z (nI_nlt (Nat.le_refl _) (by omega))⟩
      | succ k ih =>
        intro a ha u' f o2 o3 o4 o5 o6 o7 o8 o9 o10 o11 o12 a1 a2 a3 a4 a5 a6
        have ham : a < A.M := by omega
        have ca : (nI a).toNatClampNeg = a := nI_clamp (by omega)
        have ia : vp_in (nI a) 80 := vp_in_nI (by omega) (by omega)
        have done : ∀ (u' : dm_S) (f : Nat → Int) (x2 : Int32) (o3 o4 o5 o6 o7 o8 o9 o10 o11 o12 : Option Value), lt_fr u u' → FL u' A.M f → BX u' A.M (LLa a f (A.bL 1000000000000 P)) (LLa a f (A.bH 1000000000000 P)) → (∀ a, a < A.M → A.bL 1000000000000 P a ≤ f a ∧ f a ≤ A.bH 1000000000000 P a) → (∀ v, dv A.M A.fr A.tr f v = dv A.M A.fr A.tr (A.on lo) v) → aLex A.n A.M A.fr A.tr (A.bL 1000000000000 P) (A.bH 1000000000000 P) f (a + 1) → G 266 [some (.ref 0), some (.int (nI a)), some (.int x2), o3, o4, o5, o6, o7, o8, o9, o10, o11, o12] [] u' := by
          intro u' f x2 o3 o4 o5 o6 o7 o8 o9 o10 o11 o12 a1 a2 a3 a4 a5 a6
          apply hG (fun pc => pc == 199) 80
          simp (config := { maxSteps := 2000000 }) [-Prod.forall, -Prod.exists, -exists_and_left, -exists_and_right, hW0, hW1, dm_fn, dm_fd, dm_x, dm_L0, dm_la, dm_t1, dm_sw, List.headD, dm_ic, dm_mk, dm_s1, dm_s2, dm_clr, dm_cs, dm_cc, dm_nb0, dm_nb1, Value.category, List.lookup, p_X11_lowest, x_X11_lowest, k_X11_lowest, dm_cm, upd, vp_updL, dm_ui_1, dm_ui_2, dm_ul_1, dm_ul_2, sp_X11_distances, sp_X11_lower, sM_0, sM_1, sM_2, sM_3, sM_4, sM_5, sM_6, sM_7, sM_8, sM_9, sM_10, sM_11, sM_12, sM_13, sM_14, sM_15, sM_16, sM_17, sM_18, sM_19, sM_20, sM_21, sM_22, sM_23, sM_24, sM_25, sM_26, sM_27, sM_28, sM_29]
          simp only [ca, ia, a2 a ham, nI_1, true_and]
          refine ih (a + 1) (by omega) _ f _ _ _ _ _ _ _ _ _ _ _ (lt_frt a1 (lt_frt (lt_l (by decide)) (lt_l (by decide)))) (fun i hi => ?_) (fun i hi => ?_) a4 a5 a6
          · rw [dm_ul_2, if_neg (by decide), dm_ul_2, if_neg (by decide)]; exact a2 i hi
          · obtain ⟨g1, g2⟩ := a3 i hi
            rw [dm_ul_2, if_neg (by decide), dm_ul_2, if_pos rfl, dm_ul_2, if_pos rfl, dm_ul_2, if_neg (by decide)]
            unfold vp_updL LLa
            unfold LLa at g1 g2
            by_cases y : i = a
            · subst y
              rw [if_pos rfl, if_pos rfl, if_pos (by omega), if_pos (by omega)]; exact ⟨rfl, rfl⟩
            · rw [if_neg y, if_neg y, g1, g2]
              by_cases y2 : i < a
              · rw [if_pos y2, if_pos y2, if_pos (by omega), if_pos (by omega)]; exact ⟨rfl, rfl⟩
              · rw [if_neg y2, if_neg y2, if_neg (by omega), if_neg (by omega)]; exact ⟨rfl, rfl⟩
        have stop : ∀ (u' : dm_S) (f : Nat → Int) (o3 o4 o5 o6 o7 o8 o9 o10 o11 o12 : Option Value), lt_fr u u' → FL u' A.M f → BX u' A.M (LLa a f (A.bL 1000000000000 P)) (LLa a f (A.bH 1000000000000 P)) → (∀ a, a < A.M → A.bL 1000000000000 P a ≤ f a ∧ f a ≤ A.bH 1000000000000 P a) → (∀ v, dv A.M A.fr A.tr f v = dv A.M A.fr A.tr (A.on lo) v) → aLex A.n A.M A.fr A.tr (A.bL 1000000000000 P) (A.bH 1000000000000 P) f (a + 1) → G 229 [some (.ref 0), some (.int (nI a)), some (.int 0), o3, o4, o5, o6, o7, o8, o9, o10, o11, o12] [] u' := by
          intro u' f o3 o4 o5 o6 o7 o8 o9 o10 o11 o12 a1 a2 a3 a4 a5 a6
          apply hG (fun pc => pc == 266 || pc == 229 || pc == 233) 6
          simp (config := { maxSteps := 2000000 }) [-Prod.forall, -Prod.exists, -exists_and_left, -exists_and_right, hW0, hW1, dm_fn, dm_fd, dm_x, dm_L0, dm_la, dm_t1, dm_sw, List.headD, dm_ic, dm_mk, dm_s1, dm_s2, dm_clr, dm_cs, dm_cc, dm_nb0, dm_nb1, Value.category, List.lookup, p_X11_lowest, x_X11_lowest, k_X11_lowest, dm_cm, upd, vp_updL, dm_ui_1, dm_ui_2, dm_ul_1, dm_ul_2, sp_X11_distances, sp_X11_lower, sM_0, sM_1, sM_2, sM_3, sM_4, sM_5, sM_6, sM_7, sM_8, sM_9, sM_10, sM_11, sM_12, sM_13, sM_14, sM_15, sM_16, sM_17, sM_18, sM_19, sM_20, sM_21, sM_22, sM_23, sM_24, sM_25, sM_26, sM_27, sM_28, sM_29]
          exact done u' f 0 _ _ _ _ _ _ _ _ _ _ a1 a2 a3 a4 a5 a6
        have lla : ∀ (f L : Nat → Int), LLa a f L a = L a := fun f L => if_neg (by omega)
        have goes : ∀ (m : Nat) (u' : dm_S) (f : Nat → Int) (o3 o4 o5 o6 o7 o8 o9 o10 o11 o12 : Option Value), f a - A.bL 1000000000000 P a ≤ m → A.bL 1000000000000 P a < f a → lt_fr u u' → FL u' A.M f → BX u' A.M (LLa a f (A.bL 1000000000000 P)) (LLa a f (A.bH 1000000000000 P)) → (∀ a, a < A.M → A.bL 1000000000000 P a ≤ f a ∧ f a ≤ A.bH 1000000000000 P a) → (∀ v, dv A.M A.fr A.tr f v = dv A.M A.fr A.tr (A.on lo) v) → aLex A.n A.M A.fr A.tr (A.bL 1000000000000 P) (A.bH 1000000000000 P) f a → G 229 [some (.ref 0), some (.int (nI a)), some (.int 1), o3, o4, o5, o6, o7, o8, o9, o10, o11, o12] [] u' := by
          intro m
          induction m with
          | zero =>
            intro u' f o3 o4 o5 o6 o7 o8 o9 o10 o11 o12 hm hlt
            omega
          | succ m ihm =>
            intro u' f o3 o4 o5 o6 o7 o8 o9 o10 o11 o12 hm hlt a1 a2 a3 a4 a5 a6
            apply hG (fun pc => pc == 229 || pc == 266) 80
            simp (config := { maxSteps := 2000000 }) [-Prod.forall, -Prod.exists, -exists_and_left, -exists_and_right, hW0, hW1, dm_fn, dm_fd, dm_x, dm_L0, dm_la, dm_t1, dm_sw, List.headD, dm_ic, dm_mk, dm_s1, dm_s2, dm_clr, dm_cs, dm_cc, dm_nb0, dm_nb1, Value.category, List.lookup, p_X11_lowest, x_X11_lowest, k_X11_lowest, dm_cm, upd, vp_updL, dm_ui_1, dm_ui_2, dm_ul_1, dm_ul_2, sp_X11_distances, sp_X11_lower, sM_0, sM_1, sM_2, sM_3, sM_4, sM_5, sM_6, sM_7, sM_8, sM_9, sM_10, sM_11, sM_12, sM_13, sM_14, sM_15, sM_16, sM_17, sM_18, sM_19, sM_20, sM_21, sM_22, sM_23, sM_24, sM_25, sM_26, sM_27, sM_28, sM_29]
            have hlh : ∀ i, i < A.M → LLa a f (A.bL 1000000000000 P) i ≤ f i ∧ f i ≤ LLa a f (A.bH 1000000000000 P) i := fun i hi => by
              have := a4 i hi
              unfold LLa
              split <;> omega
            refine ⟨A, LLa a f (A.bL 1000000000000 P), LLa a f (A.bH 1000000000000 P), f, a, hA, MR_fr hC (lt_mn a1), a2, a3, fun i hi => ⟨hlh i hi, ?_⟩, ⟨ham, rfl, by rw [lla]; exact hlt⟩, fun u2 S b1 b2 b3 b4 b5 => ?_, fun u2 f' b1 b2 b3 b4 b5 => ?_⟩
            · have g1 := AN.b_bd hA (P := P) hi
              have g2 := a4 i hi
              unfold LLa
              split <;> omega
            · refine stop u2 f _ _ _ _ _ _ _ _ _ _ (lt_frt a1 (lt_lr b1)) b2 (fun i hi => by rw [b1.2 24 (by decide), b1.2 25 (by decide)]; exact a3 i hi) a4 a5 (aLex_cut (fun i hi => ⟨(hA.2.1 i hi).1.1, (hA.2.1 i hi).1.2.1⟩) ham a6 b3 b4 (fun k hk hak s1 s2 => ?_) (fun k hk hak s1 s2 => ?_))
              · rcases Int.lt_or_le (f k) (A.bH 1000000000000 P k) with g | g
                · have := b5 (2 * k) (by omega) (lon_t.mpr ⟨by omega, by
                    rw [wm_e]
                    have e1 : LLa a f (A.bH 1000000000000 P) k = A.bH 1000000000000 P k := if_neg (by omega)
                    have e2 : LLa a f (A.bL 1000000000000 P) k = A.bL 1000000000000 P k := if_neg (by omega)
                    rw [e1, e2]; omega⟩) (by rw [wy_e.1]; exact s1)
                  rw [wy_e.2, s2] at this
                  cases this
                · exact g
              · rcases Int.lt_or_le (A.bL 1000000000000 P k) (f k) with g | g
                · have := b5 (2 * k + 1) (by omega) (lon_t.mpr ⟨by omega, by
                    rw [wm_o]
                    have e2 : LLa a f (A.bL 1000000000000 P) k = A.bL 1000000000000 P k := if_neg (by omega)
                    rw [e2]; omega⟩) (by rw [wy_o.1]; exact s2)
                  rw [wy_o.2, s1] at this
                  cases this
                · exact g
            · have bx' : ∀ i, i < A.M → A.bL 1000000000000 P i ≤ f' i ∧ f' i ≤ A.bH 1000000000000 P i := fun i hi => by
                have g1 := b3 i hi
                have g2 := a4 i hi
                unfold LLa at g1
                by_cases y : i < a
                · rw [if_pos y, if_pos y] at g1; omega
                · rw [if_neg y, if_neg y] at g1; exact g1
              have ff : ∀ i, i < a → f' i = f i := fun i hi => by
                have g1 := b3 i (by omega)
                unfold LLa at g1
                rw [if_pos hi, if_pos hi] at g1
                omega
              have bx2 : BX u2 A.M (LLa a f' (A.bL 1000000000000 P)) (LLa a f' (A.bH 1000000000000 P)) := fun i hi => by
                rw [b1.2 24 (by decide), b1.2 25 (by decide)]
                obtain ⟨g1, g2⟩ := a3 i hi
                rw [g1, g2]
                unfold LLa
                by_cases y : i < a
                · rw [if_pos y, if_pos y, if_pos y, if_pos y, ff i y]; exact ⟨rfl, rfl⟩
                · rw [if_neg y, if_neg y, if_neg y, if_neg y]; exact ⟨rfl, rfl⟩
              have dv' : ∀ v, dv A.M A.fr A.tr f' v = dv A.M A.fr A.tr (A.on lo) v := fun v => (b4 v).trans (a5 v)
              have lx : aLex A.n A.M A.fr A.tr (A.bL 1000000000000 P) (A.bH 1000000000000 P) f' a := aLex_cg a6 ff (fun v _ => b4 v)
              have e24 : u2.2 24 a = lI (A.bL 1000000000000 P a) := by rw [(bx2 a ham).1, lla]
              have g1 := AN.b_bd hA (P := P) ham
              have g2 := bx' a ham
              have l1 : lB (f' a) := by unfold lB; omega
              have l2 : lB (A.bL 1000000000000 P a) := by unfold lB; omega
              simp only [ca, ia, b2 a ham, e24, true_and]
              rw [lI_le l1 l2, lI_lt l2 l1]
              exact ⟨fun z => stop u2 f' _ _ _ _ _ _ _ _ _ _ (lt_frt a1 (lt_lr b1)) b2 bx2 bx' dv' (aLex_low lx ham (by omega)), fun z => ihm u2 f' _ _ _ _ _ _ _ _ _ _ (by omega) z (lt_frt a1 (lt_lr b1)) b2 bx2 bx' dv' lx⟩
        have e24 : u'.2 24 a = lI (A.bL 1000000000000 P a) := by rw [(a3 a ham).1, lla]
        have g1 := AN.b_bd hA (P := P) ham
        have g2 := a4 a ham
        have l1 : lB (f a) := by unfold lB; omega
        have l2 : lB (A.bL 1000000000000 P a) := by unfold lB; omega
        apply hG (fun pc => pc == 229 || pc == 266) 80
        simp (config := { maxSteps := 2000000 }) [-Prod.forall, -Prod.exists, -exists_and_left, -exists_and_right, hW0, hW1, dm_fn, dm_fd, dm_x, dm_L0, dm_la, dm_t1, dm_sw, List.headD, dm_ic, dm_mk, dm_s1, dm_s2, dm_clr, dm_cs, dm_cc, dm_nb0, dm_nb1, Value.category, List.lookup, p_X11_lowest, x_X11_lowest, k_X11_lowest, dm_cm, upd, vp_updL, dm_ui_1, dm_ui_2, dm_ul_1, dm_ul_2, sp_X11_distances, sp_X11_lower, sM_0, sM_1, sM_2, sM_3, sM_4, sM_5, sM_6, sM_7, sM_8, sM_9, sM_10, sM_11, sM_12, sM_13, sM_14, sM_15, sM_16, sM_17, sM_18, sM_19, sM_20, sM_21, sM_22, sM_23, sM_24, sM_25, sM_26, sM_27, sM_28, sM_29]
        simp only [ca, ia, a2 a ham, e24, true_and]
        rw [a1.1 0 (by decide), hC.1.2, lI_le l1 l2, lI_lt l2 l1]
        exact ⟨fun z => absurd z (nI_ge (by omega) (by omega)), fun _ => ⟨fun z => stop u' f _ _ _ _ _ _ _ _ _ _ a1 a2 a3 a4 a5 (aLex_low a6 ham (by omega)), fun z => goes (f a - A.bL 1000000000000 P a).toNat u' f _ _ _ _ _ _ _ _ _ _ (by omega) z a1 a2 a3 a4 a5 a6⟩⟩
    have bounds : ∀ (P : Nat → Int), (∀ v, v < A.n → -24000000 ≤ P v ∧ P v ≤ 0) → pf A.K A.b A.e (A.w 1000000000000) A.c P lo → ∀ (k a : Nat), a + k = A.M → ∀ (u' : dm_S) (o2 o4 o6 o8 o9 o11 : Option Value), lt_fr u u' → FV u' A.n P → FL u' A.M (A.on lo) → BX u' a (A.bL 1000000000000 P) (A.bH 1000000000000 P) → G 8 [some (.ref 0), some (.int (nI a)), o2, none, o4, none, o6, none, o8, o9, none, o11, none] [] u' := by
      intro P hPb hpP k
      induction k with
      | zero =>
        intro a ha u' o2 o4 o6 o8 o9 o11 a1 a2 a3 a4
        have e : a = A.M := by omega
        subst e
        apply hG (fun pc => pc == 8 || pc == 199 || pc == 59) 80
        simp (config := { maxSteps := 2000000 }) [-Prod.forall, -Prod.exists, -exists_and_left, -exists_and_right, hW0, hW1, dm_fn, dm_fd, dm_x, dm_L0, dm_la, dm_t1, dm_sw, List.headD, dm_ic, dm_mk, dm_s1, dm_s2, dm_clr, dm_cs, dm_cc, dm_nb0, dm_nb1, Value.category, List.lookup, p_X11_lowest, x_X11_lowest, k_X11_lowest, dm_cm, upd, vp_updL, dm_ui_1, dm_ui_2, dm_ul_1, dm_ul_2, sp_X11_distances, sp_X11_lower, sM_0, sM_1, sM_2, sM_3, sM_4, sM_5, sM_6, sM_7, sM_8, sM_9, sM_10, sM_11, sM_12, sM_13, sM_14, sM_15, sM_16, sM_17, sM_18, sM_19, sM_20, sM_21, sM_22, sM_23, sM_24, sM_25, sM_26, sM_27, sM_28, sM_29]
        rw [a1.1 0 (by decide), hC.1.2]
        exact ⟨fun _ => settle P A.M 0 (by omega) u' (A.on lo) _ _ _ _ _ _ _ _ _ _ _ a1 a3 (fun i hi => a4 i hi) (fun a ha => AN.pf_box hA hl hpP ha) (fun _ => rfl) (fun i hi => absurd hi (Nat.not_lt_zero _)), fun z => absurd z (nI_nlt (Nat.le_refl _) (by omega))⟩
      | succ k ih =>
        intro a ha u' o2 o4 o6 o8 o9 o11 a1 a2 a3 a4
        have ham : a < A.M := by omega
        obtain ⟨⟨r1, r2, r3⟩, ⟨r4, r5⟩, r6, r7, -⟩ := hA.2.1 a ham
        have hCu := MR_fr hC (lt_mn a1)
        obtain ⟨⟨e2, e3⟩, ⟨e4, e5⟩, e6, e7, e8⟩ := hCu.2.2 a ham
        have een := MR_en hA hCu ham
        have ca : (nI a).toNatClampNeg = a := nI_clamp (by omega)
        have ia : vp_in (nI a) 80 := vp_in_nI (by omega) (by omega)
        have cf : (nI (A.fr a)).toNatClampNeg = A.fr a := nI_clamp (by omega)
        have ct : (nI (A.tr a)).toNatClampNeg = A.tr a := nI_clamp (by omega)
        have if' : vp_in (nI (A.fr a)) 26 := vp_in_nI (by omega) (by omega)
        have it : vp_in (nI (A.tr a)) 26 := vp_in_nI (by omega) (by omega)
        have pb : lB (P (A.tr a) - P (A.fr a)) := by have := hPb _ r1; have := hPb _ r2; unfold lB; omega
        have parts : ∀ (d k : Nat), k + d = A.pt a → ∀ (o9 o11 : Option Value), G 59 [some (.ref 0), some (.int (nI a)), some (.long (lI (P (A.tr a) - P (A.fr a)))), none, some (.long (lI (bx (fun k => decide (A.rt (4 * a + k) < P (A.tr a) - P (A.fr a))) (A.ed 1000000000000 a) (A.st (4 * a)) k))), none, some (.long (lI (bx (fun k => decide (A.rt (4 * a + k) ≤ P (A.tr a) - P (A.fr a))) (A.ed 1000000000000 a) (A.st (4 * a)) k))), none, some (.int (nI k)), o9, none, o11, none] [] u' := by
          intro d
          induction d with
          | zero =>
            intro k hk o9 o11
            have e : k = A.pt a := by omega
            subst e
            apply hG (fun pc => pc == 8 || pc == 122) 80
            simp (config := { maxSteps := 2000000 }) [-Prod.forall, -Prod.exists, -exists_and_left, -exists_and_right, hW0, hW1, dm_fn, dm_fd, dm_x, dm_L0, dm_la, dm_t1, dm_sw, List.headD, dm_ic, dm_mk, dm_s1, dm_s2, dm_clr, dm_cs, dm_cc, dm_nb0, dm_nb1, Value.category, List.lookup, p_X11_lowest, x_X11_lowest, k_X11_lowest, dm_cm, upd, vp_updL, dm_ui_1, dm_ui_2, dm_ul_1, dm_ul_2, sp_X11_distances, sp_X11_lower, sM_0, sM_1, sM_2, sM_3, sM_4, sM_5, sM_6, sM_7, sM_8, sM_9, sM_10, sM_11, sM_12, sM_13, sM_14, sM_15, sM_16, sM_17, sM_18, sM_19, sM_20, sM_21, sM_22, sM_23, sM_24, sM_25, sM_26, sM_27, sM_28, sM_29]
            simp only [ca, ia, e6, nI_1, true_and]
            refine ⟨fun _ => ih (a + 1) (by omega) _ _ _ _ _ _ _ (lt_frt a1 (lt_frt (lt_l (by decide)) (lt_l (by decide)))) (fun v hv => ?_) (fun i hi => ?_) (fun i hi => ?_), fun z => absurd ((nI_leI (by omega) (by omega)).mp z) (by omega)⟩
            · rw [dm_ul_2, if_neg (by decide), dm_ul_2, if_neg (by decide)]; exact a2 v hv
            · rw [dm_ul_2, if_neg (by decide), dm_ul_2, if_neg (by decide)]; exact a3 i hi
            · rw [dm_ul_2, if_neg (by decide), dm_ul_2, if_pos rfl, dm_ul_2, if_pos rfl, dm_ul_2, if_neg (by decide)]
              unfold vp_updL
              by_cases y : i = a
              · subst y
                rw [if_pos rfl, if_pos rfl]; exact ⟨rfl, rfl⟩
              · rw [if_neg y, if_neg y]; exact a4 i (by omega)
          | succ d ihd =>
            intro k hk o9 o11
            have c4 : (4 : Int32) * nI a + nI k = nI (4 * a + k) := dm_4p
            have ck : (nI (4 * a + k)).toNatClampNeg = 4 * a + k := nI_clamp (by omega)
            have ck1 : (nI (4 * a + k + 1)).toNatClampNeg = 4 * a + k + 1 := nI_clamp (by omega)
            have ik : vp_in (nI (4 * a + k)) 320 := vp_in_nI (by omega) (by omega)
            have rb : lB (A.rt (4 * a + k)) := by have := (r7 k (by omega)).2; unfold lB; omega
            have tail : ∀ (o9 o11 : Option Value), G 122 [some (.ref 0), some (.int (nI a)), some (.long (lI (P (A.tr a) - P (A.fr a)))), none, some (.long (lI (bx (fun k => decide (A.rt (4 * a + k) < P (A.tr a) - P (A.fr a))) (A.ed 1000000000000 a) (A.st (4 * a)) k))), none, some (.long (lI (bx (fun k => decide (A.rt (4 * a + k) ≤ P (A.tr a) - P (A.fr a))) (A.ed 1000000000000 a) (A.st (4 * a)) k))), none, some (.int (nI k)), o9, none, o11, none] [.long (lI (A.ed 1000000000000 a k))] u' := by
              intro o9 o11
              apply hG (fun pc => pc == 59) 80
              simp (config := { maxSteps := 2000000 }) [-Prod.forall, -Prod.exists, -exists_and_left, -exists_and_right, hW0, hW1, dm_fn, dm_fd, dm_x, dm_L0, dm_la, dm_t1, dm_sw, List.headD, dm_ic, dm_mk, dm_s1, dm_s2, dm_clr, dm_cs, dm_cc, dm_nb0, dm_nb1, Value.category, List.lookup, p_X11_lowest, x_X11_lowest, k_X11_lowest, dm_cm, upd, vp_updL, dm_ui_1, dm_ui_2, dm_ul_1, dm_ul_2, sp_X11_distances, sp_X11_lower, sM_0, sM_1, sM_2, sM_3, sM_4, sM_5, sM_6, sM_7, sM_8, sM_9, sM_10, sM_11, sM_12, sM_13, sM_14, sM_15, sM_16, sM_17, sM_18, sM_19, sM_20, sM_21, sM_22, sM_23, sM_24, sM_25, sM_26, sM_27, sM_28, sM_29]
              simp only [ca, ia, c4, ck, ik, e7 k (by omega), nI_1, true_and]
              have go := ihd (k + 1) (by omega)
              have eL : (bx (fun k => decide (A.rt (4 * a + k) < P (A.tr a) - P (A.fr a))) (A.ed 1000000000000 a) (A.st (4 * a)) (k + 1)) = if A.rt (4 * a + k) < P (A.tr a) - P (A.fr a) then A.ed 1000000000000 a k else (bx (fun k => decide (A.rt (4 * a + k) < P (A.tr a) - P (A.fr a))) (A.ed 1000000000000 a) (A.st (4 * a)) k) := by
                show (if decide _ = true then _ else _) = _
                simp only [decide_eq_true_eq]
              have eH : (bx (fun k => decide (A.rt (4 * a + k) ≤ P (A.tr a) - P (A.fr a))) (A.ed 1000000000000 a) (A.st (4 * a)) (k + 1)) = if A.rt (4 * a + k) ≤ P (A.tr a) - P (A.fr a) then A.ed 1000000000000 a k else (bx (fun k => decide (A.rt (4 * a + k) ≤ P (A.tr a) - P (A.fr a))) (A.ed 1000000000000 a) (A.st (4 * a)) k) := by
                show (if decide _ = true then _ else _) = _
                simp only [decide_eq_true_eq]
              rw [eL, eH] at go
              simp only [lI_le pb rb, lI_lt rb pb, lI_lt pb rb, lI_le rb pb]
              refine ⟨fun z => ⟨fun z2 => ?_, fun z2 => ?_⟩, fun z => ⟨fun z2 => ?_, fun z2 => ?_⟩⟩
              · rw [if_neg (by omega), if_neg (by omega)] at go; exact go _ _
              · rw [if_neg (by omega), if_pos (by omega)] at go; exact go _ _
              · omega
              · rw [if_pos (by omega), if_pos (by omega)] at go; exact go _ _
            apply hG (fun pc => pc == 59 || pc == 122 || pc == 8) 80
            simp (config := { maxSteps := 2000000 }) [-Prod.forall, -Prod.exists, -exists_and_left, -exists_and_right, hW0, hW1, dm_fn, dm_fd, dm_x, dm_L0, dm_la, dm_t1, dm_sw, List.headD, dm_ic, dm_mk, dm_s1, dm_s2, dm_clr, dm_cs, dm_cc, dm_nb0, dm_nb1, Value.category, List.lookup, p_X11_lowest, x_X11_lowest, k_X11_lowest, dm_cm, upd, vp_updL, dm_ui_1, dm_ui_2, dm_ul_1, dm_ul_2, sp_X11_distances, sp_X11_lower, sM_0, sM_1, sM_2, sM_3, sM_4, sM_5, sM_6, sM_7, sM_8, sM_9, sM_10, sM_11, sM_12, sM_13, sM_14, sM_15, sM_16, sM_17, sM_18, sM_19, sM_20, sM_21, sM_22, sM_23, sM_24, sM_25, sM_26, sM_27, sM_28, sM_29]
            simp only [ca, ia, e6, c4, ck1, een, nI_1, true_and]
            have tl := tail o9 o11
            refine ⟨fun z => absurd ((nI_ltI (by omega) (by omega)).mp z) (by omega), fun _ => ⟨fun z => ⟨fun z2 => ?_, fun z2 => ?_⟩, fun z => ⟨vp_in_nI ?_ (by omega), ?_⟩⟩⟩
            · have hk1 : ¬ k + 1 < A.pt a := by have := (nI_leI (by omega) (by omega)).mp z; omega
              have q : A.en a = false := by simpa using z2
              have ee : A.ed 1000000000000 a k = A.tp a := by unfold AN.ed; rw [if_neg hk1, q]; rfl
              rw [q] at e5
              rw [ee] at tl
              rw [show u'.2 5 a = lI (A.tp a) from e5]
              exact tl
            · have hk1 : ¬ k + 1 < A.pt a := by have := (nI_leI (by omega) (by omega)).mp z; omega
              have ee : A.ed 1000000000000 a k = 1000000000000 := by unfold AN.ed; rw [if_neg hk1, z2]; rfl
              rw [ee] at tl
              exact tl
            · have := (nI_ltI (by omega) (by omega)).mp z; omega
            · have hk1 : k + 1 < A.pt a := by have := (nI_ltI (by omega) (by omega)).mp z; omega
              have ee : A.ed 1000000000000 a k = A.st (4 * a + k + 1) := by unfold AN.ed; rw [if_pos hk1]
              rw [ee] at tl
              rw [e8 k hk1]
              exact tl
        apply hG (fun pc => pc == 59 || pc == 199) 80
        simp (config := { maxSteps := 2000000 }) [-Prod.forall, -Prod.exists, -exists_and_left, -exists_and_right, hW0, hW1, dm_fn, dm_fd, dm_x, dm_L0, dm_la, dm_t1, dm_sw, List.headD, dm_ic, dm_mk, dm_s1, dm_s2, dm_clr, dm_cs, dm_cc, dm_nb0, dm_nb1, Value.category, List.lookup, p_X11_lowest, x_X11_lowest, k_X11_lowest, dm_cm, upd, vp_updL, dm_ui_1, dm_ui_2, dm_ul_1, dm_ul_2, sp_X11_distances, sp_X11_lower, sM_0, sM_1, sM_2, sM_3, sM_4, sM_5, sM_6, sM_7, sM_8, sM_9, sM_10, sM_11, sM_12, sM_13, sM_14, sM_15, sM_16, sM_17, sM_18, sM_19, sM_20, sM_21, sM_22, sM_23, sM_24, sM_25, sM_26, sM_27, sM_28, sM_29]
        simp only [ca, ia, e2, e3, e4, cf, ct, if', it, a2 _ r1, a2 _ r2, lI_sub, true_and]
        rw [a1.1 0 (by decide), hC.1.2]
        exact ⟨fun z => absurd z (nI_ge (by omega) (by omega)), fun _ => parts (A.pt a) 0 (by omega) _ _⟩
    have dok : ds_ok u A (A.on lo) U (-1) := ⟨hA, hC, hFl, fun a ha => ⟨on0 a ha, Int.le_of_lt (hs a ha)⟩, AN.y_dP hA (B := 1000000000000) (by decide) hl hp (fun a ha _ => hs a ha) (fun j hj => by unfold yn at hj; simp at hj; exact hj.1)⟩
    apply hG (fun pc => pc == 8) 80
    simp (config := { maxSteps := 2000000 }) [-Prod.forall, -Prod.exists, -exists_and_left, -exists_and_right, hW0, hW1, dm_fn, dm_fd, dm_x, dm_L0, dm_la, dm_t1, dm_sw, List.headD, dm_ic, dm_mk, dm_s1, dm_s2, dm_clr, dm_cs, dm_cc, dm_nb0, dm_nb1, Value.category, List.lookup, p_X11_lowest, x_X11_lowest, k_X11_lowest, dm_cm, upd, vp_updL, dm_ui_1, dm_ui_2, dm_ul_1, dm_ul_2, sp_X11_distances, sp_X11_lower, sM_0, sM_1, sM_2, sM_3, sM_4, sM_5, sM_6, sM_7, sM_8, sM_9, sM_10, sM_11, sM_12, sM_13, sM_14, sM_15, sM_16, sM_17, sM_18, sM_19, sM_20, sM_21, sM_22, sM_23, sM_24, sM_25, sM_26, sM_27, sM_28, sM_29]
    refine ⟨A, A.on lo, U, dok, fun u2 V b1 b2 b3 b4 => ?_⟩
    have hpr : A.prc (A.w 1000000000000) lo V := AN.y_prc hA (B := 1000000000000) (on := yn A (A.on lo) (-1)) (V0 := ys (-1)) (by decide) hl hp (fun a ha _ => hs a ha) (fun j hj => by
      unfold yn
      have : ¬ nI (j / 2) = -1 := nI_nm1 (by omega)
      simp [this]) (fun v _ => if_pos (Or.inl rfl)) b3 b4
    exact bounds V hpr.1 hpr.2.1 A.M 0 (by omega) u2 _ _ _ _ _ _ (lt_ds b1) b2 (fun a ha => by rw [b1.2 9 (by decide)]; exact hFl a ha) (fun i hi => absurd hi (Nat.not_lt_zero _))
  · exact h.elim
set_option maxRecDepth 100000 in
theorem t_X11_lowest (l : Launch) (D : va_G) (cA : Nat → ClassId) (ad : Nat → Nat) : dm_Met l D dm_cl cA ad shM yX11_lowest (Cond.code yX11_lowest cX11_lowest 13 (dm_rt 0) :: dm_tt) ({ frames := 2, cells := 0, slots := 0, locals := 53 } : Room) sp_X11_lowest := dm_meth (own := RX11) (X := x_X11_lowest) (Sp := k_X11_lowest) (prog := p_X11_lowest) (by decide +kernel) rfl rfl (dm_FO_s ffX11 [(13, 11, 3), (17, 11, 4), (20, 11, 5), (23, 11, 6), (26, 11, 7), (29, 11, 8), (32, 11, 9), (35, 11, 11), (65, 11, 25), (81, 11, 31), (84, 11, 32), (123, 11, 1)] rfl dm_hT (by decide +kernel)) (dm_IO_s ifX11 jfX11 [] [(130, -2), (142, 1000000000000)] rfl rfl dm_hT (by decide +kernel) (by decide +kernel)) soM (dm_MO_of (List.forall_mem_cons.mpr ⟨dm_M1_of (t_X11_distances l D cA ad) dm_hT (dm_mem [1181, 77, 1178] (by decide +kernel) (by decide +kernel)) (by decide) (by decide +kernel) (Or.inr ⟨by decide, dm_mem [1180, 59] (by decide +kernel) (by decide +kernel), rfl⟩), List.forall_mem_cons.mpr ⟨dm_M1_of (t_X11_lower l D cA ad) dm_hT (dm_mem [1193, 77, 1190] (by decide +kernel) (by decide +kernel)) (by decide) (by decide +kernel) (Or.inr ⟨by decide, dm_mem [1192, 62] (by decide +kernel) (by decide +kernel), rfl⟩), fun _ h => absurd h List.not_mem_nil⟩⟩)) v_X11_lowest u_X11_lowest
