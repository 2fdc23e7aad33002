/-! ===== the reference: distances ===== -/
def ds_fr (u u' : dm_S) : Prop := u'.1 = u.1 ∧ ∀ c, c ≠ 19 → u'.2 c = u.2 c
theorem ds_fr0 (u : dm_S) : ds_fr u u := ⟨rfl, fun _ _ => rfl⟩
theorem ds_frt {u u' u'' : dm_S} (h : ds_fr u u') (h2 : ds_fr u' u'') : ds_fr u u'' := ⟨h2.1.trans h.1, fun c a => (h2.2 c a).trans (h.2 c a)⟩
theorem ds_19 {u : dm_S} {j : Nat} {x : Int64} : ds_fr u (dm_ul u 19 j x) := ⟨rfl, fun c hc => by rw [dm_ul_2, if_neg hc]⟩
theorem ds_mn {u u' : dm_S} (h : ds_fr u u') : mn_fr u u' := by
  refine ⟨⟨by rw [h.1], by rw [h.1]⟩, fun c hc => by rw [h.1], fun c hc => h.2 c ?_⟩
  intro z; subst z; revert hc; decide
theorem FV_19 {u : dm_S} {n : Nat} {V : Nat → Int} {j : Nat} {z : Int} (h : FV u n V) : FV (dm_ul u 19 j (lI z)) n (uI V j z) := fun v hv => by
  rw [dm_ul_2, if_pos rfl]
  unfold vp_updL uI
  by_cases y : v = j
  · rw [if_pos y, if_pos y]
  · rw [if_neg y, if_neg y]; exact h v hv
/-- the last cost of an arc in the cells -/
theorem MR_lc {u : dm_S} {A : AN} (hA : A.ok) (hC : MR u A) {a : Nat} (ha : a < A.M) : vp_in (nI a) 80 ∧ vp_in (4 * nI a + u.1 6 (nI a).toNatClampNeg) 320 ∧ u.2 7 (4 * nI a + u.1 6 (nI a).toNatClampNeg).toNatClampNeg = lI (A.lr a) := by
  obtain ⟨-, -, q5, q6, -⟩ := hC.2.2 a ha
  obtain ⟨hn, hM⟩ := hA.1
  obtain ⟨-, ⟨r4, r5⟩, -⟩ := hA.2.1 a ha
  have ca : (nI a).toNatClampNeg = a := nI_clamp (by omega)
  have c4 : (4 : Int32) * nI a + nI (A.pt a - 1) = nI (4 * a + (A.pt a - 1)) := dm_4p
  have ck : (nI (4 * a + (A.pt a - 1))).toNatClampNeg = 4 * a + (A.pt a - 1) := nI_clamp (by omega)
  rw [ca, q5, c4, ck]
  exact ⟨vp_in_nI (by omega) (by omega), vp_in_nI (by omega) (by omega), q6 _ (by omega)⟩
theorem MR_en {u : dm_S} {A : AN} (hA : A.ok) (hC : MR u A) {a : Nat} (ha : a < A.M) : u.2 5 a = -2 ↔ A.en a = true := by
  obtain ⟨-, ⟨-, q4⟩, -⟩ := hC.2.2 a ha
  rw [q4]
  cases hq : A.en a with
  | true => exact ⟨fun _ => rfl, fun _ => rfl⟩
  | false =>
    refine ⟨fun z => ?_, fun z => (by cases z)⟩
    have t := (hA.2.1 a ha).2.2.2.2.2 hq
    have t2 := A.st_ge hA ha (A.pt a - 1) (by have := (hA.2.1 a ha).2.1; omega)
    have t3 := (hA.2.1 a ha).2.2.1
    have z2 : lI (A.tp a) = lI (-2) := z
    rw [lI_eq (by unfold lB; omega) (by unfold lB; omega)] at z2
    omega
/-- the ways by arcs that are asked -/
def yn (A : AN) (f : Nat → Int) (bt : Int32) (j : Nat) : Bool := A.yo f j && !decide (nI (j / 2) = bt)
def ys (s : Int32) : Nat → Int := fun v => if s = -1 ∨ nI v = s then 0 else fAR
theorem ys_0 {n : Nat} {s : Int32} : d0 n (ys s) := fun v _ => by unfold ys; split <;> simp
def ds_ok (u : dm_S) (A : AN) (f U : Nat → Int) (bt : Int32) : Prop := A.ok ∧ MR u A ∧ FL u A.M f ∧ (∀ a, a < A.M → 0 ≤ f a ∧ f a ≤ 1000000000000) ∧ dP (2 * A.M) (wb A.fr A.tr) (we A.fr A.tr) (A.yc f) (yn A f bt) U
theorem AN.y_e {A : AN} {f : Nat → Int} {a : Nat} : A.yo f (2 * a) = (A.en a || decide (f a < A.tp a)) ∧ A.yc f (2 * a) = A.nc a (f a) := by
  unfold AN.yo AN.yc
  rw [if_pos (by omega), if_pos (by omega), show 2 * a / 2 = a by omega]
  exact ⟨rfl, rfl⟩
theorem AN.y_o {A : AN} {f : Nat → Int} {a : Nat} : A.yo f (2 * a + 1) = decide (A.st (4 * a) < f a) ∧ A.yc f (2 * a + 1) = -A.nc a (f a - 1) := by
  unfold AN.yo AN.yc
  rw [if_neg (by omega), if_neg (by omega), show (2 * a + 1) / 2 = a by omega]
  exact ⟨rfl, rfl⟩
def sp_X11_distances (As : List Value) (u : dm_S) (Q : Option Value → dm_S → Prop) : Prop := match As with
  | [.ref 0, .int s, .int bt] => ∃ (A : AN) (f U : Nat → Int), ds_ok u A f U bt ∧ ∀ (u' : dm_S) (V : Nat → Int), ds_fr u u' → FV u' A.n V → dI A.n (2 * A.M) (wb A.fr A.tr) (we A.fr A.tr) (A.yc f) (yn A f bt) (ys s) V → dR (2 * A.M) (wb A.fr A.tr) (we A.fr A.tr) (A.yc f) (yn A f bt) V → Q none u'
  | _ => False
def p_X11_distances : List dm_I := [(0, .iconst 0, 1, []), (1, .istore_n 3, 1, [3]), (2, .iload_n 3, 1, [3]), (3, .aload_n 0, 1, [0]), (4, .getfield 109, 3, []), (7, .if_icmp .ge 32, 3, [39]), (10, .aload_n 0, 1, [0]), (11, .getfield 65, 3, []), (14, .iload_n 3, 1, [3]), (15, .iload_n 1, 1, [1]), (16, .iconst (-1), 1, []), (17, .if_icmp .eq 8, 3, [25]), (20, .iload_n 3, 1, [3]), (21, .iload_n 1, 1, [1]), (22, .if_icmp .ne 7, 3, [29]), (25, .lconst 0, 1, []), (26, .goto 6, 3, [32]), (29, .ldc2_w 152, 3, []), (32, .lastore, 1, []), (33, .iinc 3 1, 3, []), (36, .goto (-34), 3, [2]), (39, .iconst 1, 1, []), (40, .istore_n 3, 1, [3]), (41, .iload_n 3, 1, [3]), (42, .ifCond .eq 265, 3, [307]), (45, .iconst 0, 1, []), (46, .istore_n 3, 1, [3]), (47, .iconst 0, 1, []), (48, .istore 4, 2, []), (50, .iload 4, 2, []), (52, .aload_n 0, 1, [0]), (53, .getfield 123, 3, []), (56, .if_icmp .ge 248, 3, [304]), (59, .iload 4, 2, []), (61, .iload_n 2, 1, [2]), (62, .if_icmp .eq 236, 3, [298]), (65, .aload_n 0, 1, [0]), (66, .iload 4, 2, []), (68, .invokevirtual 209, 3, []), (71, .ifCond .eq 104, 3, [175]), (74, .aload_n 0, 1, [0]), (75, .getfield 65, 3, []), (78, .aload_n 0, 1, [0]), (79, .getfield 13, 3, []), (82, .iload 4, 2, []), (84, .iaload, 1, []), (85, .laload, 1, []), (86, .ldc2_w 152, 3, []), (89, .lcmp, 1, []), (90, .ifCond .ge 85, 3, [175]), (93, .aload_n 0, 1, [0]), (94, .getfield 65, 3, []), (97, .aload_n 0, 1, [0]), (98, .getfield 13, 3, []), (101, .iload 4, 2, []), (103, .iaload, 1, []), (104, .laload, 1, []), (105, .aload_n 0, 1, [0]), (106, .iload 4, 2, []), (108, .aload_n 0, 1, [0]), (109, .getfield 35, 3, []), (112, .iload 4, 2, []), (114, .laload, 1, []), (115, .invokevirtual 212, 3, []), (118, .ladd, 1, []), (119, .aload_n 0, 1, [0]), (120, .getfield 65, 3, []), (123, .aload_n 0, 1, [0]), (124, .getfield 17, 3, []), (127, .iload 4, 2, []), (129, .iaload, 1, []), (130, .laload, 1, []), (131, .lcmp, 1, []), (132, .ifCond .ge 43, 3, [175]), (135, .aload_n 0, 1, [0]), (136, .getfield 65, 3, []), (139, .aload_n 0, 1, [0]), (140, .getfield 17, 3, []), (143, .iload 4, 2, []), (145, .iaload, 1, []), (146, .aload_n 0, 1, [0]), (147, .getfield 65, 3, []), (150, .aload_n 0, 1, [0]), (151, .getfield 13, 3, []), (154, .iload 4, 2, []), (156, .iaload, 1, []), (157, .laload, 1, []), (158, .aload_n 0, 1, [0]), (159, .iload 4, 2, []), (161, .aload_n 0, 1, [0]), (162, .getfield 35, 3, []), (165, .iload 4, 2, []), (167, .laload, 1, []), (168, .invokevirtual 212, 3, []), (171, .ladd, 1, []), (172, .lastore, 1, []), (173, .iconst 1, 1, []), (174, .istore_n 3, 1, [3]), (175, .aload_n 0, 1, [0]), (176, .getfield 35, 3, []), (179, .iload 4, 2, []), (181, .laload, 1, []), (182, .aload_n 0, 1, [0]), (183, .getfield 20, 3, []), (186, .iload 4, 2, []), (188, .laload, 1, []), (189, .lcmp, 1, []), (190, .ifCond .le 108, 3, [298]), (193, .aload_n 0, 1, [0]), (194, .getfield 65, 3, []), (197, .aload_n 0, 1, [0]), (198, .getfield 17, 3, []), (201, .iload 4, 2, []), (203, .iaload, 1, []), (204, .laload, 1, []), (205, .ldc2_w 152, 3, []), (208, .lcmp, 1, []), (209, .ifCond .ge 89, 3, [298]), (212, .aload_n 0, 1, [0]), (213, .getfield 65, 3, []), (216, .aload_n 0, 1, [0]), (217, .getfield 17, 3, []), (220, .iload 4, 2, []), (222, .iaload, 1, []), (223, .laload, 1, []), (224, .aload_n 0, 1, [0]), (225, .iload 4, 2, []), (227, .aload_n 0, 1, [0]), (228, .getfield 35, 3, []), (231, .iload 4, 2, []), (233, .laload, 1, []), (234, .lconst 1, 1, []), (235, .lsub, 1, []), (236, .invokevirtual 212, 3, []), (239, .lsub, 1, []), (240, .aload_n 0, 1, [0]), (241, .getfield 65, 3, []), (244, .aload_n 0, 1, [0]), (245, .getfield 13, 3, []), (248, .iload 4, 2, []), (250, .iaload, 1, []), (251, .laload, 1, []), (252, .lcmp, 1, []), (253, .ifCond .ge 45, 3, [298]), (256, .aload_n 0, 1, [0]), (257, .getfield 65, 3, []), (260, .aload_n 0, 1, [0]), (261, .getfield 13, 3, []), (264, .iload 4, 2, []), (266, .iaload, 1, []), (267, .aload_n 0, 1, [0]), (268, .getfield 65, 3, []), (271, .aload_n 0, 1, [0]), (272, .getfield 17, 3, []), (275, .iload 4, 2, []), (277, .iaload, 1, []), (278, .laload, 1, []), (279, .aload_n 0, 1, [0]), (280, .iload 4, 2, []), (282, .aload_n 0, 1, [0]), (283, .getfield 35, 3, []), (286, .iload 4, 2, []), (288, .laload, 1, []), (289, .lconst 1, 1, []), (290, .lsub, 1, []), (291, .invokevirtual 212, 3, []), (294, .lsub, 1, []), (295, .lastore, 1, []), (296, .iconst 1, 1, []), (297, .istore_n 3, 1, [3]), (298, .iinc 4 1, 3, []), (301, .goto (-251), 3, [50]), (304, .goto (-263), 3, [41]), (307, .return_, 1, [])]
set_option maxRecDepth 100000 in
theorem v_X11_distances : p_X11_distances.all (dm_vb cX11_distances) = true := by decide +kernel
def k_X11_distances : dm_Sp := fun a => match a with
  | 0 => sp_X11_canGrow
  | 1 => sp_X11_nextCost
  | _ => fun _ _ _ => False
def x_X11_distances : dm_X := dm_mk [(13, 11, 3), (17, 11, 4), (20, 11, 5), (35, 11, 11), (65, 11, 25), (109, 11, 0), (123, 11, 1)] [] [(152, 1152921504606846976)] [(209, 0, 1, 11), (212, 1, 2, 11)] 0
set_option maxRecDepth 100000 in
set_option maxHeartbeats 1600000 in
theorem u_X11_distances : dm_Pure shM x_X11_distances k_X11_distances p_X11_distances 5 sp_X11_distances := by
  intro As u Qp h
  unfold sp_X11_distances at h
  split at h
  · rename_i s bt
    obtain ⟨A, f, U, ⟨hA, hC, hfl, hfb, hU⟩, h⟩ := h
    obtain ⟨hn, hM⟩ := hA.1
    have hf := AN.dFy hA (f := f) (on := yn A f bt)
    have hF : fAR = 1152921504606846976 := rfl
    have hFl : (1152921504606846976 : Int64) = lI fAR := rfl
    have hFb : lB fAR := by unfold lB; omega
    refine ⟨Nat.le_of_ble_eq_true rfl, fun G Wp hW0 hW1 hG => ?_⟩
    -- a pass: from arc a on; S0 the sum before it
    have pass : ∀ S0 : Int, (∀ (u' : dm_S) (V : Nat → Int) (ch : Bool) (o4 : Option Value), ds_fr u u' → FV u' A.n V → dI A.n (2 * A.M) (wb A.fr A.tr) (we A.fr A.tr) (A.yc f) (yn A f bt) (ys s) V → (ch = true → sI V A.n < S0) → (ch = false → dR (2 * A.M) (wb A.fr A.tr) (we A.fr A.tr) (A.yc f) (yn A f bt) V) → G 41 [some (.ref 0), some (.int s), some (.int bt), some (.int (if ch then 1 else 0)), o4] [] u') → ∀ (k a : Nat), a + k = A.M → ∀ (u' : dm_S) (V : Nat → Int) (ch : Bool), ds_fr u u' → FV u' A.n V → dI A.n (2 * A.M) (wb A.fr A.tr) (we A.fr A.tr) (A.yc f) (yn A f bt) (ys s) V → (ch = true → sI V A.n < S0) → (ch = false → sI V A.n ≤ S0 ∧ ∀ j, j < 2 * a → yn A f bt j = true → V (wb A.fr A.tr j) ≠ fAR → V (we A.fr A.tr j) ≤ V (wb A.fr A.tr j) + A.yc f j) → G 50 [some (.ref 0), some (.int s), some (.int bt), some (.int (if ch then 1 else 0)), some (.int (nI a))] [] u' := by
      intro S0 hx k
      induction k with
      | zero =>
        intro a ha u' V ch a1 a2 a3 a4 a5
        have e : a = A.M := by omega
        subst e
        apply hG (fun pc => pc == 50 || pc == 175 || pc == 41) 80
        simp (config := { maxSteps := 2000000 }) [-Prod.forall, -Prod.exists, -exists_and_left, -exists_and_right, hW0, hW1, dm_fn, dm_fd, dm_x, dm_L0, dm_la, dm_t1, dm_sw, List.headD, dm_ic, dm_mk, dm_s1, dm_s2, dm_clr, dm_cs, dm_cc, dm_nb0, dm_nb1, Value.category, List.lookup, p_X11_distances, x_X11_distances, k_X11_distances, dm_cm, upd, vp_updL, dm_ui_1, dm_ui_2, dm_ul_1, dm_ul_2, sp_X11_canGrow, sp_X11_nextCost, sM_0, sM_1, sM_2, sM_3, sM_4, sM_5, sM_6, sM_7, sM_8, sM_9, sM_10, sM_11, sM_12, sM_13, sM_14, sM_15, sM_16, sM_17, sM_18, sM_19, sM_20, sM_21, sM_22, sM_23, sM_24, sM_25, sM_26, sM_27, sM_28, sM_29]
        rw [a1.1, hC.1.2]
        exact ⟨fun _ => hx u' V ch _ a1 a2 a3 a4 (fun z => (a5 z).2), fun z => absurd z (nI_nlt (Nat.le_refl _) (by omega))⟩
      | succ k ih =>
        intro a ha u' V ch a1 a2 a3 a4 a5
        have ham : a < A.M := by omega
        obtain ⟨⟨r1, r2, r3⟩, -⟩ := hA.2.1 a ham
        have hst : 0 ≤ A.st (4 * a) ∧ A.st (4 * a) ≤ 1000000 := ⟨(hA.2.1 a ham).2.2.1, by have := ((hA.2.1 a ham).2.2.2.1 0 (by have := (hA.2.1 a ham).2.1; omega)).1; exact this⟩
        have fb := hfb a ham
        have ca : (nI a).toNatClampNeg = a := nI_clamp (by omega)
        have cf : (nI (A.fr a)).toNatClampNeg = A.fr a := nI_clamp (by omega)
        have ct : (nI (A.tr a)).toNatClampNeg = A.tr a := nI_clamp (by omega)
        have ia : vp_in (nI a) 80 := vp_in_nI (by omega) (by omega)
        have if' : vp_in (nI (A.fr a)) 26 := vp_in_nI (by omega) (by omega)
        have it : vp_in (nI (A.tr a)) 26 := vp_in_nI (by omega) (by omega)
        have h1l : (1 : Int64) = lI 1 := rfl
        have fl1 : lB (f a) := by unfold lB; omega
        have fl2 : lB (f a - 1) := by unfold lB; omega
        have sl1 : lB (A.st (4 * a)) := by unfold lB; omega
        have nb1 := AN.nc_bd hA ham (x := f a)
        have nb2 := AN.nc_bd hA ham (x := f a - 1)
        have hfo : ∀ j, yn A f bt j = true → j / 2 = a → ¬ nI a = bt := fun j hj e z => by
          unfold yn at hj
          rw [e, z] at hj
          simp at hj
        have mid : ∀ (u' : dm_S) (V : Nat → Int) (ch : Bool), ds_fr u u' → FV u' A.n V → dI A.n (2 * A.M) (wb A.fr A.tr) (we A.fr A.tr) (A.yc f) (yn A f bt) (ys s) V → (ch = true → sI V A.n < S0) → (ch = false → sI V A.n ≤ S0 ∧ ∀ j, j < 2 * a + 1 → yn A f bt j = true → V (wb A.fr A.tr j) ≠ fAR → V (we A.fr A.tr j) ≤ V (wb A.fr A.tr j) + A.yc f j) → ¬ nI a = bt → G 175 [some (.ref 0), some (.int s), some (.int bt), some (.int (if ch then 1 else 0)), some (.int (nI a))] [] u' := by
          intro u' V ch a1 a2 a3 a4 a5 hbt
          have lo' := dI_lo hn hf hU ys_0 a3
          have up' := dI_fr ys_0 a3
          have hVb : ∀ v, v < A.n → lB (V v) := fun v hv => by have := lo' v hv; have := up' v hv; unfold lB; omega
          have hVc : lB (V (A.tr a) - A.nc a (f a - 1)) := by have := lo' _ r2; have := up' _ r2; unfold lB; omega
          have hCu := MR_fr hC (ds_mn a1)
          obtain ⟨⟨e2, e3⟩, ⟨e4, -⟩, -⟩ := hCu.2.2 a ham
          have e9 : u'.2 9 a = lI (f a) := by rw [a1.2 9 (by decide)]; exact hfl a ham
          have yon : A.st (4 * a) < f a → yn A f bt (2 * a + 1) = true := fun q => by
            unfold yn
            rw [AN.y_o.1, show (2 * a + 1) / 2 = a by omega]
            simp [q, hbt]
          have yof : yn A f bt (2 * a + 1) = true → A.st (4 * a) < f a := fun q => by
            unfold yn at q
            rw [AN.y_o.1] at q
            simp at q
            exact q.1
          have nxt : (yn A f bt (2 * a + 1) = true → V (A.tr a) ≠ fAR → V (A.fr a) ≤ V (A.tr a) - A.nc a (f a - 1)) → G 50 [some (.ref 0), some (.int s), some (.int bt), some (.int (if ch = true then 1 else 0)), some (.int (nI (a + 1)))] [] u' := fun g => ih (a + 1) (by omega) u' V ch a1 a2 a3 a4 (fun z => ⟨(a5 z).1, fun j hj h1 h2 => by
            by_cases y : j < 2 * a + 1
            · exact (a5 z).2 j y h1 h2
            · have e : j = 2 * a + 1 := by omega
              subst e
              rw [wy_o.1] at h2
              rw [wy_o.1, wy_o.2, AN.y_o.2]
              have := g h1 h2
              omega⟩)
          have upd : A.st (4 * a) < f a → V (A.tr a) ≠ fAR → V (A.tr a) - A.nc a (f a - 1) < V (A.fr a) → G 50 [some (.ref 0), some (.int s), some (.int bt), some (.int 1), some (.int (nI (a + 1)))] [] (dm_ul u' 19 (A.fr a) (lI (V (A.tr a) - A.nc a (f a - 1)))) := fun g1 g2 g3 => by
            have hs : sI (uI V (A.fr a) (V (A.tr a) - A.nc a (f a - 1))) A.n < S0 := by
              rw [sI_upd r1]
              cases ch with
              | true => have := a4 rfl; omega
              | false => have := (a5 rfl).1; omega
            have st := dI_s a3 hf (j := 2 * a + 1) (by omega) (yon g1) (by rw [wy_o.1]; exact g2) (by rw [wy_o.1, wy_o.2, AN.y_o.2]; omega)
            rw [wy_o.1, wy_o.2, AN.y_o.2, show V (A.tr a) + -A.nc a (f a - 1) = V (A.tr a) - A.nc a (f a - 1) by omega] at st
            exact ih (a + 1) (by omega) _ _ true (ds_frt a1 ds_19) (FV_19 a2) st (fun _ => hs) (fun z => by cases z)
          apply hG (fun pc => pc == 50 || pc == 41) 80
          simp (config := { maxSteps := 2000000 }) [-Prod.forall, -Prod.exists, -exists_and_left, -exists_and_right, hW0, hW1, dm_fn, dm_fd, dm_x, dm_L0, dm_la, dm_t1, dm_sw, List.headD, dm_ic, dm_mk, dm_s1, dm_s2, dm_clr, dm_cs, dm_cc, dm_nb0, dm_nb1, Value.category, List.lookup, p_X11_distances, x_X11_distances, k_X11_distances, dm_cm, upd, vp_updL, dm_ui_1, dm_ui_2, dm_ul_1, dm_ul_2, sp_X11_canGrow, sp_X11_nextCost, sM_0, sM_1, sM_2, sM_3, sM_4, sM_5, sM_6, sM_7, sM_8, sM_9, sM_10, sM_11, sM_12, sM_13, sM_14, sM_15, sM_16, sM_17, sM_18, sM_19, sM_20, sM_21, sM_22, sM_23, sM_24, sM_25, sM_26, sM_27, sM_28, sM_29]
          simp only [ca, e2, e3, e4, e9, cf, ct, ia, if', it, a2 _ r1, a2 _ r2, hFl, h1l, lI_sub, nI_1, true_and]
          refine ⟨fun z => ?_, fun z => ⟨fun z2 => ?_, fun z2 => ⟨A, a, f a - 1, hA, hCu, ⟨ham, rfl, rfl, fl2⟩, ?_⟩⟩⟩
          · rw [lI_le fl1 sl1] at z
            exact nxt (fun q => by have := yof q; omega)
          · rw [lI_le hFb (hVb _ r2)] at z2
            exact nxt (fun _ q => absurd (by have := up' _ r2; omega) q)
          · rw [lI_lt sl1 fl1] at z
            rw [lI_lt (hVb _ r2) hFb] at z2
            refine ⟨fun z3 => ?_, fun z3 => ⟨A, a, f a - 1, hA, hCu, ⟨ham, rfl, rfl, fl2⟩, ?_⟩⟩
            · rw [lI_le (hVb _ r1) hVc] at z3
              exact nxt (fun _ _ => z3)
            · rw [lI_lt hVc (hVb _ r1)] at z3
              exact upd z (by omega) z3
        have lo' := dI_lo hn hf hU ys_0 a3
        have up' := dI_fr ys_0 a3
        have hVb : ∀ v, v < A.n → lB (V v) := fun v hv => by have := lo' v hv; have := up' v hv; unfold lB; omega
        have hVc : lB (V (A.fr a) + A.nc a (f a)) := by have := lo' _ r1; have := up' _ r1; unfold lB; omega
        have hCu := MR_fr hC (ds_mn a1)
        obtain ⟨⟨e2, e3⟩, ⟨e4, e5⟩, -⟩ := hCu.2.2 a ham
        have e9 : u'.2 9 a = lI (f a) := by rw [a1.2 9 (by decide)]; exact hfl a ham
        have e1M : u'.1 0 1 = nI A.M := by rw [a1.1]; exact hC.1.2
        have een := MR_en hA hCu ham
        have tpb : A.en a = false → lB (A.tp a) ∧ u'.2 5 a = lI (A.tp a) := fun q => by
          have t := (hA.2.1 a ham).2.2.2.2.2 q
          have t2 := A.st_ge hA ham (A.pt a - 1) (by have := (hA.2.1 a ham).2.1; omega)
          refine ⟨by unfold lB; omega, ?_⟩
          rw [e5, q]; rfl
        have yon : ¬ nI a = bt → (A.en a = true ∨ f a < A.tp a) → yn A f bt (2 * a) = true := fun hbt q => by
          unfold yn
          rw [AN.y_e.1, show (2 * a) / 2 = a by omega]
          simp [q, hbt]
        have yof : yn A f bt (2 * a) = true → (A.en a = true ∨ f a < A.tp a) := fun q => by
          unfold yn at q
          rw [AN.y_e.1] at q
          simp at q
          exact q.1
        have nxt : ¬ nI a = bt → (yn A f bt (2 * a) = true → V (A.fr a) ≠ fAR → V (A.tr a) ≤ V (A.fr a) + A.nc a (f a)) → G 175 [some (.ref 0), some (.int s), some (.int bt), some (.int (if ch = true then 1 else 0)), some (.int (nI a))] [] u' := fun hbt g => mid u' V ch a1 a2 a3 a4 (fun z => ⟨(a5 z).1, fun j hj h1 h2 => by
          by_cases y : j < 2 * a
          · exact (a5 z).2 j y h1 h2
          · have e : j = 2 * a := by omega
            subst e
            rw [wy_e.1] at h2
            rw [wy_e.1, wy_e.2, AN.y_e.2]
            exact g h1 h2⟩) hbt
        have upd : ¬ nI a = bt → (A.en a = true ∨ f a < A.tp a) → V (A.fr a) ≠ fAR → V (A.fr a) + A.nc a (f a) < V (A.tr a) → G 175 [some (.ref 0), some (.int s), some (.int bt), some (.int 1), some (.int (nI a))] [] (dm_ul u' 19 (A.tr a) (lI (V (A.fr a) + A.nc a (f a)))) := fun hbt g1 g2 g3 => by
          have hs : sI (uI V (A.tr a) (V (A.fr a) + A.nc a (f a))) A.n < S0 := by
            rw [sI_upd r2]
            cases ch with
            | true => have := a4 rfl; omega
            | false => have := (a5 rfl).1; omega
          have st := dI_s a3 hf (j := 2 * a) (by omega) (yon hbt g1) (by rw [wy_e.1]; exact g2) (by rw [wy_e.1, wy_e.2, AN.y_e.2]; exact g3)
          rw [wy_e.1, wy_e.2, AN.y_e.2] at st
          exact mid _ _ true (ds_frt a1 ds_19) (FV_19 a2) st (fun _ => hs) (fun z => by cases z) hbt
        apply hG (fun pc => pc == 50 || pc == 175 || pc == 41) 80
        simp (config := { maxSteps := 2000000 }) [-Prod.forall, -Prod.exists, -exists_and_left, -exists_and_right, hW0, hW1, dm_fn, dm_fd, dm_x, dm_L0, dm_la, dm_t1, dm_sw, List.headD, dm_ic, dm_mk, dm_s1, dm_s2, dm_clr, dm_cs, dm_cc, dm_nb0, dm_nb1, Value.category, List.lookup, p_X11_distances, x_X11_distances, k_X11_distances, dm_cm, upd, vp_updL, dm_ui_1, dm_ui_2, dm_ul_1, dm_ul_2, sp_X11_canGrow, sp_X11_nextCost, sM_0, sM_1, sM_2, sM_3, sM_4, sM_5, sM_6, sM_7, sM_8, sM_9, sM_10, sM_11, sM_12, sM_13, sM_14, sM_15, sM_16, sM_17, sM_18, sM_19, sM_20, sM_21, sM_22, sM_23, sM_24, sM_25, sM_26, sM_27, sM_28, sM_29]
        simp only [ca, e2, e3, e9, e1M, een, cf, ct, ia, if', it, a2 _ r1, a2 _ r2, hFl, nI_1, true_and]
        refine ⟨fun z => absurd z (nI_ge (by omega) (by omega)), fun _ => ⟨fun z => ?_, fun hbt => ⟨fun z z2 => ?_, fun z => ⟨fun z2 => ?_, fun z2 => ⟨A, a, f a, hA, hCu, ⟨ham, rfl, rfl, fl1⟩, ?_⟩⟩⟩⟩⟩
        · refine ih (a + 1) (by omega) u' V ch a1 a2 a3 a4 (fun y => ⟨(a5 y).1, fun j hj h1 h2 => ?_⟩)
          by_cases w : j < 2 * a
          · exact (a5 y).2 j w h1 h2
          · exact absurd z (hfo j h1 (by omega))
        · have q : A.en a = false := by simpa using z
          obtain ⟨t1, t2⟩ := tpb q
          rw [t2, lI_le t1 fl1] at z2
          exact nxt hbt (fun y => by rcases yof y with g | g; (rw [q] at g; cases g); omega)
        · rw [lI_le hFb (hVb _ r1)] at z2
          exact nxt hbt (fun _ q => absurd (by have := up' _ r1; omega) q)
        · have hg : A.en a = true ∨ f a < A.tp a := by
            cases q : A.en a with
            | true => exact Or.inl rfl
            | false =>
              obtain ⟨t1, t2⟩ := tpb q
              have := z (by rw [q]; decide)
              rw [t2, lI_lt fl1 t1] at this
              exact Or.inr this
          rw [lI_lt (hVb _ r1) hFb] at z2
          rw [lI_add]
          refine ⟨fun z3 => ?_, fun z3 => ⟨A, a, f a, hA, hCu, ⟨ham, rfl, rfl, fl1⟩, ?_⟩⟩
          · rw [lI_le (hVb _ r2) hVc] at z3
            exact nxt hbt (fun _ _ => z3)
          · rw [lI_lt hVc (hVb _ r2)] at z3
            rw [lI_add]
            exact upd hbt hg (by omega) z3
    have loop : ∀ (m : Nat) (u' : dm_S) (V : Nat → Int) (o4 : Option Value), sI V A.n - A.n * (-24000000) ≤ m → ds_fr u u' → FV u' A.n V → dI A.n (2 * A.M) (wb A.fr A.tr) (we A.fr A.tr) (A.yc f) (yn A f bt) (ys s) V → G 41 [some (.ref 0), some (.int s), some (.int bt), some (.int 1), o4] [] u' := by
      intro m
      induction m with
      | zero =>
        intro u' V o4 hm a1 a2 a3
        apply hG (fun pc => pc == 50) 80
        simp (config := { maxSteps := 2000000 }) [-Prod.forall, -Prod.exists, -exists_and_left, -exists_and_right, hW0, hW1, dm_fn, dm_fd, dm_x, dm_L0, dm_la, dm_t1, dm_sw, List.headD, dm_ic, dm_mk, dm_s1, dm_s2, dm_clr, dm_cs, dm_cc, dm_nb0, dm_nb1, Value.category, List.lookup, p_X11_distances, x_X11_distances, k_X11_distances, dm_cm, upd, vp_updL, dm_ui_1, dm_ui_2, dm_ul_1, dm_ul_2, sp_X11_canGrow, sp_X11_nextCost, sM_0, sM_1, sM_2, sM_3, sM_4, sM_5, sM_6, sM_7, sM_8, sM_9, sM_10, sM_11, sM_12, sM_13, sM_14, sM_15, sM_16, sM_17, sM_18, sM_19, sM_20, sM_21, sM_22, sM_23, sM_24, sM_25, sM_26, sM_27, sM_28, sM_29]
        refine pass (sI V A.n) (fun u2 V2 ch2 p4 b1 b2 b3 b4 b5 => ?_) A.M 0 (by omega) u' V false a1 a2 a3 (fun z => by cases z) (fun _ => ⟨Int.le_refl _, fun j hj => absurd hj (Nat.not_lt_zero _)⟩)
        cases ch2 with
        | true =>
          exfalso
          have q1 := b4 rfl
          have q2 : A.n * (-24000000) ≤ sI V2 A.n := by rw [← sI_const (a := -24000000)]; exact sI_le (dI_lo hn hf hU ys_0 b3)
          omega
        | false =>
          apply hG (fun pc => pc == 50) 80
          simp (config := { maxSteps := 2000000 }) [-Prod.forall, -Prod.exists, -exists_and_left, -exists_and_right, hW0, hW1, dm_fn, dm_fd, dm_x, dm_L0, dm_la, dm_t1, dm_sw, List.headD, dm_ic, dm_mk, dm_s1, dm_s2, dm_clr, dm_cs, dm_cc, dm_nb0, dm_nb1, Value.category, List.lookup, p_X11_distances, x_X11_distances, k_X11_distances, dm_cm, upd, vp_updL, dm_ui_1, dm_ui_2, dm_ul_1, dm_ul_2, sp_X11_canGrow, sp_X11_nextCost, sM_0, sM_1, sM_2, sM_3, sM_4, sM_5, sM_6, sM_7, sM_8, sM_9, sM_10, sM_11, sM_12, sM_13, sM_14, sM_15, sM_16, sM_17, sM_18, sM_19, sM_20, sM_21, sM_22, sM_23, sM_24, sM_25, sM_26, sM_27, sM_28, sM_29]
          exact h u2 V2 b1 b2 b3 (b5 rfl)
      | succ m ih =>
        intro u' V o4 hm a1 a2 a3
        apply hG (fun pc => pc == 50) 80
        simp (config := { maxSteps := 2000000 }) [-Prod.forall, -Prod.exists, -exists_and_left, -exists_and_right, hW0, hW1, dm_fn, dm_fd, dm_x, dm_L0, dm_la, dm_t1, dm_sw, List.headD, dm_ic, dm_mk, dm_s1, dm_s2, dm_clr, dm_cs, dm_cc, dm_nb0, dm_nb1, Value.category, List.lookup, p_X11_distances, x_X11_distances, k_X11_distances, dm_cm, upd, vp_updL, dm_ui_1, dm_ui_2, dm_ul_1, dm_ul_2, sp_X11_canGrow, sp_X11_nextCost, sM_0, sM_1, sM_2, sM_3, sM_4, sM_5, sM_6, sM_7, sM_8, sM_9, sM_10, sM_11, sM_12, sM_13, sM_14, sM_15, sM_16, sM_17, sM_18, sM_19, sM_20, sM_21, sM_22, sM_23, sM_24, sM_25, sM_26, sM_27, sM_28, sM_29]
        refine pass (sI V A.n) (fun u2 V2 ch2 p4 b1 b2 b3 b4 b5 => ?_) A.M 0 (by omega) u' V false a1 a2 a3 (fun z => by cases z) (fun _ => ⟨Int.le_refl _, fun j hj => absurd hj (Nat.not_lt_zero _)⟩)
        cases ch2 with
        | true =>
          have q1 := b4 rfl
          exact ih u2 V2 _ (by omega) b1 b2 b3
        | false =>
          apply hG (fun pc => pc == 50) 80
          simp (config := { maxSteps := 2000000 }) [-Prod.forall, -Prod.exists, -exists_and_left, -exists_and_right, hW0, hW1, dm_fn, dm_fd, dm_x, dm_L0, dm_la, dm_t1, dm_sw, List.headD, dm_ic, dm_mk, dm_s1, dm_s2, dm_clr, dm_cs, dm_cc, dm_nb0, dm_nb1, Value.category, List.lookup, p_X11_distances, x_X11_distances, k_X11_distances, dm_cm, upd, vp_updL, dm_ui_1, dm_ui_2, dm_ul_1, dm_ul_2, sp_X11_canGrow, sp_X11_nextCost, sM_0, sM_1, sM_2, sM_3, sM_4, sM_5, sM_6, sM_7, sM_8, sM_9, sM_10, sM_11, sM_12, sM_13, sM_14, sM_15, sM_16, sM_17, sM_18, sM_19, sM_20, sM_21, sM_22, sM_23, sM_24, sM_25, sM_26, sM_27, sM_28, sM_29]
          exact h u2 V2 b1 b2 b3 (b5 rfl)
    have init : ∀ (k i : Nat), i + k = A.n → ∀ u' : dm_S, ds_fr u u' → (∀ v, v < i → u'.2 19 v = lI (ys s v)) → G 2 [some (.ref 0), some (.int s), some (.int bt), some (.int (nI i)), none] [] u' := by
      intro k
      induction k with
      | zero =>
        intro i hi u' a1 a2
        have e : i = A.n := by omega
        subst e
        apply hG (fun pc => pc == 2 || pc == 41) 80
        simp (config := { maxSteps := 2000000 }) [-Prod.forall, -Prod.exists, -exists_and_left, -exists_and_right, hW0, hW1, dm_fn, dm_fd, dm_x, dm_L0, dm_la, dm_t1, dm_sw, List.headD, dm_ic, dm_mk, dm_s1, dm_s2, dm_clr, dm_cs, dm_cc, dm_nb0, dm_nb1, Value.category, List.lookup, p_X11_distances, x_X11_distances, k_X11_distances, dm_cm, upd, vp_updL, dm_ui_1, dm_ui_2, dm_ul_1, dm_ul_2, sp_X11_canGrow, sp_X11_nextCost, sM_0, sM_1, sM_2, sM_3, sM_4, sM_5, sM_6, sM_7, sM_8, sM_9, sM_10, sM_11, sM_12, sM_13, sM_14, sM_15, sM_16, sM_17, sM_18, sM_19, sM_20, sM_21, sM_22, sM_23, sM_24, sM_25, sM_26, sM_27, sM_28, sM_29]
        rw [a1.1, hC.1.1]
        refine ⟨fun _ => ?_, fun z => absurd z (nI_nlt (Nat.le_refl _) (by omega))⟩
        exact loop (sI (ys s) A.n - A.n * (-24000000)).toNat u' (ys s) _ (by omega) a1 (fun v hv => a2 v hv) dI_0
      | succ k ih =>
        intro i hi u' a1 a2
        have hin : i < A.n := by omega
        have ci : (nI i).toNatClampNeg = i := nI_clamp (by omega)
        have ii : vp_in (nI i) 26 := vp_in_nI (by omega) (by omega)
        have stp : ∀ z : Int64, z = lI (ys s i) → G 2 [some (.ref 0), some (.int s), some (.int bt), some (.int (nI (i + 1))), none] [] (dm_ul u' 19 i z) := fun z hz => by
          refine ih (i + 1) (by omega) _ (ds_frt a1 ds_19) (fun v hv => ?_)
          rw [dm_ul_2, if_pos rfl]
          unfold vp_updL
          by_cases y : v = i
          · rw [if_pos y, y, hz]
          · rw [if_neg y]; exact a2 v (by omega)
        apply hG (fun pc => pc == 2 || pc == 41) 80
        simp (config := { maxSteps := 2000000 }) [-Prod.forall, -Prod.exists, -exists_and_left, -exists_and_right, hW0, hW1, dm_fn, dm_fd, dm_x, dm_L0, dm_la, dm_t1, dm_sw, List.headD, dm_ic, dm_mk, dm_s1, dm_s2, dm_clr, dm_cs, dm_cc, dm_nb0, dm_nb1, Value.category, List.lookup, p_X11_distances, x_X11_distances, k_X11_distances, dm_cm, upd, vp_updL, dm_ui_1, dm_ui_2, dm_ul_1, dm_ul_2, sp_X11_canGrow, sp_X11_nextCost, sM_0, sM_1, sM_2, sM_3, sM_4, sM_5, sM_6, sM_7, sM_8, sM_9, sM_10, sM_11, sM_12, sM_13, sM_14, sM_15, sM_16, sM_17, sM_18, sM_19, sM_20, sM_21, sM_22, sM_23, sM_24, sM_25, sM_26, sM_27, sM_28, sM_29]
        rw [a1.1, hC.1.1, ci, nI_1]
        simp only [ii, true_and]
        refine ⟨fun z => absurd z (nI_ge (by omega) (by omega)), fun _ => ⟨fun z => stp _ ?_, fun z => ⟨fun z2 => stp _ ?_, fun z2 => stp _ ?_⟩⟩⟩
        · unfold ys; rw [if_pos (Or.inl z)]; rfl
        · unfold ys; rw [if_neg (fun q => q.elim z z2)]; rfl
        · unfold ys; rw [if_pos (Or.inr z2)]; rfl
    apply hG (fun pc => pc == 2) 80
    simp (config := { maxSteps := 2000000 }) [-Prod.forall, -Prod.exists, -exists_and_left, -exists_and_right, hW0, hW1, dm_fn, dm_fd, dm_x, dm_L0, dm_la, dm_t1, dm_sw, List.headD, dm_ic, dm_mk, dm_s1, dm_s2, dm_clr, dm_cs, dm_cc, dm_nb0, dm_nb1, Value.category, List.lookup, p_X11_distances, x_X11_distances, k_X11_distances, dm_cm, upd, vp_updL, dm_ui_1, dm_ui_2, dm_ul_1, dm_ul_2, sp_X11_canGrow, sp_X11_nextCost, sM_0, sM_1, sM_2, sM_3, sM_4, sM_5, sM_6, sM_7, sM_8, sM_9, sM_10, sM_11, sM_12, sM_13, sM_14, sM_15, sM_16, sM_17, sM_18, sM_19, sM_20, sM_21, sM_22, sM_23, sM_24, sM_25, sM_26, sM_27, sM_28, sM_29]
    exact init A.n 0 (by omega) u (ds_fr0 u) (fun v hv => absurd hv (Nat.not_lt_zero _))
  · exact h.elim
set_option maxRecDepth 100000 in
theorem t_X11_distances (l : Launch) (D : va_G) (cA : Nat → ClassId) (ad : Nat → Nat) : dm_Met l D dm_cl cA ad shM yX11_distances (Cond.code yX11_distances cX11_distances 5 (dm_rt 0) :: dm_tt) ({ frames := 1, cells := 0, slots := 0, locals := 24 } : Room) sp_X11_distances := dm_meth (own := RX11) (X := x_X11_distances) (Sp := k_X11_distances) (prog := p_X11_distances) (by decide +kernel) rfl rfl (dm_FO_s ffX11 [(13, 11, 3), (17, 11, 4), (20, 11, 5), (35, 11, 11), (65, 11, 25), (109, 11, 0), (123, 11, 1)] rfl dm_hT (by decide +kernel)) (dm_IO_s ifX11 jfX11 [] [(152, 1152921504606846976)] rfl rfl dm_hT (by decide +kernel) (by decide +kernel)) soM (dm_MO_of (List.forall_mem_cons.mpr ⟨dm_M1_of (t_X11_canGrow l D cA ad) dm_hT (dm_mem [1185, 77, 1182] (by decide +kernel) (by decide +kernel)) (by decide) (by decide +kernel) (Or.inr ⟨by decide, dm_mem [1184, 60] (by decide +kernel) (by decide +kernel), rfl⟩), List.forall_mem_cons.mpr ⟨dm_M1_of (t_X11_nextCost l D cA ad) dm_hT (dm_mem [1189, 77, 1186] (by decide +kernel) (by decide +kernel)) (by decide) (by decide +kernel) (Or.inr ⟨by decide, dm_mem [1188, 61] (by decide +kernel) (by decide +kernel), rfl⟩), fun _ h => absurd h List.not_mem_nil⟩⟩)) v_X11_distances u_X11_distances
