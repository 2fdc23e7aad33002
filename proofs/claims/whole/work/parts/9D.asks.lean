/-! ===== the reference: potential, span, piece ===== -/
def sp_X11_potential (As : List Value) (u : dm_S) (Q : Option Value → dm_S → Prop) : Prop := match As with
  | [.ref 0, .int x] => (¬ (u.1 0 10 = 0 ∧ 0 ≤ x ∧ x < u.1 0 0) → Q (some (.long 1)) u) ∧ (u.1 0 10 = 0 ∧ 0 ≤ x ∧ x < u.1 0 0 → ∃ (A : AN) (f U : Nat → Int) (v : Nat), ds_ok u A f U (-1) ∧ (v < A.n ∧ x = nI v) ∧ ∀ (u' : dm_S) (V : Nat → Int), ds_fr u u' → FV u' A.n V → dI A.n (2 * A.M) (wb A.fr A.tr) (we A.fr A.tr) (A.yc f) (yn A f (-1)) (ys (-1)) V → dR (2 * A.M) (wb A.fr A.tr) (we A.fr A.tr) (A.yc f) (yn A f (-1)) V → Q (some (.long (lI (V v)))) u')
  | _ => False
def p_X11_potential : List dm_I := [(0, .aload_n 0, 1, [0]), (1, .getfield 99, 3, []), (4, .ifCond .ne 11, 3, [15]), (7, .aload_n 0, 1, [0]), (8, .iload_n 1, 1, [1]), (9, .invokevirtual 126, 3, []), (12, .ifCond .ne 5, 3, [17]), (15, .lconst 1, 1, []), (16, .lreturn, 1, []), (17, .aload_n 0, 1, [0]), (18, .iconst (-1), 1, []), (19, .iconst (-1), 1, []), (20, .invokevirtual 215, 3, []), (23, .aload_n 0, 1, [0]), (24, .getfield 65, 3, []), (27, .iload_n 1, 1, [1]), (28, .laload, 1, []), (29, .lreturn, 1, [])]
set_option maxRecDepth 100000 in
theorem v_X11_potential : p_X11_potential.all (dm_vb cX11_potential) = true := by decide +kernel
def k_X11_potential : dm_Sp := fun a => match a with
  | 0 => sp_X11_isNode
  | 1 => sp_X11_distances
  | _ => fun _ _ _ => False
def x_X11_potential : dm_X := dm_mk [(65, 11, 25), (99, 11, 10)] [] [] [(126, 0, 1, 11), (215, 1, 2, 11)] 2
set_option maxRecDepth 100000 in
set_option maxHeartbeats 800000 in
theorem u_X11_potential : dm_Pure shM x_X11_potential k_X11_potential p_X11_potential 2 sp_X11_potential := by
  intro As u Qp hh
  unfold sp_X11_potential at hh
  split at hh
  · rename_i x
    obtain ⟨h1, h2⟩ := hh
    refine ⟨Nat.le_of_ble_eq_true rfl, fun G Wp hW0 hW1 hG => ?_⟩
    apply hG (fun _ => false) 60
    simp (config := { maxSteps := 2000000 }) [-Prod.forall, -Prod.exists, -exists_and_left, -exists_and_right, hW0, hW1, dm_fn, dm_fd, dm_x, dm_L0, dm_la, dm_t1, dm_sw, List.headD, dm_ic, dm_mk, dm_s1, dm_s2, dm_clr, dm_cs, dm_cc, dm_nb0, dm_nb1, Value.category, List.lookup, p_X11_potential, x_X11_potential, k_X11_potential, dm_cm, upd, vp_updL, dm_ui_1, dm_ui_2, dm_ul_1, dm_ul_2, sp_X11_isNode, sp_X11_distances, sM_0, sM_1, sM_2, sM_3, sM_4, sM_5, sM_6, sM_7, sM_8, sM_9, sM_10, sM_11, sM_12, sM_13, sM_14, sM_15, sM_16, sM_17, sM_18, sM_19, sM_20, sM_21, sM_22, sM_23, sM_24, sM_25, sM_26, sM_27, sM_28, sM_29]
    refine ⟨fun z => h1 (fun q => z q.1), fun z => ⟨fun z2 z3 => ?_, fun z2 => h1 (fun q => dm_i_lt.mpr (z2 q.2.1) q.2.2)⟩⟩
    obtain ⟨A, f, U, v, ok, ⟨hv, rfl⟩, hq⟩ := h2 ⟨z, z2, z3⟩
    have hn := ok.1.1.1
    refine ⟨A, f, U, ok, fun u' V a b c d => ⟨vp_in_nI (by omega) (by omega), ?_⟩⟩
    rw [nI_clamp (by omega), b v hv]
    exact hq u' V a b c d
  · exact hh.elim
set_option maxRecDepth 100000 in
theorem t_X11_potential (l : Launch) (D : va_G) (cA : Nat → ClassId) (ad : Nat → Nat) : dm_Met l D dm_cl cA ad shM yX11_potential (Cond.code yX11_potential cX11_potential 2 (dm_rt 2) :: dm_tt) ({ frames := 2, cells := 0, slots := 0, locals := 48 } : Room) sp_X11_potential := dm_meth (own := RX11) (X := x_X11_potential) (Sp := k_X11_potential) (prog := p_X11_potential) (by decide +kernel) rfl rfl (dm_FO_s ffX11 [(65, 11, 25), (99, 11, 10)] rfl dm_hT (by decide +kernel)) (dm_IO_s ifX11 jfX11 [] [] rfl rfl dm_hT (by decide +kernel) (by decide +kernel)) soM (dm_MO_of (List.forall_mem_cons.mpr ⟨dm_M1_of (t_X11_isNode l D cA ad) dm_hT (dm_mem [1084, 77, 1081] (by decide +kernel) (by decide +kernel)) (by decide) (by decide +kernel) (Or.inr ⟨by decide, dm_mem [1083, 41] (by decide +kernel) (by decide +kernel), rfl⟩), List.forall_mem_cons.mpr ⟨dm_M1_of (t_X11_distances l D cA ad) dm_hT (dm_mem [1181, 77, 1178] (by decide +kernel) (by decide +kernel)) (by decide) (by decide +kernel) (Or.inr ⟨by decide, dm_mem [1180, 59] (by decide +kernel) (by decide +kernel), rfl⟩), fun _ h => absurd h List.not_mem_nil⟩⟩)) v_X11_potential u_X11_potential
def sp_X11_span (As : List Value) (u : dm_S) (Q : Option Value → dm_S → Prop) : Prop := match As with
  | [.ref 0, .int x, .int y] => (0 ≤ x → x < u.1 0 1 → vp_in x 80) ∧ (¬ (u.1 0 10 = 0 ∧ (0 ≤ x ∧ x < u.1 0 1) ∧ (0 ≤ y ∧ y ≤ 1) ∧ u.1 6 x.toNatClampNeg ≤ 0) → Q (some (.long (-1000000001))) u) ∧ (u.1 0 10 = 0 ∧ (0 ≤ x ∧ x < u.1 0 1) ∧ (0 ≤ y ∧ y ≤ 1) ∧ u.1 6 x.toNatClampNeg ≤ 0 → ∃ (A : AN) (f U : Nat → Int) (a : Nat), ds_ok u A f U x ∧ (a < A.M ∧ x = nI a) ∧ (y = 0 → ∀ (u' : dm_S) (V : Nat → Int), ds_fr u u' → FV u' A.n V → dI A.n (2 * A.M) (wb A.fr A.tr) (we A.fr A.tr) (A.yc f) (yn A f x) (ys (nI (A.tr a))) V → dR (2 * A.M) (wb A.fr A.tr) (we A.fr A.tr) (A.yc f) (yn A f x) V → Q (some (.long (lI (if A.yo f (2 * a) = true ∧ V (A.fr a) ≠ fAR then -V (A.fr a) else -1000000002)))) u') ∧ (¬ y = 0 → ∀ (u' : dm_S) (V : Nat → Int), ds_fr u u' → FV u' A.n V → dI A.n (2 * A.M) (wb A.fr A.tr) (we A.fr A.tr) (A.yc f) (yn A f x) (ys (nI (A.fr a))) V → dR (2 * A.M) (wb A.fr A.tr) (we A.fr A.tr) (A.yc f) (yn A f x) V → Q (some (.long (lI (if A.yo f (2 * a + 1) = true ∧ V (A.tr a) ≠ fAR then V (A.tr a) else -1000000002)))) u'))
  | _ => False
def p_X11_span : List dm_I := [(0, .aload_n 0, 1, [0]), (1, .getfield 99, 3, []), (4, .ifCond .ne 29, 3, [33]), (7, .aload_n 0, 1, [0]), (8, .iload_n 1, 1, [1]), (9, .invokevirtual 132, 3, []), (12, .ifCond .eq 21, 3, [33]), (15, .iload_n 2, 1, [2]), (16, .ifCond .lt 17, 3, [33]), (19, .iload_n 2, 1, [2]), (20, .iconst 1, 1, []), (21, .if_icmp .gt 12, 3, [33]), (24, .aload_n 0, 1, [0]), (25, .getfield 26, 3, []), (28, .iload_n 1, 1, [1]), (29, .iaload, 1, []), (30, .ifCond .le 7, 3, [37]), (33, .ldc2_w 231, 3, []), (36, .lreturn, 1, []), (37, .iload_n 2, 1, [2]), (38, .ifCond .ne 59, 3, [97]), (41, .aload_n 0, 1, [0]), (42, .aload_n 0, 1, [0]), (43, .getfield 17, 3, []), (46, .iload_n 1, 1, [1]), (47, .iaload, 1, []), (48, .iload_n 1, 1, [1]), (49, .invokevirtual 215, 3, []), (52, .aload_n 0, 1, [0]), (53, .iload_n 1, 1, [1]), (54, .invokevirtual 209, 3, []), (57, .ifCond .eq 36, 3, [93]), (60, .aload_n 0, 1, [0]), (61, .getfield 65, 3, []), (64, .aload_n 0, 1, [0]), (65, .getfield 13, 3, []), (68, .iload_n 1, 1, [1]), (69, .iaload, 1, []), (70, .laload, 1, []), (71, .ldc2_w 152, 3, []), (74, .lcmp, 1, []), (75, .ifCond .ge 18, 3, [93]), (78, .aload_n 0, 1, [0]), (79, .getfield 65, 3, []), (82, .aload_n 0, 1, [0]), (83, .getfield 13, 3, []), (86, .iload_n 1, 1, [1]), (87, .iaload, 1, []), (88, .laload, 1, []), (89, .lneg, 1, []), (90, .goto 6, 3, [96]), (93, .ldc2_w 233, 3, []), (96, .lreturn, 1, []), (97, .aload_n 0, 1, [0]), (98, .aload_n 0, 1, [0]), (99, .getfield 13, 3, []), (102, .iload_n 1, 1, [1]), (103, .iaload, 1, []), (104, .iload_n 1, 1, [1]), (105, .invokevirtual 215, 3, []), (108, .aload_n 0, 1, [0]), (109, .getfield 35, 3, []), (112, .iload_n 1, 1, [1]), (113, .laload, 1, []), (114, .aload_n 0, 1, [0]), (115, .getfield 20, 3, []), (118, .iload_n 1, 1, [1]), (119, .laload, 1, []), (120, .lcmp, 1, []), (121, .ifCond .le 35, 3, [156]), (124, .aload_n 0, 1, [0]), (125, .getfield 65, 3, []), (128, .aload_n 0, 1, [0]), (129, .getfield 17, 3, []), (132, .iload_n 1, 1, [1]), (133, .iaload, 1, []), (134, .laload, 1, []), (135, .ldc2_w 152, 3, []), (138, .lcmp, 1, []), (139, .ifCond .ge 17, 3, [156]), (142, .aload_n 0, 1, [0]), (143, .getfield 65, 3, []), (146, .aload_n 0, 1, [0]), (147, .getfield 17, 3, []), (150, .iload_n 1, 1, [1]), (151, .iaload, 1, []), (152, .laload, 1, []), (153, .goto 6, 3, [159]), (156, .ldc2_w 233, 3, []), (159, .lreturn, 1, [])]
set_option maxRecDepth 100000 in
theorem v_X11_span : p_X11_span.all (dm_vb cX11_span) = true := by decide +kernel
def k_X11_span : dm_Sp := fun a => match a with
  | 0 => sp_X11_isArc
  | 1 => sp_X11_distances
  | 2 => sp_X11_canGrow
  | _ => fun _ _ _ => False
def x_X11_span : dm_X := dm_mk [(13, 11, 3), (17, 11, 4), (20, 11, 5), (26, 11, 7), (35, 11, 11), (65, 11, 25), (99, 11, 10)] [] [(152, 1152921504606846976), (231, -1000000001), (233, -1000000002)] [(132, 0, 1, 11), (215, 1, 2, 11), (209, 2, 1, 11)] 2
set_option maxRecDepth 100000 in
set_option maxHeartbeats 1600000 in
theorem u_X11_span : dm_Pure shM x_X11_span k_X11_span p_X11_span 3 sp_X11_span := by
  intro As u Qp hh
  unfold sp_X11_span at hh
  split at hh
  · rename_i x y
    obtain ⟨h0, h1, h2⟩ := hh
    refine ⟨Nat.le_of_ble_eq_true rfl, fun G Wp hW0 hW1 hG => ?_⟩
    apply hG (fun _ => false) 80
    simp (config := { maxSteps := 2000000 }) [-Prod.forall, -Prod.exists, -exists_and_left, -exists_and_right, hW0, hW1, dm_fn, dm_fd, dm_x, dm_L0, dm_la, dm_t1, dm_sw, List.headD, dm_ic, dm_mk, dm_s1, dm_s2, dm_clr, dm_cs, dm_cc, dm_nb0, dm_nb1, Value.category, List.lookup, p_X11_span, x_X11_span, k_X11_span, dm_cm, upd, vp_updL, dm_ui_1, dm_ui_2, dm_ul_1, dm_ul_2, sp_X11_isArc, sp_X11_distances, sp_X11_canGrow, sM_0, sM_1, sM_2, sM_3, sM_4, sM_5, sM_6, sM_7, sM_8, sM_9, sM_10, sM_11, sM_12, sM_13, sM_14, sM_15, sM_16, sM_17, sM_18, sM_19, sM_20, sM_21, sM_22, sM_23, sM_24, sM_25, sM_26, sM_27, sM_28, sM_29]
    refine ⟨fun z => h1 (fun q => z q.1), fun z => ⟨fun z2 => h1 (fun q => dm_i_lt.mpr (z2 q.2.1.1) q.2.1.2), fun z2 z3 => ⟨fun z4 => h1 (fun q => dm_i_le.mpr z4 q.2.2.1.1), fun z4 => ⟨fun z5 => h1 (fun q => dm_i_le.mpr z5 q.2.2.1.2), fun z5 => ⟨h0 z2 z3, fun z6 => ?_, fun z6 => h1 (fun q => dm_i_le.mpr z6 q.2.2.2)⟩⟩⟩⟩⟩
    obtain ⟨A, f, U, a, ok, ⟨ha, rfl⟩, hq0, hq1⟩ := h2 ⟨z, ⟨z2, z3⟩, ⟨z4, z5⟩, z6⟩
    have okk := ok
    obtain ⟨hA, hC, hfl, hfb, hU⟩ := okk
    obtain ⟨hn, hM⟩ := hA.1
    obtain ⟨⟨r1, r2, r3⟩, -⟩ := hA.2.1 a ha
    have ca : (nI a).toNatClampNeg = a := nI_clamp (by omega)
    have ia : vp_in (nI a) 80 := vp_in_nI (by omega) (by omega)
    have cf : (nI (A.fr a)).toNatClampNeg = A.fr a := nI_clamp (by omega)
    have ct : (nI (A.tr a)).toNatClampNeg = A.tr a := nI_clamp (by omega)
    have if' : vp_in (nI (A.fr a)) 26 := vp_in_nI (by omega) (by omega)
    have it : vp_in (nI (A.tr a)) 26 := vp_in_nI (by omega) (by omega)
    obtain ⟨⟨e2, e3⟩, ⟨e4, e5⟩, -⟩ := hC.2.2 a ha
    have hF : fAR = 1152921504606846976 := rfl
    have hFl : (1152921504606846976 : Int64) = lI fAR := rfl
    have hFb : lB fAR := by unfold lB; omega
    have hf := AN.dFy hA (f := f) (on := yn A f (nI a))
    simp only [ca, ia, e2, e3, true_and]
    refine ⟨fun z7 => ⟨A, f, U, ok, fun u' V b1 b2 b3 b4 => ?_⟩, fun z7 => ⟨A, f, U, ok, fun u' V b1 b2 b3 b4 => ?_⟩⟩
    · have hq := hq1 z7 u' V b1 b2 b3 b4
      have hCu := MR_fr hC (ds_mn b1)
      obtain ⟨⟨f2, f3⟩, ⟨f4, f5⟩, -⟩ := hCu.2.2 a ha
      have f9 : u'.2 9 a = lI (f a) := by rw [b1.2 9 (by decide)]; exact hfl a ha
      simp only [f3, f4, f9, ct, it, b2 _ r2, hFl, true_and]
      have l1 := dI_lo hn hf hU ys_0 b3 _ r2
      have l2 := dI_fr ys_0 b3 _ r2
      have vb : lB (V (A.tr a)) := by unfold lB; omega
      have hst : 0 ≤ A.st (4 * a) ∧ A.st (4 * a) ≤ 1000000 := ⟨(hA.2.1 a ha).2.2.1, by have := ((hA.2.1 a ha).2.2.2.1 0 (by have := (hA.2.1 a ha).2.1; omega)).1; exact this⟩
      have fb := hfb a ha
      have lf : lB (f a) := by unfold lB; omega
      have ls : lB (A.st (4 * a)) := by unfold lB; omega
      rw [lI_le lf ls, lI_lt ls lf, lI_le hFb vb, lI_lt vb hFb]
      have yy : A.yo f (2 * a + 1) = true ↔ A.st (4 * a) < f a := by rw [AN.y_o.1, decide_eq_true_eq]
      refine ⟨fun z8 => ?_, fun z8 => ⟨fun z9 => ?_, fun z9 => ?_⟩⟩
      · rw [if_neg (fun q => by have := yy.mp q.1; omega)] at hq; exact hq
      · rw [if_neg (fun q => q.2 (by omega))] at hq; exact hq
      · rw [if_pos ⟨yy.mpr z8, by omega⟩] at hq; exact hq
    · have hq := hq0 z7 u' V b1 b2 b3 b4
      have hCu := MR_fr hC (ds_mn b1)
      obtain ⟨⟨f2, f3⟩, ⟨f4, f5⟩, -⟩ := hCu.2.2 a ha
      have een := MR_en hA hCu ha
      have f9 : u'.2 9 a = lI (f a) := by rw [b1.2 9 (by decide)]; exact hfl a ha
      simp only [f2, f9, een, cf, if', b2 _ r1, hFl, true_and]
      have l1 := dI_lo hn hf hU ys_0 b3 _ r1
      have l2 := dI_fr ys_0 b3 _ r1
      have vb : lB (V (A.fr a)) := by unfold lB; omega
      have fb := hfb a ha
      have lf : lB (f a) := by unfold lB; omega
      have tpb : A.en a = false → lB (A.tp a) ∧ u'.2 5 a = lI (A.tp a) := fun q => by
        have t := (hA.2.1 a ha).2.2.2.2.2 q
        have t2 := A.st_ge hA ha (A.pt a - 1) (by have := (hA.2.1 a ha).2.1; omega)
        have t3 := (hA.2.1 a ha).2.2.1
        refine ⟨by unfold lB; omega, ?_⟩
        rw [f5, q]; rfl
      rw [lI_le hFb vb, lI_lt vb hFb, lI_neg]
      have yy : A.yo f (2 * a) = true ↔ (A.en a = true ∨ f a < A.tp a) := by rw [AN.y_e.1, Bool.or_eq_true, decide_eq_true_eq]
      refine ⟨fun z8 z9 => ?_, fun z8 => ⟨fun z9 => ?_, fun z9 => ?_⟩⟩
      · have q : A.en a = false := by simpa using z8
        obtain ⟨t1, t2⟩ := tpb q
        rw [t2, lI_le t1 lf] at z9
        rw [if_neg (fun w => by rcases yy.mp w.1 with g | g; (rw [q] at g; cases g); omega)] at hq; exact hq
      · rw [if_neg (fun q => q.2 (by omega))] at hq; exact hq
      · have hg : A.en a = true ∨ f a < A.tp a := by
          cases q : A.en a with
          | true => exact Or.inl rfl
          | false =>
            obtain ⟨t1, t2⟩ := tpb q
            have := z8 (by rw [q]; decide)
            rw [t2, lI_lt lf t1] at this
            exact Or.inr this
        rw [if_pos ⟨yy.mpr hg, by omega⟩] at hq; exact hq
  · exact hh.elim
set_option maxRecDepth 100000 in
theorem t_X11_span (l : Launch) (D : va_G) (cA : Nat → ClassId) (ad : Nat → Nat) : dm_Met l D dm_cl cA ad shM yX11_span (Cond.code yX11_span cX11_span 3 (dm_rt 2) :: dm_tt) ({ frames := 2, cells := 0, slots := 0, locals := 48 } : Room) sp_X11_span := dm_meth (own := RX11) (X := x_X11_span) (Sp := k_X11_span) (prog := p_X11_span) (by decide +kernel) rfl rfl (dm_FO_s ffX11 [(13, 11, 3), (17, 11, 4), (20, 11, 5), (26, 11, 7), (35, 11, 11), (65, 11, 25), (99, 11, 10)] rfl dm_hT (by decide +kernel)) (dm_IO_s ifX11 jfX11 [] [(152, 1152921504606846976), (231, -1000000001), (233, -1000000002)] rfl rfl dm_hT (by decide +kernel) (by decide +kernel)) soM (dm_MO_of (List.forall_mem_cons.mpr ⟨dm_M1_of (t_X11_isArc l D cA ad) dm_hT (dm_mem [1093, 77, 1090] (by decide +kernel) (by decide +kernel)) (by decide) (by decide +kernel) (Or.inr ⟨by decide, dm_mem [1092, 42] (by decide +kernel) (by decide +kernel), rfl⟩), List.forall_mem_cons.mpr ⟨dm_M1_of (t_X11_distances l D cA ad) dm_hT (dm_mem [1181, 77, 1178] (by decide +kernel) (by decide +kernel)) (by decide) (by decide +kernel) (Or.inr ⟨by decide, dm_mem [1180, 59] (by decide +kernel) (by decide +kernel), rfl⟩), List.forall_mem_cons.mpr ⟨dm_M1_of (t_X11_canGrow l D cA ad) dm_hT (dm_mem [1185, 77, 1182] (by decide +kernel) (by decide +kernel)) (by decide) (by decide +kernel) (Or.inr ⟨by decide, dm_mem [1184, 60] (by decide +kernel) (by decide +kernel), rfl⟩), fun _ h => absurd h List.not_mem_nil⟩⟩⟩)) v_X11_span u_X11_span
def mp_g (u : dm_S) (x : Int32) (m c : Int64) : Prop := (0 ≤ x ∧ x < u.1 0 1) ∧ ¬ u.1 6 x.toNatClampNeg = 3 ∧ (if u.1 6 x.toNatClampNeg ≤ 0 then u.2 4 x.toNatClampNeg else u.2 8 (4 * x + u.1 6 x.toNatClampNeg).toNatClampNeg) < m ∧ m < (if u.2 5 x.toNatClampNeg = -2 then 1000001 else u.2 5 x.toNatClampNeg) ∧ u.2 7 (4 * x + u.1 6 x.toNatClampNeg).toNatClampNeg ≤ c ∧ c ≤ 1000000
def sp_X11_piece (As : List Value) (u : dm_S) (Q : Option Value → dm_S → Prop) : Prop := match As with
  | [.ref 0, .int x, .long m, .long c] => (0 ≤ x → x < u.1 0 1 → vp_in x 80 ∧ (¬ u.1 6 x.toNatClampNeg = 3 → vp_in (4 * x + u.1 6 x.toNatClampNeg) 320 ∧ vp_in (4 * x + u.1 6 x.toNatClampNeg + 1) 320)) ∧ (¬ mp_g u x m c → Q (some (.int (-1))) u) ∧ (mp_g u x m c → Q (some (.int (u.1 6 x.toNatClampNeg + 1))) (dm_mg (dm_ul (dm_ul (dm_ui u 6 x.toNatClampNeg (u.1 6 x.toNatClampNeg + 1)) 8 (4 * x + u.1 6 x.toNatClampNeg + 1).toNatClampNeg m) 7 (4 * x + u.1 6 x.toNatClampNeg + 1).toNatClampNeg c)))
  | _ => False
def p_X11_piece : List dm_I := [(0, .aload_n 0, 1, [0]), (1, .iload_n 1, 1, [1]), (2, .invokevirtual 132, 3, []), (5, .ifCond .eq 13, 3, [18]), (8, .aload_n 0, 1, [0]), (9, .getfield 26, 3, []), (12, .iload_n 1, 1, [1]), (13, .iaload, 1, []), (14, .iconst 3, 1, []), (15, .if_icmp .ne 5, 3, [20]), (18, .iconst (-1), 1, []), (19, .ireturn, 1, []), (20, .aload_n 0, 1, [0]), (21, .getfield 26, 3, []), (24, .iload_n 1, 1, [1]), (25, .iaload, 1, []), (26, .istore 6, 2, []), (28, .iload 6, 2, []), (30, .ifCond .le 17, 3, [47]), (33, .aload_n 0, 1, [0]), (34, .getfield 32, 3, []), (37, .iconst 4, 1, []), (38, .iload_n 1, 1, [1]), (39, .imul, 1, []), (40, .iload 6, 2, []), (42, .iadd, 1, []), (43, .laload, 1, []), (44, .goto 9, 3, [53]), (47, .aload_n 0, 1, [0]), (48, .getfield 20, 3, []), (51, .iload_n 1, 1, [1]), (52, .laload, 1, []), (53, .lstore 7, 2, []), (55, .aload_n 0, 1, [0]), (56, .getfield 23, 3, []), (59, .iload_n 1, 1, [1]), (60, .laload, 1, []), (61, .ldc2_w 130, 3, []), (64, .lcmp, 1, []), (65, .ifCond .ne 9, 3, [74]), (68, .ldc2_w 135, 3, []), (71, .goto 9, 3, [80]), (74, .aload_n 0, 1, [0]), (75, .getfield 23, 3, []), (78, .iload_n 1, 1, [1]), (79, .laload, 1, []), (80, .lstore 9, 2, []), (82, .lload_n 2, 1, [2]), (83, .lload 7, 2, []), (85, .lcmp, 1, []), (86, .ifCond .le 36, 3, [122]), (89, .lload_n 2, 1, [2]), (90, .lload 9, 2, []), (92, .lcmp, 1, []), (93, .ifCond .ge 29, 3, [122]), (96, .lload 4, 2, []), (98, .aload_n 0, 1, [0]), (99, .getfield 29, 3, []), (102, .iconst 4, 1, []), (103, .iload_n 1, 1, [1]), (104, .imul, 1, []), (105, .iload 6, 2, []), (107, .iadd, 1, []), (108, .laload, 1, []), (109, .lcmp, 1, []), (110, .ifCond .lt 12, 3, [122]), (113, .lload 4, 2, []), (115, .ldc2_w 114, 3, []), (118, .lcmp, 1, []), (119, .ifCond .le 5, 3, [124]), (122, .iconst (-1), 1, []), (123, .ireturn, 1, []), (124, .aload_n 0, 1, [0]), (125, .getfield 26, 3, []), (128, .iload_n 1, 1, [1]), (129, .dup2, 1, []), (130, .iaload, 1, []), (131, .iconst 1, 1, []), (132, .iadd, 1, []), (133, .iastore, 1, []), (134, .aload_n 0, 1, [0]), (135, .getfield 32, 3, []), (138, .iconst 4, 1, []), (139, .iload_n 1, 1, [1]), (140, .imul, 1, []), (141, .iload 6, 2, []), (143, .iadd, 1, []), (144, .iconst 1, 1, []), (145, .iadd, 1, []), (146, .lload_n 2, 1, [2]), (147, .lastore, 1, []), (148, .aload_n 0, 1, [0]), (149, .getfield 29, 3, []), (152, .iconst 4, 1, []), (153, .iload_n 1, 1, [1]), (154, .imul, 1, []), (155, .iload 6, 2, []), (157, .iadd, 1, []), (158, .iconst 1, 1, []), (159, .iadd, 1, []), (160, .lload 4, 2, []), (162, .lastore, 1, []), (163, .aload_n 0, 1, [0]), (164, .invokevirtual 120, 3, []), (167, .aload_n 0, 1, [0]), (168, .getfield 26, 3, []), (171, .iload_n 1, 1, [1]), (172, .iaload, 1, []), (173, .ireturn, 1, [])]
set_option maxRecDepth 100000 in
theorem v_X11_piece : p_X11_piece.all (dm_vb cX11_piece) = true := by decide +kernel
def k_X11_piece : dm_Sp := fun a => match a with
  | 0 => sp_X11_isArc
  | 1 => sp_X11_gone
  | _ => fun _ _ _ => False
def x_X11_piece : dm_X := dm_mk [(20, 11, 5), (23, 11, 6), (26, 11, 7), (29, 11, 8), (32, 11, 9)] [] [(114, 1000000), (130, -2), (135, 1000001)] [(132, 0, 1, 11), (120, 1, 0, 11)] 1
set_option maxRecDepth 100000 in
set_option maxHeartbeats 1600000 in
theorem u_X11_piece : dm_Pure shM x_X11_piece k_X11_piece p_X11_piece 11 sp_X11_piece := by
  intro As u Qp hh
  unfold sp_X11_piece at hh
  split at hh
  · rename_i x m c
    obtain ⟨h0, h1, h2⟩ := hh
    refine ⟨Nat.le_of_ble_eq_true rfl, fun G Wp hW0 hW1 hG => ?_⟩
    have end80 : (0 ≤ x ∧ x < u.1 0 1) → ¬ u.1 6 x.toNatClampNeg = 3 → G 80 [some (.ref 0), some (.int x), some (.long m), none, some (.long c), none, some (.int (u.1 6 x.toNatClampNeg)), some (.long (if u.1 6 x.toNatClampNeg ≤ 0 then u.2 4 x.toNatClampNeg else u.2 8 (4 * x + u.1 6 x.toNatClampNeg).toNatClampNeg)), none, none, none] [.long (if u.2 5 x.toNatClampNeg = -2 then 1000001 else u.2 5 x.toNatClampNeg)] u := by
      intro k1 k2
      obtain ⟨i1, i2⟩ := h0 k1.1 k1.2
      obtain ⟨i3, i4⟩ := i2 k2
      apply hG (fun _ => false) 90
      simp (config := { maxSteps := 2000000 }) [-Prod.forall, -Prod.exists, -exists_and_left, -exists_and_right, hW0, hW1, dm_fn, dm_fd, dm_x, dm_L0, dm_la, dm_t1, dm_sw, List.headD, dm_ic, dm_mk, dm_s1, dm_s2, dm_clr, dm_cs, dm_cc, dm_nb0, dm_nb1, Value.category, List.lookup, p_X11_piece, x_X11_piece, k_X11_piece, dm_cm, upd, vp_updL, dm_ui_1, dm_ui_2, dm_ul_1, dm_ul_2, sp_X11_isArc, sp_X11_gone, sM_0, sM_1, sM_2, sM_3, sM_4, sM_5, sM_6, sM_7, sM_8, sM_9, sM_10, sM_11, sM_12, sM_13, sM_14, sM_15, sM_16, sM_17, sM_18, sM_19, sM_20, sM_21, sM_22, sM_23, sM_24, sM_25, sM_26, sM_27, sM_28, sM_29]
      simp only [i1, i3, i4, true_and]
      exact ⟨fun z => h1 (fun q => dm_l_lt.mpr z q.2.2.1), fun z => ⟨fun z2 => h1 (fun q => dm_l_lt.mpr z2 q.2.2.2.1), fun z2 => ⟨fun z3 => h1 (fun q => dm_l_le.mpr z3 q.2.2.2.2.1), fun z3 => ⟨fun z4 => h2 ⟨k1, k2, z, z2, z3, z4⟩, fun z4 => h1 (fun q => dm_l_le.mpr z4 q.2.2.2.2.2)⟩⟩⟩⟩
    have end53 : (0 ≤ x ∧ x < u.1 0 1) → ¬ u.1 6 x.toNatClampNeg = 3 → G 53 [some (.ref 0), some (.int x), some (.long m), none, some (.long c), none, some (.int (u.1 6 x.toNatClampNeg)), none, none, none, none] [.long (if u.1 6 x.toNatClampNeg ≤ 0 then u.2 4 x.toNatClampNeg else u.2 8 (4 * x + u.1 6 x.toNatClampNeg).toNatClampNeg)] u := by
      intro k1 k2
      obtain ⟨i1, i2⟩ := h0 k1.1 k1.2
      have e8 := end80 k1 k2
      apply hG (fun pc => pc == 80) 90
      simp (config := { maxSteps := 2000000 }) [-Prod.forall, -Prod.exists, -exists_and_left, -exists_and_right, hW0, hW1, dm_fn, dm_fd, dm_x, dm_L0, dm_la, dm_t1, dm_sw, List.headD, dm_ic, dm_mk, dm_s1, dm_s2, dm_clr, dm_cs, dm_cc, dm_nb0, dm_nb1, Value.category, List.lookup, p_X11_piece, x_X11_piece, k_X11_piece, dm_cm, upd, vp_updL, dm_ui_1, dm_ui_2, dm_ul_1, dm_ul_2, sp_X11_isArc, sp_X11_gone, sM_0, sM_1, sM_2, sM_3, sM_4, sM_5, sM_6, sM_7, sM_8, sM_9, sM_10, sM_11, sM_12, sM_13, sM_14, sM_15, sM_16, sM_17, sM_18, sM_19, sM_20, sM_21, sM_22, sM_23, sM_24, sM_25, sM_26, sM_27, sM_28, sM_29]
      simp only [i1, true_and]
      refine ⟨fun z => ?_, fun z => ?_⟩
      · rw [if_neg z] at e8; exact e8
      · rw [if_pos z] at e8; exact e8
    apply hG (fun pc => pc == 53) 90
    simp (config := { maxSteps := 2000000 }) [-Prod.forall, -Prod.exists, -exists_and_left, -exists_and_right, hW0, hW1, dm_fn, dm_fd, dm_x, dm_L0, dm_la, dm_t1, dm_sw, List.headD, dm_ic, dm_mk, dm_s1, dm_s2, dm_clr, dm_cs, dm_cc, dm_nb0, dm_nb1, Value.category, List.lookup, p_X11_piece, x_X11_piece, k_X11_piece, dm_cm, upd, vp_updL, dm_ui_1, dm_ui_2, dm_ul_1, dm_ul_2, sp_X11_isArc, sp_X11_gone, sM_0, sM_1, sM_2, sM_3, sM_4, sM_5, sM_6, sM_7, sM_8, sM_9, sM_10, sM_11, sM_12, sM_13, sM_14, sM_15, sM_16, sM_17, sM_18, sM_19, sM_20, sM_21, sM_22, sM_23, sM_24, sM_25, sM_26, sM_27, sM_28, sM_29]
    refine ⟨fun z => h1 (fun q => dm_i_lt.mpr (z q.1.1) q.1.2), fun k1 k1' => ?_⟩
    obtain ⟨i1, i2⟩ := h0 k1 k1'
    simp only [i1, true_and]
    refine ⟨fun z => ?_, fun z => h1 (fun q => q.2.1 z)⟩
    have e5 := end53 ⟨k1, k1'⟩ z
    refine ⟨fun z2 => ?_, fun z2 => ⟨(i2 z).1, ?_⟩⟩
    · rw [if_pos z2] at e5; exact e5
    · rw [if_neg (dm_i_le.mpr z2)] at e5; exact e5
  · exact hh.elim
set_option maxRecDepth 100000 in
theorem t_X11_piece (l : Launch) (D : va_G) (cA : Nat → ClassId) (ad : Nat → Nat) : dm_Met l D dm_cl cA ad shM yX11_piece (Cond.code yX11_piece cX11_piece 11 (dm_rt 1) :: dm_tt) ({ frames := 1, cells := 0, slots := 0, locals := 21 } : Room) sp_X11_piece := dm_meth (own := RX11) (X := x_X11_piece) (Sp := k_X11_piece) (prog := p_X11_piece) (by decide +kernel) rfl rfl (dm_FO_s ffX11 [(20, 11, 5), (23, 11, 6), (26, 11, 7), (29, 11, 8), (32, 11, 9)] rfl dm_hT (by decide +kernel)) (dm_IO_s ifX11 jfX11 [] [(114, 1000000), (130, -2), (135, 1000001)] rfl rfl dm_hT (by decide +kernel) (by decide +kernel)) soM (dm_MO_of (List.forall_mem_cons.mpr ⟨dm_M1_of (t_X11_isArc l D cA ad) dm_hT (dm_mem [1093, 77, 1090] (by decide +kernel) (by decide +kernel)) (by decide) (by decide +kernel) (Or.inr ⟨by decide, dm_mem [1092, 42] (by decide +kernel) (by decide +kernel), rfl⟩), List.forall_mem_cons.mpr ⟨dm_M1_of (t_X11_gone l D cA ad) dm_hT (dm_mem [1076, 77, 1073] (by decide +kernel) (by decide +kernel)) (by decide) (by decide +kernel) (Or.inr ⟨by decide, dm_mem [1075, 40] (by decide +kernel) (by decide +kernel), rfl⟩), fun _ h => absurd h List.not_mem_nil⟩⟩)) v_X11_piece u_X11_piece
theorem cn_fs_ge {A : AN} (hA : A.ok) : ∀ a, a ≤ A.M → a ≤ cn_fs A.pt a
  | 0, _ => Nat.le_refl _
  | a + 1, h => by
    have := cn_fs_ge hA a (by omega)
    have := (hA.2.1 a (by omega)).2.1.1
    show a + 1 ≤ cn_fs A.pt a + A.pt a
    omega
def sp_X11_told (As : List Value) (u : dm_S) (Q : Option Value → dm_S → Prop) : Prop := match As with
  | [.ref 0, .int x] => (x.toInt = 2 → ∃ A : AN, A.ok ∧ MR u A ∧ Q (some (.int (nI (cn_fs A.pt A.M - A.M)))) u) ∧ (¬ x.toInt = 2 → Q (some (.int (if x.toInt = 0 then u.1 0 0 else if x.toInt = 1 then u.1 0 1 else if x.toInt = 3 then u.1 0 13 else if x.toInt = 4 then u.1 0 15 else if x.toInt = 5 then u.1 0 27 else if x = 6 then u.1 0 10 else -1))) u)
  | _ => False
def p_X11_told : List dm_I := [(0, .iload_n 1, 1, [1]), (1, .tableswitch 93 0 5 #[39, 44, 49, 78, 83, 88], 39, [94, 40, 45, 50, 79, 84, 89]), (40, .aload_n 0, 1, [0]), (41, .getfield 109, 3, []), (44, .ireturn, 1, []), (45, .aload_n 0, 1, [0]), (46, .getfield 123, 3, []), (49, .ireturn, 1, []), (50, .iconst 0, 1, []), (51, .istore_n 2, 1, [2]), (52, .iconst 0, 1, []), (53, .istore_n 3, 1, [3]), (54, .iload_n 3, 1, [3]), (55, .aload_n 0, 1, [0]), (56, .getfield 123, 3, []), (59, .if_icmp .ge 18, 3, [77]), (62, .iload_n 2, 1, [2]), (63, .aload_n 0, 1, [0]), (64, .getfield 26, 3, []), (67, .iload_n 3, 1, [3]), (68, .iaload, 1, []), (69, .iadd, 1, []), (70, .istore_n 2, 1, [2]), (71, .iinc 3 1, 3, []), (74, .goto (-20), 3, [54]), (77, .iload_n 2, 1, [2]), (78, .ireturn, 1, []), (79, .aload_n 0, 1, [0]), (80, .getfield 103, 3, []), (83, .ireturn, 1, []), (84, .aload_n 0, 1, [0]), (85, .getfield 106, 3, []), (88, .ireturn, 1, []), (89, .aload_n 0, 1, [0]), (90, .getfield 239, 3, []), (93, .ireturn, 1, []), (94, .iload_n 1, 1, [1]), (95, .bipush 6, 2, []), (97, .if_icmp .ne 10, 3, [107]), (100, .aload_n 0, 1, [0]), (101, .getfield 99, 3, []), (104, .goto 4, 3, [108]), (107, .iconst (-1), 1, []), (108, .ireturn, 1, [])]
set_option maxRecDepth 100000 in
theorem v_X11_told : p_X11_told.all (dm_vb cX11_told) = true := by decide +kernel
def k_X11_told : dm_Sp := fun a => match a with
  | _ => fun _ _ _ => False
def x_X11_told : dm_X := dm_mk [(26, 11, 7), (99, 11, 10), (103, 11, 13), (106, 11, 15), (109, 11, 0), (123, 11, 1), (239, 11, 27)] [] [] [] 1
set_option maxRecDepth 100000 in
set_option maxHeartbeats 1600000 in
theorem u_X11_told : dm_Pure shM x_X11_told k_X11_told p_X11_told 4 sp_X11_told := by
  intro As u Qp hh
  unfold sp_X11_told at hh
  split at hh
  · rename_i x
    obtain ⟨h1, h2⟩ := hh
    refine ⟨Nat.le_of_ble_eq_true rfl, fun G Wp hW0 hW1 hG => ?_⟩
    have loop : x.toInt = 2 → G 54 [some (.ref 0), some (.int x), some (.int 0), some (.int 0)] [] u := by
      intro hx
      obtain ⟨A, hA, hC, hq⟩ := h1 hx
      obtain ⟨hn, hM⟩ := hA.1
      have lp : ∀ k a : Nat, a + k = A.M → G 54 [some (.ref 0), some (.int x), some (.int (nI (cn_fs A.pt a - a))), some (.int (nI a))] [] u := by
        intro k
        induction k with
        | zero =>
          intro a ha
          have e : a = A.M := by omega
          subst e
          apply hG (fun pc => pc == 54) 60
          simp (config := { maxSteps := 2000000 }) [-Prod.forall, -Prod.exists, -exists_and_left, -exists_and_right, hW0, hW1, dm_fn, dm_fd, dm_x, dm_L0, dm_la, dm_t1, dm_sw, List.headD, dm_ic, dm_mk, dm_s1, dm_s2, dm_clr, dm_cs, dm_cc, dm_nb0, dm_nb1, Value.category, List.lookup, p_X11_told, x_X11_told, k_X11_told, dm_cm, upd, vp_updL, dm_ui_1, dm_ui_2, dm_ul_1, dm_ul_2, sM_0, sM_1, sM_2, sM_3, sM_4, sM_5, sM_6, sM_7, sM_8, sM_9, sM_10, sM_11, sM_12, sM_13, sM_14, sM_15, sM_16, sM_17, sM_18, sM_19, sM_20, sM_21, sM_22, sM_23, sM_24, sM_25, sM_26, sM_27, sM_28, sM_29]
          rw [hC.1.2]
          exact ⟨fun _ => hq, fun z => absurd z (nI_nlt (Nat.le_refl _) (by omega))⟩
        | succ k ih =>
          intro a ha
          have ham : a < A.M := by omega
          have e6 := (hC.2.2 a ham).2.2.1
          have ca : (nI a).toNatClampNeg = a := nI_clamp (by omega)
          have ia : vp_in (nI a) 80 := vp_in_nI (by omega) (by omega)
          have g1 := cn_fs_ge hA a (by omega)
          have g2 := (hA.2.1 a ham).2.1.1
          apply hG (fun pc => pc == 54) 60
          simp (config := { maxSteps := 2000000 }) [-Prod.forall, -Prod.exists, -exists_and_left, -exists_and_right, hW0, hW1, dm_fn, dm_fd, dm_x, dm_L0, dm_la, dm_t1, dm_sw, List.headD, dm_ic, dm_mk, dm_s1, dm_s2, dm_clr, dm_cs, dm_cc, dm_nb0, dm_nb1, Value.category, List.lookup, p_X11_told, x_X11_told, k_X11_told, dm_cm, upd, vp_updL, dm_ui_1, dm_ui_2, dm_ul_1, dm_ul_2, sM_0, sM_1, sM_2, sM_3, sM_4, sM_5, sM_6, sM_7, sM_8, sM_9, sM_10, sM_11, sM_12, sM_13, sM_14, sM_15, sM_16, sM_17, sM_18, sM_19, sM_20, sM_21, sM_22, sM_23, sM_24, sM_25, sM_26, sM_27, sM_28, sM_29]
          rw [hC.1.2, ca, e6, nI_add, nI_1]
          refine ⟨fun z => absurd z (nI_ge (by omega) (by omega)), fun _ => ⟨ia, ?_⟩⟩
          have e : cn_fs A.pt a - a + (A.pt a - 1) = cn_fs A.pt (a + 1) - (a + 1) := by
            show _ = cn_fs A.pt a + A.pt a - (a + 1)
            omega
          rw [e]
          exact ih (a + 1) (by omega)
      exact lp A.M 0 (by omega)
    apply hG (fun pc => pc == 54) 60
    simp (config := { maxSteps := 2000000 }) [-Prod.forall, -Prod.exists, -exists_and_left, -exists_and_right, hW0, hW1, dm_fn, dm_fd, dm_x, dm_L0, dm_la, dm_t1, dm_sw, List.headD, dm_ic, dm_mk, dm_s1, dm_s2, dm_clr, dm_cs, dm_cc, dm_nb0, dm_nb1, Value.category, List.lookup, p_X11_told, x_X11_told, k_X11_told, dm_cm, upd, vp_updL, dm_ui_1, dm_ui_2, dm_ul_1, dm_ul_2, sM_0, sM_1, sM_2, sM_3, sM_4, sM_5, sM_6, sM_7, sM_8, sM_9, sM_10, sM_11, sM_12, sM_13, sM_14, sM_15, sM_16, sM_17, sM_18, sM_19, sM_20, sM_21, sM_22, sM_23, sM_24, sM_25, sM_26, sM_27, sM_28, sM_29]
    refine ⟨fun z => ⟨fun z2 => ?_, fun z2 => ?_⟩, fun z => ?_, fun z => ?_, fun z => loop z, fun z => ?_, fun z => ?_, fun z => ?_⟩
    · have := h2 (by omega)
      rw [if_neg (by omega), if_neg (by omega), if_neg (by omega), if_neg (by omega), if_neg (by omega), if_neg z2] at this
      exact this
    · have := h2 (by omega)
      rw [if_neg (by omega), if_neg (by omega), if_neg (by omega), if_neg (by omega), if_neg (by omega), if_pos z2] at this
      exact this
    · have := h2 (by omega)
      rw [if_pos z] at this
      exact this
    · have := h2 (by omega)
      rw [if_neg (by omega), if_pos z] at this
      exact this
    · have := h2 (by omega)
      rw [if_neg (by omega), if_neg (by omega), if_pos z] at this
      exact this
    · have := h2 (by omega)
      rw [if_neg (by omega), if_neg (by omega), if_neg (by omega), if_pos z] at this
      exact this
    · have := h2 (by omega)
      rw [if_neg (by omega), if_neg (by omega), if_neg (by omega), if_neg (by omega), if_pos z] at this
      exact this
  · exact hh.elim
set_option maxRecDepth 100000 in
theorem t_X11_told (l : Launch) (D : va_G) (cA : Nat → ClassId) (ad : Nat → Nat) : dm_Met l D dm_cl cA ad shM yX11_told (Cond.code yX11_told cX11_told 4 (dm_rt 1) :: dm_tt) ({ frames := 0, cells := 0, slots := 0, locals := 0 } : Room) sp_X11_told := dm_meth (own := RX11) (X := x_X11_told) (Sp := k_X11_told) (prog := p_X11_told) (by decide +kernel) rfl rfl (dm_FO_s ffX11 [(26, 11, 7), (99, 11, 10), (103, 11, 13), (106, 11, 15), (109, 11, 0), (123, 11, 1), (239, 11, 27)] rfl dm_hT (by decide +kernel)) (dm_IO_s ifX11 jfX11 [] [] rfl rfl dm_hT (by decide +kernel) (by decide +kernel)) soM (dm_MO_of (fun _ h => absurd h List.not_mem_nil)) v_X11_told u_X11_told
