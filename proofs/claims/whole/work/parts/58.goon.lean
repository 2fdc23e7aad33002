/-! ===== Paths.goOn ===== -/
def dj_ok (u : dm_S) (n : Nat) (vn : Nat → Option (Option Nat)) (D : Nat → Int) (dn : Nat → Bool) (car : Nat → Int) : Prop := ∀ v, v < n → u.1 40 v = cvn (vn v) ∧ u.2 38 v = lI (D v) ∧ (u.1 39 v = if dn v then 1 else 0) ∧ (vn v ≠ none → u.2 41 v = lI (car v))
theorem LA_pj {u u' : dm_S} {n K : Nat} {b e : Nat → Nat} {mm lo ex : Nat → Int} (h : LA u n K b e mm lo ex) (hf : pj_fr u u') : LA u' n K b e mm lo ex := by
  obtain ⟨h1, h2, h3, h4⟩ := h
  obtain ⟨f1, f3⟩ := hf
  refine ⟨⟨?_, fun l hl => ?_⟩, (f3 22 (by decide) (by decide)).trans h2, (f3 24 (by decide) (by decide)).trans h3, (f3 25 (by decide) (by decide)).trans h4⟩
  · rw [f1 1 (by decide) (by decide), f1 2 (by decide) (by decide)]
    exact h1.1
  · rw [f1 20 (by decide) (by decide), f1 21 (by decide) (by decide)]
    exact h1.2 l hl
theorem LA_r {u : dm_S} {c : Nat → Int} {w : Nat} (h : u.2 23 = lF c) : lw_r u w = lI (wr c w) := by
  unfold lw_r wr
  rw [h]
  split
  · rfl
  · rw [lF_at, lI_neg]
def sp_X4_goOn (As : List Value) (u : dm_S) (Q : Option Value → dm_S → Prop) : Prop := match As with
  | [.ref 6, .int x, .long d] => ∃ (n K : Nat) (b e : Nat → Nat) (c mm lo ex p : Nat → Int) (dl Rs : Int) (hd sr : Nat → Nat) (vn : Nat → Option (Option Nat)) (D : Nat → Int) (h : Nat → Nat) (dn : Nat → Bool) (car : Nat → Int) (v : Nat), LA u n K b e mm lo ex ∧ LB n K mm lo ex ∧ so_ok u n K b e hd sr ∧ u.2 23 = lF c ∧ u.2 36 = lF p ∧ d = lI dl ∧ lB dl ∧ djP n K b e c mm lo p dl Rs ∧ dj_ok u n vn D dn car ∧ djI n K b e c mm lo ex p dl Rs vn D h dn car ∧ x = nI v ∧ v < n ∧ dn v = true ∧ (∀ y, y < n → dn y = true → D y ≤ D v) ∧ (∀ y, y < n → vn y ≠ none → lB (car y)) ∧
    ∀ (u' : dm_S) (vn' : Nat → Option (Option Nat)) (D' : Nat → Int) (h' : Nat → Nat) (car' : Nat → Int), pj_fr u u' → dj_ok u' n vn' D' dn car' → djI n K b e c mm lo ex p dl Rs vn' D' h' dn car' → (∀ y, y < n → dn y = true → D' y = D y) → (∀ y, y < n → D' y ≤ D y ∧ (vn y ≠ none → vn' y ≠ none)) → (∀ y, y < n → vn' y ≠ none → lB (car' y)) → (∀ w, w < 2 * K → wb b e w = v → dl ≤ wm mm lo w → vn' (we b e w) ≠ none ∧ D' (we b e w) ≤ D v + 32 * rcw b e c p w + 1) → Q none u'
  | _ => False
def p_X4_goOn : List dm_I := [(0, .aload_n 0, 1, [0]), (1, .getfield 30, 3, []), (4, .getfield 109, 3, []), (7, .iload_n 1, 1, [1]), (8, .iaload, 1, []), (9, .istore 4, 2, []), (11, .iload 4, 2, []), (13, .aload_n 0, 1, [0]), (14, .getfield 30, 3, []), (17, .getfield 109, 3, []), (20, .iload_n 1, 1, [1]), (21, .iconst 1, 1, []), (22, .iadd, 1, []), (23, .iaload, 1, []), (24, .if_icmp .ge 155, 3, [179]), (27, .aload_n 0, 1, [0]), (28, .getfield 30, 3, []), (31, .getfield 112, 3, []), (34, .iload 4, 2, []), (36, .iaload, 1, []), (37, .istore 5, 2, []), (39, .aload_n 0, 1, [0]), (40, .getfield 30, 3, []), (43, .iload 5, 2, []), (45, .invokevirtual 54, 3, []), (48, .lstore 6, 2, []), (50, .aload_n 0, 1, [0]), (51, .getfield 30, 3, []), (54, .iload 5, 2, []), (56, .invokevirtual 58, 3, []), (59, .istore 8, 2, []), (61, .lload 6, 2, []), (63, .lload_n 2, 1, [2]), (64, .lcmp, 1, []), (65, .ifCond .lt 108, 3, [173]), (68, .aload_n 0, 1, [0]), (69, .getfield 15, 3, []), (72, .iload 8, 2, []), (74, .baload, 1, []), (75, .ifCond .eq 6, 3, [81]), (78, .goto 95, 3, [173]), (81, .aload_n 0, 1, [0]), (82, .getfield 30, 3, []), (85, .iload 5, 2, []), (87, .invokevirtual 65, 3, []), (90, .aload_n 0, 1, [0]), (91, .getfield 34, 3, []), (94, .iload_n 1, 1, [1]), (95, .laload, 1, []), (96, .ladd, 1, []), (97, .aload_n 0, 1, [0]), (98, .getfield 34, 3, []), (101, .iload 8, 2, []), (103, .laload, 1, []), (104, .lsub, 1, []), (105, .lstore 9, 2, []), (107, .aload_n 0, 1, [0]), (108, .getfield 9, 3, []), (111, .iload_n 1, 1, [1]), (112, .laload, 1, []), (113, .lload 9, 2, []), (115, .ldc2_w 115, 3, []), (118, .lmul, 1, []), (119, .ladd, 1, []), (120, .lconst 1, 1, []), (121, .ladd, 1, []), (122, .lstore 11, 2, []), (124, .lload 11, 2, []), (126, .aload_n 0, 1, [0]), (127, .getfield 9, 3, []), (130, .iload 8, 2, []), (132, .laload, 1, []), (133, .lcmp, 1, []), (134, .ifCond .ge 39, 3, [173]), (137, .aload_n 0, 1, [0]), (138, .getfield 9, 3, []), (141, .iload 8, 2, []), (143, .lload 11, 2, []), (145, .lastore, 1, []), (146, .aload_n 0, 1, [0]), (147, .getfield 19, 3, []), (150, .iload 8, 2, []), (152, .iload 5, 2, []), (154, .iastore, 1, []), (155, .aload_n 0, 1, [0]), (156, .getfield 23, 3, []), (159, .iload 8, 2, []), (161, .aload_n 0, 1, [0]), (162, .getfield 23, 3, []), (165, .iload_n 1, 1, [1]), (166, .laload, 1, []), (167, .lload 6, 2, []), (169, .invokestatic 82, 3, []), (172, .lastore, 1, []), (173, .iinc 4 1, 3, []), (176, .goto (-165), 3, [11]), (179, .return_, 1, [])]
set_option maxRecDepth 100000 in
theorem v_X4_goOn : p_X4_goOn.all (dm_vb cX4_goOn) = true := by decide +kernel
def k_X4_goOn : dm_Sp := fun a => match a with
  | 0 => sp_X1_roomOf
  | 1 => sp_X1_endOf
  | 2 => sp_X1_rateOf
  | 3 => sp_J9_min_f86c9
  | _ => fun _ _ _ => False
def x_X4_goOn : dm_X := dm_mk [(9, 4, 3), (15, 4, 4), (19, 4, 5), (23, 4, 6), (30, 4, 1), (34, 4, 2), (109, 1, 8), (112, 1, 9)] [] [(115, 32)] [(54, 0, 1, 1), (58, 1, 1, 1), (65, 2, 1, 1), (82, 3, 2, 1000)] 0
set_option maxRecDepth 100000 in
set_option maxHeartbeats 1600000 in
theorem u_X4_goOn : dm_Pure shC x_X4_goOn k_X4_goOn p_X4_goOn 13 sp_X4_goOn := by
  intro As u Qp hh
  unfold sp_X4_goOn at hh
  split at hh
  · obtain ⟨n, K, b, e, c, mm, lo, ex, p, dl, Rs, hd, sr, vn, D, h, dn, car, v, hA, hB, hS, e23, e36, rfl, hdl, hP, hj, hI, rfl, hv, hvd, hmx, hC, hQ⟩ := hh
    obtain ⟨hn, hK, en, eK⟩ := hA.1.1
    obtain ⟨s1, s2, s3, s4⟩ := hS
    obtain ⟨s2a, s2b⟩ := s2 v hv
    have hnd := ln_nd hA.1
    have hvs : vn v ≠ none := by
      intro z
      have := hI.1 v hv
      unfold djN at this
      rw [z] at this
      rw [this.2] at hvd; cases hvd
    refine ⟨Nat.le_of_ble_eq_true rfl, fun G Wp hW0 hW1 hG => ?_⟩
    have loop : ∀ k t : Nat, t + k = hd (v + 1) → hd v ≤ t → ∀ (u' : dm_S) (vn' : Nat → Option (Option Nat)) (D' : Nat → Int) (h' : Nat → Nat) (car' : Nat → Int) (o5 o6 o7 o8 o9 o10 o11 o12 : Option Value), pj_fr u u' → dj_ok u' n vn' D' dn car' → djI n K b e c mm lo ex p dl Rs vn' D' h' dn car' → (∀ y, y < n → dn y = true → D' y = D y) → (∀ y, y < n → D' y ≤ D y ∧ (vn y ≠ none → vn' y ≠ none)) → (∀ y, y < n → vn' y ≠ none → lB (car' y)) → (∀ t', hd v ≤ t' → t' < t → dl ≤ wm mm lo (sr t') → vn' (we b e (sr t')) ≠ none ∧ D' (we b e (sr t')) ≤ D v + 32 * rcw b e c p (sr t') + 1) → G 11 [some (.ref 6), some (.int (nI v)), some (.long (lI dl)), none, some (.int (nI t)), o5, o6, o7, o8, o9, o10, o11, o12] [] u' := by
      intro k
      induction k with
      | zero =>
        intro t ht ht2 u' vn' D' h' car' o5 o6 o7 o8 o9 o10 o11 o12 a1 a2 a3 a4 a5 a6 a7
        apply hG (fun pc => pc == 11) 140
        simp (config := { maxSteps := 2000000 }) [-Prod.forall, -Prod.exists, -exists_and_left, -exists_and_right, hW0, hW1, dm_fn, dm_fd, dm_x, dm_L0, dm_la, dm_t1, dm_sw, List.headD, dm_ic, dm_mk, dm_s1, dm_s2, dm_clr, dm_cs, dm_cc, dm_nb0, dm_nb1, Value.category, List.lookup, p_X4_goOn, x_X4_goOn, k_X4_goOn, dm_cm, upd, vp_updL, dm_ui_1, dm_ui_2, dm_ul_1, dm_ul_2, sp_X1_roomOf, sp_X1_endOf, sp_X1_rateOf, sp_J9_min_f86c9, sC_0, sC_1, sC_2, sC_3, sC_4, sC_5, sC_6, sC_7, sC_8, sC_9, sC_10, sC_11, sC_12, sC_13, sC_14, sC_15, sC_16, sC_17, sC_18, sC_19, sC_20, sC_21, sC_22, sC_23, sC_24, sC_25, sC_26, sC_27, sC_28, sC_29, sC_30, sC_31, sC_32, sC_33, sC_34, sC_35, sC_36, sC_37, sC_38, sC_39, sC_40, sC_41, sC_42, sC_43, sC_44, sC_45, sC_46, sC_47, sC_48, sC_49, sC_50, sC_51]
        have c1 : (nI (v + 1)).toNatClampNeg = v + 1 := nI_clamp (by omega)
        rw [a1.1 26 (by decide) (by decide), nI_1, c1, s1 (v + 1) (by omega)]
        refine ⟨vp_in_nI (by omega) (by omega), fun _ => hQ u' vn' D' h' car' a1 a2 a3 a4 a5 a6 (fun w hw hwb hm => ?_), fun zq => absurd zq (nI_nlt (by omega) (by omega))⟩
        obtain ⟨t', t1, t2, t3⟩ := s4 w hw
        rw [hwb] at t1 t2
        have := a7 t' t1 (by omega)
        rw [t3] at this
        exact this hm
      | succ k ih =>
        intro t ht ht2 u' vn' D' h' car' o5 o6 o7 o8 o9 o10 o11 o12 a1 a2 a3 a4 a5 a6 a7
        obtain ⟨r1, r2, r3⟩ := s3 v t hv ht2 (by omega)
        have hA' := LA_pj hA a1
        obtain ⟨e2, l2⟩ := ln_e hA'.1 r2
        obtain ⟨m1, m2⟩ := LB_m hB r2
        have hBm : lB (wm mm lo (sr t)) := by unfold lB; omega
        have c1 : (nI (v + 1)).toNatClampNeg = v + 1 := nI_clamp (by omega)
        have c2 : (nI t).toNatClampNeg = t := nI_clamp (by omega)
        have c3 : (nI v).toNatClampNeg = v := nI_clamp (by omega)
        have c4 : (nI (we b e (sr t))).toNatClampNeg = we b e (sr t) := nI_clamp (by omega)
        have ie : vp_in (nI (we b e (sr t))) 24 := vp_in_nI (by omega) (by omega)
        have iv : vp_in (nI v) 24 := vp_in_nI (by omega) (by omega)
        obtain ⟨j1, j2, j3, j4⟩ := a2 _ l2
        obtain ⟨i1, i2, i3, i4⟩ := a2 _ hv
        have hvs' : vn' v ≠ none := (a5 v hv).2 hvs
        have keep : (dl ≤ wm mm lo (sr t) → vn' (we b e (sr t)) ≠ none ∧ D' (we b e (sr t)) ≤ D v + 32 * rcw b e c p (sr t) + 1) → ∀ (o5 o6 o7 o8 o9 o10 o11 o12 : Option Value), G 11 [some (.ref 6), some (.int (nI v)), some (.long (lI dl)), none, some (.int (nI (t + 1))), o5, o6, o7, o8, o9, o10, o11, o12] [] u' := by
          intro hk o5 o6 o7 o8 o9 o10 o11 o12
          refine ih (t + 1) (by omega) (by omega) u' vn' D' h' car' _ _ _ _ _ _ _ _ a1 a2 a3 a4 a5 a6 (fun t' b1 b2 hm => ?_)
          rcases Nat.lt_or_ge t' t with z | z
          · exact a7 t' b1 z hm
          · rw [show t' = t by omega] at hm ⊢; exact hk hm
        apply hG (fun pc => pc == 11) 140
        simp (config := { maxSteps := 2000000 }) [-Prod.forall, -Prod.exists, -exists_and_left, -exists_and_right, hW0, hW1, dm_fn, dm_fd, dm_x, dm_L0, dm_la, dm_t1, dm_sw, List.headD, dm_ic, dm_mk, dm_s1, dm_s2, dm_clr, dm_cs, dm_cc, dm_nb0, dm_nb1, Value.category, List.lookup, p_X4_goOn, x_X4_goOn, k_X4_goOn, dm_cm, upd, vp_updL, dm_ui_1, dm_ui_2, dm_ul_1, dm_ul_2, sp_X1_roomOf, sp_X1_endOf, sp_X1_rateOf, sp_J9_min_f86c9, sC_0, sC_1, sC_2, sC_3, sC_4, sC_5, sC_6, sC_7, sC_8, sC_9, sC_10, sC_11, sC_12, sC_13, sC_14, sC_15, sC_16, sC_17, sC_18, sC_19, sC_20, sC_21, sC_22, sC_23, sC_24, sC_25, sC_26, sC_27, sC_28, sC_29, sC_30, sC_31, sC_32, sC_33, sC_34, sC_35, sC_36, sC_37, sC_38, sC_39, sC_40, sC_41, sC_42, sC_43, sC_44, sC_45, sC_46, sC_47, sC_48, sC_49, sC_50, sC_51]
        rw [a1.1 26 (by decide) (by decide), a1.1 27 (by decide) (by decide), nI_1, nI_1, c1, c2, c3, s1 (v + 1) (by omega), r1]
        refine ⟨vp_in_nI (by omega) (by omega), fun zq => absurd zq (nI_ge (by omega) (by omega)), fun zq => ⟨vp_in_nI (by omega) (by omega), sr t, by omega, rfl, sr t, by omega, rfl, ?_⟩⟩
        rw [LA_m hA', e2, c4, j3]
        refine ⟨fun z => keep (fun hm => ?_) _ _ _ _ _ _ _ _, fun z => ⟨ie, fun z2 => ⟨sr t, by omega, rfl, ?_⟩, fun z2 => keep (fun hm => ?_) _ _ _ _ _ _ _ _⟩⟩
        · have := (lI_lt hBm hdl).mp z; omega
        · rw [LA_r ((a1.2 23 (by decide) (by decide)).trans e23), a1.2 36 (by decide) (by decide), e36, i2, j2]
          have hz : wm mm lo (sr t) ≥ dl := (lI_le hdl hBm).mp z
          have hdv : D' v = D v := a4 v hv hvd
          have erc : lI (D' v) + (lI (wr c (sr t)) + lF p v - lF p (we b e (sr t))) * 32 + 1 = lI (D v + 32 * rcw b e c p (sr t) + 1) := by
            rw [lF_at, lF_at, lI_add, lI_sub, show (32 : Int64) = lI 32 from rfl, lI_mul, lI_add, show (1 : Int64) = lI 1 from rfl, lI_add, hdv]
            congr 1
            unfold rcw
            rw [r3]; omega
          rw [erc]
          have z3 : dn (we b e (sr t)) = false := by
            cases q : dn (we b e (sr t))
            · rfl
            · rw [q] at z2; cases z2
          have hrc := hP.1 _ r2 hz
          have hfv := dj_far hn hP a3 hv hvs'
          rw [hdv] at hfv
          have hub : rcw b e c p (sr t) ≤ 36028797019963968 + 1000000 := by
            have q1 := hP.2.2.1 v hv
            have q2 := hP.2.2.1 _ l2
            have q3 := wr_bd hP.2.1 r2
            unfold rcw
            rw [r3]; omega
          have hBn : lB (D v + 32 * rcw b e c p (sr t) + 1) := by unfold lB; omega
          have hBe : lB (D' (we b e (sr t))) ∧ (vn' (we b e (sr t)) = none → D' (we b e (sr t)) = fAR) := by
            by_cases q : vn' (we b e (sr t)) = none
            · have := a3.1 _ l2
              unfold djN at this
              rw [q] at this
              rw [this.1]
              exact ⟨by unfold lB fAR; omega, fun _ => rfl⟩
            · have := dj_far hn hP a3 l2 q
              exact ⟨by unfold lB; omega, fun z => absurd z q⟩
          have hsm : D v + 32 * rcw b e c p (sr t) + 1 < fAR := by
            obtain ⟨-, g2, C, g3, g4, g5⟩ := a3.2.2.2.1 v hv hvs'
            have q2 := hP.2.2.1 _ l2
            have q3 := wr_bd hP.2.1 r2
            have q4 : cN dn n ≤ n := cN_le
            rw [hdv] at g4
            have q5 : rcw b e c p (sr t) = wr c (sr t) + p v - p (we b e (sr t)) := by unfold rcw; rw [r3]
            unfold fAR
            rw [q5]
            omega
          refine ⟨iv, ie, iv, ie, fun y => keep (fun _ => ?_) _ _ _ _ _ _ _ _, fun y => ?_⟩
          · have y2 := (lI_le hBe.1 hBn).mp y
            exact ⟨fun q => by rw [hBe.2 q] at y2; omega, y2⟩
          · have y2 := (lI_lt hBn hBe.1).mp y
            have hrel := dj_relax hn hP a3 hv hvd (fun y hy hd => by rw [a4 y hy hd, hdv]; exact hmx y hy hd) r2 r3 hz l2 z3 (by rw [hdv]; exact y2)
            rw [hdv] at hrel
            rw [i4 hvs', lI_min (a6 v hv hvs') hBm]
            refine ⟨ie, iv, ie, ?_⟩
            have hvw : v ≠ we b e (sr t) := fun q => by rw [← q, hvd] at z3; cases z3
            refine ih (t + 1) (by omega) (by omega) _ _ _ _ _ _ _ _ _ _ _ _ _ (pj_frt a1 ⟨fun c q1 q2 => ?_, fun c q1 q2 => ?_⟩) (fun x hx => ?_) hrel (fun x hx hd => ?_) (fun x hx => ?_) (fun x hx hs => ?_) (fun t' b1 b2 hm => ?_)
            · simp only [dm_ui_1, dm_ul_1, if_neg q1, if_neg q2]
            · simp only [dm_ui_2, dm_ul_2, if_neg q1, if_neg q2]
            · by_cases q : x = we b e (sr t)
              · rw [q, uF_at, uF_at, uF_at]
                simp [dm_ui_1, dm_ul_1, dm_ui_2, dm_ul_2, upd, vp_updL]
                exact ⟨rfl, j3, rfl⟩
              · rw [uF_ne q, uF_ne q, uF_ne q]
                simp [dm_ui_1, dm_ul_1, dm_ui_2, dm_ul_2, upd, vp_updL, q]
                exact a2 x hx
            · rw [uF_ne (fun q => by rw [q, z3] at hd; cases hd)]; exact a4 x hx hd
            · by_cases q : x = we b e (sr t)
              · rw [q, uF_at, uF_at]
                have := (a5 _ l2).1
                exact ⟨by omega, fun _ => by simp⟩
              · rw [uF_ne q, uF_ne q]; exact a5 x hx
            · by_cases q : x = we b e (sr t)
              · rw [q, uF_at]
                rcases (mn2_le (a := car' v) (b := wm mm lo (sr t))).2.2 with y | y
                · rw [y]; exact a6 v hv hvs'
                · rw [y]; exact hBm
              · rw [uF_ne q] at hs
                rw [uF_ne q]; exact a6 x hx hs
            · by_cases q : we b e (sr t') = we b e (sr t)
              · rcases Nat.lt_or_ge t' t with q2 | q2
                · have := a7 t' b1 q2 hm
                  rw [q, uF_at, uF_at]
                  rw [q] at this
                  exact ⟨by simp, by omega⟩
                · rw [show t' = t by omega, uF_at, uF_at]
                  exact ⟨by simp, Int.le_refl _⟩
              · rw [uF_ne q, uF_ne q]
                rcases Nat.lt_or_ge t' t with q2 | q2
                · exact a7 t' b1 q2 hm
                · exact absurd (by rw [show t' = t by omega]) q
        · have z3 : dn (we b e (sr t)) = true := by
            cases q : dn (we b e (sr t))
            · rw [q] at z2; exact absurd rfl z2
            · rfl
          have z4 := hmx _ l2 z3
          have z5 : vn' (we b e (sr t)) ≠ none := by
            intro z6
            have := a3.1 _ l2
            unfold djN at this
            rw [z6] at this
            rw [this.2] at z3; cases z3
          have z6 := hP.1 _ r2 hm
          rw [a4 _ l2 z3]
          exact ⟨z5, by omega⟩
    apply hG (fun pc => pc == 11) 140
    simp (config := { maxSteps := 2000000 }) [-Prod.forall, -Prod.exists, -exists_and_left, -exists_and_right, hW0, hW1, dm_fn, dm_fd, dm_x, dm_L0, dm_la, dm_t1, dm_sw, List.headD, dm_ic, dm_mk, dm_s1, dm_s2, dm_clr, dm_cs, dm_cc, dm_nb0, dm_nb1, Value.category, List.lookup, p_X4_goOn, x_X4_goOn, k_X4_goOn, dm_cm, upd, vp_updL, dm_ui_1, dm_ui_2, dm_ul_1, dm_ul_2, sp_X1_roomOf, sp_X1_endOf, sp_X1_rateOf, sp_J9_min_f86c9, sC_0, sC_1, sC_2, sC_3, sC_4, sC_5, sC_6, sC_7, sC_8, sC_9, sC_10, sC_11, sC_12, sC_13, sC_14, sC_15, sC_16, sC_17, sC_18, sC_19, sC_20, sC_21, sC_22, sC_23, sC_24, sC_25, sC_26, sC_27, sC_28, sC_29, sC_30, sC_31, sC_32, sC_33, sC_34, sC_35, sC_36, sC_37, sC_38, sC_39, sC_40, sC_41, sC_42, sC_43, sC_44, sC_45, sC_46, sC_47, sC_48, sC_49, sC_50, sC_51]
    rw [nI_clamp (by omega), s1 v (by omega)]
    exact ⟨vp_in_nI (by omega) (by omega), loop (hd (v + 1) - hd v) (hd v) (by omega) (Nat.le_refl _) u vn D h car _ _ _ _ _ _ _ _ (pj_fr0 u) hj hI (fun _ _ _ => rfl) (fun _ _ => ⟨Int.le_refl _, id⟩) hC (fun t' _ _ => by omega)⟩
  · exact hh.elim
set_option maxRecDepth 100000 in
theorem t_X4_goOn (l : Launch) (D : va_G) (cA : Nat → ClassId) (ad : Nat → Nat) : dm_Met l D dm_cl cA ad shC yX4_goOn (Cond.code yX4_goOn cX4_goOn 13 (dm_rt 0) :: dm_tt) ({ frames := 1, cells := 0, slots := 0, locals := 23 } : Room) sp_X4_goOn := dm_meth (own := RX4) (X := x_X4_goOn) (Sp := k_X4_goOn) (prog := p_X4_goOn) (by decide +kernel) rfl rfl (dm_FO_s ffX4 [(9, 4, 3), (15, 4, 4), (19, 4, 5), (23, 4, 6), (30, 4, 1), (34, 4, 2), (109, 1, 8), (112, 1, 9)] rfl dm_hT (by decide +kernel)) (dm_IO_s ifX4 jfX4 [] [(115, 32)] rfl rfl dm_hT (by decide +kernel) (by decide +kernel)) soC (dm_MO_of (List.forall_mem_cons.mpr ⟨dm_M1_of (t_X1_roomOf l D cA ad) dm_hT (dm_mem [618, 68, 754] (by decide +kernel) (by decide +kernel)) (by decide) (by decide +kernel) (Or.inr ⟨by decide, dm_mem [616, 617] (by decide +kernel) (by decide +kernel), rfl⟩), List.forall_mem_cons.mpr ⟨dm_M1_of (t_X1_endOf l D cA ad) dm_hT (dm_mem [614, 68, 755] (by decide +kernel) (by decide +kernel)) (by decide) (by decide +kernel) (Or.inr ⟨by decide, dm_mem [612, 613] (by decide +kernel) (by decide +kernel), rfl⟩), List.forall_mem_cons.mpr ⟨dm_M1_of (t_X1_rateOf l D cA ad) dm_hT (dm_mem [705, 68, 757] (by decide +kernel) (by decide +kernel)) (by decide) (by decide +kernel) (Or.inr ⟨by decide, dm_mem [703, 704] (by decide +kernel) (by decide +kernel), rfl⟩), List.forall_mem_cons.mpr ⟨dm_M1_of (t_J9_min_f86c9 l D cA ad) dm_hT (dm_mem [621, 79, 781] (by decide +kernel) (by decide +kernel)) (by decide) (by decide +kernel) (Or.inl ⟨rfl, dm_mem (ws := [.static yJ9_min_f86c9]) [620] (by decide +kernel) (by decide +kernel) _ List.mem_cons_self⟩), fun _ h => absurd h List.not_mem_nil⟩⟩⟩⟩)) v_X4_goOn u_X4_goOn
