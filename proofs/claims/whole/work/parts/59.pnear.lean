/-! ===== Paths.nearestInNeed ===== -/
theorem so_pj {u u' : dm_S} {n K : Nat} {b e hd sr : Nat → Nat} (h : so_ok u n K b e hd sr) (hf : pj_fr u u') : so_ok u' n K b e hd sr := so_eq h (hf.1 26 (by decide) (by decide)) (hf.1 27 (by decide) (by decide))
theorem cN_all {P : Nat → Bool} : ∀ {n : Nat}, cN P n = n → ∀ v, v < n → P v = true
  | 0, _, v, hv => absurd hv (Nat.not_lt_zero _)
  | n + 1, h, v, hv => by
    have h1 := cN_le (P := P) (n := n)
    rw [cN_s] at h
    by_cases e : P n = true
    · rw [if_pos e] at h
      rcases Nat.lt_or_ge v n with y | y
      · exact cN_all (n := n) (by omega) v y
      · rw [show v = n by omega]; exact e
    · rw [if_neg e] at h; omega
def sp_X4_nearestInNeed (As : List Value) (u : dm_S) (Q : Option Value → dm_S → Prop) : Prop := match As with
  | [.ref 6, .long d] => ∃ (n K : Nat) (b e : Nat → Nat) (c mm lo ex p : Nat → Int) (dl Rs : Int) (hd sr : Nat → Nat), LA u n K b e mm lo ex ∧ LB n K mm lo ex ∧ so_ok u n K b e hd sr ∧ u.2 23 = lF c ∧ u.2 36 = lF p ∧ d = lI dl ∧ lB dl ∧ djP n K b e c mm lo p dl Rs ∧ (∀ v, v < n → dl ≤ ex v → p v ≤ Rs) ∧
    (∀ (u' : dm_S) (vn : Nat → Option (Option Nat)) (D : Nat → Int) (h : Nat → Nat) (dn : Nat → Bool) (car : Nat → Int) (v : Nat), pj_fr u u' → dj_ok u' n vn D dn car → djI n K b e c mm lo ex p dl Rs vn D h dn car → djX n K b e c mm lo p dl vn D dn → (∀ y, y < n → dn y = true → -dl < ex y) → (∀ y, y < n → vn y ≠ none → lB (car y)) → v < n → vn v ≠ none → dn v = false → ex v ≤ -dl → (∀ x, x < n → dn x = false → D v ≤ D x) → Q (some (.int (nI v))) u') ∧
    ∀ (u' : dm_S) (S : Nat → Bool), pj_fr u u' → (∀ v, v < n → dl ≤ ex v → S v = true) → (∀ v, v < n → S v = true → -dl < ex v) → (∀ w, w < 2 * K → dl ≤ wm mm lo w → S (wb b e w) = true → S (we b e w) = true) → Q (some (.int (-1))) u'
  | _ => False
def p_X4_nearestInNeed : List dm_I := [(0, .aload_n 0, 1, [0]), (1, .lload_n 1, 1, [1]), (2, .invokevirtual 92, 3, []), (5, .iconst 0, 1, []), (6, .istore_n 3, 1, [3]), (7, .iload_n 3, 1, [3]), (8, .aload_n 0, 1, [0]), (9, .getfield 26, 3, []), (12, .getfield 95, 3, []), (15, .if_icmp .ge 55, 3, [70]), (18, .aload_n 0, 1, [0]), (19, .invokevirtual 100, 3, []), (22, .istore 4, 2, []), (24, .iload 4, 2, []), (26, .iconst (-1), 1, []), (27, .if_icmp .eq 19, 3, [46]), (30, .aload_n 0, 1, [0]), (31, .getfield 30, 3, []), (34, .getfield 79, 3, []), (37, .iload 4, 2, []), (39, .laload, 1, []), (40, .lload_n 1, 1, [1]), (41, .lneg, 1, []), (42, .lcmp, 1, []), (43, .ifCond .gt 6, 3, [49]), (46, .iload 4, 2, []), (48, .ireturn, 1, []), (49, .aload_n 0, 1, [0]), (50, .getfield 15, 3, []), (53, .iload 4, 2, []), (55, .iconst 1, 1, []), (56, .bastore, 1, []), (57, .aload_n 0, 1, [0]), (58, .iload 4, 2, []), (60, .lload_n 1, 1, [1]), (61, .invokevirtual 104, 3, []), (64, .iinc 3 1, 3, []), (67, .goto (-60), 3, [7]), (70, .iconst (-1), 1, []), (71, .ireturn, 1, [])]
set_option maxRecDepth 100000 in
theorem v_X4_nearestInNeed : p_X4_nearestInNeed.all (dm_vb cX4_nearestInNeed) = true := by decide +kernel
def k_X4_nearestInNeed : dm_Sp := fun a => match a with
  | 0 => sp_X4_markSources
  | 1 => sp_X4_nearestNotDone
  | 2 => sp_X4_goOn
  | _ => fun _ _ _ => False
def x_X4_nearestInNeed : dm_X := dm_mk [(15, 4, 4), (26, 4, 0), (30, 4, 1), (79, 1, 7), (95, 2, 8)] [] [] [(92, 0, 1, 4), (100, 1, 0, 4), (104, 2, 2, 4)] 1
set_option maxRecDepth 100000 in
set_option maxHeartbeats 1600000 in
theorem u_X4_nearestInNeed : dm_Pure shC x_X4_nearestInNeed k_X4_nearestInNeed p_X4_nearestInNeed 5 sp_X4_nearestInNeed := by
  intro As u Qp hh
  unfold sp_X4_nearestInNeed at hh
  split at hh
  · obtain ⟨n, K, b, e, c, mm, lo, ex, p, dl, Rs, hd, sr, hA, hB, hS, e23, e36, rfl, hdl, hP, hRs, hx, hy⟩ := hh
    obtain ⟨hn, hK, en, eK⟩ := hA.1.1
    have hnd := ln_nd hA.1
    have hBx : ∀ v, v < n → lB (ex v) := fun v hv => by have := hB.2.2 v hv; unfold lB; omega
    have hBd : lB (-dl) := by unfold lB at hdl ⊢; omega
    have hbw : ∀ w, w < 2 * K → wb b e w < n ∧ we b e w < n := by
      intro w hw
      obtain ⟨c1, c2⟩ := hnd (w / 2) (by omega)
      unfold wb we
      split
      · exact ⟨c1, c2⟩
      · exact ⟨c2, c1⟩
    refine ⟨Nat.le_of_ble_eq_true rfl, fun G Wp hW0 hW1 hG => ?_⟩
    have hend : ∀ (u' : dm_S) (vn : Nat → Option (Option Nat)) (D : Nat → Int) (h : Nat → Nat) (dn : Nat → Bool) (car : Nat → Int), pj_fr u u' → djI n K b e c mm lo ex p dl Rs vn D h dn car → djX n K b e c mm lo p dl vn D dn → (∀ y, y < n → dn y = true → -dl < ex y) → (∀ y, y < n → vn y ≠ none → dn y = true) → Qp (some (.int (-1))) u' := by
      intro u' vn D h dn car a1 a3 a4 a5 a6
      refine hy u' dn a1 (fun v hv hz => a6 v hv (by rw [a3.2.1 v hv hz]; simp)) a5 (fun w hw hm hs => ?_)
      obtain ⟨w1, w2⟩ := hbw w hw
      exact a6 _ w2 (a4 _ w1 hs w hw rfl hm).1
    have loop : ∀ k i : Nat, i + k = n → ∀ (u' : dm_S) (vn : Nat → Option (Option Nat)) (D : Nat → Int) (h : Nat → Nat) (dn : Nat → Bool) (car : Nat → Int) (o4 : Option Value), pj_fr u u' → dj_ok u' n vn D dn car → djI n K b e c mm lo ex p dl Rs vn D h dn car → djX n K b e c mm lo p dl vn D dn → (∀ y, y < n → dn y = true → -dl < ex y) → (∀ y, y < n → vn y ≠ none → lB (car y)) → cN dn n = i → G 7 [some (.ref 6), some (.long (lI dl)), none, some (.int (nI i)), o4] [] u' := by
      intro k
      induction k with
      | zero =>
        intro i hi u' vn D h dn car o4 a1 a2 a3 a4 a5 a6 a7
        have e0 : i = n := by omega
        subst e0
        apply hG (fun pc => pc == 7) 60
        simp (config := { maxSteps := 2000000 }) [-Prod.forall, -Prod.exists, -exists_and_left, -exists_and_right, hW0, hW1, dm_fn, dm_fd, dm_x, dm_L0, dm_la, dm_t1, dm_sw, List.headD, dm_ic, dm_mk, dm_s1, dm_s2, dm_clr, dm_cs, dm_cc, dm_nb0, dm_nb1, Value.category, List.lookup, p_X4_nearestInNeed, x_X4_nearestInNeed, k_X4_nearestInNeed, dm_cm, upd, vp_updL, dm_ui_1, dm_ui_2, dm_ul_1, dm_ul_2, sp_X4_markSources, sp_X4_nearestNotDone, sp_X4_goOn, sC_0, sC_1, sC_2, sC_3, sC_4, sC_5, sC_6, sC_7, sC_8, sC_9, sC_10, sC_11, sC_12, sC_13, sC_14, sC_15, sC_16, sC_17, sC_18, sC_19, sC_20, sC_21, sC_22, sC_23, sC_24, sC_25, sC_26, sC_27, sC_28, sC_29, sC_30, sC_31, sC_32, sC_33, sC_34, sC_35, sC_36, sC_37, sC_38, sC_39, sC_40, sC_41, sC_42, sC_43, sC_44, sC_45, sC_46, sC_47, sC_48, sC_49, sC_50, sC_51]
        rw [a1.1 1 (by decide) (by decide), en]
        exact ⟨fun _ => hend u' vn D h dn car a1 a3 a4 a5 (fun y hy _ => cN_all a7 y hy), fun zq => absurd zq (nI_nlt (Nat.le_refl _) (by omega))⟩
      | succ k ih =>
        intro i hi u' vn D h dn car o4 a1 a2 a3 a4 a5 a6 a7
        have hA' := LA_pj hA a1
        have hDB : ∀ v, v < n → lB (D v) ∧ (vn v = none ↔ ¬ D v < fAR) := by
          intro v hv
          by_cases q : vn v = none
          · have := a3.1 v hv
            unfold djN at this
            rw [q] at this
            rw [this.1]
            exact ⟨by unfold lB fAR; omega, fun _ => by omega, fun _ => q⟩
          · have := dj_far hn hP a3 hv q
            exact ⟨by unfold lB; omega, fun z => absurd z q, fun z => absurd (by unfold fAR; omega) z⟩
        apply hG (fun pc => pc == 7) 60
        simp (config := { maxSteps := 2000000 }) [-Prod.forall, -Prod.exists, -exists_and_left, -exists_and_right, hW0, hW1, dm_fn, dm_fd, dm_x, dm_L0, dm_la, dm_t1, dm_sw, List.headD, dm_ic, dm_mk, dm_s1, dm_s2, dm_clr, dm_cs, dm_cc, dm_nb0, dm_nb1, Value.category, List.lookup, p_X4_nearestInNeed, x_X4_nearestInNeed, k_X4_nearestInNeed, dm_cm, upd, vp_updL, dm_ui_1, dm_ui_2, dm_ul_1, dm_ul_2, sp_X4_markSources, sp_X4_nearestNotDone, sp_X4_goOn, sC_0, sC_1, sC_2, sC_3, sC_4, sC_5, sC_6, sC_7, sC_8, sC_9, sC_10, sC_11, sC_12, sC_13, sC_14, sC_15, sC_16, sC_17, sC_18, sC_19, sC_20, sC_21, sC_22, sC_23, sC_24, sC_25, sC_26, sC_27, sC_28, sC_29, sC_30, sC_31, sC_32, sC_33, sC_34, sC_35, sC_36, sC_37, sC_38, sC_39, sC_40, sC_41, sC_42, sC_43, sC_44, sC_45, sC_46, sC_47, sC_48, sC_49, sC_50, sC_51]
        rw [a1.1 1 (by decide) (by decide), en, a1.2 25 (by decide) (by decide), hA.2.2.2, lI_neg, nI_1]
        refine ⟨fun zq => absurd zq (nI_ge (by omega) (by omega)), fun zq => ⟨n, D, dn, hn, rfl, fun v hv => ⟨(a2 v hv).2.1, (hDB v hv).1, (a2 v hv).2.2.1⟩, fun q => ?_, fun v hv hd0 hf hmin => ?_⟩⟩
        · refine hend u' vn D h dn car a1 a3 a4 a5 (fun y hy hs => ?_)
          cases q2 : dn y
          · exact absurd ((hDB y hy).2.mpr (by have := q y hy q2; omega)) hs
          · rfl
        · have hs : vn v ≠ none := fun z => (hDB v hv).2.mp z hf
          have cv : (nI v).toNatClampNeg = v := nI_clamp (by omega)
          have iv : vp_in (nI v) 24 := vp_in_nI (by omega) (by omega)
          rw [cv, lF_at]
          refine ⟨fun z => absurd (z ▸ nI_pos (n := v) (by omega)) (by decide), fun _ => ⟨iv, fun z => ⟨iv, ?_⟩, fun z => hx u' vn D h dn car v a1 a2 a3 a4 a5 a6 hv hs hd0 ((lI_le (hBx v hv) hBd).mp z) hmin⟩⟩
          have z1 : -dl < ex v := (lI_lt hBd (hBx v hv)).mp z
          have hdI := dj_done a3 hv hs hd0 hmin
          have hpu : pj_fr u' (dm_ui u' 39 v 1) := ⟨fun c q1 q2 => by rw [dm_ui_1, if_neg q1], fun c q1 q2 => rfl⟩
          have hpf := pj_frt a1 hpu
          refine ⟨n, K, b, e, c, mm, lo, ex, p, dl, Rs, hd, sr, vn, D, h, uF dn v true, car, v, LA_pj hA' hpu, hB, so_pj hS hpf, (hpf.2 23 (by decide) (by decide)).trans e23, (hpf.2 36 (by decide) (by decide)).trans e36, rfl, hdl, hP, fun x hx => ?_, hdI, rfl, hv, uF_at, fun x hx hxd => ?_, a6, fun u2 vn2 D2 h2 car2 b1 b2 b3 b4 b5 b6 b7 => ?_⟩
          · obtain ⟨g1, g2, g3, g4⟩ := a2 x hx
            refine ⟨by rw [dm_ui_1, if_neg (by decide)]; exact g1, g2, ?_, g4⟩
            rw [dm_ui_1, if_pos rfl]
            by_cases q : x = v
            · rw [q, uF_at]
              unfold upd
              rw [if_pos rfl]; rfl
            · rw [uF_ne q]
              unfold upd
              rw [if_neg q]; exact g3
          · by_cases q : x = v
            · rw [q]; exact Int.le_refl _
            · rw [uF_ne q] at hxd
              exact a3.2.2.1 x v hx hv hxd hd0
          · refine ih (i + 1) (by omega) u2 vn2 D2 h2 (uF dn v true) car2 _ (pj_frt hpf b1) b2 b3 (fun x hx hxd w hw hwb hm => ?_) (fun x hx hxd => ?_) b6 (by rw [cN_upd hd0 hv, a7])
            · by_cases q : x = v
              · rw [q] at hwb ⊢
                rw [b4 v hv uF_at]
                exact b7 w hw hwb hm
              · rw [uF_ne q] at hxd
                obtain ⟨g1, g2⟩ := a4 x hx hxd w hw hwb hm
                have g3 := b5 _ (hbw w hw).2
                rw [b4 x hx (by rw [uF_ne q]; exact hxd)]
                exact ⟨g3.2 g1, by omega⟩
            · by_cases q : x = v
              · rw [q]; exact z1
              · rw [uF_ne q] at hxd
                exact a5 x hx hxd
    apply hG (fun pc => pc == 7) 60
    simp (config := { maxSteps := 2000000 }) [-Prod.forall, -Prod.exists, -exists_and_left, -exists_and_right, hW0, hW1, dm_fn, dm_fd, dm_x, dm_L0, dm_la, dm_t1, dm_sw, List.headD, dm_ic, dm_mk, dm_s1, dm_s2, dm_clr, dm_cs, dm_cc, dm_nb0, dm_nb1, Value.category, List.lookup, p_X4_nearestInNeed, x_X4_nearestInNeed, k_X4_nearestInNeed, dm_cm, upd, vp_updL, dm_ui_1, dm_ui_2, dm_ul_1, dm_ul_2, sp_X4_markSources, sp_X4_nearestNotDone, sp_X4_goOn, sC_0, sC_1, sC_2, sC_3, sC_4, sC_5, sC_6, sC_7, sC_8, sC_9, sC_10, sC_11, sC_12, sC_13, sC_14, sC_15, sC_16, sC_17, sC_18, sC_19, sC_20, sC_21, sC_22, sC_23, sC_24, sC_25, sC_26, sC_27, sC_28, sC_29, sC_30, sC_31, sC_32, sC_33, sC_34, sC_35, sC_36, sC_37, sC_38, sC_39, sC_40, sC_41, sC_42, sC_43, sC_44, sC_45, sC_46, sC_47, sC_48, sC_49, sC_50, sC_51]
    refine ⟨n, ex, dl, hn, en, hA.2.2.2, hBx, hdl, rfl, fun u' b1 b2 => ?_⟩
    refine loop n 0 (by omega) u' (ms_vn dl ex) (fun v => if dl ≤ ex v then 0 else fAR) (fun _ => 0) (fun _ => false) (fun v => if dl ≤ ex v then ex v else 0) _ b1 (fun v hv => ?_) ⟨fun v hv => ?_, fun v hv hz => ?_, fun _ _ _ _ z => (by cases z), fun v hv hs => ?_, fun _ _ z => (by cases z)⟩ (fun _ _ z => (by cases z)) (fun _ _ z => (by cases z)) (fun y hy hs => ?_) ?_
    · obtain ⟨q1, q2, q3, q4⟩ := b2 v hv
      exact ⟨q1, q2, by rw [q3]; rfl, fun _ => q4⟩
    · unfold djN ms_vn
      by_cases z : dl ≤ ex v
      · simp only [if_pos z]; exact ⟨z, trivial, trivial, trivial⟩
      · simp only [if_neg z]; exact ⟨trivial, trivial⟩
    · unfold ms_vn; rw [if_pos hz]
    · unfold ms_vn at hs
      by_cases z : dl ≤ ex v
      · simp only [if_pos z]
        exact ⟨z, Nat.zero_le _, 0, Int.le_refl _, rfl, by have := hRs v hv z; omega⟩
      · rw [if_neg z] at hs; exact absurd rfl hs
    · unfold ms_vn at hs
      by_cases z : dl ≤ ex y
      · simp only [if_pos z]; exact hBx y hy
      · rw [if_neg z] at hs; exact absurd rfl hs
    · have h3 : ∀ n, cN (fun _ => false) n = 0 := by
        intro n
        induction n with
        | zero => rfl
        | succ n ih => show cN (fun _ => false) n + _ = 0; rw [ih]; rfl
      exact h3 n
  · exact hh.elim
set_option maxRecDepth 100000 in
theorem t_X4_nearestInNeed (l : Launch) (D : va_G) (cA : Nat → ClassId) (ad : Nat → Nat) : dm_Met l D dm_cl cA ad shC yX4_nearestInNeed (Cond.code yX4_nearestInNeed cX4_nearestInNeed 5 (dm_rt 1) :: dm_tt) ({ frames := 2, cells := 0, slots := 0, locals := 55 } : Room) sp_X4_nearestInNeed := dm_meth (own := RX4) (X := x_X4_nearestInNeed) (Sp := k_X4_nearestInNeed) (prog := p_X4_nearestInNeed) (by decide +kernel) rfl rfl (dm_FO_s ffX4 [(15, 4, 4), (26, 4, 0), (30, 4, 1), (79, 1, 7), (95, 2, 8)] rfl dm_hT (by decide +kernel)) (dm_IO_s ifX4 jfX4 [] [] rfl rfl dm_hT (by decide +kernel) (by decide +kernel)) soC (dm_MO_of (List.forall_mem_cons.mpr ⟨dm_M1_of (t_X4_markSources l D cA ad) dm_hT (dm_mem [770, 72, 767] (by decide +kernel) (by decide +kernel)) (by decide) (by decide +kernel) (Or.inr ⟨by decide, dm_mem [769, 28] (by decide +kernel) (by decide +kernel), rfl⟩), List.forall_mem_cons.mpr ⟨dm_M1_of (t_X4_nearestNotDone l D cA ad) dm_hT (dm_mem [775, 72, 772] (by decide +kernel) (by decide +kernel)) (by decide) (by decide +kernel) (Or.inr ⟨by decide, dm_mem [774, 29] (by decide +kernel) (by decide +kernel), rfl⟩), List.forall_mem_cons.mpr ⟨dm_M1_of (t_X4_goOn l D cA ad) dm_hT (dm_mem [779, 72, 776] (by decide +kernel) (by decide +kernel)) (by decide) (by decide +kernel) (Or.inr ⟨by decide, dm_mem [778, 30] (by decide +kernel) (by decide +kernel), rfl⟩), fun _ h => absurd h List.not_mem_nil⟩⟩⟩)) v_X4_nearestInNeed u_X4_nearestInNeed
