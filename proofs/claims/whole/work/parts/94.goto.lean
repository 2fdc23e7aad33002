/-! ===== the reference: goTo ===== -/
def go_fr (u u' : dm_S) : Prop := u'.1 = u.1 ∧ ∀ c, c ∉ [17, 18] → u'.2 c = u.2 c
theorem go_fr0 (u : dm_S) : go_fr u u := ⟨rfl, fun _ _ => rfl⟩
theorem go_frt {u u' u'' : dm_S} (h : go_fr u u') (h2 : go_fr u' u'') : go_fr u u'' := ⟨h2.1.trans h.1, fun c a => (h2.2 c a).trans (h.2 c a)⟩
theorem go_l {u : dm_S} {c j : Nat} {x : Int64} (h : c ∈ [17, 18]) : go_fr u (dm_ul u c j x) := by
  refine ⟨rfl, fun k hk => ?_⟩
  have y : k ≠ c := fun y => hk (by rw [y]; exact h)
  rw [dm_ul_2, if_neg y]
theorem go_mn {u u' : dm_S} (h : go_fr u u') : mn_fr u u' := by
  refine ⟨⟨by rw [h.1], by rw [h.1]⟩, fun c hc => by rw [h.1], fun c hc => h.2 c ?_⟩
  intro z; revert hc z; revert c; decide
theorem vj_n {u : dm_S} {n v : Nat} {via : Nat → Option Nat} (h : vj u n via) (hv : v < n) (hq : via v = none) : u.1 20 v = -1 := by
  have := h v hv
  rw [hq] at this
  exact this
theorem vj_s {u : dm_S} {n v w : Nat} {via : Nat → Option Nat} (h : vj u n via) (hv : v < n) (hq : via v = some w) : u.1 20 v = nI w := by
  have := h v hv
  rw [hq] at this
  exact this
theorem nI_nm1 {w : Nat} (h : w < 2147483648) : ¬ nI w = -1 := fun z => absurd (z ▸ nI_pos (n := w) (by omega)) (by decide)
/-- the cells of a way -/
theorem PL_b {u : dm_S} {A : AN} {c lo : Nat → Int} (h : PL u A c lo A.K) {w : Nat} (hw : w < 2 * A.K) : (if w % 2 = 0 then u.1 12 (w / 2) else u.1 13 (w / 2)) = nI (wb A.b A.e w) := by
  obtain ⟨⟨a1, a2, a3⟩, -⟩ := h.2 (w / 2) (by omega)
  unfold wb
  split
  · exact a1
  · exact a2
theorem PL_m {u : dm_S} {A : AN} {c lo : Nat → Int} (h : PL u A c lo A.K) {w : Nat} (hw : w < 2 * A.K) : (if w % 2 = 0 then u.2 15 (w / 2) - u.2 17 (w / 2) else u.2 17 (w / 2)) = lI (wm (A.w 1000000000000) lo w) := by
  obtain ⟨-, a1, a2, a3⟩ := h.2 (w / 2) (by omega)
  unfold wm
  split
  · rw [a1, a3, lI_sub]
  · exact a3
theorem PL_17 {u : dm_S} {A : AN} {c lo : Nat → Int} {L l : Nat} {z : Int} (h : PL u A c lo L) : PL (dm_ul u 17 l (lI z)) A c (uI lo l z) L := by
  refine ⟨h.1, fun i hi => ?_⟩
  obtain ⟨a0, a1, a2, a3⟩ := h.2 i hi
  refine ⟨a0, by rw [dm_ul_2, if_neg (by decide)]; exact a1, by rw [dm_ul_2, if_neg (by decide)]; exact a2, ?_⟩
  rw [dm_ul_2, if_pos rfl]
  unfold vp_updL uI
  by_cases y : i = l
  · rw [if_pos y, if_pos y]
  · rw [if_neg y, if_neg y]; exact a3
theorem PL_18 {u : dm_S} {A : AN} {c lo : Nat → Int} {L j : Nat} {x : Int64} (h : PL u A c lo L) : PL (dm_ul u 18 j x) A c lo L := by
  refine ⟨h.1, fun i hi => ?_⟩
  obtain ⟨a0, a1, a2, a3⟩ := h.2 i hi
  exact ⟨a0, by rw [dm_ul_2, if_neg (by decide)]; exact a1, by rw [dm_ul_2, if_neg (by decide)]; exact a2, by rw [dm_ul_2, if_neg (by decide)]; exact a3⟩
def sp_X11_goTo (As : List Value) (u : dm_S) (Q : Option Value → dm_S → Prop) : Prop := match As with
  | [.ref 0, .int x] => ∃ (A : AN) (c lo ex : Nat → Int) (via : Nat → Option Nat) (rk : Nat → Nat) (t k : Nat), A.ok ∧ PL u A c lo A.K ∧ OV u A.n ex ∧ vj u A.n via ∧ tre A.n A.K A.b A.e via rk ∧ fits A.K (A.w 1000000000000) lo ∧ (∀ v, v < A.n → lB (ex v) ∧ lB (-ex v)) ∧ (t < A.n ∧ x = nI t ∧ rk t ≤ k) ∧ (∀ v w, v < A.n → via v = some w → 0 < wm (A.w 1000000000000) lo w) ∧ (ex t < 0 ∧ 0 < ex (rot A.b A.e via k t)) ∧ ∀ (u' : dm_S) (a : Int), go_fr u u' → 0 < a → a ≤ -ex t → a ≤ ex (rot A.b A.e via k t) → al A.b A.e via (fun w => a ≤ wm (A.w 1000000000000) lo w) k t → PL u' A c (snd A.b A.e via k t a lo) A.K → OV u' A.n (sdE A.b A.e via k t a ex) → Q none u'
  | _ => False
def p_X11_goTo : List dm_I := [(0, .aload_n 0, 1, [0]), (1, .getfield 62, 3, []), (4, .iload_n 1, 1, [1]), (5, .laload, 1, []), (6, .lneg, 1, []), (7, .lstore_n 2, 1, [2]), (8, .iload_n 1, 1, [1]), (9, .istore 4, 2, []), (11, .aload_n 0, 1, [0]), (12, .getfield 68, 3, []), (15, .iload 4, 2, []), (17, .iaload, 1, []), (18, .iconst (-1), 1, []), (19, .if_icmp .eq 62, 3, [81]), (22, .aload_n 0, 1, [0]), (23, .getfield 68, 3, []), (26, .iload 4, 2, []), (28, .iaload, 1, []), (29, .istore 5, 2, []), (31, .lload_n 2, 1, [2]), (32, .aload_n 0, 1, [0]), (33, .iload 5, 2, []), (35, .iconst 2, 1, []), (36, .idiv, 1, []), (37, .iload 5, 2, []), (39, .iconst 2, 1, []), (40, .irem, 1, []), (41, .ifCond .ne 7, 3, [48]), (44, .iconst 1, 1, []), (45, .goto 4, 3, [49]), (48, .iconst 0, 1, []), (49, .invokevirtual 161, 3, []), (52, .invokestatic 165, 3, []), (55, .lstore_n 2, 1, [2]), (56, .aload_n 0, 1, [0]), (57, .iload 5, 2, []), (59, .iconst 2, 1, []), (60, .idiv, 1, []), (61, .iload 5, 2, []), (63, .iconst 2, 1, []), (64, .irem, 1, []), (65, .ifCond .ne 7, 3, [72]), (68, .iconst 1, 1, []), (69, .goto 4, 3, [73]), (72, .iconst 0, 1, []), (73, .invokevirtual 154, 3, []), (76, .istore 4, 2, []), (78, .goto (-67), 3, [11]), (81, .lload_n 2, 1, [2]), (82, .aload_n 0, 1, [0]), (83, .getfield 62, 3, []), (86, .iload 4, 2, []), (88, .laload, 1, []), (89, .invokestatic 165, 3, []), (92, .lstore_n 2, 1, [2]), (93, .aload_n 0, 1, [0]), (94, .getfield 62, 3, []), (97, .iload 4, 2, []), (99, .dup2, 1, []), (100, .laload, 1, []), (101, .lload_n 2, 1, [2]), (102, .lsub, 1, []), (103, .lastore, 1, []), (104, .aload_n 0, 1, [0]), (105, .getfield 62, 3, []), (108, .iload_n 1, 1, [1]), (109, .dup2, 1, []), (110, .laload, 1, []), (111, .lload_n 2, 1, [2]), (112, .ladd, 1, []), (113, .lastore, 1, []), (114, .iload_n 1, 1, [1]), (115, .istore 4, 2, []), (117, .aload_n 0, 1, [0]), (118, .getfield 68, 3, []), (121, .iload 4, 2, []), (123, .iaload, 1, []), (124, .iconst (-1), 1, []), (125, .if_icmp .eq 62, 3, [187]), (128, .aload_n 0, 1, [0]), (129, .getfield 68, 3, []), (132, .iload 4, 2, []), (134, .iaload, 1, []), (135, .istore 5, 2, []), (137, .aload_n 0, 1, [0]), (138, .getfield 59, 3, []), (141, .iload 5, 2, []), (143, .iconst 2, 1, []), (144, .idiv, 1, []), (145, .dup2, 1, []), (146, .laload, 1, []), (147, .iload 5, 2, []), (149, .iconst 2, 1, []), (150, .irem, 1, []), (151, .ifCond .ne 7, 3, [158]), (154, .lload_n 2, 1, [2]), (155, .goto 5, 3, [160]), (158, .lload_n 2, 1, [2]), (159, .lneg, 1, []), (160, .ladd, 1, []), (161, .lastore, 1, []), (162, .aload_n 0, 1, [0]), (163, .iload 5, 2, []), (165, .iconst 2, 1, []), (166, .idiv, 1, []), (167, .iload 5, 2, []), (169, .iconst 2, 1, []), (170, .irem, 1, []), (171, .ifCond .ne 7, 3, [178]), (174, .iconst 1, 1, []), (175, .goto 4, 3, [179]), (178, .iconst 0, 1, []), (179, .invokevirtual 154, 3, []), (182, .istore 4, 2, []), (184, .goto (-67), 3, [117]), (187, .return_, 1, [])]
set_option maxRecDepth 100000 in
theorem v_X11_goTo : p_X11_goTo.all (dm_vb cX11_goTo) = true := by decide +kernel
def k_X11_goTo : dm_Sp := fun a => match a with
  | 0 => sp_X11_room
  | 1 => sp_X11_lesser
  | 2 => sp_X11_tail
  | _ => fun _ _ _ => False
def x_X11_goTo : dm_X := dm_mk [(59, 11, 23), (62, 11, 24), (68, 11, 26)] [] [] [(161, 0, 2, 11), (165, 1, 2, 1000), (154, 2, 2, 11)] 0
set_option maxRecDepth 100000 in
set_option maxHeartbeats 1600000 in
theorem u_X11_goTo : dm_Pure shM x_X11_goTo k_X11_goTo p_X11_goTo 6 sp_X11_goTo := by
  intro As u Qp h
  unfold sp_X11_goTo at h
  split at h
  · obtain ⟨A, c, lo, ex, via, rk, t, k0, hA, hP, hO, hv, ht, hl, hE, ⟨tn, rfl, hk0⟩, hR, ⟨ht0, hr0⟩, h⟩ := h
    obtain ⟨hn, hM⟩ := hA.1
    have hK := A.K_le hA
    have hwm : ∀ w, w < 2 * A.K → lB (wm (A.w 1000000000000) lo w) := fun w hw => by
      have q1 := hl (w / 2) (by omega)
      have q2 := A.w_bd hA (B := 1000000000000) (by decide) (show w / 2 < A.K by omega)
      unfold lB wm
      split <;> omega
    refine ⟨Nat.le_of_ble_eq_true rfl, fun G Wp hW0 hW1 hG => ?_⟩
    have loop2 : ∀ (k v : Nat) (a : Int) (u' : dm_S) (x : Nat → Int) (o5 : Option Value), v < A.n → rk v ≤ k → go_fr u u' → PL u' A c x A.K → OV u' A.n (sdE A.b A.e via k0 t a ex) → (∀ u'' : dm_S, go_fr u u'' → PL u'' A c (snd A.b A.e via k v a x) A.K → OV u'' A.n (sdE A.b A.e via k0 t a ex) → Qp none u'') → G 117 [some (.ref 0), some (.int (nI t)), some (.long (lI a)), none, some (.int (nI v)), o5] [] u' := by
      have fin : ∀ (k v : Nat) (a : Int) (u' : dm_S) (x : Nat → Int) (o5 : Option Value), v < A.n → go_fr u u' → PL u' A c x A.K → OV u' A.n (sdE A.b A.e via k0 t a ex) → via v = none → (∀ u'' : dm_S, go_fr u u'' → PL u'' A c (snd A.b A.e via k v a x) A.K → OV u'' A.n (sdE A.b A.e via k0 t a ex) → Qp none u'') → G 117 [some (.ref 0), some (.int (nI t)), some (.long (lI a)), none, some (.int (nI v)), o5] [] u' := by
        intro k v a u' x o5 hvn a1 a2 a3 hq hx
        rw [snd_n hq] at hx
        have cv : (nI v).toNatClampNeg = v := nI_clamp (by omega)
        have iv : vp_in (nI v) 26 := vp_in_nI (by omega) (by omega)
        apply hG (fun pc => pc == 117) 80
        simp (config := { maxSteps := 2000000 }) [-Prod.forall, -Prod.exists, -exists_and_left, -exists_and_right, hW0, hW1, dm_fn, dm_fd, dm_x, dm_L0, dm_la, dm_t1, dm_sw, List.headD, dm_ic, dm_mk, dm_s1, dm_s2, dm_clr, dm_cs, dm_cc, dm_nb0, dm_nb1, Value.category, List.lookup, p_X11_goTo, x_X11_goTo, k_X11_goTo, dm_cm, upd, vp_updL, dm_ui_1, dm_ui_2, dm_ul_1, dm_ul_2, sp_X11_room, sp_X11_lesser, sp_X11_tail, sM_0, sM_1, sM_2, sM_3, sM_4, sM_5, sM_6, sM_7, sM_8, sM_9, sM_10, sM_11, sM_12, sM_13, sM_14, sM_15, sM_16, sM_17, sM_18, sM_19, sM_20, sM_21, sM_22, sM_23, sM_24, sM_25, sM_26, sM_27, sM_28, sM_29]
        rw [cv, a1.1, vj_n hv hvn hq]
        simp only [iv, true_and]
        exact ⟨fun _ => hx u' a1 a2 a3, fun z => absurd (by trivial) z⟩
      intro k
      induction k with
      | zero =>
        intro v a u' x o5 hvn hk a1 a2 a3 hx
        have hq : via v = none := by
          cases hq : via v with
          | none => rfl
          | some w => have := (ht v w hvn hq).2.2.2; omega
        exact fin 0 v a u' x o5 hvn a1 a2 a3 hq hx
      | succ k ih =>
        intro v a u' x o5 hvn hk a1 a2 a3 hx
        cases hq : via v with
        | none => exact fin (k + 1) v a u' x o5 hvn a1 a2 a3 hq hx
        | some w =>
          obtain ⟨w1, w2, w3, w4⟩ := ht v w hvn hq
          rw [snd_s hq] at hx
          have cv : (nI v).toNatClampNeg = v := nI_clamp (by omega)
          have iv : vp_in (nI v) 26 := vp_in_nI (by omega) (by omega)
          have ed2 : nI w / 2 = nI (w / 2) := nI_d2 (by omega)
          have cd2 : (nI (w / 2)).toNatClampNeg = w / 2 := nI_clamp (by omega)
          have iw : vp_in (nI (w / 2)) 400 := vp_in_nI (by omega) (by omega)
          have ev20 : u'.1 20 v = nI w := by rw [a1.1]; exact vj_s hv hvn hq
          have nm := nI_nm1 (show w < 2147483648 by omega)
          have hb := PL_b a2 w1
          have p6 := (a2.2 (w / 2) (by omega)).2.2.2
          have go : ∀ z : Int64, z = lI (x (w / 2) + sg w * a) → ∀ o5, G 117 [some (.ref 0), some (.int (nI t)), some (.long (lI a)), none, some (.int (nI (wb A.b A.e w))), o5] [] (dm_ul u' 17 (w / 2) z) := fun z hz o5 => by
            rw [hz]
            refine ih (wb A.b A.e w) a _ _ _ w3 (by omega) (go_frt a1 (go_l (by decide))) (PL_17 a2) (fun v hv => ?_) hx
            rw [dm_ul_2, if_neg (by decide)]
            exact a3 v hv
          by_cases ev : w % 2 = 0
          · have em := nI_m0 ev
            rw [if_pos ev] at hb
            have es : x (w / 2) + a = x (w / 2) + sg w * a := by unfold sg; rw [if_pos ev, Int.one_mul]
            apply hG (fun pc => pc == 117) 80
            simp (config := { maxSteps := 2000000 }) [-Prod.forall, -Prod.exists, -exists_and_left, -exists_and_right, hW0, hW1, dm_fn, dm_fd, dm_x, dm_L0, dm_la, dm_t1, dm_sw, List.headD, dm_ic, dm_mk, dm_s1, dm_s2, dm_clr, dm_cs, dm_cc, dm_nb0, dm_nb1, Value.category, List.lookup, p_X11_goTo, x_X11_goTo, k_X11_goTo, dm_cm, upd, vp_updL, dm_ui_1, dm_ui_2, dm_ul_1, dm_ul_2, sp_X11_room, sp_X11_lesser, sp_X11_tail, sM_0, sM_1, sM_2, sM_3, sM_4, sM_5, sM_6, sM_7, sM_8, sM_9, sM_10, sM_11, sM_12, sM_13, sM_14, sM_15, sM_16, sM_17, sM_18, sM_19, sM_20, sM_21, sM_22, sM_23, sM_24, sM_25, sM_26, sM_27, sM_28, sM_29]
            simp only [cv, ev20, ed2, em, cd2, iv, iw, nm, hb, p6, lI_add, es, true_and, not_true_eq_false, not_false_eq_true, false_implies, true_implies, and_true]
            first | exact go _ rfl _ | exact ⟨by decide, go _ rfl _⟩
          · have em := nI_m1 ev
            rw [if_neg ev] at hb
            have es : x (w / 2) + -a = x (w / 2) + sg w * a := by unfold sg; rw [if_neg ev]; omega
            apply hG (fun pc => pc == 117) 80
            simp (config := { maxSteps := 2000000 }) [-Prod.forall, -Prod.exists, -exists_and_left, -exists_and_right, hW0, hW1, dm_fn, dm_fd, dm_x, dm_L0, dm_la, dm_t1, dm_sw, List.headD, dm_ic, dm_mk, dm_s1, dm_s2, dm_clr, dm_cs, dm_cc, dm_nb0, dm_nb1, Value.category, List.lookup, p_X11_goTo, x_X11_goTo, k_X11_goTo, dm_cm, upd, vp_updL, dm_ui_1, dm_ui_2, dm_ul_1, dm_ul_2, sp_X11_room, sp_X11_lesser, sp_X11_tail, sM_0, sM_1, sM_2, sM_3, sM_4, sM_5, sM_6, sM_7, sM_8, sM_9, sM_10, sM_11, sM_12, sM_13, sM_14, sM_15, sM_16, sM_17, sM_18, sM_19, sM_20, sM_21, sM_22, sM_23, sM_24, sM_25, sM_26, sM_27, sM_28, sM_29]
            simp only [cv, ev20, ed2, em, cd2, iv, iw, nm, hb, p6, lI_neg, lI_add, es, true_and, not_true_eq_false, not_false_eq_true, false_implies, true_implies, and_true]
            first | exact go _ rfl _ | exact ⟨by decide, go _ rfl _⟩
    have loop1 : ∀ (k v : Nat) (r : Int) (o5 : Option Value), v < A.n → rk v ≤ k → lB r → (∀ o5 : Option Value, lB (gm A.b A.e via (wm (A.w 1000000000000) lo) k v r) → G 81 [some (.ref 0), some (.int (nI t)), some (.long (lI (gm A.b A.e via (wm (A.w 1000000000000) lo) k v r))), none, some (.int (nI (rot A.b A.e via k v))), o5] [] u) → G 11 [some (.ref 0), some (.int (nI t)), some (.long (lI r)), none, some (.int (nI v)), o5] [] u := by
      have fin : ∀ (k v : Nat) (r : Int) (o5 : Option Value), v < A.n → lB r → via v = none → (∀ o5 : Option Value, lB (gm A.b A.e via (wm (A.w 1000000000000) lo) k v r) → G 81 [some (.ref 0), some (.int (nI t)), some (.long (lI (gm A.b A.e via (wm (A.w 1000000000000) lo) k v r))), none, some (.int (nI (rot A.b A.e via k v))), o5] [] u) → G 11 [some (.ref 0), some (.int (nI t)), some (.long (lI r)), none, some (.int (nI v)), o5] [] u := by
        intro k v r o5 hvn hr hq hx
        rw [gm_n hq, rot_n hq] at hx
        have cv : (nI v).toNatClampNeg = v := nI_clamp (by omega)
        have iv : vp_in (nI v) 26 := vp_in_nI (by omega) (by omega)
        apply hG (fun pc => pc == 11 || pc == 81) 80
        simp (config := { maxSteps := 2000000 }) [-Prod.forall, -Prod.exists, -exists_and_left, -exists_and_right, hW0, hW1, dm_fn, dm_fd, dm_x, dm_L0, dm_la, dm_t1, dm_sw, List.headD, dm_ic, dm_mk, dm_s1, dm_s2, dm_clr, dm_cs, dm_cc, dm_nb0, dm_nb1, Value.category, List.lookup, p_X11_goTo, x_X11_goTo, k_X11_goTo, dm_cm, upd, vp_updL, dm_ui_1, dm_ui_2, dm_ul_1, dm_ul_2, sp_X11_room, sp_X11_lesser, sp_X11_tail, sM_0, sM_1, sM_2, sM_3, sM_4, sM_5, sM_6, sM_7, sM_8, sM_9, sM_10, sM_11, sM_12, sM_13, sM_14, sM_15, sM_16, sM_17, sM_18, sM_19, sM_20, sM_21, sM_22, sM_23, sM_24, sM_25, sM_26, sM_27, sM_28, sM_29]
        rw [cv, vj_n hv hvn hq]
        simp only [iv, true_and]
        exact ⟨fun _ => hx _ hr, fun z => absurd (by trivial) z⟩
      intro k
      induction k with
      | zero =>
        intro v r o5 hvn hk hr hx
        have hq : via v = none := by
          cases hq : via v with
          | none => rfl
          | some w => have := (ht v w hvn hq).2.2.2; omega
        exact fin 0 v r o5 hvn hr hq hx
      | succ k ih =>
        intro v r o5 hvn hk hr hx
        cases hq : via v with
        | none => exact fin (k + 1) v r o5 hvn hr hq hx
        | some w =>
          obtain ⟨w1, w2, w3, w4⟩ := ht v w hvn hq
          rw [gm_s hq, rot_s hq] at hx
          have cv : (nI v).toNatClampNeg = v := nI_clamp (by omega)
          have iv : vp_in (nI v) 26 := vp_in_nI (by omega) (by omega)
          have ed2 : nI w / 2 = nI (w / 2) := nI_d2 (by omega)
          have cd2 : (nI (w / 2)).toNatClampNeg = w / 2 := nI_clamp (by omega)
          have iw : vp_in (nI (w / 2)) 400 := vp_in_nI (by omega) (by omega)
          have ev20 : u.1 20 v = nI w := vj_s hv hvn hq
          have nm := nI_nm1 (show w < 2147483648 by omega)
          have hb := PL_b hP w1
          have hm := PL_m hP w1
          have go : ∀ z : Int64, z = (if lI r < lI (wm (A.w 1000000000000) lo w) then lI r else lI (wm (A.w 1000000000000) lo w)) → ∀ o5, G 11 [some (.ref 0), some (.int (nI t)), some (.long z), none, some (.int (nI (wb A.b A.e w))), o5] [] u := fun z hz o5 => by
            have e : z = lI (if r < wm (A.w 1000000000000) lo w then r else wm (A.w 1000000000000) lo w) := by
              rw [hz]
              by_cases y : r < wm (A.w 1000000000000) lo w
              · rw [if_pos y, if_pos ((lI_lt hr (hwm w w1)).mpr y)]
              · rw [if_neg y, if_neg (fun q => y ((lI_lt hr (hwm w w1)).mp q))]
            rw [e]
            refine ih _ _ _ w3 (by omega) ?_ hx
            have := hwm w w1
            unfold lB at hr this ⊢
            split <;> omega
          by_cases ev : w % 2 = 0
          · have em := nI_m0 ev
            rw [if_pos ev] at hb hm
            apply hG (fun pc => pc == 11 || pc == 81) 80
            simp (config := { maxSteps := 2000000 }) [-Prod.forall, -Prod.exists, -exists_and_left, -exists_and_right, hW0, hW1, dm_fn, dm_fd, dm_x, dm_L0, dm_la, dm_t1, dm_sw, List.headD, dm_ic, dm_mk, dm_s1, dm_s2, dm_clr, dm_cs, dm_cc, dm_nb0, dm_nb1, Value.category, List.lookup, p_X11_goTo, x_X11_goTo, k_X11_goTo, dm_cm, upd, vp_updL, dm_ui_1, dm_ui_2, dm_ul_1, dm_ul_2, sp_X11_room, sp_X11_lesser, sp_X11_tail, sM_0, sM_1, sM_2, sM_3, sM_4, sM_5, sM_6, sM_7, sM_8, sM_9, sM_10, sM_11, sM_12, sM_13, sM_14, sM_15, sM_16, sM_17, sM_18, sM_19, sM_20, sM_21, sM_22, sM_23, sM_24, sM_25, sM_26, sM_27, sM_28, sM_29]
            simp only [cv, ev20, ed2, em, cd2, iv, iw, nm, hb, hm, true_and, not_true_eq_false, not_false_eq_true, false_implies, true_implies, and_true]
            first | exact go _ rfl _ | exact ⟨by decide, go _ rfl _⟩
          · have em := nI_m1 ev
            rw [if_neg ev] at hb hm
            apply hG (fun pc => pc == 11 || pc == 81) 80
            simp (config := { maxSteps := 2000000 }) [-Prod.forall, -Prod.exists, -exists_and_left, -exists_and_right, hW0, hW1, dm_fn, dm_fd, dm_x, dm_L0, dm_la, dm_t1, dm_sw, List.headD, dm_ic, dm_mk, dm_s1, dm_s2, dm_clr, dm_cs, dm_cc, dm_nb0, dm_nb1, Value.category, List.lookup, p_X11_goTo, x_X11_goTo, k_X11_goTo, dm_cm, upd, vp_updL, dm_ui_1, dm_ui_2, dm_ul_1, dm_ul_2, sp_X11_room, sp_X11_lesser, sp_X11_tail, sM_0, sM_1, sM_2, sM_3, sM_4, sM_5, sM_6, sM_7, sM_8, sM_9, sM_10, sM_11, sM_12, sM_13, sM_14, sM_15, sM_16, sM_17, sM_18, sM_19, sM_20, sM_21, sM_22, sM_23, sM_24, sM_25, sM_26, sM_27, sM_28, sM_29]
            simp only [cv, ev20, ed2, em, cd2, iv, iw, nm, hb, hm, true_and, not_true_eq_false, not_false_eq_true, false_implies, true_implies, and_true]
            first | exact go _ rfl _ | exact ⟨by decide, go _ rfl _⟩
    have ctt : (nI t).toNatClampNeg = t := nI_clamp (by omega)
    have itt : vp_in (nI t) 26 := vp_in_nI (by omega) (by omega)
    apply hG (fun pc => pc == 11) 80
    simp (config := { maxSteps := 2000000 }) [-Prod.forall, -Prod.exists, -exists_and_left, -exists_and_right, hW0, hW1, dm_fn, dm_fd, dm_x, dm_L0, dm_la, dm_t1, dm_sw, List.headD, dm_ic, dm_mk, dm_s1, dm_s2, dm_clr, dm_cs, dm_cc, dm_nb0, dm_nb1, Value.category, List.lookup, p_X11_goTo, x_X11_goTo, k_X11_goTo, dm_cm, upd, vp_updL, dm_ui_1, dm_ui_2, dm_ul_1, dm_ul_2, sp_X11_room, sp_X11_lesser, sp_X11_tail, sM_0, sM_1, sM_2, sM_3, sM_4, sM_5, sM_6, sM_7, sM_8, sM_9, sM_10, sM_11, sM_12, sM_13, sM_14, sM_15, sM_16, sM_17, sM_18, sM_19, sM_20, sM_21, sM_22, sM_23, sM_24, sM_25, sM_26, sM_27, sM_28, sM_29]
    rw [ctt, hO t tn, lI_neg]
    simp only [itt, true_and]
    refine loop1 k0 t (-ex t) _ tn hk0 (hE t tn).2 (fun o5 hgb => ?_)
    have hrt := (rot_n2 ht k0 t tn hk0).2
    have crt : (nI (rot A.b A.e via k0 t)).toNatClampNeg = rot A.b A.e via k0 t := nI_clamp (by omega)
    have irt : vp_in (nI (rot A.b A.e via k0 t)) 26 := vp_in_nI (by omega) (by omega)
    have hne : rot A.b A.e via k0 t ≠ t := fun z => by rw [z] at hr0; omega
    apply hG (fun pc => pc == 117) 80
    simp (config := { maxSteps := 2000000 }) [-Prod.forall, -Prod.exists, -exists_and_left, -exists_and_right, hW0, hW1, dm_fn, dm_fd, dm_x, dm_L0, dm_la, dm_t1, dm_sw, List.headD, dm_ic, dm_mk, dm_s1, dm_s2, dm_clr, dm_cs, dm_cc, dm_nb0, dm_nb1, Value.category, List.lookup, p_X11_goTo, x_X11_goTo, k_X11_goTo, dm_cm, upd, vp_updL, dm_ui_1, dm_ui_2, dm_ul_1, dm_ul_2, sp_X11_room, sp_X11_lesser, sp_X11_tail, sM_0, sM_1, sM_2, sM_3, sM_4, sM_5, sM_6, sM_7, sM_8, sM_9, sM_10, sM_11, sM_12, sM_13, sM_14, sM_15, sM_16, sM_17, sM_18, sM_19, sM_20, sM_21, sM_22, sM_23, sM_24, sM_25, sM_26, sM_27, sM_28, sM_29]
    have hg := gm_le (b := A.b) (e := A.e) (via := via) (R := wm (A.w 1000000000000) lo) (k := k0) (v := t) (r := -ex t)
    have hgp := gm_pos (K := A.K) (rk := rk) (k := k0) ht hR (v := t) (r := -ex t) tn (by omega)
    obtain ⟨a, ha⟩ : ∃ a, a = (if gm A.b A.e via (wm (A.w 1000000000000) lo) k0 t (-ex t) < ex (rot A.b A.e via k0 t) then gm A.b A.e via (wm (A.w 1000000000000) lo) k0 t (-ex t) else ex (rot A.b A.e via k0 t)) := ⟨_, rfl⟩
    have ea : (if lI (gm A.b A.e via (wm (A.w 1000000000000) lo) k0 t (-ex t)) < lI (ex (rot A.b A.e via k0 t)) then lI (gm A.b A.e via (wm (A.w 1000000000000) lo) k0 t (-ex t)) else lI (ex (rot A.b A.e via k0 t))) = lI a := by
      rw [ha]
      by_cases y : gm A.b A.e via (wm (A.w 1000000000000) lo) k0 t (-ex t) < ex (rot A.b A.e via k0 t)
      · rw [if_pos y, if_pos ((lI_lt hgb (hE _ hrt).1).mpr y)]
      · rw [if_neg y, if_neg (fun q => y ((lI_lt hgb (hE _ hrt).1).mp q))]
    have a0 : 0 < a := by rw [ha]; split <;> omega
    have a1 : a ≤ gm A.b A.e via (wm (A.w 1000000000000) lo) k0 t (-ex t) := by rw [ha]; split <;> omega
    have a2 : a ≤ ex (rot A.b A.e via k0 t) := by rw [ha]; split <;> omega
    have htr : ¬ t = rot A.b A.e via k0 t := fun z => hne z.symm
    simp only [crt, irt, ctt, itt, hO _ hrt, hO _ tn, true_and, ea, htr, if_false, lI_sub, lI_add]
    refine loop2 k0 t a _ lo _ tn hk0 (go_frt (go_l (by decide)) (go_l (by decide))) (PL_18 (PL_18 hP)) (fun v hv2 => ?_) (fun u2 b1 b2 b3 => h u2 a b1 a0 (by omega) a2 (gm_al a1) b2 b3)
    rw [dm_ul_2, if_pos rfl, dm_ul_2, if_pos rfl]
    show (if v = t then lI (ex t + a) else if v = rot A.b A.e via k0 t then lI (ex (rot A.b A.e via k0 t) - a) else u.2 18 v) = lI (ex v + (if t = v then a else 0) - (if rot A.b A.e via k0 t = v then a else 0))
    by_cases y : v = t
    · subst y
      rw [if_pos rfl, if_pos rfl, if_neg (show ¬ rot A.b A.e via k0 v = v from hne)]
      congr 1
      omega
    · rw [if_neg y, if_neg (show ¬ t = v from fun z => y z.symm)]
      by_cases y2 : v = rot A.b A.e via k0 t
      · rw [if_pos y2, if_pos (show rot A.b A.e via k0 t = v from y2.symm), y2]
        congr 1
        omega
      · rw [if_neg y2, if_neg (show ¬ rot A.b A.e via k0 t = v from fun z => y2 z.symm), hO v hv2]
        congr 1
        omega
  · exact h.elim
set_option maxRecDepth 100000 in
theorem t_X11_goTo (l : Launch) (D : va_G) (cA : Nat → ClassId) (ad : Nat → Nat) : dm_Met l D dm_cl cA ad shM yX11_goTo (Cond.code yX11_goTo cX11_goTo 6 (dm_rt 0) :: dm_tt) ({ frames := 1, cells := 0, slots := 0, locals := 23 } : Room) sp_X11_goTo := dm_meth (own := RX11) (X := x_X11_goTo) (Sp := k_X11_goTo) (prog := p_X11_goTo) (by decide +kernel) rfl rfl (dm_FO_s ffX11 [(59, 11, 23), (62, 11, 24), (68, 11, 26)] rfl dm_hT (by decide +kernel)) (dm_IO_s ifX11 jfX11 [] [] rfl rfl dm_hT (by decide +kernel) (by decide +kernel)) soM (dm_MO_of (List.forall_mem_cons.mpr ⟨dm_M1_of (t_X11_room l D cA ad) dm_hT (dm_mem [1137, 77, 1134] (by decide +kernel) (by decide +kernel)) (by decide) (by decide +kernel) (Or.inr ⟨by decide, dm_mem [1136, 49] (by decide +kernel) (by decide +kernel), rfl⟩), List.forall_mem_cons.mpr ⟨dm_M1_of (t_X11_lesser l D cA ad) dm_hT (dm_mem [1144, 77, 1142] (by decide +kernel) (by decide +kernel)) (by decide) (by decide +kernel) (Or.inl ⟨rfl, dm_mem (ws := [.static yX11_lesser]) [1143] (by decide +kernel) (by decide +kernel) _ List.mem_cons_self⟩), List.forall_mem_cons.mpr ⟨dm_M1_of (t_X11_tail l D cA ad) dm_hT (dm_mem [1129, 77, 1126] (by decide +kernel) (by decide +kernel)) (by decide) (by decide +kernel) (Or.inr ⟨by decide, dm_mem [1128, 47] (by decide +kernel) (by decide +kernel), rfl⟩), fun _ h => absurd h List.not_mem_nil⟩⟩⟩)) v_X11_goTo u_X11_goTo
