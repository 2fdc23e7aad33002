/-! ===== the reference: walks, takeRing, findRing ===== -/
def wa_fr (u u' : dm_S) : Prop := u'.1 = u.1 ∧ ∀ c, c ≠ 29 → u'.2 c = u.2 c
theorem wa_fr0 (u : dm_S) : wa_fr u u := ⟨rfl, fun _ _ => rfl⟩
theorem wa_frt {u u' u'' : dm_S} (h : wa_fr u u') (h2 : wa_fr u' u'') : wa_fr u u'' := ⟨h2.1.trans h.1, fun c a => (h2.2 c a).trans (h.2 c a)⟩
theorem wa_29 {u : dm_S} {j : Nat} {x : Int64} : wa_fr u (dm_ul u 29 j x) := ⟨rfl, fun c hc => by rw [dm_ul_2, if_neg hc]⟩
theorem wa_mn {u u' : dm_S} (h : wa_fr u u') : mn_fr u u' := by
  refine ⟨⟨by rw [h.1], by rw [h.1]⟩, fun c hc => by rw [h.1], fun c hc => h.2 c ?_⟩
  intro z; subst z; revert hc; decide
/-- the rows of the table below L -/
def MW (u : dm_S) (A : AN) (r g L : Nat) : Prop := ∀ l, l < L → ∀ v, v < A.n → u.2 29 (25 * v + l) = lI (gw A r g l v)
theorem gw_b {A : AN} (hA : A.ok) (r g k v : Nat) : gw A r g k v = fAR ∨ (-(1000000 * k) ≤ gw A r g k v ∧ gw A r g k v ≤ 1000000 * k) := wk_b (AN.dFr hA) k v
theorem wkA_off {fr tr : Nat → Nat} {wt : Nat → Int} {on : Nat → Bool} {f : Nat → Int} {v : Nat} : ∀ {m : Nat}, (∀ a, a < m → on a = false) → wkA fr tr wt on f v m = fAR
  | 0, _ => rfl
  | m + 1, h => by
    rw [wkA_s, if_neg (fun z => by rw [h m (by omega)] at z; exact absurd z.1 (by decide))]
    exact wkA_off (fun a ha => h a (by omega))
theorem dm_25 {a q : Nat} : (25 : Int32) * nI a + nI q = nI (25 * a + q) := by rw [show (25 : Int32) = nI 25 from rfl, pk_mul, nI_add]
def sp_X11_walks (As : List Value) (u : dm_S) (Q : Option Value → dm_S → Prop) : Prop := match As with
  | [.ref 0, .int e, .int f, .int m] => ∃ (A : AN) (g r L : Nat), A.ok ∧ MR u A ∧ (g < A.n ∧ e = nI g) ∧ (r < A.M ∧ f = nI r) ∧ (L < 24 ∧ m = nI L) ∧ ∀ u' : dm_S, wa_fr u u' → MW u' A r g (L + 1) → Q none u'
  | _ => False
def p_X11_walks : List dm_I := [(0, .iconst 0, 1, []), (1, .istore 4, 2, []), (3, .iload 4, 2, []), (5, .iload_n 3, 1, [3]), (6, .if_icmp .gt 194, 3, [200]), (9, .iconst 0, 1, []), (10, .istore 5, 2, []), (12, .iload 5, 2, []), (14, .aload_n 0, 1, [0]), (15, .getfield 109, 3, []), (18, .if_icmp .ge 40, 3, [58]), (21, .aload_n 0, 1, [0]), (22, .getfield 96, 3, []), (25, .bipush 25, 2, []), (27, .iload 5, 2, []), (29, .imul, 1, []), (30, .iload 4, 2, []), (32, .iadd, 1, []), (33, .iload 4, 2, []), (35, .ifCond .ne 13, 3, [48]), (38, .iload 5, 2, []), (40, .iload_n 1, 1, [1]), (41, .if_icmp .ne 7, 3, [48]), (44, .lconst 0, 1, []), (45, .goto 6, 3, [51]), (48, .ldc2_w 152, 3, []), (51, .lastore, 1, []), (52, .iinc 5 1, 3, []), (55, .goto (-43), 3, [12]), (58, .iload_n 2, 1, [2]), (59, .iconst 1, 1, []), (60, .iadd, 1, []), (61, .istore 5, 2, []), (63, .iload 5, 2, []), (65, .aload_n 0, 1, [0]), (66, .getfield 123, 3, []), (69, .if_icmp .ge 125, 3, [194]), (72, .iload 4, 2, []), (74, .ifCond .le 120, 3, [194]), (77, .aload_n 0, 1, [0]), (78, .getfield 23, 3, []), (81, .iload 5, 2, []), (83, .laload, 1, []), (84, .ldc2_w 130, 3, []), (87, .lcmp, 1, []), (88, .ifCond .ne 100, 3, [188]), (91, .aload_n 0, 1, [0]), (92, .getfield 96, 3, []), (95, .bipush 25, 2, []), (97, .aload_n 0, 1, [0]), (98, .getfield 17, 3, []), (101, .iload 5, 2, []), (103, .iaload, 1, []), (104, .imul, 1, []), (105, .iload 4, 2, []), (107, .iadd, 1, []), (108, .iconst 1, 1, []), (109, .isub, 1, []), (110, .laload, 1, []), (111, .ldc2_w 152, 3, []), (114, .lcmp, 1, []), (115, .ifCond .ge 73, 3, [188]), (118, .aload_n 0, 1, [0]), (119, .getfield 96, 3, []), (122, .bipush 25, 2, []), (124, .aload_n 0, 1, [0]), (125, .getfield 17, 3, []), (128, .iload 5, 2, []), (130, .iaload, 1, []), (131, .imul, 1, []), (132, .iload 4, 2, []), (134, .iadd, 1, []), (135, .iconst 1, 1, []), (136, .isub, 1, []), (137, .laload, 1, []), (138, .aload_n 0, 1, [0]), (139, .iload 5, 2, []), (141, .invokevirtual 148, 3, []), (144, .ladd, 1, []), (145, .lstore 6, 2, []), (147, .aload_n 0, 1, [0]), (148, .getfield 96, 3, []), (151, .bipush 25, 2, []), (153, .aload_n 0, 1, [0]), (154, .getfield 13, 3, []), (157, .iload 5, 2, []), (159, .iaload, 1, []), (160, .imul, 1, []), (161, .iload 4, 2, []), (163, .iadd, 1, []), (164, .aload_n 0, 1, [0]), (165, .getfield 96, 3, []), (168, .bipush 25, 2, []), (170, .aload_n 0, 1, [0]), (171, .getfield 13, 3, []), (174, .iload 5, 2, []), (176, .iaload, 1, []), (177, .imul, 1, []), (178, .iload 4, 2, []), (180, .iadd, 1, []), (181, .laload, 1, []), (182, .lload 6, 2, []), (184, .invokestatic 165, 3, []), (187, .lastore, 1, []), (188, .iinc 5 1, 3, []), (191, .goto (-128), 3, [63]), (194, .iinc 4 1, 3, []), (197, .goto (-194), 3, [3]), (200, .return_, 1, [])]
set_option maxRecDepth 100000 in
theorem v_X11_walks : p_X11_walks.all (dm_vb cX11_walks) = true := by decide +kernel
def k_X11_walks : dm_Sp := fun a => match a with
  | 0 => sp_X11_lastCost
  | 1 => sp_X11_lesser
  | _ => fun _ _ _ => False
def x_X11_walks : dm_X := dm_mk [(13, 11, 3), (17, 11, 4), (23, 11, 6), (96, 11, 36), (109, 11, 0), (123, 11, 1)] [] [(130, -2), (152, 1152921504606846976)] [(148, 0, 1, 11), (165, 1, 2, 1000)] 0
set_option maxRecDepth 100000 in
set_option maxHeartbeats 1600000 in
theorem u_X11_walks : dm_Pure shM x_X11_walks k_X11_walks p_X11_walks 8 sp_X11_walks := by
  intro As u Qp h
  unfold sp_X11_walks at h
  split at h
  · obtain ⟨A, g, r, L, hA, hC, ⟨hg, rfl⟩, ⟨hr, rfl⟩, ⟨hL, rfl⟩, h⟩ := h
    obtain ⟨hn, hM⟩ := hA.1
    have hF : fAR = 1152921504606846976 := rfl
    have hFl : (1152921504606846976 : Int64) = lI fAR := rfl
    have hFb : lB fAR := by unfold lB; omega
    refine ⟨Nat.le_of_ble_eq_true rfl, fun G Wp hW0 hW1 hG => ?_⟩
    have rows : ∀ k l : Nat, l + k = L + 1 → ∀ (u' : dm_S) (o5 o6 : Option Value), wa_fr u u' → MW u' A r g l → G 3 [some (.ref 0), some (.int (nI g)), some (.int (nI r)), some (.int (nI L)), some (.int (nI l)), o5, o6, none] [] u' := by
      intro k
      induction k with
      | zero =>
        intro l hl u' o5 o6 a1 a2
        have e : l = L + 1 := by omega
        subst e
        apply hG (fun pc => pc == 3 || pc == 12) 60
        simp (config := { maxSteps := 2000000 }) [-Prod.forall, -Prod.exists, -exists_and_left, -exists_and_right, hW0, hW1, dm_fn, dm_fd, dm_x, dm_L0, dm_la, dm_t1, dm_sw, List.headD, dm_ic, dm_mk, dm_s1, dm_s2, dm_clr, dm_cs, dm_cc, dm_nb0, dm_nb1, Value.category, List.lookup, p_X11_walks, x_X11_walks, k_X11_walks, dm_cm, upd, vp_updL, dm_ui_1, dm_ui_2, dm_ul_1, dm_ul_2, sp_X11_lastCost, sp_X11_lesser, sM_0, sM_1, sM_2, sM_3, sM_4, sM_5, sM_6, sM_7, sM_8, sM_9, sM_10, sM_11, sM_12, sM_13, sM_14, sM_15, sM_16, sM_17, sM_18, sM_19, sM_20, sM_21, sM_22, sM_23, sM_24, sM_25, sM_26, sM_27, sM_28, sM_29]
        exact ⟨fun _ => h u' a1 a2, fun z => absurd ((nI_leI (by omega) (by omega)).mp z) (by omega)⟩
      | succ k ih =>
        intro l hl u' o5 o6 a1 a2
        have rowed : ∀ u' : dm_S, wa_fr u u' → MW u' A r g l → (∀ v, v < A.n → u'.2 29 (25 * v + l) = lI (gw A r g l v)) → MW u' A r g (l + 1) := fun u' _ b2 b3 l' hl' v hv => by
          by_cases y : l' < l
          · exact b2 l' y v hv
          · have e : l' = l := by omega
            subst e
            exact b3 v hv
        have arcs : ∀ d a : Nat, a + d = A.M → r < a → ∀ (u' : dm_S) (o6 : Option Value), wa_fr u u' → MW u' A r g l → (∀ v, v < A.n → u'.2 29 (25 * v + l) = lI (if l = 0 then (if v = g then 0 else fAR) else wkA A.fr A.tr A.lr (fun a => A.en a && decide (r < a)) (gw A r g (l - 1)) v a)) → G 63 [some (.ref 0), some (.int (nI g)), some (.int (nI r)), some (.int (nI L)), some (.int (nI l)), some (.int (nI a)), o6, none] [] u' := by
          intro d
          induction d with
          | zero =>
            intro a ha hra u' o6 a1 a2 a3
            have e : a = A.M := by omega
            subst e
            apply hG (fun pc => pc == 3 || pc == 63) 110
            simp (config := { maxSteps := 2000000 }) [-Prod.forall, -Prod.exists, -exists_and_left, -exists_and_right, hW0, hW1, dm_fn, dm_fd, dm_x, dm_L0, dm_la, dm_t1, dm_sw, List.headD, dm_ic, dm_mk, dm_s1, dm_s2, dm_clr, dm_cs, dm_cc, dm_nb0, dm_nb1, Value.category, List.lookup, p_X11_walks, x_X11_walks, k_X11_walks, dm_cm, upd, vp_updL, dm_ui_1, dm_ui_2, dm_ul_1, dm_ul_2, sp_X11_lastCost, sp_X11_lesser, sM_0, sM_1, sM_2, sM_3, sM_4, sM_5, sM_6, sM_7, sM_8, sM_9, sM_10, sM_11, sM_12, sM_13, sM_14, sM_15, sM_16, sM_17, sM_18, sM_19, sM_20, sM_21, sM_22, sM_23, sM_24, sM_25, sM_26, sM_27, sM_28, sM_29]
            rw [a1.1, hC.1.2, nI_1]
            refine ⟨fun _ => ih (l + 1) (by omega) u' _ _ a1 (rowed u' a1 a2 (fun v hv => ?_)), fun z => absurd z (nI_nlt (Nat.le_refl _) (by omega))⟩
            rw [a3 v hv]
            congr 1
            by_cases y : l = 0
            · subst y; rfl
            · rw [if_neg y]
              obtain ⟨l', rfl⟩ : ∃ l', l = l' + 1 := ⟨l - 1, by omega⟩
              rfl
          | succ d ih2 =>
            intro a ha hra u' o6 a1 a2 a3
            have ham : a < A.M := by omega
            obtain ⟨⟨r1, r2, r3⟩, -⟩ := hA.2.1 a ham
            have hCu := MR_fr hC (wa_mn a1)
            obtain ⟨e2, e3⟩ := (hCu.2.2 a ham).1
            have ca : (nI a).toNatClampNeg = a := nI_clamp (by omega)
            have ia : vp_in (nI a) 80 := vp_in_nI (by omega) (by omega)
            have een := MR_en hA hCu ham
            obtain ⟨lc1, lc2, lc3⟩ := MR_lc hA hCu ham
            rw [ca] at lc2 lc3
            by_cases y : l = 0
            · subst y
              apply hG (fun pc => pc == 3 || pc == 63) 110
              simp (config := { maxSteps := 2000000 }) [-Prod.forall, -Prod.exists, -exists_and_left, -exists_and_right, hW0, hW1, dm_fn, dm_fd, dm_x, dm_L0, dm_la, dm_t1, dm_sw, List.headD, dm_ic, dm_mk, dm_s1, dm_s2, dm_clr, dm_cs, dm_cc, dm_nb0, dm_nb1, Value.category, List.lookup, p_X11_walks, x_X11_walks, k_X11_walks, dm_cm, upd, vp_updL, dm_ui_1, dm_ui_2, dm_ul_1, dm_ul_2, sp_X11_lastCost, sp_X11_lesser, sM_0, sM_1, sM_2, sM_3, sM_4, sM_5, sM_6, sM_7, sM_8, sM_9, sM_10, sM_11, sM_12, sM_13, sM_14, sM_15, sM_16, sM_17, sM_18, sM_19, sM_20, sM_21, sM_22, sM_23, sM_24, sM_25, sM_26, sM_27, sM_28, sM_29]
              rw [a1.1, hC.1.2]
              refine ⟨fun z => absurd z (nI_ge (by omega) (by omega)), fun _ => ⟨fun _ => ih (0 + 1) (by omega) u' _ _ a1 (rowed u' a1 a2 (fun v hv => ?_)), fun z => absurd z (by decide)⟩⟩
              rw [a3 v hv]; rfl
            · have c25 : (25 : Int32) * nI (A.tr a) + nI l - 1 = nI (25 * A.tr a + (l - 1)) := by rw [dm_25, nI_sub1 (by omega), show 25 * A.tr a + l - 1 = 25 * A.tr a + (l - 1) by omega]
              have c25f : (25 : Int32) * nI (A.fr a) + nI l = nI (25 * A.fr a + l) := dm_25
              have k1 : (nI (25 * A.tr a + (l - 1))).toNatClampNeg = 25 * A.tr a + (l - 1) := nI_clamp (by omega)
              have k2 : (nI (25 * A.fr a + l)).toNatClampNeg = 25 * A.fr a + l := nI_clamp (by omega)
              have i2 : vp_in (nI (25 * A.tr a + (l - 1))) 625 := vp_in_nI (by omega) (by omega)
              have i3 : vp_in (nI (25 * A.fr a + l)) 625 := vp_in_nI (by omega) (by omega)
              have gt := a2 (l - 1) (by omega) (A.tr a) r2
              have gf := a3 (A.fr a) r1
              rw [if_neg y] at gf
              have gb := gw_b hA r g (l - 1) (A.tr a)
              have wbd := wkA_b (fr := A.fr) (tr := A.tr) (wt := A.lr) (on := fun a => A.en a && decide (r < a)) (f := gw A r g (l - 1)) (v := A.fr a) (B := 1000000 * (l - 1 : Nat)) (AN.dFr hA) (by omega) (fun v => gw_b hA r g (l - 1) v) a (by omega)
              have lrb := fun q => AN.dFe hA a ham q
              have gtb : lB (gw A r g (l - 1) (A.tr a)) := by unfold lB; omega
              have same : (¬ (A.en a = true ∧ gw A r g (l - 1) (A.tr a) ≠ fAR)) → ∀ o6 : Option Value, G 63 [some (.ref 0), some (.int (nI g)), some (.int (nI r)), some (.int (nI L)), some (.int (nI l)), some (.int (nI (a + 1))), o6, none] [] u' := fun q o6 => ih2 (a + 1) (by omega) (by omega) u' _ a1 a2 (fun v hv => by
                rw [a3 v hv, if_neg y, if_neg y, wkA_s, if_neg (fun z => q ⟨by have := z.1; simp only [Bool.and_eq_true] at this; exact this.1, z.2.2.1⟩)])
              apply hG (fun pc => pc == 3 || pc == 63) 110
              simp (config := { maxSteps := 2000000 }) [-Prod.forall, -Prod.exists, -exists_and_left, -exists_and_right, hW0, hW1, dm_fn, dm_fd, dm_x, dm_L0, dm_la, dm_t1, dm_sw, List.headD, dm_ic, dm_mk, dm_s1, dm_s2, dm_clr, dm_cs, dm_cc, dm_nb0, dm_nb1, Value.category, List.lookup, p_X11_walks, x_X11_walks, k_X11_walks, dm_cm, upd, vp_updL, dm_ui_1, dm_ui_2, dm_ul_1, dm_ul_2, sp_X11_lastCost, sp_X11_lesser, sM_0, sM_1, sM_2, sM_3, sM_4, sM_5, sM_6, sM_7, sM_8, sM_9, sM_10, sM_11, sM_12, sM_13, sM_14, sM_15, sM_16, sM_17, sM_18, sM_19, sM_20, sM_21, sM_22, sM_23, sM_24, sM_25, sM_26, sM_27, sM_28, sM_29]
              simp only [ca, e2, e3, c25, c25f, k1, k2, ia, i2, i3, gt, gf, een, lc2, lc3, hFl, nI_1, lI_add, true_and]
              rw [a1.1, hC.1.2]
              refine ⟨fun z => absurd z (nI_ge (by omega) (by omega)), fun _ => ⟨fun z => absurd ((nI_leI (a := l) (b := 0) (by omega) (by omega)).mp z) (by omega), fun _ => ⟨fun z => same (fun q => z q.1) _, fun z => ⟨fun z2 => ?_, fun z2 => ?_⟩⟩⟩⟩
              · rw [lI_le hFb gtb] at z2
                exact same (fun q => q.2 (by omega)) _
              · rw [lI_lt gtb hFb] at z2
                have lr2 := (lrb z).2
                refine ih2 (a + 1) (by omega) (by omega) _ _ (wa_frt a1 wa_29) (fun l' hl' v hv => ?_) (fun v hv => ?_)
                · rw [dm_ul_2, if_pos rfl]
                  unfold vp_updL
                  rw [if_neg (by omega)]
                  exact a2 l' hl' v hv
                · rw [dm_ul_2, if_pos rfl, if_neg y, wkA_s]
                  unfold vp_updL
                  by_cases yv : v = A.fr a
                  · subst yv
                    rw [if_pos rfl]
                    have wb1 : lB (wkA A.fr A.tr A.lr (fun a => A.en a && decide (r < a)) (gw A r g (l - 1)) (A.fr a) a) := by unfold lB; omega
                    have wb2 : lB (gw A r g (l - 1) (A.tr a) + A.lr a) := by unfold lB; omega
                    have hon : ((fun a => A.en a && decide (r < a)) a) = true := by simp [z, hra]
                    revert wb1 wb2
                    generalize hWW : wkA A.fr A.tr A.lr (fun a => A.en a && decide (r < a)) (gw A r g (l - 1)) (A.fr a) a = W
                    generalize hCC : gw A r g (l - 1) (A.tr a) + A.lr a = C
                    intro wb1 wb2
                    by_cases q : C < W
                    · rw [if_neg (show ¬ lI W < lI C from fun x => by have := (lI_lt wb1 wb2).mp x; omega), if_pos ⟨hon, rfl, by omega, q⟩]
                    · by_cases q2 : W < C
                      · rw [if_pos (show lI W < lI C from (lI_lt wb1 wb2).mpr q2), if_neg (fun x => q x.2.2.2)]
                      · rw [if_neg (show ¬ lI W < lI C from fun x => q2 ((lI_lt wb1 wb2).mp x)), if_neg (fun x => q x.2.2.2)]
                        congr 1
                        omega
                  · rw [if_neg (by omega), if_neg (fun x => yv x.2.1.symm), a3 v hv, if_neg y]
        have init : ∀ d v : Nat, v + d = A.n → ∀ (u' : dm_S) (o6 : Option Value), wa_fr u u' → MW u' A r g l → (∀ i, i < v → u'.2 29 (25 * i + l) = lI (if l = 0 ∧ i = g then 0 else fAR)) → G 12 [some (.ref 0), some (.int (nI g)), some (.int (nI r)), some (.int (nI L)), some (.int (nI l)), some (.int (nI v)), o6, none] [] u' := by
          intro d
          induction d with
          | zero =>
            intro v hv u' o6 a1 a2 a3
            have e : v = A.n := by omega
            subst e
            apply hG (fun pc => pc == 12 || pc == 63) 60
            simp (config := { maxSteps := 2000000 }) [-Prod.forall, -Prod.exists, -exists_and_left, -exists_and_right, hW0, hW1, dm_fn, dm_fd, dm_x, dm_L0, dm_la, dm_t1, dm_sw, List.headD, dm_ic, dm_mk, dm_s1, dm_s2, dm_clr, dm_cs, dm_cc, dm_nb0, dm_nb1, Value.category, List.lookup, p_X11_walks, x_X11_walks, k_X11_walks, dm_cm, upd, vp_updL, dm_ui_1, dm_ui_2, dm_ul_1, dm_ul_2, sp_X11_lastCost, sp_X11_lesser, sM_0, sM_1, sM_2, sM_3, sM_4, sM_5, sM_6, sM_7, sM_8, sM_9, sM_10, sM_11, sM_12, sM_13, sM_14, sM_15, sM_16, sM_17, sM_18, sM_19, sM_20, sM_21, sM_22, sM_23, sM_24, sM_25, sM_26, sM_27, sM_28, sM_29]
            rw [a1.1, hC.1.1, nI_1]
            refine ⟨fun _ => arcs (A.M - (r + 1)) (r + 1) (by omega) (by omega) u' _ a1 a2 (fun v hv => ?_), fun z => absurd z (nI_nlt (Nat.le_refl _) (by omega))⟩
            rw [a3 v hv]
            congr 1
            by_cases y : l = 0
            · rw [if_pos y]
              by_cases y2 : v = g
              · rw [if_pos ⟨y, y2⟩, if_pos y2]
              · rw [if_neg (fun q => y2 q.2), if_neg y2]
            · rw [if_neg y, if_neg (fun q => y q.1), wkA_off (fun a ha => by simp; intro _; omega)]
          | succ d ih2 =>
            intro v hv u' o6 a1 a2 a3
            have c25 : (25 : Int32) * nI v + nI l = nI (25 * v + l) := dm_25
            have k1 : (nI (25 * v + l)).toNatClampNeg = 25 * v + l := nI_clamp (by omega)
            have i1 : vp_in (nI (25 * v + l)) 625 := vp_in_nI (by omega) (by omega)
            have stp : ∀ z : Int64, z = lI (if l = 0 ∧ v = g then 0 else fAR) → ∀ o6 : Option Value, G 12 [some (.ref 0), some (.int (nI g)), some (.int (nI r)), some (.int (nI L)), some (.int (nI l)), some (.int (nI (v + 1))), o6, none] [] (dm_ul u' 29 (25 * v + l) z) := fun z hz o6 => by
              refine ih2 (v + 1) (by omega) _ _ (wa_frt a1 wa_29) (fun l' hl' i hi => ?_) (fun i hi => ?_)
              · rw [dm_ul_2, if_pos rfl]
                unfold vp_updL
                rw [if_neg (by omega)]
                exact a2 l' hl' i hi
              · rw [dm_ul_2, if_pos rfl]
                unfold vp_updL
                by_cases y : i = v
                · rw [if_pos (by omega), hz, y]
                · rw [if_neg (by omega)]; exact a3 i (by omega)
            apply hG (fun pc => pc == 12 || pc == 63) 60
            simp (config := { maxSteps := 2000000 }) [-Prod.forall, -Prod.exists, -exists_and_left, -exists_and_right, hW0, hW1, dm_fn, dm_fd, dm_x, dm_L0, dm_la, dm_t1, dm_sw, List.headD, dm_ic, dm_mk, dm_s1, dm_s2, dm_clr, dm_cs, dm_cc, dm_nb0, dm_nb1, Value.category, List.lookup, p_X11_walks, x_X11_walks, k_X11_walks, dm_cm, upd, vp_updL, dm_ui_1, dm_ui_2, dm_ul_1, dm_ul_2, sp_X11_lastCost, sp_X11_lesser, sM_0, sM_1, sM_2, sM_3, sM_4, sM_5, sM_6, sM_7, sM_8, sM_9, sM_10, sM_11, sM_12, sM_13, sM_14, sM_15, sM_16, sM_17, sM_18, sM_19, sM_20, sM_21, sM_22, sM_23, sM_24, sM_25, sM_26, sM_27, sM_28, sM_29]
            simp only [c25, k1, i1, nI_1, true_and]
            rw [a1.1, hC.1.1]
            refine ⟨fun z => absurd z (nI_ge (by omega) (by omega)), fun _ => ⟨fun z => stp _ ?_ _, fun z => ⟨fun z2 => stp _ ?_ _, fun z2 => stp _ ?_ _⟩⟩⟩
            · rw [if_neg (fun q => z (by rw [q.1]; rfl))]; rfl
            · rw [if_neg (fun q => z2 (by rw [q.2]))]; rfl
            · rw [if_pos ⟨(nI_eq (b := 0) (by omega) (by omega)).mp z, (nI_eq (by omega) (by omega)).mp z2⟩]; rfl
        apply hG (fun pc => pc == 12) 60
        simp (config := { maxSteps := 2000000 }) [-Prod.forall, -Prod.exists, -exists_and_left, -exists_and_right, hW0, hW1, dm_fn, dm_fd, dm_x, dm_L0, dm_la, dm_t1, dm_sw, List.headD, dm_ic, dm_mk, dm_s1, dm_s2, dm_clr, dm_cs, dm_cc, dm_nb0, dm_nb1, Value.category, List.lookup, p_X11_walks, x_X11_walks, k_X11_walks, dm_cm, upd, vp_updL, dm_ui_1, dm_ui_2, dm_ul_1, dm_ul_2, sp_X11_lastCost, sp_X11_lesser, sM_0, sM_1, sM_2, sM_3, sM_4, sM_5, sM_6, sM_7, sM_8, sM_9, sM_10, sM_11, sM_12, sM_13, sM_14, sM_15, sM_16, sM_17, sM_18, sM_19, sM_20, sM_21, sM_22, sM_23, sM_24, sM_25, sM_26, sM_27, sM_28, sM_29]
        exact ⟨fun z => absurd ((nI_ltI (by omega) (by omega)).mp z) (by omega), fun _ => init A.n 0 (by omega) u' _ a1 a2 (fun i hi => absurd hi (Nat.not_lt_zero _))⟩
    apply hG (fun pc => pc == 3) 60
    simp (config := { maxSteps := 2000000 }) [-Prod.forall, -Prod.exists, -exists_and_left, -exists_and_right, hW0, hW1, dm_fn, dm_fd, dm_x, dm_L0, dm_la, dm_t1, dm_sw, List.headD, dm_ic, dm_mk, dm_s1, dm_s2, dm_clr, dm_cs, dm_cc, dm_nb0, dm_nb1, Value.category, List.lookup, p_X11_walks, x_X11_walks, k_X11_walks, dm_cm, upd, vp_updL, dm_ui_1, dm_ui_2, dm_ul_1, dm_ul_2, sp_X11_lastCost, sp_X11_lesser, sM_0, sM_1, sM_2, sM_3, sM_4, sM_5, sM_6, sM_7, sM_8, sM_9, sM_10, sM_11, sM_12, sM_13, sM_14, sM_15, sM_16, sM_17, sM_18, sM_19, sM_20, sM_21, sM_22, sM_23, sM_24, sM_25, sM_26, sM_27, sM_28, sM_29]
    exact rows (L + 1) 0 (by omega) u _ _ (wa_fr0 u) (fun l hl => absurd hl (Nat.not_lt_zero _))
  · exact h.elim
set_option maxRecDepth 100000 in
theorem t_X11_walks (l : Launch) (D : va_G) (cA : Nat → ClassId) (ad : Nat → Nat) : dm_Met l D dm_cl cA ad shM yX11_walks (Cond.code yX11_walks cX11_walks 8 (dm_rt 0) :: dm_tt) ({ frames := 1, cells := 0, slots := 0, locals := 23 } : Room) sp_X11_walks := dm_meth (own := RX11) (X := x_X11_walks) (Sp := k_X11_walks) (prog := p_X11_walks) (by decide +kernel) rfl rfl (dm_FO_s ffX11 [(13, 11, 3), (17, 11, 4), (23, 11, 6), (96, 11, 36), (109, 11, 0), (123, 11, 1)] rfl dm_hT (by decide +kernel)) (dm_IO_s ifX11 jfX11 [] [(130, -2), (152, 1152921504606846976)] rfl rfl dm_hT (by decide +kernel) (by decide +kernel)) soM (dm_MO_of (List.forall_mem_cons.mpr ⟨dm_M1_of (t_X11_lastCost l D cA ad) dm_hT (dm_mem [1156, 77, 1153] (by decide +kernel) (by decide +kernel)) (by decide) (by decide +kernel) (Or.inr ⟨by decide, dm_mem [1155, 53] (by decide +kernel) (by decide +kernel), rfl⟩), List.forall_mem_cons.mpr ⟨dm_M1_of (t_X11_lesser l D cA ad) dm_hT (dm_mem [1144, 77, 1142] (by decide +kernel) (by decide +kernel)) (by decide) (by decide +kernel) (Or.inl ⟨rfl, dm_mem (ws := [.static yX11_lesser]) [1143] (by decide +kernel) (by decide +kernel) _ List.mem_cons_self⟩), fun _ h => absurd h List.not_mem_nil⟩⟩)) v_X11_walks u_X11_walks
def tr_fr (u u' : dm_S) : Prop := (∀ c, c ≠ 0 → c ≠ 10 → u'.1 c = u.1 c) ∧ (∀ k, k ≠ 13 → u'.1 0 k = u.1 0 k) ∧ ∀ c, c ≠ 29 → u'.2 c = u.2 c
theorem tr_fr0 (u : dm_S) : tr_fr u u := ⟨fun _ _ _ => rfl, fun _ _ => rfl, fun _ _ => rfl⟩
theorem tr_frt {u u' u'' : dm_S} (h : tr_fr u u') (h2 : tr_fr u' u'') : tr_fr u u'' := ⟨fun c a b => (h2.1 c a b).trans (h.1 c a b), fun c a => (h2.2.1 c a).trans (h.2.1 c a), fun c a => (h2.2.2 c a).trans (h.2.2 c a)⟩
theorem tr_10 {u : dm_S} {j : Nat} {x : Int32} : tr_fr u (dm_ui u 10 j x) := ⟨fun c h1 h2 => by rw [dm_ui_1, if_neg h2], fun k hk => by rw [dm_ui_1, if_neg (by decide)], fun _ _ => rfl⟩
theorem tr_13 {u : dm_S} {x : Int32} : tr_fr u (dm_ui u 0 13 x) := ⟨fun c h1 h2 => by rw [dm_ui_1, if_neg h1], fun k hk => by rw [dm_ui_1, if_pos rfl]; exact if_neg hk, fun _ _ => rfl⟩
theorem tr_wa {u u' : dm_S} (h : wa_fr u u') : tr_fr u u' := ⟨fun c _ _ => by rw [h.1], fun k _ => by rw [h.1], h.2⟩
theorem tr_mn {u u' : dm_S} (h : tr_fr u u') : mn_fr u u' := by
  refine ⟨⟨h.2.1 0 (by decide), h.2.1 1 (by decide)⟩, fun c hc => h.1 c ?_ ?_, fun c hc => h.2.2 c ?_⟩
  · intro z; subst z; revert hc; decide
  · intro z; subst z; revert hc; decide
  · intro z; subst z; revert hc; decide
def sp_X11_takeRing (As : List Value) (u : dm_S) (Q : Option Value → dm_S → Prop) : Prop := match As with
  | [.ref 0, .int x, .int y] => ∃ (A : AN) (f : Nat) (rq : Nat → Nat), A.ok ∧ MR u A ∧ rqok A f rq ∧ (x = nI (rq 0) ∧ y = nI f) ∧ MW u A (rq 0) (A.fr (rq 0)) f ∧ ∀ u' : dm_S, tr_fr u u' → u'.1 0 13 = nI f → (∀ i, i < f → u'.1 10 i = nI (rq i)) → Q none u'
  | _ => False
def p_X11_takeRing : List dm_I := [(0, .aload_n 0, 1, [0]), (1, .getfield 38, 3, []), (4, .iconst 0, 1, []), (5, .iload_n 1, 1, [1]), (6, .iastore, 1, []), (7, .aload_n 0, 1, [0]), (8, .iconst 1, 1, []), (9, .putfield 103, 3, []), (12, .aload_n 0, 1, [0]), (13, .iload_n 1, 1, [1]), (14, .invokevirtual 148, 3, []), (17, .lstore_n 3, 1, [3]), (18, .aload_n 0, 1, [0]), (19, .getfield 17, 3, []), (22, .iload_n 1, 1, [1]), (23, .iaload, 1, []), (24, .istore 5, 2, []), (26, .iload_n 2, 1, [2]), (27, .iconst 2, 1, []), (28, .isub, 1, []), (29, .istore 6, 2, []), (31, .iload 6, 2, []), (33, .ifCond .lt 142, 3, [175]), (36, .iload_n 1, 1, [1]), (37, .iconst 1, 1, []), (38, .iadd, 1, []), (39, .istore 7, 2, []), (41, .aload_n 0, 1, [0]), (42, .getfield 23, 3, []), (45, .iload 7, 2, []), (47, .laload, 1, []), (48, .ldc2_w 130, 3, []), (51, .lcmp, 1, []), (52, .ifCond .ne 72, 3, [124]), (55, .aload_n 0, 1, [0]), (56, .getfield 13, 3, []), (59, .iload 7, 2, []), (61, .iaload, 1, []), (62, .iload 5, 2, []), (64, .if_icmp .ne 60, 3, [124]), (67, .aload_n 0, 1, [0]), (68, .getfield 96, 3, []), (71, .bipush 25, 2, []), (73, .aload_n 0, 1, [0]), (74, .getfield 17, 3, []), (77, .iload 7, 2, []), (79, .iaload, 1, []), (80, .imul, 1, []), (81, .iload 6, 2, []), (83, .iadd, 1, []), (84, .laload, 1, []), (85, .ldc2_w 152, 3, []), (88, .lcmp, 1, []), (89, .ifCond .eq 35, 3, [124]), (92, .lload_n 3, 1, [3]), (93, .aload_n 0, 1, [0]), (94, .iload 7, 2, []), (96, .invokevirtual 148, 3, []), (99, .ladd, 1, []), (100, .aload_n 0, 1, [0]), (101, .getfield 96, 3, []), (104, .bipush 25, 2, []), (106, .aload_n 0, 1, [0]), (107, .getfield 17, 3, []), (110, .iload 7, 2, []), (112, .iaload, 1, []), (113, .imul, 1, []), (114, .iload 6, 2, []), (116, .iadd, 1, []), (117, .laload, 1, []), (118, .ladd, 1, []), (119, .lconst 0, 1, []), (120, .lcmp, 1, []), (121, .ifCond .lt 9, 3, [130]), (124, .iinc 7 1, 3, []), (127, .goto (-86), 3, [41]), (130, .aload_n 0, 1, [0]), (131, .getfield 38, 3, []), (134, .aload_n 0, 1, [0]), (135, .getfield 103, 3, []), (138, .iload 7, 2, []), (140, .iastore, 1, []), (141, .aload_n 0, 1, [0]), (142, .dup, 1, []), (143, .getfield 103, 3, []), (146, .iconst 1, 1, []), (147, .iadd, 1, []), (148, .putfield 103, 3, []), (151, .lload_n 3, 1, [3]), (152, .aload_n 0, 1, [0]), (153, .iload 7, 2, []), (155, .invokevirtual 148, 3, []), (158, .ladd, 1, []), (159, .lstore_n 3, 1, [3]), (160, .aload_n 0, 1, [0]), (161, .getfield 17, 3, []), (164, .iload 7, 2, []), (166, .iaload, 1, []), (167, .istore 5, 2, []), (169, .iinc 6 (-1), 3, []), (172, .goto (-141), 3, [31]), (175, .return_, 1, [])]
set_option maxRecDepth 100000 in
theorem v_X11_takeRing : p_X11_takeRing.all (dm_vb cX11_takeRing) = true := by decide +kernel
def k_X11_takeRing : dm_Sp := fun a => match a with
  | 0 => sp_X11_lastCost
  | _ => fun _ _ _ => False
def x_X11_takeRing : dm_X := dm_mk [(13, 11, 3), (17, 11, 4), (23, 11, 6), (38, 11, 14), (96, 11, 36), (103, 11, 13)] [] [(130, -2), (152, 1152921504606846976)] [(148, 0, 1, 11)] 0
set_option maxRecDepth 100000 in
set_option maxHeartbeats 1600000 in
theorem u_X11_takeRing : dm_Pure shM x_X11_takeRing k_X11_takeRing p_X11_takeRing 8 sp_X11_takeRing := by
  intro As u Qp h
  unfold sp_X11_takeRing at h
  split at h
  · obtain ⟨A, f, rq, hA, hC, hR, ⟨rfl, rfl⟩, hW, h⟩ := h
    obtain ⟨hn, hM⟩ := hA.1
    have hin := rq_in hR
    have hf2 := rq_2 hA hR
    have hfn := hR.1.2
    have hF : fAR = 1152921504606846976 := rfl
    have hFl : (1152921504606846976 : Int64) = lI fAR := rfl
    have hFb : lB fAR := by unfold lB; omega
    have h0l : (0 : Int64) = lI 0 := rfl
    have hsb : ∀ i, i ≤ f → -24000000 ≤ sI (fun j => A.lr (rq j)) i ∧ sI (fun j => A.lr (rq j)) i ≤ 24000000 := fun i hi => by
      have lb : sI (fun _ => (-1000000 : Int)) i ≤ sI (fun j => A.lr (rq j)) i := sI_le (fun j hj => (AN.dFe hA (rq j) (hin j (by omega)).1 (hin j (by omega)).2).2.1)
      have ub : sI (fun j => A.lr (rq j)) i ≤ sI (fun _ => (1000000 : Int)) i := sI_le (fun j hj => (AN.dFe hA (rq j) (hin j (by omega)).1 (hin j (by omega)).2).2.2)
      rw [sI_const] at lb ub
      omega
    refine ⟨Nat.le_of_ble_eq_true rfl, fun G Wp hW0 hW1 hG => ?_⟩
    have loop : ∀ k i : Nat, i + 1 + k = f → ∀ (u' : dm_S) (x : Int32) (o7 : Option Value), x = (if k = 0 then -1 else nI (k - 1)) → tr_fr u u' → MW u' A (rq 0) (A.fr (rq 0)) f → u'.1 0 13 = nI (i + 1) → (∀ j, j < i + 1 → u'.1 10 j = nI (rq j)) → G 31 [some (.ref 0), some (.int (nI (rq 0))), some (.int (nI f)), some (.long (lI (sI (fun j => A.lr (rq j)) (i + 1)))), none, some (.int (nI (A.tr (rq i)))), some (.int x), o7] [] u' := by
      intro k
      induction k with
      | zero =>
        intro i hi u' x o7 hx a1 a2 a3 a4
        rw [if_pos rfl] at hx
        subst hx
        apply hG (fun pc => pc == 31 || pc == 41) 80
        simp (config := { maxSteps := 2000000 }) [-Prod.forall, -Prod.exists, -exists_and_left, -exists_and_right, hW0, hW1, dm_fn, dm_fd, dm_x, dm_L0, dm_la, dm_t1, dm_sw, List.headD, dm_ic, dm_mk, dm_s1, dm_s2, dm_clr, dm_cs, dm_cc, dm_nb0, dm_nb1, Value.category, List.lookup, p_X11_takeRing, x_X11_takeRing, k_X11_takeRing, dm_cm, upd, vp_updL, dm_ui_1, dm_ui_2, dm_ul_1, dm_ul_2, sp_X11_lastCost, sM_0, sM_1, sM_2, sM_3, sM_4, sM_5, sM_6, sM_7, sM_8, sM_9, sM_10, sM_11, sM_12, sM_13, sM_14, sM_15, sM_16, sM_17, sM_18, sM_19, sM_20, sM_21, sM_22, sM_23, sM_24, sM_25, sM_26, sM_27, sM_28, sM_29]
        have e : f = i + 1 := by omega
        subst e
        exact h u' a1 a3 a4
      | succ k ih =>
        intro i hi u' x o7 hx a1 a2 a3 a4
        rw [if_neg (by omega), show k + 1 - 1 = k by omega] at hx
        subst hx
        have hl := ref_next hA hR (i := i) (by omega)
        rw [show f - 2 - i = k by omega] at hl
        have hCu := MR_fr hC (tr_mn a1)
        have seek : ∀ d a : Nat, a + d = rq (i + 1) → rq 0 < a → G 41 [some (.ref 0), some (.int (nI (rq 0))), some (.int (nI f)), some (.long (lI (sI (fun j => A.lr (rq j)) (i + 1)))), none, some (.int (nI (A.tr (rq i)))), some (.int (nI k)), some (.int (nI a))] [] u' := by
          intro d
          induction d with
          | zero =>
            intro a ha hra
            have ea : a = rq (i + 1) := by omega
            have ham : a < A.M := by rw [ea]; exact (hin (i + 1) (by omega)).1
            obtain ⟨⟨r1, r2, r3⟩, -⟩ := hA.2.1 a ham
            obtain ⟨e2, e3⟩ := (hCu.2.2 a ham).1
            have ca : (nI a).toNatClampNeg = a := nI_clamp (by omega)
            have ia : vp_in (nI a) 80 := vp_in_nI (by omega) (by omega)
            have een := MR_en hA hCu ham
            obtain ⟨lc1, lc2, lc3⟩ := MR_lc hA hCu ham
            rw [ca] at lc2 lc3
            have c25 : (25 : Int32) * nI (A.tr a) + nI k = nI (25 * A.tr a + k) := dm_25
            have k1 : (nI (25 * A.tr a + k)).toNatClampNeg = 25 * A.tr a + k := nI_clamp (by omega)
            have i2 : vp_in (nI (25 * A.tr a + k)) 625 := vp_in_nI (by omega) (by omega)
            have gt := a2 k (by omega) (A.tr a) r2
            have gb := gw_b hA (rq 0) (A.fr (rq 0)) k (A.tr a)
            have gtb : lB (gw A (rq 0) (A.fr (rq 0)) k (A.tr a)) := by unfold lB; omega
            obtain ⟨-, -, p3, p4, p5, p6⟩ := hl.1
            rw [← ea] at p3 p4 p5 p6
            have hs := hsb (i + 1) (by omega)
            have lr2 := (AN.dFe hA a ham p3).2
            have sb : lB (sI (fun j => A.lr (rq j)) (i + 1) + A.lr a + gw A (rq 0) (A.fr (rq 0)) k (A.tr a)) := by unfold lB; omega
            have ck : (nI (i + 1)).toNatClampNeg = i + 1 := nI_clamp (by omega)
            have ik : vp_in (nI (i + 1)) 24 := vp_in_nI (by omega) (by omega)
            apply hG (fun pc => pc == 31 || pc == 41) 110
            simp (config := { maxSteps := 2000000 }) [-Prod.forall, -Prod.exists, -exists_and_left, -exists_and_right, hW0, hW1, dm_fn, dm_fd, dm_x, dm_L0, dm_la, dm_t1, dm_sw, List.headD, dm_ic, dm_mk, dm_s1, dm_s2, dm_clr, dm_cs, dm_cc, dm_nb0, dm_nb1, Value.category, List.lookup, p_X11_takeRing, x_X11_takeRing, k_X11_takeRing, dm_cm, upd, vp_updL, dm_ui_1, dm_ui_2, dm_ul_1, dm_ul_2, sp_X11_lastCost, sM_0, sM_1, sM_2, sM_3, sM_4, sM_5, sM_6, sM_7, sM_8, sM_9, sM_10, sM_11, sM_12, sM_13, sM_14, sM_15, sM_16, sM_17, sM_18, sM_19, sM_20, sM_21, sM_22, sM_23, sM_24, sM_25, sM_26, sM_27, sM_28, sM_29]
            simp only [ca, e2, e3, c25, k1, ia, i2, gt, een, lc2, lc3, a3, ck, ik, hFl, h0l, nI_1, lI_add, true_and]
            refine ⟨fun z => absurd p3 z, fun _ => ⟨fun z => absurd (by rw [p4]) z, fun _ => ⟨fun z => absurd ((lI_eq gtb hFb).mp z) p5, fun _ => ⟨fun _ => ?_, fun z => ?_⟩⟩⟩⟩
            · have es : sI (fun j => A.lr (rq j)) (i + 1) + A.lr a = sI (fun j => A.lr (rq j)) (i + 1 + 1) := by rw [ea]; rfl
              rw [es, show A.tr a = A.tr (rq (i + 1)) by rw [ea]]
              refine ih (i + 1) (by omega) _ _ _ ?_ (tr_frt a1 (tr_frt tr_10 tr_13)) (fun l hl2 v hv => a2 l hl2 v hv) ?_ (fun j hj => ?_)
              · by_cases y : k = 0
                · subst y; rfl
                · rw [if_neg y, ← nI_sub1 (by omega)]
                  exact (Int32.sub_eq_add_neg ..).symm
              · rw [dm_ui_1, if_pos rfl]; exact if_pos rfl
              · rw [dm_ui_1, if_neg (by decide), dm_ui_1, if_pos rfl]
                unfold upd
                by_cases y : j = i + 1
                · simp [y, ea]
                · simp [y]; exact a4 j (by omega)
            · rw [lI_le (by unfold lB; omega) sb] at z; omega
          | succ d ih2 =>
            intro a ha hra
            have hram := (hin (i + 1) (by omega)).1
            have ham : a < A.M := by omega
            obtain ⟨⟨r1, r2, r3⟩, -⟩ := hA.2.1 a ham
            obtain ⟨e2, e3⟩ := (hCu.2.2 a ham).1
            have ca : (nI a).toNatClampNeg = a := nI_clamp (by omega)
            have ia : vp_in (nI a) 80 := vp_in_nI (by omega) (by omega)
            have een := MR_en hA hCu ham
            obtain ⟨lc1, lc2, lc3⟩ := MR_lc hA hCu ham
            rw [ca] at lc2 lc3
            have c25 : (25 : Int32) * nI (A.tr a) + nI k = nI (25 * A.tr a + k) := dm_25
            have k1 : (nI (25 * A.tr a + k)).toNatClampNeg = 25 * A.tr a + k := nI_clamp (by omega)
            have i2 : vp_in (nI (25 * A.tr a + k)) 625 := vp_in_nI (by omega) (by omega)
            have gt := a2 k (by omega) (A.tr a) r2
            have gb := gw_b hA (rq 0) (A.fr (rq 0)) k (A.tr a)
            have gtb : lB (gw A (rq 0) (A.fr (rq 0)) k (A.tr a)) := by unfold lB; omega
            have hs := hsb (i + 1) (by omega)
            have hno := hl.2 a (by omega)
            apply hG (fun pc => pc == 31 || pc == 41) 110
            simp (config := { maxSteps := 2000000 }) [-Prod.forall, -Prod.exists, -exists_and_left, -exists_and_right, hW0, hW1, dm_fn, dm_fd, dm_x, dm_L0, dm_la, dm_t1, dm_sw, List.headD, dm_ic, dm_mk, dm_s1, dm_s2, dm_clr, dm_cs, dm_cc, dm_nb0, dm_nb1, Value.category, List.lookup, p_X11_takeRing, x_X11_takeRing, k_X11_takeRing, dm_cm, upd, vp_updL, dm_ui_1, dm_ui_2, dm_ul_1, dm_ul_2, sp_X11_lastCost, sM_0, sM_1, sM_2, sM_3, sM_4, sM_5, sM_6, sM_7, sM_8, sM_9, sM_10, sM_11, sM_12, sM_13, sM_14, sM_15, sM_16, sM_17, sM_18, sM_19, sM_20, sM_21, sM_22, sM_23, sM_24, sM_25, sM_26, sM_27, sM_28, sM_29]
            simp only [ca, e2, e3, c25, k1, ia, i2, gt, een, lc2, lc3, hFl, h0l, nI_1, lI_add, true_and]
            have go := ih2 (a + 1) (by omega) (by omega)
            refine ⟨fun z => go, fun z => ⟨fun z2 => go, fun z2 => ⟨fun z3 => go, fun z3 => ⟨fun z4 => ?_, fun z4 => go⟩⟩⟩⟩
            exfalso
            have lr2 := (AN.dFe hA a ham z).2
            have hpb := (hA.2.1 (rq i) (hin i (by omega)).1).1.2.1
            rw [lI_lt (by unfold lB; omega) (by unfold lB; omega)] at z4
            exact hno ⟨hra, ham, z, (nI_eq (by omega) (by omega)).mp z2, fun q => z3 (by rw [q]), z4⟩
        apply hG (fun pc => pc == 41) 80
        simp (config := { maxSteps := 2000000 }) [-Prod.forall, -Prod.exists, -exists_and_left, -exists_and_right, hW0, hW1, dm_fn, dm_fd, dm_x, dm_L0, dm_la, dm_t1, dm_sw, List.headD, dm_ic, dm_mk, dm_s1, dm_s2, dm_clr, dm_cs, dm_cc, dm_nb0, dm_nb1, Value.category, List.lookup, p_X11_takeRing, x_X11_takeRing, k_X11_takeRing, dm_cm, upd, vp_updL, dm_ui_1, dm_ui_2, dm_ul_1, dm_ul_2, sp_X11_lastCost, sM_0, sM_1, sM_2, sM_3, sM_4, sM_5, sM_6, sM_7, sM_8, sM_9, sM_10, sM_11, sM_12, sM_13, sM_14, sM_15, sM_16, sM_17, sM_18, sM_19, sM_20, sM_21, sM_22, sM_23, sM_24, sM_25, sM_26, sM_27, sM_28, sM_29]
        refine ⟨fun z => absurd z (nI_pos (by omega)), fun _ => ?_⟩
        have hgt := hl.1.1
        rw [nI_1]
        exact seek (rq (i + 1) - (rq 0 + 1)) (rq 0 + 1) (by omega) (by omega)
    have ca0 : (nI (rq 0)).toNatClampNeg = rq 0 := nI_clamp (by have := (hin 0 (by omega)).1; omega)
    obtain ⟨lc1, lc2, lc3⟩ := MR_lc hA hC (hin 0 (by omega)).1
    rw [ca0] at lc2 lc3
    apply hG (fun pc => pc == 31) 80
    simp (config := { maxSteps := 2000000 }) [-Prod.forall, -Prod.exists, -exists_and_left, -exists_and_right, hW0, hW1, dm_fn, dm_fd, dm_x, dm_L0, dm_la, dm_t1, dm_sw, List.headD, dm_ic, dm_mk, dm_s1, dm_s2, dm_clr, dm_cs, dm_cc, dm_nb0, dm_nb1, Value.category, List.lookup, p_X11_takeRing, x_X11_takeRing, k_X11_takeRing, dm_cm, upd, vp_updL, dm_ui_1, dm_ui_2, dm_ul_1, dm_ul_2, sp_X11_lastCost, sM_0, sM_1, sM_2, sM_3, sM_4, sM_5, sM_6, sM_7, sM_8, sM_9, sM_10, sM_11, sM_12, sM_13, sM_14, sM_15, sM_16, sM_17, sM_18, sM_19, sM_20, sM_21, sM_22, sM_23, sM_24, sM_25, sM_26, sM_27, sM_28, sM_29]
    have e3 := (hC.2.2 _ (hin 0 (by omega)).1).1.2
    simp only [ca0, lc1, lc2, lc3, e3, true_and]
    have e0 : A.lr (rq 0) = sI (fun j => A.lr (rq j)) (0 + 1) := (Int.zero_add _).symm
    rw [e0]
    refine ⟨(show vp_in (nI 0) 24 from vp_in_nI (by omega) (by omega)), loop (f - 1) 0 (by omega) _ _ _ ?_ (tr_frt tr_10 tr_13) (fun l hl v hv => hW l hl v hv) ?_ (fun j hj => ?_)⟩
    · rw [if_neg (by omega), show (2 : Int32) = nI 2 from rfl, nI_sb (by omega), show f - 1 - 1 = f - 2 by omega]
    · rw [dm_ui_1, if_pos rfl]; rfl
    · have : j = 0 := by omega
      subst this
      rw [dm_ui_1, if_neg (by decide), dm_ui_1, if_pos rfl]
      rfl
  · exact h.elim
set_option maxRecDepth 100000 in
theorem t_X11_takeRing (l : Launch) (D : va_G) (cA : Nat → ClassId) (ad : Nat → Nat) : dm_Met l D dm_cl cA ad shM yX11_takeRing (Cond.code yX11_takeRing cX11_takeRing 8 (dm_rt 0) :: dm_tt) ({ frames := 1, cells := 0, slots := 0, locals := 21 } : Room) sp_X11_takeRing := dm_meth (own := RX11) (X := x_X11_takeRing) (Sp := k_X11_takeRing) (prog := p_X11_takeRing) (by decide +kernel) rfl rfl (dm_FO_s ffX11 [(13, 11, 3), (17, 11, 4), (23, 11, 6), (38, 11, 14), (96, 11, 36), (103, 11, 13)] rfl dm_hT (by decide +kernel)) (dm_IO_s ifX11 jfX11 [] [(130, -2), (152, 1152921504606846976)] rfl rfl dm_hT (by decide +kernel) (by decide +kernel)) soM (dm_MO_of (List.forall_mem_cons.mpr ⟨dm_M1_of (t_X11_lastCost l D cA ad) dm_hT (dm_mem [1156, 77, 1153] (by decide +kernel) (by decide +kernel)) (by decide) (by decide +kernel) (Or.inr ⟨by decide, dm_mem [1155, 53] (by decide +kernel) (by decide +kernel), rfl⟩), fun _ h => absurd h List.not_mem_nil⟩)) v_X11_takeRing u_X11_takeRing
