/-! ===== the net in the cells; Lanes.lay ===== -/
def CR (u : dm_S) (A : AN) : Prop := (u.1 1 8 = nI A.n ∧ u.1 1 9 = nI A.M) ∧ (∀ v, v < A.n → u.2 11 v = lI (A.su v)) ∧ ∀ a, a < A.M → (u.1 12 a = nI (A.fr a) ∧ u.1 13 a = nI (A.tr a)) ∧ (u.1 14 a = (if A.en a then 1 else 0) ∧ u.2 15 a = lI (if A.en a then 1000000000 else A.tp a)) ∧ u.1 16 a = nI (A.pt a) ∧ ∀ k, k < A.pt a → u.2 17 (4 * a + k) = lI (A.st (4 * a + k)) ∧ u.2 18 (4 * a + k) = lI (A.rt (4 * a + k))
theorem CR_cn {u : dm_S} {A : AN} (h : CR u A) (hA : A.ok) : cn_ok u A.n A.M A.fr A.tr A.pt := by
  refine ⟨⟨hA.1.1, hA.1.2, h.1.1, h.1.2⟩, fun a ha => ?_⟩
  obtain ⟨⟨h1, h2⟩, -, h5, -⟩ := h.2.2 a ha
  obtain ⟨⟨a1, a2, -⟩, ⟨a3, a4⟩, -⟩ := hA.2.1 a ha
  exact ⟨⟨h1, a1⟩, ⟨h2, a2⟩, h5, a3, a4⟩
/-- nothing of the net itself has changed -/
def nt_fr (u u' : dm_S) : Prop := (∀ c, c ∈ [1, 12, 13, 14, 16] → u'.1 c = u.1 c) ∧ ∀ c, c ∈ [11, 15, 17, 18] → u'.2 c = u.2 c
theorem CR_fr {u u' : dm_S} {A : AN} (h : CR u A) (hf : nt_fr u u') : CR u' A := by
  obtain ⟨f1, f2⟩ := hf
  unfold CR at h ⊢
  rw [f1 1 (by decide), f2 11 (by decide), f1 12 (by decide), f1 13 (by decide), f1 14 (by decide), f2 15 (by decide), f1 16 (by decide), f2 17 (by decide), f2 18 (by decide)]
  exact h
/-- the lanes are laid -/
def LN (u : dm_S) (A : AN) : Prop := cn_ln u A.M A.pt ∧ ln_ok u A.n A.K A.b A.e ∧ ∀ l, l < A.K → u.2 22 l = lI (A.w 1000000000 l) ∧ u.2 23 l = lI (A.c l)
def ly_fr (u u' : dm_S) : Prop := (∀ c, c ∉ [2, 19, 20, 21, 26, 27] → u'.1 c = u.1 c) ∧ (∀ k, k ≠ 10 → u'.1 2 k = u.1 2 k) ∧ ∀ c, c ∉ [22, 23] → u'.2 c = u.2 c
theorem ly_nt {u u' : dm_S} (h : ly_fr u u') : nt_fr u u' := by
  refine ⟨fun c hc => h.1 c ?_, fun c hc => h.2.2 c ?_⟩
  · intro z; revert hc z; revert c; decide
  · intro z; revert hc z; revert c; decide
def sp_X1_lay (As : List Value) (u : dm_S) (Q : Option Value → dm_S → Prop) : Prop := match As with
  | [.ref 2] => ∃ A : AN, A.ok ∧ CR u A ∧ ∀ (u' : dm_S) (hd sr : Nat → Nat), ly_fr u u' → LN u' A → so_ok u' A.n A.K A.b A.e hd sr → Q none u'
  | _ => False
/-- lanes laid below L -/
def ly_to (u : dm_S) (A : AN) (L : Nat) : Prop := ∀ l, l < L → u.1 20 l = nI (A.b l) ∧ u.1 21 l = nI (A.e l) ∧ u.2 22 l = lI (A.w 1000000000 l) ∧ u.2 23 l = lI (A.c l)
def p_X1_lay : List dm_I := [(0, .aload_n 0, 1, [0]), (1, .iconst 0, 1, []), (2, .putfield 44, 3, []), (5, .iconst 0, 1, []), (6, .istore_n 1, 1, [1]), (7, .iload_n 1, 1, [1]), (8, .aload_n 0, 1, [0]), (9, .getfield 40, 3, []), (12, .getfield 48, 3, []), (15, .if_icmp .ge 140, 3, [155]), (18, .aload_n 0, 1, [0]), (19, .getfield 9, 3, []), (22, .iload_n 1, 1, [1]), (23, .aload_n 0, 1, [0]), (24, .getfield 44, 3, []), (27, .iastore, 1, []), (28, .iconst 0, 1, []), (29, .istore_n 2, 1, [2]), (30, .iload_n 2, 1, [2]), (31, .aload_n 0, 1, [0]), (32, .getfield 40, 3, []), (35, .getfield 53, 3, []), (38, .iload_n 1, 1, [1]), (39, .iaload, 1, []), (40, .if_icmp .ge 109, 3, [149]), (43, .aload_n 0, 1, [0]), (44, .getfield 15, 3, []), (47, .aload_n 0, 1, [0]), (48, .getfield 44, 3, []), (51, .aload_n 0, 1, [0]), (52, .getfield 40, 3, []), (55, .getfield 56, 3, []), (58, .iload_n 1, 1, [1]), (59, .iaload, 1, []), (60, .iastore, 1, []), (61, .aload_n 0, 1, [0]), (62, .getfield 18, 3, []), (65, .aload_n 0, 1, [0]), (66, .getfield 44, 3, []), (69, .aload_n 0, 1, [0]), (70, .getfield 40, 3, []), (73, .getfield 59, 3, []), (76, .iload_n 1, 1, [1]), (77, .iaload, 1, []), (78, .iastore, 1, []), (79, .aload_n 0, 1, [0]), (80, .getfield 21, 3, []), (83, .aload_n 0, 1, [0]), (84, .getfield 44, 3, []), (87, .aload_n 0, 1, [0]), (88, .getfield 40, 3, []), (91, .iload_n 1, 1, [1]), (92, .iload_n 2, 1, [2]), (93, .invokevirtual 62, 3, []), (96, .aload_n 0, 1, [0]), (97, .getfield 40, 3, []), (100, .getfield 66, 3, []), (103, .iload_n 1, 1, [1]), (104, .iconst 4, 1, []), (105, .imul, 1, []), (106, .iload_n 2, 1, [2]), (107, .iadd, 1, []), (108, .laload, 1, []), (109, .lsub, 1, []), (110, .lastore, 1, []), (111, .aload_n 0, 1, [0]), (112, .getfield 25, 3, []), (115, .aload_n 0, 1, [0]), (116, .getfield 44, 3, []), (119, .aload_n 0, 1, [0]), (120, .getfield 40, 3, []), (123, .getfield 69, 3, []), (126, .iload_n 1, 1, [1]), (127, .iconst 4, 1, []), (128, .imul, 1, []), (129, .iload_n 2, 1, [2]), (130, .iadd, 1, []), (131, .laload, 1, []), (132, .lastore, 1, []), (133, .aload_n 0, 1, [0]), (134, .dup, 1, []), (135, .getfield 44, 3, []), (138, .iconst 1, 1, []), (139, .iadd, 1, []), (140, .putfield 44, 3, []), (143, .iinc 2 1, 3, []), (146, .goto (-116), 3, [30]), (149, .iinc 1 1, 3, []), (152, .goto (-145), 3, [7]), (155, .aload_n 0, 1, [0]), (156, .getfield 9, 3, []), (159, .aload_n 0, 1, [0]), (160, .getfield 40, 3, []), (163, .getfield 48, 3, []), (166, .aload_n 0, 1, [0]), (167, .getfield 44, 3, []), (170, .iastore, 1, []), (171, .aload_n 0, 1, [0]), (172, .invokevirtual 70, 3, []), (175, .return_, 1, [])]
set_option maxRecDepth 100000 in
theorem v_X1_lay : p_X1_lay.all (dm_vb cX1_lay) = true := by decide +kernel
def k_X1_lay : dm_Sp := fun a => match a with
  | 0 => sp_X2_endOf
  | 1 => sp_X1_sortWays
  | _ => fun _ _ _ => False
def x_X1_lay : dm_X := dm_mk [(9, 1, 1), (15, 1, 2), (18, 1, 3), (21, 1, 4), (25, 1, 5), (40, 1, 0), (44, 1, 10), (48, 2, 9), (53, 2, 5), (56, 2, 1), (59, 2, 2), (66, 2, 6), (69, 2, 7)] [] [] [(62, 0, 2, 2), (70, 1, 0, 1)] 0
set_option maxRecDepth 100000 in
set_option maxHeartbeats 800000 in
theorem u_X1_lay : dm_Pure shC x_X1_lay k_X1_lay p_X1_lay 3 sp_X1_lay := by
  intro As u Qp h
  unfold sp_X1_lay at h
  split at h
  · obtain ⟨A, hA, hC, h⟩ := h
    obtain ⟨hn, hM⟩ := hA.1
    have hK := A.K_le hA
    refine ⟨Nat.le_of_ble_eq_true rfl, fun G Wp hW0 hW1 hG => ?_⟩
    have hfs := cn_fs_le (pt := A.pt) (M := A.M) (fun a ha => (hA.2.1 a ha).2.1.2)
    have hln : ∀ (u' : dm_S), ly_fr u u' → ly_to u' A A.K → u'.1 2 10 = nI A.K → ln_ok (dm_ui u' 19 A.M (nI A.K)) A.n A.K A.b A.e := by
      intro u' a1 a3 a4
      refine ⟨⟨hn, hK, ?_, ?_⟩, fun l hl => ?_⟩
      · rw [dm_ui_1, if_neg (by decide), a1.1 1 (by decide)]; exact hC.1.1
      · rw [dm_ui_1, if_neg (by decide)]; exact a4
      · rw [dm_ui_1, if_neg (by decide), dm_ui_1, if_neg (by decide)]
        obtain ⟨g1, g2, -⟩ := a3 l hl
        obtain ⟨g3, g4⟩ := AN.nd hA l hl
        exact ⟨⟨g1, g3⟩, g2, g4⟩
    have hfin : ∀ (u' : dm_S), ly_fr u u' → (∀ a, a < A.M → u'.1 19 a = nI (cn_fs A.pt a)) → ly_to u' A A.K → u'.1 2 10 = nI A.K → ∀ (u2 : dm_S) (hd sr : Nat → Nat), sr_fr (dm_ui u' 19 A.M (nI A.K)) u2 → so_ok u2 A.n A.K A.b A.e hd sr → Qp none u2 := by
      intro u' a1 a2 a3 a4 u2 hd sr b1 b2
      refine h u2 hd sr ⟨fun c hc => ?_, fun k hk => ?_, fun c hc => ?_⟩ ⟨fun a ha => ?_, ?_, fun l hl => ?_⟩ b2
      · simp at hc
        rw [b1.1 c (by omega) (by omega), dm_ui_1, if_neg (by omega)]
        exact a1.1 c (by simp; omega)
      · rw [b1.1 2 (by decide) (by decide), dm_ui_1, if_neg (by decide)]; exact a1.2.1 k hk
      · rw [b1.2]; exact a1.2.2 c hc
      · rw [b1.1 19 (by decide) (by decide), dm_ui_1, if_pos rfl]
        unfold upd
        by_cases z : a = A.M
        · rw [if_pos z, z]; rfl
        · rw [if_neg z]; exact a2 a (by omega)
      · exact sr_ln (hln u' a1 a3 a4) b1
      · rw [b1.2]; exact (a3 l hl).2.2
    have outer : ∀ k a : Nat, a + k = A.M → ∀ (u' : dm_S) (o2 : Option Value), ly_fr u u' → (∀ a', a' < a → u'.1 19 a' = nI (cn_fs A.pt a')) → ly_to u' A (cn_fs A.pt a) → u'.1 2 10 = nI (cn_fs A.pt a) → G 7 [some (.ref 2), some (.int (nI a)), o2] [] u' := by
      intro k
      induction k with
      | zero =>
        intro a ha u' o2 a1 a2 a3 a4
        apply hG (fun pc => pc == 7) 80
        simp (config := { maxSteps := 2000000 }) [-Prod.forall, -Prod.exists, -exists_and_left, -exists_and_right, hW0, hW1, dm_fn, dm_fd, dm_x, dm_L0, dm_la, dm_t1, dm_sw, List.headD, dm_ic, dm_mk, dm_s1, dm_s2, dm_clr, dm_cs, dm_cc, dm_nb0, dm_nb1, Value.category, List.lookup, p_X1_lay, x_X1_lay, k_X1_lay, dm_cm, upd, vp_updL, dm_ui_1, dm_ui_2, dm_ul_1, dm_ul_2, sp_X2_endOf, sp_X1_sortWays, sC_0, sC_1, sC_2, sC_3, sC_4, sC_5, sC_6, sC_7, sC_8, sC_9, sC_10, sC_11, sC_12, sC_13, sC_14, sC_15, sC_16, sC_17, sC_18, sC_19, sC_20, sC_21, sC_22, sC_23, sC_24, sC_25, sC_26, sC_27, sC_28, sC_29, sC_30, sC_31, sC_32, sC_33, sC_34, sC_35, sC_36, sC_37, sC_38, sC_39, sC_40, sC_41, sC_42, sC_43, sC_44, sC_45, sC_46, sC_47, sC_48, sC_49, sC_50, sC_51]
        have e : a = A.M := by omega
        subst e
        rw [a1.1 1 (by decide), hC.1.2, a4, nI_clamp (by omega)]
        refine ⟨fun _ => ⟨vp_in_nI (by omega) (by omega), A.n, A.K, A.b, A.e, hln u' a1 a3 a4, hfin u' a1 a2 a3 a4⟩, fun zq => absurd zq (nI_nlt (Nat.le_refl _) (by omega))⟩
      | succ k ih =>
        intro a ha u' o2 a1 a2 a3 a4
        have ham : a < A.M := by omega
        obtain ⟨⟨c1, c2⟩, ⟨c3, c4⟩, c5, c6⟩ := hC.2.2 a ham
        obtain ⟨d1, d2⟩ := (hA.2.1 a ham).2.1
        have hfa := hfs a (by omega)
        have ca : (nI a).toNatClampNeg = a := nI_clamp (by omega)
        have inner : ∀ k2 k : Nat, k + k2 = A.pt a → ∀ (u' : dm_S), ly_fr u u' → (∀ a', a' < a + 1 → u'.1 19 a' = nI (cn_fs A.pt a')) → ly_to u' A (cn_fs A.pt a + k) → u'.1 2 10 = nI (cn_fs A.pt a + k) → G 30 [some (.ref 2), some (.int (nI a)), some (.int (nI k))] [] u' := by
          intro k2
          induction k2 with
          | zero =>
            intro k hk u' a1 a2 a3 a4
            apply hG (fun pc => pc == 7 || pc == 30) 80
            simp (config := { maxSteps := 2000000 }) [-Prod.forall, -Prod.exists, -exists_and_left, -exists_and_right, hW0, hW1, dm_fn, dm_fd, dm_x, dm_L0, dm_la, dm_t1, dm_sw, List.headD, dm_ic, dm_mk, dm_s1, dm_s2, dm_clr, dm_cs, dm_cc, dm_nb0, dm_nb1, Value.category, List.lookup, p_X1_lay, x_X1_lay, k_X1_lay, dm_cm, upd, vp_updL, dm_ui_1, dm_ui_2, dm_ul_1, dm_ul_2, sp_X2_endOf, sp_X1_sortWays, sC_0, sC_1, sC_2, sC_3, sC_4, sC_5, sC_6, sC_7, sC_8, sC_9, sC_10, sC_11, sC_12, sC_13, sC_14, sC_15, sC_16, sC_17, sC_18, sC_19, sC_20, sC_21, sC_22, sC_23, sC_24, sC_25, sC_26, sC_27, sC_28, sC_29, sC_30, sC_31, sC_32, sC_33, sC_34, sC_35, sC_36, sC_37, sC_38, sC_39, sC_40, sC_41, sC_42, sC_43, sC_44, sC_45, sC_46, sC_47, sC_48, sC_49, sC_50, sC_51]
            have e : k = A.pt a := by omega
            subst e
            rw [a1.1 16 (by decide), ca, c5, nI_1]
            refine ⟨vp_in_nI (by omega) (by omega), fun _ => ?_, fun zq => absurd zq (nI_nlt (Nat.le_refl _) (by omega))⟩
            exact ih (a + 1) (by omega) u' _ a1 a2 a3 a4
          | succ k2 ih2 =>
            intro k hk u' a1 a2 a3 a4
            obtain ⟨l1, l2, l3⟩ := A.l_at ham (show k < A.pt a by omega)
            have hlK : cn_fs A.pt a + k < 320 := by omega
            obtain ⟨c7, c8⟩ := c6 k (by omega)
            have cl : (nI (cn_fs A.pt a + k)).toNatClampNeg = cn_fs A.pt a + k := nI_clamp (by omega)
            have c4k : nI a * 4 + nI k = nI (4 * a + k) := by rw [dm_l4 (by omega), nI_add]
            have ck : (nI (4 * a + k)).toNatClampNeg = 4 * a + k := nI_clamp (by omega)
            have ck1 : (nI (4 * a + k + 1)).toNatClampNeg = 4 * a + k + 1 := nI_clamp (by omega)
            apply hG (fun pc => pc == 7 || pc == 30) 80
            simp (config := { maxSteps := 2000000 }) [-Prod.forall, -Prod.exists, -exists_and_left, -exists_and_right, hW0, hW1, dm_fn, dm_fd, dm_x, dm_L0, dm_la, dm_t1, dm_sw, List.headD, dm_ic, dm_mk, dm_s1, dm_s2, dm_clr, dm_cs, dm_cc, dm_nb0, dm_nb1, Value.category, List.lookup, p_X1_lay, x_X1_lay, k_X1_lay, dm_cm, upd, vp_updL, dm_ui_1, dm_ui_2, dm_ul_1, dm_ul_2, sp_X2_endOf, sp_X1_sortWays, sC_0, sC_1, sC_2, sC_3, sC_4, sC_5, sC_6, sC_7, sC_8, sC_9, sC_10, sC_11, sC_12, sC_13, sC_14, sC_15, sC_16, sC_17, sC_18, sC_19, sC_20, sC_21, sC_22, sC_23, sC_24, sC_25, sC_26, sC_27, sC_28, sC_29, sC_30, sC_31, sC_32, sC_33, sC_34, sC_35, sC_36, sC_37, sC_38, sC_39, sC_40, sC_41, sC_42, sC_43, sC_44, sC_45, sC_46, sC_47, sC_48, sC_49, sC_50, sC_51]
            rw [a1.1 16 (by decide), a1.1 12 (by decide), a1.1 13 (by decide), a1.2.2 17 (by decide), a1.2.2 18 (by decide), a1.2.2 15 (by decide), a4, cl, c4k, ck, nI_1, nI_1, nI_1, ca, c1, c2, c4, c5, c7, c8, ck1]
            have ia : vp_in (nI a) 80 := vp_in_nI (by omega) (by omega)
            have il : vp_in (nI (cn_fs A.pt a + k)) 320 := vp_in_nI (by omega) (by omega)
            refine ⟨ia, fun zq => absurd zq (nI_ge (by omega) (by omega)), fun zq => ⟨ia, il, ia, il, ia, fun z => vp_in_nI (by have := (nI_ltI (by omega) (by omega)).mp z; omega) (by omega), ?_⟩⟩
            have hwd : (if nI (k + 1) < nI (A.pt a) then u.2 17 (4 * a + k + 1) else lI (if A.en a = true then 1000000000 else A.tp a)) - lI (A.st (4 * a + k)) = lI (A.w 1000000000 (cn_fs A.pt a + k)) := by
              rw [A.w_at ham (by omega), ← lI_sub]
              congr 1
              unfold AN.ed
              by_cases z : k + 1 < A.pt a
              · rw [if_pos z, if_pos (nI_lt z (by omega))]
                exact (c6 (k + 1) z).1
              · rw [if_neg z, if_neg (nI_nlt (by omega) (by omega))]
            rw [hwd, nI_1]
            refine ⟨vp_in_nI (by omega) (by omega), il, vp_in_nI (by omega) (by omega), il, ?_⟩
            have hb : A.b (cn_fs A.pt a + k) = A.fr a := by unfold AN.b; rw [l2]
            have he : A.e (cn_fs A.pt a + k) = A.tr a := by unfold AN.e; rw [l2]
            have hc : A.c (cn_fs A.pt a + k) = A.rt (4 * a + k) := by unfold AN.c; rw [l3]
            refine ih2 (k + 1) (by omega) _ ⟨fun c hc => ?_, fun j hj => ?_, fun c hc => ?_⟩ (fun a' ha' => ?_) (fun l hl => ?_) ?_
            · simp at hc
              simp only [dm_ui_1, dm_ul_1]
              rw [if_neg (by omega), if_neg (by omega), if_neg (by omega)]
              exact a1.1 c (by simp; omega)
            · simp only [dm_ui_1, dm_ul_1, if_pos]
              unfold upd
              rw [if_neg hj, if_neg (by decide), if_neg (by decide)]
              exact a1.2.1 j hj
            · simp at hc
              simp only [dm_ui_2, dm_ul_2]
              rw [if_neg (by omega), if_neg (by omega)]
              exact a1.2.2 c (by simp; omega)
            · simp only [dm_ui_1, dm_ul_1]
              rw [if_neg (by decide), if_neg (by decide), if_neg (by decide)]
              exact a2 a' ha'
            · by_cases z : l = cn_fs A.pt a + k
              · subst z
                simp [dm_ui_1, dm_ul_1, dm_ui_2, dm_ul_2, upd, vp_updL, hb, he, hc]
              · simp [dm_ui_1, dm_ul_1, dm_ui_2, dm_ul_2, upd, vp_updL, z]
                exact a3 l (by omega)
            · simp [dm_ui_1, upd]; rfl
        apply hG (fun pc => pc == 7 || pc == 30) 80
        simp (config := { maxSteps := 2000000 }) [-Prod.forall, -Prod.exists, -exists_and_left, -exists_and_right, hW0, hW1, dm_fn, dm_fd, dm_x, dm_L0, dm_la, dm_t1, dm_sw, List.headD, dm_ic, dm_mk, dm_s1, dm_s2, dm_clr, dm_cs, dm_cc, dm_nb0, dm_nb1, Value.category, List.lookup, p_X1_lay, x_X1_lay, k_X1_lay, dm_cm, upd, vp_updL, dm_ui_1, dm_ui_2, dm_ul_1, dm_ul_2, sp_X2_endOf, sp_X1_sortWays, sC_0, sC_1, sC_2, sC_3, sC_4, sC_5, sC_6, sC_7, sC_8, sC_9, sC_10, sC_11, sC_12, sC_13, sC_14, sC_15, sC_16, sC_17, sC_18, sC_19, sC_20, sC_21, sC_22, sC_23, sC_24, sC_25, sC_26, sC_27, sC_28, sC_29, sC_30, sC_31, sC_32, sC_33, sC_34, sC_35, sC_36, sC_37, sC_38, sC_39, sC_40, sC_41, sC_42, sC_43, sC_44, sC_45, sC_46, sC_47, sC_48, sC_49, sC_50, sC_51]
        rw [a1.1 1 (by decide), hC.1.2, a4, ca]
        refine ⟨fun zq => absurd zq (nI_ge (by omega) (by omega)), fun zq => ⟨vp_in_nI (by omega) (by omega), ?_⟩⟩
        refine inner (A.pt a) 0 (by omega) _ ⟨fun c hc => ?_, fun k hk => ?_, fun c hc => a1.2.2 c hc⟩ (fun a' ha' => ?_) (fun l hl => ?_) ?_
        · rw [dm_ui_1, if_neg (by simp at hc; omega)]; exact a1.1 c hc
        · rw [dm_ui_1, if_neg (by decide)]; exact a1.2.1 k hk
        · rw [dm_ui_1, if_pos rfl]
          unfold upd
          by_cases z : a' = a
          · rw [if_pos z, z]
          · rw [if_neg z]; exact a2 a' (by omega)
        · rw [dm_ui_1, if_neg (by decide), dm_ui_1, if_neg (by decide)]; exact a3 l hl
        · rw [dm_ui_1, if_neg (by decide)]; exact a4
    apply hG (fun pc => pc == 7) 80
    simp (config := { maxSteps := 2000000 }) [-Prod.forall, -Prod.exists, -exists_and_left, -exists_and_right, hW0, hW1, dm_fn, dm_fd, dm_x, dm_L0, dm_la, dm_t1, dm_sw, List.headD, dm_ic, dm_mk, dm_s1, dm_s2, dm_clr, dm_cs, dm_cc, dm_nb0, dm_nb1, Value.category, List.lookup, p_X1_lay, x_X1_lay, k_X1_lay, dm_cm, upd, vp_updL, dm_ui_1, dm_ui_2, dm_ul_1, dm_ul_2, sp_X2_endOf, sp_X1_sortWays, sC_0, sC_1, sC_2, sC_3, sC_4, sC_5, sC_6, sC_7, sC_8, sC_9, sC_10, sC_11, sC_12, sC_13, sC_14, sC_15, sC_16, sC_17, sC_18, sC_19, sC_20, sC_21, sC_22, sC_23, sC_24, sC_25, sC_26, sC_27, sC_28, sC_29, sC_30, sC_31, sC_32, sC_33, sC_34, sC_35, sC_36, sC_37, sC_38, sC_39, sC_40, sC_41, sC_42, sC_43, sC_44, sC_45, sC_46, sC_47, sC_48, sC_49, sC_50, sC_51]
    refine outer A.M 0 (by omega) _ _ ⟨fun c hc => ?_, fun k hk => ?_, fun c hc => rfl⟩ (fun a' ha => by omega) (fun l hl => absurd hl (Nat.not_lt_zero _)) ?_
    · rw [dm_ui_1, if_neg (by simp at hc; omega)]
    · rw [dm_ui_1, if_pos rfl]; exact if_neg hk
    · rw [dm_ui_1, if_pos rfl]; exact if_pos rfl
  · exact h.elim
set_option maxRecDepth 100000 in
theorem t_X1_lay (l : Launch) (D : va_G) (cA : Nat → ClassId) (ad : Nat → Nat) : dm_Met l D dm_cl cA ad shC yX1_lay (Cond.code yX1_lay cX1_lay 3 (dm_rt 0) :: dm_tt) ({ frames := 2, cells := 0, slots := 0, locals := 45 } : Room) sp_X1_lay := dm_meth (own := RX1) (X := x_X1_lay) (Sp := k_X1_lay) (prog := p_X1_lay) (by decide +kernel) rfl rfl (dm_FO_s ffX1 [(9, 1, 1), (15, 1, 2), (18, 1, 3), (21, 1, 4), (25, 1, 5), (40, 1, 0), (44, 1, 10), (48, 2, 9), (53, 2, 5), (56, 2, 1), (59, 2, 2), (66, 2, 6), (69, 2, 7)] rfl dm_hT (by decide +kernel)) (dm_IO_s ifX1 jfX1 [] [] rfl rfl dm_hT (by decide +kernel) (by decide +kernel)) soC (dm_MO_of (List.forall_mem_cons.mpr ⟨dm_M1_of (t_X2_endOf l D cA ad) dm_hT (dm_mem [542, 67, 539] (by decide +kernel) (by decide +kernel)) (by decide) (by decide +kernel) (Or.inr ⟨by decide, dm_mem [540, 541] (by decide +kernel) (by decide +kernel), rfl⟩), List.forall_mem_cons.mpr ⟨dm_M1_of (t_X1_sortWays l D cA ad) dm_hT (dm_mem [546, 68, 543] (by decide +kernel) (by decide +kernel)) (by decide) (by decide +kernel) (Or.inr ⟨by decide, dm_mem [545, 2] (by decide +kernel) (by decide +kernel), rfl⟩), fun _ h => absurd h List.not_mem_nil⟩⟩)) v_X1_lay u_X1_lay
