/-! ===== walks of so many arcs to a goal: the least cost ===== -/
def wkA (fr tr : Nat → Nat) (wt : Nat → Int) (on : Nat → Bool) (f : Nat → Int) (v : Nat) : Nat → Int
  | 0 => fAR
  | a + 1 => if on a = true ∧ fr a = v ∧ f (tr a) ≠ fAR ∧ f (tr a) + wt a < wkA fr tr wt on f v a then f (tr a) + wt a else wkA fr tr wt on f v a
def wk (M : Nat) (fr tr : Nat → Nat) (wt : Nat → Int) (on : Nat → Bool) (g : Nat) : Nat → Nat → Int
  | 0 => fun v => if v = g then 0 else fAR
  | k + 1 => fun v => wkA fr tr wt on (wk M fr tr wt on g k) v M
theorem wkA_s {fr tr : Nat → Nat} {wt : Nat → Int} {on : Nat → Bool} {f : Nat → Int} {v a : Nat} : wkA fr tr wt on f v (a + 1) = if on a = true ∧ fr a = v ∧ f (tr a) ≠ fAR ∧ f (tr a) + wt a < wkA fr tr wt on f v a then f (tr a) + wt a else wkA fr tr wt on f v a := rfl
theorem wkA_b {n M : Nat} {fr tr : Nat → Nat} {wt : Nat → Int} {on : Nat → Bool} {f : Nat → Int} {v : Nat} {B : Int} (hf : dF n M fr tr wt on) (hB : 0 ≤ B) (h : ∀ v, f v = fAR ∨ (-B ≤ f v ∧ f v ≤ B)) : ∀ a, a ≤ M → wkA fr tr wt on f v a = fAR ∨ (-(B + 1000000) ≤ wkA fr tr wt on f v a ∧ wkA fr tr wt on f v a ≤ B + 1000000)
  | 0, _ => Or.inl rfl
  | a + 1, ha => by
    have ih := wkA_b (v := v) hf hB h a (by omega)
    rw [wkA_s]
    by_cases q : on a = true ∧ fr a = v ∧ f (tr a) ≠ fAR ∧ f (tr a) + wt a < wkA fr tr wt on f v a
    · rw [if_pos q]
      have h1 := (h (tr a)).resolve_left q.2.2.1
      have h2 := (hf a (by omega) q.1).2
      exact Or.inr (by omega)
    · rw [if_neg q]; exact ih
theorem wk_b {n M : Nat} {fr tr : Nat → Nat} {wt : Nat → Int} {on : Nat → Bool} {g : Nat} (hf : dF n M fr tr wt on) : ∀ k v, wk M fr tr wt on g k v = fAR ∨ (-(1000000 * k) ≤ wk M fr tr wt on g k v ∧ wk M fr tr wt on g k v ≤ 1000000 * k)
  | 0, v => by
    show (if v = g then 0 else fAR) = fAR ∨ (-(1000000 * ((0 : Nat) : Int)) ≤ (if v = g then 0 else fAR) ∧ (if v = g then 0 else fAR) ≤ 1000000 * ((0 : Nat) : Int))
    split
    · exact Or.inr (by omega)
    · exact Or.inl rfl
  | k + 1, v => by
    have ih := wk_b (g := g) hf k
    have := wkA_b (v := v) (B := 1000000 * k) hf (by omega) ih M (Nat.le_refl _)
    show wkA fr tr wt on (wk M fr tr wt on g k) v M = fAR ∨ _
    rcases this with y | y
    · exact Or.inl y
    · refine Or.inr ?_
      show -(1000000 * ((k + 1 : Nat) : Int)) ≤ wkA fr tr wt on (wk M fr tr wt on g k) v M ∧ wkA fr tr wt on (wk M fr tr wt on g k) v M ≤ 1000000 * ((k + 1 : Nat) : Int)
      omega
def fw (A : AN) (g k v : Nat) : Int := wk A.M A.fr A.tr A.lr A.en g k v
def mt_fr (u u' : dm_S) : Prop := u'.1 = u.1 ∧ ∀ c, c ≠ 47 → u'.2 c = u.2 c
theorem mt_nt {u u' : dm_S} (h : mt_fr u u') : nt_fr u u' := ⟨fun c _ => by rw [h.1], fun c hc => h.2 c (fun z => by rw [z] at hc; revert hc; decide)⟩
theorem mt_frt {u u' u'' : dm_S} (h : mt_fr u u') (h2 : mt_fr u' u'') : mt_fr u u'' := ⟨h2.1.trans h.1, fun c a => (h2.2 c a).trans (h.2 c a)⟩
def sp_X0_measureTo (As : List Value) (u : dm_S) (Q : Option Value → dm_S → Prop) : Prop := match As with
  | [.ref 8, .int x, .int y] => ∃ (A : AN) (g m : Nat), A.ok ∧ CR u A ∧ g < A.n ∧ m ≤ 24 ∧ x = nI g ∧ y = nI m ∧ ∀ u' : dm_S, mt_fr u u' → (∀ k v, k ≤ m → v < 24 → u'.2 47 (24 * k + v) = lI (fw A g k v)) → Q none u'
  | _ => False
def p_X0_measureTo : List dm_I := [(0, .iconst 0, 1, []), (1, .istore_n 3, 1, [3]), (2, .iload_n 3, 1, [3]), (3, .iload_n 2, 1, [2]), (4, .iconst 1, 1, []), (5, .iadd, 1, []), (6, .bipush 24, 2, []), (8, .imul, 1, []), (9, .if_icmp .ge 27, 3, [36]), (12, .aload_n 0, 1, [0]), (13, .getfield 15, 3, []), (16, .iload_n 3, 1, [3]), (17, .iload_n 3, 1, [3]), (18, .iload_n 1, 1, [1]), (19, .if_icmp .ne 7, 3, [26]), (22, .lconst 0, 1, []), (23, .goto 6, 3, [29]), (26, .ldc2_w 68, 3, []), (29, .lastore, 1, []), (30, .iinc 3 1, 3, []), (33, .goto (-31), 3, [2]), (36, .iconst 1, 1, []), (37, .istore_n 3, 1, [3]), (38, .iload_n 3, 1, [3]), (39, .iload_n 2, 1, [2]), (40, .if_icmp .gt 135, 3, [175]), (43, .iconst 0, 1, []), (44, .istore 4, 2, []), (46, .iload 4, 2, []), (48, .aload_n 0, 1, [0]), (49, .getfield 19, 3, []), (52, .getfield 58, 3, []), (55, .if_icmp .ge 114, 3, [169]), (58, .aload_n 0, 1, [0]), (59, .getfield 15, 3, []), (62, .iload_n 3, 1, [3]), (63, .iconst 1, 1, []), (64, .isub, 1, []), (65, .bipush 24, 2, []), (67, .imul, 1, []), (68, .aload_n 0, 1, [0]), (69, .getfield 19, 3, []), (72, .getfield 48, 3, []), (75, .iload 4, 2, []), (77, .iaload, 1, []), (78, .iadd, 1, []), (79, .laload, 1, []), (80, .lstore 5, 2, []), (82, .iload_n 3, 1, [3]), (83, .bipush 24, 2, []), (85, .imul, 1, []), (86, .aload_n 0, 1, [0]), (87, .getfield 19, 3, []), (90, .getfield 35, 3, []), (93, .iload 4, 2, []), (95, .iaload, 1, []), (96, .iadd, 1, []), (97, .istore 7, 2, []), (99, .aload_n 0, 1, [0]), (100, .getfield 19, 3, []), (103, .getfield 60, 3, []), (106, .iload 4, 2, []), (108, .baload, 1, []), (109, .ifCond .eq 54, 3, [163]), (112, .lload 5, 2, []), (114, .ldc2_w 68, 3, []), (117, .lcmp, 1, []), (118, .ifCond .eq 45, 3, [163]), (121, .lload 5, 2, []), (123, .aload_n 0, 1, [0]), (124, .getfield 19, 3, []), (127, .iload 4, 2, []), (129, .invokevirtual 44, 3, []), (132, .ladd, 1, []), (133, .aload_n 0, 1, [0]), (134, .getfield 15, 3, []), (137, .iload 7, 2, []), (139, .laload, 1, []), (140, .lcmp, 1, []), (141, .ifCond .ge 22, 3, [163]), (144, .aload_n 0, 1, [0]), (145, .getfield 15, 3, []), (148, .iload 7, 2, []), (150, .lload 5, 2, []), (152, .aload_n 0, 1, [0]), (153, .getfield 19, 3, []), (156, .iload 4, 2, []), (158, .invokevirtual 44, 3, []), (161, .ladd, 1, []), (162, .lastore, 1, []), (163, .iinc 4 1, 3, []), (166, .goto (-120), 3, [46]), (169, .iinc 3 1, 3, []), (172, .goto (-134), 3, [38]), (175, .return_, 1, [])]
set_option maxRecDepth 100000 in
theorem v_X0_measureTo : p_X0_measureTo.all (dm_vb cX0_measureTo) = true := by decide +kernel
def k_X0_measureTo : dm_Sp := fun a => match a with
  | 0 => sp_X2_lastRate
  | _ => fun _ _ _ => False
def x_X0_measureTo : dm_X := dm_mk [(15, 0, 2), (19, 0, 0), (35, 2, 1), (48, 2, 2), (58, 2, 9), (60, 2, 3)] [] [(68, 1152921504606846976)] [(44, 0, 1, 2)] 0
set_option maxRecDepth 100000 in
set_option maxHeartbeats 1600000 in
theorem u_X0_measureTo : dm_Pure shC x_X0_measureTo k_X0_measureTo p_X0_measureTo 8 sp_X0_measureTo := by
  intro As u Qp hh
  unfold sp_X0_measureTo at hh
  split at hh
  · obtain ⟨A, g, m, hA, hC, hg, hm, rfl, rfl, h⟩ := hh
    obtain ⟨hn, hM⟩ := hA.1
    have hf := AN.dFe hA
    have hF0 : lB fAR := by unfold lB fAR; omega
    have hFe : (1152921504606846976 : Int64) = lI fAR := rfl
    have e24 : ∀ k v, nI k * 24 + nI v = nI (24 * k + v) := fun k v => by rw [show (24 : Int32) = nI 24 from rfl, pk_mul, nI_add, Nat.mul_comm]
    refine ⟨Nat.le_of_ble_eq_true rfl, fun G Wp hW0 hW1 hG => ?_⟩
    have loop2 : ∀ m2 k : Nat, k + m2 = m → ∀ (u' : dm_S) (o4 o5 o6 o7 : Option Value), mt_fr u u' → (∀ i v, i ≤ k → v < 24 → u'.2 47 (24 * i + v) = lI (fw A g i v)) → (∀ i v, k < i → i ≤ m → v < 24 → u'.2 47 (24 * i + v) = lI fAR) → G 38 [some (.ref 8), some (.int (nI g)), some (.int (nI m)), some (.int (nI (k + 1))), o4, o5, o6, o7] [] u' := by
      intro m2
      induction m2 with
      | zero =>
        intro k hk u' o4 o5 o6 o7 a1 a2 a3
        have e0 : k = m := by omega
        subst e0
        apply hG (fun pc => pc == 38) 120
        simp (config := { maxSteps := 2000000 }) [-Prod.forall, -Prod.exists, -exists_and_left, -exists_and_right, hW0, hW1, dm_fn, dm_fd, dm_x, dm_L0, dm_la, dm_t1, dm_sw, List.headD, dm_ic, dm_mk, dm_s1, dm_s2, dm_clr, dm_cs, dm_cc, dm_nb0, dm_nb1, Value.category, List.lookup, p_X0_measureTo, x_X0_measureTo, k_X0_measureTo, dm_cm, upd, vp_updL, dm_ui_1, dm_ui_2, dm_ul_1, dm_ul_2, sp_X2_lastRate, sC_0, sC_1, sC_2, sC_3, sC_4, sC_5, sC_6, sC_7, sC_8, sC_9, sC_10, sC_11, sC_12, sC_13, sC_14, sC_15, sC_16, sC_17, sC_18, sC_19, sC_20, sC_21, sC_22, sC_23, sC_24, sC_25, sC_26, sC_27, sC_28, sC_29, sC_30, sC_31, sC_32, sC_33, sC_34, sC_35, sC_36, sC_37, sC_38, sC_39, sC_40, sC_41, sC_42, sC_43, sC_44, sC_45, sC_46, sC_47, sC_48, sC_49, sC_50, sC_51]
        exact ⟨fun _ => h u' a1 a2, fun zq => absurd zq (nI_ge (by omega) (by omega))⟩
      | succ m2 ih =>
        intro k hk u' o4 o5 o6 o7 a1 a2 a3
        have inner : ∀ m3 a : Nat, a + m3 = A.M → ∀ (u' : dm_S) (o5 o6 o7 : Option Value), mt_fr u u' → (∀ i v, i ≤ k → v < 24 → u'.2 47 (24 * i + v) = lI (fw A g i v)) → (∀ i v, k + 1 < i → i ≤ m → v < 24 → u'.2 47 (24 * i + v) = lI fAR) → (∀ v, v < 24 → u'.2 47 (24 * (k + 1) + v) = lI (wkA A.fr A.tr A.lr A.en (fw A g k) v a)) → G 46 [some (.ref 8), some (.int (nI g)), some (.int (nI m)), some (.int (nI (k + 1))), some (.int (nI a)), o5, o6, o7] [] u' := by
          intro m3
          induction m3 with
          | zero =>
            intro a ha u' o5 o6 o7 b1 b2 b3 b4
            have e0 : a = A.M := by omega
            subst e0
            apply hG (fun pc => pc == 38 || pc == 46) 120
            simp (config := { maxSteps := 2000000 }) [-Prod.forall, -Prod.exists, -exists_and_left, -exists_and_right, hW0, hW1, dm_fn, dm_fd, dm_x, dm_L0, dm_la, dm_t1, dm_sw, List.headD, dm_ic, dm_mk, dm_s1, dm_s2, dm_clr, dm_cs, dm_cc, dm_nb0, dm_nb1, Value.category, List.lookup, p_X0_measureTo, x_X0_measureTo, k_X0_measureTo, dm_cm, upd, vp_updL, dm_ui_1, dm_ui_2, dm_ul_1, dm_ul_2, sp_X2_lastRate, sC_0, sC_1, sC_2, sC_3, sC_4, sC_5, sC_6, sC_7, sC_8, sC_9, sC_10, sC_11, sC_12, sC_13, sC_14, sC_15, sC_16, sC_17, sC_18, sC_19, sC_20, sC_21, sC_22, sC_23, sC_24, sC_25, sC_26, sC_27, sC_28, sC_29, sC_30, sC_31, sC_32, sC_33, sC_34, sC_35, sC_36, sC_37, sC_38, sC_39, sC_40, sC_41, sC_42, sC_43, sC_44, sC_45, sC_46, sC_47, sC_48, sC_49, sC_50, sC_51]
            rw [b1.1, hC.1.2, nI_1]
            refine ⟨fun _ => ih (k + 1) (by omega) u' _ _ _ _ b1 (fun i v hi hv => ?_) b3, fun zq => absurd zq (nI_nlt (Nat.le_refl _) (by omega))⟩
            by_cases z : i = k + 1
            · rw [z]; exact b4 v hv
            · exact b2 i v (by omega) hv
          | succ m3 ih3 =>
            intro a ha u' o5 o6 o7 b1 b2 b3 b4
            have ham : a < A.M := by omega
            obtain ⟨⟨c1, c2⟩, ⟨c3, -⟩, c5, c6⟩ := hC.2.2 a ham
            obtain ⟨⟨d1, d2, d3⟩, ⟨d4, d5⟩, -⟩ := hA.2.1 a ham
            have ca : (nI a).toNatClampNeg = a := nI_clamp (by omega)
            have ia : vp_in (nI a) 80 := vp_in_nI (by omega) (by omega)
            have et : nI k * 24 + nI (A.tr a) = nI (24 * k + A.tr a) := e24 _ _
            have ef : nI (k + 1) * 24 + nI (A.fr a) = nI (24 * (k + 1) + A.fr a) := e24 _ _
            have ct : (nI (24 * k + A.tr a)).toNatClampNeg = 24 * k + A.tr a := nI_clamp (by omega)
            have cf : (nI (24 * (k + 1) + A.fr a)).toNatClampNeg = 24 * (k + 1) + A.fr a := nI_clamp (by omega)
            have it : vp_in (nI (24 * k + A.tr a)) 600 := vp_in_nI (by omega) (by omega)
            have if_ : vp_in (nI (24 * (k + 1) + A.fr a)) 600 := vp_in_nI (by omega) (by omega)
            have cl : (nI (4 * a + A.pt a - 1)).toNatClampNeg = 4 * a + A.pt a - 1 := nI_clamp (by omega)
            have il : vp_in (nI (4 * a + A.pt a - 1)) 320 := vp_in_nI (by omega) (by omega)
            have vr : u'.2 18 (4 * a + A.pt a - 1) = lI (A.lr a) := by
              rw [b1.2 18 (by decide)]
              have := (c6 (A.pt a - 1) (by omega)).2
              unfold AN.lr
              rw [show 4 * a + A.pt a - 1 = 4 * a + (A.pt a - 1) by omega]
              exact this
            have vt := b2 k (A.tr a) (Nat.le_refl _) (by omega)
            have vf := b4 (A.fr a) (by omega)
            have hbt := wk_b (g := g) hf k (A.tr a)
            have hbf := wkA_b (v := A.fr a) (B := 1000000 * k) hf (by omega) (fun v => wk_b (g := g) hf k v) a (by omega)
            have lbt : lB (fw A g k (A.tr a)) := by unfold lB fw fAR at *; omega
            have lbf : lB (wkA A.fr A.tr A.lr A.en (fw A g k) (A.fr a) a) := by
              have hbf2 : wkA A.fr A.tr A.lr A.en (fw A g k) (A.fr a) a = fAR ∨ (-(1000000 * (k : Int) + 1000000) ≤ wkA A.fr A.tr A.lr A.en (fw A g k) (A.fr a) a ∧ wkA A.fr A.tr A.lr A.en (fw A g k) (A.fr a) a ≤ 1000000 * (k : Int) + 1000000) := hbf
              unfold lB fAR at *; omega
            have hnx : ∀ v, wkA A.fr A.tr A.lr A.en (fw A g k) v (a + 1) = if A.en a = true ∧ A.fr a = v ∧ fw A g k (A.tr a) ≠ fAR ∧ fw A g k (A.tr a) + A.lr a < wkA A.fr A.tr A.lr A.en (fw A g k) v a then fw A g k (A.tr a) + A.lr a else wkA A.fr A.tr A.lr A.en (fw A g k) v a := fun v => rfl
            have keep : ¬ (A.en a = true ∧ fw A g k (A.tr a) ≠ fAR ∧ fw A g k (A.tr a) + A.lr a < wkA A.fr A.tr A.lr A.en (fw A g k) (A.fr a) a) → ∀ (o5 o6 o7 : Option Value), G 46 [some (.ref 8), some (.int (nI g)), some (.int (nI m)), some (.int (nI (k + 1))), some (.int (nI (a + 1))), o5, o6, o7] [] u' := by
              intro hk2 o5 o6 o7
              refine ih3 (a + 1) (by omega) u' _ _ _ b1 b2 b3 (fun v hv => ?_)
              rw [hnx v, if_neg (fun z => hk2 ⟨z.1, z.2.2.1, by rw [z.2.1]; exact z.2.2.2⟩)]
              exact b4 v hv
            apply hG (fun pc => pc == 38 || pc == 46) 120
            simp (config := { maxSteps := 2000000 }) [-Prod.forall, -Prod.exists, -exists_and_left, -exists_and_right, hW0, hW1, dm_fn, dm_fd, dm_x, dm_L0, dm_la, dm_t1, dm_sw, List.headD, dm_ic, dm_mk, dm_s1, dm_s2, dm_clr, dm_cs, dm_cc, dm_nb0, dm_nb1, Value.category, List.lookup, p_X0_measureTo, x_X0_measureTo, k_X0_measureTo, dm_cm, upd, vp_updL, dm_ui_1, dm_ui_2, dm_ul_1, dm_ul_2, sp_X2_lastRate, sC_0, sC_1, sC_2, sC_3, sC_4, sC_5, sC_6, sC_7, sC_8, sC_9, sC_10, sC_11, sC_12, sC_13, sC_14, sC_15, sC_16, sC_17, sC_18, sC_19, sC_20, sC_21, sC_22, sC_23, sC_24, sC_25, sC_26, sC_27, sC_28, sC_29, sC_30, sC_31, sC_32, sC_33, sC_34, sC_35, sC_36, sC_37, sC_38, sC_39, sC_40, sC_41, sC_42, sC_43, sC_44, sC_45, sC_46, sC_47, sC_48, sC_49, sC_50, sC_51]
            rw [b1.1, hC.1.2, nI_pred, nI_1, ca, c1, c2, c3, c5, et, ef, ct, cf, vt, vf, hFe, lI_eq lbt hF0, dm_lp d4, cl, vr, lI_add, nI_1]
            refine ⟨fun zq => absurd zq (nI_ge (by omega) (by omega)), fun zq => ⟨ia, it, ia, fun z => keep (fun y => ?_) _ _ _, fun z => ⟨fun z2 => keep (fun y => y.2.1 z2) _ _ _, fun z2 => ⟨ia, il, ?_⟩⟩⟩⟩
            · rw [y.1] at z; cases z
            · have z0 : A.en a = true := by
                cases y : A.en a
                · rw [y] at z; exact absurd rfl z
                · rfl
              have hbt2 : -(1000000 * (k : Int)) ≤ fw A g k (A.tr a) ∧ fw A g k (A.tr a) ≤ 1000000 * k := hbt.resolve_left z2
              have hlr := (hf a ham z0).2
              have lbn : lB (fw A g k (A.tr a) + A.lr a) := by unfold lB; omega
              rw [lI_le lbf lbn, lI_lt lbn lbf]
              refine ⟨if_, fun z3 => keep (fun y => by omega) _ _ _, fun z3 => ⟨ia, il, if_, ?_⟩⟩
              refine ih3 (a + 1) (by omega) _ _ _ _ (mt_frt b1 ⟨rfl, fun c hc => by rw [dm_ul_2, if_neg hc]⟩) (fun i v hi hv => ?_) (fun i v hi hi2 hv => ?_) (fun v hv => ?_)
              · rw [dm_ul_2, if_pos rfl]
                unfold vp_updL
                rw [if_neg (by omega)]; exact b2 i v hi hv
              · rw [dm_ul_2, if_pos rfl]
                unfold vp_updL
                rw [if_neg (by omega)]; exact b3 i v hi hi2 hv
              · rw [dm_ul_2, if_pos rfl]
                unfold vp_updL
                by_cases y : v = A.fr a
                · rw [if_pos (by rw [y]), hnx v, if_pos ⟨z0, y.symm, z2, by rw [y]; exact z3⟩]
                · rw [if_neg (by omega), hnx v, if_neg (fun w => y w.2.1.symm)]
                  exact b4 v hv
        apply hG (fun pc => pc == 38 || pc == 46) 120
        simp (config := { maxSteps := 2000000 }) [-Prod.forall, -Prod.exists, -exists_and_left, -exists_and_right, hW0, hW1, dm_fn, dm_fd, dm_x, dm_L0, dm_la, dm_t1, dm_sw, List.headD, dm_ic, dm_mk, dm_s1, dm_s2, dm_clr, dm_cs, dm_cc, dm_nb0, dm_nb1, Value.category, List.lookup, p_X0_measureTo, x_X0_measureTo, k_X0_measureTo, dm_cm, upd, vp_updL, dm_ui_1, dm_ui_2, dm_ul_1, dm_ul_2, sp_X2_lastRate, sC_0, sC_1, sC_2, sC_3, sC_4, sC_5, sC_6, sC_7, sC_8, sC_9, sC_10, sC_11, sC_12, sC_13, sC_14, sC_15, sC_16, sC_17, sC_18, sC_19, sC_20, sC_21, sC_22, sC_23, sC_24, sC_25, sC_26, sC_27, sC_28, sC_29, sC_30, sC_31, sC_32, sC_33, sC_34, sC_35, sC_36, sC_37, sC_38, sC_39, sC_40, sC_41, sC_42, sC_43, sC_44, sC_45, sC_46, sC_47, sC_48, sC_49, sC_50, sC_51]
        refine ⟨fun zq => absurd zq (nI_nlt (by omega) (by omega)), fun zq => inner A.M 0 (by omega) u' _ _ _ a1 a2 (fun i v hi hi2 hv => a3 i v (by omega) hi2 hv) (fun v hv => a3 (k + 1) v (by omega) (by omega) hv)⟩
    have loop1 : ∀ m2 i : Nat, i + m2 = 24 * (m + 1) → ∀ u' : dm_S, mt_fr u u' → (∀ j, j < i → u'.2 47 j = lI (if j = g then 0 else fAR)) → G 2 [some (.ref 8), some (.int (nI g)), some (.int (nI m)), some (.int (nI i)), none, none, none, none] [] u' := by
      intro m2
      induction m2 with
      | zero =>
        intro i hi u' a1 a2
        apply hG (fun pc => pc == 2 || pc == 38) 120
        simp (config := { maxSteps := 2000000 }) [-Prod.forall, -Prod.exists, -exists_and_left, -exists_and_right, hW0, hW1, dm_fn, dm_fd, dm_x, dm_L0, dm_la, dm_t1, dm_sw, List.headD, dm_ic, dm_mk, dm_s1, dm_s2, dm_clr, dm_cs, dm_cc, dm_nb0, dm_nb1, Value.category, List.lookup, p_X0_measureTo, x_X0_measureTo, k_X0_measureTo, dm_cm, upd, vp_updL, dm_ui_1, dm_ui_2, dm_ul_1, dm_ul_2, sp_X2_lastRate, sC_0, sC_1, sC_2, sC_3, sC_4, sC_5, sC_6, sC_7, sC_8, sC_9, sC_10, sC_11, sC_12, sC_13, sC_14, sC_15, sC_16, sC_17, sC_18, sC_19, sC_20, sC_21, sC_22, sC_23, sC_24, sC_25, sC_26, sC_27, sC_28, sC_29, sC_30, sC_31, sC_32, sC_33, sC_34, sC_35, sC_36, sC_37, sC_38, sC_39, sC_40, sC_41, sC_42, sC_43, sC_44, sC_45, sC_46, sC_47, sC_48, sC_49, sC_50, sC_51]
        rw [nI_1, show (24 : Int32) = nI 24 from rfl, pk_mul, Nat.mul_comm]
        refine ⟨fun _ => ?_, fun zq => absurd zq (nI_nlt (by omega) (by omega))⟩
        refine loop2 m 0 (by omega) u' _ _ _ _ a1 (fun k v hk hv => ?_) (fun k v hk hk2 hv => ?_)
        · rw [a2 _ (by omega), show k = 0 by omega, show 24 * 0 + v = v by omega]; rfl
        · rw [a2 _ (by omega), if_neg (by omega)]
      | succ m2 ih =>
        intro i hi u' a1 a2
        have ci : (nI i).toNatClampNeg = i := nI_clamp (by omega)
        have ii : vp_in (nI i) 600 := vp_in_nI (by omega) (by omega)
        apply hG (fun pc => pc == 2 || pc == 38) 120
        simp (config := { maxSteps := 2000000 }) [-Prod.forall, -Prod.exists, -exists_and_left, -exists_and_right, hW0, hW1, dm_fn, dm_fd, dm_x, dm_L0, dm_la, dm_t1, dm_sw, List.headD, dm_ic, dm_mk, dm_s1, dm_s2, dm_clr, dm_cs, dm_cc, dm_nb0, dm_nb1, Value.category, List.lookup, p_X0_measureTo, x_X0_measureTo, k_X0_measureTo, dm_cm, upd, vp_updL, dm_ui_1, dm_ui_2, dm_ul_1, dm_ul_2, sp_X2_lastRate, sC_0, sC_1, sC_2, sC_3, sC_4, sC_5, sC_6, sC_7, sC_8, sC_9, sC_10, sC_11, sC_12, sC_13, sC_14, sC_15, sC_16, sC_17, sC_18, sC_19, sC_20, sC_21, sC_22, sC_23, sC_24, sC_25, sC_26, sC_27, sC_28, sC_29, sC_30, sC_31, sC_32, sC_33, sC_34, sC_35, sC_36, sC_37, sC_38, sC_39, sC_40, sC_41, sC_42, sC_43, sC_44, sC_45, sC_46, sC_47, sC_48, sC_49, sC_50, sC_51]
        rw [nI_1, nI_1, show (24 : Int32) = nI 24 from rfl, pk_mul, Nat.mul_comm, ci, nI_eq (by omega) (by omega)]
        have step : ∀ x : Int64, x = lI (if i = g then 0 else fAR) → G 2 [some (.ref 8), some (.int (nI g)), some (.int (nI m)), some (.int (nI (i + 1))), none, none, none, none] [] (dm_ul u' 47 i x) := by
          intro x hx
          refine ih (i + 1) (by omega) _ (mt_frt a1 ⟨rfl, fun c hc => by rw [dm_ul_2, if_neg hc]⟩) (fun j hj => ?_)
          rw [dm_ul_2, if_pos rfl]
          unfold vp_updL
          by_cases z : j = i
          · rw [if_pos z, z]; exact hx
          · rw [if_neg z]; exact a2 j (by omega)
        refine ⟨fun zq => absurd zq (nI_ge (by omega) (by omega)), fun zq => ⟨fun z => ⟨ii, step _ ?_⟩, fun z => ⟨ii, step _ ?_⟩⟩⟩
        · rw [if_neg z]; rfl
        · rw [if_pos z]; rfl
    apply hG (fun pc => pc == 2) 120
    simp (config := { maxSteps := 2000000 }) [-Prod.forall, -Prod.exists, -exists_and_left, -exists_and_right, hW0, hW1, dm_fn, dm_fd, dm_x, dm_L0, dm_la, dm_t1, dm_sw, List.headD, dm_ic, dm_mk, dm_s1, dm_s2, dm_clr, dm_cs, dm_cc, dm_nb0, dm_nb1, Value.category, List.lookup, p_X0_measureTo, x_X0_measureTo, k_X0_measureTo, dm_cm, upd, vp_updL, dm_ui_1, dm_ui_2, dm_ul_1, dm_ul_2, sp_X2_lastRate, sC_0, sC_1, sC_2, sC_3, sC_4, sC_5, sC_6, sC_7, sC_8, sC_9, sC_10, sC_11, sC_12, sC_13, sC_14, sC_15, sC_16, sC_17, sC_18, sC_19, sC_20, sC_21, sC_22, sC_23, sC_24, sC_25, sC_26, sC_27, sC_28, sC_29, sC_30, sC_31, sC_32, sC_33, sC_34, sC_35, sC_36, sC_37, sC_38, sC_39, sC_40, sC_41, sC_42, sC_43, sC_44, sC_45, sC_46, sC_47, sC_48, sC_49, sC_50, sC_51]
    exact loop1 (24 * (m + 1)) 0 (by omega) u ⟨rfl, fun _ _ => rfl⟩ (fun j hj => by omega)
  · exact hh.elim
set_option maxRecDepth 100000 in
theorem t_X0_measureTo (l : Launch) (D : va_G) (cA : Nat → ClassId) (ad : Nat → Nat) : dm_Met l D dm_cl cA ad shC yX0_measureTo (Cond.code yX0_measureTo cX0_measureTo 8 (dm_rt 0) :: dm_tt) ({ frames := 2, cells := 0, slots := 0, locals := 42 } : Room) sp_X0_measureTo := dm_meth (own := RX0) (X := x_X0_measureTo) (Sp := k_X0_measureTo) (prog := p_X0_measureTo) (by decide +kernel) rfl rfl (dm_FO_s ffX0 [(15, 0, 2), (19, 0, 0), (35, 2, 1), (48, 2, 2), (58, 2, 9), (60, 2, 3)] rfl dm_hT (by decide +kernel)) (dm_IO_s ifX0 jfX0 [] [(68, 1152921504606846976)] rfl rfl dm_hT (by decide +kernel) (by decide +kernel)) soC (dm_MO_of (List.forall_mem_cons.mpr ⟨dm_M1_of (t_X2_lastRate l D cA ad) dm_hT (dm_mem [651, 67, 665] (by decide +kernel) (by decide +kernel)) (by decide) (by decide +kernel) (Or.inr ⟨by decide, dm_mem [649, 650] (by decide +kernel) (by decide +kernel), rfl⟩), fun _ h => absurd h List.not_mem_nil⟩)) v_X0_measureTo u_X0_measureTo
