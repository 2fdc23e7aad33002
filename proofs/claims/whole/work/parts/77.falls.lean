/-! ===== Falling: fewestArcs, lowestOfRings, lowestFrom, seek ===== -/
def isLow (P : Nat → Prop) (a : Nat) : Prop := P a ∧ ∀ i, i < a → ¬ P i
theorem fw_b {A : AN} (hA : A.ok) (g k v : Nat) : fw A g k v = fAR ∨ (-(1000000 * k) ≤ fw A g k v ∧ fw A g k v ≤ 1000000 * k) := wk_b (AN.dFe hA) k v
theorem fw_l {A : AN} (hA : A.ok) {g k v : Nat} (hk : k ≤ 24) : lB (fw A g k v) ∧ -24000000 ≤ fw A g k v ∧ fw A g k v ≤ fAR := by
  have := fw_b hA g k v
  unfold lB fAR at *
  omega
def sp_X0_fewestArcs (As : List Value) (u : dm_S) (Q : Option Value → dm_S → Prop) : Prop := match As with
  | [.ref 8] => ∃ A : AN, A.ok ∧ CR u A ∧ 1 ≤ A.n ∧ ∀ (u' : dm_S) (f : Nat), mt_fr u u' → 1 ≤ f → f ≤ A.n → (∀ g s, g < A.n → 1 ≤ s → s < f → 0 ≤ fw A g s g) → (f = A.n ∨ ∃ g, g < A.n ∧ fw A g f g < 0) → Q (some (.int (nI f))) u'
  | _ => False
def p_X0_fewestArcs : List dm_I := [(0, .aload_n 0, 1, [0]), (1, .getfield 19, 3, []), (4, .getfield 55, 3, []), (7, .istore_n 1, 1, [1]), (8, .iconst 0, 1, []), (9, .istore_n 2, 1, [2]), (10, .iload_n 2, 1, [2]), (11, .aload_n 0, 1, [0]), (12, .getfield 19, 3, []), (15, .getfield 55, 3, []), (18, .if_icmp .ge 48, 3, [66]), (21, .aload_n 0, 1, [0]), (22, .iload_n 2, 1, [2]), (23, .iload_n 1, 1, [1]), (24, .iconst 1, 1, []), (25, .isub, 1, []), (26, .invokevirtual 40, 3, []), (29, .iconst 1, 1, []), (30, .istore_n 3, 1, [3]), (31, .iload_n 3, 1, [3]), (32, .iload_n 1, 1, [1]), (33, .if_icmp .ge 27, 3, [60]), (36, .aload_n 0, 1, [0]), (37, .getfield 15, 3, []), (40, .iload_n 3, 1, [3]), (41, .bipush 24, 2, []), (43, .imul, 1, []), (44, .iload_n 2, 1, [2]), (45, .iadd, 1, []), (46, .laload, 1, []), (47, .lconst 0, 1, []), (48, .lcmp, 1, []), (49, .ifCond .ge 5, 3, [54]), (52, .iload_n 3, 1, [3]), (53, .istore_n 1, 1, [1]), (54, .iinc 3 1, 3, []), (57, .goto (-26), 3, [31]), (60, .iinc 2 1, 3, []), (63, .goto (-53), 3, [10]), (66, .iload_n 1, 1, [1]), (67, .ireturn, 1, [])]
set_option maxRecDepth 100000 in
theorem v_X0_fewestArcs : p_X0_fewestArcs.all (dm_vb cX0_fewestArcs) = true := by decide +kernel
def k_X0_fewestArcs : dm_Sp := fun a => match a with
  | 0 => sp_X0_measureTo
  | _ => fun _ _ _ => False
def x_X0_fewestArcs : dm_X := dm_mk [(15, 0, 2), (19, 0, 0), (55, 2, 8)] [] [] [(40, 0, 2, 0)] 1
set_option maxRecDepth 100000 in
set_option maxHeartbeats 1600000 in
theorem u_X0_fewestArcs : dm_Pure shC x_X0_fewestArcs k_X0_fewestArcs p_X0_fewestArcs 4 sp_X0_fewestArcs := by
  intro As u Qp hh
  unfold sp_X0_fewestArcs at hh
  split at hh
  · obtain ⟨A, hA, hC, hn1, h⟩ := hh
    obtain ⟨hn, hM⟩ := hA.1
    have hB0 : lB 0 := by unfold lB; omega
    have h00 : (0 : Int64) = lI 0 := rfl
    refine ⟨Nat.le_of_ble_eq_true rfl, fun G Wp hW0 hW1 hG => ?_⟩
    have outer : ∀ m g : Nat, g + m = A.n → ∀ (u' : dm_S) (f : Nat) (o3 : Option Value), mt_fr u u' → 1 ≤ f → f ≤ A.n → (∀ g' s, g' < g → 1 ≤ s → s < f → 0 ≤ fw A g' s g') → (f = A.n ∨ ∃ g', g' < A.n ∧ fw A g' f g' < 0) → G 10 [some (.ref 8), some (.int (nI f)), some (.int (nI g)), o3] [] u' := by
      intro m
      induction m with
      | zero =>
        intro g hg u' f o3 a1 a2 a3 a4 a5
        have e0 : g = A.n := by omega
        subst e0
        apply hG (fun pc => pc == 10) 80
        simp (config := { maxSteps := 2000000 }) [-Prod.forall, -Prod.exists, -exists_and_left, -exists_and_right, hW0, hW1, dm_fn, dm_fd, dm_x, dm_L0, dm_la, dm_t1, dm_sw, List.headD, dm_ic, dm_mk, dm_s1, dm_s2, dm_clr, dm_cs, dm_cc, dm_nb0, dm_nb1, Value.category, List.lookup, p_X0_fewestArcs, x_X0_fewestArcs, k_X0_fewestArcs, dm_cm, upd, vp_updL, dm_ui_1, dm_ui_2, dm_ul_1, dm_ul_2, sp_X0_measureTo, sC_0, sC_1, sC_2, sC_3, sC_4, sC_5, sC_6, sC_7, sC_8, sC_9, sC_10, sC_11, sC_12, sC_13, sC_14, sC_15, sC_16, sC_17, sC_18, sC_19, sC_20, sC_21, sC_22, sC_23, sC_24, sC_25, sC_26, sC_27, sC_28, sC_29, sC_30, sC_31, sC_32, sC_33, sC_34, sC_35, sC_36, sC_37, sC_38, sC_39, sC_40, sC_41, sC_42, sC_43, sC_44, sC_45, sC_46, sC_47, sC_48, sC_49, sC_50, sC_51]
        rw [a1.1, hC.1.1]
        exact ⟨fun _ => h u' f a1 a2 a3 a4 a5, fun zq => absurd zq (nI_nlt (Nat.le_refl _) (by omega))⟩
      | succ m ih =>
        intro g hg u' f o3 a1 a2 a3 a4 a5
        have inner : ∀ (u2 : dm_S), mt_fr u u2 → (∀ k v, k ≤ f - 1 → v < 24 → u2.2 47 (24 * k + v) = lI (fw A g k v)) → ∀ m2 s : Nat, 1 ≤ s → s + m2 ≤ 60 → ∀ f' : Nat, 1 ≤ f' → f' ≤ f → f' ≤ s + m2 → (∀ s', 1 ≤ s' → s' < s → s' < f' → 0 ≤ fw A g s' g) → (f' = f ∨ (f' < s ∧ fw A g f' g < 0)) → G 31 [some (.ref 8), some (.int (nI f')), some (.int (nI g)), some (.int (nI s))] [] u2 := by
          intro u2 b1 b2 m2
          have fin : ∀ s f' : Nat, 1 ≤ f' → f' ≤ f → (∀ s', 1 ≤ s' → s' < f' → 0 ≤ fw A g s' g) → (f' = f ∨ fw A g f' g < 0) → ∀ o3, G 10 [some (.ref 8), some (.int (nI f')), some (.int (nI (g + 1))), o3] [] u2 := by
            intro s f' c1 c2 c3 c4 o3
            refine ih (g + 1) (by omega) u2 f' _ b1 c1 (by omega) (fun g' s' h1 h2 h3 => ?_) ?_
            · rcases Nat.lt_or_ge g' g with y | y
              · exact a4 g' s' y h2 (by omega)
              · rw [show g' = g by omega]; exact c3 s' h2 h3
            · rcases c4 with y | y
              · rw [y]; exact a5
              · exact Or.inr ⟨g, by omega, y⟩
          induction m2 with
          | zero =>
            intro s hs hs60 f' c1 c2 c3 c4 c5
            apply hG (fun pc => pc == 10 || pc == 31) 80
            simp (config := { maxSteps := 2000000 }) [-Prod.forall, -Prod.exists, -exists_and_left, -exists_and_right, hW0, hW1, dm_fn, dm_fd, dm_x, dm_L0, dm_la, dm_t1, dm_sw, List.headD, dm_ic, dm_mk, dm_s1, dm_s2, dm_clr, dm_cs, dm_cc, dm_nb0, dm_nb1, Value.category, List.lookup, p_X0_fewestArcs, x_X0_fewestArcs, k_X0_fewestArcs, dm_cm, upd, vp_updL, dm_ui_1, dm_ui_2, dm_ul_1, dm_ul_2, sp_X0_measureTo, sC_0, sC_1, sC_2, sC_3, sC_4, sC_5, sC_6, sC_7, sC_8, sC_9, sC_10, sC_11, sC_12, sC_13, sC_14, sC_15, sC_16, sC_17, sC_18, sC_19, sC_20, sC_21, sC_22, sC_23, sC_24, sC_25, sC_26, sC_27, sC_28, sC_29, sC_30, sC_31, sC_32, sC_33, sC_34, sC_35, sC_36, sC_37, sC_38, sC_39, sC_40, sC_41, sC_42, sC_43, sC_44, sC_45, sC_46, sC_47, sC_48, sC_49, sC_50, sC_51]
            rw [nI_1]
            refine ⟨fun _ => fin s f' c1 c2 (fun s' h1 h2 => c4 s' h1 (by omega) h2) (by rcases c5 with y | y; exact Or.inl y; exact Or.inr y.2) _, fun zq => absurd zq (nI_nlt (by omega) (by omega))⟩
          | succ m2 ih2 =>
            intro s hs hs60 f' c1 c2 c3 c4 c5
            apply hG (fun pc => pc == 10 || pc == 31) 80
            simp (config := { maxSteps := 2000000 }) [-Prod.forall, -Prod.exists, -exists_and_left, -exists_and_right, hW0, hW1, dm_fn, dm_fd, dm_x, dm_L0, dm_la, dm_t1, dm_sw, List.headD, dm_ic, dm_mk, dm_s1, dm_s2, dm_clr, dm_cs, dm_cc, dm_nb0, dm_nb1, Value.category, List.lookup, p_X0_fewestArcs, x_X0_fewestArcs, k_X0_fewestArcs, dm_cm, upd, vp_updL, dm_ui_1, dm_ui_2, dm_ul_1, dm_ul_2, sp_X0_measureTo, sC_0, sC_1, sC_2, sC_3, sC_4, sC_5, sC_6, sC_7, sC_8, sC_9, sC_10, sC_11, sC_12, sC_13, sC_14, sC_15, sC_16, sC_17, sC_18, sC_19, sC_20, sC_21, sC_22, sC_23, sC_24, sC_25, sC_26, sC_27, sC_28, sC_29, sC_30, sC_31, sC_32, sC_33, sC_34, sC_35, sC_36, sC_37, sC_38, sC_39, sC_40, sC_41, sC_42, sC_43, sC_44, sC_45, sC_46, sC_47, sC_48, sC_49, sC_50, sC_51]
            rw [nI_1, nI_1, show (24 : Int32) = nI 24 from rfl, pk_mul, nI_add, Nat.mul_comm]
            rcases Nat.lt_or_ge s f' with hlt | hge
            · have cs : (nI (24 * s + g)).toNatClampNeg = 24 * s + g := nI_clamp (by omega)
              rw [cs, b2 s g (by omega) (by omega), h00, lI_le hB0 (fw_l hA (by omega)).1, lI_lt (fw_l hA (by omega)).1 hB0]
              refine ⟨fun zq => absurd zq (nI_ge (by omega) (by omega)), fun zq => ⟨vp_in_nI (by omega) (by omega), fun z => ih2 (s + 1) (by omega) (by omega) f' c1 c2 (by omega) (fun s' h1 h2 h3 => ?_) ?_, fun z => ih2 (s + 1) (by omega) (by omega) s hs (by omega) (by omega) (fun s' h1 h2 h3 => c4 s' h1 (by omega) (by omega)) (Or.inr ⟨by omega, z⟩)⟩⟩
              · rcases Nat.lt_or_ge s' s with y | y
                · exact c4 s' h1 y h3
                · rw [show s' = s by omega]; exact z
              · rcases c5 with y | y
                · exact Or.inl y
                · exact Or.inr ⟨by omega, y.2⟩
            · exact ⟨fun _ => fin s f' c1 c2 (fun s' h1 h2 => c4 s' h1 (by omega) h2) (by rcases c5 with y | y; exact Or.inl y; exact Or.inr y.2) _, fun zq => absurd zq (nI_nlt (by omega) (by omega))⟩
        apply hG (fun pc => pc == 10 || pc == 31) 80
        simp (config := { maxSteps := 2000000 }) [-Prod.forall, -Prod.exists, -exists_and_left, -exists_and_right, hW0, hW1, dm_fn, dm_fd, dm_x, dm_L0, dm_la, dm_t1, dm_sw, List.headD, dm_ic, dm_mk, dm_s1, dm_s2, dm_clr, dm_cs, dm_cc, dm_nb0, dm_nb1, Value.category, List.lookup, p_X0_fewestArcs, x_X0_fewestArcs, k_X0_fewestArcs, dm_cm, upd, vp_updL, dm_ui_1, dm_ui_2, dm_ul_1, dm_ul_2, sp_X0_measureTo, sC_0, sC_1, sC_2, sC_3, sC_4, sC_5, sC_6, sC_7, sC_8, sC_9, sC_10, sC_11, sC_12, sC_13, sC_14, sC_15, sC_16, sC_17, sC_18, sC_19, sC_20, sC_21, sC_22, sC_23, sC_24, sC_25, sC_26, sC_27, sC_28, sC_29, sC_30, sC_31, sC_32, sC_33, sC_34, sC_35, sC_36, sC_37, sC_38, sC_39, sC_40, sC_41, sC_42, sC_43, sC_44, sC_45, sC_46, sC_47, sC_48, sC_49, sC_50, sC_51]
        rw [a1.1, hC.1.1, nI_sub1 a2]
        refine ⟨fun zq => absurd zq (nI_ge (by omega) (by omega)), fun zq => ⟨A, g, f - 1, hA, CR_fr hC (mt_nt a1), by omega, by omega, rfl, rfl, fun u2 b1 b2 => ?_⟩⟩
        exact inner u2 (mt_frt a1 b1) b2 f 1 (Nat.le_refl _) (by omega) f a2 (Nat.le_refl _) (by omega) (fun s' h1 h2 => by omega) (Or.inl rfl)
    apply hG (fun pc => pc == 10) 80
    simp (config := { maxSteps := 2000000 }) [-Prod.forall, -Prod.exists, -exists_and_left, -exists_and_right, hW0, hW1, dm_fn, dm_fd, dm_x, dm_L0, dm_la, dm_t1, dm_sw, List.headD, dm_ic, dm_mk, dm_s1, dm_s2, dm_clr, dm_cs, dm_cc, dm_nb0, dm_nb1, Value.category, List.lookup, p_X0_fewestArcs, x_X0_fewestArcs, k_X0_fewestArcs, dm_cm, upd, vp_updL, dm_ui_1, dm_ui_2, dm_ul_1, dm_ul_2, sp_X0_measureTo, sC_0, sC_1, sC_2, sC_3, sC_4, sC_5, sC_6, sC_7, sC_8, sC_9, sC_10, sC_11, sC_12, sC_13, sC_14, sC_15, sC_16, sC_17, sC_18, sC_19, sC_20, sC_21, sC_22, sC_23, sC_24, sC_25, sC_26, sC_27, sC_28, sC_29, sC_30, sC_31, sC_32, sC_33, sC_34, sC_35, sC_36, sC_37, sC_38, sC_39, sC_40, sC_41, sC_42, sC_43, sC_44, sC_45, sC_46, sC_47, sC_48, sC_49, sC_50, sC_51]
    rw [hC.1.1]
    exact outer A.n 0 (by omega) u A.n _ ⟨rfl, fun _ _ => rfl⟩ hn1 (Nat.le_refl _) (fun g' s h1 => by omega) (Or.inl rfl)
  · exact hh.elim
set_option maxRecDepth 100000 in
theorem t_X0_fewestArcs (l : Launch) (D : va_G) (cA : Nat → ClassId) (ad : Nat → Nat) : dm_Met l D dm_cl cA ad shC yX0_fewestArcs (Cond.code yX0_fewestArcs cX0_fewestArcs 4 (dm_rt 1) :: dm_tt) ({ frames := 3, cells := 0, slots := 0, locals := 69 } : Room) sp_X0_fewestArcs := dm_meth (own := RX0) (X := x_X0_fewestArcs) (Sp := k_X0_fewestArcs) (prog := p_X0_fewestArcs) (by decide +kernel) rfl rfl (dm_FO_s ffX0 [(15, 0, 2), (19, 0, 0), (55, 2, 8)] rfl dm_hT (by decide +kernel)) (dm_IO_s ifX0 jfX0 [] [] rfl rfl dm_hT (by decide +kernel) (by decide +kernel)) soC (dm_MO_of (List.forall_mem_cons.mpr ⟨dm_M1_of (t_X0_measureTo l D cA ad) dm_hT (dm_mem [663, 74, 660] (by decide +kernel) (by decide +kernel)) (by decide) (by decide +kernel) (Or.inr ⟨by decide, dm_mem [662, 11] (by decide +kernel) (by decide +kernel), rfl⟩), fun _ h => absurd h List.not_mem_nil⟩)) v_X0_fewestArcs u_X0_fewestArcs
/-- a ring of f arcs begins with a -/
def rgA (A : AN) (f a : Nat) : Prop := a < A.M ∧ A.en a = true ∧ A.lr a + fw A (A.fr a) (f - 1) (A.tr a) < 0
def sp_X0_lowestOfRings (As : List Value) (u : dm_S) (Q : Option Value → dm_S → Prop) : Prop := match As with
  | [.ref 8, .int x] => ∃ (A : AN) (f a : Nat), A.ok ∧ CR u A ∧ 1 ≤ f ∧ f ≤ A.n ∧ x = nI f ∧ isLow (rgA A f) a ∧ ∀ u' : dm_S, mt_fr u u' → Q (some (.int (nI a))) u'
  | _ => False
theorem eb_I {u : dm_S} {A : AN} (hA : A.ok) (hC : CR u A) {a k g : Nat} {s : Int} (ha : a < A.M) (hk : k ≤ 24) (ht : ∀ v, v < 24 → u.2 47 (24 * k + v) = lI (fw A g k v)) (hs : -48000000 ≤ s ∧ s ≤ 48000000) : (vp_in (nI a) 80 ∧ vp_in (nI a * 4 + u.1 16 (nI a).toNatClampNeg - 1) 320 ∧ vp_in (nI k * 24 + u.1 13 (nI a).toNatClampNeg) 600) ∧ (lI s + u.2 18 (nI a * 4 + u.1 16 (nI a).toNatClampNeg - 1).toNatClampNeg + u.2 47 (nI k * 24 + u.1 13 (nI a).toNatClampNeg).toNatClampNeg < 0 ↔ s + A.lr a + fw A g k (A.tr a) < 0) := by
  obtain ⟨hn, hM⟩ := hA.1
  obtain ⟨⟨c1, c2⟩, ⟨c3, -⟩, c5, c6⟩ := hC.2.2 a ha
  obtain ⟨⟨d1, d2, d3⟩, ⟨d4, d5⟩, -, d6, -⟩ := hA.2.1 a ha
  have ca : (nI a).toNatClampNeg = a := nI_clamp (by omega)
  have et : nI k * 24 + nI (A.tr a) = nI (24 * k + A.tr a) := by rw [show (24 : Int32) = nI 24 from rfl, pk_mul, nI_add, Nat.mul_comm]
  have ct : (nI (24 * k + A.tr a)).toNatClampNeg = 24 * k + A.tr a := nI_clamp (by omega)
  have cl : (nI (4 * a + A.pt a - 1)).toNatClampNeg = 4 * a + A.pt a - 1 := nI_clamp (by omega)
  have vr : u.2 18 (4 * a + A.pt a - 1) = lI (A.lr a) := by
    have := (c6 (A.pt a - 1) (by omega)).2
    unfold AN.lr
    rw [show 4 * a + A.pt a - 1 = 4 * a + (A.pt a - 1) by omega]
    exact this
  have hlr : -1000000 ≤ A.lr a ∧ A.lr a ≤ 1000000 := by
    have := d6 (A.pt a - 1) (by omega)
    exact this.2
  have hfw := fw_l hA (g := g) (k := k) (v := A.tr a) hk
  rw [ca, c5, c2, dm_lp d4, et, ct, cl, vr, ht _ (by omega), lI_add, lI_add, show (0 : Int64) = lI 0 from rfl, lI_lt (by unfold lB fAR at *; omega) (by unfold lB; omega)]
  exact ⟨⟨vp_in_nI (by omega) (by omega), vp_in_nI (by omega) (by omega), vp_in_nI (by omega) (by omega)⟩, Iff.rfl⟩
def p_X0_lowestOfRings : List dm_I := [(0, .iconst 0, 1, []), (1, .istore_n 2, 1, [2]), (2, .iload_n 2, 1, [2]), (3, .aload_n 0, 1, [0]), (4, .getfield 19, 3, []), (7, .getfield 58, 3, []), (10, .if_icmp .ge 54, 3, [64]), (13, .aload_n 0, 1, [0]), (14, .getfield 19, 3, []), (17, .getfield 60, 3, []), (20, .iload_n 2, 1, [2]), (21, .baload, 1, []), (22, .ifCond .ne 6, 3, [28]), (25, .goto 33, 3, [58]), (28, .aload_n 0, 1, [0]), (29, .aload_n 0, 1, [0]), (30, .getfield 19, 3, []), (33, .getfield 35, 3, []), (36, .iload_n 2, 1, [2]), (37, .iaload, 1, []), (38, .iload_n 1, 1, [1]), (39, .iconst 1, 1, []), (40, .isub, 1, []), (41, .invokevirtual 40, 3, []), (44, .aload_n 0, 1, [0]), (45, .iload_n 2, 1, [2]), (46, .iload_n 1, 1, [1]), (47, .iconst 1, 1, []), (48, .isub, 1, []), (49, .lconst 0, 1, []), (50, .invokevirtual 64, 3, []), (53, .ifCond .eq 5, 3, [58]), (56, .iload_n 2, 1, [2]), (57, .ireturn, 1, []), (58, .iinc 2 1, 3, []), (61, .goto (-59), 3, [2]), (64, .iconst (-1), 1, []), (65, .ireturn, 1, [])]
set_option maxRecDepth 100000 in
theorem v_X0_lowestOfRings : p_X0_lowestOfRings.all (dm_vb cX0_lowestOfRings) = true := by decide +kernel
def k_X0_lowestOfRings : dm_Sp := fun a => match a with
  | 0 => sp_X0_measureTo
  | 1 => sp_X0_endsBelow
  | _ => fun _ _ _ => False
def x_X0_lowestOfRings : dm_X := dm_mk [(19, 0, 0), (35, 2, 1), (58, 2, 9), (60, 2, 3)] [] [] [(40, 0, 2, 0), (64, 1, 3, 0)] 1
set_option maxRecDepth 100000 in
set_option maxHeartbeats 1600000 in
theorem u_X0_lowestOfRings : dm_Pure shC x_X0_lowestOfRings k_X0_lowestOfRings p_X0_lowestOfRings 3 sp_X0_lowestOfRings := by
  intro As u Qp hh
  unfold sp_X0_lowestOfRings at hh
  split at hh
  · obtain ⟨A, f, a0, hA, hC, hf1, hf2, rfl, hlow, h⟩ := hh
    obtain ⟨hn, hM⟩ := hA.1
    refine ⟨Nat.le_of_ble_eq_true rfl, fun G Wp hW0 hW1 hG => ?_⟩
    have loop : ∀ m a : Nat, a + m = a0 → ∀ u' : dm_S, mt_fr u u' → G 2 [some (.ref 8), some (.int (nI f)), some (.int (nI a))] [] u' := by
      intro m
      have a0M := hlow.1.1
      have step : ∀ a, a ≤ a0 → (a < a0 → ∀ u2 : dm_S, mt_fr u u2 → G 2 [some (.ref 8), some (.int (nI f)), some (.int (nI (a + 1)))] [] u2) → ∀ u' : dm_S, mt_fr u u' → G 2 [some (.ref 8), some (.int (nI f)), some (.int (nI a))] [] u' := by
        intro a ha hnext u' a1
        have haM : a < A.M := by omega
        have hC' := CR_fr hC (mt_nt a1)
        have ca : (nI a).toNatClampNeg = a := nI_clamp (by omega)
        have ia : vp_in (nI a) 80 := vp_in_nI (by omega) (by omega)
        obtain ⟨⟨c1, c2⟩, ⟨c3, -⟩, c5, c6⟩ := hC'.2.2 a haM
        apply hG (fun pc => pc == 2) 80
        simp (config := { maxSteps := 2000000 }) [-Prod.forall, -Prod.exists, -exists_and_left, -exists_and_right, hW0, hW1, dm_fn, dm_fd, dm_x, dm_L0, dm_la, dm_t1, dm_sw, List.headD, dm_ic, dm_mk, dm_s1, dm_s2, dm_clr, dm_cs, dm_cc, dm_nb0, dm_nb1, Value.category, List.lookup, p_X0_lowestOfRings, x_X0_lowestOfRings, k_X0_lowestOfRings, dm_cm, upd, vp_updL, dm_ui_1, dm_ui_2, dm_ul_1, dm_ul_2, sp_X0_measureTo, sp_X0_endsBelow, sC_0, sC_1, sC_2, sC_3, sC_4, sC_5, sC_6, sC_7, sC_8, sC_9, sC_10, sC_11, sC_12, sC_13, sC_14, sC_15, sC_16, sC_17, sC_18, sC_19, sC_20, sC_21, sC_22, sC_23, sC_24, sC_25, sC_26, sC_27, sC_28, sC_29, sC_30, sC_31, sC_32, sC_33, sC_34, sC_35, sC_36, sC_37, sC_38, sC_39, sC_40, sC_41, sC_42, sC_43, sC_44, sC_45, sC_46, sC_47, sC_48, sC_49, sC_50, sC_51]
        rw [hC'.1.2, nI_1, ca, c3, c1, nI_sub1 hf1]
        refine ⟨fun zq => absurd zq (nI_ge (by omega) (by omega)), fun zq => ⟨ia, fun z => ?_, fun z => ?_⟩⟩
        · have z0 : A.en a = true := by
            cases y : A.en a
            · rw [y] at z; exact absurd rfl z
            · rfl
          refine ⟨ia, A, A.fr a, f - 1, hA, hC', (hA.2.1 a haM).1.1, by omega, rfl, rfl, fun u2 b1 b2 => ?_⟩
          have hC2 := CR_fr hC' (mt_nt b1)
          have he := eb_I hA hC2 (a := a) (k := f - 1) (g := A.fr a) (s := 0) haM (by omega) (fun v hv => b2 (f - 1) v (Nat.le_refl _) hv) (by omega)
          simp only [ca, show lI 0 = 0 from rfl, Int64.zero_add, Int.zero_add] at he
          refine ⟨he.1.1, he.1.2.1, he.1.2.2, fun y => ?_, fun y => ?_⟩
          · rcases Nat.lt_or_ge a a0 with w | w
            · exact hnext w u2 (mt_frt a1 b1)
            · have ea : a = a0 := by omega
              exfalso
              have := he.2.mpr (by rw [ea]; exact hlow.1.2.2)
              exact absurd this (dm_l_lt.mpr y)
          · have y2 := he.2.mp y
            rcases Nat.lt_or_ge a a0 with w | w
            · exact absurd ⟨haM, z0, y2⟩ (hlow.2 a w)
            · rw [show a = a0 by omega]; exact h u2 (mt_frt a1 b1)
        · rcases Nat.lt_or_ge a a0 with w | w
          · exact hnext w u' a1
          · have ea : a = a0 := by omega
            have := hlow.1.2.1
            rw [← ea] at this
            rw [this] at z; cases z
      induction m with
      | zero => intro a ha; exact step a (by omega) (fun y => by omega)
      | succ m ih => intro a ha; exact step a (by omega) (fun y => ih (a + 1) (by omega))
    apply hG (fun pc => pc == 2) 80
    simp (config := { maxSteps := 2000000 }) [-Prod.forall, -Prod.exists, -exists_and_left, -exists_and_right, hW0, hW1, dm_fn, dm_fd, dm_x, dm_L0, dm_la, dm_t1, dm_sw, List.headD, dm_ic, dm_mk, dm_s1, dm_s2, dm_clr, dm_cs, dm_cc, dm_nb0, dm_nb1, Value.category, List.lookup, p_X0_lowestOfRings, x_X0_lowestOfRings, k_X0_lowestOfRings, dm_cm, upd, vp_updL, dm_ui_1, dm_ui_2, dm_ul_1, dm_ul_2, sp_X0_measureTo, sp_X0_endsBelow, sC_0, sC_1, sC_2, sC_3, sC_4, sC_5, sC_6, sC_7, sC_8, sC_9, sC_10, sC_11, sC_12, sC_13, sC_14, sC_15, sC_16, sC_17, sC_18, sC_19, sC_20, sC_21, sC_22, sC_23, sC_24, sC_25, sC_26, sC_27, sC_28, sC_29, sC_30, sC_31, sC_32, sC_33, sC_34, sC_35, sC_36, sC_37, sC_38, sC_39, sC_40, sC_41, sC_42, sC_43, sC_44, sC_45, sC_46, sC_47, sC_48, sC_49, sC_50, sC_51]
    exact loop a0 0 (by omega) u ⟨rfl, fun _ _ => rfl⟩
  · exact hh.elim
set_option maxRecDepth 100000 in
theorem t_X0_lowestOfRings (l : Launch) (D : va_G) (cA : Nat → ClassId) (ad : Nat → Nat) : dm_Met l D dm_cl cA ad shC yX0_lowestOfRings (Cond.code yX0_lowestOfRings cX0_lowestOfRings 3 (dm_rt 1) :: dm_tt) ({ frames := 3, cells := 0, slots := 0, locals := 69 } : Room) sp_X0_lowestOfRings := dm_meth (own := RX0) (X := x_X0_lowestOfRings) (Sp := k_X0_lowestOfRings) (prog := p_X0_lowestOfRings) (by decide +kernel) rfl rfl (dm_FO_s ffX0 [(19, 0, 0), (35, 2, 1), (58, 2, 9), (60, 2, 3)] rfl dm_hT (by decide +kernel)) (dm_IO_s ifX0 jfX0 [] [] rfl rfl dm_hT (by decide +kernel) (by decide +kernel)) soC (dm_MO_of (List.forall_mem_cons.mpr ⟨dm_M1_of (t_X0_measureTo l D cA ad) dm_hT (dm_mem [663, 74, 660] (by decide +kernel) (by decide +kernel)) (by decide) (by decide +kernel) (Or.inr ⟨by decide, dm_mem [662, 11] (by decide +kernel) (by decide +kernel), rfl⟩), List.forall_mem_cons.mpr ⟨dm_M1_of (t_X0_endsBelow l D cA ad) dm_hT (dm_mem [673, 74, 670] (by decide +kernel) (by decide +kernel)) (by decide) (by decide +kernel) (Or.inr ⟨by decide, dm_mem [672, 13] (by decide +kernel) (by decide +kernel), rfl⟩), fun _ h => absurd h List.not_mem_nil⟩⟩)) v_X0_lowestOfRings u_X0_lowestOfRings
def sp_X0_lowestFrom (As : List Value) (u : dm_S) (Q : Option Value → dm_S → Prop) : Prop := match As with
  | [.ref 8, .int x, .int y, .long d] => ∃ (A : AN) (g v k : Nat) (s : Int) (a : Nat), A.ok ∧ CR u A ∧ v < A.n ∧ k ≤ 24 ∧ (∀ v, v < 24 → u.2 47 (24 * k + v) = lI (fw A g k v)) ∧ (-48000000 ≤ s ∧ s ≤ 48000000) ∧ x = nI v ∧ y = nI k ∧ d = lI s ∧ isLow (fun a => a < A.M ∧ A.en a = true ∧ A.fr a = v ∧ s + A.lr a + fw A g k (A.tr a) < 0) a ∧ Q (some (.int (nI a))) u
  | _ => False
def p_X0_lowestFrom : List dm_I := [(0, .iconst 0, 1, []), (1, .istore 5, 2, []), (3, .iload 5, 2, []), (5, .aload_n 0, 1, [0]), (6, .getfield 19, 3, []), (9, .getfield 58, 3, []), (12, .if_icmp .ge 50, 3, [62]), (15, .aload_n 0, 1, [0]), (16, .getfield 19, 3, []), (19, .getfield 60, 3, []), (22, .iload 5, 2, []), (24, .baload, 1, []), (25, .ifCond .eq 31, 3, [56]), (28, .aload_n 0, 1, [0]), (29, .getfield 19, 3, []), (32, .getfield 35, 3, []), (35, .iload 5, 2, []), (37, .iaload, 1, []), (38, .iload_n 1, 1, [1]), (39, .if_icmp .ne 17, 3, [56]), (42, .aload_n 0, 1, [0]), (43, .iload 5, 2, []), (45, .iload_n 2, 1, [2]), (46, .lload_n 3, 1, [3]), (47, .invokevirtual 64, 3, []), (50, .ifCond .eq 6, 3, [56]), (53, .iload 5, 2, []), (55, .ireturn, 1, []), (56, .iinc 5 1, 3, []), (59, .goto (-56), 3, [3]), (62, .iconst (-1), 1, []), (63, .ireturn, 1, [])]
set_option maxRecDepth 100000 in
theorem v_X0_lowestFrom : p_X0_lowestFrom.all (dm_vb cX0_lowestFrom) = true := by decide +kernel
def k_X0_lowestFrom : dm_Sp := fun a => match a with
  | 0 => sp_X0_endsBelow
  | _ => fun _ _ _ => False
def x_X0_lowestFrom : dm_X := dm_mk [(19, 0, 0), (35, 2, 1), (58, 2, 9), (60, 2, 3)] [] [] [(64, 0, 3, 0)] 1
set_option maxRecDepth 100000 in
set_option maxHeartbeats 1600000 in
theorem u_X0_lowestFrom : dm_Pure shC x_X0_lowestFrom k_X0_lowestFrom p_X0_lowestFrom 6 sp_X0_lowestFrom := by
  intro As u Qp hh
  unfold sp_X0_lowestFrom at hh
  split at hh
  · obtain ⟨A, g, v, k, s, a0, hA, hC, hv, hk, ht, hs, rfl, rfl, rfl, hlow, h⟩ := hh
    obtain ⟨hn, hM⟩ := hA.1
    refine ⟨Nat.le_of_ble_eq_true rfl, fun G Wp hW0 hW1 hG => ?_⟩
    have loop : ∀ m a : Nat, a + m = a0 → G 3 [some (.ref 8), some (.int (nI v)), some (.int (nI k)), some (.long (lI s)), none, some (.int (nI a))] [] u := by
      intro m
      have a0M := hlow.1.1
      have step : ∀ a, a ≤ a0 → (a < a0 → G 3 [some (.ref 8), some (.int (nI v)), some (.int (nI k)), some (.long (lI s)), none, some (.int (nI (a + 1)))] [] u) → G 3 [some (.ref 8), some (.int (nI v)), some (.int (nI k)), some (.long (lI s)), none, some (.int (nI a))] [] u := by
        intro a ha hnext
        have haM : a < A.M := by omega
        have ca : (nI a).toNatClampNeg = a := nI_clamp (by omega)
        have ia : vp_in (nI a) 80 := vp_in_nI (by omega) (by omega)
        obtain ⟨⟨c1, c2⟩, ⟨c3, -⟩, c5, c6⟩ := hC.2.2 a haM
        have d1 := (hA.2.1 a haM).1.1
        have he := eb_I hA hC (a := a) (k := k) (g := g) (s := s) haM hk ht hs
        have hno : ¬ (A.en a = true ∧ A.fr a = v ∧ s + A.lr a + fw A g k (A.tr a) < 0) → G 3 [some (.ref 8), some (.int (nI v)), some (.int (nI k)), some (.long (lI s)), none, some (.int (nI (a + 1)))] [] u := by
          intro z
          rcases Nat.lt_or_ge a a0 with w | w
          · exact hnext w
          · have ea : a = a0 := by omega
            rw [ea] at z
            exact absurd hlow.1.2 z
        have hyes : A.en a = true ∧ A.fr a = v ∧ s + A.lr a + fw A g k (A.tr a) < 0 → Qp (some (.int (nI a))) u := by
          intro z
          rcases Nat.lt_or_ge a a0 with w | w
          · exact absurd ⟨haM, z⟩ (hlow.2 a w)
          · rw [show a = a0 by omega]; exact h
        rw [ca] at he
        apply hG (fun pc => pc == 3) 80
        simp (config := { maxSteps := 2000000 }) [-Prod.forall, -Prod.exists, -exists_and_left, -exists_and_right, hW0, hW1, dm_fn, dm_fd, dm_x, dm_L0, dm_la, dm_t1, dm_sw, List.headD, dm_ic, dm_mk, dm_s1, dm_s2, dm_clr, dm_cs, dm_cc, dm_nb0, dm_nb1, Value.category, List.lookup, p_X0_lowestFrom, x_X0_lowestFrom, k_X0_lowestFrom, dm_cm, upd, vp_updL, dm_ui_1, dm_ui_2, dm_ul_1, dm_ul_2, sp_X0_endsBelow, sC_0, sC_1, sC_2, sC_3, sC_4, sC_5, sC_6, sC_7, sC_8, sC_9, sC_10, sC_11, sC_12, sC_13, sC_14, sC_15, sC_16, sC_17, sC_18, sC_19, sC_20, sC_21, sC_22, sC_23, sC_24, sC_25, sC_26, sC_27, sC_28, sC_29, sC_30, sC_31, sC_32, sC_33, sC_34, sC_35, sC_36, sC_37, sC_38, sC_39, sC_40, sC_41, sC_42, sC_43, sC_44, sC_45, sC_46, sC_47, sC_48, sC_49, sC_50, sC_51]
        rw [hC.1.2, nI_1, ca, c3, c1, nI_eq (by omega) (by omega)]
        refine ⟨fun zq => absurd zq (nI_ge (by omega) (by omega)), fun zq => ⟨ia, fun z => hno (fun y => ?_), fun z => ⟨ia, fun z2 => hno (fun y => z2 y.2.1), fun z2 => ⟨he.1.1, he.1.2.1, he.1.2.2, fun z3 => hno (fun y => absurd (he.2.mpr y.2.2) (dm_l_lt.mpr z3)), fun z3 => hyes ⟨?_, z2, he.2.mp z3⟩⟩⟩⟩⟩
        · rw [y.1] at z; cases z
        · cases y : A.en a
          · rw [y] at z; exact absurd rfl z
          · rfl
      induction m with
      | zero => intro a ha; exact step a (by omega) (fun y => by omega)
      | succ m ih => intro a ha; exact step a (by omega) (fun y => ih (a + 1) (by omega))
    apply hG (fun pc => pc == 3) 80
    simp (config := { maxSteps := 2000000 }) [-Prod.forall, -Prod.exists, -exists_and_left, -exists_and_right, hW0, hW1, dm_fn, dm_fd, dm_x, dm_L0, dm_la, dm_t1, dm_sw, List.headD, dm_ic, dm_mk, dm_s1, dm_s2, dm_clr, dm_cs, dm_cc, dm_nb0, dm_nb1, Value.category, List.lookup, p_X0_lowestFrom, x_X0_lowestFrom, k_X0_lowestFrom, dm_cm, upd, vp_updL, dm_ui_1, dm_ui_2, dm_ul_1, dm_ul_2, sp_X0_endsBelow, sC_0, sC_1, sC_2, sC_3, sC_4, sC_5, sC_6, sC_7, sC_8, sC_9, sC_10, sC_11, sC_12, sC_13, sC_14, sC_15, sC_16, sC_17, sC_18, sC_19, sC_20, sC_21, sC_22, sC_23, sC_24, sC_25, sC_26, sC_27, sC_28, sC_29, sC_30, sC_31, sC_32, sC_33, sC_34, sC_35, sC_36, sC_37, sC_38, sC_39, sC_40, sC_41, sC_42, sC_43, sC_44, sC_45, sC_46, sC_47, sC_48, sC_49, sC_50, sC_51]
    exact loop a0 0 (by omega)
  · exact hh.elim
set_option maxRecDepth 100000 in
theorem t_X0_lowestFrom (l : Launch) (D : va_G) (cA : Nat → ClassId) (ad : Nat → Nat) : dm_Met l D dm_cl cA ad shC yX0_lowestFrom (Cond.code yX0_lowestFrom cX0_lowestFrom 6 (dm_rt 1) :: dm_tt) ({ frames := 3, cells := 0, slots := 0, locals := 66 } : Room) sp_X0_lowestFrom := dm_meth (own := RX0) (X := x_X0_lowestFrom) (Sp := k_X0_lowestFrom) (prog := p_X0_lowestFrom) (by decide +kernel) rfl rfl (dm_FO_s ffX0 [(19, 0, 0), (35, 2, 1), (58, 2, 9), (60, 2, 3)] rfl dm_hT (by decide +kernel)) (dm_IO_s ifX0 jfX0 [] [] rfl rfl dm_hT (by decide +kernel) (by decide +kernel)) soC (dm_MO_of (List.forall_mem_cons.mpr ⟨dm_M1_of (t_X0_endsBelow l D cA ad) dm_hT (dm_mem [673, 74, 670] (by decide +kernel) (by decide +kernel)) (by decide) (by decide +kernel) (Or.inr ⟨by decide, dm_mem [672, 13] (by decide +kernel) (by decide +kernel), rfl⟩), fun _ h => absurd h List.not_mem_nil⟩)) v_X0_lowestFrom u_X0_lowestFrom
/-- THE RING as Falling takes it: f arcs rq, each the lowest with which a ring below 0 of f arcs goes on -/
def rqok (A : AN) (f : Nat) (rq : Nat → Nat) : Prop := (1 ≤ f ∧ f ≤ A.n) ∧ (∀ g s, g < A.n → 1 ≤ s → s < f → 0 ≤ fw A g s g) ∧ (∃ g, g < A.n ∧ fw A g f g < 0) ∧ isLow (rgA A f) (rq 0) ∧ ∀ i, i + 1 < f → isLow (fun a => a < A.M ∧ A.en a = true ∧ A.fr a = A.tr (rq i) ∧ sI (fun j => A.lr (rq j)) (i + 1) + A.lr a + fw A (A.fr (rq 0)) (f - 2 - i) (A.tr a) < 0) (rq (i + 1))
theorem rq_in {A : AN} {f : Nat} {rq : Nat → Nat} (h : rqok A f rq) : ∀ i, i < f → rq i < A.M ∧ A.en (rq i) = true
  | 0, _ => ⟨h.2.2.2.1.1.1, h.2.2.2.1.1.2.1⟩
  | i + 1, hi => ⟨(h.2.2.2.2 i hi).1.1, (h.2.2.2.2 i hi).1.2.1⟩
def sk_fr (u u' : dm_S) : Prop := (∀ c, c ≠ 8 → c ≠ 46 → u'.1 c = u.1 c) ∧ (∀ k, k ≠ 3 → u'.1 8 k = u.1 8 k) ∧ ∀ c, c ≠ 47 → u'.2 c = u.2 c
theorem sk_nt {u u' : dm_S} (h : sk_fr u u') : nt_fr u u' := by
  refine ⟨fun c hc => h.1 c ?_ ?_, fun c hc => h.2.2 c ?_⟩
  · intro z; rw [z] at hc; revert hc; decide
  · intro z; rw [z] at hc; revert hc; decide
  · intro z; rw [z] at hc; revert hc; decide
def sp_X0_seek (As : List Value) (u : dm_S) (Q : Option Value → dm_S → Prop) : Prop := match As with
  | [.ref 8] => ∃ (A : AN) (f : Nat) (rq : Nat → Nat), A.ok ∧ CR u A ∧ rqok A f rq ∧ ∀ u' : dm_S, sk_fr u u' → u'.1 8 3 = nI f → (∀ i, i < f → u'.1 46 i = nI (rq i)) → Q none u'
  | _ => False
def p_X0_seek : List dm_I := [(0, .aload_n 0, 1, [0]), (1, .iconst 0, 1, []), (2, .putfield 23, 3, []), (5, .aload_n 0, 1, [0]), (6, .invokevirtual 27, 3, []), (9, .istore_n 1, 1, [1]), (10, .aload_n 0, 1, [0]), (11, .iload_n 1, 1, [1]), (12, .invokevirtual 31, 3, []), (15, .istore_n 2, 1, [2]), (16, .iload_n 2, 1, [2]), (17, .iconst (-1), 1, []), (18, .if_icmp .ne 4, 3, [22]), (21, .return_, 1, []), (22, .aload_n 0, 1, [0]), (23, .aload_n 0, 1, [0]), (24, .getfield 19, 3, []), (27, .getfield 35, 3, []), (30, .iload_n 2, 1, [2]), (31, .iaload, 1, []), (32, .iload_n 1, 1, [1]), (33, .iconst 1, 1, []), (34, .isub, 1, []), (35, .invokevirtual 40, 3, []), (38, .lconst 0, 1, []), (39, .lstore_n 3, 1, [3]), (40, .iload_n 1, 1, [1]), (41, .iconst 1, 1, []), (42, .isub, 1, []), (43, .istore 5, 2, []), (45, .iload 5, 2, []), (47, .ifCond .lt 73, 3, [120]), (50, .iload_n 2, 1, [2]), (51, .iconst (-1), 1, []), (52, .if_icmp .eq 68, 3, [120]), (55, .aload_n 0, 1, [0]), (56, .getfield 9, 3, []), (59, .aload_n 0, 1, [0]), (60, .getfield 23, 3, []), (63, .iload_n 2, 1, [2]), (64, .iastore, 1, []), (65, .aload_n 0, 1, [0]), (66, .dup, 1, []), (67, .getfield 23, 3, []), (70, .iconst 1, 1, []), (71, .iadd, 1, []), (72, .putfield 23, 3, []), (75, .lload_n 3, 1, [3]), (76, .aload_n 0, 1, [0]), (77, .getfield 19, 3, []), (80, .iload_n 2, 1, [2]), (81, .invokevirtual 44, 3, []), (84, .ladd, 1, []), (85, .lstore_n 3, 1, [3]), (86, .iload 5, 2, []), (88, .ifCond .ne 7, 3, [95]), (91, .iconst (-1), 1, []), (92, .goto 21, 3, [113]), (95, .aload_n 0, 1, [0]), (96, .aload_n 0, 1, [0]), (97, .getfield 19, 3, []), (100, .getfield 48, 3, []), (103, .iload_n 2, 1, [2]), (104, .iaload, 1, []), (105, .iload 5, 2, []), (107, .iconst 1, 1, []), (108, .isub, 1, []), (109, .lload_n 3, 1, [3]), (110, .invokevirtual 51, 3, []), (113, .istore_n 2, 1, [2]), (114, .iinc 5 (-1), 3, []), (117, .goto (-72), 3, [45]), (120, .return_, 1, [])]
set_option maxRecDepth 100000 in
theorem v_X0_seek : p_X0_seek.all (dm_vb cX0_seek) = true := by decide +kernel
def k_X0_seek : dm_Sp := fun a => match a with
  | 0 => sp_X0_fewestArcs
  | 1 => sp_X0_lowestOfRings
  | 2 => sp_X0_measureTo
  | 3 => sp_X2_lastRate
  | 4 => sp_X0_lowestFrom
  | _ => fun _ _ _ => False
def x_X0_seek : dm_X := dm_mk [(9, 0, 1), (19, 0, 0), (23, 0, 3), (35, 2, 1), (48, 2, 2)] [] [] [(27, 0, 0, 0), (31, 1, 1, 0), (40, 2, 2, 0), (44, 3, 1, 2), (51, 4, 3, 0)] 0
set_option maxRecDepth 100000 in
set_option maxHeartbeats 1600000 in
theorem u_X0_seek : dm_Pure shC x_X0_seek k_X0_seek p_X0_seek 6 sp_X0_seek := by
  intro As u Qp hh
  unfold sp_X0_seek at hh
  split at hh
  · obtain ⟨A, f, rq, hA, hC, hR, h⟩ := hh
    obtain ⟨hn, hM⟩ := hA.1
    have hin := rq_in hR
    have hR0 := hR
    obtain ⟨⟨r1, r2⟩, r3, r4, r5, r6⟩ := hR
    have hlr : ∀ i, i < f → -1000000 ≤ A.lr (rq i) ∧ A.lr (rq i) ≤ 1000000 := fun i hi => (AN.dFe hA (rq i) (hin i hi).1 (hin i hi).2).2
    have hsum : ∀ i, i ≤ f → -(1000000 * (i : Int)) ≤ sI (fun j => A.lr (rq j)) i ∧ sI (fun j => A.lr (rq j)) i ≤ 1000000 * i := by
      intro i
      induction i with
      | zero => intro _; exact ⟨by show -(1000000 * ((0 : Nat) : Int)) ≤ 0; omega, by show (0 : Int) ≤ 1000000 * ((0 : Nat) : Int); omega⟩
      | succ i ih =>
        intro hi
        have := ih (by omega)
        have := hlr i (by omega)
        show -(1000000 * ((i + 1 : Nat) : Int)) ≤ sI (fun j => A.lr (rq j)) i + A.lr (rq i) ∧ sI (fun j => A.lr (rq j)) i + A.lr (rq i) ≤ 1000000 * ((i + 1 : Nat) : Int)
        omega
    refine ⟨Nat.le_of_ble_eq_true rfl, fun G Wp hW0 hW1 hG => ?_⟩
    have fin : ∀ (u' : dm_S) (s : Int64), Qp none u' → G 45 [some (.ref 8), some (.int (nI f)), some (.int (-1)), some (.long s), none, some (.int (-1))] [] u' := by
      intro u' s hq
      apply hG (fun pc => pc == 45) 80
      simp (config := { maxSteps := 2000000 }) [-Prod.forall, -Prod.exists, -exists_and_left, -exists_and_right, hW0, hW1, dm_fn, dm_fd, dm_x, dm_L0, dm_la, dm_t1, dm_sw, List.headD, dm_ic, dm_mk, dm_s1, dm_s2, dm_clr, dm_cs, dm_cc, dm_nb0, dm_nb1, Value.category, List.lookup, p_X0_seek, x_X0_seek, k_X0_seek, dm_cm, upd, vp_updL, dm_ui_1, dm_ui_2, dm_ul_1, dm_ul_2, sp_X0_fewestArcs, sp_X0_lowestOfRings, sp_X0_measureTo, sp_X2_lastRate, sp_X0_lowestFrom, sC_0, sC_1, sC_2, sC_3, sC_4, sC_5, sC_6, sC_7, sC_8, sC_9, sC_10, sC_11, sC_12, sC_13, sC_14, sC_15, sC_16, sC_17, sC_18, sC_19, sC_20, sC_21, sC_22, sC_23, sC_24, sC_25, sC_26, sC_27, sC_28, sC_29, sC_30, sC_31, sC_32, sC_33, sC_34, sC_35, sC_36, sC_37, sC_38, sC_39, sC_40, sC_41, sC_42, sC_43, sC_44, sC_45, sC_46, sC_47, sC_48, sC_49, sC_50, sC_51]
      exact hq
    have common : ∀ (m i : Nat) (u' : dm_S), i + m + 1 = f → sk_fr u u' → u'.1 8 3 = nI i → (∀ j, j < i → u'.1 46 j = nI (rq j)) → sk_fr u (dm_ui (dm_ui u' 46 i (nI (rq i))) 8 3 (nI (i + 1))) ∧ (dm_ui (dm_ui u' 46 i (nI (rq i))) 8 3 (nI (i + 1))).1 8 3 = nI (i + 1) ∧ ∀ j, j < i + 1 → (dm_ui (dm_ui u' 46 i (nI (rq i))) 8 3 (nI (i + 1))).1 46 j = nI (rq j) := by
      intro m i u' hi a1 a2 a3
      refine ⟨⟨fun c q1 q2 => ?_, fun k hk => ?_, fun c hc => ?_⟩, ?_, fun j hj => ?_⟩
      · rw [dm_ui_1, if_neg q1, dm_ui_1, if_neg q2]; exact a1.1 c q1 q2
      · rw [dm_ui_1, if_pos rfl]
        unfold upd
        rw [if_neg hk, dm_ui_1, if_neg (by decide)]; exact a1.2.1 k hk
      · exact a1.2.2 c hc
      · simp [dm_ui_1, upd]
      · rw [dm_ui_1, if_neg (by decide), dm_ui_1, if_pos rfl]
        unfold upd
        by_cases z : j = i
        · rw [if_pos z, z]
        · rw [if_neg z]; exact a3 j (by omega)
    have loop : ∀ m i : Nat, i + m + 1 = f → ∀ u' : dm_S, sk_fr u u' → u'.1 8 3 = nI i → (∀ j, j < i → u'.1 46 j = nI (rq j)) → (∀ k v, k ≤ f - 1 → v < 24 → u'.2 47 (24 * k + v) = lI (fw A (A.fr (rq 0)) k v)) → G 45 [some (.ref 8), some (.int (nI f)), some (.int (nI (rq i))), some (.long (lI (sI (fun j => A.lr (rq j)) i))), none, some (.int (nI m))] [] u' := by
      intro m
      induction m with
      | zero =>
        intro i hi u' a1 a2 a3 a4
        have hC' := CR_fr hC (sk_nt a1)
        obtain ⟨q1, q2⟩ := hin i (by omega)
        obtain ⟨⟨c1, c2⟩, ⟨c3, -⟩, c5, c6⟩ := hC'.2.2 _ q1
        obtain ⟨⟨d1, d2, d3⟩, ⟨d4, d5⟩, -⟩ := hA.2.1 _ q1
        have ca : (nI (rq i)).toNatClampNeg = rq i := nI_clamp (by omega)
        have ci : (nI i).toNatClampNeg = i := nI_clamp (by omega)
        obtain ⟨g1, g2, g3⟩ := common 0 i u' hi a1 a2 a3
        apply hG (fun pc => pc == 45) 80
        simp (config := { maxSteps := 2000000 }) [-Prod.forall, -Prod.exists, -exists_and_left, -exists_and_right, hW0, hW1, dm_fn, dm_fd, dm_x, dm_L0, dm_la, dm_t1, dm_sw, List.headD, dm_ic, dm_mk, dm_s1, dm_s2, dm_clr, dm_cs, dm_cc, dm_nb0, dm_nb1, Value.category, List.lookup, p_X0_seek, x_X0_seek, k_X0_seek, dm_cm, upd, vp_updL, dm_ui_1, dm_ui_2, dm_ul_1, dm_ul_2, sp_X0_fewestArcs, sp_X0_lowestOfRings, sp_X0_measureTo, sp_X2_lastRate, sp_X0_lowestFrom, sC_0, sC_1, sC_2, sC_3, sC_4, sC_5, sC_6, sC_7, sC_8, sC_9, sC_10, sC_11, sC_12, sC_13, sC_14, sC_15, sC_16, sC_17, sC_18, sC_19, sC_20, sC_21, sC_22, sC_23, sC_24, sC_25, sC_26, sC_27, sC_28, sC_29, sC_30, sC_31, sC_32, sC_33, sC_34, sC_35, sC_36, sC_37, sC_38, sC_39, sC_40, sC_41, sC_42, sC_43, sC_44, sC_45, sC_46, sC_47, sC_48, sC_49, sC_50, sC_51]
        rw [a2, ci, ca, c5, dm_lp d4, nI_1]
        refine ⟨fun zq => absurd zq (by decide), fun _ => ⟨fun z => absurd (z ▸ nI_pos (n := rq i) (by omega)) (by decide), fun _ => ⟨vp_in_nI (by omega) (by omega), vp_in_nI (by omega) (by omega), vp_in_nI (by omega) (by omega), fun z => absurd rfl z, fun _ => fin _ _ (h _ g1 (by rw [g2]; congr 1) (fun j hj => g3 j (by omega)))⟩⟩⟩
      | succ m ih =>
        intro i hi u' a1 a2 a3 a4
        have hC' := CR_fr hC (sk_nt a1)
        obtain ⟨q1, q2⟩ := hin i (by omega)
        obtain ⟨⟨c1, c2⟩, ⟨c3, -⟩, c5, c6⟩ := hC'.2.2 _ q1
        obtain ⟨⟨d1, d2, d3⟩, ⟨d4, d5⟩, -⟩ := hA.2.1 _ q1
        have ca : (nI (rq i)).toNatClampNeg = rq i := nI_clamp (by omega)
        have ia : vp_in (nI (rq i)) 80 := vp_in_nI (by omega) (by omega)
        have ci : (nI i).toNatClampNeg = i := nI_clamp (by omega)
        have cl : (nI (4 * rq i + A.pt (rq i) - 1)).toNatClampNeg = 4 * rq i + A.pt (rq i) - 1 := nI_clamp (by omega)
        have vr : u'.2 18 (4 * rq i + A.pt (rq i) - 1) = lI (A.lr (rq i)) := by
          have := (c6 (A.pt (rq i) - 1) (by omega)).2
          unfold AN.lr
          rw [show 4 * rq i + A.pt (rq i) - 1 = 4 * rq i + (A.pt (rq i) - 1) by omega]
          exact this
        obtain ⟨g1, g2, g3⟩ := common (m + 1) i u' hi a1 a2 a3
        have hs1 := hsum (i + 1) (by omega)
        have eS : sI (fun j => A.lr (rq j)) i + A.lr (rq i) = sI (fun j => A.lr (rq j)) (i + 1) := rfl
        apply hG (fun pc => pc == 45) 80
        simp (config := { maxSteps := 2000000 }) [-Prod.forall, -Prod.exists, -exists_and_left, -exists_and_right, hW0, hW1, dm_fn, dm_fd, dm_x, dm_L0, dm_la, dm_t1, dm_sw, List.headD, dm_ic, dm_mk, dm_s1, dm_s2, dm_clr, dm_cs, dm_cc, dm_nb0, dm_nb1, Value.category, List.lookup, p_X0_seek, x_X0_seek, k_X0_seek, dm_cm, upd, vp_updL, dm_ui_1, dm_ui_2, dm_ul_1, dm_ul_2, sp_X0_fewestArcs, sp_X0_lowestOfRings, sp_X0_measureTo, sp_X2_lastRate, sp_X0_lowestFrom, sC_0, sC_1, sC_2, sC_3, sC_4, sC_5, sC_6, sC_7, sC_8, sC_9, sC_10, sC_11, sC_12, sC_13, sC_14, sC_15, sC_16, sC_17, sC_18, sC_19, sC_20, sC_21, sC_22, sC_23, sC_24, sC_25, sC_26, sC_27, sC_28, sC_29, sC_30, sC_31, sC_32, sC_33, sC_34, sC_35, sC_36, sC_37, sC_38, sC_39, sC_40, sC_41, sC_42, sC_43, sC_44, sC_45, sC_46, sC_47, sC_48, sC_49, sC_50, sC_51]
        rw [a2, ci, ca, c5, c2, dm_lp d4, cl, vr, lI_add, nI_1, eS]
        refine ⟨fun zq => absurd zq (nI_pos (by omega)), fun _ => ⟨fun z => absurd (z ▸ nI_pos (n := rq i) (by omega)) (by decide), fun _ => ⟨vp_in_nI (by omega) (by omega), ia, vp_in_nI (by omega) (by omega), fun _ => ⟨ia, A, A.fr (rq 0), A.tr (rq i), f - 2 - i, sI (fun j => A.lr (rq j)) (i + 1), rq (i + 1), hA, CR_fr hC (sk_nt g1), d2, by omega, fun v hv => a4 (f - 2 - i) v (by omega) hv, by omega, rfl, ?_, rfl, r6 i (by omega), ?_⟩, fun z => absurd z (nI_ne0 (by omega) (by omega))⟩⟩⟩
        · rw [nI_pred, show f - 2 - i = m by omega]
        · rw [dm_m1, nI_pred]
          exact ih (i + 1) (by omega) _ g1 g2 g3 a4
    apply hG (fun pc => pc == 45) 80
    simp (config := { maxSteps := 2000000 }) [-Prod.forall, -Prod.exists, -exists_and_left, -exists_and_right, hW0, hW1, dm_fn, dm_fd, dm_x, dm_L0, dm_la, dm_t1, dm_sw, List.headD, dm_ic, dm_mk, dm_s1, dm_s2, dm_clr, dm_cs, dm_cc, dm_nb0, dm_nb1, Value.category, List.lookup, p_X0_seek, x_X0_seek, k_X0_seek, dm_cm, upd, vp_updL, dm_ui_1, dm_ui_2, dm_ul_1, dm_ul_2, sp_X0_fewestArcs, sp_X0_lowestOfRings, sp_X0_measureTo, sp_X2_lastRate, sp_X0_lowestFrom, sC_0, sC_1, sC_2, sC_3, sC_4, sC_5, sC_6, sC_7, sC_8, sC_9, sC_10, sC_11, sC_12, sC_13, sC_14, sC_15, sC_16, sC_17, sC_18, sC_19, sC_20, sC_21, sC_22, sC_23, sC_24, sC_25, sC_26, sC_27, sC_28, sC_29, sC_30, sC_31, sC_32, sC_33, sC_34, sC_35, sC_36, sC_37, sC_38, sC_39, sC_40, sC_41, sC_42, sC_43, sC_44, sC_45, sC_46, sC_47, sC_48, sC_49, sC_50, sC_51]
    have hf0 : sk_fr u (dm_ui u 8 3 0) := ⟨fun c q1 _ => by rw [dm_ui_1, if_neg q1], fun k hk => by rw [dm_ui_1, if_pos rfl]; exact if_neg hk, fun _ _ => rfl⟩
    have hmt : ∀ u2 u3 : dm_S, sk_fr u u2 → mt_fr u2 u3 → sk_fr u u3 := fun u2 u3 h1 h2 => ⟨fun c q1 q2 => by rw [h2.1]; exact h1.1 c q1 q2, fun k hk => by rw [h2.1]; exact h1.2.1 k hk, fun c hc => (h2.2 c hc).trans (h1.2.2 c hc)⟩
    have h83 : (dm_ui u 8 3 0).1 8 3 = nI 0 := by simp [dm_ui_1, upd]; rfl
    refine ⟨A, hA, CR_fr hC (sk_nt hf0), by omega, fun u2 f2 b1 b2 b3 b4 b5 => ?_⟩
    have ef : f2 = f := by
      rcases Nat.lt_trichotomy f2 f with y | y | y
      · rcases b5 with z | ⟨g, z1, z2⟩
        · omega
        · have := r3 g f2 z1 b2 y; omega
      · exact y
      · obtain ⟨g, z1, z2⟩ := r4
        have := b4 g f z1 r1 y; omega
    subst ef
    have hs2 := hmt _ _ hf0 b1
    obtain ⟨q1, q2⟩ := hin 0 (by omega)
    obtain ⟨⟨d1, d2, d3⟩, ⟨d4, d5⟩, -⟩ := hA.2.1 _ q1
    refine ⟨A, f2, rq 0, hA, CR_fr hC (sk_nt hs2), r1, r2, rfl, r5, fun u3 e1 => ?_⟩
    have hs3 := hmt _ _ hs2 e1
    have hC3 := CR_fr hC (sk_nt hs3)
    obtain ⟨⟨c1, c2⟩, -⟩ := hC3.2.2 _ q1
    have ca : (nI (rq 0)).toNatClampNeg = rq 0 := nI_clamp (by omega)
    rw [ca, c1, nI_sub1 r1]
    refine ⟨fun _ => ⟨vp_in_nI (by omega) (by omega), A, A.fr (rq 0), f2 - 1, hA, hC3, d1, by omega, rfl, rfl, fun u4 e2 e3 => ?_⟩, fun z => absurd (z ▸ nI_pos (n := rq 0) (by omega)) (by decide)⟩
    refine loop (f2 - 1) 0 (by omega) u4 (hmt _ _ hs3 e2) ?_ (fun j hj => by omega) e3
    rw [e2.1, e1.1, b1.1]; exact h83
  · exact hh.elim
set_option maxRecDepth 100000 in
theorem t_X0_seek (l : Launch) (D : va_G) (cA : Nat → ClassId) (ad : Nat → Nat) : dm_Met l D dm_cl cA ad shC yX0_seek (Cond.code yX0_seek cX0_seek 6 (dm_rt 0) :: dm_tt) ({ frames := 4, cells := 0, slots := 0, locals := 92 } : Room) sp_X0_seek := dm_meth (own := RX0) (X := x_X0_seek) (Sp := k_X0_seek) (prog := p_X0_seek) (by decide +kernel) rfl rfl (dm_FO_s ffX0 [(9, 0, 1), (19, 0, 0), (23, 0, 3), (35, 2, 1), (48, 2, 2)] rfl dm_hT (by decide +kernel)) (dm_IO_s ifX0 jfX0 [] [] rfl rfl dm_hT (by decide +kernel) (by decide +kernel)) soC (dm_MO_of (List.forall_mem_cons.mpr ⟨dm_M1_of (t_X0_fewestArcs l D cA ad) dm_hT (dm_mem [659, 74, 656] (by decide +kernel) (by decide +kernel)) (by decide) (by decide +kernel) (Or.inr ⟨by decide, dm_mem [658, 10] (by decide +kernel) (by decide +kernel), rfl⟩), List.forall_mem_cons.mpr ⟨dm_M1_of (t_X0_lowestOfRings l D cA ad) dm_hT (dm_mem [669, 74, 666] (by decide +kernel) (by decide +kernel)) (by decide) (by decide +kernel) (Or.inr ⟨by decide, dm_mem [668, 12] (by decide +kernel) (by decide +kernel), rfl⟩), List.forall_mem_cons.mpr ⟨dm_M1_of (t_X0_measureTo l D cA ad) dm_hT (dm_mem [663, 74, 660] (by decide +kernel) (by decide +kernel)) (by decide) (by decide +kernel) (Or.inr ⟨by decide, dm_mem [662, 11] (by decide +kernel) (by decide +kernel), rfl⟩), List.forall_mem_cons.mpr ⟨dm_M1_of (t_X2_lastRate l D cA ad) dm_hT (dm_mem [651, 67, 665] (by decide +kernel) (by decide +kernel)) (by decide) (by decide +kernel) (Or.inr ⟨by decide, dm_mem [649, 650] (by decide +kernel) (by decide +kernel), rfl⟩), List.forall_mem_cons.mpr ⟨dm_M1_of (t_X0_lowestFrom l D cA ad) dm_hT (dm_mem [677, 74, 674] (by decide +kernel) (by decide +kernel)) (by decide) (by decide +kernel) (Or.inr ⟨by decide, dm_mem [676, 14] (by decide +kernel) (by decide +kernel), rfl⟩), fun _ h => absurd h List.not_mem_nil⟩⟩⟩⟩⟩)) v_X0_seek u_X0_seek
