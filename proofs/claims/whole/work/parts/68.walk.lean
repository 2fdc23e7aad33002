/-! ===== Rings.walkOn, walk: Karp's table ===== -/
/-- gathered ways, as the table sees them -/
def gw_ok (u : dm_S) (n C : Nat) (nb bg en : Nat → Nat) (wt : Nat → Int) : Prop := u.1 3 6 = nI C ∧ C ≤ 160 ∧ ∀ j, j < C → (u.1 28 j = nI (nb j) ∧ nb j < 640) ∧ (u.1 29 j = nI (bg j) ∧ bg j < n) ∧ (u.1 30 j = nI (en j) ∧ en j < n) ∧ u.2 31 j = lI (wt j) ∧ -1000000 ≤ wt j ∧ wt j ≤ 1000000
def kc_ok (u : dm_S) (n : Nat) (D : Nat → Nat → Int) : Prop := ∀ k v, k ≤ n → v < 24 → u.2 42 (24 * k + v) = lI (D k v)
def kl_ok (u : dm_S) (n : Nat) (D : Nat → Nat → Int) (La : Nat → Nat → Nat) : Prop := ∀ k v, 1 ≤ k → k ≤ n → v < n → D k v ≠ fAR → u.1 43 (24 * k + v) = nI (La k v)
def kb_ok (k : Nat) (f : Nat → Int) : Prop := ∀ v, f v = fAR ∨ (-(1000000 * k) ≤ f v ∧ f v ≤ 1000000 * k)
def kw_fr (u u' : dm_S) : Prop := (∀ c, c ≠ 43 → u'.1 c = u.1 c) ∧ ∀ c, c ≠ 42 → u'.2 c = u.2 c
theorem kw_fr0 (u : dm_S) : kw_fr u u := ⟨fun _ _ => rfl, fun _ _ => rfl⟩
theorem kw_frt {u u' u'' : dm_S} (h : kw_fr u u') (h2 : kw_fr u' u'') : kw_fr u u'' := ⟨fun c a => (h2.1 c a).trans (h.1 c a), fun c a => (h2.2 c a).trans (h.2 c a)⟩
/-- the last way of the least walk of k + 1 ways -/
def kL (C k : Nat) (nb bg en : Nat → Nat) (wt : Nat → Int) (f g : Nat → Int) (la : Nat → Nat) : Prop := ∀ v, g v ≠ fAR → ∃ j, j < C ∧ la v = nb j ∧ en j = v ∧ f (bg j) ≠ fAR ∧ g v = f (bg j) + wt j
def sp_X6_walkOn (As : List Value) (u : dm_S) (Q : Option Value → dm_S → Prop) : Prop := match As with
  | [.ref 7, .int x, .int y] => ∃ (n C : Nat) (nb bg en : Nat → Nat) (wt : Nat → Int) (D : Nat → Nat → Int) (La : Nat → Nat → Nat) (k : Nat), n ≤ 24 ∧ gw_ok u n C nb bg en wt ∧ kc_ok u n D ∧ kl_ok u n D La ∧ kb_ok k (D k) ∧ k < n ∧ x = nI (24 * k) ∧ y = nI (24 * (k + 1)) ∧ (∀ v, D (k + 1) v = fAR) ∧
    ∀ (u' : dm_S) (g : Nat → Int) (la : Nat → Nat), kw_fr u u' → kc_ok u' n (uF D (k + 1) g) → kl_ok u' n (uF D (k + 1) g) (uF La (k + 1) la) → kb_ok (k + 1) g → (∀ j, j < C → D k (bg j) ≠ fAR → g (en j) ≠ fAR ∧ g (en j) ≤ D k (bg j) + wt j) → kL C k nb bg en wt (D k) g la → Q none u'
  | _ => False
def p_X6_walkOn : List dm_I := [(0, .iconst 0, 1, []), (1, .istore_n 3, 1, [3]), (2, .iload_n 3, 1, [3]), (3, .aload_n 0, 1, [0]), (4, .getfield 33, 3, []), (7, .getfield 71, 3, []), (10, .if_icmp .ge 107, 3, [117]), (13, .aload_n 0, 1, [0]), (14, .getfield 9, 3, []), (17, .iload_n 1, 1, [1]), (18, .aload_n 0, 1, [0]), (19, .getfield 33, 3, []), (22, .getfield 74, 3, []), (25, .iload_n 3, 1, [3]), (26, .iaload, 1, []), (27, .iadd, 1, []), (28, .laload, 1, []), (29, .lstore 4, 2, []), (31, .iload_n 2, 1, [2]), (32, .aload_n 0, 1, [0]), (33, .getfield 33, 3, []), (36, .getfield 77, 3, []), (39, .iload_n 3, 1, [3]), (40, .iaload, 1, []), (41, .iadd, 1, []), (42, .istore 6, 2, []), (44, .lload 4, 2, []), (46, .ldc2_w 65, 3, []), (49, .lcmp, 1, []), (50, .ifCond .eq 61, 3, [111]), (53, .lload 4, 2, []), (55, .aload_n 0, 1, [0]), (56, .getfield 33, 3, []), (59, .getfield 80, 3, []), (62, .iload_n 3, 1, [3]), (63, .laload, 1, []), (64, .ladd, 1, []), (65, .aload_n 0, 1, [0]), (66, .getfield 9, 3, []), (69, .iload 6, 2, []), (71, .laload, 1, []), (72, .lcmp, 1, []), (73, .ifCond .ge 38, 3, [111]), (76, .aload_n 0, 1, [0]), (77, .getfield 9, 3, []), (80, .iload 6, 2, []), (82, .lload 4, 2, []), (84, .aload_n 0, 1, [0]), (85, .getfield 33, 3, []), (88, .getfield 80, 3, []), (91, .iload_n 3, 1, [3]), (92, .laload, 1, []), (93, .ladd, 1, []), (94, .lastore, 1, []), (95, .aload_n 0, 1, [0]), (96, .getfield 15, 3, []), (99, .iload 6, 2, []), (101, .aload_n 0, 1, [0]), (102, .getfield 33, 3, []), (105, .getfield 83, 3, []), (108, .iload_n 3, 1, [3]), (109, .iaload, 1, []), (110, .iastore, 1, []), (111, .iinc 3 1, 3, []), (114, .goto (-112), 3, [2]), (117, .return_, 1, [])]
set_option maxRecDepth 100000 in
theorem v_X6_walkOn : p_X6_walkOn.all (dm_vb cX6_walkOn) = true := by decide +kernel
def k_X6_walkOn : dm_Sp := fun a => match a with
  | _ => fun _ _ _ => False
def x_X6_walkOn : dm_X := dm_mk [(9, 6, 3), (15, 6, 4), (33, 6, 2), (71, 9, 6), (74, 9, 3), (77, 9, 4), (80, 9, 5), (83, 9, 2)] [] [(65, 1152921504606846976)] [] 0
set_option maxRecDepth 100000 in
set_option maxHeartbeats 1600000 in
theorem u_X6_walkOn : dm_Pure shC x_X6_walkOn k_X6_walkOn p_X6_walkOn 7 sp_X6_walkOn := by
  intro As u Qp hh
  unfold sp_X6_walkOn at hh
  split at hh
  · obtain ⟨n, C, nb, bg, en, wt, D, La, k, hn, hg, hc, hl, hb, hk, rfl, rfl, hF, h⟩ := hh
    obtain ⟨g1, g2, g3⟩ := hg
    have hF0 : lB fAR := by unfold lB fAR; omega
    refine ⟨Nat.le_of_ble_eq_true rfl, fun G Wp hW0 hW1 hG => ?_⟩
    have loop : ∀ m j : Nat, j + m = C → ∀ (u' : dm_S) (g : Nat → Int) (la : Nat → Nat) (o4 o5 o6 : Option Value), kw_fr u u' → kc_ok u' n (uF D (k + 1) g) → kl_ok u' n (uF D (k + 1) g) (uF La (k + 1) la) → kb_ok (k + 1) g → (∀ i, i < j → D k (bg i) ≠ fAR → g (en i) ≠ fAR ∧ g (en i) ≤ D k (bg i) + wt i) → kL C k nb bg en wt (D k) g la → G 2 [some (.ref 7), some (.int (nI (24 * k))), some (.int (nI (24 * (k + 1)))), some (.int (nI j)), o4, o5, o6] [] u' := by
      intro m
      induction m with
      | zero =>
        intro j hj u' g la o4 o5 o6 a1 a2 a3 a4 a5 a6
        have e0 : j = C := by omega
        subst e0
        apply hG (fun pc => pc == 2) 80
        simp (config := { maxSteps := 2000000 }) [-Prod.forall, -Prod.exists, -exists_and_left, -exists_and_right, hW0, hW1, dm_fn, dm_fd, dm_x, dm_L0, dm_la, dm_t1, dm_sw, List.headD, dm_ic, dm_mk, dm_s1, dm_s2, dm_clr, dm_cs, dm_cc, dm_nb0, dm_nb1, Value.category, List.lookup, p_X6_walkOn, x_X6_walkOn, k_X6_walkOn, dm_cm, upd, vp_updL, dm_ui_1, dm_ui_2, dm_ul_1, dm_ul_2, sC_0, sC_1, sC_2, sC_3, sC_4, sC_5, sC_6, sC_7, sC_8, sC_9, sC_10, sC_11, sC_12, sC_13, sC_14, sC_15, sC_16, sC_17, sC_18, sC_19, sC_20, sC_21, sC_22, sC_23, sC_24, sC_25, sC_26, sC_27, sC_28, sC_29, sC_30, sC_31, sC_32, sC_33, sC_34, sC_35, sC_36, sC_37, sC_38, sC_39, sC_40, sC_41, sC_42, sC_43, sC_44, sC_45, sC_46, sC_47, sC_48, sC_49, sC_50, sC_51]
        rw [a1.1 3 (by decide), g1]
        exact ⟨fun _ => h u' g la a1 a2 a3 a4 a5 a6, fun zq => absurd zq (nI_nlt (Nat.le_refl _) (by omega))⟩
      | succ m ih =>
        intro j hj u' g la o4 o5 o6 a1 a2 a3 a4 a5 a6
        obtain ⟨⟨q1, q2⟩, ⟨q3, q4⟩, ⟨q5, q6⟩, q7, q8, q9⟩ := g3 j (by omega)
        have cj : (nI j).toNatClampNeg = j := nI_clamp (by omega)
        have ij : vp_in (nI j) 160 := vp_in_nI (by omega) (by omega)
        have eb : nI (24 * k) + nI (bg j) = nI (24 * k + bg j) := nI_add _ _
        have ee : nI (24 * (k + 1)) + nI (en j) = nI (24 * (k + 1) + en j) := nI_add _ _
        have cb : (nI (24 * k + bg j)).toNatClampNeg = 24 * k + bg j := nI_clamp (by omega)
        have ce : (nI (24 * (k + 1) + en j)).toNatClampNeg = 24 * (k + 1) + en j := nI_clamp (by omega)
        have ib : vp_in (nI (24 * k + bg j)) 600 := vp_in_nI (by omega) (by omega)
        have ie : vp_in (nI (24 * (k + 1) + en j)) 600 := vp_in_nI (by omega) (by omega)
        have vb : u'.2 42 (24 * k + bg j) = lI (D k (bg j)) := by
          rw [a2 k (bg j) (by omega) (by omega), uF_ne (by omega)]
        have ve : u'.2 42 (24 * (k + 1) + en j) = lI (g (en j)) := by
          rw [a2 (k + 1) (en j) (by omega) (by omega), uF_at]
        have hbk := hb (bg j)
        have hgk := a4 (en j)
        have lb1 : lB (D k (bg j)) := by unfold lB fAR at *; omega
        have lb2 : lB (g (en j)) := by unfold lB fAR at *; omega
        have keep : (D k (bg j) ≠ fAR → g (en j) ≠ fAR ∧ g (en j) ≤ D k (bg j) + wt j) → ∀ (o4 o5 o6 : Option Value), G 2 [some (.ref 7), some (.int (nI (24 * k))), some (.int (nI (24 * (k + 1)))), some (.int (nI (j + 1))), o4, o5, o6] [] u' := by
          intro hkp o4 o5 o6
          refine ih (j + 1) (by omega) u' g la _ _ _ a1 a2 a3 a4 (fun i hi hd => ?_) a6
          rcases Nat.lt_or_ge i j with y | y
          · exact a5 i y hd
          · rw [show i = j by omega] at hd ⊢; exact hkp hd
        apply hG (fun pc => pc == 2) 80
        simp (config := { maxSteps := 2000000 }) [-Prod.forall, -Prod.exists, -exists_and_left, -exists_and_right, hW0, hW1, dm_fn, dm_fd, dm_x, dm_L0, dm_la, dm_t1, dm_sw, List.headD, dm_ic, dm_mk, dm_s1, dm_s2, dm_clr, dm_cs, dm_cc, dm_nb0, dm_nb1, Value.category, List.lookup, p_X6_walkOn, x_X6_walkOn, k_X6_walkOn, dm_cm, upd, vp_updL, dm_ui_1, dm_ui_2, dm_ul_1, dm_ul_2, sC_0, sC_1, sC_2, sC_3, sC_4, sC_5, sC_6, sC_7, sC_8, sC_9, sC_10, sC_11, sC_12, sC_13, sC_14, sC_15, sC_16, sC_17, sC_18, sC_19, sC_20, sC_21, sC_22, sC_23, sC_24, sC_25, sC_26, sC_27, sC_28, sC_29, sC_30, sC_31, sC_32, sC_33, sC_34, sC_35, sC_36, sC_37, sC_38, sC_39, sC_40, sC_41, sC_42, sC_43, sC_44, sC_45, sC_46, sC_47, sC_48, sC_49, sC_50, sC_51]
        rw [a1.1 3 (by decide), a1.1 29 (by decide), a1.1 30 (by decide), a1.1 28 (by decide), a1.2 31 (by decide), g1, cj, q1, q3, q5, q7, eb, ee, cb, ce, vb, ve, nI_1, lI_add]
        have hFe : (1152921504606846976 : Int64) = lI fAR := rfl
        rw [hFe, lI_eq lb1 hF0]
        refine ⟨fun zq => absurd zq (nI_ge (by omega) (by omega)), fun zq => ⟨ij, ib, ij, fun z => keep (fun hd => absurd z hd) _ _ _, fun z => ⟨ij, ie, ?_⟩⟩⟩
        have hbk2 : -(1000000 * (k : Int)) ≤ D k (bg j) ∧ D k (bg j) ≤ 1000000 * k := hbk.resolve_left z
        have lb3 : lB (D k (bg j) + wt j) := by unfold lB; omega
        rw [lI_le lb2 lb3, lI_lt lb3 lb2]
        refine ⟨fun z2 => keep (fun _ => ⟨fun z3 => ?_, z2⟩) _ _ _, fun z2 => ?_⟩
        · rw [z3] at z2; unfold fAR at z2; omega
        · refine ⟨ij, ie, ij, ie, ?_⟩
          refine ih (j + 1) (by omega) _ (uF g (en j) (D k (bg j) + wt j)) (uF la (en j) (nb j)) _ _ _ (kw_frt a1 ⟨fun c hc => by rw [dm_ui_1, if_neg hc]; rfl, fun c hc => by rw [dm_ui_2, dm_ul_2, if_neg hc]⟩) (fun i v hi hv => ?_) (fun i v hi hi2 hv hd => ?_) (fun v => ?_) (fun i hi hd => ?_) (fun v hv => ?_)
          · show (dm_ul u' 42 (24 * (k + 1) + en j) (lI (D k (bg j) + wt j))).2 42 (24 * i + v) = _
            rw [dm_ul_2, if_pos rfl]
            unfold vp_updL
            by_cases y : i = k + 1
            · subst y
              rw [uF_at]
              by_cases y2 : v = en j
              · rw [if_pos (by omega), y2, uF_at]
              · rw [if_neg (by omega), uF_ne y2]
                have := a2 (k + 1) v hi hv
                rw [uF_at] at this
                exact this
            · rw [if_neg (by omega), uF_ne y]
              have := a2 i v hi hv
              rw [uF_ne y] at this
              exact this
          · rw [dm_ui_1, if_pos rfl]
            unfold upd
            by_cases y : i = k + 1
            · subst y
              rw [uF_at]
              rw [uF_at] at hd
              by_cases y2 : v = en j
              · rw [if_pos (by omega), y2, uF_at]
              · rw [uF_ne y2] at hd
                rw [if_neg (by omega), uF_ne y2]
                have := a3 (k + 1) v hi hi2 hv (by rw [uF_at]; exact hd)
                rw [uF_at] at this
                exact this
            · rw [uF_ne y] at hd
              rw [if_neg (by omega), uF_ne y]
              have := a3 i v hi hi2 hv (by rw [uF_ne y]; exact hd)
              rw [uF_ne y] at this
              exact this
          · by_cases y2 : v = en j
            · rw [y2, uF_at]
              refine Or.inr ?_
              have e9 : 1000000 * ((k + 1 : Nat) : Int) = 1000000 * k + 1000000 := by omega
              omega
            · rw [uF_ne y2]; exact a4 v
          · by_cases y2 : en i = en j
            · rw [y2, uF_at]
              refine ⟨by unfold fAR; omega, ?_⟩
              rcases Nat.lt_or_ge i j with y | y
              · have := a5 i y hd
                rw [y2] at this
                omega
              · rw [show i = j by omega]; exact Int.le_refl _
            · rw [uF_ne y2]
              rcases Nat.lt_or_ge i j with y | y
              · exact a5 i y hd
              · exact absurd (by rw [show i = j by omega]) y2
          · by_cases y2 : v = en j
            · rw [y2, uF_at, uF_at]
              exact ⟨j, by omega, rfl, rfl, z, rfl⟩
            · rw [uF_ne y2] at hv
              rw [uF_ne y2, uF_ne y2]
              exact a6 v hv
    apply hG (fun pc => pc == 2) 80
    simp (config := { maxSteps := 2000000 }) [-Prod.forall, -Prod.exists, -exists_and_left, -exists_and_right, hW0, hW1, dm_fn, dm_fd, dm_x, dm_L0, dm_la, dm_t1, dm_sw, List.headD, dm_ic, dm_mk, dm_s1, dm_s2, dm_clr, dm_cs, dm_cc, dm_nb0, dm_nb1, Value.category, List.lookup, p_X6_walkOn, x_X6_walkOn, k_X6_walkOn, dm_cm, upd, vp_updL, dm_ui_1, dm_ui_2, dm_ul_1, dm_ul_2, sC_0, sC_1, sC_2, sC_3, sC_4, sC_5, sC_6, sC_7, sC_8, sC_9, sC_10, sC_11, sC_12, sC_13, sC_14, sC_15, sC_16, sC_17, sC_18, sC_19, sC_20, sC_21, sC_22, sC_23, sC_24, sC_25, sC_26, sC_27, sC_28, sC_29, sC_30, sC_31, sC_32, sC_33, sC_34, sC_35, sC_36, sC_37, sC_38, sC_39, sC_40, sC_41, sC_42, sC_43, sC_44, sC_45, sC_46, sC_47, sC_48, sC_49, sC_50, sC_51]
    refine loop C 0 (by omega) u (D (k + 1)) (La (k + 1)) _ _ _ (kw_fr0 u) ?_ ?_ (fun v => Or.inl (hF v)) (fun i hi => by omega) (fun v hv => absurd (hF v) hv)
    · have : uF D (k + 1) (D (k + 1)) = D := by
        funext i
        unfold uF
        split
        · rename_i z; rw [z]
        · rfl
      rw [this]; exact hc
    · have e1 : uF D (k + 1) (D (k + 1)) = D := by
        funext i
        unfold uF
        split
        · rename_i z; rw [z]
        · rfl
      have e2 : uF La (k + 1) (La (k + 1)) = La := by
        funext i
        unfold uF
        split
        · rename_i z; rw [z]
        · rfl
      rw [e1, e2]; exact hl
  · exact hh.elim
set_option maxRecDepth 100000 in
theorem t_X6_walkOn (l : Launch) (D : va_G) (cA : Nat → ClassId) (ad : Nat → Nat) : dm_Met l D dm_cl cA ad shC yX6_walkOn (Cond.code yX6_walkOn cX6_walkOn 7 (dm_rt 0) :: dm_tt) ({ frames := 0, cells := 0, slots := 0, locals := 0 } : Room) sp_X6_walkOn := dm_meth (own := RX6) (X := x_X6_walkOn) (Sp := k_X6_walkOn) (prog := p_X6_walkOn) (by decide +kernel) rfl rfl (dm_FO_s ffX6 [(9, 6, 3), (15, 6, 4), (33, 6, 2), (71, 9, 6), (74, 9, 3), (77, 9, 4), (80, 9, 5), (83, 9, 2)] rfl dm_hT (by decide +kernel)) (dm_IO_s ifX6 jfX6 [] [(65, 1152921504606846976)] rfl rfl dm_hT (by decide +kernel) (by decide +kernel)) soC (dm_MO_of (fun _ h => absurd h List.not_mem_nil)) v_X6_walkOn u_X6_walkOn
/-- the whole table -/
def kA (n C : Nat) (nb bg en : Nat → Nat) (wt : Nat → Int) (D : Nat → Nat → Int) (La : Nat → Nat → Nat) (m : Nat) : Prop := (∀ v, D 0 v = 0) ∧ (∀ k, k ≤ m → kb_ok k (D k)) ∧ (∀ k j, k < m → j < C → D k (bg j) ≠ fAR → D (k + 1) (en j) ≠ fAR ∧ D (k + 1) (en j) ≤ D k (bg j) + wt j) ∧ ∀ k, k < m → kL C k nb bg en wt (D k) (D (k + 1)) (La (k + 1))
def sp_X6_walk (As : List Value) (u : dm_S) (Q : Option Value → dm_S → Prop) : Prop := match As with
  | [.ref 7] => ∃ (n C : Nat) (nb bg en : Nat → Nat) (wt : Nat → Int), n ≤ 24 ∧ u.1 1 8 = nI n ∧ gw_ok u n C nb bg en wt ∧
    ∀ (u' : dm_S) (D : Nat → Nat → Int) (La : Nat → Nat → Nat), kw_fr u u' → kc_ok u' n D → kl_ok u' n D La → kA n C nb bg en wt D La n → Q none u'
  | _ => False
theorem gw_fr {u u' : dm_S} {n C : Nat} {nb bg en : Nat → Nat} {wt : Nat → Int} (h : gw_ok u n C nb bg en wt) (hf : kw_fr u u') : gw_ok u' n C nb bg en wt := by
  obtain ⟨h1, h2, h3⟩ := h
  refine ⟨by rw [hf.1 3 (by decide)]; exact h1, h2, fun j hj => ?_⟩
  rw [hf.1 28 (by decide), hf.1 29 (by decide), hf.1 30 (by decide), hf.2 31 (by decide)]
  exact h3 j hj
theorem kA_s {n C : Nat} {nb bg en : Nat → Nat} {wt : Nat → Int} {D : Nat → Nat → Int} {La : Nat → Nat → Nat} {m : Nat} {g : Nat → Int} {la : Nat → Nat} (h : kA n C nb bg en wt D La m) (h1 : kb_ok (m + 1) g) (h2 : ∀ j, j < C → D m (bg j) ≠ fAR → g (en j) ≠ fAR ∧ g (en j) ≤ D m (bg j) + wt j) (h3 : kL C m nb bg en wt (D m) g la) : kA n C nb bg en wt (uF D (m + 1) g) (uF La (m + 1) la) (m + 1) := by
  obtain ⟨a1, a2, a3, a4⟩ := h
  refine ⟨fun v => by rw [uF_ne (by omega)]; exact a1 v, fun k hk => ?_, fun k j hk hj hd => ?_, fun k hk => ?_⟩
  · by_cases z : k = m + 1
    · rw [z, uF_at]; exact h1
    · rw [uF_ne z]; exact a2 k (by omega)
  · rw [uF_ne (show k ≠ m + 1 by omega)] at hd ⊢
    by_cases z : k = m
    · rw [z] at hd ⊢; rw [uF_at]; exact h2 j hj hd
    · rw [uF_ne (show k + 1 ≠ m + 1 by omega)]; exact a3 k j (by omega) hj hd
  · rw [uF_ne (show k ≠ m + 1 by omega)]
    by_cases z : k = m
    · rw [z, uF_at, uF_at]; exact h3
    · rw [uF_ne (show k + 1 ≠ m + 1 by omega), uF_ne (show k + 1 ≠ m + 1 by omega)]; exact a4 k (by omega)
def p_X6_walk : List dm_I := [(0, .iconst 0, 1, []), (1, .istore_n 1, 1, [1]), (2, .iload_n 1, 1, [1]), (3, .aload_n 0, 1, [0]), (4, .getfield 25, 3, []), (7, .getfield 59, 3, []), (10, .iconst 1, 1, []), (11, .iadd, 1, []), (12, .bipush 24, 2, []), (14, .imul, 1, []), (15, .if_icmp .ge 28, 3, [43]), (18, .aload_n 0, 1, [0]), (19, .getfield 9, 3, []), (22, .iload_n 1, 1, [1]), (23, .iload_n 1, 1, [1]), (24, .bipush 24, 2, []), (26, .if_icmp .ge 7, 3, [33]), (29, .lconst 0, 1, []), (30, .goto 6, 3, [36]), (33, .ldc2_w 65, 3, []), (36, .lastore, 1, []), (37, .iinc 1 1, 3, []), (40, .goto (-38), 3, [2]), (43, .iconst 1, 1, []), (44, .istore_n 1, 1, [1]), (45, .iload_n 1, 1, [1]), (46, .aload_n 0, 1, [0]), (47, .getfield 25, 3, []), (50, .getfield 59, 3, []), (53, .if_icmp .gt 23, 3, [76]), (56, .aload_n 0, 1, [0]), (57, .iload_n 1, 1, [1]), (58, .iconst 1, 1, []), (59, .isub, 1, []), (60, .bipush 24, 2, []), (62, .imul, 1, []), (63, .iload_n 1, 1, [1]), (64, .bipush 24, 2, []), (66, .imul, 1, []), (67, .invokevirtual 67, 3, []), (70, .iinc 1 1, 3, []), (73, .goto (-28), 3, [45]), (76, .return_, 1, [])]
set_option maxRecDepth 100000 in
theorem v_X6_walk : p_X6_walk.all (dm_vb cX6_walk) = true := by decide +kernel
def k_X6_walk : dm_Sp := fun a => match a with
  | 0 => sp_X6_walkOn
  | _ => fun _ _ _ => False
def x_X6_walk : dm_X := dm_mk [(9, 6, 3), (25, 6, 0), (59, 2, 8)] [] [(65, 1152921504606846976)] [(67, 0, 2, 6)] 0
set_option maxRecDepth 100000 in
set_option maxHeartbeats 1600000 in
theorem u_X6_walk : dm_Pure shC x_X6_walk k_X6_walk p_X6_walk 2 sp_X6_walk := by
  intro As u Qp hh
  unfold sp_X6_walk at hh
  split at hh
  · obtain ⟨n, C, nb, bg, en, wt, hn, en0, hg, h⟩ := hh
    refine ⟨Nat.le_of_ble_eq_true rfl, fun G Wp hW0 hW1 hG => ?_⟩
    have loop2 : ∀ m k : Nat, k + m = n → ∀ (u' : dm_S) (D : Nat → Nat → Int) (La : Nat → Nat → Nat), kw_fr u u' → kc_ok u' n D → kl_ok u' n D La → kA n C nb bg en wt D La k → (∀ i v, k < i → D i v = fAR) → G 45 [some (.ref 7), some (.int (nI (k + 1)))] [] u' := by
      intro m
      induction m with
      | zero =>
        intro k hk u' D La a1 a2 a3 a4 a5
        have e0 : k = n := by omega
        subst e0
        apply hG (fun pc => pc == 45) 60
        simp (config := { maxSteps := 2000000 }) [-Prod.forall, -Prod.exists, -exists_and_left, -exists_and_right, hW0, hW1, dm_fn, dm_fd, dm_x, dm_L0, dm_la, dm_t1, dm_sw, List.headD, dm_ic, dm_mk, dm_s1, dm_s2, dm_clr, dm_cs, dm_cc, dm_nb0, dm_nb1, Value.category, List.lookup, p_X6_walk, x_X6_walk, k_X6_walk, dm_cm, upd, vp_updL, dm_ui_1, dm_ui_2, dm_ul_1, dm_ul_2, sp_X6_walkOn, sC_0, sC_1, sC_2, sC_3, sC_4, sC_5, sC_6, sC_7, sC_8, sC_9, sC_10, sC_11, sC_12, sC_13, sC_14, sC_15, sC_16, sC_17, sC_18, sC_19, sC_20, sC_21, sC_22, sC_23, sC_24, sC_25, sC_26, sC_27, sC_28, sC_29, sC_30, sC_31, sC_32, sC_33, sC_34, sC_35, sC_36, sC_37, sC_38, sC_39, sC_40, sC_41, sC_42, sC_43, sC_44, sC_45, sC_46, sC_47, sC_48, sC_49, sC_50, sC_51]
        rw [a1.1 1 (by decide), en0]
        exact ⟨fun _ => h u' D La a1 a2 a3 a4, fun zq => absurd zq (nI_ge (by omega) (by omega))⟩
      | succ m ih =>
        intro k hk u' D La a1 a2 a3 a4 a5
        apply hG (fun pc => pc == 45) 60
        simp (config := { maxSteps := 2000000 }) [-Prod.forall, -Prod.exists, -exists_and_left, -exists_and_right, hW0, hW1, dm_fn, dm_fd, dm_x, dm_L0, dm_la, dm_t1, dm_sw, List.headD, dm_ic, dm_mk, dm_s1, dm_s2, dm_clr, dm_cs, dm_cc, dm_nb0, dm_nb1, Value.category, List.lookup, p_X6_walk, x_X6_walk, k_X6_walk, dm_cm, upd, vp_updL, dm_ui_1, dm_ui_2, dm_ul_1, dm_ul_2, sp_X6_walkOn, sC_0, sC_1, sC_2, sC_3, sC_4, sC_5, sC_6, sC_7, sC_8, sC_9, sC_10, sC_11, sC_12, sC_13, sC_14, sC_15, sC_16, sC_17, sC_18, sC_19, sC_20, sC_21, sC_22, sC_23, sC_24, sC_25, sC_26, sC_27, sC_28, sC_29, sC_30, sC_31, sC_32, sC_33, sC_34, sC_35, sC_36, sC_37, sC_38, sC_39, sC_40, sC_41, sC_42, sC_43, sC_44, sC_45, sC_46, sC_47, sC_48, sC_49, sC_50, sC_51]
        rw [a1.1 1 (by decide), en0, nI_pred, nI_1]
        refine ⟨fun zq => absurd zq (nI_nlt (by omega) (by omega)), fun zq => ⟨n, C, nb, bg, en, wt, D, La, k, hn, gw_fr hg a1, a2, a3, a4.2.1 k (Nat.le_refl _), by omega, ?_, ?_, fun v => a5 _ v (by omega), fun u2 g la b1 b2 b3 b4 b5 b6 => ?_⟩⟩
        · rw [show (24 : Int32) = nI 24 from rfl, pk_mul, Nat.mul_comm]
        · rw [show (24 : Int32) = nI 24 from rfl, pk_mul, Nat.mul_comm]
        · exact ih (k + 1) (by omega) u2 _ _ (kw_frt a1 b1) b2 b3 (kA_s a4 b4 b5 b6) (fun i v hi => by rw [uF_ne (by omega)]; exact a5 i v (by omega))
    have loop1 : ∀ m i : Nat, i + m = 24 * (n + 1) → ∀ u' : dm_S, kw_fr u u' → (∀ j, j < i → u'.2 42 j = lI (if j < 24 then 0 else fAR)) → G 2 [some (.ref 7), some (.int (nI i))] [] u' := by
      intro m
      induction m with
      | zero =>
        intro i hi u' a1 a2
        apply hG (fun pc => pc == 2 || pc == 45) 60
        simp (config := { maxSteps := 2000000 }) [-Prod.forall, -Prod.exists, -exists_and_left, -exists_and_right, hW0, hW1, dm_fn, dm_fd, dm_x, dm_L0, dm_la, dm_t1, dm_sw, List.headD, dm_ic, dm_mk, dm_s1, dm_s2, dm_clr, dm_cs, dm_cc, dm_nb0, dm_nb1, Value.category, List.lookup, p_X6_walk, x_X6_walk, k_X6_walk, dm_cm, upd, vp_updL, dm_ui_1, dm_ui_2, dm_ul_1, dm_ul_2, sp_X6_walkOn, sC_0, sC_1, sC_2, sC_3, sC_4, sC_5, sC_6, sC_7, sC_8, sC_9, sC_10, sC_11, sC_12, sC_13, sC_14, sC_15, sC_16, sC_17, sC_18, sC_19, sC_20, sC_21, sC_22, sC_23, sC_24, sC_25, sC_26, sC_27, sC_28, sC_29, sC_30, sC_31, sC_32, sC_33, sC_34, sC_35, sC_36, sC_37, sC_38, sC_39, sC_40, sC_41, sC_42, sC_43, sC_44, sC_45, sC_46, sC_47, sC_48, sC_49, sC_50, sC_51]
        rw [a1.1 1 (by decide), en0, nI_1, show (24 : Int32) = nI 24 from rfl, pk_mul, Nat.mul_comm]
        refine ⟨fun _ => ?_, fun zq => absurd zq (nI_nlt (by omega) (by omega))⟩
        refine loop2 n 0 (by omega) u' (fun k _ => if k = 0 then 0 else fAR) (fun _ _ => 0) a1 (fun k v hk hv => ?_) (fun k v h1 _ _ hd => ?_) ⟨fun _ => rfl, fun k hk v => ?_, fun k j hk => by omega, fun k hk => by omega⟩ (fun i v hi => if_neg (by omega))
        · rw [a2 _ (by omega)]
          congr 1
          show _ = if k = 0 then 0 else fAR
          by_cases z : k = 0
          · rw [if_pos (by omega), if_pos z]
          · rw [if_neg (by omega), if_neg z]
        · exact absurd (if_neg (by omega)) hd
        · rw [show k = 0 by omega]
          exact Or.inr ⟨by simp, by simp⟩
      | succ m ih =>
        intro i hi u' a1 a2
        have ci : (nI i).toNatClampNeg = i := nI_clamp (by omega)
        have ii : vp_in (nI i) 600 := vp_in_nI (by omega) (by omega)
        apply hG (fun pc => pc == 2 || pc == 45) 60
        simp (config := { maxSteps := 2000000 }) [-Prod.forall, -Prod.exists, -exists_and_left, -exists_and_right, hW0, hW1, dm_fn, dm_fd, dm_x, dm_L0, dm_la, dm_t1, dm_sw, List.headD, dm_ic, dm_mk, dm_s1, dm_s2, dm_clr, dm_cs, dm_cc, dm_nb0, dm_nb1, Value.category, List.lookup, p_X6_walk, x_X6_walk, k_X6_walk, dm_cm, upd, vp_updL, dm_ui_1, dm_ui_2, dm_ul_1, dm_ul_2, sp_X6_walkOn, sC_0, sC_1, sC_2, sC_3, sC_4, sC_5, sC_6, sC_7, sC_8, sC_9, sC_10, sC_11, sC_12, sC_13, sC_14, sC_15, sC_16, sC_17, sC_18, sC_19, sC_20, sC_21, sC_22, sC_23, sC_24, sC_25, sC_26, sC_27, sC_28, sC_29, sC_30, sC_31, sC_32, sC_33, sC_34, sC_35, sC_36, sC_37, sC_38, sC_39, sC_40, sC_41, sC_42, sC_43, sC_44, sC_45, sC_46, sC_47, sC_48, sC_49, sC_50, sC_51]
        rw [a1.1 1 (by decide), en0, nI_1, nI_1, show (24 : Int32) = nI 24 from rfl, pk_mul, Nat.mul_comm, ci]
        have step : ∀ x : Int64, x = lI (if i < 24 then 0 else fAR) → G 2 [some (.ref 7), some (.int (nI (i + 1)))] [] (dm_ul u' 42 i x) := by
          intro x hx
          refine ih (i + 1) (by omega) _ (kw_frt a1 ⟨fun c hc => rfl, fun c hc => by rw [dm_ul_2, if_neg hc]⟩) (fun j hj => ?_)
          rw [dm_ul_2, if_pos rfl]
          unfold vp_updL
          by_cases z : j = i
          · rw [if_pos z, z]; exact hx
          · rw [if_neg z]; exact a2 j (by omega)
        refine ⟨fun zq => absurd zq (nI_ge (by omega) (by omega)), fun zq => ⟨fun z => ⟨ii, step _ ?_⟩, fun z => ⟨ii, step _ ?_⟩⟩⟩
        · rw [if_neg (by have := (nI_leI (by omega) (by omega)).mp z; omega)]; rfl
        · rw [if_pos (by have := (nI_ltI (by omega) (by omega)).mp z; omega)]; rfl
    apply hG (fun pc => pc == 2) 60
    simp (config := { maxSteps := 2000000 }) [-Prod.forall, -Prod.exists, -exists_and_left, -exists_and_right, hW0, hW1, dm_fn, dm_fd, dm_x, dm_L0, dm_la, dm_t1, dm_sw, List.headD, dm_ic, dm_mk, dm_s1, dm_s2, dm_clr, dm_cs, dm_cc, dm_nb0, dm_nb1, Value.category, List.lookup, p_X6_walk, x_X6_walk, k_X6_walk, dm_cm, upd, vp_updL, dm_ui_1, dm_ui_2, dm_ul_1, dm_ul_2, sp_X6_walkOn, sC_0, sC_1, sC_2, sC_3, sC_4, sC_5, sC_6, sC_7, sC_8, sC_9, sC_10, sC_11, sC_12, sC_13, sC_14, sC_15, sC_16, sC_17, sC_18, sC_19, sC_20, sC_21, sC_22, sC_23, sC_24, sC_25, sC_26, sC_27, sC_28, sC_29, sC_30, sC_31, sC_32, sC_33, sC_34, sC_35, sC_36, sC_37, sC_38, sC_39, sC_40, sC_41, sC_42, sC_43, sC_44, sC_45, sC_46, sC_47, sC_48, sC_49, sC_50, sC_51]
    exact loop1 (24 * (n + 1)) 0 (by omega) u (kw_fr0 u) (fun j hj => by omega)
  · exact hh.elim
set_option maxRecDepth 100000 in
theorem t_X6_walk (l : Launch) (D : va_G) (cA : Nat → ClassId) (ad : Nat → Nat) : dm_Met l D dm_cl cA ad shC yX6_walk (Cond.code yX6_walk cX6_walk 2 (dm_rt 0) :: dm_tt) ({ frames := 1, cells := 0, slots := 0, locals := 26 } : Room) sp_X6_walk := dm_meth (own := RX6) (X := x_X6_walk) (Sp := k_X6_walk) (prog := p_X6_walk) (by decide +kernel) rfl rfl (dm_FO_s ffX6 [(9, 6, 3), (25, 6, 0), (59, 2, 8)] rfl dm_hT (by decide +kernel)) (dm_IO_s ifX6 jfX6 [] [(65, 1152921504606846976)] rfl rfl dm_hT (by decide +kernel) (by decide +kernel)) soC (dm_MO_of (List.forall_mem_cons.mpr ⟨dm_M1_of (t_X6_walkOn l D cA ad) dm_hT (dm_mem [718, 73, 715] (by decide +kernel) (by decide +kernel)) (by decide) (by decide +kernel) (Or.inr ⟨by decide, dm_mem [717, 19] (by decide +kernel) (by decide +kernel), rfl⟩), fun _ h => absurd h List.not_mem_nil⟩)) v_X6_walk u_X6_walk
