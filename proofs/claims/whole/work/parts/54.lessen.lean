/-! ===== Router.lessen ===== -/
theorem ff_fr0 (u : dm_S) : ff_fr u u := ⟨fun _ _ => rfl, fun _ _ => rfl, fun _ _ => rfl⟩
theorem ff_frt {u u' u'' : dm_S} (h : ff_fr u u') (h2 : ff_fr u' u'') : ff_fr u u'' := ⟨fun c a => (h2.1 c a).trans (h.1 c a), fun k a => (h2.2.1 k a).trans (h.2.1 k a), fun c a => (h2.2.2 c a).trans (h.2.2 c a)⟩
theorem ff_sw {u u' : dm_S} (h : sw_fr u u') : ff_fr u u' := ⟨fun c hc => by simp at hc; exact h.1 c (by omega) (by omega) (by omega), h.2.1, fun c hc => by simp at hc; exact h.2.2 c (by omega) (by omega) (by omega)⟩
theorem ff_cl {u u' : dm_S} (h : cl_fr u u') : ff_fr u u' := ⟨fun c hc => by simp at hc; exact h.1 c (by omega), fun k _ => by rw [h.1 4 (by decide)], fun c hc => by simp at hc; exact h.2 c (by omega) (by omega)⟩
theorem ff_x {u : dm_S} {x ex : Nat → Int} : ff_fr u (st_x u x ex) := ff_sw sw_frx
theorem LN_ff {u u' : dm_S} {A : AN} (h : LN u A) (hf : ff_fr u u') : LN u' A := LN_fr h (fun c hc => hf.1 c (by intro z; revert hc z; revert c; decide)) (fun c hc => hf.2.2 c (by intro z; revert hc z; revert c; decide))
theorem so_ff {u u' : dm_S} {n K : Nat} {b e hd sr : Nat → Nat} (h : so_ok u n K b e hd sr) (hf : ff_fr u u') : so_ok u' n K b e hd sr := so_eq h (hf.1 26 (by decide)) (hf.1 27 (by decide))
def sp_X7_lessen (As : List Value) (u : dm_S) (Q : Option Value → dm_S → Prop) : Prop := match As with
  | [.ref 4, .ref 36] => ∃ (A : AN) (mm p lo ex : Nat → Int) (hd sr : Nat → Nat), A.ok ∧ CR u A ∧ LN u A ∧ so_ok u A.n A.K A.b A.e hd sr ∧ (u.2 22 = lF mm ∧ ∀ l, l < A.K → mm l = A.w 1000000000 l) ∧ u.2 36 = lF p ∧ (∀ v, v < A.n → -1152921504606846976 ≤ p v ∧ p v ≤ 1152921504606846976) ∧ u.2 24 = lF lo ∧ u.2 25 = lF ex ∧ A.opt mm p lo ∧ (∀ v, v < A.n → ex v = 0) ∧
    ∀ (u' : dm_S) (lo' : Nat → Int), ff_fr u u' → u'.2 24 = lF lo' → A.opt mm p lo' → A.lex mm p lo' A.M → Q none u'
  | _ => False
def p_X7_lessen : List dm_I := [(0, .iconst 0, 1, []), (1, .istore_n 2, 1, [2]), (2, .iload_n 2, 1, [2]), (3, .aload_n 0, 1, [0]), (4, .getfield 30, 3, []), (7, .getfield 39, 3, []), (10, .if_icmp .ge 56, 3, [66]), (13, .aload_n 0, 1, [0]), (14, .getfield 9, 3, []), (17, .iload_n 2, 1, [2]), (18, .aload_n 0, 1, [0]), (19, .getfield 30, 3, []), (22, .getfield 50, 3, []), (25, .iload_n 2, 1, [2]), (26, .laload, 1, []), (27, .aload_n 1, 1, [1]), (28, .aload_n 0, 1, [0]), (29, .getfield 30, 3, []), (32, .getfield 53, 3, []), (35, .iload_n 2, 1, [2]), (36, .iaload, 1, []), (37, .laload, 1, []), (38, .aload_n 1, 1, [1]), (39, .aload_n 0, 1, [0]), (40, .getfield 30, 3, []), (43, .getfield 56, 3, []), (46, .iload_n 2, 1, [2]), (47, .iaload, 1, []), (48, .laload, 1, []), (49, .lsub, 1, []), (50, .lcmp, 1, []), (51, .ifCond .ne 7, 3, [58]), (54, .iconst 1, 1, []), (55, .goto 4, 3, [59]), (58, .iconst 0, 1, []), (59, .bastore, 1, []), (60, .iinc 2 1, 3, []), (63, .goto (-61), 3, [2]), (66, .iconst 0, 1, []), (67, .istore_n 2, 1, [2]), (68, .iload_n 2, 1, [2]), (69, .aload_n 0, 1, [0]), (70, .getfield 26, 3, []), (73, .getfield 59, 3, []), (76, .if_icmp .ge 26, 3, [102]), (79, .aload_n 0, 1, [0]), (80, .iload_n 2, 1, [2]), (81, .invokevirtual 64, 3, []), (84, .ifCond .eq 12, 3, [96]), (87, .aload_n 0, 1, [0]), (88, .invokevirtual 43, 3, []), (91, .aload_n 0, 1, [0]), (92, .iload_n 2, 1, [2]), (93, .invokevirtual 68, 3, []), (96, .iinc 2 1, 3, []), (99, .goto (-31), 3, [68]), (102, .return_, 1, [])]
set_option maxRecDepth 100000 in
theorem v_X7_lessen : p_X7_lessen.all (dm_vb cX7_lessen) = true := by decide +kernel
def k_X7_lessen : dm_Sp := fun a => match a with
  | 0 => sp_X7_closeLanes
  | 1 => sp_X7_sendWhatCanGo
  | 2 => sp_X7_putBack
  | _ => fun _ _ _ => False
def x_X7_lessen : dm_X := dm_mk [(9, 7, 2), (26, 7, 0), (30, 7, 1), (39, 1, 10), (50, 1, 5), (53, 1, 3), (56, 1, 2), (59, 2, 9)] [] [] [(64, 0, 1, 7), (43, 1, 0, 7), (68, 2, 1, 7)] 0
set_option maxRecDepth 100000 in
set_option maxHeartbeats 1600000 in
theorem u_X7_lessen : dm_Pure shC x_X7_lessen k_X7_lessen p_X7_lessen 3 sp_X7_lessen := by
  intro As u Qp h
  unfold sp_X7_lessen at h
  split at h
  · obtain ⟨A, mm, p, lo, ex, hd, sr, hA, hC, hL, hS, ⟨e22, hm⟩, e36, hp, e24, e25, hx, hex, h⟩ := h
    obtain ⟨hn, hM⟩ := hA.1
    have hK := A.K_le hA
    have hwb := fun l hl => A.w_bd hA (B := 1000000000) (l := l) (by omega) hl
    have hm0 : ∀ l, l < A.K → 0 ≤ mm l := fun l hl => by rw [hm l hl]; exact (hwb l hl).1
    refine ⟨Nat.le_of_ble_eq_true rfl, fun G Wp hW0 hW1 hG => ?_⟩
    have loop2 : ∀ k a : Nat, a + k = A.M → ∀ (u' : dm_S) (lo' ex' : Nat → Int), ff_fr u u' → u'.2 24 = lF lo' → u'.2 25 = lF ex' → (∀ v, v < A.n → ex' v = 0) → op_ok u' A.K (A.opn p a) → A.opt mm p lo' → A.lex mm p lo' a → G 68 [some (.ref 4), some (.ref 36), some (.int (nI a))] [] u' := by
      intro k
      induction k with
      | zero =>
        intro a ha u' lo' ex' a1 a2 a3 a4 a5 a6 a7
        have e1 : u'.1 1 9 = nI A.M := by rw [a1.1 1 (by decide)]; exact hC.1.2
        have e : a = A.M := by omega
        subst e
        apply hG (fun pc => pc == 68) 80
        simp (config := { maxSteps := 2000000 }) [-Prod.forall, -Prod.exists, -exists_and_left, -exists_and_right, hW0, hW1, dm_fn, dm_fd, dm_x, dm_L0, dm_la, dm_t1, dm_sw, List.headD, dm_ic, dm_mk, dm_s1, dm_s2, dm_clr, dm_cs, dm_cc, dm_nb0, dm_nb1, Value.category, List.lookup, p_X7_lessen, x_X7_lessen, k_X7_lessen, dm_cm, upd, vp_updL, dm_ui_1, dm_ui_2, dm_ul_1, dm_ul_2, sp_X7_closeLanes, sp_X7_sendWhatCanGo, sp_X7_putBack, sC_0, sC_1, sC_2, sC_3, sC_4, sC_5, sC_6, sC_7, sC_8, sC_9, sC_10, sC_11, sC_12, sC_13, sC_14, sC_15, sC_16, sC_17, sC_18, sC_19, sC_20, sC_21, sC_22, sC_23, sC_24, sC_25, sC_26, sC_27, sC_28, sC_29, sC_30, sC_31, sC_32, sC_33, sC_34, sC_35, sC_36, sC_37, sC_38, sC_39, sC_40, sC_41, sC_42, sC_43, sC_44, sC_45, sC_46, sC_47, sC_48, sC_49, sC_50, sC_51]
        rw [e1]
        exact ⟨fun _ => h u' lo' a1 a2 a6 a7, fun zq => absurd zq (nI_nlt (Nat.le_refl _) (by omega))⟩
      | succ k ih =>
        intro a ha u' lo' ex' a1 a2 a3 a4 a5 a6 a7
        have e1 : u'.1 1 9 = nI A.M := by rw [a1.1 1 (by decide)]; exact hC.1.2
        have ham : a < A.M := by omega
        obtain ⟨f1, f2, f3, f4, f5, f6, f7⟩ := A.cl_facts hA ham a6
        have htb : cl_tk A a (A.opn p a) lo' (A.pt a) ≤ 4000000000 := by
          have g1 : sI (fun j => if A.tgt p (cn_fs A.pt a + j) then mm (cn_fs A.pt a + j) else 0) (A.pt a) ≤ A.pt a * 1000000000 := sI_bd (fun j hj => by
            have g2 := (A.l_at ham hj).1
            have g3 := hwb _ g2
            show (if A.tgt p (cn_fs A.pt a + j) then mm (cn_fs A.pt a + j) else 0) ≤ 1000000000
            rw [hm _ g2]
            split <;> omega)
          have := (hA.2.1 a ham).2.1.2
          omega
        apply hG (fun pc => pc == 68) 80
        simp (config := { maxSteps := 2000000 }) [-Prod.forall, -Prod.exists, -exists_and_left, -exists_and_right, hW0, hW1, dm_fn, dm_fd, dm_x, dm_L0, dm_la, dm_t1, dm_sw, List.headD, dm_ic, dm_mk, dm_s1, dm_s2, dm_clr, dm_cs, dm_cc, dm_nb0, dm_nb1, Value.category, List.lookup, p_X7_lessen, x_X7_lessen, k_X7_lessen, dm_cm, upd, vp_updL, dm_ui_1, dm_ui_2, dm_ul_1, dm_ul_2, sp_X7_closeLanes, sp_X7_sendWhatCanGo, sp_X7_putBack, sC_0, sC_1, sC_2, sC_3, sC_4, sC_5, sC_6, sC_7, sC_8, sC_9, sC_10, sC_11, sC_12, sC_13, sC_14, sC_15, sC_16, sC_17, sC_18, sC_19, sC_20, sC_21, sC_22, sC_23, sC_24, sC_25, sC_26, sC_27, sC_28, sC_29, sC_30, sC_31, sC_32, sC_33, sC_34, sC_35, sC_36, sC_37, sC_38, sC_39, sC_40, sC_41, sC_42, sC_43, sC_44, sC_45, sC_46, sC_47, sC_48, sC_49, sC_50, sC_51]
        rw [e1, nI_1]
        refine ⟨fun zq => absurd zq (nI_ge (by omega) (by omega)), fun zq => ⟨A, A.opn p a, lo', ex', a, hA, CR_fr hC (ff_nt a1), LN_ff hL a1, a5, a2, a3, ham, rfl, by unfold lB; omega, fun u1 b1 b2 b3 b4 => ?_⟩⟩
        have hf1 := ff_frt a1 (ff_cl b1)
        have b2' : op_ok u1 A.K (A.opn p (a + 1)) := fun l hl => by rw [b2 l hl, f1 l hl]
        refine ⟨fun z => ?_, fun z => ?_⟩
        · have z0 : cl_tk A a (A.opn p a) lo' (A.pt a) = 0 := by omega
          obtain ⟨g1, g2⟩ := A.lex_zero hA ham a6 a7 z0
          refine ih (a + 1) (by omega) u1 _ _ hf1 b3 b4 (fun v hv => ?_) b2' g1 g2
          show ex' v + (if A.fr a = v then cl_tk A a (A.opn p a) lo' (A.pt a) else 0) - (if A.tr a = v then cl_tk A a (A.opn p a) lo' (A.pt a) else 0) = 0
          rw [a4 v hv, z0]
          split <;> split <;> omega
        · have hLA : LA u1 A.n A.K A.b A.e mm (cl_lo A a (A.opn p a) lo' (A.pt a)) (fun v => ex' v + (if A.fr a = v then cl_tk A a (A.opn p a) lo' (A.pt a) else 0) - (if A.tr a = v then cl_tk A a (A.opn p a) lo' (A.pt a) else 0)) := ⟨(LN_ff hL hf1).2.1, (hf1.2.2 22 (by decide)).trans e22, b3, b4⟩
          have hft1 : fits A.K mm (cl_lo A a (A.opn p a) lo' (A.pt a)) := by
            intro l hl
            have g1 := a6.1 l hl
            by_cases y : A.ar l = a ∧ A.tgt p l = true
            · rw [f2 l hl y.1 y.2]; have := hm0 l hl; omega
            · rw [f3 l hl y]; exact g1
          refine ⟨A.n, A.K, A.b, A.e, A.opn p (a + 1), mm, _, _, hd, sr, hLA, ⟨hft1, fun l hl => ?_, fun v hv => ?_⟩, so_ff hS hf1, b2', fun u2 lo2 ex2 vn lev car q m c1 c2 c3 c4 c5 c6 c7 => ?_⟩
          · rw [hm l hl]; have := hwb l hl; omega
          · show -1152921504606846976 ≤ ex' v + (if A.fr a = v then cl_tk A a (A.opn p a) lo' (A.pt a) else 0) - (if A.tr a = v then cl_tk A a (A.opn p a) lo' (A.pt a) else 0) ∧ ex' v + (if A.fr a = v then cl_tk A a (A.opn p a) lo' (A.pt a) else 0) - (if A.tr a = v then cl_tk A a (A.opn p a) lo' (A.pt a) else 0) ≤ 1152921504606846976
            rw [a4 v hv]
            split <;> split <;> omega
          · have hf2 := ff_frt hf1 (ff_sw c1)
            obtain ⟨g1, g2, g3, g4⟩ := A.lex_send hA ham hm0 a6 a7 (fun v hv => by
              show ex' v + (if A.fr a = v then cl_tk A a (A.opn p a) lo' (A.pt a) else 0) - (if A.tr a = v then cl_tk A a (A.opn p a) lo' (A.pt a) else 0) = _
              rw [a4 v hv, Int.zero_add]) c3 c5 c6 c7
            refine ⟨A, mm, lo2, ex2, a, hA, CR_fr hC (ff_nt hf2), LN_ff hL hf2, (hf2.2.2 22 (by decide)).trans e22, c2.2.2.1, c2.2.2.2, ham, rfl, ⟨g1.1, by omega⟩, fun l hl => ?_, ?_⟩
            · have q1 := c3.1 l hl
              have q2 := hwb l hl
              rw [← hm l hl] at q2
              omega
            · exact ih (a + 1) (by omega) _ _ _ (ff_frt hf2 ff_x) st_x24 st_x25 g4 (op_sw (op_sw b2' c1) sw_frx) g2 g3
    have loop1 : ∀ k l : Nat, l + k = A.K → ∀ u' : dm_S, (∀ c, c ≠ 32 → u'.1 c = u.1 c) → u'.2 = u.2 → op_ok u' l (A.opn p 0) → G 2 [some (.ref 4), some (.ref 36), some (.int (nI l))] [] u' := by
      intro k
      induction k with
      | zero =>
        intro l hl u' a1 a2 a3
        have e : l = A.K := by omega
        subst e
        have eK : u'.1 2 10 = nI A.K := by rw [a1 2 (by decide)]; exact hL.2.1.1.2.2.2
        apply hG (fun pc => pc == 2 || pc == 68) 80
        simp (config := { maxSteps := 2000000 }) [-Prod.forall, -Prod.exists, -exists_and_left, -exists_and_right, hW0, hW1, dm_fn, dm_fd, dm_x, dm_L0, dm_la, dm_t1, dm_sw, List.headD, dm_ic, dm_mk, dm_s1, dm_s2, dm_clr, dm_cs, dm_cc, dm_nb0, dm_nb1, Value.category, List.lookup, p_X7_lessen, x_X7_lessen, k_X7_lessen, dm_cm, upd, vp_updL, dm_ui_1, dm_ui_2, dm_ul_1, dm_ul_2, sp_X7_closeLanes, sp_X7_sendWhatCanGo, sp_X7_putBack, sC_0, sC_1, sC_2, sC_3, sC_4, sC_5, sC_6, sC_7, sC_8, sC_9, sC_10, sC_11, sC_12, sC_13, sC_14, sC_15, sC_16, sC_17, sC_18, sC_19, sC_20, sC_21, sC_22, sC_23, sC_24, sC_25, sC_26, sC_27, sC_28, sC_29, sC_30, sC_31, sC_32, sC_33, sC_34, sC_35, sC_36, sC_37, sC_38, sC_39, sC_40, sC_41, sC_42, sC_43, sC_44, sC_45, sC_46, sC_47, sC_48, sC_49, sC_50, sC_51]
        rw [eK]
        refine ⟨fun _ => loop2 A.M 0 (by omega) u' lo ex ⟨fun c hc => ?_, fun k _ => by rw [a1 4 (by decide)], fun c _ => by rw [a2]⟩ (by rw [a2]; exact e24) (by rw [a2]; exact e25) hex a3 hx (fun a' ha' => by omega), fun zq => absurd zq (nI_nlt (Nat.le_refl _) (by omega))⟩
        simp at hc
        exact a1 c (by omega)
      | succ k ih =>
        intro l hl u' a1 a2 a3
        have hlK : l < A.K := by omega
        have eK : u'.1 2 10 = nI A.K := by rw [a1 2 (by decide)]; exact hL.2.1.1.2.2.2
        obtain ⟨⟨g1, g2⟩, g3, g4⟩ := hL.2.1.2 l hlK
        have g5 := (hL.2.2 l hlK).2
        have cl : (nI l).toNatClampNeg = l := nI_clamp (by omega)
        have cb : (nI (A.b l)).toNatClampNeg = A.b l := nI_clamp (by omega)
        have ce : (nI (A.e l)).toNatClampNeg = A.e l := nI_clamp (by omega)
        apply hG (fun pc => pc == 2 || pc == 68) 80
        simp (config := { maxSteps := 2000000 }) [-Prod.forall, -Prod.exists, -exists_and_left, -exists_and_right, hW0, hW1, dm_fn, dm_fd, dm_x, dm_L0, dm_la, dm_t1, dm_sw, List.headD, dm_ic, dm_mk, dm_s1, dm_s2, dm_clr, dm_cs, dm_cc, dm_nb0, dm_nb1, Value.category, List.lookup, p_X7_lessen, x_X7_lessen, k_X7_lessen, dm_cm, upd, vp_updL, dm_ui_1, dm_ui_2, dm_ul_1, dm_ul_2, sp_X7_closeLanes, sp_X7_sendWhatCanGo, sp_X7_putBack, sC_0, sC_1, sC_2, sC_3, sC_4, sC_5, sC_6, sC_7, sC_8, sC_9, sC_10, sC_11, sC_12, sC_13, sC_14, sC_15, sC_16, sC_17, sC_18, sC_19, sC_20, sC_21, sC_22, sC_23, sC_24, sC_25, sC_26, sC_27, sC_28, sC_29, sC_30, sC_31, sC_32, sC_33, sC_34, sC_35, sC_36, sC_37, sC_38, sC_39, sC_40, sC_41, sC_42, sC_43, sC_44, sC_45, sC_46, sC_47, sC_48, sC_49, sC_50, sC_51]
        rw [eK, a1 20 (by decide), a1 21 (by decide), a2, e36, cl, g1, g3, g5, cb, ce, lF_at, lF_at, lI_sub, nI_1]
        have il : vp_in (nI l) 320 := vp_in_nI (by omega) (by omega)
        have ib : vp_in (nI (A.b l)) 24 := vp_in_nI (by omega) (by omega)
        have ie : vp_in (nI (A.e l)) 24 := vp_in_nI (by omega) (by omega)
        have hB1 : lB (A.c l) := by
          obtain ⟨q1, k2, q2, q3, q4⟩ := A.l_in hlK
          have q5 := (hA.2.1 _ q1).2.2.2.1 k2 q2
          unfold lB AN.c
          rw [q4]; omega
        have hB2 : lB (p (A.e l) - p (A.b l)) := by
          have q1 := hp _ g2
          have q2 := hp _ g4
          unfold lB; omega
        have hop : A.opn p 0 l = decide (A.c l = p (A.e l) - p (A.b l)) := by
          unfold AN.opn AN.tgt rc
          simp
          omega
        have step : ∀ x : Int32, x = (if A.opn p 0 l then 1 else 0) → G 2 [some (.ref 4), some (.ref 36), some (.int (nI (l + 1)))] [] (dm_ui u' 32 l x) := by
          intro x hx
          refine ih (l + 1) (by omega) _ (fun c hc => ?_) a2 (fun j hj => ?_)
          · rw [dm_ui_1, if_neg hc]; exact a1 c hc
          · rw [dm_ui_1, if_pos rfl]
            by_cases y : j = l
            · rw [y]
              unfold upd
              rw [if_pos rfl]; exact hx
            · unfold upd
              rw [if_neg y]; exact a3 j (by omega)
        refine ⟨fun zq => absurd zq (nI_ge (by omega) (by omega)), fun zq => ⟨il, ie, il, ib, fun z => ⟨il, step 0 ?_⟩, fun z => ⟨il, step 1 ?_⟩⟩⟩
        · rw [lI_eq hB1 hB2] at z
          rw [hop, decide_eq_false z]; rfl
        · rw [lI_eq hB1 hB2] at z
          rw [hop, decide_eq_true z]; rfl
    apply hG (fun pc => pc == 2) 80
    simp (config := { maxSteps := 2000000 }) [-Prod.forall, -Prod.exists, -exists_and_left, -exists_and_right, hW0, hW1, dm_fn, dm_fd, dm_x, dm_L0, dm_la, dm_t1, dm_sw, List.headD, dm_ic, dm_mk, dm_s1, dm_s2, dm_clr, dm_cs, dm_cc, dm_nb0, dm_nb1, Value.category, List.lookup, p_X7_lessen, x_X7_lessen, k_X7_lessen, dm_cm, upd, vp_updL, dm_ui_1, dm_ui_2, dm_ul_1, dm_ul_2, sp_X7_closeLanes, sp_X7_sendWhatCanGo, sp_X7_putBack, sC_0, sC_1, sC_2, sC_3, sC_4, sC_5, sC_6, sC_7, sC_8, sC_9, sC_10, sC_11, sC_12, sC_13, sC_14, sC_15, sC_16, sC_17, sC_18, sC_19, sC_20, sC_21, sC_22, sC_23, sC_24, sC_25, sC_26, sC_27, sC_28, sC_29, sC_30, sC_31, sC_32, sC_33, sC_34, sC_35, sC_36, sC_37, sC_38, sC_39, sC_40, sC_41, sC_42, sC_43, sC_44, sC_45, sC_46, sC_47, sC_48, sC_49, sC_50, sC_51]
    exact loop1 A.K 0 (by omega) u (fun _ _ => rfl) rfl (fun l hl => absurd hl (Nat.not_lt_zero _))
  · exact h.elim
set_option maxRecDepth 100000 in
theorem t_X7_lessen (l : Launch) (D : va_G) (cA : Nat → ClassId) (ad : Nat → Nat) : dm_Met l D dm_cl cA ad shC yX7_lessen (Cond.code yX7_lessen cX7_lessen 3 (dm_rt 0) :: dm_tt) ({ frames := 4, cells := 0, slots := 0, locals := 94 } : Room) sp_X7_lessen := dm_meth (own := RX7) (X := x_X7_lessen) (Sp := k_X7_lessen) (prog := p_X7_lessen) (by decide +kernel) rfl rfl (dm_FO_s ffX7 [(9, 7, 2), (26, 7, 0), (30, 7, 1), (39, 1, 10), (50, 1, 5), (53, 1, 3), (56, 1, 2), (59, 2, 9)] rfl dm_hT (by decide +kernel)) (dm_IO_s ifX7 jfX7 [] [] rfl rfl dm_hT (by decide +kernel) (by decide +kernel)) soC (dm_MO_of (List.forall_mem_cons.mpr ⟨dm_M1_of (t_X7_closeLanes l D cA ad) dm_hT (dm_mem [814, 70, 811] (by decide +kernel) (by decide +kernel)) (by decide) (by decide +kernel) (Or.inr ⟨by decide, dm_mem [813, 34] (by decide +kernel) (by decide +kernel), rfl⟩), List.forall_mem_cons.mpr ⟨dm_M1_of (t_X7_sendWhatCanGo l D cA ad) dm_hT (dm_mem [592, 70, 589] (by decide +kernel) (by decide +kernel)) (by decide) (by decide +kernel) (Or.inr ⟨by decide, dm_mem [591, 4] (by decide +kernel) (by decide +kernel), rfl⟩), List.forall_mem_cons.mpr ⟨dm_M1_of (t_X7_putBack l D cA ad) dm_hT (dm_mem [818, 70, 815] (by decide +kernel) (by decide +kernel)) (by decide) (by decide +kernel) (Or.inr ⟨by decide, dm_mem [817, 35] (by decide +kernel) (by decide +kernel), rfl⟩), fun _ h => absurd h List.not_mem_nil⟩⟩⟩)) v_X7_lessen u_X7_lessen
