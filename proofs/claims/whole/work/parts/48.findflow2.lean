/-! ===== Router.findFlow, the method ===== -/
def sp_X7_findFlow (As : List Value) (u : dm_S) (Q : Option Value → dm_S → Prop) : Prop := match As with
  | [.ref 4] => ∃ (A : AN) (hd sr : Nat → Nat), A.ok ∧ CR u A ∧ LN u A ∧ so_ok u A.n A.K A.b A.e hd sr ∧
    (∀ (u' : dm_S) (lo : Nat → Int), ff_fr u u' → u'.2 24 = lF lo → fits A.K (A.w 1000000000) lo → bal A.n A.K A.b A.e A.s lo → (∀ v, v < A.n → u'.2 25 v = 0) → Q (some (.int 1)) u') ∧
    ∀ (u' : dm_S) (lo : Nat → Int) (S : Nat → Bool), ff_fr u u' → fits A.K (A.w 1000000000) lo → stk A.n A.K A.b A.e A.ln (A.w 1000000000) A.s lo S → (∃ v, v < A.n ∧ A.s v - dv A.K A.b A.e lo v ≠ 0) → (∀ v, v < A.n → (u'.1 33 v = -2 ↔ S v = false)) → Q (some (.int 0)) u'
  | _ => False
def p_X7_findFlow : List dm_I := [(0, .aload_n 0, 1, [0]), (1, .getfield 30, 3, []), (4, .invokevirtual 34, 3, []), (7, .iconst 0, 1, []), (8, .istore_n 1, 1, [1]), (9, .iload_n 1, 1, [1]), (10, .aload_n 0, 1, [0]), (11, .getfield 30, 3, []), (14, .getfield 39, 3, []), (17, .if_icmp .ge 16, 3, [33]), (20, .aload_n 0, 1, [0]), (21, .getfield 9, 3, []), (24, .iload_n 1, 1, [1]), (25, .iconst 1, 1, []), (26, .bastore, 1, []), (27, .iinc 1 1, 3, []), (30, .goto (-21), 3, [9]), (33, .aload_n 0, 1, [0]), (34, .invokevirtual 43, 3, []), (37, .aload_n 0, 1, [0]), (38, .getfield 30, 3, []), (41, .invokevirtual 46, 3, []), (44, .ireturn, 1, [])]
set_option maxRecDepth 100000 in
theorem v_X7_findFlow : p_X7_findFlow.all (dm_vb cX7_findFlow) = true := by decide +kernel
def k_X7_findFlow : dm_Sp := fun a => match a with
  | 0 => sp_X1_unload
  | 1 => sp_X7_sendWhatCanGo
  | 2 => sp_X1_isBalanced
  | _ => fun _ _ _ => False
def x_X7_findFlow : dm_X := dm_mk [(9, 7, 2), (30, 7, 1), (39, 1, 10)] [] [] [(34, 0, 0, 1), (43, 1, 0, 7), (46, 2, 0, 1)] 3
set_option maxRecDepth 100000 in
set_option maxHeartbeats 800000 in
theorem u_X7_findFlow : dm_Pure shC x_X7_findFlow k_X7_findFlow p_X7_findFlow 2 sp_X7_findFlow := by
  intro As u Qp h
  unfold sp_X7_findFlow at h
  split at h
  · obtain ⟨A, hd, sr, hA, hC, hL, hS, h1, h2⟩ := h
    obtain ⟨hn, hM⟩ := hA.1
    have hK := A.K_le hA
    obtain ⟨mm, em, hm⟩ := LN_mm hL hA
    obtain ⟨lo, ex, eU, hl0, he0⟩ := ul_I hA hC
    refine ⟨Nat.le_of_ble_eq_true rfl, fun G Wp hW0 hW1 hG => ?_⟩
    have hfin : ∀ u1 : dm_S, (∀ c, c ≠ 32 → u1.1 c = u.1 c) → u1.2 = (st_x u lo ex).2 → op_ok u1 A.K (fun _ => true) → ∀ (u' : dm_S) (lo' ex' : Nat → Int) (vn : Nat → Option (Option Nat)) (lev : Nat → Nat) (car : Nat → Int) (q : Nat → Nat) (m : Nat), sw_fr u1 u' → LA u' A.n A.K A.b A.e mm lo' ex' → snt A.n A.K A.b A.e (fun _ => true) mm lo ex lo' ex' → rq_ok u' A.n vn car q m → bfI A.n A.K A.b A.e (fun _ => true) mm lo' ex' vn lev car q m → bfX A.K A.b A.e (fun _ => true) mm lo' ex' vn lev q m → bfS A.n ex' vn → (((∀ j, j < A.n → u'.2 25 j = 0) → Qp (some (.int 1)) u') ∧ ((∃ j, j < A.n ∧ ¬ u'.2 25 j = 0) → Qp (some (.int 0)) u')) := by
      intro u1 b1 b2 b3 u' lo' ex' vn lev car q m c1 c2 c3 c4 c5 c6 c7
      have hff : ff_fr u u' := by
        refine ⟨fun c hc => ?_, fun k hk => ?_, fun c hc => ?_⟩
        · simp at hc
          rw [c1.1 c (by omega) (by omega) (by omega), b1 c (by omega)]
        · rw [c1.2.1 k hk, b1 4 (by decide)]
        · simp at hc
          rw [c1.2.2 c (by omega) (by omega) (by omega), b2, st_xo (by omega) (by omega)]
      have hBe : ∀ v, v < A.n → lB (ex' v) := fun v hv => by
        have q1 := A.s_bd hA hv
        have q2 := c3.2.2.2.1 v hv
        rw [he0 v hv] at q2
        unfold lB
        rcases Int.le_total 0 (A.s v) with y | y
        · have := q2.1 y; omega
        · have := q2.2 y; omega
      have hexs : ∀ v, v < A.n → ex' v = A.s v - dv A.K A.b A.e lo' v := by
        intro v hv
        have g1 := c3.2.1 v hv
        have g2 : dv A.K A.b A.e lo v = 0 := by
          have : dv A.K A.b A.e lo v = dv A.K A.b A.e (fun _ => 0) v := dv_cg (fun l hl => hl0 l (by omega))
          rw [this]
          exact sI_0 (fun l _ => by split <;> split <;> rfl)
        rw [he0 v hv] at g1
        omega
      have h0 : (0 : Int64) = lI 0 := rfl
      have hB0 : lB 0 := by unfold lB; omega
      have hft := LB_eq c3.1 hm
      refine ⟨fun z => h1 u' lo' hff c2.2.2.1 hft (fun v hv => ?_) z, fun z => ?_⟩
      · have z1 := z v hv
        rw [c2.2.2.2, lF_at, h0, lI_eq (hBe v hv) hB0] at z1
        have := hexs v hv
        omega
      · obtain ⟨j, hj, z1⟩ := z
        rw [c2.2.2.2, lF_at, h0, lI_eq (hBe j hj) hB0] at z1
        refine h2 u' lo' _ hff hft (ff_stk hA hm hl0 he0 c3 c5 c6 c7) ⟨j, hj, by rw [← hexs j hj]; exact z1⟩ (fun v hv => ?_)
        rw [c4.1 v (by omega), cvn_ne (fun w hw => bfI_w c5 hK hv hw)]
        cases vn v <;> simp
    have loop : ∀ k l : Nat, l + k = A.K → ∀ u1 : dm_S, (∀ c, c ≠ 32 → u1.1 c = u.1 c) → u1.2 = (st_x u lo ex).2 → op_ok u1 l (fun _ => true) → G 9 [some (.ref 4), some (.int (nI l))] [] u1 := by
      intro k
      induction k with
      | zero =>
        intro l hl u1 b1 b2 b3
        have e : l = A.K := by omega
        subst e
        have eK : u1.1 2 10 = nI A.K := by rw [b1 2 (by decide)]; exact hL.2.1.1.2.2.2
        have en : u1.1 1 8 = nI A.n := by rw [b1 1 (by decide)]; exact hC.1.1
        apply hG (fun pc => pc == 9) 40
        simp (config := { maxSteps := 2000000 }) [-Prod.forall, -Prod.exists, -exists_and_left, -exists_and_right, hW0, hW1, dm_fn, dm_fd, dm_x, dm_L0, dm_la, dm_t1, dm_sw, List.headD, dm_ic, dm_mk, dm_s1, dm_s2, dm_clr, dm_cs, dm_cc, dm_nb0, dm_nb1, Value.category, List.lookup, p_X7_findFlow, x_X7_findFlow, k_X7_findFlow, dm_cm, upd, vp_updL, dm_ui_1, dm_ui_2, dm_ul_1, dm_ul_2, sp_X1_unload, sp_X7_sendWhatCanGo, sp_X1_isBalanced, sC_0, sC_1, sC_2, sC_3, sC_4, sC_5, sC_6, sC_7, sC_8, sC_9, sC_10, sC_11, sC_12, sC_13, sC_14, sC_15, sC_16, sC_17, sC_18, sC_19, sC_20, sC_21, sC_22, sC_23, sC_24, sC_25, sC_26, sC_27, sC_28, sC_29, sC_30, sC_31, sC_32, sC_33, sC_34, sC_35, sC_36, sC_37, sC_38, sC_39, sC_40, sC_41, sC_42, sC_43, sC_44, sC_45, sC_46, sC_47, sC_48, sC_49, sC_50, sC_51]
        rw [eK]
        have hLn : LN u1 A := LN_fr hL (fun c hc => b1 c (fun z => by rw [z] at hc; revert hc; decide)) (fun c hc => by rw [b2, st_xo (fun z => by rw [z] at hc; revert hc; decide) (fun z => by rw [z] at hc; revert hc; decide)])
        refine ⟨fun _ => ⟨A.n, A.K, A.b, A.e, fun _ => true, mm, lo, ex, hd, sr, ⟨hLn.2.1, ?_, ?_, ?_⟩, ⟨fun l hl => ?_, fun l hl => ?_, fun v hv => ?_⟩, so_eq hS (b1 26 (by decide)) (b1 27 (by decide)), b3, ?_⟩, fun zq => absurd zq (nI_nlt (Nat.le_refl _) (by omega))⟩
        · rw [b2, st_xo (by decide) (by decide)]; exact em
        · rw [b2]; rfl
        · rw [b2]; rfl
        · rw [hl0 l (by omega), hm l hl]
          have := A.w_bd hA (B := 1000000000) (by omega) hl
          omega
        · rw [hm l hl]
          have := A.w_bd hA (B := 1000000000) (by omega) hl
          omega
        · rw [he0 v hv]
          have := A.s_bd hA hv
          omega
        · intro u' lo' ex' vn lev car q m c1 c2 c3 c4 c5 c6 c7
          have hf := hfin u1 b1 b2 b3 u' lo' ex' vn lev car q m c1 c2 c3 c4 c5 c6 c7
          exact ⟨A.n, hn, by rw [c1.1 1 (by decide) (by decide) (by decide)]; exact en, hf.1, fun j hj hz => hf.2 ⟨j, hj, hz⟩⟩
      | succ k ih =>
        intro l hl u1 b1 b2 b3
        have eK : u1.1 2 10 = nI A.K := by rw [b1 2 (by decide)]; exact hL.2.1.1.2.2.2
        apply hG (fun pc => pc == 9) 40
        simp (config := { maxSteps := 2000000 }) [-Prod.forall, -Prod.exists, -exists_and_left, -exists_and_right, hW0, hW1, dm_fn, dm_fd, dm_x, dm_L0, dm_la, dm_t1, dm_sw, List.headD, dm_ic, dm_mk, dm_s1, dm_s2, dm_clr, dm_cs, dm_cc, dm_nb0, dm_nb1, Value.category, List.lookup, p_X7_findFlow, x_X7_findFlow, k_X7_findFlow, dm_cm, upd, vp_updL, dm_ui_1, dm_ui_2, dm_ul_1, dm_ul_2, sp_X1_unload, sp_X7_sendWhatCanGo, sp_X1_isBalanced, sC_0, sC_1, sC_2, sC_3, sC_4, sC_5, sC_6, sC_7, sC_8, sC_9, sC_10, sC_11, sC_12, sC_13, sC_14, sC_15, sC_16, sC_17, sC_18, sC_19, sC_20, sC_21, sC_22, sC_23, sC_24, sC_25, sC_26, sC_27, sC_28, sC_29, sC_30, sC_31, sC_32, sC_33, sC_34, sC_35, sC_36, sC_37, sC_38, sC_39, sC_40, sC_41, sC_42, sC_43, sC_44, sC_45, sC_46, sC_47, sC_48, sC_49, sC_50, sC_51]
        rw [eK, nI_clamp (n := l) (by omega), nI_1]
        refine ⟨fun zq => absurd zq (nI_ge (by omega) (by omega)), fun zq => ⟨vp_in_nI (by omega) (by omega), ?_⟩⟩
        refine ih (l + 1) (by omega) _ (fun c hc => ?_) b2 (fun j hj => ?_)
        · rw [dm_ui_1, if_neg hc]; exact b1 c hc
        · rw [dm_ui_1, if_pos rfl]
          unfold upd
          by_cases z : j = l
          · rw [if_pos z]; rfl
          · rw [if_neg z]; exact b3 j (by omega)
    apply hG (fun pc => pc == 9) 40
    simp (config := { maxSteps := 2000000 }) [-Prod.forall, -Prod.exists, -exists_and_left, -exists_and_right, hW0, hW1, dm_fn, dm_fd, dm_x, dm_L0, dm_la, dm_t1, dm_sw, List.headD, dm_ic, dm_mk, dm_s1, dm_s2, dm_clr, dm_cs, dm_cc, dm_nb0, dm_nb1, Value.category, List.lookup, p_X7_findFlow, x_X7_findFlow, k_X7_findFlow, dm_cm, upd, vp_updL, dm_ui_1, dm_ui_2, dm_ul_1, dm_ul_2, sp_X1_unload, sp_X7_sendWhatCanGo, sp_X1_isBalanced, sC_0, sC_1, sC_2, sC_3, sC_4, sC_5, sC_6, sC_7, sC_8, sC_9, sC_10, sC_11, sC_12, sC_13, sC_14, sC_15, sC_16, sC_17, sC_18, sC_19, sC_20, sC_21, sC_22, sC_23, sC_24, sC_25, sC_26, sC_27, sC_28, sC_29, sC_30, sC_31, sC_32, sC_33, sC_34, sC_35, sC_36, sC_37, sC_38, sC_39, sC_40, sC_41, sC_42, sC_43, sC_44, sC_45, sC_46, sC_47, sC_48, sC_49, sC_50, sC_51]
    refine ⟨A.n, A.M, A.fr, A.tr, A.pt, CR_cn hC hA, hL.1, ?_⟩
    rw [eU]
    exact loop A.K 0 (by omega) _ (fun c _ => rfl) rfl (fun l hl => absurd hl (Nat.not_lt_zero _))
  · exact h.elim
set_option maxRecDepth 100000 in
theorem t_X7_findFlow (l : Launch) (D : va_G) (cA : Nat → ClassId) (ad : Nat → Nat) : dm_Met l D dm_cl cA ad shC yX7_findFlow (Cond.code yX7_findFlow cX7_findFlow 2 (dm_rt 3) :: dm_tt) ({ frames := 4, cells := 0, slots := 0, locals := 94 } : Room) sp_X7_findFlow := dm_meth (own := RX7) (X := x_X7_findFlow) (Sp := k_X7_findFlow) (prog := p_X7_findFlow) (by decide +kernel) rfl rfl (dm_FO_s ffX7 [(9, 7, 2), (30, 7, 1), (39, 1, 10)] rfl dm_hT (by decide +kernel)) (dm_IO_s ifX7 jfX7 [] [] rfl rfl dm_hT (by decide +kernel) (by decide +kernel)) soC (dm_MO_of (List.forall_mem_cons.mpr ⟨dm_M1_of (t_X1_unload l D cA ad) dm_hT (dm_mem [573, 68, 570] (by decide +kernel) (by decide +kernel)) (by decide) (by decide +kernel) (Or.inr ⟨by decide, dm_mem [571, 572] (by decide +kernel) (by decide +kernel), rfl⟩), List.forall_mem_cons.mpr ⟨dm_M1_of (t_X7_sendWhatCanGo l D cA ad) dm_hT (dm_mem [592, 70, 589] (by decide +kernel) (by decide +kernel)) (by decide) (by decide +kernel) (Or.inr ⟨by decide, dm_mem [591, 4] (by decide +kernel) (by decide +kernel), rfl⟩), List.forall_mem_cons.mpr ⟨dm_M1_of (t_X1_isBalanced l D cA ad) dm_hT (dm_mem [634, 68, 631] (by decide +kernel) (by decide +kernel)) (by decide) (by decide +kernel) (Or.inr ⟨by decide, dm_mem [632, 633] (by decide +kernel) (by decide +kernel), rfl⟩), fun _ h => absurd h List.not_mem_nil⟩⟩⟩)) v_X7_findFlow u_X7_findFlow
