/-! ===== the reference: takeFlow, nextCost, costOf ===== -/
def tf_fr (u u' : dm_S) : Prop := u'.1 = u.1 ∧ ∀ c, c ≠ 9 → u'.2 c = u.2 c
theorem tf_fr0 (u : dm_S) : tf_fr u u := ⟨rfl, fun _ _ => rfl⟩
theorem tf_frt {u u' u'' : dm_S} (h : tf_fr u u') (h2 : tf_fr u' u'') : tf_fr u u'' := ⟨h2.1.trans h.1, fun c a => (h2.2 c a).trans (h.2 c a)⟩
theorem tf_9 {u : dm_S} {j : Nat} {x : Int64} : tf_fr u (dm_ul u 9 j x) := ⟨rfl, fun c hc => by rw [dm_ul_2, if_neg hc]⟩
theorem tf_mn {u u' : dm_S} (h : tf_fr u u') : mn_fr u u' := by
  refine ⟨⟨by rw [h.1], by rw [h.1]⟩, fun c hc => by rw [h.1], fun c hc => h.2 c ?_⟩
  intro z; subst z; revert hc; decide
/-- amounts on arcs -/
def FL (u : dm_S) (M : Nat) (f : Nat → Int) : Prop := ∀ a, a < M → u.2 9 a = lI (f a)
def sp_X11_takeFlow (As : List Value) (u : dm_S) (Q : Option Value → dm_S → Prop) : Prop := match As with
  | [.ref 0] => ∃ (A : AN) (c lo : Nat → Int), A.ok ∧ MR u A ∧ PL u A c lo A.K ∧ ∀ u' : dm_S, tf_fr u u' → FL u' A.M (A.on lo) → Q none u'
  | _ => False
def p_X11_takeFlow : List dm_I := [(0, .iconst 0, 1, []), (1, .istore_n 1, 1, [1]), (2, .iload_n 1, 1, [1]), (3, .aload_n 0, 1, [0]), (4, .getfield 123, 3, []), (7, .if_icmp .ge 21, 3, [28]), (10, .aload_n 0, 1, [0]), (11, .getfield 35, 3, []), (14, .iload_n 1, 1, [1]), (15, .aload_n 0, 1, [0]), (16, .getfield 20, 3, []), (19, .iload_n 1, 1, [1]), (20, .laload, 1, []), (21, .lastore, 1, []), (22, .iinc 1 1, 3, []), (25, .goto (-23), 3, [2]), (28, .iconst 0, 1, []), (29, .istore_n 1, 1, [1]), (30, .iload_n 1, 1, [1]), (31, .aload_n 0, 1, [0]), (32, .getfield 139, 3, []), (35, .if_icmp .ge 29, 3, [64]), (38, .aload_n 0, 1, [0]), (39, .getfield 35, 3, []), (42, .aload_n 0, 1, [0]), (43, .getfield 50, 3, []), (46, .iload_n 1, 1, [1]), (47, .iaload, 1, []), (48, .dup2, 1, []), (49, .laload, 1, []), (50, .aload_n 0, 1, [0]), (51, .getfield 59, 3, []), (54, .iload_n 1, 1, [1]), (55, .laload, 1, []), (56, .ladd, 1, []), (57, .lastore, 1, []), (58, .iinc 1 1, 3, []), (61, .goto (-31), 3, [30]), (64, .return_, 1, [])]
set_option maxRecDepth 100000 in
theorem v_X11_takeFlow : p_X11_takeFlow.all (dm_vb cX11_takeFlow) = true := by decide +kernel
def k_X11_takeFlow : dm_Sp := fun a => match a with
  | _ => fun _ _ _ => False
def x_X11_takeFlow : dm_X := dm_mk [(20, 11, 5), (35, 11, 11), (50, 11, 20), (59, 11, 23), (123, 11, 1), (139, 11, 17)] [] [] [] 0
set_option maxRecDepth 100000 in
set_option maxHeartbeats 800000 in
theorem u_X11_takeFlow : dm_Pure shM x_X11_takeFlow k_X11_takeFlow p_X11_takeFlow 2 sp_X11_takeFlow := by
  intro As u Qp h
  unfold sp_X11_takeFlow at h
  split at h
  · obtain ⟨A, c, lo, hA, hC, hP, h⟩ := h
    obtain ⟨hn, hM⟩ := hA.1
    have hK := A.K_le hA
    refine ⟨Nat.le_of_ble_eq_true rfl, fun G Wp hW0 hW1 hG => ?_⟩
    have loop2 : ∀ k l : Nat, l + k = A.K → ∀ u' : dm_S, tf_fr u u' → FL u' A.M (fun a => A.st (4 * a) + sI (fun l => if A.ar l = a then lo l else 0) l) → G 30 [some (.ref 0), some (.int (nI l))] [] u' := by
      intro k
      induction k with
      | zero =>
        intro l hl u' a1 a2
        have e : l = A.K := by omega
        subst e
        apply hG (fun pc => pc == 30) 40
        simp (config := { maxSteps := 2000000 }) [-Prod.forall, -Prod.exists, -exists_and_left, -exists_and_right, hW0, hW1, dm_fn, dm_fd, dm_x, dm_L0, dm_la, dm_t1, dm_sw, List.headD, dm_ic, dm_mk, dm_s1, dm_s2, dm_clr, dm_cs, dm_cc, dm_nb0, dm_nb1, Value.category, List.lookup, p_X11_takeFlow, x_X11_takeFlow, k_X11_takeFlow, dm_cm, upd, vp_updL, dm_ui_1, dm_ui_2, dm_ul_1, dm_ul_2, sM_0, sM_1, sM_2, sM_3, sM_4, sM_5, sM_6, sM_7, sM_8, sM_9, sM_10, sM_11, sM_12, sM_13, sM_14, sM_15, sM_16, sM_17, sM_18, sM_19, sM_20, sM_21, sM_22, sM_23, sM_24, sM_25, sM_26, sM_27, sM_28, sM_29]
        rw [a1.1, hP.1]
        refine ⟨fun _ => h u' a1 (fun a ha => ?_), fun z => absurd z (nI_nlt (Nat.le_refl _) (by omega))⟩
        rw [a2 a ha]
        show lI (A.st (4 * a) + sI (fun l => if A.ar l = a then lo l else 0) A.K) = lI (A.st (4 * a) + A.am lo a)
        rw [AN.am_ar ha]
      | succ k ih =>
        intro l hl u' a1 a2
        obtain ⟨⟨-, -, p3⟩, -, -, p6⟩ := hP.2 l (by omega)
        have har := (A.l_in (show l < A.K by omega)).1
        have cl : (nI l).toNatClampNeg = l := nI_clamp (by omega)
        have ca : (nI (A.ar l)).toNatClampNeg = A.ar l := nI_clamp (by omega)
        apply hG (fun pc => pc == 30) 40
        simp (config := { maxSteps := 2000000 }) [-Prod.forall, -Prod.exists, -exists_and_left, -exists_and_right, hW0, hW1, dm_fn, dm_fd, dm_x, dm_L0, dm_la, dm_t1, dm_sw, List.headD, dm_ic, dm_mk, dm_s1, dm_s2, dm_clr, dm_cs, dm_cc, dm_nb0, dm_nb1, Value.category, List.lookup, p_X11_takeFlow, x_X11_takeFlow, k_X11_takeFlow, dm_cm, upd, vp_updL, dm_ui_1, dm_ui_2, dm_ul_1, dm_ul_2, sM_0, sM_1, sM_2, sM_3, sM_4, sM_5, sM_6, sM_7, sM_8, sM_9, sM_10, sM_11, sM_12, sM_13, sM_14, sM_15, sM_16, sM_17, sM_18, sM_19, sM_20, sM_21, sM_22, sM_23, sM_24, sM_25, sM_26, sM_27, sM_28, sM_29]
        rw [a1.1, hP.1, cl, p3, ca, a1.2 17 (by decide), p6, a2 _ har, lI_add, nI_1]
        have i1 : vp_in (nI l) 400 := vp_in_nI (by omega) (by omega)
        have i2 : vp_in (nI (A.ar l)) 80 := vp_in_nI (by omega) (by omega)
        simp only [i1, i2, true_and]
        refine ⟨fun z => absurd z (nI_ge (by omega) (by omega)), fun _ => ih (l + 1) (by omega) _ (tf_frt a1 tf_9) (fun a ha => ?_)⟩
        rw [dm_ul_2, if_pos rfl]
        unfold vp_updL
        show _ = lI (A.st (4 * a) + (sI (fun l => if A.ar l = a then lo l else 0) l + (if A.ar l = a then lo l else 0)))
        by_cases y : a = A.ar l
        · rw [if_pos y, if_pos y.symm, y, Int.add_assoc]
        · rw [if_neg y, if_neg (fun z => y z.symm), a2 a ha, Int.add_zero]
    have loop1 : ∀ k a : Nat, a + k = A.M → ∀ u' : dm_S, tf_fr u u' → FL u' a (fun a => A.st (4 * a)) → G 2 [some (.ref 0), some (.int (nI a))] [] u' := by
      intro k
      induction k with
      | zero =>
        intro a ha u' a1 a2
        have e : a = A.M := by omega
        subst e
        apply hG (fun pc => pc == 2 || pc == 30) 40
        simp (config := { maxSteps := 2000000 }) [-Prod.forall, -Prod.exists, -exists_and_left, -exists_and_right, hW0, hW1, dm_fn, dm_fd, dm_x, dm_L0, dm_la, dm_t1, dm_sw, List.headD, dm_ic, dm_mk, dm_s1, dm_s2, dm_clr, dm_cs, dm_cc, dm_nb0, dm_nb1, Value.category, List.lookup, p_X11_takeFlow, x_X11_takeFlow, k_X11_takeFlow, dm_cm, upd, vp_updL, dm_ui_1, dm_ui_2, dm_ul_1, dm_ul_2, sM_0, sM_1, sM_2, sM_3, sM_4, sM_5, sM_6, sM_7, sM_8, sM_9, sM_10, sM_11, sM_12, sM_13, sM_14, sM_15, sM_16, sM_17, sM_18, sM_19, sM_20, sM_21, sM_22, sM_23, sM_24, sM_25, sM_26, sM_27, sM_28, sM_29]
        rw [a1.1, hC.1.2]
        exact ⟨fun _ => loop2 A.K 0 (by omega) u' a1 (fun a ha => by rw [a2 a ha]; show lI _ = lI (_ + 0); rw [Int.add_zero]), fun z => absurd z (nI_nlt (Nat.le_refl _) (by omega))⟩
      | succ k ih =>
        intro a ha u' a1 a2
        have ham : a < A.M := by omega
        obtain ⟨-, ⟨q3, -⟩, -⟩ := hC.2.2 a ham
        have ca : (nI a).toNatClampNeg = a := nI_clamp (by omega)
        have i1 : vp_in (nI a) 80 := vp_in_nI (by omega) (by omega)
        apply hG (fun pc => pc == 2 || pc == 30) 40
        simp (config := { maxSteps := 2000000 }) [-Prod.forall, -Prod.exists, -exists_and_left, -exists_and_right, hW0, hW1, dm_fn, dm_fd, dm_x, dm_L0, dm_la, dm_t1, dm_sw, List.headD, dm_ic, dm_mk, dm_s1, dm_s2, dm_clr, dm_cs, dm_cc, dm_nb0, dm_nb1, Value.category, List.lookup, p_X11_takeFlow, x_X11_takeFlow, k_X11_takeFlow, dm_cm, upd, vp_updL, dm_ui_1, dm_ui_2, dm_ul_1, dm_ul_2, sM_0, sM_1, sM_2, sM_3, sM_4, sM_5, sM_6, sM_7, sM_8, sM_9, sM_10, sM_11, sM_12, sM_13, sM_14, sM_15, sM_16, sM_17, sM_18, sM_19, sM_20, sM_21, sM_22, sM_23, sM_24, sM_25, sM_26, sM_27, sM_28, sM_29]
        rw [a1.1, hC.1.2, ca, a1.2 4 (by decide), q3, nI_1]
        simp only [i1, true_and]
        refine ⟨fun z => absurd z (nI_ge (by omega) (by omega)), fun _ => ih (a + 1) (by omega) _ (tf_frt a1 tf_9) (fun i hi => ?_)⟩
        rw [dm_ul_2, if_pos rfl]
        unfold vp_updL
        by_cases y : i = a
        · rw [if_pos y, y]
        · rw [if_neg y]; exact a2 i (by omega)
    apply hG (fun pc => pc == 2) 40
    simp (config := { maxSteps := 2000000 }) [-Prod.forall, -Prod.exists, -exists_and_left, -exists_and_right, hW0, hW1, dm_fn, dm_fd, dm_x, dm_L0, dm_la, dm_t1, dm_sw, List.headD, dm_ic, dm_mk, dm_s1, dm_s2, dm_clr, dm_cs, dm_cc, dm_nb0, dm_nb1, Value.category, List.lookup, p_X11_takeFlow, x_X11_takeFlow, k_X11_takeFlow, dm_cm, upd, vp_updL, dm_ui_1, dm_ui_2, dm_ul_1, dm_ul_2, sM_0, sM_1, sM_2, sM_3, sM_4, sM_5, sM_6, sM_7, sM_8, sM_9, sM_10, sM_11, sM_12, sM_13, sM_14, sM_15, sM_16, sM_17, sM_18, sM_19, sM_20, sM_21, sM_22, sM_23, sM_24, sM_25, sM_26, sM_27, sM_28, sM_29]
    exact loop1 A.M 0 (by omega) u (tf_fr0 u) (fun i hi => absurd hi (Nat.not_lt_zero _))
  · exact h.elim
set_option maxRecDepth 100000 in
theorem t_X11_takeFlow (l : Launch) (D : va_G) (cA : Nat → ClassId) (ad : Nat → Nat) : dm_Met l D dm_cl cA ad shM yX11_takeFlow (Cond.code yX11_takeFlow cX11_takeFlow 2 (dm_rt 0) :: dm_tt) ({ frames := 0, cells := 0, slots := 0, locals := 0 } : Room) sp_X11_takeFlow := dm_meth (own := RX11) (X := x_X11_takeFlow) (Sp := k_X11_takeFlow) (prog := p_X11_takeFlow) (by decide +kernel) rfl rfl (dm_FO_s ffX11 [(20, 11, 5), (35, 11, 11), (50, 11, 20), (59, 11, 23), (123, 11, 1), (139, 11, 17)] rfl dm_hT (by decide +kernel)) (dm_IO_s ifX11 jfX11 [] [] rfl rfl dm_hT (by decide +kernel) (by decide +kernel)) soM (dm_MO_of (fun _ h => absurd h List.not_mem_nil)) v_X11_takeFlow u_X11_takeFlow
def sp_X11_nextCost (As : List Value) (u : dm_S) (Q : Option Value → dm_S → Prop) : Prop := match As with
  | [.ref 0, .int x, .long y] => ∃ (A : AN) (a : Nat) (z : Int), A.ok ∧ MR u A ∧ (a < A.M ∧ x = nI a ∧ y = lI z ∧ lB z) ∧ Q (some (.long (lI (A.nc a z)))) u
  | _ => False
def p_X11_nextCost : List dm_I := [(0, .iconst 0, 1, []), (1, .istore 4, 2, []), (3, .iload 4, 2, []), (5, .aload_n 0, 1, [0]), (6, .getfield 26, 3, []), (9, .iload_n 1, 1, [1]), (10, .iaload, 1, []), (11, .if_icmp .ge 27, 3, [38]), (14, .aload_n 0, 1, [0]), (15, .getfield 32, 3, []), (18, .iconst 4, 1, []), (19, .iload_n 1, 1, [1]), (20, .imul, 1, []), (21, .iload 4, 2, []), (23, .iadd, 1, []), (24, .iconst 1, 1, []), (25, .iadd, 1, []), (26, .laload, 1, []), (27, .lload_n 2, 1, [2]), (28, .lcmp, 1, []), (29, .ifCond .gt 9, 3, [38]), (32, .iinc 4 1, 3, []), (35, .goto (-32), 3, [3]), (38, .aload_n 0, 1, [0]), (39, .getfield 29, 3, []), (42, .iconst 4, 1, []), (43, .iload_n 1, 1, [1]), (44, .imul, 1, []), (45, .iload 4, 2, []), (47, .iadd, 1, []), (48, .laload, 1, []), (49, .lreturn, 1, [])]
set_option maxRecDepth 100000 in
theorem v_X11_nextCost : p_X11_nextCost.all (dm_vb cX11_nextCost) = true := by decide +kernel
def k_X11_nextCost : dm_Sp := fun a => match a with
  | _ => fun _ _ _ => False
def x_X11_nextCost : dm_X := dm_mk [(26, 11, 7), (29, 11, 8), (32, 11, 9)] [] [] [] 2
set_option maxRecDepth 100000 in
set_option maxHeartbeats 800000 in
theorem u_X11_nextCost : dm_Pure shM x_X11_nextCost k_X11_nextCost p_X11_nextCost 5 sp_X11_nextCost := by
  intro As u Qp h
  unfold sp_X11_nextCost at h
  split at h
  · obtain ⟨A, a, z, hA, hC, ⟨ha, rfl, rfl, hz⟩, h⟩ := h
    obtain ⟨hn, hM⟩ := hA.1
    obtain ⟨-, -, q5, q6, q7⟩ := hC.2.2 a ha
    obtain ⟨-, ⟨r4, r5⟩, r6, r7, -⟩ := hA.2.1 a ha
    have ca : (nI a).toNatClampNeg = a := nI_clamp (by omega)
    have i1 : vp_in (nI a) 80 := vp_in_nI (by omega) (by omega)
    refine ⟨Nat.le_of_ble_eq_true rfl, fun G Wp hW0 hW1 hG => ?_⟩
    have loop : ∀ d k : Nat, k + d + 1 = A.pt a → (∀ i, i < k → A.st (4 * a + i + 1) ≤ z) → G 3 [some (.ref 0), some (.int (nI a)), some (.long (lI z)), none, some (.int (nI k))] [] u := by
      intro d
      induction d with
      | zero =>
        intro k hk hi
        have c4 : (4 : Int32) * nI a + nI k = nI (4 * a + k) := dm_4p
        have ck : (nI (4 * a + k)).toNatClampNeg = 4 * a + k := nI_clamp (by omega)
        have ik : vp_in (nI (4 * a + k)) 320 := vp_in_nI (by omega) (by omega)
        apply hG (fun pc => pc == 3) 40
        simp (config := { maxSteps := 2000000 }) [-Prod.forall, -Prod.exists, -exists_and_left, -exists_and_right, hW0, hW1, dm_fn, dm_fd, dm_x, dm_L0, dm_la, dm_t1, dm_sw, List.headD, dm_ic, dm_mk, dm_s1, dm_s2, dm_clr, dm_cs, dm_cc, dm_nb0, dm_nb1, Value.category, List.lookup, p_X11_nextCost, x_X11_nextCost, k_X11_nextCost, dm_cm, upd, vp_updL, dm_ui_1, dm_ui_2, dm_ul_1, dm_ul_2, sM_0, sM_1, sM_2, sM_3, sM_4, sM_5, sM_6, sM_7, sM_8, sM_9, sM_10, sM_11, sM_12, sM_13, sM_14, sM_15, sM_16, sM_17, sM_18, sM_19, sM_20, sM_21, sM_22, sM_23, sM_24, sM_25, sM_26, sM_27, sM_28, sM_29]
        rw [ca, q5, c4, ck, q6 k (by omega)]
        simp only [i1, ik, true_and]
        have e := AN.NK_uq (AN.nk_NK hA ha (x := z)) (show A.NK a z k from ⟨by omega, hi, fun y => by omega⟩)
        unfold AN.nc at h
        rw [e] at h
        exact ⟨fun _ => h, fun y => absurd y (nI_nlt (by omega) (by omega))⟩
      | succ d ih =>
        intro k hk hi
        have c4 : (4 : Int32) * nI a + nI k = nI (4 * a + k) := dm_4p
        have ck : (nI (4 * a + k)).toNatClampNeg = 4 * a + k := nI_clamp (by omega)
        have ck1 : (nI (4 * a + k + 1)).toNatClampNeg = 4 * a + k + 1 := nI_clamp (by omega)
        have ik : vp_in (nI (4 * a + k)) 320 := vp_in_nI (by omega) (by omega)
        have ik1 : vp_in (nI (4 * a + k + 1)) 320 := vp_in_nI (by omega) (by omega)
        have s1 := AN.st_ge hA ha (k + 1) (by omega)
        have s2 := (r7 (k + 1) (by omega)).1
        have hb : lB (A.st (4 * a + k + 1)) := by
          rw [show 4 * a + (k + 1) = 4 * a + k + 1 by omega] at s1 s2
          unfold lB; omega
        apply hG (fun pc => pc == 3) 40
        simp (config := { maxSteps := 2000000 }) [-Prod.forall, -Prod.exists, -exists_and_left, -exists_and_right, hW0, hW1, dm_fn, dm_fd, dm_x, dm_L0, dm_la, dm_t1, dm_sw, List.headD, dm_ic, dm_mk, dm_s1, dm_s2, dm_clr, dm_cs, dm_cc, dm_nb0, dm_nb1, Value.category, List.lookup, p_X11_nextCost, x_X11_nextCost, k_X11_nextCost, dm_cm, upd, vp_updL, dm_ui_1, dm_ui_2, dm_ul_1, dm_ul_2, sM_0, sM_1, sM_2, sM_3, sM_4, sM_5, sM_6, sM_7, sM_8, sM_9, sM_10, sM_11, sM_12, sM_13, sM_14, sM_15, sM_16, sM_17, sM_18, sM_19, sM_20, sM_21, sM_22, sM_23, sM_24, sM_25, sM_26, sM_27, sM_28, sM_29]
        rw [ca, q5, c4, ck, q6 k (by omega), nI_1 k, nI_1 (4 * a + k), ck1, q7 k (by omega)]
        simp only [i1, ik, ik1, true_and]
        refine ⟨fun y => absurd y (nI_ge (by omega) (by omega)), fun _ => ⟨fun y => ?_, fun y => ih (k + 1) (by omega) (fun i hi2 => ?_)⟩⟩
        · have y2 := (lI_lt hz hb).mp y
          have e := AN.NK_uq (AN.nk_NK hA ha (x := z)) (show A.NK a z k from ⟨by omega, hi, fun _ => y2⟩)
          unfold AN.nc at h
          rw [e] at h
          exact h
        · have y2 := (lI_le hb hz).mp y
          by_cases w : i < k
          · exact hi i w
          · rw [show i = k by omega]; exact y2
    apply hG (fun pc => pc == 3) 40
    simp (config := { maxSteps := 2000000 }) [-Prod.forall, -Prod.exists, -exists_and_left, -exists_and_right, hW0, hW1, dm_fn, dm_fd, dm_x, dm_L0, dm_la, dm_t1, dm_sw, List.headD, dm_ic, dm_mk, dm_s1, dm_s2, dm_clr, dm_cs, dm_cc, dm_nb0, dm_nb1, Value.category, List.lookup, p_X11_nextCost, x_X11_nextCost, k_X11_nextCost, dm_cm, upd, vp_updL, dm_ui_1, dm_ui_2, dm_ul_1, dm_ul_2, sM_0, sM_1, sM_2, sM_3, sM_4, sM_5, sM_6, sM_7, sM_8, sM_9, sM_10, sM_11, sM_12, sM_13, sM_14, sM_15, sM_16, sM_17, sM_18, sM_19, sM_20, sM_21, sM_22, sM_23, sM_24, sM_25, sM_26, sM_27, sM_28, sM_29]
    exact loop (A.pt a - 1) 0 (by omega) (fun i hi => absurd hi (Nat.not_lt_zero _))
  · exact h.elim
set_option maxRecDepth 100000 in
theorem t_X11_nextCost (l : Launch) (D : va_G) (cA : Nat → ClassId) (ad : Nat → Nat) : dm_Met l D dm_cl cA ad shM yX11_nextCost (Cond.code yX11_nextCost cX11_nextCost 5 (dm_rt 2) :: dm_tt) ({ frames := 0, cells := 0, slots := 0, locals := 0 } : Room) sp_X11_nextCost := dm_meth (own := RX11) (X := x_X11_nextCost) (Sp := k_X11_nextCost) (prog := p_X11_nextCost) (by decide +kernel) rfl rfl (dm_FO_s ffX11 [(26, 11, 7), (29, 11, 8), (32, 11, 9)] rfl dm_hT (by decide +kernel)) (dm_IO_s ifX11 jfX11 [] [] rfl rfl dm_hT (by decide +kernel) (by decide +kernel)) soM (dm_MO_of (fun _ h => absurd h List.not_mem_nil)) v_X11_nextCost u_X11_nextCost
def sp_X11_costOf (As : List Value) (u : dm_S) (Q : Option Value → dm_S → Prop) : Prop := match As with
  | [.ref 0, .int x, .long y] => ∃ (A : AN) (a : Nat) (z : Int), A.ok ∧ MR u A ∧ (a < A.M ∧ x = nI a ∧ y = lI z ∧ 0 ≤ z ∧ z ≤ 1000000000000) ∧ Q (some (.long (lI (A.co a z)))) u
  | _ => False
theorem AN.cA_2 {A : AN} (hA : A.ok) {a : Nat} (ha : a < A.M) {z : Int} (h0 : 0 ≤ z) (h1 : z ≤ 1000000000000) : ∀ k, 0 ≤ (A.cA a z k).2 ∧ (A.cA a z k).2 ≤ z
  | 0 => ⟨Int.le_refl _, h0⟩
  | k + 1 => by
    have ih := AN.cA_2 hA ha h0 h1 k
    rw [AN.cA_s]
    have e : (if z < (if k + 1 < A.pt a then A.st (4 * a + k + 1) else fAR) then z else (if k + 1 < A.pt a then A.st (4 * a + k + 1) else fAR)) ≤ z := by
      generalize (if k + 1 < A.pt a then A.st (4 * a + k + 1) else fAR) = E
      split <;> omega
    generalize (if z < (if k + 1 < A.pt a then A.st (4 * a + k + 1) else fAR) then z else (if k + 1 < A.pt a then A.st (4 * a + k + 1) else fAR)) = n at e ⊢
    by_cases y : 0 < n - (A.cA a z k).2
    · rw [if_pos y]
      show 0 ≤ (A.cA a z k).2 + _ ∧ (A.cA a z k).2 + _ ≤ z
      omega
    · rw [if_neg y]; exact ih
def p_X11_costOf : List dm_I := [(0, .lconst 0, 1, []), (1, .lstore 4, 2, []), (3, .lconst 0, 1, []), (4, .lstore 6, 2, []), (6, .iconst 0, 1, []), (7, .istore 8, 2, []), (9, .iload 8, 2, []), (11, .aload_n 0, 1, [0]), (12, .getfield 26, 3, []), (15, .iload_n 1, 1, [1]), (16, .iaload, 1, []), (17, .if_icmp .gt 85, 3, [102]), (20, .iload 8, 2, []), (22, .aload_n 0, 1, [0]), (23, .getfield 26, 3, []), (26, .iload_n 1, 1, [1]), (27, .iaload, 1, []), (28, .if_icmp .ge 19, 3, [47]), (31, .aload_n 0, 1, [0]), (32, .getfield 32, 3, []), (35, .iconst 4, 1, []), (36, .iload_n 1, 1, [1]), (37, .imul, 1, []), (38, .iload 8, 2, []), (40, .iadd, 1, []), (41, .iconst 1, 1, []), (42, .iadd, 1, []), (43, .laload, 1, []), (44, .goto 6, 3, [50]), (47, .ldc2_w 152, 3, []), (50, .lstore 9, 2, []), (52, .lload_n 2, 1, [2]), (53, .lload 9, 2, []), (55, .invokestatic 165, 3, []), (58, .lload 6, 2, []), (60, .lsub, 1, []), (61, .lstore 11, 2, []), (63, .lload 11, 2, []), (65, .lconst 0, 1, []), (66, .lcmp, 1, []), (67, .ifCond .le 29, 3, [96]), (70, .lload 4, 2, []), (72, .lload 11, 2, []), (74, .aload_n 0, 1, [0]), (75, .getfield 29, 3, []), (78, .iconst 4, 1, []), (79, .iload_n 1, 1, [1]), (80, .imul, 1, []), (81, .iload 8, 2, []), (83, .iadd, 1, []), (84, .laload, 1, []), (85, .lmul, 1, []), (86, .ladd, 1, []), (87, .lstore 4, 2, []), (89, .lload 6, 2, []), (91, .lload 11, 2, []), (93, .ladd, 1, []), (94, .lstore 6, 2, []), (96, .iinc 8 1, 3, []), (99, .goto (-90), 3, [9]), (102, .lload 4, 2, []), (104, .lreturn, 1, [])]
set_option maxRecDepth 100000 in
theorem v_X11_costOf : p_X11_costOf.all (dm_vb cX11_costOf) = true := by decide +kernel
def k_X11_costOf : dm_Sp := fun a => match a with
  | 0 => sp_X11_lesser
  | _ => fun _ _ _ => False
def x_X11_costOf : dm_X := dm_mk [(26, 11, 7), (29, 11, 8), (32, 11, 9)] [] [(152, 1152921504606846976)] [(165, 0, 2, 1000)] 2
set_option maxRecDepth 100000 in
set_option maxHeartbeats 800000 in
theorem u_X11_costOf : dm_Pure shM x_X11_costOf k_X11_costOf p_X11_costOf 13 sp_X11_costOf := by
  intro As u Qp h
  unfold sp_X11_costOf at h
  split at h
  · obtain ⟨A, a, z, hA, hC, ⟨ha, rfl, rfl, z0, z1⟩, h⟩ := h
    obtain ⟨hn, hM⟩ := hA.1
    obtain ⟨-, -, q5, q6, q7⟩ := hC.2.2 a ha
    obtain ⟨-, ⟨r4, r5⟩, r6, r7, -⟩ := hA.2.1 a ha
    have hF : fAR = 1152921504606846976 := rfl
    have hFl : (1152921504606846976 : Int64) = lI fAR := rfl
    have ca : (nI a).toNatClampNeg = a := nI_clamp (by omega)
    have i1 : vp_in (nI a) 80 := vp_in_nI (by omega) (by omega)
    refine ⟨Nat.le_of_ble_eq_true rfl, fun G Wp hW0 hW1 hG => ?_⟩
    have loop : ∀ d k : Nat, k + d = A.pt a → ∀ o9 o11 : Option Value, G 9 [some (.ref 0), some (.int (nI a)), some (.long (lI z)), none, some (.long (lI (A.cA a z k).1)), none, some (.long (lI (A.cA a z k).2)), none, some (.int (nI k)), o9, none, o11, none] [] u := by
      intro d
      induction d with
      | zero =>
        intro k hk o9 o11
        have e : k = A.pt a := by omega
        subst e
        apply hG (fun pc => pc == 9) 60
        simp (config := { maxSteps := 2000000 }) [-Prod.forall, -Prod.exists, -exists_and_left, -exists_and_right, hW0, hW1, dm_fn, dm_fd, dm_x, dm_L0, dm_la, dm_t1, dm_sw, List.headD, dm_ic, dm_mk, dm_s1, dm_s2, dm_clr, dm_cs, dm_cc, dm_nb0, dm_nb1, Value.category, List.lookup, p_X11_costOf, x_X11_costOf, k_X11_costOf, dm_cm, upd, vp_updL, dm_ui_1, dm_ui_2, dm_ul_1, dm_ul_2, sp_X11_lesser, sM_0, sM_1, sM_2, sM_3, sM_4, sM_5, sM_6, sM_7, sM_8, sM_9, sM_10, sM_11, sM_12, sM_13, sM_14, sM_15, sM_16, sM_17, sM_18, sM_19, sM_20, sM_21, sM_22, sM_23, sM_24, sM_25, sM_26, sM_27, sM_28, sM_29]
        rw [ca, q5]
        simp only [i1, true_and]
        exact ⟨fun _ => h, fun y => absurd y (fun q => by have := (nI_leI (by omega) (by omega)).mp q; omega)⟩
      | succ d ih =>
        intro k hk o9 o11
        have c4 : (4 : Int32) * nI a + nI k = nI (4 * a + k) := dm_4p
        have ck : (nI (4 * a + k)).toNatClampNeg = 4 * a + k := nI_clamp (by omega)
        have ck1 : (nI (4 * a + k + 1)).toNatClampNeg = 4 * a + k + 1 := nI_clamp (by omega)
        have ik : vp_in (nI (4 * a + k)) 320 := vp_in_nI (by omega) (by omega)
        apply hG (fun pc => pc == 9) 60
        simp (config := { maxSteps := 2000000 }) [-Prod.forall, -Prod.exists, -exists_and_left, -exists_and_right, hW0, hW1, dm_fn, dm_fd, dm_x, dm_L0, dm_la, dm_t1, dm_sw, List.headD, dm_ic, dm_mk, dm_s1, dm_s2, dm_clr, dm_cs, dm_cc, dm_nb0, dm_nb1, Value.category, List.lookup, p_X11_costOf, x_X11_costOf, k_X11_costOf, dm_cm, upd, vp_updL, dm_ui_1, dm_ui_2, dm_ul_1, dm_ul_2, sp_X11_lesser, sM_0, sM_1, sM_2, sM_3, sM_4, sM_5, sM_6, sM_7, sM_8, sM_9, sM_10, sM_11, sM_12, sM_13, sM_14, sM_15, sM_16, sM_17, sM_18, sM_19, sM_20, sM_21, sM_22, sM_23, sM_24, sM_25, sM_26, sM_27, sM_28, sM_29]
        rw [ca, q5, c4, ck, q6 k (by omega), nI_1 k, nI_1 (4 * a + k), ck1]
        simp only [i1, ik, true_and, hFl]
        have c2 := AN.cA_2 hA ha z0 z1 k
        have zb : lB z := by unfold lB; omega
        have h0l : (0 : Int64) = lI 0 := rfl
        have key : ∀ E : Int, 0 ≤ E → lB E → (if k + 1 < A.pt a then A.st (4 * a + k + 1) else fAR) = E → ∀ e : Int64, e = lI E → ((if lI z < e then lI z else e) - lI (A.cA a z k).2 ≤ 0 → A.cA a z (k + 1) = A.cA a z k) ∧ (0 < (if lI z < e then lI z else e) - lI (A.cA a z k).2 → lI (A.cA a z k).1 + ((if lI z < e then lI z else e) - lI (A.cA a z k).2) * lI (A.rt (4 * a + k)) = lI (A.cA a z (k + 1)).1 ∧ lI (A.cA a z k).2 + ((if lI z < e then lI z else e) - lI (A.cA a z k).2) = lI (A.cA a z (k + 1)).2) := by
          intro E e0 eb ee e he
          have em : (if lI z < e then lI z else e) = lI (if z < E then z else E) := by
            rw [he]
            by_cases y : z < E
            · rw [if_pos y, if_pos ((lI_lt zb eb).mpr y)]
            · rw [if_neg y, if_neg (fun q => y ((lI_lt zb eb).mp q))]
          have mb : 0 ≤ (if z < E then z else E) ∧ (if z < E then z else E) ≤ z := by split <;> omega
          rw [AN.cA_s, ee, em, lI_sub, h0l]
          have nb : lB ((if z < E then z else E) - (A.cA a z k).2) := by unfold lB; omega
          rw [lI_le nb (by unfold lB; omega), lI_lt (by unfold lB; omega) nb]
          refine ⟨fun y => by rw [if_neg (by omega)], fun y => ?_⟩
          rw [if_pos y, lI_mul, lI_add, lI_add]
          exact ⟨rfl, rfl⟩
        refine ⟨fun y => absurd y (fun q => by have := (nI_ltI (by omega) (by omega)).mp q; omega), fun _ => ⟨fun y => ?_, fun y => ?_⟩⟩
        · have hk1 : ¬ k + 1 < A.pt a := by have := (nI_leI (by omega) (by omega)).mp y; omega
          obtain ⟨k1, k2⟩ := key fAR (by decide) (by unfold lB; omega) (if_neg hk1) _ rfl
          refine ⟨fun q => ?_, fun q => ?_⟩
          · have e := k1 q
            have := ih (k + 1) (by omega)
            rw [e] at this
            exact this _ _
          · obtain ⟨e1, e2⟩ := k2 q
            rw [e1, e2]
            exact ih (k + 1) (by omega) _ _
        · have hk1 : k + 1 < A.pt a := by have := (nI_ltI (by omega) (by omega)).mp y; omega
          have s1 := AN.st_ge hA ha (k + 1) hk1
          have s2 := (r7 (k + 1) hk1).1
          rw [show 4 * a + (k + 1) = 4 * a + k + 1 by omega] at s1 s2
          obtain ⟨k1, k2⟩ := key (A.st (4 * a + k + 1)) (by omega) (by unfold lB; omega) (if_pos hk1) _ (q7 k hk1)
          refine ⟨vp_in_nI (by omega) (by omega), fun q => ?_, fun q => ?_⟩
          · have e := k1 q
            have := ih (k + 1) (by omega)
            rw [e] at this
            exact this _ _
          · obtain ⟨e1, e2⟩ := k2 q
            rw [e1, e2]
            exact ih (k + 1) (by omega) _ _
    apply hG (fun pc => pc == 9) 60
    simp (config := { maxSteps := 2000000 }) [-Prod.forall, -Prod.exists, -exists_and_left, -exists_and_right, hW0, hW1, dm_fn, dm_fd, dm_x, dm_L0, dm_la, dm_t1, dm_sw, List.headD, dm_ic, dm_mk, dm_s1, dm_s2, dm_clr, dm_cs, dm_cc, dm_nb0, dm_nb1, Value.category, List.lookup, p_X11_costOf, x_X11_costOf, k_X11_costOf, dm_cm, upd, vp_updL, dm_ui_1, dm_ui_2, dm_ul_1, dm_ul_2, sp_X11_lesser, sM_0, sM_1, sM_2, sM_3, sM_4, sM_5, sM_6, sM_7, sM_8, sM_9, sM_10, sM_11, sM_12, sM_13, sM_14, sM_15, sM_16, sM_17, sM_18, sM_19, sM_20, sM_21, sM_22, sM_23, sM_24, sM_25, sM_26, sM_27, sM_28, sM_29]
    exact loop (A.pt a) 0 (by omega) _ _
  · exact h.elim
set_option maxRecDepth 100000 in
theorem t_X11_costOf (l : Launch) (D : va_G) (cA : Nat → ClassId) (ad : Nat → Nat) : dm_Met l D dm_cl cA ad shM yX11_costOf (Cond.code yX11_costOf cX11_costOf 13 (dm_rt 2) :: dm_tt) ({ frames := 1, cells := 0, slots := 0, locals := 23 } : Room) sp_X11_costOf := dm_meth (own := RX11) (X := x_X11_costOf) (Sp := k_X11_costOf) (prog := p_X11_costOf) (by decide +kernel) rfl rfl (dm_FO_s ffX11 [(26, 11, 7), (29, 11, 8), (32, 11, 9)] rfl dm_hT (by decide +kernel)) (dm_IO_s ifX11 jfX11 [] [(152, 1152921504606846976)] rfl rfl dm_hT (by decide +kernel) (by decide +kernel)) soM (dm_MO_of (List.forall_mem_cons.mpr ⟨dm_M1_of (t_X11_lesser l D cA ad) dm_hT (dm_mem [1144, 77, 1142] (by decide +kernel) (by decide +kernel)) (by decide) (by decide +kernel) (Or.inl ⟨rfl, dm_mem (ws := [.static yX11_lesser]) [1143] (by decide +kernel) (by decide +kernel) _ List.mem_cons_self⟩), fun _ h => absurd h List.not_mem_nil⟩)) v_X11_costOf u_X11_costOf
