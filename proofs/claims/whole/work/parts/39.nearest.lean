/-! ===== Router.nearestInNeed ===== -/
def sp_X7_nearestInNeed (As : List Value) (u : dm_S) (Q : Option Value → dm_S → Prop) : Prop := match As with
  | [.ref 4] => ∃ (n K : Nat) (b e : Nat → Nat) (op : Nat → Bool) (mm lo ex : Nat → Int) (hd sr : Nat → Nat), LA u n K b e mm lo ex ∧ LB n K mm lo ex ∧ so_ok u n K b e hd sr ∧ op_ok u K op ∧
    (∀ (u' : dm_S) (vn : Nat → Option (Option Nat)) (lev : Nat → Nat) (car : Nat → Int) (q : Nat → Nat) (m i : Nat), rq_fr u u' → rq_ok u' n vn car q m → bfI n K b e op mm lo ex vn lev car q m → bfX K b e op mm lo ex vn lev q i → bfS n ex vn → (∀ y, y < n → vn y ≠ none → lB (car y)) → i < m → ex (q i) < 0 → Q (some (.int (nI (q i)))) u') ∧
    ∀ (u' : dm_S) (vn : Nat → Option (Option Nat)) (lev : Nat → Nat) (car : Nat → Int) (q : Nat → Nat) (m : Nat), rq_fr u u' → rq_ok u' n vn car q m → bfI n K b e op mm lo ex vn lev car q m → bfX K b e op mm lo ex vn lev q m → bfS n ex vn → Q (some (.int (-1))) u'
  | _ => False
theorem so_fr {u u' : dm_S} {n K : Nat} {b e hd sr : Nat → Nat} (h : so_ok u n K b e hd sr) (hf : rq_fr u u') : so_ok u' n K b e hd sr := by
  obtain ⟨h1, h2, h3, h4⟩ := h
  refine ⟨fun v hv => ?_, h2, fun v t a b c => ?_, h4⟩
  · rw [hf.1 26 (by decide) (by decide) (by decide)]; exact h1 v hv
  · rw [hf.1 27 (by decide) (by decide) (by decide)]; exact h3 v t a b c
theorem op_fr {u u' : dm_S} {K : Nat} {op : Nat → Bool} (h : op_ok u K op) (hf : rq_fr u u') : op_ok u' K op := fun l hl => by
  rw [hf.1 32 (by decide) (by decide) (by decide)]; exact h l hl
def p_X7_nearestInNeed : List dm_I := [(0, .aload_n 0, 1, [0]), (1, .invokevirtual 110, 3, []), (4, .iconst 0, 1, []), (5, .istore_n 1, 1, [1]), (6, .iload_n 1, 1, [1]), (7, .aload_n 0, 1, [0]), (8, .getfield 113, 3, []), (11, .if_icmp .ge 37, 3, [48]), (14, .aload_n 0, 1, [0]), (15, .getfield 23, 3, []), (18, .iload_n 1, 1, [1]), (19, .iaload, 1, []), (20, .istore_n 2, 1, [2]), (21, .aload_n 0, 1, [0]), (22, .getfield 30, 3, []), (25, .getfield 78, 3, []), (28, .iload_n 2, 1, [2]), (29, .laload, 1, []), (30, .lconst 0, 1, []), (31, .lcmp, 1, []), (32, .ifCond .ge 5, 3, [37]), (35, .iload_n 2, 1, [2]), (36, .ireturn, 1, []), (37, .aload_n 0, 1, [0]), (38, .iload_n 2, 1, [2]), (39, .invokevirtual 116, 3, []), (42, .iinc 1 1, 3, []), (45, .goto (-39), 3, [6]), (48, .iconst (-1), 1, []), (49, .ireturn, 1, [])]
set_option maxRecDepth 100000 in
theorem v_X7_nearestInNeed : p_X7_nearestInNeed.all (dm_vb cX7_nearestInNeed) = true := by decide +kernel
def k_X7_nearestInNeed : dm_Sp := fun a => match a with
  | 0 => sp_X7_queueSources
  | 1 => sp_X7_queueNeighbours
  | _ => fun _ _ _ => False
def x_X7_nearestInNeed : dm_X := dm_mk [(23, 7, 5), (30, 7, 1), (78, 1, 7), (113, 7, 6)] [] [] [(110, 0, 0, 7), (116, 1, 1, 7)] 1
set_option maxRecDepth 100000 in
set_option maxHeartbeats 800000 in
theorem u_X7_nearestInNeed : dm_Pure shC x_X7_nearestInNeed k_X7_nearestInNeed p_X7_nearestInNeed 3 sp_X7_nearestInNeed := by
  intro As u Qp h
  unfold sp_X7_nearestInNeed at h
  split at h
  · obtain ⟨n, K, b, e, op, mm, lo, ex, hd, sr, hA, hB, hS, hO, hx, hy⟩ := h
    obtain ⟨hn, hK, en, eK⟩ := hA.1.1
    have hB0 : lB 0 := by unfold lB; omega
    have hBx : ∀ v, v < n → lB (ex v) := fun v hv => by have := hB.2.2 v hv; unfold lB; omega
    refine ⟨Nat.le_of_ble_eq_true rfl, fun G Wp hW0 hW1 hG => ?_⟩
    have loop : ∀ k i : Nat, i + k = n → ∀ (u' : dm_S) (vn : Nat → Option (Option Nat)) (lev : Nat → Nat) (car : Nat → Int) (q : Nat → Nat) (m : Nat) (o2 : Option Value), rq_fr u u' → rq_ok u' n vn car q m → bfI n K b e op mm lo ex vn lev car q m → bfX K b e op mm lo ex vn lev q i → bfS n ex vn → i ≤ m → (i < m → ∀ j, j < m → lev (q j) ≤ lev (q i) + 1) → (∀ y, n ≤ y → vn y = none) → (∀ y, y < n → vn y ≠ none → lB (car y)) → G 6 [some (.ref 4), some (.int (nI i)), o2] [] u' := by
      intro k
      induction k with
      | zero =>
        intro i hi u' vn lev car q m o2 a1 a2 a3 a4 a5 a6 a7 a8 a9
        have hm : m ≤ n := by rw [a3.1]; exact cN_le
        have e1 : i = m := by omega
        subst e1
        apply hG (fun pc => pc == 6) 40
        simp (config := { maxSteps := 2000000 }) [-Prod.forall, -Prod.exists, -exists_and_left, -exists_and_right, hW0, hW1, dm_fn, dm_fd, dm_x, dm_L0, dm_la, dm_t1, dm_sw, List.headD, dm_ic, dm_mk, dm_s1, dm_s2, dm_clr, dm_cs, dm_cc, dm_nb0, dm_nb1, Value.category, List.lookup, p_X7_nearestInNeed, x_X7_nearestInNeed, k_X7_nearestInNeed, dm_cm, upd, vp_updL, dm_ui_1, dm_ui_2, dm_ul_1, dm_ul_2, sp_X7_queueSources, sp_X7_queueNeighbours, sC_0, sC_1, sC_2, sC_3, sC_4, sC_5, sC_6, sC_7, sC_8, sC_9, sC_10, sC_11, sC_12, sC_13, sC_14, sC_15, sC_16, sC_17, sC_18, sC_19, sC_20, sC_21, sC_22, sC_23, sC_24, sC_25, sC_26, sC_27, sC_28, sC_29, sC_30, sC_31, sC_32, sC_33, sC_34, sC_35, sC_36, sC_37, sC_38, sC_39, sC_40, sC_41, sC_42, sC_43, sC_44, sC_45, sC_46, sC_47, sC_48, sC_49, sC_50, sC_51]
        rw [a2.2.2.2]
        exact ⟨fun _ => hy u' vn lev car q _ a1 a2 a3 a4 a5, fun zq => absurd zq (nI_nlt (by omega) (by omega))⟩
      | succ k ih =>
        intro i hi u' vn lev car q m o2 a1 a2 a3 a4 a5 a6 a7 a8 a9
        have hm : m ≤ n := by rw [a3.1]; exact cN_le
        apply hG (fun pc => pc == 6) 40
        simp (config := { maxSteps := 2000000 }) [-Prod.forall, -Prod.exists, -exists_and_left, -exists_and_right, hW0, hW1, dm_fn, dm_fd, dm_x, dm_L0, dm_la, dm_t1, dm_sw, List.headD, dm_ic, dm_mk, dm_s1, dm_s2, dm_clr, dm_cs, dm_cc, dm_nb0, dm_nb1, Value.category, List.lookup, p_X7_nearestInNeed, x_X7_nearestInNeed, k_X7_nearestInNeed, dm_cm, upd, vp_updL, dm_ui_1, dm_ui_2, dm_ul_1, dm_ul_2, sp_X7_queueSources, sp_X7_queueNeighbours, sC_0, sC_1, sC_2, sC_3, sC_4, sC_5, sC_6, sC_7, sC_8, sC_9, sC_10, sC_11, sC_12, sC_13, sC_14, sC_15, sC_16, sC_17, sC_18, sC_19, sC_20, sC_21, sC_22, sC_23, sC_24, sC_25, sC_26, sC_27, sC_28, sC_29, sC_30, sC_31, sC_32, sC_33, sC_34, sC_35, sC_36, sC_37, sC_38, sC_39, sC_40, sC_41, sC_42, sC_43, sC_44, sC_45, sC_46, sC_47, sC_48, sC_49, sC_50, sC_51]
        rw [a2.2.2.2, a1.2.2 25 (by decide), hA.2.2.2, nI_clamp (n := i) (by omega), nI_1]
        rcases Nat.lt_or_ge i m with hlt | hge
        · obtain ⟨q1, q2, q3⟩ := a3.2.1 i hlt
          rw [a2.2.2.1 i hlt, nI_clamp (n := q i) (by omega), lF_at]
          refine ⟨fun zq => absurd zq (nI_ge (by omega) (by omega)), fun zq => ⟨vp_in_nI (by omega) (by omega), vp_in_nI (by omega) (by omega), fun z => ?_, fun z => ?_⟩⟩
          · have z1 : 0 ≤ ex (q i) := (lI_le hB0 (hBx _ q1)).mp z
            refine ⟨n, K, b, e, op, mm, lo, ex, hd, sr, vn, lev, car, q, m, q i, LA_fr hA a1, hB, so_fr hS a1, op_fr hO a1, a2, a3, rfl, q1, q2, a7 hlt, a8, a9, fun u2 vn2 lev2 car2 q2' m2 b1 b2 b3 b4 b5 b6 b6' b7 b8 b9 => ?_⟩
            have b5i := b5 (q i) q2
            refine ih (i + 1) (by omega) u2 vn2 lev2 car2 q2' m2 _ (rq_frt a1 b1) b2 b3 (fun j hj => ?_) (fun v hv hp => ?_) (by omega) (fun hl j hj => ?_) b7 b8
            · rw [b6' j (by omega)]
              rcases Nat.lt_or_ge j i with y | y
              · obtain ⟨g1, g2⟩ := a4 j y
                have c1 := (a3.2.1 j (by omega)).2.1
                refine ⟨g1, fun w w1 w2 w3 w4 => ?_⟩
                obtain ⟨g3, g4⟩ := g2 w w1 w2 w3 w4
                rw [(b5 _ c1).2, (b5 _ g3).1, (b5 _ g3).2]
                exact ⟨g3, g4⟩
              · rw [show j = i by omega]
                refine ⟨z1, fun w w1 w2 w3 w4 => ?_⟩
                rw [b5i.2]
                exact b9 w w1 w2 w3 w4
            · have c1 := a5 v hv hp
              rw [(b5 v (by rw [c1]; simp)).1]; exact c1
            · have c1 := b4 j hj
              have c2 := b3.2.2.2.1 i (i + 1) (by omega) hl
              rw [b6' i hlt, b5i.2] at c2
              omega
          · exact hx u' vn lev car q m i a1 a2 a3 a4 a5 a9 hlt ((lI_lt (hBx _ q1) hB0).mp z)
        · have e1 : i = m := by omega
          subst e1
          exact ⟨fun _ => hy u' vn lev car q _ a1 a2 a3 a4 a5, fun zq => absurd zq (nI_nlt (by omega) (by omega))⟩
    apply hG (fun pc => pc == 6) 40
    simp (config := { maxSteps := 2000000 }) [-Prod.forall, -Prod.exists, -exists_and_left, -exists_and_right, hW0, hW1, dm_fn, dm_fd, dm_x, dm_L0, dm_la, dm_t1, dm_sw, List.headD, dm_ic, dm_mk, dm_s1, dm_s2, dm_clr, dm_cs, dm_cc, dm_nb0, dm_nb1, Value.category, List.lookup, p_X7_nearestInNeed, x_X7_nearestInNeed, k_X7_nearestInNeed, dm_cm, upd, vp_updL, dm_ui_1, dm_ui_2, dm_ul_1, dm_ul_2, sp_X7_queueSources, sp_X7_queueNeighbours, sC_0, sC_1, sC_2, sC_3, sC_4, sC_5, sC_6, sC_7, sC_8, sC_9, sC_10, sC_11, sC_12, sC_13, sC_14, sC_15, sC_16, sC_17, sC_18, sC_19, sC_20, sC_21, sC_22, sC_23, sC_24, sC_25, sC_26, sC_27, sC_28, sC_29, sC_30, sC_31, sC_32, sC_33, sC_34, sC_35, sC_36, sC_37, sC_38, sC_39, sC_40, sC_41, sC_42, sC_43, sC_44, sC_45, sC_46, sC_47, sC_48, sC_49, sC_50, sC_51]
    refine ⟨n, ex, hn, en, hA.2.2.2, hBx, fun u' vn lev car q m b1 b2 b3 b4 b5 b6 => ?_⟩
    refine loop n 0 (by omega) u' vn lev car q m _ b1 b2 (b3 K b e op mm lo) (fun j hj => by omega) b5 (by omega) (fun _ j hj => by rw [b4 j hj]; omega) b6 (fun y hy hs => ?_)
    obtain ⟨-, j, hj, ej⟩ := (b3 K b e op mm lo).2.2.1 y hy hs
    have := (b3 0 b e op mm lo).2.2.2.2.1 y hy
    unfold bfN at this
    cases hq : vn y with
    | none => exact absurd hq hs
    | some o =>
      rw [hq] at this
      cases o with
      | none => rw [this.2.2]; exact hBx y hy
      | some w => have := this.1.1; omega
  · exact h.elim
set_option maxRecDepth 100000 in
theorem t_X7_nearestInNeed (l : Launch) (D : va_G) (cA : Nat → ClassId) (ad : Nat → Nat) : dm_Met l D dm_cl cA ad shC yX7_nearestInNeed (Cond.code yX7_nearestInNeed cX7_nearestInNeed 3 (dm_rt 1) :: dm_tt) ({ frames := 2, cells := 0, slots := 0, locals := 50 } : Room) sp_X7_nearestInNeed := dm_meth (own := RX7) (X := x_X7_nearestInNeed) (Sp := k_X7_nearestInNeed) (prog := p_X7_nearestInNeed) (by decide +kernel) rfl rfl (dm_FO_s ffX7 [(23, 7, 5), (30, 7, 1), (78, 1, 7), (113, 7, 6)] rfl dm_hT (by decide +kernel)) (dm_IO_s ifX7 jfX7 [] [] rfl rfl dm_hT (by decide +kernel) (by decide +kernel)) soC (dm_MO_of (List.forall_mem_cons.mpr ⟨dm_M1_of (t_X7_queueSources l D cA ad) dm_hT (dm_mem [601, 70, 598] (by decide +kernel) (by decide +kernel)) (by decide) (by decide +kernel) (Or.inr ⟨by decide, dm_mem [600, 6] (by decide +kernel) (by decide +kernel), rfl⟩), List.forall_mem_cons.mpr ⟨dm_M1_of (t_X7_queueNeighbours l D cA ad) dm_hT (dm_mem [610, 70, 607] (by decide +kernel) (by decide +kernel)) (by decide) (by decide +kernel) (Or.inr ⟨by decide, dm_mem [609, 8] (by decide +kernel) (by decide +kernel), rfl⟩), fun _ h => absurd h List.not_mem_nil⟩⟩)) v_X7_nearestInNeed u_X7_nearestInNeed
