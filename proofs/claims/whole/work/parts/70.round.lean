/-! ===== Rings.pushRound ===== -/
def raM (mm lo : Nat → Int) (q : Nat → Nat) : Nat → Int
  | 0 => 1000000000
  | k + 1 => mn2 (raM mm lo q k) (wm mm lo (q k))
theorem raM_le {mm lo : Nat → Int} {q : Nat → Nat} : ∀ {k i : Nat}, i < k → raM mm lo q k ≤ wm mm lo (q i)
  | 0, i, h => absurd h (Nat.not_lt_zero _)
  | k + 1, i, h => by
    have h1 := mn2_le (a := raM mm lo q k) (b := wm mm lo (q k))
    show mn2 (raM mm lo q k) (wm mm lo (q k)) ≤ _
    rcases Nat.lt_or_ge i k with y | y
    · have := raM_le (mm := mm) (lo := lo) (q := q) y; omega
    · rw [show i = k by omega]; exact h1.2.1
theorem raM_at {mm lo : Nat → Int} {q : Nat → Nat} (hm : ∀ i, wm mm lo (q i) ≤ 1000000000 ∨ True) : ∀ {k : Nat}, raM mm lo q k = 1000000000 ∨ ∃ i, i < k ∧ wm mm lo (q i) = raM mm lo q k
  | 0 => Or.inl rfl
  | k + 1 => by
    show mn2 (raM mm lo q k) (wm mm lo (q k)) = 1000000000 ∨ ∃ i, i < k + 1 ∧ wm mm lo (q i) = mn2 (raM mm lo q k) (wm mm lo (q k))
    rcases (mn2_le (a := raM mm lo q k) (b := wm mm lo (q k))).2.2 with y | y
    · rw [y]
      rcases raM_at (mm := mm) (lo := lo) (q := q) hm (k := k) with z | ⟨i, z1, z2⟩
      · exact Or.inl z
      · exact Or.inr ⟨i, by omega, z2⟩
    · rw [y]; exact Or.inr ⟨k, by omega, rfl⟩
theorem raM_pos {mm lo : Nat → Int} {q : Nat → Nat} : ∀ {k : Nat}, (∀ i, i < k → 0 < wm mm lo (q i)) → 0 < raM mm lo q k ∧ raM mm lo q k ≤ 1000000000
  | 0, _ => by show (0 : Int) < 1000000000 ∧ (1000000000 : Int) ≤ 1000000000; omega
  | k + 1, h => by
    obtain ⟨h1, h2⟩ := raM_pos (mm := mm) (lo := lo) (q := q) (k := k) (fun i hi => h i (by omega))
    have h3 := h k (by omega)
    show 0 < mn2 (raM mm lo q k) (wm mm lo (q k)) ∧ mn2 (raM mm lo q k) (wm mm lo (q k)) ≤ 1000000000
    unfold mn2
    split <;> omega
def rgE (x : Nat → Nat) (a : Int) (ex : Nat → Int) (k : Nat) : Nat → Int := fun v => ex v - (if x 0 = v then a else 0) + (if x k = v then a else 0)
def sp_X6_pushRound (As : List Value) (u : dm_S) (Q : Option Value → dm_S → Prop) : Prop := match As with
  | [.ref 7, .int z1, .int z2] => ∃ (n K : Nat) (b e : Nat → Nat) (mm lo ex : Nat → Int) (f r : Nat) (q x : Nat → Nat), LA u n K b e mm lo ex ∧ LB n K mm lo ex ∧ (∀ i, i < r → u.1 44 (f + i) = nI (q i)) ∧ f + r ≤ 24 ∧ isR K b e r q x ∧ z1 = nI f ∧ z2 = nI (f + r) ∧ Q none (st_x u (rgX q (raM mm lo q r) lo r) ex)
  | _ => False
def p_X6_pushRound : List dm_I := [(0, .ldc2_w 106, 3, []), (3, .lstore_n 3, 1, [3]), (4, .iload_n 1, 1, [1]), (5, .istore 5, 2, []), (7, .iload 5, 2, []), (9, .iload_n 2, 1, [2]), (10, .if_icmp .ge 28, 3, [38]), (13, .lload_n 3, 1, [3]), (14, .aload_n 0, 1, [0]), (15, .getfield 29, 3, []), (18, .aload_n 0, 1, [0]), (19, .getfield 19, 3, []), (22, .iload 5, 2, []), (24, .iaload, 1, []), (25, .invokevirtual 108, 3, []), (28, .invokestatic 112, 3, []), (31, .lstore_n 3, 1, [3]), (32, .iinc 5 1, 3, []), (35, .goto (-28), 3, [7]), (38, .iload_n 1, 1, [1]), (39, .istore 5, 2, []), (41, .iload 5, 2, []), (43, .iload_n 2, 1, [2]), (44, .if_icmp .ge 24, 3, [68]), (47, .aload_n 0, 1, [0]), (48, .getfield 29, 3, []), (51, .aload_n 0, 1, [0]), (52, .getfield 19, 3, []), (55, .iload 5, 2, []), (57, .iaload, 1, []), (58, .lload_n 3, 1, [3]), (59, .invokevirtual 118, 3, []), (62, .iinc 5 1, 3, []), (65, .goto (-24), 3, [41]), (68, .return_, 1, [])]
set_option maxRecDepth 100000 in
theorem v_X6_pushRound : p_X6_pushRound.all (dm_vb cX6_pushRound) = true := by decide +kernel
def k_X6_pushRound : dm_Sp := fun a => match a with
  | 0 => sp_X1_roomOf
  | 1 => sp_J9_min_f86c9
  | 2 => sp_X1_push
  | _ => fun _ _ _ => False
def x_X6_pushRound : dm_X := dm_mk [(19, 6, 5), (29, 6, 1)] [] [(106, 1000000000)] [(108, 0, 1, 1), (112, 1, 2, 1000), (118, 2, 2, 1)] 0
set_option maxRecDepth 100000 in
set_option maxHeartbeats 1600000 in
theorem u_X6_pushRound : dm_Pure shC x_X6_pushRound k_X6_pushRound p_X6_pushRound 6 sp_X6_pushRound := by
  intro As u Qp hh
  unfold sp_X6_pushRound at hh
  split at hh
  · obtain ⟨n, K, b, e, mm, lo, ex, f, r, q, x, hA, hB, ht, hfr, hR, rfl, rfl, h⟩ := hh
    obtain ⟨hn, hK, en, eK⟩ := hA.1.1
    have hR3 := hR.2.2.1
    generalize ha : raM mm lo q r = a at *
    refine ⟨Nat.le_of_ble_eq_true rfl, fun G Wp hW0 hW1 hG => ?_⟩
    have loop2 : ∀ m k : Nat, k + m = r → G 41 [some (.ref 7), some (.int (nI f)), some (.int (nI (f + r))), some (.long (lI a)), none, some (.int (nI (f + k)))] [] (st_x u (rgX q a lo k) (rgE x a ex k)) := by
      intro m
      induction m with
      | zero =>
        intro k hk
        have e0 : k = r := by omega
        subst e0
        apply hG (fun pc => pc == 41) 60
        simp (config := { maxSteps := 2000000 }) [-Prod.forall, -Prod.exists, -exists_and_left, -exists_and_right, hW0, hW1, dm_fn, dm_fd, dm_x, dm_L0, dm_la, dm_t1, dm_sw, List.headD, dm_ic, dm_mk, dm_s1, dm_s2, dm_clr, dm_cs, dm_cc, dm_nb0, dm_nb1, Value.category, List.lookup, p_X6_pushRound, x_X6_pushRound, k_X6_pushRound, dm_cm, upd, vp_updL, dm_ui_1, dm_ui_2, dm_ul_1, dm_ul_2, sp_X1_roomOf, sp_J9_min_f86c9, sp_X1_push, sC_0, sC_1, sC_2, sC_3, sC_4, sC_5, sC_6, sC_7, sC_8, sC_9, sC_10, sC_11, sC_12, sC_13, sC_14, sC_15, sC_16, sC_17, sC_18, sC_19, sC_20, sC_21, sC_22, sC_23, sC_24, sC_25, sC_26, sC_27, sC_28, sC_29, sC_30, sC_31, sC_32, sC_33, sC_34, sC_35, sC_36, sC_37, sC_38, sC_39, sC_40, sC_41, sC_42, sC_43, sC_44, sC_45, sC_46, sC_47, sC_48, sC_49, sC_50, sC_51]
        have eE : rgE x a ex k = ex := by
          funext v
          unfold rgE
          rw [hR.2.1]; omega
        rw [eE]
        exact h
      | succ m ih =>
        intro k hk
        obtain ⟨q1, q2, q3⟩ := hR3 k (by omega)
        have ck : (nI (f + k)).toNatClampNeg = f + k := nI_clamp (by omega)
        have ik : vp_in (nI (f + k)) 24 := vp_in_nI (by omega) (by omega)
        obtain ⟨e1, l1⟩ := ln_b hA.1 q1
        obtain ⟨e2, l2⟩ := ln_e hA.1 q1
        apply hG (fun pc => pc == 41) 60
        simp (config := { maxSteps := 2000000 }) [-Prod.forall, -Prod.exists, -exists_and_left, -exists_and_right, hW0, hW1, dm_fn, dm_fd, dm_x, dm_L0, dm_la, dm_t1, dm_sw, List.headD, dm_ic, dm_mk, dm_s1, dm_s2, dm_clr, dm_cs, dm_cc, dm_nb0, dm_nb1, Value.category, List.lookup, p_X6_pushRound, x_X6_pushRound, k_X6_pushRound, dm_cm, upd, vp_updL, dm_ui_1, dm_ui_2, dm_ul_1, dm_ul_2, sp_X1_roomOf, sp_J9_min_f86c9, sp_X1_push, sC_0, sC_1, sC_2, sC_3, sC_4, sC_5, sC_6, sC_7, sC_8, sC_9, sC_10, sC_11, sC_12, sC_13, sC_14, sC_15, sC_16, sC_17, sC_18, sC_19, sC_20, sC_21, sC_22, sC_23, sC_24, sC_25, sC_26, sC_27, sC_28, sC_29, sC_30, sC_31, sC_32, sC_33, sC_34, sC_35, sC_36, sC_37, sC_38, sC_39, sC_40, sC_41, sC_42, sC_43, sC_44, sC_45, sC_46, sC_47, sC_48, sC_49, sC_50, sC_51]
        rw [st_x1, ck, ht k (by omega), nI_1]
        refine ⟨fun zq => absurd zq (nI_ge (by omega) (by omega)), fun zq => ⟨ik, q k, by omega, rfl, ?_, ?_, ?_⟩⟩
        · show vp_in (lw_b u (q k)) 24
          rw [e1]; exact vp_in_nI (by omega) (by omega)
        · show vp_in (lw_e u (q k)) 24
          rw [e2]; exact vp_in_nI (by omega) (by omega)
        · rw [ln_pu hA.1 q1]
          have e9 : pE b e (q k) a (rgE x a ex k) = rgE x a ex (k + 1) := by
            funext v
            unfold pE rgE
            rw [q2, q3]; omega
          rw [e9]
          exact ih (k + 1) (by omega)
    have loop1 : ∀ m k : Nat, k + m = r → G 7 [some (.ref 7), some (.int (nI f)), some (.int (nI (f + r))), some (.long (lI (raM mm lo q k))), none, some (.int (nI (f + k)))] [] u := by
      intro m
      induction m with
      | zero =>
        intro k hk
        have e0 : k = r := by omega
        subst e0
        apply hG (fun pc => pc == 7 || pc == 41) 60
        simp (config := { maxSteps := 2000000 }) [-Prod.forall, -Prod.exists, -exists_and_left, -exists_and_right, hW0, hW1, dm_fn, dm_fd, dm_x, dm_L0, dm_la, dm_t1, dm_sw, List.headD, dm_ic, dm_mk, dm_s1, dm_s2, dm_clr, dm_cs, dm_cc, dm_nb0, dm_nb1, Value.category, List.lookup, p_X6_pushRound, x_X6_pushRound, k_X6_pushRound, dm_cm, upd, vp_updL, dm_ui_1, dm_ui_2, dm_ul_1, dm_ul_2, sp_X1_roomOf, sp_J9_min_f86c9, sp_X1_push, sC_0, sC_1, sC_2, sC_3, sC_4, sC_5, sC_6, sC_7, sC_8, sC_9, sC_10, sC_11, sC_12, sC_13, sC_14, sC_15, sC_16, sC_17, sC_18, sC_19, sC_20, sC_21, sC_22, sC_23, sC_24, sC_25, sC_26, sC_27, sC_28, sC_29, sC_30, sC_31, sC_32, sC_33, sC_34, sC_35, sC_36, sC_37, sC_38, sC_39, sC_40, sC_41, sC_42, sC_43, sC_44, sC_45, sC_46, sC_47, sC_48, sC_49, sC_50, sC_51]
        rw [ha]
        have := loop2 k 0 (by omega)
        have eE : rgE x a ex 0 = ex := by
          funext v
          unfold rgE
          omega
        rw [eE, show rgX q a lo 0 = lo from rfl, st_xs hA.2.2.1 hA.2.2.2] at this
        exact this
      | succ m ih =>
        intro k hk
        obtain ⟨q1, q2, q3⟩ := hR3 k (by omega)
        have ck : (nI (f + k)).toNatClampNeg = f + k := nI_clamp (by omega)
        have ik : vp_in (nI (f + k)) 24 := vp_in_nI (by omega) (by omega)
        have hm := LB_m hB q1
        have hra : lB (raM mm lo q k) := by
          have h1 : ∀ k, k ≤ r → 0 ≤ raM mm lo q k ∧ raM mm lo q k ≤ 1000000000 := by
            intro k
            induction k with
            | zero => intro _; show (0 : Int) ≤ 1000000000 ∧ (1000000000 : Int) ≤ 1000000000; omega
            | succ k ih2 =>
              intro hk2
              have h2 := ih2 (by omega)
              have h3 := LB_m hB (hR3 k (by omega)).1
              show 0 ≤ mn2 (raM mm lo q k) (wm mm lo (q k)) ∧ mn2 (raM mm lo q k) (wm mm lo (q k)) ≤ 1000000000
              unfold mn2
              split <;> omega
          have := h1 k (by omega)
          unfold lB; omega
        apply hG (fun pc => pc == 7 || pc == 41) 60
        simp (config := { maxSteps := 2000000 }) [-Prod.forall, -Prod.exists, -exists_and_left, -exists_and_right, hW0, hW1, dm_fn, dm_fd, dm_x, dm_L0, dm_la, dm_t1, dm_sw, List.headD, dm_ic, dm_mk, dm_s1, dm_s2, dm_clr, dm_cs, dm_cc, dm_nb0, dm_nb1, Value.category, List.lookup, p_X6_pushRound, x_X6_pushRound, k_X6_pushRound, dm_cm, upd, vp_updL, dm_ui_1, dm_ui_2, dm_ul_1, dm_ul_2, sp_X1_roomOf, sp_J9_min_f86c9, sp_X1_push, sC_0, sC_1, sC_2, sC_3, sC_4, sC_5, sC_6, sC_7, sC_8, sC_9, sC_10, sC_11, sC_12, sC_13, sC_14, sC_15, sC_16, sC_17, sC_18, sC_19, sC_20, sC_21, sC_22, sC_23, sC_24, sC_25, sC_26, sC_27, sC_28, sC_29, sC_30, sC_31, sC_32, sC_33, sC_34, sC_35, sC_36, sC_37, sC_38, sC_39, sC_40, sC_41, sC_42, sC_43, sC_44, sC_45, sC_46, sC_47, sC_48, sC_49, sC_50, sC_51]
        rw [ck, ht k (by omega), nI_1]
        refine ⟨fun zq => absurd zq (nI_ge (by omega) (by omega)), fun zq => ⟨ik, q k, by omega, rfl, ?_⟩⟩
        rw [LA_m hA, lI_min hra (by unfold lB; omega)]
        exact ih (k + 1) (by omega)
    apply hG (fun pc => pc == 7) 60
    simp (config := { maxSteps := 2000000 }) [-Prod.forall, -Prod.exists, -exists_and_left, -exists_and_right, hW0, hW1, dm_fn, dm_fd, dm_x, dm_L0, dm_la, dm_t1, dm_sw, List.headD, dm_ic, dm_mk, dm_s1, dm_s2, dm_clr, dm_cs, dm_cc, dm_nb0, dm_nb1, Value.category, List.lookup, p_X6_pushRound, x_X6_pushRound, k_X6_pushRound, dm_cm, upd, vp_updL, dm_ui_1, dm_ui_2, dm_ul_1, dm_ul_2, sp_X1_roomOf, sp_J9_min_f86c9, sp_X1_push, sC_0, sC_1, sC_2, sC_3, sC_4, sC_5, sC_6, sC_7, sC_8, sC_9, sC_10, sC_11, sC_12, sC_13, sC_14, sC_15, sC_16, sC_17, sC_18, sC_19, sC_20, sC_21, sC_22, sC_23, sC_24, sC_25, sC_26, sC_27, sC_28, sC_29, sC_30, sC_31, sC_32, sC_33, sC_34, sC_35, sC_36, sC_37, sC_38, sC_39, sC_40, sC_41, sC_42, sC_43, sC_44, sC_45, sC_46, sC_47, sC_48, sC_49, sC_50, sC_51]
    exact loop1 r 0 (by omega)
  · exact hh.elim
set_option maxRecDepth 100000 in
theorem t_X6_pushRound (l : Launch) (D : va_G) (cA : Nat → ClassId) (ad : Nat → Nat) : dm_Met l D dm_cl cA ad shC yX6_pushRound (Cond.code yX6_pushRound cX6_pushRound 6 (dm_rt 0) :: dm_tt) ({ frames := 2, cells := 0, slots := 0, locals := 44 } : Room) sp_X6_pushRound := dm_meth (own := RX6) (X := x_X6_pushRound) (Sp := k_X6_pushRound) (prog := p_X6_pushRound) (by decide +kernel) rfl rfl (dm_FO_s ffX6 [(19, 6, 5), (29, 6, 1)] rfl dm_hT (by decide +kernel)) (dm_IO_s ifX6 jfX6 [] [(106, 1000000000)] rfl rfl dm_hT (by decide +kernel) (by decide +kernel)) soC (dm_MO_of (List.forall_mem_cons.mpr ⟨dm_M1_of (t_X1_roomOf l D cA ad) dm_hT (dm_mem [618, 68, 742] (by decide +kernel) (by decide +kernel)) (by decide) (by decide +kernel) (Or.inr ⟨by decide, dm_mem [616, 617] (by decide +kernel) (by decide +kernel), rfl⟩), List.forall_mem_cons.mpr ⟨dm_M1_of (t_J9_min_f86c9 l D cA ad) dm_hT (dm_mem [621, 79, 743] (by decide +kernel) (by decide +kernel)) (by decide) (by decide +kernel) (Or.inl ⟨rfl, dm_mem (ws := [.static yJ9_min_f86c9]) [620] (by decide +kernel) (by decide +kernel) _ List.mem_cons_self⟩), List.forall_mem_cons.mpr ⟨dm_M1_of (t_X1_push l D cA ad) dm_hT (dm_mem [629, 68, 744] (by decide +kernel) (by decide +kernel)) (by decide) (by decide +kernel) (Or.inr ⟨by decide, dm_mem [627, 628] (by decide +kernel) (by decide +kernel), rfl⟩), fun _ h => absurd h List.not_mem_nil⟩⟩⟩)) v_X6_pushRound u_X6_pushRound
/-! ===== Rings.cancelRingTo ===== -/
/-- the walk that the table tells: nodes xs, ways js -/
def kwk (n C : Nat) (nb bg en : Nat → Nat) (wt : Nat → Int) (D : Nat → Nat → Int) (La : Nat → Nat → Nat) (v : Nat) (xs js : Nat → Nat) : Prop := xs n = v ∧ ∀ i, i < n → js i < C ∧ bg (js i) = xs i ∧ en (js i) = xs (i + 1) ∧ D i (xs i) ≠ fAR ∧ D (i + 1) (xs (i + 1)) = D i (xs i) + wt (js i) ∧ D (i + 1) (xs (i + 1)) ≠ fAR ∧ La (i + 1) (xs (i + 1)) = nb (js i)
theorem kwk_ex {n C : Nat} {nb bg en : Nat → Nat} {wt : Nat → Int} {D : Nat → Nat → Int} {La : Nat → Nat → Nat} (h : kA n C nb bg en wt D La n) {v : Nat} (hv : D n v ≠ fAR) : ∃ xs js, kwk n C nb bg en wt D La v xs js := by
  have h1 : ∀ m, m ≤ n → ∃ xs js : Nat → Nat, xs n = v ∧ D (n - m) (xs (n - m)) ≠ fAR ∧ ∀ i, n - m ≤ i → i < n → js i < C ∧ bg (js i) = xs i ∧ en (js i) = xs (i + 1) ∧ D i (xs i) ≠ fAR ∧ D (i + 1) (xs (i + 1)) = D i (xs i) + wt (js i) ∧ D (i + 1) (xs (i + 1)) ≠ fAR ∧ La (i + 1) (xs (i + 1)) = nb (js i) := by
    intro m
    induction m with
    | zero => intro _; exact ⟨fun _ => v, fun _ => 0, rfl, hv, fun i h1 h2 => by omega⟩
    | succ m ih =>
      intro hm
      obtain ⟨xs, js, a1, a2, a3⟩ := ih (by omega)
      have e1 : n - (m + 1) + 1 = n - m := by omega
      obtain ⟨j, j1, j2, j3, j4, j5⟩ := h.2.2.2 (n - (m + 1)) (by omega) (xs (n - m)) (by rw [e1]; exact a2)
      rw [e1] at j2 j5
      refine ⟨uF xs (n - (m + 1)) (bg j), uF js (n - (m + 1)) j, by rw [uF_ne (by omega)]; exact a1, by rw [uF_at]; exact j4, fun i h1 h2 => ?_⟩
      by_cases z : i = n - (m + 1)
      · rw [z, uF_at, uF_at, e1, uF_ne (show n - m ≠ n - (m + 1) by omega)]
        exact ⟨j1, rfl, j3, j4, j5, a2, j2⟩
      · rw [uF_ne z, uF_ne z, uF_ne (show i + 1 ≠ n - (m + 1) by omega)]
        exact a3 i (by omega) h2
  obtain ⟨xs, js, a1, a2, a3⟩ := h1 n (Nat.le_refl _)
  exact ⟨xs, js, a1, fun i hi => a3 i (by omega) hi⟩
def cr_fr (u u' : dm_S) : Prop := (∀ c, c ≠ 44 → c ≠ 45 → u'.1 c = u.1 c) ∧ ∀ c, c ≠ 24 → c ≠ 25 → u'.2 c = u.2 c
def sp_X6_cancelRingTo (As : List Value) (u : dm_S) (Q : Option Value → dm_S → Prop) : Prop := match As with
  | [.ref 7, .int z] => ∃ (n K : Nat) (b e : Nat → Nat) (mm lo ex : Nat → Int) (C : Nat) (nb bg en : Nat → Nat) (wt : Nat → Int) (D : Nat → Nat → Int) (La : Nat → Nat → Nat) (v : Nat) (xs js : Nat → Nat), LA u n K b e mm lo ex ∧ LB n K mm lo ex ∧ 1 ≤ n ∧ kl_ok u n D La ∧ kwk n C nb bg en wt D La v xs js ∧ (∀ j, j < C → nb j < 2 * K ∧ wb b e (nb j) = bg j ∧ we b e (nb j) = en j) ∧ v < n ∧ z = nI v ∧
    ∀ (u' : dm_S) (f r : Nat), cr_fr u u' → f + r ≤ n → isR K b e r (fun i => nb (js (f + i))) (fun i => xs (f + i)) → u'.2 24 = lF (rgX (fun i => nb (js (f + i))) (raM mm lo (fun i => nb (js (f + i))) r) lo r) → u'.2 25 = lF ex → Q none u'
  | _ => False
def p_X6_cancelRingTo : List dm_I := [(0, .aload_n 0, 1, [0]), (1, .getfield 22, 3, []), (4, .iconst (-1), 1, []), (5, .invokestatic 94, 3, []), (8, .iload_n 1, 1, [1]), (9, .istore_n 2, 1, [2]), (10, .aload_n 0, 1, [0]), (11, .getfield 22, 3, []), (14, .iload_n 2, 1, [2]), (15, .aload_n 0, 1, [0]), (16, .getfield 25, 3, []), (19, .getfield 59, 3, []), (22, .iastore, 1, []), (23, .aload_n 0, 1, [0]), (24, .getfield 25, 3, []), (27, .getfield 59, 3, []), (30, .iconst 1, 1, []), (31, .isub, 1, []), (32, .istore_n 3, 1, [3]), (33, .iload_n 3, 1, [3]), (34, .ifCond .lt 71, 3, [105]), (37, .aload_n 0, 1, [0]), (38, .getfield 19, 3, []), (41, .iload_n 3, 1, [3]), (42, .aload_n 0, 1, [0]), (43, .getfield 15, 3, []), (46, .iload_n 3, 1, [3]), (47, .iconst 1, 1, []), (48, .iadd, 1, []), (49, .bipush 24, 2, []), (51, .imul, 1, []), (52, .iload_n 2, 1, [2]), (53, .iadd, 1, []), (54, .iaload, 1, []), (55, .iastore, 1, []), (56, .aload_n 0, 1, [0]), (57, .getfield 29, 3, []), (60, .aload_n 0, 1, [0]), (61, .getfield 19, 3, []), (64, .iload_n 3, 1, [3]), (65, .iaload, 1, []), (66, .invokevirtual 100, 3, []), (69, .istore_n 2, 1, [2]), (70, .aload_n 0, 1, [0]), (71, .getfield 22, 3, []), (74, .iload_n 2, 1, [2]), (75, .iaload, 1, []), (76, .iconst (-1), 1, []), (77, .if_icmp .eq 15, 3, [92]), (80, .aload_n 0, 1, [0]), (81, .iload_n 3, 1, [3]), (82, .aload_n 0, 1, [0]), (83, .getfield 22, 3, []), (86, .iload_n 2, 1, [2]), (87, .iaload, 1, []), (88, .invokevirtual 103, 3, []), (91, .return_, 1, []), (92, .aload_n 0, 1, [0]), (93, .getfield 22, 3, []), (96, .iload_n 2, 1, [2]), (97, .iload_n 3, 1, [3]), (98, .iastore, 1, []), (99, .iinc 3 (-1), 3, []), (102, .goto (-69), 3, [33]), (105, .return_, 1, [])]
set_option maxRecDepth 100000 in
theorem v_X6_cancelRingTo : p_X6_cancelRingTo.all (dm_vb cX6_cancelRingTo) = true := by decide +kernel
def k_X6_cancelRingTo : dm_Sp := fun a => match a with
  | 0 => sp_J7_fill_53178
  | 1 => sp_X1_beginOf
  | 2 => sp_X6_pushRound
  | _ => fun _ _ _ => False
def x_X6_cancelRingTo : dm_X := dm_mk [(15, 6, 4), (19, 6, 5), (22, 6, 6), (25, 6, 0), (29, 6, 1), (59, 2, 8)] [] [] [(94, 0, 2, 1000), (100, 1, 1, 1), (103, 2, 2, 6)] 0
set_option maxRecDepth 100000 in
set_option maxHeartbeats 1600000 in
theorem u_X6_cancelRingTo : dm_Pure shC x_X6_cancelRingTo k_X6_cancelRingTo p_X6_cancelRingTo 4 sp_X6_cancelRingTo := by
  intro As u Qp hh
  unfold sp_X6_cancelRingTo at hh
  split at hh
  · obtain ⟨n, K, b, e, mm, lo, ex, C, nb, bg, en, wt, D, La, v, xs, js, hA, hB, hn1, hl, hk, hw, hv, rfl, h⟩ := hh
    obtain ⟨hn, hK, en0, eK⟩ := hA.1.1
    have hnd := ln_nd hA.1
    obtain ⟨k1, k2⟩ := hk
    have hway : ∀ i, i < n → nb (js i) < 2 * K ∧ wb b e (nb (js i)) = xs i ∧ we b e (nb (js i)) = xs (i + 1) := by
      intro i hi
      obtain ⟨c1, c2, c3, -⟩ := k2 i hi
      obtain ⟨w1, w2, w3⟩ := hw _ c1
      exact ⟨w1, by rw [w2, c2], by rw [w3, c3]⟩
    have hxn : ∀ i, i ≤ n → xs i < n := by
      intro i hi
      rcases Nat.lt_or_ge i n with y | y
      · obtain ⟨w1, w2, w3⟩ := hway i y
        rw [← w2]
        obtain ⟨c1, c2⟩ := hnd (nb (js i) / 2) (by omega)
        unfold wb
        split <;> assumption
      · rw [show i = n by omega, k1]; exact hv
    refine ⟨Nat.le_of_ble_eq_true rfl, fun G Wp hW0 hW1 hG => ?_⟩
    have loop : ∀ t : Nat, t ≤ n → ∀ (u' : dm_S) (me : Nat → Option Nat), cr_fr u u' → u'.2 = u.2 → (∀ i, t ≤ i → i < n → u'.1 44 i = nI (nb (js i))) → (∀ y, y < n → u'.1 45 y = match me y with | some i => nI i | none => -1) → (∀ y i, y < n → me y = some i → t ≤ i ∧ i ≤ n ∧ xs i = y) → (∀ i, t ≤ i → i ≤ n → me (xs i) = some i) → cN (fun y => (me y).isSome) n = n - t + 1 → G 33 [some (.ref 7), some (.int (nI v)), some (.int (nI (xs t))), some (.int (nI t - 1))] [] u' := by
      intro t
      induction t with
      | zero =>
        intro ht u' me a1 a2 a3 a4 a5 a6 a7
        have := cN_le (P := fun y => (me y).isSome) (n := n)
        omega
      | succ s ih =>
        intro ht u' me a1 a2 a3 a4 a5 a6 a7
        rw [nI_pred]
        obtain ⟨w1, w2, w3⟩ := hway s (by omega)
        obtain ⟨c1, c2, c3, c4, c5, c6, c7⟩ := k2 s (by omega)
        have hx1 := hxn (s + 1) ht
        have hx0 := hxn s (by omega)
        have cs : (nI s).toNatClampNeg = s := nI_clamp (by omega)
        have is : vp_in (nI s) 24 := vp_in_nI (by omega) (by omega)
        have el : nI (s + 1) * 24 + nI (xs (s + 1)) = nI (24 * (s + 1) + xs (s + 1)) := by rw [show (24 : Int32) = nI 24 from rfl, pk_mul, nI_add, Nat.mul_comm]
        have cl : (nI (24 * (s + 1) + xs (s + 1))).toNatClampNeg = 24 * (s + 1) + xs (s + 1) := nI_clamp (by omega)
        have vl : u'.1 43 (24 * (s + 1) + xs (s + 1)) = nI (nb (js s)) := by
          rw [a1.1 43 (by decide) (by decide), hl (s + 1) (xs (s + 1)) (by omega) ht hx1 c6, c7]
        have cx : (nI (xs s)).toNatClampNeg = xs s := nI_clamp (by omega)
        have ix : vp_in (nI (xs s)) 24 := vp_in_nI (by omega) (by omega)
        apply hG (fun pc => pc == 33) 80
        simp (config := { maxSteps := 2000000 }) [-Prod.forall, -Prod.exists, -exists_and_left, -exists_and_right, hW0, hW1, dm_fn, dm_fd, dm_x, dm_L0, dm_la, dm_t1, dm_sw, List.headD, dm_ic, dm_mk, dm_s1, dm_s2, dm_clr, dm_cs, dm_cc, dm_nb0, dm_nb1, Value.category, List.lookup, p_X6_cancelRingTo, x_X6_cancelRingTo, k_X6_cancelRingTo, dm_cm, upd, vp_updL, dm_ui_1, dm_ui_2, dm_ul_1, dm_ul_2, sp_J7_fill_53178, sp_X1_beginOf, sp_X6_pushRound, sC_0, sC_1, sC_2, sC_3, sC_4, sC_5, sC_6, sC_7, sC_8, sC_9, sC_10, sC_11, sC_12, sC_13, sC_14, sC_15, sC_16, sC_17, sC_18, sC_19, sC_20, sC_21, sC_22, sC_23, sC_24, sC_25, sC_26, sC_27, sC_28, sC_29, sC_30, sC_31, sC_32, sC_33, sC_34, sC_35, sC_36, sC_37, sC_38, sC_39, sC_40, sC_41, sC_42, sC_43, sC_44, sC_45, sC_46, sC_47, sC_48, sC_49, sC_50, sC_51]
        rw [cs, nI_1, el, cl, vl]
        have hA1 : LA (dm_ui u' 44 s (nI (nb (js s)))) n K b e mm lo ex := by
          obtain ⟨p1, p2, p3, p4⟩ := hA
          refine ⟨⟨?_, fun l hl => ?_⟩, ?_, ?_, ?_⟩
          · rw [dm_ui_1, if_neg (by decide), dm_ui_1, if_neg (by decide), a1.1 1 (by decide) (by decide), a1.1 2 (by decide) (by decide)]; exact p1.1
          · rw [dm_ui_1, if_neg (by decide), dm_ui_1, if_neg (by decide), a1.1 20 (by decide) (by decide), a1.1 21 (by decide) (by decide)]; exact p1.2 l hl
          · rw [dm_ui_2, a2]; exact p2
          · rw [dm_ui_2, a2]; exact p3
          · rw [dm_ui_2, a2]; exact p4
        have eb : lw_b (dm_ui u' 44 s (nI (nb (js s)))) (nb (js s)) = nI (xs s) := by rw [(ln_b hA1.1 w1).1, w2]
        have hcr : cr_fr u (dm_ui u' 44 s (nI (nb (js s)))) := ⟨fun c q1 q2 => by rw [dm_ui_1, if_neg q1]; exact a1.1 c q1 q2, fun c q1 q2 => by rw [dm_ui_2]; exact a1.2 c q1 q2⟩
        have htr : ∀ i, s ≤ i → i < n → (dm_ui u' 44 s (nI (nb (js s)))).1 44 i = nI (nb (js i)) := by
          intro i h1 h2
          rw [dm_ui_1, if_pos rfl]
          unfold upd
          by_cases z : i = s
          · rw [if_pos z, z]
          · rw [if_neg z]; exact a3 i (by omega) h2
        refine ⟨fun zq => absurd zq (nI_pos (by omega)), fun zq => ⟨vp_in_nI (by omega) (by omega), is, nb (js s), by omega, rfl, ?_⟩⟩
        rw [eb, cx, a4 _ hx0, dm_m1]
        cases hme : me (xs s) with
        | none =>
          refine ⟨ix, fun _ => ⟨ix, ?_⟩, fun z => absurd rfl z⟩
          refine ih (by omega) _ (uF me (xs s) (some s)) ⟨fun c q1 q2 => by rw [dm_ui_1, if_neg q2]; exact hcr.1 c q1 q2, hcr.2⟩ a2 (fun i h1 h2 => by rw [dm_ui_1, if_neg (by decide)]; exact htr i h1 h2) (fun y hy => ?_) (fun y i hy hi => ?_) (fun i h1 h2 => ?_) ?_
          · rw [dm_ui_1, if_pos rfl]
            by_cases z : y = xs s
            · rw [z, uF_at]
              unfold upd
              rw [if_pos rfl]
            · rw [uF_ne z]
              unfold upd
              rw [if_neg z, dm_ui_1, if_neg (by decide)]
              exact a4 y hy
          · by_cases z : y = xs s
            · rw [z, uF_at] at hi
              have : s = i := Option.some.inj hi
              exact ⟨by omega, by omega, by rw [← this, z]⟩
            · rw [uF_ne z] at hi
              have := a5 y i hy hi
              exact ⟨by omega, this.2⟩
          · by_cases z : i = s
            · rw [z, uF_at]
            · have h3 := a6 i (by omega) h2
              have : xs i ≠ xs s := fun y => by rw [y, hme] at h3; cases h3
              rw [uF_ne this]; exact h3
          · have h3 : ∀ N, xs s < N → cN (fun y => (uF me (xs s) (some s) y).isSome) N = cN (fun y => (me y).isSome) N + 1 := by
              intro N
              induction N with
              | zero => intro z; omega
              | succ N ih2 =>
                intro z
                show cN (fun y => (uF me (xs s) (some s) y).isSome) N + (if (uF me (xs s) (some s) N).isSome then 1 else 0) = cN (fun y => (me y).isSome) N + (if (me N).isSome then 1 else 0) + 1
                rcases Nat.lt_or_ge (xs s) N with y | y
                · rw [ih2 y, uF_ne (by omega)]; omega
                · have e2 : xs s = N := by omega
                  rw [← e2, uF_at, hme]
                  have : cN (fun y => (uF me (xs s) (some s) y).isSome) (xs s) = cN (fun y => (me y).isSome) (xs s) := cN_cg (fun y hy => by rw [uF_ne (by omega)])
                  rw [this]; rfl
            rw [h3 n hx0, a7]; omega
        | some i =>
          obtain ⟨m1, m2, m3⟩ := a5 _ i hx0 hme
          refine ⟨ix, fun z => absurd ((show nI i = -1 from z) ▸ nI_pos (n := i) (by omega)) (by decide), fun _ => ⟨ix, n, K, b, e, mm, lo, ex, s, i - s, fun k => nb (js (s + k)), fun k => xs (s + k), hA1, hB, fun k hk => htr (s + k) (by omega) (by omega), by omega, ?_, rfl, ?_, ?_⟩⟩
          · refine ⟨by omega, ?_, fun k hk => ?_, fun k k' hk hk' he => ?_⟩
            · show xs (s + (i - s)) = xs (s + 0)
              rw [show s + (i - s) = i by omega, m3]; rfl
            · exact hway (s + k) (by omega)
            · have he2 : xs (s + k) = xs (s + k') := he
              have hsp : ∀ a, s < a → a < i → xs a ≠ xs s := fun a h1 h2 y => by
                have := a6 a (by omega) (by omega)
                rw [y, hme] at this
                have := Option.some.inj this
                omega
              rcases Nat.eq_zero_or_pos k with y | y
              · rcases Nat.eq_zero_or_pos k' with y' | y'
                · omega
                · rw [y] at he2
                  exact absurd he2.symm (hsp (s + k') (by omega) (by omega))
              · rcases Nat.eq_zero_or_pos k' with y' | y'
                · rw [y'] at he2
                  exact absurd he2 (hsp (s + k) (by omega) (by omega))
                · have g1 := a6 (s + k) (by omega) (by omega)
                  have g2 := a6 (s + k') (by omega) (by omega)
                  rw [he2, g2] at g1
                  have := Option.some.inj g1
                  omega
          · show nI i = nI (s + (i - s))
            rw [show s + (i - s) = i by omega]
          · refine h _ s (i - s) ⟨fun c q1 q2 => ?_, fun c q1 q2 => ?_⟩ (by omega) ?_ st_x24 st_x25
            · exact hcr.1 c q1 q2
            · rw [st_xo q1 q2]; exact hcr.2 c q1 q2
            · refine ⟨by omega, ?_, fun k hk => ?_, fun k k' hk hk' he => ?_⟩
              · show xs (s + (i - s)) = xs (s + 0)
                rw [show s + (i - s) = i by omega, m3]; rfl
              · exact hway (s + k) (by omega)
              · have he2 : xs (s + k) = xs (s + k') := he
                have hsp : ∀ a, s < a → a < i → xs a ≠ xs s := fun a h1 h2 y => by
                  have := a6 a (by omega) (by omega)
                  rw [y, hme] at this
                  have := Option.some.inj this
                  omega
                rcases Nat.eq_zero_or_pos k with y | y
                · rcases Nat.eq_zero_or_pos k' with y' | y'
                  · omega
                  · rw [y] at he2
                    exact absurd he2.symm (hsp (s + k') (by omega) (by omega))
                · rcases Nat.eq_zero_or_pos k' with y' | y'
                  · rw [y'] at he2
                    exact absurd he2 (hsp (s + k) (by omega) (by omega))
                  · have g1 := a6 (s + k) (by omega) (by omega)
                    have g2 := a6 (s + k') (by omega) (by omega)
                    rw [he2, g2] at g1
                    have := Option.some.inj g1
                    omega
    apply hG (fun pc => pc == 33) 80
    simp (config := { maxSteps := 2000000 }) [-Prod.forall, -Prod.exists, -exists_and_left, -exists_and_right, hW0, hW1, dm_fn, dm_fd, dm_x, dm_L0, dm_la, dm_t1, dm_sw, List.headD, dm_ic, dm_mk, dm_s1, dm_s2, dm_clr, dm_cs, dm_cc, dm_nb0, dm_nb1, Value.category, List.lookup, p_X6_cancelRingTo, x_X6_cancelRingTo, k_X6_cancelRingTo, dm_cm, upd, vp_updL, dm_ui_1, dm_ui_2, dm_ul_1, dm_ul_2, sp_J7_fill_53178, sp_X1_beginOf, sp_X6_pushRound, sC_0, sC_1, sC_2, sC_3, sC_4, sC_5, sC_6, sC_7, sC_8, sC_9, sC_10, sC_11, sC_12, sC_13, sC_14, sC_15, sC_16, sC_17, sC_18, sC_19, sC_20, sC_21, sC_22, sC_23, sC_24, sC_25, sC_26, sC_27, sC_28, sC_29, sC_30, sC_31, sC_32, sC_33, sC_34, sC_35, sC_36, sC_37, sC_38, sC_39, sC_40, sC_41, sC_42, sC_43, sC_44, sC_45, sC_46, sC_47, sC_48, sC_49, sC_50, sC_51]
    refine ⟨24, by omega, rfl, vp_in_nI (by omega) (by omega), ?_⟩
    have e1 : (dm_fi u 45 24 (-1)).1 1 8 = nI n := by
      simp only [dm_fi]
      rw [if_neg (show ¬ (1 : Nat) = 45 by decide)]; exact en0
    rw [e1, nI_clamp (by omega)]
    have := loop n (Nat.le_refl _) (dm_ui (dm_fi u 45 24 (-1)) 45 v (nI n)) (uF (fun _ => none) v (some n)) ⟨fun c q1 q2 => by rw [dm_ui_1, if_neg q2]; simp only [dm_fi, if_neg q2], fun c q1 q2 => rfl⟩ rfl (fun i h1 h2 => by omega) (fun y hy => ?_) (fun y i hy hi => ?_) (fun i h1 h2 => ?_) ?_
    · rw [k1] at this; exact this
    · rw [dm_ui_1, if_pos rfl]
      by_cases z : y = v
      · rw [z, uF_at]
        unfold upd
        rw [if_pos rfl]
      · rw [uF_ne z]
        unfold upd
        rw [if_neg z]
        show (if (45 : Nat) = 45 then (fun j => if j < 24 then (-1 : Int32) else u.1 45 j) else u.1 45) y = -1
        rw [if_pos rfl]
        show (if y < 24 then (-1 : Int32) else u.1 45 y) = -1
        rw [if_pos (by omega)]
    · by_cases z : y = v
      · rw [z, uF_at] at hi
        have : n = i := Option.some.inj hi
        exact ⟨by omega, by omega, by rw [← this, k1, z]⟩
      · rw [uF_ne z] at hi; cases hi
    · rw [show i = n by omega, k1, uF_at]
    · have h3 : ∀ N, v < N → cN (fun y => (uF (fun _ => (none : Option Nat)) v (some n) y).isSome) N = 1 := by
        intro N
        induction N with
        | zero => intro z; omega
        | succ N ih2 =>
          intro z
          show cN (fun y => (uF (fun _ => (none : Option Nat)) v (some n) y).isSome) N + (if (uF (fun _ => (none : Option Nat)) v (some n) N).isSome then 1 else 0) = 1
          rcases Nat.lt_or_ge v N with y | y
          · rw [ih2 y, uF_ne (by omega)]; rfl
          · have e2 : v = N := by omega
            subst e2
            rw [uF_at]
            have h4 : ∀ n, cN (fun _ => false) n = 0 := by
              intro n
              induction n with
              | zero => rfl
              | succ n ih => show cN (fun _ => false) n + _ = 0; rw [ih]; rfl
            have : cN (fun y => (uF (fun _ => (none : Option Nat)) v (some n) y).isSome) v = cN (fun _ => false) v := cN_cg (fun y hy => by rw [uF_ne (by omega)]; rfl)
            rw [this, h4]; rfl
      rw [h3 n hv]; omega
  · exact hh.elim
set_option maxRecDepth 100000 in
theorem t_X6_cancelRingTo (l : Launch) (D : va_G) (cA : Nat → ClassId) (ad : Nat → Nat) : dm_Met l D dm_cl cA ad shC yX6_cancelRingTo (Cond.code yX6_cancelRingTo cX6_cancelRingTo 4 (dm_rt 0) :: dm_tt) ({ frames := 3, cells := 0, slots := 0, locals := 69 } : Room) sp_X6_cancelRingTo := dm_meth (own := RX6) (X := x_X6_cancelRingTo) (Sp := k_X6_cancelRingTo) (prog := p_X6_cancelRingTo) (by decide +kernel) rfl rfl (dm_FO_s ffX6 [(15, 6, 4), (19, 6, 5), (22, 6, 6), (25, 6, 0), (29, 6, 1), (59, 2, 8)] rfl dm_hT (by decide +kernel)) (dm_IO_s ifX6 jfX6 [] [] rfl rfl dm_hT (by decide +kernel) (by decide +kernel)) soC (dm_MO_of (List.forall_mem_cons.mpr ⟨dm_M1_of (t_J7_fill_53178 l D cA ad) dm_hT (dm_mem [549, 78, 735] (by decide +kernel) (by decide +kernel)) (by decide) (by decide +kernel) (Or.inl ⟨rfl, dm_mem (ws := [.static yJ7_fill_53178]) [548] (by decide +kernel) (by decide +kernel) _ List.mem_cons_self⟩), List.forall_mem_cons.mpr ⟨dm_M1_of (t_X1_beginOf l D cA ad) dm_hT (dm_mem [553, 68, 736] (by decide +kernel) (by decide +kernel)) (by decide) (by decide +kernel) (Or.inr ⟨by decide, dm_mem [551, 552] (by decide +kernel) (by decide +kernel), rfl⟩), List.forall_mem_cons.mpr ⟨dm_M1_of (t_X6_pushRound l D cA ad) dm_hT (dm_mem [740, 73, 737] (by decide +kernel) (by decide +kernel)) (by decide) (by decide +kernel) (Or.inr ⟨by decide, dm_mem [739, 24] (by decide +kernel) (by decide +kernel), rfl⟩), fun _ h => absurd h List.not_mem_nil⟩⟩⟩)) v_X6_cancelRingTo u_X6_cancelRingTo
