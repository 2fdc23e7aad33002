/-! ===== Paths.sendOneByOne, sendGreatFirst ===== -/
section
variable {K : Nat} {b e : Nat → Nat} {c mm p : Nat → Int} {dl W : Int} {lo : Nat → Int}
/-- what falls has room below W: so much is pushed at most -/
theorem ufP_bd (hl : fits K mm lo) (hd : 1 ≤ dl) (hW : 0 ≤ W) (h : ∀ w, w < 2 * K → W ≤ wm mm lo w → 0 ≤ rcw b e c p w) : sI (ufP b e c mm p dl lo) K ≤ K * W := by
  refine sI_bd (fun l hlK => ?_)
  obtain ⟨l1, l2⟩ := hl l hlK
  have h0 := h (2 * l) (by omega)
  have h1 := h (2 * l + 1) (by omega)
  unfold rcw wr wb we wm at h0 h1
  rw [if_pos (by omega), if_pos (by omega), if_pos (by omega), if_pos (by omega), show 2 * l / 2 = l by omega] at h0
  rw [if_neg (by omega), if_neg (by omega), if_neg (by omega), if_neg (by omega), show (2 * l + 1) / 2 = l by omega] at h1
  have hr : rc b e c p l = c l + p (b l) - p (e l) := rfl
  unfold ufP
  by_cases q1 : rc b e c p l < 0 ∧ dl ≤ mm l - lo l
  · rw [if_pos q1]
    rcases Int.lt_or_le (mm l - lo l) W with y | y
    · omega
    · have := h0 y; omega
  · rw [if_neg q1]
    by_cases q2 : 0 < rc b e c p l ∧ dl ≤ lo l
    · rw [if_pos q2]
      rcases Int.lt_or_le (lo l) W with y | y
      · omega
      · have := h1 y; omega
    · rw [if_neg q2]; exact hW
end
theorem snt_sum {n K : Nat} {b e : Nat → Nat} {op : Nat → Bool} {mm lo ex lo' ex' : Nat → Int} (h : snt n K b e op mm lo ex lo' ex') : pe n ex' ≤ pe n ex := sI_le (fun v hv => by
  show (if 0 ≤ ex' v then ex' v else 0) ≤ if 0 ≤ ex v then ex v else 0
  have h1 := h.2.2.2.1 v hv
  rcases Int.le_total 0 (ex v) with y | y
  · have h2 := h1.1 y
    rw [if_pos h2.1, if_pos y]; exact h2.2
  · have h2 := h1.2 y
    split <;> split <;> omega)
/-- what Paths has to begin with: loads lo, too much ex, a flow y -/
def gq_ok (u : dm_S) (n K : Nat) (b e : Nat → Nat) (c mm lo ex p y : Nat → Int) (hd sr : Nat → Nat) : Prop := LA u n K b e mm lo ex ∧ fits K mm lo ∧ (∀ l, l < K → mm l ≤ 1000000000) ∧ so_ok u n K b e hd sr ∧ u.2 23 = lF c ∧ (∀ l, l < K → -1000000 ≤ c l ∧ c l ≤ 1000000) ∧ u.2 36 = lF p ∧ fits K mm y ∧ ∀ v, v < n → dv K b e y v = ex v + dv K b e lo v
theorem gq_LB {u : dm_S} {n K : Nat} {b e : Nat → Nat} {c mm lo ex p y : Nat → Int} {hd sr : Nat → Nat} (h : gq_ok u n K b e c mm lo ex p y hd sr) (hp : pe n ex ≤ 1000000000000000) : LB n K mm lo ex := by
  obtain ⟨h1, h2, h3, h4, h5, h6, h7, h8, h9⟩ := h
  refine ⟨h2, fun l hl => by have := h3 l hl; omega, fun v hv => ?_⟩
  have := ex_pe (ex_tot (ln_nd h1.1) h9) hv
  omega
/-- behind useFalling -/
theorem gq_uf {u : dm_S} {n K : Nat} {b e : Nat → Nat} {c mm lo ex p y : Nat → Int} {hd sr : Nat → Nat} {dl : Int} (h : gq_ok u n K b e c mm lo ex p y hd sr) (hd1 : 1 ≤ dl) : gq_ok (st_x u (ufS b e c mm p dl lo ex (2 * K)).1 (ufS b e c mm p dl lo ex (2 * K)).2) n K b e c mm (ufS b e c mm p dl lo ex (2 * K)).1 (ufS b e c mm p dl lo ex (2 * K)).2 p y hd sr := by
  obtain ⟨h1, h2, h3, h4, h5, h6, h7, h8, h9⟩ := h
  obtain ⟨i1, i2, i3⟩ := ufS_ex (n := n) (c := c) (p := p) (ex := ex) (ln_nd h1.1) h2 hd1 h3 (2 * K) (Nat.le_refl _)
  exact ⟨⟨h1.1, (st_xo (by decide) (by decide)).trans h1.2.1, st_x24, st_x25⟩, i1, h3, so_sa h4 sa_x, (st_xo (by decide) (by decide)).trans h5, h6, (st_xo (by decide) (by decide)).trans h7, h8, fun v hv => by rw [i2 v hv]; exact h9 v hv⟩
theorem gq_snt {u u' : dm_S} {n K : Nat} {b e : Nat → Nat} {c mm lo ex p y lo' ex' p' : Nat → Int} {hd sr : Nat → Nat} (h : gq_ok u n K b e c mm lo ex p y hd sr) (hf : sa_fr u u') (h1 : LA u' n K b e mm lo' ex') (h2 : u'.2 36 = lF p') (hs : snt n K b e (fun _ => true) mm lo ex lo' ex') : gq_ok u' n K b e c mm lo' ex' p' y hd sr := by
  obtain ⟨g1, g2, g3, g4, g5, g6, g7, g8, g9⟩ := h
  exact ⟨h1, hs.1, g3, so_sa g4 hf, (hf.2 23 (by decide)).trans g5, g6, h2, g8, fun v hv => by rw [hs.2.1 v hv]; exact g9 v hv⟩
def sp_X4_sendOneByOne (As : List Value) (u : dm_S) (Q : Option Value → dm_S → Prop) : Prop := match As with
  | [.ref 6] => ∃ (n K : Nat) (b e : Nat → Nat) (c mm lo ex p y : Nat → Int) (hd sr : Nat → Nat), gq_ok u n K b e c mm lo ex p y hd sr ∧ pe n ex ≤ 104000000 ∧ (∀ v, v < n → -24000000 ≤ p v ∧ p v ≤ 0) ∧ inv K b e c mm lo p 1000001 ∧
    (∀ (u' : dm_S) (lo' ex' p' : Nat → Int), sa_fr u u' → gq_ok u' n K b e c mm lo' ex' p' y hd sr → inv K b e c mm lo' p' 1 → (∀ v, v < n → ex' v = 0) → (∀ v, v < n → -24000000 ≤ p' v ∧ p' v ≤ 48000000) → Q (some (.int 1)) u') ∧
    ∀ (u' : dm_S) (lo' ex' p' : Nat → Int), sa_fr u u' → gq_ok u' n K b e c mm lo' ex' p' y hd sr → inv K b e c mm lo' p' 1 → pe n ex' ≤ 424000320 → (∀ v, v < n → -24000000 ≤ p' v ∧ p' v ≤ 48000000) → Q (some (.int 0)) u'
  | _ => False
def p_X4_sendOneByOne : List dm_I := [(0, .aload_n 0, 1, [0]), (1, .lconst 1, 1, []), (2, .invokevirtual 37, 3, []), (5, .aload_n 0, 1, [0]), (6, .lconst 1, 1, []), (7, .sipush 10000, 3, []), (10, .invokevirtual 41, 3, []), (13, .ireturn, 1, [])]
set_option maxRecDepth 100000 in
theorem v_X4_sendOneByOne : p_X4_sendOneByOne.all (dm_vb cX4_sendOneByOne) = true := by decide +kernel
def k_X4_sendOneByOne : dm_Sp := fun a => match a with
  | 0 => sp_X4_useFalling
  | 1 => sp_X4_sendAtLeast
  | _ => fun _ _ _ => False
def x_X4_sendOneByOne : dm_X := dm_mk [] [] [] [(37, 0, 1, 4), (41, 1, 2, 4)] 3
set_option maxRecDepth 100000 in
set_option maxHeartbeats 1600000 in
theorem u_X4_sendOneByOne : dm_Pure shC x_X4_sendOneByOne k_X4_sendOneByOne p_X4_sendOneByOne 1 sp_X4_sendOneByOne := by
  intro As u Qp hh
  unfold sp_X4_sendOneByOne at hh
  split at hh
  · obtain ⟨n, K, b, e, c, mm, lo, ex, p, y, hd, sr, hG0, hpe, hp, hinv, hx, hy⟩ := hh
    have hG1 := hG0
    obtain ⟨h1, h2, h3, h4, h5, h6, h7, h8, h9⟩ := hG1
    obtain ⟨hn, hK, en, eK⟩ := h1.1.1
    have hnd := ln_nd h1.1
    have hg := gq_uf (dl := 1) hG0 (Int.le_refl _)
    have hpe1 : pe n (ufS b e c mm p 1 lo ex (2 * K)).2 ≤ 424000320 := by
      have g1 := ufS_pe (n := n) (c := c) (p := p) (ex := ex) (dl := 1) hnd h2 (Int.le_refl _) h3 K (Nat.le_refl _)
      have g2 := ufP_bd (c := c) (p := p) (dl := 1) (W := 1000001) h2 (Int.le_refl _) (by omega) hinv
      have g3 : (K : Int) * 1000001 ≤ 320 * 1000001 := Int.mul_le_mul_of_nonneg_right (by omega) (by omega)
      omega
    refine ⟨Nat.le_of_ble_eq_true rfl, fun G Wp hW0 hW1 hG => ?_⟩
    apply hG (fun _ => false) 20
    simp (config := { maxSteps := 2000000 }) [-Prod.forall, -Prod.exists, -exists_and_left, -exists_and_right, hW0, hW1, dm_fn, dm_fd, dm_x, dm_L0, dm_la, dm_t1, dm_sw, List.headD, dm_ic, dm_mk, dm_s1, dm_s2, dm_clr, dm_cs, dm_cc, dm_nb0, dm_nb1, Value.category, List.lookup, p_X4_sendOneByOne, x_X4_sendOneByOne, k_X4_sendOneByOne, dm_cm, upd, vp_updL, dm_ui_1, dm_ui_2, dm_ul_1, dm_ul_2, sp_X4_useFalling, sp_X4_sendAtLeast, sC_0, sC_1, sC_2, sC_3, sC_4, sC_5, sC_6, sC_7, sC_8, sC_9, sC_10, sC_11, sC_12, sC_13, sC_14, sC_15, sC_16, sC_17, sC_18, sC_19, sC_20, sC_21, sC_22, sC_23, sC_24, sC_25, sC_26, sC_27, sC_28, sC_29, sC_30, sC_31, sC_32, sC_33, sC_34, sC_35, sC_36, sC_37, sC_38, sC_39, sC_40, sC_41, sC_42, sC_43, sC_44, sC_45, sC_46, sC_47, sC_48, sC_49, sC_50, sC_51]
    refine ⟨n, K, b, e, c, mm, lo, ex, p, 1, h1, h2, h3, h5, h6, h7, fun v hv => by have := hp v hv; omega, rfl, by unfold lB; omega, Int.le_refl _, n, K, b, e, c, mm, (ufS b e c mm p 1 lo ex (2 * K)).1, (ufS b e c mm p 1 lo ex (2 * K)).2, p, 1, 24000000, hd, sr, 10000, hg.1, gq_LB hg (by omega), hg.2.2.2.1, hg.2.2.2.2.1, h6, hg.2.2.2.2.2.2.1, ⟨rfl, Int.le_refl _, by omega⟩, ufS_inv (Int.le_refl _) h2, ⟨fun v hv => by have := hp v hv; omega, by omega, by omega⟩, rfl, by omega, fun u' lo' ex' p' S b1 b2 b3 b4 b5 b6 b7 => ?_, fun u' lo' ex' p' b1 b2 b3 b4 b5 b6 b7 => ?_⟩
    · have hg2 := gq_snt hg b1 b2 b3 b4
      exact hx u' lo' ex' p' (sa_frt sa_x b1) hg2 b5 (stq_zero hnd hg2.2.1 h8 hg2.2.2.2.2.2.2.2.2 b7) (fun v hv => by have := b6 v hv; omega)
    · have hg2 := gq_snt hg b1 b2 b3 b4
      exact hy u' lo' ex' p' (sa_frt sa_x b1) hg2 b5 (by have := snt_sum b4; omega) (fun v hv => by have := b6 v hv; omega)
  · exact hh.elim
set_option maxRecDepth 100000 in
theorem t_X4_sendOneByOne (l : Launch) (D : va_G) (cA : Nat → ClassId) (ad : Nat → Nat) : dm_Met l D dm_cl cA ad shC yX4_sendOneByOne (Cond.code yX4_sendOneByOne cX4_sendOneByOne 1 (dm_rt 3) :: dm_tt) ({ frames := 4, cells := 0, slots := 0, locals := 104 } : Room) sp_X4_sendOneByOne := dm_meth (own := RX4) (X := x_X4_sendOneByOne) (Sp := k_X4_sendOneByOne) (prog := p_X4_sendOneByOne) (by decide +kernel) rfl rfl (dm_FO_s ffX4 [] rfl dm_hT (by decide +kernel)) (dm_IO_s ifX4 jfX4 [] [] rfl rfl dm_hT (by decide +kernel) (by decide +kernel)) soC (dm_MO_of (List.forall_mem_cons.mpr ⟨dm_M1_of (t_X4_useFalling l D cA ad) dm_hT (dm_mem [753, 72, 750] (by decide +kernel) (by decide +kernel)) (by decide) (by decide +kernel) (Or.inr ⟨by decide, dm_mem [752, 25] (by decide +kernel) (by decide +kernel), rfl⟩), List.forall_mem_cons.mpr ⟨dm_M1_of (t_X4_sendAtLeast l D cA ad) dm_hT (dm_mem [762, 72, 759] (by decide +kernel) (by decide +kernel)) (by decide) (by decide +kernel) (Or.inr ⟨by decide, dm_mem [761, 26] (by decide +kernel) (by decide +kernel), rfl⟩), fun _ h => absurd h List.not_mem_nil⟩⟩)) v_X4_sendOneByOne u_X4_sendOneByOne
def pw : Nat → Int
  | 0 => 1
  | k + 1 => 2 * pw k
def mq : Nat → Int
  | 0 => 72000000
  | j + 1 => 2 * mq j + 24000000
def amk : Nat → Int
  | 0 => 0
  | k + 1 => pw k
theorem pw_bd : ∀ k, k < 28 → 1 ≤ pw k ∧ pw k ≤ 134217728 := by decide
theorem mq_bd : ∀ j, j < 27 → 0 ≤ mq j ∧ mq j ≤ 6600000000000000 := by decide
theorem mq_bd2 : ∀ j, j < 28 → 0 ≤ mq j ∧ mq j ≤ 18000000000000000 := by decide
theorem amk_h : ∀ k, pw k / 2 = amk k
  | 0 => by decide
  | k + 1 => by show 2 * pw k / 2 = pw k; omega
def sp_X4_sendGreatFirst (As : List Value) (u : dm_S) (Q : Option Value → dm_S → Prop) : Prop := match As with
  | [.ref 6] => ∃ (n K : Nat) (b e : Nat → Nat) (c mm lo ex p y : Nat → Int) (hd sr : Nat → Nat), gq_ok u n K b e c mm lo ex p y hd sr ∧ pe n ex ≤ 424000320 ∧ (∀ v, v < n → -24000000 ≤ p v ∧ p v ≤ 48000000) ∧ inv K b e c mm lo p 134217728 ∧
    ∀ (u' : dm_S) (lo' ex' p' : Nat → Int), sa_fr u u' → gq_ok u' n K b e c mm lo' ex' p' y hd sr → inv K b e c mm lo' p' 1 → (∀ v, v < n → ex' v = 0) → (∀ v, v < n → -24000000 ≤ p' v ∧ p' v ≤ 18000000000000000) → Q none u'
  | _ => False
def p_X4_sendGreatFirst : List dm_I := [(0, .ldc2_w 45, 3, []), (3, .lstore_n 1, 1, [1]), (4, .lload_n 1, 1, [1]), (5, .lconst 0, 1, []), (6, .lcmp, 1, []), (7, .ifCond .le 23, 3, [30]), (10, .aload_n 0, 1, [0]), (11, .lload_n 1, 1, [1]), (12, .invokevirtual 37, 3, []), (15, .aload_n 0, 1, [0]), (16, .lload_n 1, 1, [1]), (17, .ldc 47, 2, []), (19, .invokevirtual 41, 3, []), (22, .pop, 1, []), (23, .lload_n 1, 1, [1]), (24, .iconst 1, 1, []), (25, .lshr, 1, []), (26, .lstore_n 1, 1, [1]), (27, .goto (-23), 3, [4]), (30, .return_, 1, [])]
set_option maxRecDepth 100000 in
theorem v_X4_sendGreatFirst : p_X4_sendGreatFirst.all (dm_vb cX4_sendGreatFirst) = true := by decide +kernel
def k_X4_sendGreatFirst : dm_Sp := fun a => match a with
  | 0 => sp_X4_useFalling
  | 1 => sp_X4_sendAtLeast
  | _ => fun _ _ _ => False
def x_X4_sendGreatFirst : dm_X := dm_mk [] [(47, 1000000)] [(45, 67108864)] [(37, 0, 1, 4), (41, 1, 2, 4)] 0
set_option maxRecDepth 100000 in
set_option maxHeartbeats 1600000 in
theorem u_X4_sendGreatFirst : dm_Pure shC x_X4_sendGreatFirst k_X4_sendGreatFirst p_X4_sendGreatFirst 3 sp_X4_sendGreatFirst := by
  intro As u Qp hh
  unfold sp_X4_sendGreatFirst at hh
  split at hh
  · obtain ⟨n, K, b, e, c, mm, lo, ex, p, y, hd, sr, hG0, hpe, hp, hinv, hx⟩ := hh
    refine ⟨Nat.le_of_ble_eq_true rfl, fun G Wp hW0 hW1 hG => ?_⟩
    have hB0 : lB 0 := by unfold lB; omega
    have h0 : (0 : Int64) = lI 0 := rfl
    have loop : ∀ k j : Nat, j + k = 27 → ∀ (u' : dm_S) (lo' ex' p' : Nat → Int), sa_fr u u' → gq_ok u' n K b e c mm lo' ex' p' y hd sr → inv K b e c mm lo' p' (pw k) → pe n ex' ≤ 344 * pw k → (∀ v, v < n → -24000000 ≤ p' v ∧ p' v ≤ mq j - 24000000) → (k = 0 → ∀ v, v < n → ex' v = 0) → G 4 [some (.ref 6), some (.long (lI (amk k))), none] [] u' := by
      intro k
      induction k with
      | zero =>
        intro j hj u' lo' ex' p' a1 a2 a3 a4 a5 a6
        have := mq_bd2 j (by omega)
        apply hG (fun pc => pc == 4) 41
        simp (config := { maxSteps := 2000000 }) [-Prod.forall, -Prod.exists, -exists_and_left, -exists_and_right, hW0, hW1, dm_fn, dm_fd, dm_x, dm_L0, dm_la, dm_t1, dm_sw, List.headD, dm_ic, dm_mk, dm_s1, dm_s2, dm_clr, dm_cs, dm_cc, dm_nb0, dm_nb1, Value.category, List.lookup, p_X4_sendGreatFirst, x_X4_sendGreatFirst, k_X4_sendGreatFirst, dm_cm, upd, vp_updL, dm_ui_1, dm_ui_2, dm_ul_1, dm_ul_2, sp_X4_useFalling, sp_X4_sendAtLeast, sC_0, sC_1, sC_2, sC_3, sC_4, sC_5, sC_6, sC_7, sC_8, sC_9, sC_10, sC_11, sC_12, sC_13, sC_14, sC_15, sC_16, sC_17, sC_18, sC_19, sC_20, sC_21, sC_22, sC_23, sC_24, sC_25, sC_26, sC_27, sC_28, sC_29, sC_30, sC_31, sC_32, sC_33, sC_34, sC_35, sC_36, sC_37, sC_38, sC_39, sC_40, sC_41, sC_42, sC_43, sC_44, sC_45, sC_46, sC_47, sC_48, sC_49, sC_50, sC_51]
        refine ⟨fun _ => hx u' lo' ex' p' a1 a2 a3 (a6 rfl) (fun v hv => by have := a5 v hv; omega), fun zq => absurd zq (by decide)⟩
      | succ k ih =>
        intro j hj u' lo' ex' p' a1 a2 a3 a4 a5 a6
        obtain ⟨k1, k2⟩ := pw_bd k (by omega)
        have hk3 : pw (k + 1) = 2 * pw k := rfl
        have hm := mq_bd j (by omega)
        have hBk : lB (pw k) := by unfold lB; omega
        have hG1 := a2
        obtain ⟨h1, h2, h3, h4, h5, h6, h7, h8, h9⟩ := hG1
        obtain ⟨hn, hK, en, eK⟩ := h1.1.1
        have hnd := ln_nd h1.1
        have hg := gq_uf (dl := pw k) a2 k1
        have hpe1 : pe n (ufS b e c mm p' (pw k) lo' ex' (2 * K)).2 ≤ 1328 * pw k := by
          have g1 := ufS_pe (n := n) (c := c) (p := p') (ex := ex') (dl := pw k) hnd h2 k1 h3 K (Nat.le_refl _)
          have g2 := ufP_bd (c := c) (p := p') (dl := pw k) (W := pw (k + 1)) h2 k1 (by omega) a3
          have g3 : (K : Int) * pw (k + 1) ≤ 320 * pw (k + 1) := Int.mul_le_mul_of_nonneg_right (by omega) (by omega)
          omega
        apply hG (fun pc => pc == 4) 41
        simp (config := { maxSteps := 2000000 }) [-Prod.forall, -Prod.exists, -exists_and_left, -exists_and_right, hW0, hW1, dm_fn, dm_fd, dm_x, dm_L0, dm_la, dm_t1, dm_sw, List.headD, dm_ic, dm_mk, dm_s1, dm_s2, dm_clr, dm_cs, dm_cc, dm_nb0, dm_nb1, Value.category, List.lookup, p_X4_sendGreatFirst, x_X4_sendGreatFirst, k_X4_sendGreatFirst, dm_cm, upd, vp_updL, dm_ui_1, dm_ui_2, dm_ul_1, dm_ul_2, sp_X4_useFalling, sp_X4_sendAtLeast, sC_0, sC_1, sC_2, sC_3, sC_4, sC_5, sC_6, sC_7, sC_8, sC_9, sC_10, sC_11, sC_12, sC_13, sC_14, sC_15, sC_16, sC_17, sC_18, sC_19, sC_20, sC_21, sC_22, sC_23, sC_24, sC_25, sC_26, sC_27, sC_28, sC_29, sC_30, sC_31, sC_32, sC_33, sC_34, sC_35, sC_36, sC_37, sC_38, sC_39, sC_40, sC_41, sC_42, sC_43, sC_44, sC_45, sC_46, sC_47, sC_48, sC_49, sC_50, sC_51]
        show (lI (pw k) ≤ 0 → _) ∧ (0 < lI (pw k) → _)
        rw [h0, lI_le hBk hB0, lI_lt hB0 hBk]
        refine ⟨fun z => by omega, fun _ => ?_⟩
        refine ⟨n, K, b, e, c, mm, lo', ex', p', pw k, h1, h2, h3, h5, h6, h7, fun v hv => by have := a5 v hv; omega, rfl, hBk, k1, n, K, b, e, c, mm, (ufS b e c mm p' (pw k) lo' ex' (2 * K)).1, (ufS b e c mm p' (pw k) lo' ex' (2 * K)).2, p', pw k, mq j, hd, sr, 1000000, hg.1, gq_LB hg (by omega), hg.2.2.2.1, hg.2.2.2.2.1, h6, hg.2.2.2.2.2.2.1, ⟨rfl, k1, by omega⟩, ufS_inv k1 h2, ⟨a5, hm.1, hm.2⟩, rfl, by omega, fun u2 lo2 ex2 p2 S b1 b2 b3 b4 b5 b6 b7 => ?_, fun u2 lo2 ex2 p2 b1 b2 b3 b4 b5 b6 b7 => ?_⟩
        · have hg2 := gq_snt hg b1 b2 b3 b4
          show G 4 [some (.ref 6), some (.long (lI (pw k) >>> ((1 : Int64) &&& 63))), none] [] u2
          rw [lI_sh1 (by omega), amk_h]
          refine ih (j + 1) (by omega) u2 lo2 ex2 p2 (sa_frt a1 (sa_frt sa_x b1)) hg2 b5 (stq_pe hn hK hnd hg2.2.1 h8 hg2.2.2.2.2.2.2.2.2 b7 k1) (fun v hv => by have := b6 v hv; have e9 : mq (j + 1) = 2 * mq j + 24000000 := rfl; omega) (fun hk0 => ?_)
          subst hk0
          exact stq_zero hnd hg2.2.1 h8 hg2.2.2.2.2.2.2.2.2 b7
        · omega
    apply hG (fun pc => pc == 4) 41
    simp (config := { maxSteps := 2000000 }) [-Prod.forall, -Prod.exists, -exists_and_left, -exists_and_right, hW0, hW1, dm_fn, dm_fd, dm_x, dm_L0, dm_la, dm_t1, dm_sw, List.headD, dm_ic, dm_mk, dm_s1, dm_s2, dm_clr, dm_cs, dm_cc, dm_nb0, dm_nb1, Value.category, List.lookup, p_X4_sendGreatFirst, x_X4_sendGreatFirst, k_X4_sendGreatFirst, dm_cm, upd, vp_updL, dm_ui_1, dm_ui_2, dm_ul_1, dm_ul_2, sp_X4_useFalling, sp_X4_sendAtLeast, sC_0, sC_1, sC_2, sC_3, sC_4, sC_5, sC_6, sC_7, sC_8, sC_9, sC_10, sC_11, sC_12, sC_13, sC_14, sC_15, sC_16, sC_17, sC_18, sC_19, sC_20, sC_21, sC_22, sC_23, sC_24, sC_25, sC_26, sC_27, sC_28, sC_29, sC_30, sC_31, sC_32, sC_33, sC_34, sC_35, sC_36, sC_37, sC_38, sC_39, sC_40, sC_41, sC_42, sC_43, sC_44, sC_45, sC_46, sC_47, sC_48, sC_49, sC_50, sC_51]
    exact loop 27 0 (by omega) u lo ex p (sa_fr0 u) hG0 hinv (by have : pw 27 = 134217728 := by decide
                                                                 omega) (fun v hv => by have := hp v hv; have : mq 0 = 72000000 := rfl; omega) (fun z => by omega)
  · exact hh.elim
set_option maxRecDepth 100000 in
theorem t_X4_sendGreatFirst (l : Launch) (D : va_G) (cA : Nat → ClassId) (ad : Nat → Nat) : dm_Met l D dm_cl cA ad shC yX4_sendGreatFirst (Cond.code yX4_sendGreatFirst cX4_sendGreatFirst 3 (dm_rt 0) :: dm_tt) ({ frames := 4, cells := 0, slots := 0, locals := 104 } : Room) sp_X4_sendGreatFirst := dm_meth (own := RX4) (X := x_X4_sendGreatFirst) (Sp := k_X4_sendGreatFirst) (prog := p_X4_sendGreatFirst) (by decide +kernel) rfl rfl (dm_FO_s ffX4 [] rfl dm_hT (by decide +kernel)) (dm_IO_s ifX4 jfX4 [(47, 1000000)] [(45, 67108864)] rfl rfl dm_hT (by decide +kernel) (by decide +kernel)) soC (dm_MO_of (List.forall_mem_cons.mpr ⟨dm_M1_of (t_X4_useFalling l D cA ad) dm_hT (dm_mem [753, 72, 750] (by decide +kernel) (by decide +kernel)) (by decide) (by decide +kernel) (Or.inr ⟨by decide, dm_mem [752, 25] (by decide +kernel) (by decide +kernel), rfl⟩), List.forall_mem_cons.mpr ⟨dm_M1_of (t_X4_sendAtLeast l D cA ad) dm_hT (dm_mem [762, 72, 759] (by decide +kernel) (by decide +kernel)) (by decide) (by decide +kernel) (Or.inr ⟨by decide, dm_mem [761, 26] (by decide +kernel) (by decide +kernel), rfl⟩), fun _ h => absurd h List.not_mem_nil⟩⟩)) v_X4_sendGreatFirst u_X4_sendGreatFirst
