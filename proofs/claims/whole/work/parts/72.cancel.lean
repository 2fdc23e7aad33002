/-! ===== Rings.cancelAll ===== -/
def ca_fr (u u' : dm_S) : Prop := (∀ c, c ∉ [3, 28, 29, 30, 43, 44, 45] → u'.1 c = u.1 c) ∧ ∀ c, c ∉ [24, 25, 31, 42] → u'.2 c = u.2 c
theorem ca_fr0 (u : dm_S) : ca_fr u u := ⟨fun _ _ => rfl, fun _ _ => rfl⟩
theorem ca_frt {u u' u'' : dm_S} (h : ca_fr u u') (h2 : ca_fr u' u'') : ca_fr u u'' := ⟨fun c a => (h2.1 c a).trans (h.1 c a), fun c a => (h2.2 c a).trans (h.2 c a)⟩
theorem ca_kw {u u' : dm_S} (h : kw_fr u u') : ca_fr u u' := ⟨fun c hc => by simp at hc; exact h.1 c (by omega), fun c hc => by simp at hc; exact h.2 c (by omega)⟩
theorem ca_cr {u u' : dm_S} (h : cr_fr u u') : ca_fr u u' := ⟨fun c hc => by simp at hc; exact h.1 c (by omega) (by omega), fun c hc => by simp at hc; exact h.2 c (by omega) (by omega)⟩
theorem ca_ga {u : dm_S} {pt : Nat → Nat} {a : Nat} : ca_fr u (wy_ga u pt a) := by
  obtain ⟨-, h1, h2⟩ := wy_ga_k (u := u) (pt := pt) a
  exact ⟨fun c hc => by simp at hc; exact h1 c (by omega) (by omega) (by omega) (by omega), fun c hc => by simp at hc; exact h2 c (by omega)⟩
theorem ca_nt {u u' : dm_S} (h : ca_fr u u') : nt_fr u u' := by
  refine ⟨fun c hc => h.1 c ?_, fun c hc => h.2 c ?_⟩
  · intro z; revert hc z; revert c; decide
  · intro z; revert hc z; revert c; decide
theorem LN_ca {u u' : dm_S} {A : AN} (h : LN u A) (hf : ca_fr u u') : LN u' A := LN_fr h (fun c hc => hf.1 c (by intro z; revert hc z; revert c; decide)) (fun c hc => hf.2 c (by intro z; revert hc z; revert c; decide))
theorem LN_c {u : dm_S} {A : AN} (h : LN u A) : ln_c u A := ⟨h.2.1, fun l hl => (h.2.2 l hl).2⟩
theorem AN.c_bd {A : AN} (hA : A.ok) {l : Nat} (hl : l < A.K) : -1000000 ≤ A.c l ∧ A.c l ≤ 1000000 := by
  obtain ⟨q1, k2, q2, q3, q4⟩ := A.l_in hl
  have q5 := (hA.2.1 _ q1).2.2.2.1 k2 q2
  unfold AN.c
  rw [q4]; omega
theorem AN.wn {A : AN} (hA : A.ok) {w : Nat} (hw : w < 2 * A.K) : wb A.b A.e w < A.n ∧ we A.b A.e w < A.n := by
  obtain ⟨c1, c2⟩ := AN.nd hA (w / 2) (by omega)
  unfold wb we
  split
  · exact ⟨c1, c2⟩
  · exact ⟨c2, c1⟩
theorem WG_gw {s : dm_S} {A : AN} {mm lo : Nat → Int} {C : Nat} {nb : Nat → Nat} (hA : A.ok) (h : WG s A mm lo C nb) : gw_ok s A.n C nb (fun j => wb A.b A.e (nb j)) (fun j => we A.b A.e (nb j)) (fun j => wr A.c (nb j)) := by
  obtain ⟨⟨h1, h2⟩, h3, h4⟩ := h
  refine ⟨h1, h3, fun j hj => ?_⟩
  obtain ⟨g1, g2, g3, g4, g5⟩ := h2 j hj
  have hK := A.K_le hA
  have hw := g1.1
  obtain ⟨n1, n2⟩ := A.wn hA hw
  have hb := wr_bd (K := A.K) (c := A.c) (fun l hl => A.c_bd hA hl) hw
  exact ⟨⟨g2, by omega⟩, ⟨g3, n1⟩, ⟨g4, n2⟩, g5, hb.1, hb.2⟩
/-- no way with room falls: the prices prove the flow -/
theorem AN.opt_of {A : AN} {mm lo p : Nat → Int} (hl : fits A.K mm lo) (hb : bal A.n A.K A.b A.e A.s lo) (h : phI A.K A.b A.e A.c mm lo p 1 0) : A.opt mm p lo := by
  refine ⟨hl, hb, fun l hlK => ⟨fun z => ?_, fun z => ?_⟩⟩
  · have h0 := hl l hlK
    rcases Int.lt_or_le (lo l) (mm l) with y | y
    · have := h (2 * l) (by omega) (by unfold wm; rw [if_pos (by omega), show 2 * l / 2 = l by omega]; omega)
      unfold wS wr wb we at this
      rw [if_pos (by omega), if_pos (by omega), if_pos (by omega), show 2 * l / 2 = l by omega] at this
      unfold rc at z
      omega
    · omega
  · have h0 := hl l hlK
    rcases Int.lt_or_le 0 (lo l) with y | y
    · have := h (2 * l + 1) (by omega) (by unfold wm; rw [if_neg (by omega), show (2 * l + 1) / 2 = l by omega]; exact y)
      unfold wS wr wb we at this
      rw [if_neg (by omega), if_neg (by omega), if_neg (by omega), show (2 * l + 1) / 2 = l by omega] at this
      unfold rc at z
      omega
    · omega
theorem kS_A {n : Nat} {D : Nat → Nat → Int} {F W : Int} (h : kS n D F W n) : ∀ v, v < n → D n v ≠ fAR → ∃ k, k < n ∧ D k v ≠ fAR ∧ F * (n - k) ≤ W * (D n v - D k v) := by
  intro v hv hd
  obtain ⟨k, k1, k2, k3⟩ := h.2.2.2 v hv hd
  refine ⟨k, k1, k2, ?_⟩
  rw [Int.mul_comm W, show ((n : Int) - k) = ((n - k : Nat) : Int) by omega]
  exact k3
theorem kE_B {n : Nat} {D : Nat → Nat → Int} {F W : Int} {v : Nat} (h : kE n D F W v) : ∀ k, k < n → D k v ≠ fAR → W * (D n v - D k v) ≤ F * (n - k) := by
  intro k hk hd
  have := h.2.2 k hk hd
  rw [Int.mul_comm W, show ((n : Int) - k) = ((n - k : Nat) : Int) by omega]
  exact this
/-- the prices of Karp's table, for the gathered ways -/
theorem k_ph {A : AN} (hA : A.ok) {s : dm_S} {mm lo : Nat → Int} {C : Nat} {nb : Nat → Nat} {D : Nat → Nat → Int} {La : Nat → Nat → Nat} {F W : Int} (hg : WG s A mm lo C nb) (hk : kA A.n C nb (fun j => wb A.b A.e (nb j)) (fun j => we A.b A.e (nb j)) (fun j => wr A.c (nb j)) D La A.n) (hs : kS A.n D F W A.n) : phI A.K A.b A.e A.c mm lo (fun v => kpi D W F v A.n) W F := by
  have hW := hs.1
  refine A.gat_ph hA (by omega) (fun w hgw => ?_)
  obtain ⟨j, hj, e1⟩ := hg.2.2 w hgw
  obtain ⟨n1, n2⟩ := A.wn hA hgw.1
  have := k_feas (bg := fun j => wb A.b A.e (nb j)) (en := fun j => we A.b A.e (nb j)) (wt := fun j => wr A.c (nb j)) (C := C) (W := W) (F := F) (j := j) ⟨fun v _ => hk.1 v, fun k j h1 h2 h3 => hk.2.2.1 k j h1 h2 h3⟩ (fun j hj => A.wn hA (hg.1.2 j hj).1.1) (by omega) (by omega) (kS_A hs) hj
  have h2 : kpi D W F (we A.b A.e (nb j)) A.n ≤ kpi D W F (wb A.b A.e (nb j)) A.n + W * wr A.c (nb j) - F := this
  rw [e1] at h2
  show F ≤ W * wr A.c w + kpi D W F (wb A.b A.e w) A.n - kpi D W F (we A.b A.e w) A.n
  omega
/-- what a turn of cancelling keeps, and how many turns are left at most -/
def caI (A : AN) (mm lo : Nat → Int) (m : Nat) : Prop := fits A.K mm lo ∧ bal A.n A.K A.b A.e A.s lo ∧ ∃ (p : Nat → Int) (W F : Int) (k : Nat), 1 ≤ W ∧ W ≤ 24 ∧ F < 0 ∧ phI A.K A.b A.e A.c mm lo p W F ∧ phZ W F k ∧ (406 - k) * 700 + phC A.K A.b A.e A.c mm lo p W ≤ m
theorem ca_step {A : AN} (hA : A.ok) {s : dm_S} {mm lo : Nat → Int} {m C : Nat} {nb : Nat → Nat} {D : Nat → Nat → Int} {La : Nat → Nat → Nat} {F W : Int} {v : Nat} {xs js : Nat → Nat} {f r : Nat} (hmm : ∀ l, l < A.K → mm l ≤ 1000000000) (hI : caI A mm lo m) (hg : WG s A mm lo C nb) (hk : kA A.n C nb (fun j => wb A.b A.e (nb j)) (fun j => we A.b A.e (nb j)) (fun j => wr A.c (nb j)) D La A.n) (hs : kS A.n D F W A.n) (he : kE A.n D F W v) (hv : v < A.n) (hw : kwk A.n C nb (fun j => wb A.b A.e (nb j)) (fun j => we A.b A.e (nb j)) (fun j => wr A.c (nb j)) D La v xs js) (hfr : f + r ≤ A.n) (hR : isR A.K A.b A.e r (fun i => nb (js (f + i))) (fun i => xs (f + i))) : ∃ m', m' < m ∧ caI A mm (rgX (fun i => nb (js (f + i))) (raM mm lo (fun i => nb (js (f + i))) r) lo r) m' := by
  obtain ⟨hl, hb, p0, W0, F0, k, w1, w2, w3, w4, w5, w6⟩ := hI
  have hn := hA.1.1
  have hK := A.K_le hA
  have htight : ∀ i, i < r → wS A.b A.e A.c (fun v => kpi D W F v A.n) W (nb (js (f + i))) = F := by
    intro i hi
    exact k_tight (bg := fun j => wb A.b A.e (nb j)) (en := fun j => we A.b A.e (nb j)) (wt := fun j => wr A.c (nb j)) (C := C) (W := W) (F := F) (x := xs) (q := js) ⟨fun v _ => hk.1 v, fun k j h1 h2 h3 => hk.2.2.1 k j h1 h2 h3⟩ (fun j hj => A.wn hA (hg.1.2 j hj).1.1) (by omega) (by have := hs.1; omega) (kS_A hs) (fun i hi => by
      obtain ⟨c1, c2, c3, c4, c5, c6, c7⟩ := hw.2 i hi
      exact ⟨c1, c2, c3, c4, c5⟩) (by rw [hw.1]; exact kE_B he) (f + i) (by omega)
  have hroom : ∀ i, i < r → 0 < wm mm lo (nb (js (f + i))) := fun i hi => (hg.1.2 _ (hw.2 (f + i) (by omega)).1).1.2.1
  have hrp := raM_pos (mm := mm) (lo := lo) (q := fun i => nb (js (f + i))) (k := r) hroom
  have hle : ∀ i, i < r → raM mm lo (fun i => nb (js (f + i))) r ≤ wm mm lo (nb (js (f + i))) := fun i hi => raM_le (mm := mm) (lo := lo) (q := fun i => nb (js (f + i))) hi
  have hmin : ∃ i, i < r ∧ wm mm lo (nb (js (f + i))) = raM mm lo (fun i => nb (js (f + i))) r := by
    rcases raM_at (mm := mm) (lo := lo) (q := fun i => nb (js (f + i))) (fun _ => Or.inr trivial) (k := r) with z | z
    · refine ⟨0, hR.1, ?_⟩
      have q1 := hle 0 hR.1
      have q2 : wm mm lo (nb (js (f + 0))) ≤ 1000000000 := by
        have q3 := (hR.2.2.1 0 hR.1).1
        have q4 := hl (nb (js (f + 0)) / 2) (by show nb (js (f + 0)) / 2 < A.K; have : nb (js (f + 0)) < 2 * A.K := q3; omega)
        have q5 := hmm (nb (js (f + 0)) / 2) (by have : nb (js (f + 0)) < 2 * A.K := q3; omega)
        unfold wm
        split <;> omega
      omega
    · exact z
  have hF := he.1
  have hneg : ∀ i, i < r → wS A.b A.e A.c (fun v => kpi D W F v A.n) W (nb (js (f + i))) < 0 := fun i hi => by rw [htight i hi]; exact hF
  have hft := rgX_fits hR (isR_dis hR hneg) hl (Int.le_of_lt hrp.1) hle
  have hbl : bal A.n A.K A.b A.e A.s (rgX (fun i => nb (js (f + i))) (raM mm lo (fun i => nb (js (f + i))) r) lo r) := by
    intro y hy
    have hx0 : xs (f + r) = xs (f + 0) := hR.2.1
    rw [rgX_dv hR _ _ r (Nat.le_refl _), hx0]
    have := hb y hy
    omega
  by_cases hz : ∃ i, i < r ∧ 0 ≤ wS A.b A.e A.c p0 W0 (nb (js (f + i)))
  · have hnx := ph_next (c := A.c) (p := fun v => kpi D W F v A.n) (W := W) (F := F) hR (by omega) (by omega) (by have := hs.1; omega) w3 w4 hroom htight hz
    have hZ := phZ_s w5 (by omega) (by have := hs.1; omega) hnx
    have hk406 := phZ_le hZ hF (by have := hs.1; omega) hs.2.1
    obtain ⟨g1, g2⟩ := ph_cancel hR hF (k_ph hA hg hk hs) hneg hrp.1 hle hmin
    have hc : phC A.K A.b A.e A.c mm lo (fun v => kpi D W F v A.n) W ≤ 2 * A.K := cN_le
    refine ⟨(406 - (k + 1)) * 700 + phC A.K A.b A.e A.c mm (rgX (fun i => nb (js (f + i))) (raM mm lo (fun i => nb (js (f + i))) r) lo r) (fun v => kpi D W F v A.n) W, ?_, hft, hbl, _, W, F, k + 1, hs.1, hs.2.1, hF, g1, hZ, Nat.le_refl _⟩
    have : (406 - (k + 1)) * 700 + 700 = (406 - k) * 700 := by omega
    omega
  · have hneg0 : ∀ i, i < r → wS A.b A.e A.c p0 W0 (nb (js (f + i))) < 0 := by
      intro i hi
      rcases Int.lt_or_le (wS A.b A.e A.c p0 W0 (nb (js (f + i)))) 0 with y | y
      · exact y
      · exact absurd ⟨i, hi, y⟩ hz
    obtain ⟨g1, g2⟩ := ph_cancel hR w3 w4 hneg0 hrp.1 hle hmin
    exact ⟨(406 - k) * 700 + phC A.K A.b A.e A.c mm (rgX (fun i => nb (js (f + i))) (raM mm lo (fun i => nb (js (f + i))) r) lo r) p0 W0, by omega, hft, hbl, p0, W0, F0, k, w1, w2, w3, g1, w5, Nat.le_refl _⟩
def sp_X6_cancelAll (As : List Value) (u : dm_S) (Q : Option Value → dm_S → Prop) : Prop := match As with
  | [.ref 7] => ∃ (A : AN) (mm lo ex : Nat → Int), A.ok ∧ CR u A ∧ LN u A ∧ (u.2 22 = lF mm ∧ ∀ l, l < A.K → mm l = A.w 1000000000 l) ∧ u.2 24 = lF lo ∧ u.2 25 = lF ex ∧ fits A.K mm lo ∧ bal A.n A.K A.b A.e A.s lo ∧ (∀ v, v < A.n → ex v = 0) ∧
    ∀ (u' : dm_S) (lo' p : Nat → Int), ca_fr u u' → u'.2 24 = lF lo' → u'.2 25 = lF ex → A.opt mm p lo' → Q none u'
  | _ => False
def p_X6_cancelAll : List dm_I := [(0, .aload_n 0, 1, [0]), (1, .getfield 29, 3, []), (4, .invokevirtual 37, 3, []), (7, .iconst 0, 1, []), (8, .istore_n 1, 1, [1]), (9, .iload_n 1, 1, [1]), (10, .ldc 42, 2, []), (12, .if_icmp .ge 36, 3, [48]), (15, .aload_n 0, 1, [0]), (16, .getfield 33, 3, []), (19, .invokevirtual 43, 3, []), (22, .aload_n 0, 1, [0]), (23, .invokevirtual 48, 3, []), (26, .aload_n 0, 1, [0]), (27, .invokevirtual 51, 3, []), (30, .istore_n 2, 1, [2]), (31, .iload_n 2, 1, [2]), (32, .iconst (-1), 1, []), (33, .if_icmp .ne 4, 3, [37]), (36, .return_, 1, []), (37, .aload_n 0, 1, [0]), (38, .iload_n 2, 1, [2]), (39, .invokevirtual 55, 3, []), (42, .iinc 1 1, 3, []), (45, .goto (-36), 3, [9]), (48, .return_, 1, [])]
set_option maxRecDepth 100000 in
theorem v_X6_cancelAll : p_X6_cancelAll.all (dm_vb cX6_cancelAll) = true := by decide +kernel
def k_X6_cancelAll : dm_Sp := fun a => match a with
  | 0 => sp_X1_fillCheapFirst
  | 1 => sp_X9_gather
  | 2 => sp_X6_walk
  | 3 => sp_X6_endOfSteepest
  | 4 => sp_X6_cancelRingTo
  | _ => fun _ _ _ => False
def x_X6_cancelAll : dm_X := dm_mk [(29, 6, 1), (33, 6, 2)] [(42, 1000000)] [] [(37, 0, 0, 1), (43, 1, 0, 9), (48, 2, 0, 6), (51, 3, 0, 6), (55, 4, 1, 6)] 0
set_option maxRecDepth 100000 in
set_option maxHeartbeats 1600000 in
theorem u_X6_cancelAll : dm_Pure shC x_X6_cancelAll k_X6_cancelAll p_X6_cancelAll 3 sp_X6_cancelAll := by
  intro As u Qp hh
  unfold sp_X6_cancelAll at hh
  split at hh
  · obtain ⟨A, mm, lo, ex, hA, hC, hL, ⟨e22, hm⟩, e24, e25, hl, hb, hex, h⟩ := hh
    obtain ⟨hn, hM⟩ := hA.1
    have hK := A.K_le hA
    have hwb := fun l hl => A.w_bd hA (B := 1000000000) (l := l) (by omega) hl
    have hmm : ∀ l, l < A.K → mm l ≤ 1000000000 := fun l hl => by rw [hm l hl]; have := hwb l hl; omega
    refine ⟨Nat.le_of_ble_eq_true rfl, fun G Wp hW0 hW1 hG => ?_⟩
    have loop : ∀ k t : Nat, t + k ≤ 900000 → ∀ (u' : dm_S) (lo' : Nat → Int) (o2 : Option Value), ca_fr u u' → u'.2 24 = lF lo' → u'.2 25 = lF ex → (∃ m, m < k ∧ caI A mm lo' m) → G 9 [some (.ref 7), some (.int (nI t)), o2] [] u' := by
      intro k
      induction k with
      | zero => intro t ht u' lo' o2 a1 a2 a3 a4; obtain ⟨m, h1, -⟩ := a4; omega
      | succ k ih =>
        intro t ht u' lo' o2 a1 a2 a3 a4
        obtain ⟨m, hmk, hI⟩ := a4
        have hL' := LN_ca hL a1
        have hC' := CR_fr hC (ca_nt a1)
        have e22' : u'.2 22 = lF mm := (a1.2 22 (by decide)).trans e22
        obtain ⟨C, nb, hg⟩ := WG_all hA (LN_c hL') e22' a2 hI.1 (fun l hl => by have := hmm l hl; omega)
        have hgw := WG_gw hA hg
        have hf1 : ca_fr u' (wy_ga u' A.pt A.M) := ca_ga
        have en1 : (wy_ga u' A.pt A.M).1 1 8 = nI A.n := by rw [hf1.1 1 (by decide)]; exact hC'.1.1
        have hB' : LB A.n A.K mm lo' ex := ⟨hI.1, fun l hl => by have := hmm l hl; omega, fun v hv => by rw [hex v hv]; omega⟩
        have hLAc : ∀ u2 : dm_S, ca_fr (wy_ga u' A.pt A.M) u2 → u2.2 24 = lF lo' → u2.2 25 = lF ex → LA u2 A.n A.K A.b A.e mm lo' ex := fun u2 hf h1 h2 => ⟨(LN_ca hL' (ca_frt hf1 hf)).2.1, (hf.2 22 (by decide)).trans ((hf1.2 22 (by decide)).trans e22'), h1, h2⟩
        have k24 : (wy_ga u' A.pt A.M).2 24 = lF lo' := by rw [(wy_ga_k (u := u') (pt := A.pt) A.M).2.2 24 (by decide)]; exact a2
        have k25 : (wy_ga u' A.pt A.M).2 25 = lF ex := by rw [(wy_ga_k (u := u') (pt := A.pt) A.M).2.2 25 (by decide)]; exact a3
        apply hG (fun pc => pc == 9) 60
        simp (config := { maxSteps := 2000000 }) [-Prod.forall, -Prod.exists, -exists_and_left, -exists_and_right, hW0, hW1, dm_fn, dm_fd, dm_x, dm_L0, dm_la, dm_t1, dm_sw, List.headD, dm_ic, dm_mk, dm_s1, dm_s2, dm_clr, dm_cs, dm_cc, dm_nb0, dm_nb1, Value.category, List.lookup, p_X6_cancelAll, x_X6_cancelAll, k_X6_cancelAll, dm_cm, upd, vp_updL, dm_ui_1, dm_ui_2, dm_ul_1, dm_ul_2, sp_X1_fillCheapFirst, sp_X9_gather, sp_X6_walk, sp_X6_endOfSteepest, sp_X6_cancelRingTo, sC_0, sC_1, sC_2, sC_3, sC_4, sC_5, sC_6, sC_7, sC_8, sC_9, sC_10, sC_11, sC_12, sC_13, sC_14, sC_15, sC_16, sC_17, sC_18, sC_19, sC_20, sC_21, sC_22, sC_23, sC_24, sC_25, sC_26, sC_27, sC_28, sC_29, sC_30, sC_31, sC_32, sC_33, sC_34, sC_35, sC_36, sC_37, sC_38, sC_39, sC_40, sC_41, sC_42, sC_43, sC_44, sC_45, sC_46, sC_47, sC_48, sC_49, sC_50, sC_51]
        rw [nI_1]
        refine ⟨fun zq => absurd zq (nI_ge (a := t) (b := 1000000) (by omega) (by omega)), fun zq => ⟨A.n, A.M, A.fr, A.tr, A.pt, CR_cn hC' hA, hL'.1, A.n, C, nb, fun j => wb A.b A.e (nb j), fun j => we A.b A.e (nb j), fun j => wr A.c (nb j), hn, en1, hgw, fun u2 D La b1 b2 b3 b4 => ⟨A.n, D, hn, by rw [b1.1 1 (by decide)]; exact en1, b2, b4.2.1, b4.1, fun hs => ?_, fun F W v hv hs he => ?_⟩⟩⟩
        · refine h u2 lo' (fun v => kpi D 1 0 v A.n) (ca_frt a1 (ca_frt hf1 (ca_kw b1))) (by rw [b1.2 24 (by decide)]; exact k24) (by rw [b1.2 25 (by decide)]; exact k25) (A.opt_of hI.1 hI.2.1 (k_ph hA hg b4 hs))
        · obtain ⟨xs, js, hwk⟩ := kwk_ex b4 he.2.1
          refine ⟨fun _ => ⟨A.n, A.K, A.b, A.e, mm, lo', ex, C, nb, fun j => wb A.b A.e (nb j), fun j => we A.b A.e (nb j), fun j => wr A.c (nb j), D, La, v, xs, js, hLAc u2 (ca_kw b1) (by rw [b1.2 24 (by decide)]; exact k24) (by rw [b1.2 25 (by decide)]; exact k25), hB', by omega, b3, hwk, fun j hj => ⟨(hg.1.2 j hj).1.1, rfl, rfl⟩, hv, rfl, fun u3 f r c1 c2 c3 c4 c5 => ?_⟩, fun z => absurd (z ▸ nI_pos (n := v) (by omega)) (by decide)⟩
          obtain ⟨m', m1, m2⟩ := ca_step hA hmm hI hg b4 hs he hv hwk c2 c3
          exact ih (t + 1) (by omega) u3 _ _ (ca_frt a1 (ca_frt hf1 (ca_frt (ca_kw b1) (ca_cr c1)))) c4 c5 ⟨m', by omega, m2⟩
    apply hG (fun pc => pc == 9) 60
    simp (config := { maxSteps := 2000000 }) [-Prod.forall, -Prod.exists, -exists_and_left, -exists_and_right, hW0, hW1, dm_fn, dm_fd, dm_x, dm_L0, dm_la, dm_t1, dm_sw, List.headD, dm_ic, dm_mk, dm_s1, dm_s2, dm_clr, dm_cs, dm_cc, dm_nb0, dm_nb1, Value.category, List.lookup, p_X6_cancelAll, x_X6_cancelAll, k_X6_cancelAll, dm_cm, upd, vp_updL, dm_ui_1, dm_ui_2, dm_ul_1, dm_ul_2, sp_X1_fillCheapFirst, sp_X9_gather, sp_X6_walk, sp_X6_endOfSteepest, sp_X6_cancelRingTo, sC_0, sC_1, sC_2, sC_3, sC_4, sC_5, sC_6, sC_7, sC_8, sC_9, sC_10, sC_11, sC_12, sC_13, sC_14, sC_15, sC_16, sC_17, sC_18, sC_19, sC_20, sC_21, sC_22, sC_23, sC_24, sC_25, sC_26, sC_27, sC_28, sC_29, sC_30, sC_31, sC_32, sC_33, sC_34, sC_35, sC_36, sC_37, sC_38, sC_39, sC_40, sC_41, sC_42, sC_43, sC_44, sC_45, sC_46, sC_47, sC_48, sC_49, sC_50, sC_51]
    refine ⟨A, mm, lo, hA, hC, hL, ⟨e22, hm⟩, e24, hl, fun lo' f1 f2 => ?_⟩
    have hf0 : ca_fr u (dm_sj u 24 (lF lo')) := ⟨fun _ _ => rfl, fun c hc => by simp at hc; rw [dm_sj_2, if_neg (by omega)]⟩
    have hbal : bal A.n A.K A.b A.e A.s lo' := by
      intro v hv
      rw [A.dv_am, dv_cg f2, ← A.dv_am]
      exact hb v hv
    refine loop 300000 0 (by omega) _ lo' _ hf0 rfl ((dm_sj_2).trans (if_neg (by decide)) |>.trans e25) ⟨(406 - 0) * 700 + phC A.K A.b A.e A.c mm lo' (fun _ => 0) 1, ?_, f1, hbal, fun _ => 0, 1, -1000000, 0, by omega, by omega, by omega, fun w hw _ => ?_, ?_, Nat.le_refl _⟩
    · have hc : phC A.K A.b A.e A.c mm lo' (fun _ => 0) 1 ≤ 2 * A.K := cN_le
      omega
    · have := wr_bd (K := A.K) (c := A.c) (fun l hl => A.c_bd hA hl) hw
      show -1000000 ≤ 1 * wr A.c w + 0 - 0
      omega
    · show (-(-1000000 : Int)) * 1 ≤ 1 * (1000000 * 1)
      omega
  · exact hh.elim
set_option maxRecDepth 100000 in
theorem t_X6_cancelAll (l : Launch) (D : va_G) (cA : Nat → ClassId) (ad : Nat → Nat) : dm_Met l D dm_cl cA ad shC yX6_cancelAll (Cond.code yX6_cancelAll cX6_cancelAll 3 (dm_rt 0) :: dm_tt) ({ frames := 4, cells := 0, slots := 0, locals := 92 } : Room) sp_X6_cancelAll := dm_meth (own := RX6) (X := x_X6_cancelAll) (Sp := k_X6_cancelAll) (prog := p_X6_cancelAll) (by decide +kernel) rfl rfl (dm_FO_s ffX6 [(29, 6, 1), (33, 6, 2)] rfl dm_hT (by decide +kernel)) (dm_IO_s ifX6 jfX6 [(42, 1000000)] [] rfl rfl dm_hT (by decide +kernel) (by decide +kernel)) soC (dm_MO_of (List.forall_mem_cons.mpr ⟨dm_M1_of (t_X1_fillCheapFirst l D cA ad) dm_hT (dm_mem [685, 68, 682] (by decide +kernel) (by decide +kernel)) (by decide) (by decide +kernel) (Or.inr ⟨by decide, dm_mem [683, 684] (by decide +kernel) (by decide +kernel), rfl⟩), List.forall_mem_cons.mpr ⟨dm_M1_of (t_X9_gather l D cA ad) dm_hT (dm_mem [691, 69, 688] (by decide +kernel) (by decide +kernel)) (by decide) (by decide +kernel) (Or.inr ⟨by decide, dm_mem [689, 690] (by decide +kernel) (by decide +kernel), rfl⟩), List.forall_mem_cons.mpr ⟨dm_M1_of (t_X6_walk l D cA ad) dm_hT (dm_mem [713, 73, 710] (by decide +kernel) (by decide +kernel)) (by decide) (by decide +kernel) (Or.inr ⟨by decide, dm_mem [712, 18] (by decide +kernel) (by decide +kernel), rfl⟩), List.forall_mem_cons.mpr ⟨dm_M1_of (t_X6_endOfSteepest l D cA ad) dm_hT (dm_mem [722, 73, 719] (by decide +kernel) (by decide +kernel)) (by decide) (by decide +kernel) (Or.inr ⟨by decide, dm_mem [721, 20] (by decide +kernel) (by decide +kernel), rfl⟩), List.forall_mem_cons.mpr ⟨dm_M1_of (t_X6_cancelRingTo l D cA ad) dm_hT (dm_mem [734, 73, 731] (by decide +kernel) (by decide +kernel)) (by decide) (by decide +kernel) (Or.inr ⟨by decide, dm_mem [733, 23] (by decide +kernel) (by decide +kernel), rfl⟩), fun _ h => absurd h List.not_mem_nil⟩⟩⟩⟩⟩)) v_X6_cancelAll u_X6_cancelAll
