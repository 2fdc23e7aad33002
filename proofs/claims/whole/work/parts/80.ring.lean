/-! ===== where no prices are along ENDLESS arcs, THE RING is there ===== -/
theorem fw_T {A : AN} {g k : Nat} : fw A g k = wkT A.M A.fr A.tr A.lr A.en (fun v => if v = g then 0 else fAR) k := wk_T k
theorem f0_ok {g : Nat} : ∀ v, (fun v => if v = g then 0 else fAR) v = fAR ∨ (fun v => if v = g then (0 : Int) else fAR) v = 0 := by
  intro v
  by_cases z : v = g
  · exact Or.inr (if_pos z)
  · exact Or.inl (if_neg z)
theorem neg_walk {A : AN} (hA : A.ok) (h : ∀ U, ¬ A.nor U) : ∃ L g, 1 ≤ L ∧ L ≤ A.n ∧ g < A.n ∧ fw A g L g < 0 := by
  obtain ⟨hn, hM⟩ := hA.1
  have hf := AN.dFe hA
  have hn1 : 1 ≤ A.n := by
    rcases Nat.eq_zero_or_pos A.n with y | y
    · exfalso
      refine h (fun _ => 0) (fun a ha _ => ?_)
      have := (hA.2.1 a ha).1.1
      omega
    · exact y
  have h0 : ∀ v, (fun _ : Nat => (0 : Int)) v = fAR ∨ (fun _ : Nat => (0 : Int)) v = 0 := fun _ => Or.inr rfl
  have hB := wkT_b (f0 := fun _ => 0) hf h0
  generalize hD : wkT A.M A.fr A.tr A.lr A.en (fun _ => 0) = D at hB
  have hv : ∃ v, v < A.n ∧ D A.n v ≠ fAR ∧ ∀ k, k < A.n → D k v ≠ fAR → D A.n v < D k v := by
    refine Classical.byContradiction fun hc => ?_
    have hk : ∀ v, v < A.n → D A.n v ≠ fAR → ∃ k, k < A.n ∧ D k v ≠ fAR ∧ (0 : Int) * (A.n - k) ≤ 1 * (D A.n v - D k v) := by
      intro v hv hd
      refine Classical.byContradiction fun hc2 => hc ⟨v, hv, hd, fun k hk hdk => ?_⟩
      rcases Int.lt_or_le (D A.n v) (D k v) with y | y
      · exact y
      · exact absurd ⟨k, hk, hdk, by omega⟩ hc2
    refine h (fun v => -kpi D 1 0 v A.n) (fun a ha ho => ?_)
    obtain ⟨⟨f1, f2⟩, f3⟩ := hf a ha ho
    have := k_feas (n := A.n) (C := 1) (bg := fun _ => A.tr a) (en := fun _ => A.fr a) (wt := fun _ => A.lr a) (D := D) (W := 1) (F := 0) (j := 0) ⟨fun v _ => by rw [← hD]; rfl, fun k j hk2 _ hd => by
      have e1 : D (k + 1) (A.fr a) = wkA A.fr A.tr A.lr A.en (D k) (A.fr a) A.M := by rw [← hD]; rfl
      have hd2 : D k (A.tr a) ≠ fAR := hd
      show D (k + 1) (A.fr a) ≠ fAR ∧ D (k + 1) (A.fr a) ≤ D k (A.tr a) + A.lr a
      rw [e1]
      exact wkA_le (f := D k) (fun v => by
        rcases hB k v with y | y
        · exact Or.inl y
        · exact Or.inr (by unfold fAR; omega)) f3.2 ho rfl hd2 A.M ha (fun i hi hoi hdi => by
        have g1 := (hB k (A.tr i)).resolve_left hdi
        have g2 := (hf i hi hoi).2
        unfold fAR; omega)⟩ (fun j _ => ⟨f2, f1⟩) hn1 (by omega) hk (by omega)
    have h2 : kpi D 1 0 (A.fr a) A.n ≤ kpi D 1 0 (A.tr a) A.n + 1 * A.lr a - 0 := this
    show -kpi D 1 0 (A.tr a) A.n ≤ -kpi D 1 0 (A.fr a) A.n + A.lr a
    omega
  obtain ⟨v, hvn, hd, hmin⟩ := hv
  rw [← hD] at hd
  obtain ⟨q, q1, -, q3⟩ := wkT_att (f0 := fun _ => 0) h0 A.n v hd
  rw [hD] at q3
  have hxn : ∀ i, i ≤ A.n → nx A.tr q v i < A.n := by
    intro i hi
    cases i with
    | zero => exact hvn
    | succ i => exact (hf _ (q1 i (by omega)).1 (q1 i (by omega)).2.1).1.2
  obtain ⟨i, j, hij, hj, hx⟩ := pigeon A.n (nx A.tr q v) hxn
  have s1 : sI (fun m => A.lr (q m)) A.n = sI (fun m => A.lr (q m)) i + (sI (fun m => A.lr (q (i + m))) (j - i) + sI (fun m => A.lr (q (j + m))) (A.n - j)) := by
    have e1 := sI_app (f := fun m => A.lr (q m)) (i := i) (k := A.n - i)
    rw [show i + (A.n - i) = A.n by omega] at e1
    have e2 := sI_app (f := fun m => A.lr (q (i + m))) (i := j - i) (k := A.n - j)
    rw [show j - i + (A.n - j) = A.n - i by omega] at e2
    have e3 : sI (fun m => A.lr (q (i + (j - i + m)))) (A.n - j) = sI (fun m => A.lr (q (j + m))) (A.n - j) := sI_cg (fun m _ => by
      show A.lr (q (i + (j - i + m))) = A.lr (q (j + m))
      rw [show i + (j - i + m) = j + m by omega])
    rw [e1, e2, e3]
  -- the walk without the ring
  have hw2 : isW A.M A.fr A.tr A.en (i + (A.n - j)) v (fun m => if m < i then q m else q (m + (j - i))) := by
    have hnx : ∀ m, m ≤ i → nx A.tr (fun m => if m < i then q m else q (m + (j - i))) v m = nx A.tr q v m := by
      intro m hm
      cases m with
      | zero => rfl
      | succ m =>
        show A.tr (if m < i then q m else q (m + (j - i))) = A.tr (q m)
        rw [if_pos (by omega)]
    intro m hm
    by_cases z : m < i
    · obtain ⟨c1, c2, c3⟩ := q1 m (by omega)
      show (if m < i then q m else q (m + (j - i))) < A.M ∧ A.en (if m < i then q m else q (m + (j - i))) = true ∧ A.fr (if m < i then q m else q (m + (j - i))) = _
      rw [if_pos z, hnx m (by omega)]
      exact ⟨c1, c2, c3⟩
    · obtain ⟨c1, c2, c3⟩ := q1 (m + (j - i)) (by omega)
      show (if m < i then q m else q (m + (j - i))) < A.M ∧ A.en (if m < i then q m else q (m + (j - i))) = true ∧ A.fr (if m < i then q m else q (m + (j - i))) = _
      rw [if_neg z]
      refine ⟨c1, c2, ?_⟩
      rw [c3]
      by_cases z2 : m = i
      · rw [hnx m (by omega), z2, hx, show i + (j - i) = j by omega]
      · obtain ⟨m', rfl⟩ : ∃ m', m = m' + 1 := ⟨m - 1, by omega⟩
        show nx A.tr q v (m' + 1 + (j - i)) = A.tr (if m' < i then q m' else q (m' + (j - i)))
        rw [if_neg (by omega), show m' + 1 + (j - i) = m' + (j - i) + 1 by omega]
        rfl
  have hle2 := wkT_le (f0 := fun _ => 0) hf h0 (i + (A.n - j)) v _ (by omega) hw2 rfl
  rw [hD] at hle2
  have hlt := hmin (i + (A.n - j)) (by omega) hle2.1
  have s2 : sI (fun m => A.lr (if m < i then q m else q (m + (j - i)))) (i + (A.n - j)) = sI (fun m => A.lr (q m)) i + sI (fun m => A.lr (q (j + m))) (A.n - j) := by
    rw [sI_app]
    congr 1
    · exact sI_cg (fun m hm => by show A.lr (if m < i then q m else q (m + (j - i))) = A.lr (q m); rw [if_pos hm])
    · exact sI_cg (fun m hm => by
        show A.lr (if i + m < i then q (i + m) else q (i + m + (j - i))) = A.lr (q (j + m))
        rw [if_neg (by omega), show i + m + (j - i) = j + m by omega])
  have hcyc : sI (fun m => A.lr (q (i + m))) (j - i) < 0 := by
    have h3 := hle2.2
    have h4 : wkT A.M A.fr A.tr A.lr A.en (fun _ => 0) (i + (A.n - j)) v ≤ sI (fun m => A.lr (q m)) i + sI (fun m => A.lr (q (j + m))) (A.n - j) := by
      rw [← s2, hD]; exact h3
    rw [hD] at h4
    omega
  have hw3 : isW A.M A.fr A.tr A.en (j - i) (nx A.tr q v i) (fun m => q (i + m)) := by
    intro m hm
    obtain ⟨c1, c2, c3⟩ := q1 (i + m) (by omega)
    refine ⟨c1, c2, ?_⟩
    rw [c3]
    cases m with
    | zero => rfl
    | succ m => rfl
  have hend : nx A.tr (fun m => q (i + m)) (nx A.tr q v i) (j - i) = nx A.tr q v i := by
    obtain ⟨d, hd2⟩ : ∃ d, j - i = d + 1 := ⟨j - i - 1, by omega⟩
    rw [hd2]
    show A.tr (q (i + d)) = nx A.tr q v i
    rw [hx, show j = i + d + 1 by omega]
    rfl
  have hle3 := wkT_le (f0 := fun y => if y = nx A.tr q v i then 0 else fAR) hf f0_ok (j - i) (nx A.tr q v i) _ (by omega) hw3 (by rw [hend]; exact if_pos rfl)
  refine ⟨j - i, nx A.tr q v i, by omega, by omega, hxn i (by omega), ?_⟩
  rw [fw_T]
  have := hle3.2
  omega
theorem ring_ex {A : AN} (hA : A.ok) (h : ∀ U, ¬ A.nor U) : ∃ f rq, rqok A f rq := by
  obtain ⟨hn, hM⟩ := hA.1
  have hf := AN.dFe hA
  obtain ⟨L, g0, l1, l2, l3, l4⟩ := neg_walk hA h
  obtain ⟨f, hf1, hf2⟩ := low_ex (P := fun f => 1 ≤ f ∧ ∃ g, g < A.n ∧ fw A g f g < 0) (k := L) (Nat.le_refl _) ⟨l1, g0, l3, l4⟩
  obtain ⟨f1, g, g1, g2⟩ := hf1
  have hfn : f ≤ A.n := by
    rcases Nat.lt_or_ge L f with y | y
    · exact absurd ⟨l1, g0, l3, l4⟩ (hf2 L y)
    · omega
  have hmin : ∀ g s, g < A.n → 1 ≤ s → s < f → 0 ≤ fw A g s g := by
    intro g s h1 h2 h3
    rcases Int.lt_or_le (fw A g s g) 0 with y | y
    · exact absurd ⟨h2, g, h1, y⟩ (hf2 s h3)
    · exact y
  have hstep : ∀ G k v, fw A G (k + 1) v ≠ fAR → ∃ a, a < A.M ∧ A.en a = true ∧ A.fr a = v ∧ fw A G k (A.tr a) ≠ fAR ∧ fw A G (k + 1) v = fw A G k (A.tr a) + A.lr a := fun G k v hd => wkA_att (f := fw A G k) A.M hd
  have hr0 : ∃ a, isLow (rgA A f) a := by
    obtain ⟨k, rfl⟩ : ∃ k, f = k + 1 := ⟨f - 1, by omega⟩
    obtain ⟨a, a1, a2, a3, a4, a5⟩ := hstep g k g (by intro z; rw [z] at g2; unfold fAR at g2; omega)
    refine low_ex (k := a) (Nat.le_refl _) ⟨a1, a2, ?_⟩
    rw [a3, show k + 1 - 1 = k by omega]
    omega
  obtain ⟨r0, hr0⟩ := hr0
  have hB : ∀ G k v, k ≤ 24 → fw A G k v = fAR ∨ (-24000000 ≤ fw A G k v ∧ fw A G k v ≤ 24000000) := by
    intro G k v hk
    rcases wk_b (g := G) hf k v with y | y
    · exact Or.inl y
    · refine Or.inr ?_
      have y2 : -(1000000 * (k : Int)) ≤ fw A G k v ∧ fw A G k v ≤ 1000000 * k := y
      omega
  have hind : ∀ i, i < f → ∃ rq : Nat → Nat, rq 0 = r0 ∧ (∀ i', i' < i → isLow (fun a => a < A.M ∧ A.en a = true ∧ A.fr a = A.tr (rq i') ∧ sI (fun j => A.lr (rq j)) (i' + 1) + A.lr a + fw A (A.fr r0) (f - 2 - i') (A.tr a) < 0) (rq (i' + 1))) ∧ (-(1000000 * ((i + 1 : Nat) : Int)) ≤ sI (fun j => A.lr (rq j)) (i + 1)) ∧ sI (fun j => A.lr (rq j)) (i + 1) + fw A (A.fr r0) (f - 1 - i) (A.tr (rq i)) < 0 := by
    intro i
    induction i with
    | zero =>
      intro _
      refine ⟨fun _ => r0, rfl, fun i' hi' => by omega, ?_, ?_⟩
      · have := (hf r0 hr0.1.1 hr0.1.2.1).2
        show -(1000000 * ((0 + 1 : Nat) : Int)) ≤ 0 + A.lr r0
        omega
      · have := hr0.1.2.2
        show 0 + A.lr r0 + fw A (A.fr r0) (f - 1 - 0) (A.tr r0) < 0
        rw [show f - 1 - 0 = f - 1 by omega]
        omega
    | succ i ih =>
      intro hi
      obtain ⟨rq, b1, b2, b3, b4⟩ := ih (by omega)
      obtain ⟨k, hk⟩ : ∃ k, f - 1 - i = k + 1 := ⟨f - 2 - i, by omega⟩
      rw [hk] at b4
      obtain ⟨a, a1, a2, a3, a4, a5⟩ := hstep (A.fr r0) k (A.tr (rq i)) (by
        intro z
        rw [z] at b4
        unfold fAR at b4
        omega)
      obtain ⟨a', ha'⟩ := low_ex (P := fun a => a < A.M ∧ A.en a = true ∧ A.fr a = A.tr (rq i) ∧ sI (fun j => A.lr (rq j)) (i + 1) + A.lr a + fw A (A.fr r0) (f - 2 - i) (A.tr a) < 0) (k := a) (Nat.le_refl _) ⟨a1, a2, a3, by rw [show f - 2 - i = k by omega]; omega⟩
      have hcg : ∀ m, m ≤ i + 1 → sI (fun j => A.lr (uF rq (i + 1) a' j)) m = sI (fun j => A.lr (rq j)) m := fun m hm => sI_cg (fun j hj => by show A.lr (uF rq (i + 1) a' j) = A.lr (rq j); rw [uF_ne (by omega)])
      have es : sI (fun j => A.lr (uF rq (i + 1) a' j)) (i + 1 + 1) = sI (fun j => A.lr (rq j)) (i + 1) + A.lr a' := by
        show sI (fun j => A.lr (uF rq (i + 1) a' j)) (i + 1) + A.lr (uF rq (i + 1) a' (i + 1)) = _
        rw [hcg _ (Nat.le_refl _), uF_at]
      refine ⟨uF rq (i + 1) a', by rw [uF_ne (by omega)]; exact b1, fun i' hi' => ?_, ?_, ?_⟩
      · by_cases z : i' = i
        · subst z
          rw [uF_at, uF_ne (show i' ≠ i' + 1 by omega), hcg _ (Nat.le_refl _)]
          exact ha'
        · rw [uF_ne (show i' + 1 ≠ i + 1 by omega), uF_ne (show i' ≠ i + 1 by omega), hcg _ (by omega)]
          exact b2 i' (by omega)
      · rw [es]
        have := (hf a' ha'.1.1 ha'.1.2.1).2
        have e9 : ((i + 1 + 1 : Nat) : Int) = ((i + 1 : Nat) : Int) + 1 := by omega
        omega
      · rw [es, uF_at, show f - 1 - (i + 1) = f - 2 - i by omega]
        exact ha'.1.2.2.2
  obtain ⟨rq, c1, c2, c3, c4⟩ := hind (f - 1) (by omega)
  refine ⟨f, rq, ⟨f1, hfn⟩, hmin, ⟨g, g1, g2⟩, by rw [c1]; exact hr0, fun i hi => ?_⟩
  rw [c1]
  exact c2 i (by omega)
