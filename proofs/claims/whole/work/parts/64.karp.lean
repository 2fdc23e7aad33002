/-! ===== rings of the least mean: Karp's table gives prices, and every way of its walk is tight ===== -/
/-- least of W * D k v - k * F over k below m -/
def kpi (D : Nat → Nat → Int) (W F : Int) (v : Nat) : Nat → Int
  | 0 => 0
  | m + 1 => if D m v ≠ fAR ∧ W * D m v - m * F < kpi D W F v m then W * D m v - m * F else kpi D W F v m
theorem kpi_le {D : Nat → Nat → Int} {W F : Int} {v : Nat} : ∀ {m k : Nat}, k < m → D k v ≠ fAR → kpi D W F v m ≤ W * D k v - k * F
  | 0, k, hk, _ => absurd hk (Nat.not_lt_zero _)
  | m + 1, k, hk, hd => by
    show (if D m v ≠ fAR ∧ W * D m v - m * F < kpi D W F v m then W * D m v - m * F else kpi D W F v m) ≤ _
    by_cases q : D m v ≠ fAR ∧ W * D m v - m * F < kpi D W F v m
    · rw [if_pos q]
      rcases Nat.lt_or_ge k m with y | y
      · have := kpi_le (W := W) (F := F) y hd
        omega
      · rw [show k = m by omega]; exact Int.le_refl _
    · rw [if_neg q]
      rcases Nat.lt_or_ge k m with y | y
      · exact kpi_le y hd
      · have e : k = m := by omega
        subst e
        rcases Int.lt_or_le (W * D k v - k * F) (kpi D W F v k) with z | z
        · exact absurd ⟨hd, z⟩ q
        · exact z
theorem kpi_at {D : Nat → Nat → Int} {W F : Int} {v : Nat} (h0 : D 0 v = 0) : ∀ {m : Nat}, 1 ≤ m → ∃ k, k < m ∧ D k v ≠ fAR ∧ kpi D W F v m = W * D k v - k * F
  | 0, h => absurd h (by decide)
  | m + 1, _ => by
    by_cases q : D m v ≠ fAR ∧ W * D m v - m * F < kpi D W F v m
    · refine ⟨m, by omega, q.1, ?_⟩
      show (if D m v ≠ fAR ∧ W * D m v - m * F < kpi D W F v m then W * D m v - m * F else kpi D W F v m) = _
      rw [if_pos q]
    · have e : kpi D W F v (m + 1) = kpi D W F v m := if_neg q
      rcases Nat.eq_zero_or_pos m with y | y
      · subst y
        refine ⟨0, by omega, by rw [h0]; unfold fAR; omega, ?_⟩
        rw [e, h0]
        show (0 : Int) = W * 0 - ((0 : Nat) : Int) * F
        simp
      · obtain ⟨k, k1, k2, k3⟩ := kpi_at (W := W) (F := F) h0 y
        exact ⟨k, by omega, k2, by rw [e, k3]⟩
section
variable {n C : Nat} {bg en : Nat → Nat} {wt : Nat → Int} {D : Nat → Nat → Int} {W F : Int}
/-- the table -/
def kT (n C : Nat) (bg en : Nat → Nat) (wt : Nat → Int) (D : Nat → Nat → Int) : Prop := (∀ v, v < n → D 0 v = 0) ∧ (∀ k j, k < n → j < C → D k (bg j) ≠ fAR → D (k + 1) (en j) ≠ fAR ∧ D (k + 1) (en j) ≤ D k (bg j) + wt j)
theorem k_feas (hT : kT n C bg en wt D) (hb : ∀ j, j < C → bg j < n ∧ en j < n) (hn : 1 ≤ n) (hW : 0 ≤ W) (hA : ∀ v, v < n → D n v ≠ fAR → ∃ k, k < n ∧ D k v ≠ fAR ∧ F * (n - k) ≤ W * (D n v - D k v)) {j : Nat} (hj : j < C) : kpi D W F (en j) n ≤ kpi D W F (bg j) n + W * wt j - F := by
  obtain ⟨b1, b2⟩ := hb j hj
  obtain ⟨k, k1, k2, k3⟩ := kpi_at (D := D) (W := W) (F := F) (hT.1 _ b1) hn
  obtain ⟨d1, d2⟩ := hT.2 k j k1 hj k2
  have d3 : W * D (k + 1) (en j) ≤ W * (D k (bg j) + wt j) := Int.mul_le_mul_of_nonneg_left d2 hW
  rw [Int.mul_add] at d3
  rw [k3]
  rcases Nat.lt_or_ge (k + 1) n with y | y
  · have h1 := kpi_le (W := W) (F := F) y d1
    have e1 : ((k + 1 : Nat) : Int) * F = k * F + F := by rw [Int.natCast_add, Int.add_mul]; simp
    omega
  · have e : k + 1 = n := by omega
    rw [e] at d1 d3
    obtain ⟨k', a1, a2, a3⟩ := hA _ b2 d1
    have h1 := kpi_le (W := W) (F := F) a1 a2
    rw [Int.mul_sub, Int.mul_sub] at a3
    have e1 : F * (n : Int) = k * F + F := by
      rw [← e, Int.natCast_add, Int.mul_add, Int.mul_comm]; simp
    have e2 : F * (k' : Int) = k' * F := Int.mul_comm _ _
    omega
/-- along the walk that the table tells every way is tight -/
theorem k_tight (hT : kT n C bg en wt D) (hb : ∀ j, j < C → bg j < n ∧ en j < n) (hn : 1 ≤ n) (hW : 0 ≤ W) (hA : ∀ v, v < n → D n v ≠ fAR → ∃ k, k < n ∧ D k v ≠ fAR ∧ F * (n - k) ≤ W * (D n v - D k v)) {x : Nat → Nat} {q : Nat → Nat} (hx : ∀ i, i < n → q i < C ∧ bg (q i) = x i ∧ en (q i) = x (i + 1) ∧ D i (x i) ≠ fAR ∧ D (i + 1) (x (i + 1)) = D i (x i) + wt (q i)) (hB : ∀ k, k < n → D k (x n) ≠ fAR → W * (D n (x n) - D k (x n)) ≤ F * (n - k)) : ∀ i, i < n → W * wt (q i) + kpi D W F (bg (q i)) n - kpi D W F (en (q i)) n = F := by
  have hfe : ∀ i, i < n → kpi D W F (x (i + 1)) n ≤ kpi D W F (x i) n + W * wt (q i) - F := by
    intro i hi
    obtain ⟨h1, h2, h3, h4, h5⟩ := hx i hi
    have := k_feas hT hb hn hW hA h1
    rw [h2, h3] at this
    exact this
  have hph : ∀ i, i < n → (W * D (i + 1) (x (i + 1)) - ((i + 1 : Nat) : Int) * F) = (W * D i (x i) - i * F) + W * wt (q i) - F := by
    intro i hi
    obtain ⟨h1, h2, h3, h4, h5⟩ := hx i hi
    rw [h5, Int.mul_add, Int.natCast_add, Int.add_mul]
    simp
    omega
  have hge : ∀ i, i < n → kpi D W F (x i) n ≤ W * D i (x i) - i * F := fun i hi => kpi_le hi (hx i hi).2.2.2.1
  have hend : W * D n (x n) - n * F ≤ kpi D W F (x n) n := by
    have hxn : x n < n := by
      have h1 := hx (n - 1) (by omega)
      rw [show n - 1 + 1 = n by omega] at h1
      have := (hb _ h1.1).2
      rw [h1.2.2.1] at this
      exact this
    obtain ⟨k, k1, k2, k3⟩ := kpi_at (D := D) (W := W) (F := F) (hT.1 _ hxn) hn
    have := hB k k1 k2
    rw [Int.mul_sub, Int.mul_sub] at this
    rw [k3]
    have e1 : F * (n : Int) = n * F := Int.mul_comm _ _
    have e2 : F * (k : Int) = k * F := Int.mul_comm _ _
    omega
  have hle : ∀ m i, i + m = n → W * D i (x i) - i * F ≤ kpi D W F (x i) n := by
    intro m
    induction m with
    | zero => intro i hi; rw [show i = n by omega]; exact hend
    | succ m ih =>
      intro i hi
      have h1 := ih (i + 1) (by omega)
      have h2 := hph i (by omega)
      have h3 := hfe i (by omega)
      omega
  intro i hi
  obtain ⟨h1, h2, h3, h4, h5⟩ := hx i hi
  have g1 := hle (n - i) i (by omega)
  have g2 := hge i hi
  have g3 := hle (n - (i + 1)) (i + 1) (by omega)
  have g4 := hph i hi
  have g5 := hfe i hi
  rw [h2, h3]
  omega
end
