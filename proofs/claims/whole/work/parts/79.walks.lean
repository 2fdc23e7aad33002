/-! ===== walks; where no prices are, a ring falls ===== -/
theorem pigeon : ∀ (n : Nat) (f : Nat → Nat), (∀ i, i ≤ n → f i < n) → ∃ i j, i < j ∧ j ≤ n ∧ f i = f j
  | 0, f, h => absurd (h 0 (Nat.le_refl _)) (Nat.not_lt_zero _)
  | n + 1, f, h => by
    by_cases q : ∃ i, i ≤ n ∧ f i = f (n + 1)
    · obtain ⟨i, h1, h2⟩ := q
      exact ⟨i, n + 1, by omega, Nat.le_refl _, h2⟩
    · have hne : ∀ i, i ≤ n → f i ≠ f (n + 1) := fun i hi z => q ⟨i, hi, z⟩
      obtain ⟨i, j, h1, h2, h3⟩ := pigeon n (fun i => if f i = n then f (n + 1) else f i) (fun i hi => by
        have g1 := h i (by omega)
        have g2 := h (n + 1) (Nat.le_refl _)
        have g3 := hne i hi
        show (if f i = n then f (n + 1) else f i) < n
        split <;> omega)
      refine ⟨i, j, h1, by omega, ?_⟩
      have g1 := hne i (by omega)
      have g2 := hne j (by omega)
      have h4 : (if f i = n then f (n + 1) else f i) = if f j = n then f (n + 1) else f j := h3
      split at h4 <;> split at h4 <;> omega
theorem low_ex {P : Nat → Prop} : ∀ {k a : Nat}, a ≤ k → P a → ∃ a, isLow P a
  | 0, a, ha, h => ⟨a, h, fun i hi => by omega⟩
  | k + 1, a, ha, h => by
    by_cases q : ∃ i, i < a ∧ P i
    · obtain ⟨i, h1, h2⟩ := q
      exact low_ex (k := k) (by omega) h2
    · exact ⟨a, h, fun i hi z => q ⟨i, hi, z⟩⟩
section
variable {n M : Nat} {fr tr : Nat → Nat} {wt : Nat → Int} {on : Nat → Bool}
theorem wkA_le {f : Nat → Int} {v a : Nat} (hB : ∀ v, f v = fAR ∨ f v < fAR - 1000000) (hw : wt a ≤ 1000000) (ho : on a = true) (hf : fr a = v) (hd : f (tr a) ≠ fAR) : ∀ m, a < m → (∀ i, i < m → on i = true → f (tr i) ≠ fAR → f (tr i) + wt i ≠ fAR) → wkA fr tr wt on f v m ≠ fAR ∧ wkA fr tr wt on f v m ≤ f (tr a) + wt a
  | 0, h, _ => absurd h (Nat.not_lt_zero _)
  | m + 1, h, hne => by
    rw [wkA_s]
    by_cases q : on m = true ∧ fr m = v ∧ f (tr m) ≠ fAR ∧ f (tr m) + wt m < wkA fr tr wt on f v m
    · rw [if_pos q]
      refine ⟨hne m (by omega) q.1 q.2.2.1, ?_⟩
      rcases Nat.lt_or_ge a m with y | y
      · have := wkA_le hB hw ho hf hd m y (fun i hi => hne i (by omega))
        omega
      · rw [show a = m by omega]; exact Int.le_refl _
    · rw [if_neg q]
      rcases Nat.lt_or_ge a m with y | y
      · exact wkA_le hB hw ho hf hd m y (fun i hi => hne i (by omega))
      · have e : a = m := by omega
        subst e
        have h1 : ¬ (f (tr a) + wt a < wkA fr tr wt on f v a) := fun z => q ⟨ho, hf, hd, z⟩
        have h2 := (hB (tr a)).resolve_left hd
        exact ⟨fun z => by rw [z] at h1; omega, by omega⟩
theorem wkA_att {f : Nat → Int} {v : Nat} : ∀ m, wkA fr tr wt on f v m ≠ fAR → ∃ a, a < m ∧ on a = true ∧ fr a = v ∧ f (tr a) ≠ fAR ∧ wkA fr tr wt on f v m = f (tr a) + wt a
  | 0, h => absurd rfl h
  | m + 1, h => by
    rw [wkA_s] at h ⊢
    by_cases q : on m = true ∧ fr m = v ∧ f (tr m) ≠ fAR ∧ f (tr m) + wt m < wkA fr tr wt on f v m
    · rw [if_pos q]
      exact ⟨m, by omega, q.1, q.2.1, q.2.2.1, rfl⟩
    · rw [if_neg q] at h ⊢
      obtain ⟨a, a1, a2⟩ := wkA_att m h
      exact ⟨a, by omega, a2⟩
/-- tables of walks: the first row f0, the next ones out of it -/
def wkT (M : Nat) (fr tr : Nat → Nat) (wt : Nat → Int) (on : Nat → Bool) (f0 : Nat → Int) : Nat → Nat → Int
  | 0 => f0
  | k + 1 => fun v => wkA fr tr wt on (wkT M fr tr wt on f0 k) v M
theorem wk_T {g : Nat} : ∀ k, wk M fr tr wt on g k = wkT M fr tr wt on (fun v => if v = g then 0 else fAR) k
  | 0 => rfl
  | k + 1 => by
    funext v
    show wkA fr tr wt on (wk M fr tr wt on g k) v M = wkA fr tr wt on (wkT M fr tr wt on (fun v => if v = g then 0 else fAR) k) v M
    rw [wk_T k]
theorem wkT_b {f0 : Nat → Int} (hf : dF n M fr tr wt on) (h0 : ∀ v, f0 v = fAR ∨ f0 v = 0) : ∀ k v, wkT M fr tr wt on f0 k v = fAR ∨ (-(1000000 * k) ≤ wkT M fr tr wt on f0 k v ∧ wkT M fr tr wt on f0 k v ≤ 1000000 * k)
  | 0, v => by
    rcases h0 v with y | y
    · exact Or.inl y
    · refine Or.inr ?_
      show -(1000000 * ((0 : Nat) : Int)) ≤ f0 v ∧ f0 v ≤ 1000000 * ((0 : Nat) : Int)
      omega
  | k + 1, v => by
    have ih := wkT_b hf h0 k
    have := wkA_b (v := v) (B := 1000000 * k) hf (by omega) ih M (Nat.le_refl _)
    rcases this with y | y
    · exact Or.inl y
    · refine Or.inr ?_
      show -(1000000 * ((k + 1 : Nat) : Int)) ≤ wkA fr tr wt on (wkT M fr tr wt on f0 k) v M ∧ wkA fr tr wt on (wkT M fr tr wt on f0 k) v M ≤ 1000000 * ((k + 1 : Nat) : Int)
      omega
/-- a walk of k arcs q from v; where it is behind i of them -/
def nx (tr : Nat → Nat) (q : Nat → Nat) (v : Nat) : Nat → Nat
  | 0 => v
  | i + 1 => tr (q i)
def isW (M : Nat) (fr tr : Nat → Nat) (on : Nat → Bool) (k v : Nat) (q : Nat → Nat) : Prop := ∀ i, i < k → q i < M ∧ on (q i) = true ∧ fr (q i) = nx tr q v i
theorem sI_shift {f : Nat → Int} : ∀ k, sI f (k + 1) = f 0 + sI (fun i => f (i + 1)) k
  | 0 => by show 0 + f 0 = f 0 + 0; omega
  | k + 1 => by
    have := sI_shift (f := f) k
    show sI f (k + 1) + f (k + 1) = f 0 + (sI (fun i => f (i + 1)) k + f (k + 1))
    omega
theorem isW_tail {k v : Nat} {q : Nat → Nat} (h : isW M fr tr on (k + 1) v q) : isW M fr tr on k (tr (q 0)) (fun i => q (i + 1)) ∧ ∀ i, nx tr (fun i => q (i + 1)) (tr (q 0)) i = nx tr q v (i + 1) := by
  have hx : ∀ i, nx tr (fun i => q (i + 1)) (tr (q 0)) i = nx tr q v (i + 1) := by
    intro i
    cases i <;> rfl
  refine ⟨fun i hi => ?_, hx⟩
  obtain ⟨h1, h2, h3⟩ := h (i + 1) (by omega)
  exact ⟨h1, h2, by rw [hx i]; exact h3⟩
theorem wkT_le {f0 : Nat → Int} (hf : dF n M fr tr wt on) (h0 : ∀ v, f0 v = fAR ∨ f0 v = 0) : ∀ (k v : Nat) (q : Nat → Nat), k ≤ 100 → isW M fr tr on k v q → f0 (nx tr q v k) = 0 → wkT M fr tr wt on f0 k v ≠ fAR ∧ wkT M fr tr wt on f0 k v ≤ sI (fun i => wt (q i)) k
  | 0, v, q, _, _, hz => by
    have hz2 : f0 v = 0 := hz
    show f0 v ≠ fAR ∧ f0 v ≤ 0
    rw [hz2]
    exact ⟨by unfold fAR; omega, Int.le_refl _⟩
  | k + 1, v, q, hk, hq, hz => by
    obtain ⟨t1, t2⟩ := isW_tail hq
    obtain ⟨i1, i2⟩ := wkT_le hf h0 k _ _ (by omega) t1 (by rw [t2 k]; exact hz)
    obtain ⟨q1, q2, q3⟩ := hq 0 (by omega)
    have hB := wkT_b hf h0 k
    have := wkA_le (f := wkT M fr tr wt on f0 k) (v := v) (a := q 0) (fun v => by
      rcases hB v with y | y
      · exact Or.inl y
      · exact Or.inr (by unfold fAR; omega)) (hf (q 0) q1 q2).2.2 q2 q3 i1 M q1 (fun i hi ho hd => by
      have g1 := (hB (tr i)).resolve_left hd
      have g2 := (hf i hi ho).2
      unfold fAR; omega)
    refine ⟨this.1, ?_⟩
    have h2 := this.2
    rw [sI_shift]
    show wkA fr tr wt on (wkT M fr tr wt on f0 k) v M ≤ _
    omega
theorem wkT_att {f0 : Nat → Int} (h0 : ∀ v, f0 v = fAR ∨ f0 v = 0) : ∀ (k v : Nat), wkT M fr tr wt on f0 k v ≠ fAR → ∃ q, isW M fr tr on k v q ∧ f0 (nx tr q v k) = 0 ∧ sI (fun i => wt (q i)) k = wkT M fr tr wt on f0 k v
  | 0, v, h => by
    have hz : f0 v = 0 := (h0 v).resolve_left h
    exact ⟨fun _ => 0, fun i hi => absurd hi (Nat.not_lt_zero _), hz, hz.symm⟩
  | k + 1, v, h => by
    obtain ⟨a, a1, a2, a3, a4, a5⟩ := wkA_att (f := wkT M fr tr wt on f0 k) M h
    obtain ⟨q, b1, b2, b3⟩ := wkT_att h0 k (tr a) a4
    refine ⟨fun i => if i = 0 then a else q (i - 1), fun i hi => ?_, ?_, ?_⟩
    · cases i with
      | zero => exact ⟨a1, a2, a3⟩
      | succ i =>
        obtain ⟨c1, c2, c3⟩ := b1 i (by omega)
        have e1 : (if i + 1 = 0 then a else q (i + 1 - 1)) = q i := if_neg (by omega)
        show (if i + 1 = 0 then a else q (i + 1 - 1)) < M ∧ on (if i + 1 = 0 then a else q (i + 1 - 1)) = true ∧ fr (if i + 1 = 0 then a else q (i + 1 - 1)) = tr (if i = 0 then a else q (i - 1))
        rw [e1]
        refine ⟨c1, c2, ?_⟩
        cases i with
        | zero => exact c3
        | succ i => rw [if_neg (by omega)]; exact c3
    · cases k with
      | zero => exact b2
      | succ k =>
        show f0 (tr (if k + 1 = 0 then a else q (k + 1 - 1))) = 0
        rw [if_neg (by omega)]; exact b2
    · rw [sI_shift]
      show wt a + sI (fun i => wt (if i + 1 = 0 then a else q (i + 1 - 1))) k = wkA fr tr wt on (wkT M fr tr wt on f0 k) v M
      have e1 : sI (fun i => wt (if i + 1 = 0 then a else q (i + 1 - 1))) k = sI (fun i => wt (q i)) k := sI_cg (fun i _ => by
        show wt (if i + 1 = 0 then a else q (i + 1 - 1)) = wt (q i)
        rw [if_neg (by omega)]; rfl)
      rw [e1, b3, a5]; omega
end
