/-! ===== counting: where the ways of each node begin ===== -/
theorem cN_s {P : Nat → Bool} {n : Nat} : cN P (n + 1) = cN P n + (if P n then 1 else 0) := rfl
theorem cN_at {P : Nat → Bool} : ∀ {N r : Nat}, r < cN P N → ∃ w, w < N ∧ P w = true ∧ cN P w = r
  | 0, r, h => absurd h (Nat.not_lt_zero _)
  | N + 1, r, h => by
    rw [cN_s] at h
    rcases Nat.lt_or_ge r (cN P N) with y | y
    · obtain ⟨w, a, b, c⟩ := cN_at y
      exact ⟨w, by omega, b, c⟩
    · by_cases e : P N = true
      · rw [if_pos e] at h
        exact ⟨N, by omega, e, by omega⟩
      · rw [if_neg e] at h; omega
theorem cN_lt2 {P : Nat → Bool} {w : Nat} (hp : P w = true) : ∀ {N : Nat}, w < N → cN P w + 1 ≤ cN P N
  | 0, h => absurd h (Nat.not_lt_zero _)
  | N + 1, h => by
    rw [cN_s]
    rcases Nat.lt_or_ge w N with y | y
    · have := cN_lt2 hp y; omega
    · rw [show w = N by omega] at hp ⊢
      rw [if_pos hp]; omega
/-- how many ways below N begin at v; how many at nodes below v -/
def kq (g : Nat → Nat) (N v : Nat) : Nat := cN (fun w => decide (g w = v)) N
def kp (g : Nat → Nat) (N : Nat) : Nat → Nat
  | 0 => 0
  | v + 1 => kp g N v + kq g N v
def kw (g : Nat → Nat) (N w : Nat) : Nat := kp g N (g w) + kq g w (g w)
theorem kp_mono {g : Nat → Nat} {N i : Nat} : ∀ k, kp g N i ≤ kp g N (i + k)
  | 0 => Nat.le_refl _
  | k + 1 => by
    have := kp_mono (g := g) (N := N) (i := i) k
    show kp g N i ≤ kp g N (i + k) + kq g N (i + k)
    omega
theorem kw_in {g : Nat → Nat} {N w : Nat} (h : w < N) : kp g N (g w) ≤ kw g N w ∧ kw g N w < kp g N (g w + 1) := by
  have := cN_lt2 (P := fun x => decide (g x = g w)) (w := w) (by simp) h
  show kp g N (g w) ≤ kp g N (g w) + kq g w (g w) ∧ kp g N (g w) + kq g w (g w) < kp g N (g w) + kq g N (g w)
  unfold kq
  omega
theorem kw_inj {g : Nat → Nat} {N w w' : Nat} (h : w < N) (h' : w' < N) (he : kw g N w = kw g N w') : w = w' := by
  obtain ⟨a1, a2⟩ := kw_in (g := g) h
  obtain ⟨b1, b2⟩ := kw_in (g := g) h'
  rcases Nat.lt_trichotomy (g w) (g w') with y | y | y
  · have := kp_mono (g := g) (N := N) (i := g w + 1) (g w' - (g w + 1))
    rw [show g w + 1 + (g w' - (g w + 1)) = g w' by omega] at this
    omega
  · unfold kw at he
    rw [y] at he
    rcases Nat.lt_trichotomy w w' with z | z | z
    · have := cN_lt2 (P := fun x => decide (g x = g w')) (w := w) (by simp [y]) z
      unfold kq at he; omega
    · exact z
    · have := cN_lt2 (P := fun x => decide (g x = g w')) (w := w') (by simp) z
      unfold kq at he; omega
  · have := kp_mono (g := g) (N := N) (i := g w' + 1) (g w - (g w' + 1))
    rw [show g w' + 1 + (g w - (g w' + 1)) = g w by omega] at this
    omega
theorem kw_sur {g : Nat → Nat} {N v t : Nat} (h1 : kp g N v ≤ t) (h2 : t < kp g N (v + 1)) : ∃ w, w < N ∧ g w = v ∧ kw g N w = t := by
  have h3 : t - kp g N v < cN (fun w => decide (g w = v)) N := by
    have h4 : kp g N (v + 1) = kp g N v + kq g N v := rfl
    unfold kq at h4
    omega
  obtain ⟨w, a, b, c⟩ := cN_at h3
  have e : g w = v := of_decide_eq_true b
  refine ⟨w, a, e, ?_⟩
  unfold kw kq
  rw [e, c]
  omega
theorem kp_all {g : Nat → Nat} {V : Nat} : ∀ {N : Nat}, (∀ w, w < N → g w < V) → kp g N V = N
  | 0, _ => by
    have h0 : ∀ v, kp g 0 v = 0 := by
      intro v
      induction v with
      | zero => rfl
      | succ v ih => show kp g 0 v + kq g 0 v = 0; rw [ih]; rfl
    exact h0 V
  | N + 1, h => by
    have ih := kp_all (g := g) (V := V) (N := N) (fun w hw => h w (by omega))
    have h1 : ∀ v, kp g (N + 1) v = kp g N v + (if g N < v then 1 else 0) := by
      intro v
      induction v with
      | zero => rfl
      | succ v ih2 =>
        show kp g (N + 1) v + kq g (N + 1) v = kp g N v + kq g N v + _
        rw [ih2]
        unfold kq
        rw [cN_s]
        by_cases e1 : g N < v
        · rw [if_pos e1, if_neg (by simp; omega), if_pos (by omega)]; omega
        · rw [if_neg e1]
          by_cases e2 : g N = v
          · rw [if_pos (by simp [e2]), if_pos (by omega)]; omega
          · rw [if_neg (by simp [e2]), if_neg (by omega)]; omega
    rw [h1, ih, if_pos (h N (by omega))]
