/-! ===== prices along ENDLESS arcs: they come to rest just where there are some ===== -/
section
variable {n C : Nat} {bg en : Nat → Nat} {wt : Nat → Int} {on : Nat → Bool} {V0 E : Nat → Int}
theorem dG_unset (hn : n ≤ 24) (hf : dF n C bg en wt on) (h0 : d0 n V0) (hE : dI n C bg en wt on V0 E) (hr : dR C bg en wt on E) {V : Nat → Int} (hV : dI n C bg en wt on V0 V) : (∀ v, v < n → V v = E v) ∨ cN (fun v => !decide ((dG bg en wt on V C).1 v = E v)) n + 1 ≤ cN (fun v => !decide (V v = E v)) n := by
  by_cases hex : ∃ v, v < n ∧ V v ≠ E v
  · refine Or.inr ?_
    obtain ⟨v, hv, hne⟩ := hex
    have hI := dG_I hf hV C (Nat.le_refl _)
    have hge := dI_le hn hf hf (fun j hj ho => ⟨j, hj, ho, rfl, rfl, rfl⟩) h0 hI hE hr
    have hdn : ∀ v, (dG bg en wt on V C).1 v ≤ V v := fun v => by
      have := dG_dn (bg := bg) (en := en) (wt := wt) (on := on) (V := V) (i := 0) C v
      rw [Nat.zero_add] at this
      exact this
    have hEf := dI_fr h0 hE
    have hm : ∀ v, v < n → V v = E v → (dG bg en wt on V C).1 v = E v := by
      intro v hv e
      have h1 := hdn v
      by_cases z : (dG bg en wt on V C).1 v = fAR
      · have := hEf v hv; omega
      · have := (hge v hv z).2; omega
    obtain ⟨j, hj, ho, j1, j2, j3, j4⟩ := dI_next hn hf h0 hV hE hr hv hne
    obtain ⟨⟨f1, f2⟩, -⟩ := hf j hj ho
    have h4 := dG_way hf h0 hV hj ho (by rw [j2]; exact j1)
    have h5 : (dG bg en wt on V C).1 (en j) = E (en j) := by
      by_cases y : (dG bg en wt on V C).1 (en j) = fAR
      · have := hEf (en j) f2
        rw [j2] at h4; omega
      · have := (hge _ f2 y).2
        rw [j2] at h4; omega
    exact cN_lt (P := fun v => !decide ((dG bg en wt on V C).1 v = E v)) (Q := fun v => !decide (V v = E v)) (n := n) (k := en j) (fun v hv e => by
      simp at e ⊢
      exact fun y => e (hm v hv y)) f2 (by simp [h5]) (by simp [j3])
  · refine Or.inl (fun v hv => ?_)
    by_cases z : V v = E v
    · exact z
    · exact absurd ⟨v, hv, z⟩ hex
/-- a pass over values that are at their end changes nothing -/
theorem dG_rest (hf : dF n C bg en wt on) (hr : dR C bg en wt on E) {V : Nat → Int} (h : ∀ v, v < n → V v = E v) : ∀ j, j ≤ C → dG bg en wt on V j = (V, false)
  | 0, _ => rfl
  | j + 1, hj => by
    have ih := dG_rest hf hr h j (by omega)
    rw [dG_s, ih, if_neg]
    rintro ⟨q1, q2, q3⟩
    obtain ⟨⟨f1, f2⟩, -⟩ := hf j (by omega) q1
    have q2' : ¬ V (bg j) = fAR := q2
    have q3' : V (bg j) + wt j < V (en j) := q3
    rw [h _ f1] at q2' q3'
    rw [h _ f2] at q3'
    have := hr j (by omega) q1 q2'
    omega
end
/-- passes until none falls, whether that came -/
def eT (C : Nat) (bg en : Nat → Nat) (wt : Nat → Int) (on : Nat → Bool) : Nat → (Nat → Int) → (Nat → Int) × Bool
  | 0, V => (V, false)
  | r + 1, V => if (dG bg en wt on V C).2 then eT C bg en wt on r (dG bg en wt on V C).1 else ((dG bg en wt on V C).1, true)
theorem eT_yes {n C : Nat} {bg en : Nat → Nat} {wt : Nat → Int} {on : Nat → Bool} {V0 E : Nat → Int} (hn : n ≤ 24) (hf : dF n C bg en wt on) (h0 : d0 n V0) (hE : dI n C bg en wt on V0 E) (hr : dR C bg en wt on E) : ∀ (r : Nat) (V : Nat → Int), dI n C bg en wt on V0 V → cN (fun v => !decide (V v = E v)) n ≤ r → (eT C bg en wt on (r + 1) V).2 = true
  | r, V, hV, hc => by
    show (if (dG bg en wt on V C).2 then eT C bg en wt on r (dG bg en wt on V C).1 else ((dG bg en wt on V C).1, true)).2 = true
    rcases dG_unset hn hf h0 hE hr hV with q | q
    · rw [dG_rest hf hr q C (Nat.le_refl _)]; rfl
    · by_cases z : (dG bg en wt on V C).2 = true
      · rw [if_pos z]
        cases r with
        | zero => omega
        | succ r => exact eT_yes hn hf h0 hE hr r _ (dG_I hf hV C (Nat.le_refl _)) (by omega)
      · rw [if_neg z]
theorem eT_end {n C : Nat} {bg en : Nat → Nat} {wt : Nat → Int} {on : Nat → Bool} {V0 : Nat → Int} (hf : dF n C bg en wt on) : ∀ (r : Nat) (V : Nat → Int), dI n C bg en wt on V0 V → (eT C bg en wt on r V).2 = true → dI n C bg en wt on V0 (eT C bg en wt on r V).1 ∧ dR C bg en wt on (eT C bg en wt on r V).1
  | 0, V, hV, h => by cases h
  | r + 1, V, hV, h => by
    have h2 : (if (dG bg en wt on V C).2 then eT C bg en wt on r (dG bg en wt on V C).1 else ((dG bg en wt on V C).1, true)).2 = true := h
    show dI n C bg en wt on V0 (if (dG bg en wt on V C).2 then eT C bg en wt on r (dG bg en wt on V C).1 else ((dG bg en wt on V C).1, true)).1 ∧ dR C bg en wt on (if (dG bg en wt on V C).2 then eT C bg en wt on r (dG bg en wt on V C).1 else ((dG bg en wt on V C).1, true)).1
    by_cases z : (dG bg en wt on V C).2 = true
    · rw [if_pos z] at h2 ⊢
      exact eT_end hf r _ (dG_I hf hV C (Nat.le_refl _)) h2
    · rw [if_neg z]
      obtain ⟨a, b⟩ := dG_no (n := n) (C := C) (bg := bg) (en := en) (wt := wt) (on := on) (V := V) C (by simpa using z)
      show dI n C bg en wt on V0 (dG bg en wt on V C).1 ∧ dR C bg en wt on (dG bg en wt on V C).1
      rw [a]
      exact ⟨hV, b⟩
/-- there are prices for the ways just where the passes come to rest -/
theorem eT_iff {n C : Nat} {bg en : Nat → Nat} {wt : Nat → Int} {on : Nat → Bool} {V0 : Nat → Int} (hn : n ≤ 24) (hf : dF n C bg en wt on) (h0 : ∀ v, v < n → V0 v = 0) : (eT C bg en wt on (n + 1) V0).2 = true ↔ ∃ U, dP C bg en wt on U := by
  have h0' : d0 n V0 := fun v hv => Or.inr (h0 v hv)
  constructor
  · intro h
    obtain ⟨a, b⟩ := eT_end (n := n) (V0 := V0) hf (n + 1) V0 dI_0 h
    refine ⟨(eT C bg en wt on (n + 1) V0).1, fun j hj ho => b j hj ho ?_⟩
    have h1 := a.1 _ (hf j hj ho).1.1
    rw [h0 _ (hf j hj ho).1.1] at h1
    unfold fAR; omega
  · rintro ⟨U, hU⟩
    obtain ⟨E, hE, hr⟩ := dI_all hn hf hU h0'
    exact eT_yes hn hf h0' hE hr n V0 dI_0 cN_le
