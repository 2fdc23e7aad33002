/-! ===== passes over the ways: as many as nodes are enough ===== -/
def dG (bg en : Nat → Nat) (wt : Nat → Int) (on : Nat → Bool) (V : Nat → Int) : Nat → (Nat → Int) × Bool
  | 0 => (V, false)
  | j + 1 => if on j = true ∧ ¬ (dG bg en wt on V j).1 (bg j) = fAR ∧ (dG bg en wt on V j).1 (bg j) + wt j < (dG bg en wt on V j).1 (en j) then (uI (dG bg en wt on V j).1 (en j) ((dG bg en wt on V j).1 (bg j) + wt j), true) else dG bg en wt on V j
def dT (C : Nat) (bg en : Nat → Nat) (wt : Nat → Int) (on : Nat → Bool) : Nat → (Nat → Int) → Nat → Int
  | 0, V => V
  | r + 1, V => if (dG bg en wt on V C).2 then dT C bg en wt on r (dG bg en wt on V C).1 else (dG bg en wt on V C).1
theorem dG_s {bg en : Nat → Nat} {wt : Nat → Int} {on : Nat → Bool} {V : Nat → Int} {j : Nat} : dG bg en wt on V (j + 1) = if on j = true ∧ ¬ (dG bg en wt on V j).1 (bg j) = fAR ∧ (dG bg en wt on V j).1 (bg j) + wt j < (dG bg en wt on V j).1 (en j) then (uI (dG bg en wt on V j).1 (en j) ((dG bg en wt on V j).1 (bg j) + wt j), true) else dG bg en wt on V j := rfl
theorem dG_I {n C : Nat} {bg en : Nat → Nat} {wt : Nat → Int} {on : Nat → Bool} {V0 V : Nat → Int} (hf : dF n C bg en wt on) (h : dI n C bg en wt on V0 V) : ∀ j, j ≤ C → dI n C bg en wt on V0 (dG bg en wt on V j).1
  | 0, _ => h
  | j + 1, hj => by
    have ih := dG_I hf h j (by omega)
    rw [dG_s]
    split
    · rename_i q
      exact dI_s ih hf (by omega) q.1 q.2.1 q.2.2
    · exact ih
theorem dG_dn {bg en : Nat → Nat} {wt : Nat → Int} {on : Nat → Bool} {V : Nat → Int} {i : Nat} : ∀ k v, (dG bg en wt on V (i + k)).1 v ≤ (dG bg en wt on V i).1 v
  | 0, v => Int.le_refl _
  | k + 1, v => by
    have ih := dG_dn (bg := bg) (en := en) (wt := wt) (on := on) (V := V) (i := i) k v
    rw [show i + (k + 1) = i + k + 1 from rfl, dG_s]
    split
    · rename_i q
      show uI _ _ _ v ≤ _
      by_cases e : v = en (i + k)
      · have := q.2.2
        rw [e, uI_at]
        rw [e] at ih
        omega
      · rw [uI_ne e]; exact ih
    · exact ih
/-- behind a pass each way's end is no more than its begin was before, and its cost -/
theorem dG_way {n C : Nat} {bg en : Nat → Nat} {wt : Nat → Int} {on : Nat → Bool} {V0 V : Nat → Int} (hf : dF n C bg en wt on) (h0 : d0 n V0) (h : dI n C bg en wt on V0 V) {j : Nat} (hj : j < C) (ho : on j = true) (hb : V (bg j) ≠ fAR) : (dG bg en wt on V C).1 (en j) ≤ V (bg j) + wt j := by
  have h1 := dG_dn (bg := bg) (en := en) (wt := wt) (on := on) (V := V) (i := 0) j (bg j)
  rw [Nat.zero_add] at h1
  have h1' : (dG bg en wt on V j).1 (bg j) ≤ V (bg j) := h1
  have h2 := dG_dn (bg := bg) (en := en) (wt := wt) (on := on) (V := V) (i := j + 1) (C - (j + 1)) (en j)
  rw [show j + 1 + (C - (j + 1)) = C by omega] at h2
  have hB := dI_fr h0 h (bg j) (hf j hj ho).1.1
  have h3 : (dG bg en wt on V (j + 1)).1 (en j) ≤ (dG bg en wt on V j).1 (bg j) + wt j := by
    rw [dG_s]
    split
    · show uI _ _ _ _ ≤ _
      rw [uI_at]; exact Int.le_refl _
    · rename_i q
      rcases Int.lt_or_le ((dG bg en wt on V j).1 (bg j) + wt j) ((dG bg en wt on V j).1 (en j)) with y | y
      · exact absurd ⟨ho, fun z => hb (by omega), y⟩ q
      · exact y
  omega
theorem dG_no {n C : Nat} {bg en : Nat → Nat} {wt : Nat → Int} {on : Nat → Bool} {V : Nat → Int} : ∀ j, (dG bg en wt on V j).2 = false → (dG bg en wt on V j).1 = V ∧ ∀ i, i < j → on i = true → V (bg i) ≠ fAR → V (en i) ≤ V (bg i) + wt i
  | 0, _ => ⟨rfl, fun i hi => absurd hi (Nat.not_lt_zero _)⟩
  | j + 1, h => by
    rw [dG_s] at h ⊢
    by_cases q : on j = true ∧ ¬ (dG bg en wt on V j).1 (bg j) = fAR ∧ (dG bg en wt on V j).1 (bg j) + wt j < (dG bg en wt on V j).1 (en j)
    · rw [if_pos q] at h; cases h
    · rw [if_neg q] at h ⊢
      obtain ⟨h1, h2⟩ := dG_no (n := n) (C := C) j h
      refine ⟨h1, fun i hi ho hb => ?_⟩
      rcases Nat.lt_or_ge i j with y | y
      · exact h2 i y ho hb
      · have e : i = j := by omega
        subst e
        rw [h1] at q
        rcases Int.lt_or_le (V (bg i) + wt i) (V (en i)) with z | z
        · exact absurd ⟨ho, hb, z⟩ q
        · exact z
/-- where something has not come to its end, a way leads from what has to what hasn't, and has it in the next pass -/
theorem dI_next {n C : Nat} {bg en : Nat → Nat} {wt : Nat → Int} {on : Nat → Bool} {V0 V E : Nat → Int} (hn : n ≤ 24) (hf : dF n C bg en wt on) (h0 : d0 n V0) (hV : dI n C bg en wt on V0 V) (hE : dI n C bg en wt on V0 E) (hr : dR C bg en wt on E) {v : Nat} (hv : v < n) (hne : V v ≠ E v) : ∃ j, j < C ∧ on j = true ∧ E (bg j) ≠ fAR ∧ V (bg j) = E (bg j) ∧ V (en j) ≠ E (en j) ∧ E (en j) = E (bg j) + wt j := by
  have hB := dB_up hn hf h0 hE hr
  have hge := dI_le hn hf hf (fun j hj ho => ⟨j, hj, ho, rfl, rfl, rfl⟩) h0 hV hE hr
  have hVf := dI_fr h0 hV
  have hEf := dI_fr h0 hE
  have hlt : ∀ v, v < n → V v ≠ E v → E v ≠ fAR ∧ E v < V v := by
    intro v hv hne
    by_cases e : V v = fAR
    · have := hEf v hv
      exact ⟨fun z => hne (by rw [e, z]), by omega⟩
    · obtain ⟨a, b⟩ := hge v hv e
      exact ⟨a, by omega⟩
  refine Classical.byContradiction fun hc => ?_
  have hq := (hE.2 (fun v => v < n ∧ E v ≠ fAR) (fun v => E v + (if V v = E v then 0 else 1)) ?_ ?_ v hv (hlt v hv hne).1).2
  · rw [if_neg hne] at hq; omega
  · rintro j hj ho ⟨t1, t2⟩
    obtain ⟨⟨f1, f2⟩, f3, f4⟩ := hf j hj ho
    have hq := hr j hj ho t2
    refine ⟨⟨f2, fun z => ?_⟩, ?_⟩
    · rcases hB _ f1 with y | y
      · exact t2 y
      · rw [z] at hq; unfold fAR at hq; omega
    · show E (en j) + (if V (en j) = E (en j) then 0 else 1) ≤ E (bg j) + (if V (bg j) = E (bg j) then 0 else 1) + wt j
      by_cases z1 : V (en j) = E (en j)
      · rw [if_pos z1]
        split <;> omega
      · rw [if_neg z1]
        by_cases z2 : V (bg j) = E (bg j)
        · rw [if_pos z2]
          have : E (en j) ≠ E (bg j) + wt j := fun z => hc ⟨j, hj, ho, t2, z2, z1, z⟩
          omega
        · rw [if_neg z2]; omega
  · intro u hu hne2
    have h2 := hE.1 u hu
    refine ⟨⟨hu, fun z => ?_⟩, ?_⟩
    · rcases h0 u hu with y | y
      · exact hne2 y
      · rw [z] at h2; unfold fAR at h2; omega
    · show E u + (if V u = E u then 0 else 1) ≤ V0 u
      by_cases z1 : V u = E u
      · rw [if_pos z1]; omega
      · rw [if_neg z1]
        have := (hlt u hu z1).2
        have := hV.1 u hu
        omega
theorem dT_end {n C : Nat} {bg en : Nat → Nat} {wt : Nat → Int} {on : Nat → Bool} {V0 E : Nat → Int} (hn : n ≤ 24) (hf : dF n C bg en wt on) (h0 : d0 n V0) (hE : dI n C bg en wt on V0 E) (hr : dR C bg en wt on E) : ∀ (r : Nat) (V : Nat → Int), dI n C bg en wt on V0 V → cN (fun v => !decide (V v = E v)) n ≤ r → ∀ v, v < n → dT C bg en wt on r V v = E v
  | 0, V, hV, hc => fun v hv => by
    have := cN_0 (Nat.le_zero.mp hc) v hv
    simp at this
    exact this
  | r + 1, V, hV, hc => by
    show ∀ v, v < n → (if (dG bg en wt on V C).2 then dT C bg en wt on r (dG bg en wt on V C).1 else (dG bg en wt on V C).1) v = E v
    by_cases q : (dG bg en wt on V C).2 = true
    · rw [if_pos q]
      have hI := dG_I hf hV C (Nat.le_refl _)
      refine dT_end hn hf h0 hE hr r _ hI ?_
      have hge := dI_le hn hf hf (fun j hj ho => ⟨j, hj, ho, rfl, rfl, rfl⟩) h0 hI hE hr
      have hdn : ∀ v, (dG bg en wt on V C).1 v ≤ V v := fun v => by
        have := dG_dn (bg := bg) (en := en) (wt := wt) (on := on) (V := V) (i := 0) C v
        rw [Nat.zero_add] at this
        exact this
      have hEf := dI_fr h0 hE
      have hIf := dI_fr h0 hI
      have hm : ∀ v, v < n → V v = E v → (dG bg en wt on V C).1 v = E v := by
        intro v hv e
        have h1 := hdn v
        by_cases z : (dG bg en wt on V C).1 v = fAR
        · have := hEf v hv; omega
        · have := (hge v hv z).2; omega
      rcases Nat.eq_zero_or_pos (cN (fun v => !decide (V v = E v)) n) with z | z
      · have h1 := cN_0 z
        have : cN (fun v => !decide ((dG bg en wt on V C).1 v = E v)) n ≤ cN (fun v => !decide (V v = E v)) n := cN_mono (fun v hv e => by
          have := h1 v hv
          simp at this e
          exact absurd (hm v hv this) e)
        omega
      · have hex : ∃ v, v < n ∧ V v ≠ E v := by
          refine Classical.byContradiction fun y => ?_
          have : cN (fun v => !decide (V v = E v)) n ≤ cN (fun _ => false) n := cN_mono (fun v hv e => by
            simp at e
            exact absurd ⟨v, hv, e⟩ y)
          have h3 : ∀ n, cN (fun _ => false) n = 0 := by
            intro n
            induction n with
            | zero => rfl
            | succ n ih => show cN (fun _ => false) n + _ = 0; rw [ih]; rfl
          have := h3 n
          omega
        obtain ⟨v, hv, hne⟩ := hex
        obtain ⟨j, hj, ho, j1, j2, j3, j4⟩ := dI_next hn hf h0 hV hE hr hv hne
        obtain ⟨⟨f1, f2⟩, -⟩ := hf j hj ho
        have h4 := dG_way hf h0 hV hj ho (by rw [j2]; exact j1)
        have h5 : (dG bg en wt on V C).1 (en j) = E (en j) := by
          by_cases y : (dG bg en wt on V C).1 (en j) = fAR
          · have := hEf (en j) f2
            rw [j2] at h4; omega
          · have := (hge _ f2 y).2
            rw [j2] at h4; omega
        have := cN_lt (P := fun v => !decide ((dG bg en wt on V C).1 v = E v)) (Q := fun v => !decide (V v = E v)) (n := n) (k := en j) (fun v hv e => by
          simp at e ⊢
          exact fun y => e (hm v hv y)) f2 (by simp [h5]) (by simp [j3])
        omega
    · rw [if_neg q]
      obtain ⟨a, b⟩ := dG_no (n := n) (C := C) C (by simpa using q)
      rw [a]
      exact dI_eq hn hf hf (fun j hj ho => ⟨j, hj, ho, rfl, rfl, rfl⟩) (fun j hj ho => ⟨j, hj, ho, rfl, rfl, rfl⟩) h0 hV b hE hr
/-- n passes come to the end -/
theorem dT_all {n C : Nat} {bg en : Nat → Nat} {wt : Nat → Int} {on : Nat → Bool} {U V0 : Nat → Int} (hn : n ≤ 24) (hf : dF n C bg en wt on) (hU : dP C bg en wt on U) (h0 : d0 n V0) : ∃ E, dI n C bg en wt on V0 E ∧ dR C bg en wt on E ∧ ∀ v, v < n → dT C bg en wt on n V0 v = E v := by
  obtain ⟨E, hE, hr⟩ := dI_all hn hf hU h0
  exact ⟨E, hE, hr, dT_end hn hf h0 hE hr n V0 dI_0 cN_le⟩
