/-! ===== least costs along ways: what passes come to, whatever their order ===== -/
def fAR : Int := 1152921504606846976
/-- what stays true while values fall along ways: T is closed, U is no greater -/
def dI (n C : Nat) (bg en : Nat → Nat) (wt : Nat → Int) (on : Nat → Bool) (V0 V : Nat → Int) : Prop :=
  (∀ v, v < n → V v ≤ V0 v) ∧ ∀ (T : Nat → Prop) (U : Nat → Int), (∀ j, j < C → on j = true → T (bg j) → T (en j) ∧ U (en j) ≤ U (bg j) + wt j) → (∀ v, v < n → V0 v ≠ fAR → T v ∧ U v ≤ V0 v) → ∀ v, v < n → V v ≠ fAR → T v ∧ U v ≤ V v
/-- nothing falls any more -/
def dR (C : Nat) (bg en : Nat → Nat) (wt : Nat → Int) (on : Nat → Bool) (V : Nat → Int) : Prop := ∀ j, j < C → on j = true → V (bg j) ≠ fAR → V (en j) ≤ V (bg j) + wt j
def dF (n C : Nat) (bg en : Nat → Nat) (wt : Nat → Int) (on : Nat → Bool) : Prop := ∀ j, j < C → on j = true → (bg j < n ∧ en j < n) ∧ -1000000 ≤ wt j ∧ wt j ≤ 1000000
theorem dI_0 {n C : Nat} {bg en : Nat → Nat} {wt : Nat → Int} {on : Nat → Bool} {V0 : Nat → Int} : dI n C bg en wt on V0 V0 := ⟨fun v _ => Int.le_refl _, fun _ _ _ h v hv hn => h v hv hn⟩
theorem dI_s {n C : Nat} {bg en : Nat → Nat} {wt : Nat → Int} {on : Nat → Bool} {V0 V : Nat → Int} (h : dI n C bg en wt on V0 V) (hf : dF n C bg en wt on) {j : Nat} (hj : j < C) (ho : on j = true) (hb : V (bg j) ≠ fAR) (hl : V (bg j) + wt j < V (en j)) : dI n C bg en wt on V0 (uI V (en j) (V (bg j) + wt j)) := by
  obtain ⟨h1, h2⟩ := h
  obtain ⟨⟨f1, f2⟩, -⟩ := hf j hj ho
  refine ⟨fun v hv => ?_, fun T U hc h0 v hv hn => ?_⟩
  · by_cases e : v = en j
    · rw [e, uI_at]; have := h1 _ f2; omega
    · rw [uI_ne e]; exact h1 v hv
  · by_cases e : v = en j
    · obtain ⟨a1, a2⟩ := h2 T U hc h0 (bg j) f1 hb
      obtain ⟨b1, b2⟩ := hc j hj ho a1
      rw [e, uI_at]
      exact ⟨b1, by omega⟩
    · rw [uI_ne e] at hn ⊢
      exact h2 T U hc h0 v hv hn
/-- passes come to an end where values can't fall below a bound -/
theorem dI_ex {n C : Nat} {bg en : Nat → Nat} {wt : Nat → Int} {on : Nat → Bool} {V0 : Nat → Int} {L : Int} (hf : dF n C bg en wt on) (hL : ∀ V, dI n C bg en wt on V0 V → ∀ v, v < n → L ≤ V v) : ∃ V, dI n C bg en wt on V0 V ∧ dR C bg en wt on V := by
  suffices h : ∀ (k : Nat) (V : Nat → Int), dI n C bg en wt on V0 V → sI V n - n * L ≤ k → ∃ V, dI n C bg en wt on V0 V ∧ dR C bg en wt on V by
    exact h (sI V0 n - n * L).toNat V0 dI_0 (by omega)
  intro k
  induction k with
  | zero =>
    intro V hV hs
    refine ⟨V, hV, fun j hj ho hb => ?_⟩
    rcases Int.lt_or_le (V (bg j) + wt j) (V (en j)) with q | q
    · exfalso
      have h2 := dI_s hV hf hj ho hb q
      have h3 := hL _ h2
      have h4 : n * L ≤ sI (uI V (en j) (V (bg j) + wt j)) n := by rw [← sI_const (a := L)]; exact sI_le h3
      rw [sI_upd (hf j hj ho).1.2] at h4
      omega
    · exact q
  | succ k ih =>
    intro V hV hs
    rcases Classical.em (dR C bg en wt on V) with q | q
    · exact ⟨V, hV, q⟩
    · have q2 : ∃ j, j < C ∧ on j = true ∧ V (bg j) ≠ fAR ∧ V (bg j) + wt j < V (en j) := by
        refine Classical.byContradiction fun z => q fun j hj ho hb => ?_
        rcases Int.lt_or_le (V (bg j) + wt j) (V (en j)) with y | y
        · exact absurd ⟨j, hj, ho, hb, y⟩ z
        · exact y
      obtain ⟨j, hj, ho, hb, y⟩ := q2
      refine ih _ (dI_s hV hf hj ho hb y) ?_
      rw [sI_upd (hf j hj ho).1.2]
      omega
/-- how many below n -/
def cN (P : Nat → Bool) : Nat → Nat
  | 0 => 0
  | n + 1 => cN P n + (if P n then 1 else 0)
theorem cN_le {P : Nat → Bool} : ∀ {n : Nat}, cN P n ≤ n
  | 0 => Nat.le_refl _
  | n + 1 => by
    have := cN_le (P := P) (n := n)
    show cN P n + (if P n then 1 else 0) ≤ n + 1
    split <;> omega
theorem cN_mono {P Q : Nat → Bool} : ∀ {n : Nat}, (∀ v, v < n → P v = true → Q v = true) → cN P n ≤ cN Q n
  | 0, _ => Nat.le_refl _
  | n + 1, h => by
    have h1 := cN_mono (n := n) (fun v hv => h v (by omega))
    have h2 := h n (by omega)
    show cN P n + (if P n then 1 else 0) ≤ cN Q n + (if Q n then 1 else 0)
    by_cases e : P n = true
    · rw [if_pos e, if_pos (h2 e)]; omega
    · rw [if_neg e]; omega
theorem cN_lt {P Q : Nat → Bool} : ∀ {n : Nat} {k : Nat}, (∀ v, v < n → P v = true → Q v = true) → k < n → P k = false → Q k = true → cN P n + 1 ≤ cN Q n
  | 0, _, _, hk, _, _ => absurd hk (Nat.not_lt_zero _)
  | n + 1, k, h, hk, e1, e2 => by
    have h2 := h n (by omega)
    show cN P n + (if P n then 1 else 0) + 1 ≤ cN Q n + (if Q n then 1 else 0)
    rcases Nat.lt_or_ge k n with y | y
    · have h1 := cN_lt (n := n) (fun v hv => h v (by omega)) y e1 e2
      by_cases e : P n = true
      · rw [if_pos e, if_pos (h2 e)]; omega
      · rw [if_neg e]; omega
    · have h1 := cN_mono (n := n) (fun v hv => h v (by omega))
      have e : k = n := by omega
      subst e
      rw [e1, e2]; simp; omega
theorem cN_0 {P : Nat → Bool} {n : Nat} (h : cN P n = 0) : ∀ v, v < n → P v = false := by
  intro v hv
  cases e : P v
  · rfl
  · have := cN_lt (P := fun _ => false) (Q := P) (n := n) (k := v) (fun _ _ z => by cases z) hv rfl e
    omega
theorem cN_cg {P Q : Nat → Bool} {n : Nat} (h : ∀ v, v < n → P v = Q v) : cN P n = cN Q n := by
  have h1 := cN_mono (P := P) (Q := Q) (n := n) (fun v hv z => by rw [← h v hv]; exact z)
  have h2 := cN_mono (P := Q) (Q := P) (n := n) (fun v hv z => by rw [h v hv]; exact z)
  omega
/-- a chain of sets that shrink stands still somewhere -/
theorem cN_dn {Z : Nat → Nat → Bool} {n : Nat} (h : ∀ k v, v < n → Z (k + 1) v = true → Z k v = true) : ∃ k, k ≤ n ∧ ∀ v, v < n → Z k v = true → Z (k + 1) v = true := by
  refine Classical.byContradiction fun hc => ?_
  have hs : ∀ k, k ≤ n → cN (Z (k + 1)) n + 1 ≤ cN (Z k) n := by
    intro k hk
    have h1 : ∃ v, v < n ∧ Z k v = true ∧ Z (k + 1) v = false := by
      refine Classical.byContradiction fun z => hc ⟨k, hk, fun v hv e => ?_⟩
      cases e2 : Z (k + 1) v
      · exact absurd ⟨v, hv, e, e2⟩ z
      · rfl
    obtain ⟨v, hv, e1, e2⟩ := h1
    exact cN_lt (h k) hv e2 e1
  have h2 : ∀ k, k ≤ n + 1 → cN (Z k) n + k ≤ n := by
    intro k
    induction k with
    | zero => intro _; exact cN_le
    | succ k ih => intro hk; have := ih (by omega); have := hs k (by omega); omega
  have := h2 (n + 1) (Nat.le_refl _)
  omega
theorem cN_up {Z : Nat → Nat → Bool} {n : Nat} (h : ∀ k v, v < n → Z k v = true → Z (k + 1) v = true) : ∃ k, k ≤ n ∧ ∀ v, v < n → Z (k + 1) v = true → Z k v = true := by
  obtain ⟨k, hk, h1⟩ := cN_dn (Z := fun k v => !Z k v) (n := n) (fun k v hv e => by
    cases e2 : Z k v
    · rfl
    · rw [h k v hv e2] at e; exact e)
  refine ⟨k, hk, fun v hv e => ?_⟩
  cases e2 : Z k v
  · have := h1 v hv (by rw [e2]; rfl)
    rw [e] at this; cases this
  · rfl
def d0 (n : Nat) (V0 : Nat → Int) : Prop := ∀ v, v < n → V0 v = fAR ∨ V0 v = 0
theorem dB_up {n C : Nat} {bg en : Nat → Nat} {wt : Nat → Int} {on : Nat → Bool} {V0 V : Nat → Int} (hn : n ≤ 24) (hf : dF n C bg en wt on) (h0 : d0 n V0) (h : dI n C bg en wt on V0 V) (hr : dR C bg en wt on V) : ∀ v, v < n → V v = fAR ∨ V v ≤ 24000000 := by
  obtain ⟨k, hk, hz⟩ := cN_up (Z := fun k v => decide (V v ≤ k * 1000000)) (n := n) (fun k v hv e => by
    have := of_decide_eq_true e
    exact decide_eq_true (by omega))
  intro v hv
  by_cases e : V v = fAR
  · exact Or.inl e
  · have := (h.2 (fun v => v < n ∧ V v ≤ k * 1000000) V ?_ ?_ v hv e).1.2
    · exact Or.inr (by omega)
    · rintro j hj ho ⟨t1, t2⟩
      obtain ⟨⟨f1, f2⟩, f3, f4⟩ := hf j hj ho
      have hq := hr j hj ho (by unfold fAR; omega)
      have := of_decide_eq_true (hz (en j) f2 (decide_eq_true (by omega)))
      exact ⟨⟨f2, this⟩, hq⟩
    · intro u hu hne
      have h2 := h.1 u hu
      rcases h0 u hu with y | y
      · exact absurd y hne
      · exact ⟨⟨hu, by omega⟩, h2⟩
theorem dB_lo {n C : Nat} {bg en : Nat → Nat} {wt : Nat → Int} {on : Nat → Bool} {V0 V : Nat → Int} (hn : n ≤ 24) (hf : dF n C bg en wt on) (h0 : d0 n V0) (h : dI n C bg en wt on V0 V) (hr : dR C bg en wt on V) : ∀ v, v < n → -24000000 ≤ V v := by
  have hup := dB_up hn hf h0 h hr
  obtain ⟨k, hk, hz⟩ := cN_dn (Z := fun k v => decide (V v < -(k * 1000000))) (n := n) (fun k v hv e => by
    have := of_decide_eq_true e
    exact decide_eq_true (by omega))
  intro v hv
  rcases Int.lt_or_le (V v) (-24000000) with y | y
  · exfalso
    have hv0 : V v ≠ fAR := by unfold fAR; omega
    have hq := (h.2 (fun v => v < n ∧ V v ≠ fAR) (fun v => V v + (if V v < -(k * 1000000) then 1 else 0)) ?_ ?_ v hv hv0).2
    · rw [if_pos (by omega)] at hq; omega
    · rintro j hj ho ⟨t1, t2⟩
      obtain ⟨⟨f1, f2⟩, f3, f4⟩ := hf j hj ho
      have hq := hr j hj ho t2
      refine ⟨⟨f2, fun z => ?_⟩, ?_⟩
      · rcases hup _ f1 with y | y
        · exact t2 y
        · rw [z] at hq; unfold fAR at hq; omega
      · show V (en j) + (if V (en j) < -(k * 1000000) then 1 else 0) ≤ V (bg j) + (if V (bg j) < -(k * 1000000) then 1 else 0) + wt j
        by_cases z1 : V (en j) < -(k * 1000000)
        · rw [if_pos z1]
          by_cases z2 : V (bg j) < -(k * 1000000)
          · rw [if_pos z2]; omega
          · rw [if_neg z2]
            have := of_decide_eq_true (hz (en j) f2 (decide_eq_true z1))
            omega
        · rw [if_neg z1]
          split <;> omega
    · intro u hu hne
      have h2 := h.1 u hu
      rcases h0 u hu with y | y
      · exact absurd y hne
      · refine ⟨⟨hu, by unfold fAR; omega⟩, ?_⟩
        show V u + (if V u < -(k * 1000000) then 1 else 0) ≤ V0 u
        split <;> omega
  · exact y
/-- no ring of ways falls: there are prices for them -/
def dP (C : Nat) (bg en : Nat → Nat) (wt : Nat → Int) (on : Nat → Bool) (U : Nat → Int) : Prop := ∀ j, j < C → on j = true → U (en j) ≤ U (bg j) + wt j
/-- small prices then, too -/
theorem dP_small {n C : Nat} {bg en : Nat → Nat} {wt : Nat → Int} {on : Nat → Bool} {U : Nat → Int} (hn : n ≤ 24) (hf : dF n C bg en wt on) (hU : dP C bg en wt on U) : ∃ P, dP C bg en wt on P ∧ ∀ v, v < n → -24000000 ≤ P v ∧ P v ≤ 0 := by
  have hB : ∃ B, ∀ v, v < n → U v ≤ B := ⟨sI (fun v => if U v ≤ 0 then 0 else U v) n, fun v hv => by
    have := sI_term (f := fun v => if U v ≤ 0 then 0 else U v) (n := n) (fun i _ => by show 0 ≤ if U i ≤ 0 then 0 else U i; split <;> omega) hv
    have h2 : U v ≤ if U v ≤ 0 then 0 else U v := by split <;> omega
    exact Int.le_trans h2 this⟩
  obtain ⟨B, hB⟩ := hB
  have hL : ∃ L, L ≤ 0 ∧ ∀ v, v < n → L ≤ U v - B := ⟨-sI (fun v => B - U v) n, by
    have := sI_ge0 (f := fun v => B - U v) (n := n) (fun i hi => by show 0 ≤ B - U i; have := hB i hi; omega)
    omega, fun v hv => by
    have := sI_term (f := fun v => B - U v) (n := n) (fun i hi => by show 0 ≤ B - U i; have := hB i hi; omega) hv
    have h2 : B - U v ≤ sI (fun v => B - U v) n := this
    omega⟩
  obtain ⟨L, hL0, hL⟩ := hL
  have h0 : d0 n (fun _ => 0) := fun v _ => Or.inr rfl
  obtain ⟨V, h1, h2⟩ := dI_ex (V0 := fun _ => 0) (L := L) hf (fun V hV v hv => by
    by_cases e : V v = fAR
    · rw [e]; unfold fAR; omega
    · have := (hV.2 (fun _ => True) (fun v => U v - B) (fun j hj ho _ => ⟨trivial, by have := hU j hj ho; show U (en j) - B ≤ U (bg j) - B + wt j; omega⟩) (fun v hv _ => ⟨trivial, by have := hB v hv; show U v - B ≤ 0; omega⟩) v hv e).2
      have h3 : U v - B ≤ V v := this
      have := hL v hv
      omega)
  refine ⟨V, fun j hj ho => ?_, fun v hv => ⟨dB_lo hn hf h0 h1 h2 v hv, h1.1 v hv⟩⟩
  refine h2 j hj ho ?_
  have h3 : V (bg j) ≤ 0 := h1.1 _ (hf j hj ho).1.1
  unfold fAR; omega
/-- values never fall lower than that -/
theorem dI_lo {n C : Nat} {bg en : Nat → Nat} {wt : Nat → Int} {on : Nat → Bool} {U V0 V : Nat → Int} (hn : n ≤ 24) (hf : dF n C bg en wt on) (hU : dP C bg en wt on U) (h0 : d0 n V0) (h : dI n C bg en wt on V0 V) : ∀ v, v < n → -24000000 ≤ V v := by
  obtain ⟨P, p1, p2⟩ := dP_small hn hf hU
  intro v hv
  by_cases e : V v = fAR
  · rw [e]; unfold fAR; omega
  · have := (h.2 (fun _ => True) P (fun j hj ho _ => ⟨trivial, p1 j hj ho⟩) (fun v hv hne => ⟨trivial, by
      have := (p2 v hv).2
      rcases h0 v hv with y | y
      · exact absurd y hne
      · omega⟩) v hv e).2
    have := (p2 v hv).1
    omega
theorem dI_all {n C : Nat} {bg en : Nat → Nat} {wt : Nat → Int} {on : Nat → Bool} {U V0 : Nat → Int} (hn : n ≤ 24) (hf : dF n C bg en wt on) (hU : dP C bg en wt on U) (h0 : d0 n V0) : ∃ V, dI n C bg en wt on V0 V ∧ dR C bg en wt on V := dI_ex hf (fun _ hV => dI_lo hn hf hU h0 hV)
/-- two ends are one, also over other ways with the same begins, ends and costs -/
theorem dI_le {n C C' : Nat} {bg en bg' en' : Nat → Nat} {wt wt' : Nat → Int} {on on' : Nat → Bool} {V0 V V' : Nat → Int} (hn : n ≤ 24) (hf : dF n C bg en wt on) (hf' : dF n C' bg' en' wt' on') (hs : ∀ j, j < C → on j = true → ∃ i, i < C' ∧ on' i = true ∧ bg' i = bg j ∧ en' i = en j ∧ wt' i = wt j) (h0 : d0 n V0) (h : dI n C bg en wt on V0 V) (h' : dI n C' bg' en' wt' on' V0 V') (hr : dR C' bg' en' wt' on' V') : ∀ v, v < n → V v ≠ fAR → V' v ≠ fAR ∧ V' v ≤ V v := by
  have hB := dB_up hn hf' h0 h' hr
  refine fun v hv hne => ?_
  have hq := h.2 (fun v => v < n ∧ V' v ≠ fAR) V' ?_ ?_ v hv hne
  · exact ⟨hq.1.2, hq.2⟩
  · rintro j hj ho ⟨t1, t2⟩
    obtain ⟨i, hi, oi, e1, e2, e3⟩ := hs j hj ho
    have hr1 := hr i hi oi
    rw [e1, e2, e3] at hr1
    have hr2 := hr1 t2
    obtain ⟨⟨f1, f2⟩, f3, f4⟩ := hf j hj ho
    refine ⟨⟨f2, fun z => ?_⟩, hr2⟩
    rcases hB _ f1 with y | y
    · exact t2 y
    · rw [z] at hr2; unfold fAR at hr2; omega
  · intro v hv hne
    have := h'.1 v hv
    refine ⟨⟨hv, fun z => ?_⟩, this⟩
    rcases h0 v hv with y | y
    · exact hne y
    · rw [z] at this; unfold fAR at this; omega
theorem dI_fr {n C : Nat} {bg en : Nat → Nat} {wt : Nat → Int} {on : Nat → Bool} {V0 V : Nat → Int} (h0 : d0 n V0) (h : dI n C bg en wt on V0 V) : ∀ v, v < n → V v ≤ fAR := by
  intro v hv
  have := h.1 v hv
  rcases h0 v hv with y | y
  · omega
  · unfold fAR; omega
theorem dI_eq {n C C' : Nat} {bg en bg' en' : Nat → Nat} {wt wt' : Nat → Int} {on on' : Nat → Bool} {V0 V V' : Nat → Int} (hn : n ≤ 24) (hf : dF n C bg en wt on) (hf' : dF n C' bg' en' wt' on') (hs : ∀ j, j < C → on j = true → ∃ i, i < C' ∧ on' i = true ∧ bg' i = bg j ∧ en' i = en j ∧ wt' i = wt j) (hs' : ∀ i, i < C' → on' i = true → ∃ j, j < C ∧ on j = true ∧ bg j = bg' i ∧ en j = en' i ∧ wt j = wt' i) (h0 : d0 n V0) (h : dI n C bg en wt on V0 V) (hr : dR C bg en wt on V) (h' : dI n C' bg' en' wt' on' V0 V') (hr' : dR C' bg' en' wt' on' V') : ∀ v, v < n → V v = V' v := by
  intro v hv
  have a := dI_le hn hf hf' hs h0 h h' hr' v hv
  have b := dI_le hn hf' hf hs' h0 h' h hr v hv
  by_cases e : V v = fAR
  · by_cases e2 : V' v = fAR
    · rw [e, e2]
    · exact absurd e (b e2).1
  · obtain ⟨a1, a2⟩ := a e
    have := (b a1).2
    omega
