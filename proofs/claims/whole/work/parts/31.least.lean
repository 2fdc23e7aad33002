/-! ===== least cost: what prices prove ===== -/
def fits (K : Nat) (w x : Nat → Int) : Prop := ∀ l, l < K → 0 ≤ x l ∧ x l ≤ w l
def bal (n K : Nat) (b e : Nat → Nat) (s x : Nat → Int) : Prop := ∀ v, v < n → dv K b e x v = s v
def rc (b e : Nat → Nat) (c p : Nat → Int) (l : Nat) : Int := c l + p (b l) - p (e l)
/-- under the prices p no lane with room falls -/
def pf (K : Nat) (b e : Nat → Nat) (w c p x : Nat → Int) : Prop := ∀ l, l < K → (rc b e c p l < 0 → x l = w l) ∧ (0 < rc b e c p l → x l = 0)
def ct (K : Nat) (c x : Nat → Int) : Int := sI (fun l => c l * x l) K
def nd (n K : Nat) (b e : Nat → Nat) : Prop := ∀ l, l < K → b l < n ∧ e l < n
theorem rc_sum {n K : Nat} {b e : Nat → Nat} {c p x : Nat → Int} (hb : nd n K b e) : sI (fun l => rc b e c p l * x l) K = ct K c x + sI (fun v => p v * dv K b e x v) n := by
  rw [dv_sbp hb, ct, ← sI_add]
  refine sI_cg (fun l _ => ?_)
  show (c l + p (b l) - p (e l)) * x l = c l * x l + x l * (p (b l) - p (e l))
  rw [Int.mul_comm (x l), ← Int.add_mul]
  congr 1
  omega
theorem pf_le {K : Nat} {b e : Nat → Nat} {w c p x y : Nat → Int} (h : pf K b e w c p x) (hy : fits K w y) : ∀ l, l < K → rc b e c p l * x l ≤ rc b e c p l * y l := by
  intro l hl
  obtain ⟨h1, h2⟩ := h l hl
  obtain ⟨h3, h4⟩ := hy l hl
  rcases Int.lt_trichotomy (rc b e c p l) 0 with q | q | q
  · rw [h1 q]
    exact Int.mul_le_mul_of_nonpos_left (Int.le_of_lt q) h4
  · rw [q]; omega
  · rw [h2 q]
    exact Int.mul_le_mul_of_nonneg_left h3 (Int.le_of_lt q)
theorem bal_sum {n K : Nat} {b e : Nat → Nat} {s p x : Nat → Int} (h : bal n K b e s x) : sI (fun v => p v * dv K b e x v) n = sI (fun v => p v * s v) n := sI_cg (fun v hv => by show p v * dv K b e x v = p v * s v; rw [h v hv])
theorem pf_opt {n K : Nat} {b e : Nat → Nat} {w c p s x y : Nat → Int} (hb : nd n K b e) (h : pf K b e w c p x) (hx : bal n K b e s x) (hy : bal n K b e s y) (fy : fits K w y) : ct K c x ≤ ct K c y := by
  have h1 := rc_sum (c := c) (p := p) (x := x) hb
  have h2 := rc_sum (c := c) (p := p) (x := y) hb
  rw [bal_sum hx] at h1
  rw [bal_sum hy] at h2
  have h3 := sI_le (n := K) (pf_le h fy)
  omega
theorem pf_all {n K : Nat} {b e : Nat → Nat} {w c p s x y : Nat → Int} (hb : nd n K b e) (h : pf K b e w c p x) (hx : bal n K b e s x) (hy : bal n K b e s y) (fy : fits K w y) (hc : ct K c y ≤ ct K c x) : pf K b e w c p y := by
  have h1 := rc_sum (c := c) (p := p) (x := x) hb
  have h2 := rc_sum (c := c) (p := p) (x := y) hb
  rw [bal_sum hx] at h1
  rw [bal_sum hy] at h2
  have h3 := sI_eq (n := K) (pf_le h fy) (by omega)
  intro l hl
  obtain ⟨q1, q2⟩ := h l hl
  have h4 := h3 l hl
  refine ⟨fun q => ?_, fun q => ?_⟩
  · rw [← q1 q]; exact (Int.eq_of_mul_eq_mul_left (by omega) h4).symm
  · rw [← q2 q]; exact (Int.eq_of_mul_eq_mul_left (by omega) h4).symm
/-! ===== THE SET: two searches that can't go on have seen the same ===== -/
def ind (S : Nat → Bool) (v : Nat) : Int := if S v then 1 else 0
theorem ind_t {S : Nat → Bool} {v : Nat} (h : S v = true) : ind S v = 1 := by rw [ind, if_pos h]
theorem ind_f {S : Nat → Bool} {v : Nat} (h : S v = false) : ind S v = 0 := by rw [ind, if_neg (by rw [h]; decide)]
/-- a search from all that is too much can't go on: S is what it saw -/
def stk (n K : Nat) (b e : Nat → Nat) (en : Nat → Bool) (w s x : Nat → Int) (S : Nat → Bool) : Prop :=
  (∀ l, l < K → S (b l) = true → S (e l) = false → x l = w l ∧ en l = false) ∧ (∀ l, l < K → S (b l) = false → S (e l) = true → x l = 0) ∧
  (∀ v, v < n → 0 < s v - dv K b e x v → S v = true) ∧ (∀ v, v < n → s v - dv K b e x v < 0 → S v = false) ∧
  (∀ T : Nat → Bool, (∀ l, l < K → T (b l) = true → T (e l) = false → x l = w l) → (∀ l, l < K → T (b l) = false → T (e l) = true → x l = 0) → (∀ v, v < n → 0 < s v - dv K b e x v → T v = true) → ∀ v, v < n → S v = true → T v = true)
theorem cut_sum {n K : Nat} {b e : Nat → Nat} {s x : Nat → Int} (hb : nd n K b e) (S : Nat → Bool) : sI (fun v => ind S v * (s v - dv K b e x v)) n = sI (fun v => ind S v * s v) n - sI (fun l => x l * (ind S (b l) - ind S (e l))) K := by
  rw [← dv_sbp hb, ← sI_sub]
  exact sI_cg (fun v _ => Int.mul_sub _ _ _)
/-- lane by lane: what is left of the cut's sums -/
theorem stk_lane {K : Nat} {b e : Nat → Nat} {en : Nat → Bool} {w w' x y : Nat → Int} {S : Nat → Bool} (hw : ∀ l, l < K → en l = false → w l = w' l) (h1 : ∀ l, l < K → S (b l) = true → S (e l) = false → x l = w l ∧ en l = false) (h2 : ∀ l, l < K → S (b l) = false → S (e l) = true → x l = 0) (fy : fits K w' y) : ∀ l, l < K → y l * (ind S (b l) - ind S (e l)) ≤ x l * (ind S (b l) - ind S (e l)) := by
  intro l hl
  obtain ⟨q1, q2⟩ := fy l hl
  cases eb : S (b l) <;> cases ee : S (e l)
  · rw [ind_f eb, ind_f ee]; simp
  · rw [ind_f eb, ind_t ee, h2 l hl eb ee]; omega
  · obtain ⟨q3, q4⟩ := h1 l hl eb ee
    rw [ind_t eb, ind_f ee, q3, hw l hl q4]; omega
  · rw [ind_t eb, ind_t ee]; simp
theorem stk_one {n K : Nat} {b e : Nat → Nat} {en : Nat → Bool} {w w' s x y : Nat → Int} {S T : Nat → Bool} (hb : nd n K b e) (hw : ∀ l, l < K → en l = false → w l = w' l) (fx : fits K w x) (fy : fits K w' y) (hS : stk n K b e en w s x S) (hT : stk n K b e en w' s y T) : ∀ v, v < n → S v = true → T v = true := by
  obtain ⟨a1, a2, a3, a4, a5⟩ := hS
  obtain ⟨b1, b2, b3, b4, -⟩ := hT
  have p1 : ∀ v, v < n → ind T v * (s v - dv K b e x v) ≤ ind S v * (s v - dv K b e x v) := by
    intro v hv
    cases eS : S v <;> cases eT : T v
    · rw [ind_f eS, ind_f eT]; exact Int.le_refl _
    · have := a3 v hv
      rw [ind_f eS, ind_t eT]
      have h : ¬ 0 < s v - dv K b e x v := fun q => by rw [eS] at this; exact absurd (this q) (by decide)
      omega
    · have := a4 v hv
      rw [ind_t eS, ind_f eT]
      have h : ¬ s v - dv K b e x v < 0 := fun q => by rw [eS] at this; exact absurd (this q) (by decide)
      omega
    · rw [ind_t eS, ind_t eT]; exact Int.le_refl _
  have p2 : ∀ v, v < n → ind S v * (s v - dv K b e y v) ≤ ind T v * (s v - dv K b e y v) := by
    intro v hv
    cases eS : S v <;> cases eT : T v
    · rw [ind_f eS, ind_f eT]; exact Int.le_refl _
    · have := b4 v hv
      rw [ind_f eS, ind_t eT]
      have h : ¬ s v - dv K b e y v < 0 := fun q => by rw [eT] at this; exact absurd (this q) (by decide)
      omega
    · have := b3 v hv
      rw [ind_t eS, ind_f eT]
      have h : ¬ 0 < s v - dv K b e y v := fun q => by rw [eT] at this; exact absurd (this q) (by decide)
      omega
    · rw [ind_t eS, ind_t eT]; exact Int.le_refl _
  have q1 := stk_lane hw a1 a2 fy
  have q2 := stk_lane (w := w') (w' := w) (fun l hl h => (hw l hl h).symm) b1 b2 fx
  have r1 := sI_le p1
  have r2 := sI_le p2
  have r3 := sI_le q1
  have r4 := sI_le q2
  rw [cut_sum hb, cut_sum hb] at r1 r2
  have t1 := sI_eq p1 (by rw [cut_sum hb, cut_sum hb]; omega)
  have t2 := sI_eq q2 (by omega)
  refine a5 T (fun l hl e1 e2 => ?_) (fun l hl e1 e2 => ?_) (fun v hv hp => ?_)
  · obtain ⟨g1, g2⟩ := b1 l hl e1 e2
    have := t2 l hl
    rw [ind_t e1, ind_f e2, g1] at this
    have := hw l hl g2
    omega
  · have g1 := b2 l hl e1 e2
    have := t2 l hl
    rw [ind_f e1, ind_t e2, g1] at this
    omega
  · have g1 := a3 v hv hp
    have := t1 v hv
    cases eT : T v
    · rw [ind_t g1, ind_f eT] at this; omega
    · rfl
