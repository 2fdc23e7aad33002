/-! ===== cancelling a ring; how often that can be ===== -/
def wS (b e : Nat → Nat) (c p : Nat → Int) (W : Int) (w : Nat) : Int := W * wr c w + p (wb b e w) - p (we b e w)
/-- a ring of r ways q through the nodes x -/
def isR (K : Nat) (b e : Nat → Nat) (r : Nat) (q x : Nat → Nat) : Prop := 1 ≤ r ∧ x r = x 0 ∧ (∀ i, i < r → q i < 2 * K ∧ wb b e (q i) = x i ∧ we b e (q i) = x (i + 1)) ∧ ∀ i j, i < r → j < r → x i = x j → i = j
def rgX (q : Nat → Nat) (a : Int) (lo : Nat → Int) : Nat → Nat → Int
  | 0 => lo
  | k + 1 => pX (q k) a (rgX q a lo k)
section
variable {K : Nat} {b e : Nat → Nat} {c p : Nat → Int} {W F : Int} {r : Nat} {q x : Nat → Nat}
theorem wS_op {w w' : Nat} (h : w / 2 = w' / 2) (hn : w ≠ w') : wS b e c p W w = -wS b e c p W w' := by
  obtain ⟨o1, o2⟩ := we_ot (b := b) (e := e) h hn
  unfold wS
  rw [o1, o2]
  have : wr c w = -wr c w' := by
    unfold wr
    by_cases z : w % 2 = 0
    · rw [if_pos z, if_neg (by omega), h]; omega
    · rw [if_neg z, if_pos (by omega), h]
  rw [this, Int.mul_neg]
  omega
/-- no lane twice: the ring's cost is below 0 -/
theorem isR_dis (h : isR K b e r q x) (hF : ∀ i, i < r → wS b e c p W (q i) < 0) : ∀ i j, i < r → j < r → i ≠ j → q i / 2 ≠ q j / 2 := by
  intro i j hi hj hne hq
  obtain ⟨h1, h2, h3, h4⟩ := h
  obtain ⟨a1, a2, a3⟩ := h3 i hi
  obtain ⟨b1, b2, b3⟩ := h3 j hj
  by_cases z : q i = q j
  · rw [z] at a2
    exact hne (h4 i j hi hj (by omega))
  · have := wS_op (b := b) (e := e) (c := c) (p := p) (W := W) hq z
    have g1 := hF i hi
    have g2 := hF j hj
    omega
theorem rgX_ne (a : Int) (lo : Nat → Int) {l : Nat} : ∀ k, (∀ i, i < k → q i / 2 ≠ l) → rgX q a lo k l = lo l
  | 0, _ => rfl
  | k + 1, h => by
    show pX (q k) a (rgX q a lo k) l = _
    unfold pX uI
    rw [if_neg (fun z => h k (by omega) z.symm)]
    exact rgX_ne a lo k (fun i hi => h i (by omega))
theorem rgX_at (a : Int) (lo : Nat → Int) (hd : ∀ i j, i < r → j < r → i ≠ j → q i / 2 ≠ q j / 2) {i : Nat} (hi : i < r) : ∀ k, k ≤ r → i < k → rgX q a lo k (q i / 2) = lo (q i / 2) + sg (q i) * a
  | 0, _, h => absurd h (Nat.not_lt_zero _)
  | k + 1, hk, hik => by
    show pX (q k) a (rgX q a lo k) (q i / 2) = _
    unfold pX uI
    by_cases z : i = k
    · subst z
      rw [if_pos rfl, rgX_ne a lo i (fun j hj => hd j i (by omega) hi (by omega))]
    · rw [if_neg (hd i k hi (by omega) z)]
      exact rgX_at a lo hd hi k (by omega) (by omega)
theorem rgX_dv (h : isR K b e r q x) (a : Int) (lo : Nat → Int) {v : Nat} : ∀ k, k ≤ r → dv K b e (rgX q a lo k) v = dv K b e lo v + ((if x 0 = v then a else 0) - (if x k = v then a else 0))
  | 0, _ => by show dv K b e lo v = _; omega
  | k + 1, hk => by
    obtain ⟨h1, h2, h3, h4⟩ := h
    obtain ⟨a1, a2, a3⟩ := h3 k (by omega)
    have ih := rgX_dv ⟨h1, h2, h3, h4⟩ a lo (v := v) k (by omega)
    show dv K b e (pX (q k) a (rgX q a lo k)) v = _
    unfold pX
    rw [dv_upd (by omega), ih]
    have e1 : (if b (q k / 2) = v then sg (q k) * a else 0) - (if e (q k / 2) = v then sg (q k) * a else 0) = (if x k = v then a else 0) - (if x (k + 1) = v then a else 0) := by
      rw [← a2, ← a3]
      unfold sg wb we
      by_cases z : q k % 2 = 0
      · simp only [if_pos z, Int.one_mul]
      · simp only [if_neg z]
        split <;> split <;> omega
    omega
/-- the room of the ways behind it -/
theorem rgX_room {mm lo : Nat → Int} {a : Int} (hd : ∀ i j, i < r → j < r → i ≠ j → q i / 2 ≠ q j / 2) (w : Nat) : (∃ i, i < r ∧ q i = w ∧ wm mm (rgX q a lo r) w = wm mm lo w - a) ∨ (∃ i, i < r ∧ q i / 2 = w / 2 ∧ q i ≠ w ∧ wm mm (rgX q a lo r) w = wm mm lo w + a) ∨ ((∀ i, i < r → q i / 2 ≠ w / 2) ∧ wm mm (rgX q a lo r) w = wm mm lo w) := by
  by_cases z : ∃ i, i < r ∧ q i / 2 = w / 2
  · obtain ⟨i, hi, hq⟩ := z
    have h1 := rgX_at a lo hd hi r (Nat.le_refl _) hi
    rw [hq] at h1
    by_cases y : q i = w
    · refine Or.inl ⟨i, hi, y, ?_⟩
      unfold wm
      rw [h1, y]
      unfold sg
      by_cases u : w % 2 = 0
      · rw [if_pos u, if_pos u, if_pos u]; omega
      · rw [if_neg u, if_neg u, if_neg u]; omega
    · refine Or.inr (Or.inl ⟨i, hi, hq, y, ?_⟩)
      unfold wm
      rw [h1]
      unfold sg
      by_cases u : w % 2 = 0
      · rw [if_pos u, if_pos u, if_neg (by omega)]; omega
      · rw [if_neg u, if_neg u, if_pos (by omega)]; omega
  · have h1 : ∀ i, i < r → q i / 2 ≠ w / 2 := fun i hi y => z ⟨i, hi, y⟩
    refine Or.inr (Or.inr ⟨h1, ?_⟩)
    unfold wm
    rw [rgX_ne a lo r h1]
theorem rgX_fits {mm lo : Nat → Int} {a : Int} (h : isR K b e r q x) (hd : ∀ i j, i < r → j < r → i ≠ j → q i / 2 ≠ q j / 2) (hl : fits K mm lo) (ha : 0 ≤ a) (hr : ∀ i, i < r → a ≤ wm mm lo (q i)) : fits K mm (rgX q a lo r) := by
  intro l hlK
  obtain ⟨l1, l2⟩ := hl l hlK
  by_cases z : ∃ i, i < r ∧ q i / 2 = l
  · obtain ⟨i, hi, hq⟩ := z
    have h1 := rgX_at a lo hd hi r (Nat.le_refl _) hi
    have h2 := hr i hi
    rw [hq] at h1
    rw [h1]
    unfold wm at h2
    rw [hq] at h2
    unfold sg
    by_cases u : q i % 2 = 0
    · rw [if_pos u] at h2 ⊢; omega
    · rw [if_neg u] at h2 ⊢; omega
  · rw [rgX_ne a lo r (fun i hi y => z ⟨i, hi, y⟩)]
    exact ⟨l1, l2⟩
/-! the phase: prices p, W, F with which no way with room is below F; how many are below 0 -/
def phI (K : Nat) (b e : Nat → Nat) (c mm lo p : Nat → Int) (W F : Int) : Prop := ∀ w, w < 2 * K → 0 < wm mm lo w → F ≤ wS b e c p W w
def phC (K : Nat) (b e : Nat → Nat) (c mm lo p : Nat → Int) (W : Int) : Nat := cN (fun w => decide (0 < wm mm lo w) && decide (wS b e c p W w < 0)) (2 * K)
theorem ph_cancel {mm lo : Nat → Int} {a : Int} (h : isR K b e r q x) (hF : F < 0) (hI : phI K b e c mm lo p W F) (hneg : ∀ i, i < r → wS b e c p W (q i) < 0) (ha : 0 < a) (hr : ∀ i, i < r → a ≤ wm mm lo (q i)) (hm : ∃ i, i < r ∧ wm mm lo (q i) = a) : phI K b e c mm (rgX q a lo r) p W F ∧ phC K b e c mm (rgX q a lo r) p W + 1 ≤ phC K b e c mm lo p W := by
  have hd := isR_dis h hneg
  have hop : ∀ w i, i < r → q i / 2 = w / 2 → q i ≠ w → 0 < wS b e c p W w := by
    intro w i hi h1 h2
    have := wS_op (b := b) (e := e) (c := c) (p := p) (W := W) h1 h2
    have := hneg i hi
    omega
  refine ⟨fun w hw hm2 => ?_, ?_⟩
  · rcases rgX_room (mm := mm) (lo := lo) (a := a) hd w with ⟨i, hi, e1, e2⟩ | ⟨i, hi, e1, e2, e3⟩ | ⟨e1, e2⟩
    · exact hI w hw (by omega)
    · have := hop w i hi e1 e2; omega
    · exact hI w hw (by omega)
  · obtain ⟨i0, hi0, hm0⟩ := hm
    refine cN_lt (k := q i0) (fun w hw hz => ?_) (h.2.2.1 i0 hi0).1 ?_ ?_
    · simp only [Bool.and_eq_true, decide_eq_true_eq] at hz ⊢
      rcases rgX_room (mm := mm) (lo := lo) (a := a) hd w with ⟨i, hi, e1, e2⟩ | ⟨i, hi, e1, e2, e3⟩ | ⟨e1, e2⟩
      · exact ⟨by omega, hz.2⟩
      · have := hop w i hi e1 e2; omega
      · exact ⟨by omega, hz.2⟩
    · rcases rgX_room (mm := mm) (lo := lo) (a := a) hd (q i0) with ⟨i, hi, e1, e2⟩ | ⟨i, hi, e1, e2, e3⟩ | ⟨e1, e2⟩
      · rw [e2, hm0]; simp
      · by_cases z : i = i0
        · rw [z] at e2; exact absurd rfl e2
        · exact absurd e1 (hd i i0 hi hi0 z)
      · exact absurd rfl (e1 i0 hi0)
    · have := hr i0 hi0
      simp only [Bool.and_eq_true, decide_eq_true_eq]
      exact ⟨by omega, hneg i0 hi0⟩
/-- the sum along a ring: prices fall out -/
theorem ring_sum (h : isR K b e r q x) : sI (fun i => wS b e c p W (q i)) r = W * sI (fun i => wr c (q i)) r := by
  have h1 : ∀ k, k ≤ r → sI (fun i => wS b e c p W (q i)) k = W * sI (fun i => wr c (q i)) k + p (x 0) - p (x k) := by
    intro k
    induction k with
    | zero => intro _; show (0 : Int) = W * 0 + p (x 0) - p (x 0); omega
    | succ k ih =>
      intro hk
      obtain ⟨a1, a2, a3⟩ := h.2.2.1 k (by omega)
      have := ih (by omega)
      show sI (fun i => wS b e c p W (q i)) k + wS b e c p W (q k) = W * (sI (fun i => wr c (q i)) k + wr c (q k)) + p (x 0) - p (x (k + 1))
      have e1 : wS b e c p W (q k) = W * wr c (q k) + p (x k) - p (x (k + 1)) := by unfold wS; rw [a2, a3]
      rw [this, e1, Int.mul_add]; omega
  have := h1 r (Nat.le_refl _)
  rw [h.2.1] at this
  omega
theorem ph_next {p0 : Nat → Int} {W0 F0 : Int} {mm lo : Nat → Int} (h : isR K b e r q x) (hr24 : r ≤ 24) (hW0 : 0 < W0) (hW : 0 < W) (hF0 : F0 < 0) (hI : phI K b e c mm lo p0 W0 F0) (hrm : ∀ i, i < r → 0 < wm mm lo (q i)) (ht : ∀ i, i < r → wS b e c p W (q i) = F) (hz : ∃ i, i < r ∧ 0 ≤ wS b e c p0 W0 (q i)) : 24 * ((-F) * W0) ≤ 23 * ((-F0) * W) := by
  have s1 := ring_sum (c := c) (p := p) (W := W) h
  have s2 := ring_sum (c := c) (p := p0) (W := W0) h
  have s3 : sI (fun i => wS b e c p W (q i)) r = r * F := by
    rw [← sI_const (a := F)]
    exact sI_cg ht
  obtain ⟨i0, hi0, hz0⟩ := hz
  have s4 : sI (fun i => F0 + (if i = i0 then -F0 else 0)) r ≤ sI (fun i => wS b e c p0 W0 (q i)) r := sI_le (fun i hi => by
    show F0 + (if i = i0 then -F0 else 0) ≤ wS b e c p0 W0 (q i)
    by_cases z : i = i0
    · rw [if_pos z, z]; omega
    · rw [if_neg z]
      have := hI (q i) (h.2.2.1 i hi).1 (hrm i hi)
      omega)
  rw [sI_add, sI_const, sI_one, if_pos hi0] at s4
  generalize sI (fun i => wr c (q i)) r = CR at *
  have t1 : (r : Int) * F = W * CR := by omega
  have t2 : (r : Int) * F0 + -F0 ≤ W0 * CR := by omega
  have hr1 : (1 : Int) ≤ r := by have := h.1; omega
  -- multiply
  have t3 : W * ((r : Int) * F0 + -F0) ≤ W * (W0 * CR) := Int.mul_le_mul_of_nonneg_left t2 (by omega)
  have t4 : W * (W0 * CR) = W0 * ((r : Int) * F) := by rw [t1]; rw [← Int.mul_assoc, ← Int.mul_assoc, Int.mul_comm W W0]
  rw [t4] at t3
  have X0 : ∃ X, X = (-F) * W0 := ⟨_, rfl⟩
  have Y0 : ∃ Y, Y = (-F0) * W := ⟨_, rfl⟩
  obtain ⟨X, hX⟩ := X0
  obtain ⟨Y, hY⟩ := Y0
  have hY0 : 0 ≤ Y := by rw [hY]; exact Int.mul_nonneg (by omega) (by omega)
  have u1 : W0 * ((r : Int) * F) = -((r : Int) * X) := by
    rw [hX, Int.neg_mul, Int.mul_neg, Int.neg_neg, Int.mul_left_comm, Int.mul_comm W0 F]
  have u2 : W * ((r : Int) * F0 + -F0) = -((r : Int) * Y) + Y := by
    have e1 : Y = -(W * F0) := by rw [hY, Int.neg_mul, Int.mul_comm]
    rw [e1, Int.mul_add, Int.mul_left_comm, Int.mul_neg, Int.mul_neg]
    omega
  rw [u1, u2] at t3
  rw [← hX, ← hY]
  have v1 : (r : Int) * (24 * X) ≤ (r : Int) * (23 * Y) := by
    have w1 : (r : Int) * (24 * X) = 24 * ((r : Int) * X) := Int.mul_left_comm _ _ _
    have w2 : (r : Int) * (23 * Y) = 23 * ((r : Int) * Y) := Int.mul_left_comm _ _ _
    have w3 : (r : Int) * Y ≤ 24 * Y := Int.mul_le_mul_of_nonneg_right (by omega) hY0
    rw [w1, w2]; omega
  exact Int.le_of_mul_le_mul_left v1 (by omega)
end
