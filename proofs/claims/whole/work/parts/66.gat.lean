/-! ===== the WAYS that Ways gathers: of each arc the first lane with room along it, the last one against it ===== -/
def AN.gat (A : AN) (mm lo : Nat → Int) (w : Nat) : Prop := w < 2 * A.K ∧ 0 < wm mm lo w ∧ (w % 2 = 0 → ∀ l', l' < w / 2 → A.ar l' = A.ar (w / 2) → mm l' ≤ lo l') ∧ (w % 2 = 1 → ∀ l', w / 2 < l' → l' < A.K → A.ar l' = A.ar (w / 2) → lo l' ≤ 0)
theorem AN.c_mono {A : AN} (hA : A.ok) {l l' : Nat} (hl : l < A.K) (hl' : l' < A.K) (ha : A.ar l = A.ar l') (h : l ≤ l') : A.c l ≤ A.c l' := by
  obtain ⟨h1, k, h2, h3, h4⟩ := A.l_in hl
  obtain ⟨g1, k', g2, g3, g4⟩ := A.l_in hl'
  rw [← ha] at g2 g3
  have := AN.rc_mono hA (p := fun _ => 0) (a := A.ar l) (k := k) h1 (k' - k) (by omega)
  rw [show k + (k' - k) = k' by omega, ← h3, ← g3] at this
  have h9 : A.c l + 0 - 0 ≤ A.c l' + 0 - 0 := this
  omega
theorem AN.gat_ex {A : AN} (hA : A.ok) {mm lo : Nat → Int} {w : Nat} (hw : w < 2 * A.K) (hm : 0 < wm mm lo w) : ∃ w', A.gat mm lo w' ∧ wb A.b A.e w' = wb A.b A.e w ∧ we A.b A.e w' = we A.b A.e w ∧ wr A.c w' ≤ wr A.c w := by
  rcases Nat.mod_two_eq_zero_or_one w with hz | hz
  · suffices h : ∀ k l, l ≤ k → l < A.K → 0 < mm l - lo l → ∃ l', l' ≤ l ∧ A.ar l' = A.ar l ∧ 0 < mm l' - lo l' ∧ ∀ l2, l2 < l' → A.ar l2 = A.ar l' → mm l2 ≤ lo l2 by
      obtain ⟨l', a1, a2, a3, a4⟩ := h (w / 2) (w / 2) (Nat.le_refl _) (by omega) (by unfold wm at hm; rw [if_pos hz] at hm; exact hm)
      have d0 : 2 * l' / 2 = l' := by omega
      refine ⟨2 * l', ⟨by omega, by unfold wm; rw [if_pos (by omega), d0]; exact a3, fun _ l2 h2 h3 => ?_, fun z => by omega⟩, ?_, ?_, ?_⟩
      · rw [d0] at h2 h3; exact a4 l2 h2 h3
      · unfold wb AN.b; rw [if_pos (by omega), if_pos hz, d0, a2]
      · unfold we AN.e; rw [if_pos (by omega), if_pos hz, d0, a2]
      · unfold wr; rw [if_pos (by omega), if_pos hz, d0]
        exact A.c_mono hA (by omega) (by omega) a2 a1
    intro k
    induction k with
    | zero =>
      intro l hl hlK hr
      exact ⟨l, Nat.le_refl _, rfl, hr, fun l2 h2 => by omega⟩
    | succ k ih =>
      intro l hl hlK hr
      by_cases q : ∃ l2, l2 < l ∧ A.ar l2 = A.ar l ∧ 0 < mm l2 - lo l2
      · obtain ⟨l2, q1, q2, q3⟩ := q
        obtain ⟨l', a1, a2, a3, a4⟩ := ih l2 (by omega) (by omega) q3
        exact ⟨l', by omega, a2.trans q2, a3, a4⟩
      · refine ⟨l, Nat.le_refl _, rfl, hr, fun l2 h2 h3 => ?_⟩
        rcases Int.lt_or_le 0 (mm l2 - lo l2) with y | y
        · exact absurd ⟨l2, h2, h3, y⟩ q
        · omega
  · suffices h : ∀ k l, A.K ≤ l + k → l < A.K → 0 < lo l → ∃ l', l ≤ l' ∧ l' < A.K ∧ A.ar l' = A.ar l ∧ 0 < lo l' ∧ ∀ l2, l' < l2 → l2 < A.K → A.ar l2 = A.ar l' → lo l2 ≤ 0 by
      obtain ⟨l', a1, a2, a3, a4, a5⟩ := h A.K (w / 2) (by omega) (by omega) (by unfold wm at hm; rw [if_neg (by omega)] at hm; exact hm)
      have d0 : (2 * l' + 1) / 2 = l' := by omega
      refine ⟨2 * l' + 1, ⟨by omega, by unfold wm; rw [if_neg (by omega), d0]; exact a4, fun z => by omega, fun _ l2 h2 h3 h4 => ?_⟩, ?_, ?_, ?_⟩
      · rw [d0] at h2 h4; exact a5 l2 h2 h3 h4
      · unfold wb AN.e; rw [if_neg (by omega), if_neg (by omega), d0, a3]
      · unfold we AN.b; rw [if_neg (by omega), if_neg (by omega), d0, a3]
      · unfold wr; rw [if_neg (by omega), if_neg (by omega), d0]
        have := A.c_mono hA (l := w / 2) (l' := l') (by omega) a2 a3.symm a1
        omega
    intro k
    induction k with
    | zero => intro l hl hlK; omega
    | succ k ih =>
      intro l hl hlK hr
      by_cases q : ∃ l2, l < l2 ∧ l2 < A.K ∧ A.ar l2 = A.ar l ∧ 0 < lo l2
      · obtain ⟨l2, q1, q2, q3, q4⟩ := q
        obtain ⟨l', a1, a2, a3, a4, a5⟩ := ih l2 (by omega) q2 q4
        exact ⟨l', by omega, a2, a3.trans q3, a4, a5⟩
      · refine ⟨l, Nat.le_refl _, hlK, rfl, hr, fun l2 h2 h3 h4 => ?_⟩
        rcases Int.lt_or_le 0 (lo l2) with y | y
        · exact absurd ⟨l2, h2, h3, h4, y⟩ q
        · exact y
/-- what holds of the gathered ways holds of all with room -/
theorem AN.gat_ph {A : AN} (hA : A.ok) {mm lo p : Nat → Int} {W F : Int} (hW : 0 ≤ W) (h : ∀ w, A.gat mm lo w → F ≤ wS A.b A.e A.c p W w) : phI A.K A.b A.e A.c mm lo p W F := by
  intro w hw hm
  obtain ⟨w', a1, a2, a3, a4⟩ := A.gat_ex hA hw hm
  have h1 := h w' a1
  have h2 : W * wr A.c w' ≤ W * wr A.c w := Int.mul_le_mul_of_nonneg_left a4 hW
  unfold wS at h1 ⊢
  rw [a2, a3] at h1
  omega
/-! how many phases there can be -/
def z24 : Nat → Int
  | 0 => 1
  | k + 1 => 24 * z24 k
def z23 : Nat → Int
  | 0 => 1
  | k + 1 => 23 * z23 k
theorem z_pos : ∀ k, 0 < z24 k ∧ 0 < z23 k
  | 0 => ⟨by decide, by decide⟩
  | k + 1 => by
    obtain ⟨h1, h2⟩ := z_pos k
    show 0 < 24 * z24 k ∧ 0 < 23 * z23 k
    omega
set_option maxRecDepth 100000 in
theorem z_base : 24000000 * z23 406 < z24 406 := by decide +kernel
theorem z_lt : ∀ k, 24000000 * z23 (406 + k) < z24 (406 + k)
  | 0 => z_base
  | k + 1 => by
    have h1 := z_lt k
    have h2 := (z_pos (406 + k)).2
    show 24000000 * (23 * z23 (406 + k)) < 24 * z24 (406 + k)
    omega
/-- after k phases -/
def phZ (W F : Int) (k : Nat) : Prop := (-F) * z24 k ≤ W * (1000000 * z23 k)
theorem phZ_le {W F : Int} {k : Nat} (h : phZ W F k) (hF : F < 0) (hW : 0 < W) (hW2 : W ≤ 24) : k < 406 := by
  rcases Nat.lt_or_ge k 406 with y | y
  · exact y
  · exfalso
    have h1 := z_lt (k - 406)
    rw [show 406 + (k - 406) = k by omega] at h1
    obtain ⟨p1, p2⟩ := z_pos k
    have h2 : 1 * z24 k ≤ (-F) * z24 k := Int.mul_le_mul_of_nonneg_right (by omega) (by omega)
    have h3 : W * (1000000 * z23 k) ≤ 24 * (1000000 * z23 k) := Int.mul_le_mul_of_nonneg_right hW2 (by omega)
    unfold phZ at h
    omega
theorem phZ_s {W F W0 F0 : Int} {k : Nat} (h : phZ W0 F0 k) (hW0 : 0 < W0) (hW : 0 < W) (hs : 24 * ((-F) * W0) ≤ 23 * ((-F0) * W)) : phZ W F (k + 1) := by
  unfold phZ at h ⊢
  obtain ⟨p1, p2⟩ := z_pos k
  have h1 : 24 * ((-F) * W0) * z24 k ≤ 23 * ((-F0) * W) * z24 k := Int.mul_le_mul_of_nonneg_right hs (by omega)
  have h2 : W * ((-F0) * z24 k) ≤ W * (W0 * (1000000 * z23 k)) := Int.mul_le_mul_of_nonneg_left h (by omega)
  have e1 : W0 * ((-F) * z24 (k + 1)) = 24 * ((-F) * W0) * z24 k := by
    show W0 * ((-F) * (24 * z24 k)) = _
    ac_rfl
  have e2 : W0 * (W * (1000000 * z23 (k + 1))) = 23 * (W * (W0 * (1000000 * z23 k))) := by
    show W0 * (W * (1000000 * (23 * z23 k))) = _
    ac_rfl
  have e3 : 23 * ((-F0) * W) * z24 k = 23 * (W * ((-F0) * z24 k)) := by
    ac_rfl
  refine Int.le_of_mul_le_mul_left (a := W0) ?_ hW0
  rw [e1, e2]
  rw [e3] at h1
  omega
