/-! ===== what is left when nothing of at least dl can go ===== -/
section
variable {n K : Nat} {b e : Nat → Nat} {mm lo ex y : Nat → Int} {dl : Int} {S : Nat → Bool}
theorem stq_cut (hb : nd n K b e) (hl : fits K mm lo) (hy : fits K mm y) (hs : ∀ v, v < n → dv K b e y v = ex v + dv K b e lo v) (h : stq n K b e mm lo ex dl S) (hd : 1 ≤ dl) : sI (fun v => ind S v * ex v) n ≤ K * (dl - 1) := by
  have e1 : sI (fun v => ind S v * ex v) n = sI (fun l => (y l - lo l) * (ind S (b l) - ind S (e l))) K := by
    have g1 := dv_sbp (p := ind S) (x := y) hb
    have g2 := dv_sbp (p := ind S) (x := lo) hb
    have g3 : sI (fun v => ind S v * ex v) n = sI (fun v => ind S v * dv K b e y v - ind S v * dv K b e lo v) n := sI_cg (fun v hv => by
      show ind S v * ex v = ind S v * dv K b e y v - ind S v * dv K b e lo v
      rw [hs v hv, ← Int.mul_sub]
      congr 1
      omega)
    rw [g3, sI_sub, g1, g2, ← sI_sub]
    exact sI_cg (fun l _ => by
      show y l * (ind S (b l) - ind S (e l)) - lo l * (ind S (b l) - ind S (e l)) = (y l - lo l) * (ind S (b l) - ind S (e l))
      rw [Int.sub_mul])
  rw [e1]
  refine sI_bd (fun l hlK => ?_)
  obtain ⟨l1, l2⟩ := hl l hlK
  obtain ⟨y1, y2⟩ := hy l hlK
  cases sb : S (b l) <;> cases se : S (e l)
  · rw [ind_f sb, ind_f se]; simp; omega
  · rw [ind_f sb, ind_t se]
    have : ¬ dl ≤ lo l := fun z => by
      have := h.2.2 (2 * l + 1) (by omega) (by unfold wm; rw [if_neg (by omega), show (2 * l + 1) / 2 = l by omega]; exact z) (by unfold wb; rw [if_neg (by omega), show (2 * l + 1) / 2 = l by omega]; exact se)
      unfold we at this
      rw [if_neg (by omega), show (2 * l + 1) / 2 = l by omega, sb] at this
      cases this
    omega
  · rw [ind_t sb, ind_f se]
    have : ¬ dl ≤ mm l - lo l := fun z => by
      have := h.2.2 (2 * l) (by omega) (by unfold wm; rw [if_pos (by omega), show 2 * l / 2 = l by omega]; exact z) (by unfold wb; rw [if_pos (by omega), show 2 * l / 2 = l by omega]; exact sb)
      unfold we at this
      rw [if_pos (by omega), show 2 * l / 2 = l by omega, se] at this
      cases this
    omega
  · rw [ind_t sb, ind_t se]; simp; omega
theorem stq_pe (hn : n ≤ 24) (hK : K ≤ 320) (hb : nd n K b e) (hl : fits K mm lo) (hy : fits K mm y) (hs : ∀ v, v < n → dv K b e y v = ex v + dv K b e lo v) (h : stq n K b e mm lo ex dl S) (hd : 1 ≤ dl) : pe n ex ≤ 344 * dl := by
  have h1 := stq_cut hb hl hy hs h hd
  have h2 : pe n ex ≤ sI (fun v => ind S v * ex v + dl) n := sI_le (fun v hv => by
    show (if 0 ≤ ex v then ex v else 0) ≤ ind S v * ex v + dl
    cases sv : S v
    · rw [ind_f sv]
      have : ¬ dl ≤ ex v := fun z => by have := h.1 v hv z; rw [sv] at this; cases this
      split <;> omega
    · rw [ind_t sv]
      have := h.2.1 v hv sv
      split <;> omega)
  rw [sI_add, sI_const] at h2
  have h3 : (K : Int) * (dl - 1) ≤ 320 * (dl - 1) := Int.mul_le_mul_of_nonneg_right (by omega) (by omega)
  have h4 : (n : Int) * dl ≤ 24 * dl := Int.mul_le_mul_of_nonneg_right (by omega) (by omega)
  omega
theorem ex_tot (hb : nd n K b e) (hs : ∀ v, v < n → dv K b e y v = ex v + dv K b e lo v) : sI ex n = 0 := by
  have g1 : sI (fun v => dv K b e y v) n = 0 := by
    have h := dv_sbp (p := fun _ => 1) (x := y) hb
    have h2 : sI (fun v => (fun _ => (1 : Int)) v * dv K b e y v) n = sI (fun v => dv K b e y v) n := sI_cg (fun v _ => by show (1 : Int) * _ = _; omega)
    rw [h2] at h
    rw [h]
    exact sI_0 (fun l _ => by show y l * (1 - 1) = 0; omega)
  have g2 : sI (fun v => dv K b e lo v) n = 0 := by
    have h := dv_sbp (p := fun _ => 1) (x := lo) hb
    have h2 : sI (fun v => (fun _ => (1 : Int)) v * dv K b e lo v) n = sI (fun v => dv K b e lo v) n := sI_cg (fun v _ => by show (1 : Int) * _ = _; omega)
    rw [h2] at h
    rw [h]
    exact sI_0 (fun l _ => by show lo l * (1 - 1) = 0; omega)
  have g3 : sI (fun v => dv K b e y v) n = sI (fun v => ex v + dv K b e lo v) n := sI_cg hs
  rw [sI_add, g1, g2] at g3
  omega
theorem ex_pe (h : sI ex n = 0) {v : Nat} (hv : v < n) : -pe n ex ≤ ex v ∧ ex v ≤ pe n ex := by
  have h1 := sI_term (f := fun v => if 0 ≤ ex v then ex v else 0) (n := n) (fun i _ => by show 0 ≤ if 0 ≤ ex i then ex i else 0; split <;> omega) hv
  have h2 := sI_term (f := fun v => (if 0 ≤ ex v then ex v else 0) - ex v) (n := n) (fun i _ => by show 0 ≤ (if 0 ≤ ex i then ex i else 0) - ex i; split <;> omega) hv
  rw [sI_sub, h] at h2
  have h3 : (if 0 ≤ ex v then ex v else 0) ≤ pe n ex := h1
  have h4 : (if 0 ≤ ex v then ex v else 0) - ex v ≤ pe n ex - 0 := h2
  split at h3 <;> split at h4 <;> omega
theorem stq_zero (hb : nd n K b e) (hl : fits K mm lo) (hy : fits K mm y) (hs : ∀ v, v < n → dv K b e y v = ex v + dv K b e lo v) (h : stq n K b e mm lo ex 1 S) : ∀ v, v < n → ex v = 0 := by
  have h1 := stq_cut hb hl hy hs h (Int.le_refl _)
  have h2 : ∀ v, v < n → (0 : Int) ≤ ind S v * ex v := by
    intro v hv
    cases sv : S v
    · rw [ind_f sv]; omega
    · rw [ind_t sv]
      have := h.2.1 v hv sv
      omega
  have h3 := sI_eq (f := fun _ => 0) (g := fun v => ind S v * ex v) (n := n) h2 (by
    have : sI (fun _ => (0 : Int)) n = 0 := sI_0 (fun _ _ => rfl)
    rw [this]; omega)
  have h4 : ∀ v, v < n → ex v ≤ 0 := by
    intro v hv
    rcases Int.lt_or_le 0 (ex v) with q | q
    · have q1 := h.1 v hv (by omega)
      have q2 := h3 v hv
      rw [ind_t q1] at q2
      omega
    · exact q
  have h5 := ex_tot (lo := lo) hb hs
  have h6 := sI_eq (f := ex) (g := fun _ => 0) (n := n) h4 (by
    have : sI (fun _ => (0 : Int)) n = 0 := sI_0 (fun _ _ => rfl)
    rw [this]; omega)
  exact h6
end
