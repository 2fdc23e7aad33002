/-! ===== least costs without an arc: the same by lanes as by arcs ===== -/
theorem AN.ds_meet {A : AN} (hA : A.ok) {B : Int} {p lo V0 V E : Nat → Int} {on1 on2 : Nat → Bool} {C a : Nat} {nb : Nat → Nat} (hB : 1000000 ≤ B) (hl : fits A.K (A.w B) lo) (hp : pf A.K A.b A.e (A.w B) A.c p lo) (hs : ∀ a, a < A.M → A.en a = true → A.on lo a < B) (g1 : ∀ j, j < C → A.gat (A.w B) lo (nb j)) (g2 : ∀ w, A.gat (A.w B) lo w → ∃ j, j < C ∧ nb j = w) (ha : a < A.M) (hpt : A.pt a = 1) (o1 : ∀ j, j < 2 * A.M → (on1 j = true ↔ A.yo (A.on lo) j = true ∧ ¬ j / 2 = a)) (o2 : ∀ j, j < C → (on2 j = true ↔ ¬ nb j / 2 = cn_fs A.pt a)) (h0 : d0 A.n V0) (h : dI A.n (2 * A.M) (wb A.fr A.tr) (we A.fr A.tr) (A.yc (A.on lo)) on1 V0 V) (hr : dR (2 * A.M) (wb A.fr A.tr) (we A.fr A.tr) (A.yc (A.on lo)) on1 V) (h' : dI A.n C (fun j => wb A.b A.e (nb j)) (fun j => we A.b A.e (nb j)) (fun j => wr A.c (nb j)) on2 V0 E) (hr' : dR C (fun j => wb A.b A.e (nb j)) (fun j => we A.b A.e (nb j)) (fun j => wr A.c (nb j)) on2 E) : ∀ v, v < A.n → V v = E v := by
  have hfa := A.l_at ha (show 0 < A.pt a by omega)
  rw [Nat.add_zero] at hfa
  have lane : ∀ l, l < A.K → (A.ar l = a ↔ l = cn_fs A.pt a) := fun l hl => by
    constructor
    · intro e
      obtain ⟨-, k, k1, k2, -⟩ := A.l_in hl
      rw [e] at k1 k2
      omega
    · intro e; rw [e]; exact hfa.2.1
  refine dI_eq hA.1.1 (AN.dFy hA) (fun j hj _ => ?_) (fun j hj ho => ?_) (fun j hj ho => ?_) h0 h hr h' hr'
  · exact AN.dFw hA (c := A.c) (on := fun _ => true) (fun l hl => by
      obtain ⟨q1, k, q2, q3, q4⟩ := A.l_in hl
      have := ((hA.2.1 _ q1).2.2.2.1 k q2).2
      unfold AN.c
      rw [q4]; exact this) (nb j) (g1 j hj).1 rfl
  · obtain ⟨y1, y2⟩ := (o1 j hj).mp ho
    obtain ⟨w, w1, ⟨w2, -⟩, w3, w4, w5⟩ := AN.y_gat hA hB hl hp hs hj y1
    obtain ⟨i, i1, i2⟩ := g2 w w1
    have hw := w1.1
    refine ⟨i, i1, (o2 i i1).mpr (fun q => y2 ?_), ?_, ?_, ?_⟩
    · rw [w2]
      exact (lane _ (by omega)).mpr (by rw [← i2]; exact q)
    · show wb A.b A.e (nb i) = _; rw [i2]; exact w3
    · show we A.b A.e (nb i) = _; rw [i2]; exact w4
    · show wr A.c (nb i) = _; rw [i2]; exact w5
  · have y2 := (o2 j hj).mp ho
    obtain ⟨i, i1, ⟨i2, -⟩, i3, i4, i5, i6⟩ := AN.gat_y hA hB hl hp (g1 j hj)
    have hw := (g1 j hj).1
    exact ⟨i, i1, (o1 i i1).mpr ⟨i3, fun q => y2 ((lane _ (by omega)).mp (i2 ▸ q))⟩, i4, i5, i6⟩
