/-! ===== price ===== -/
/-- the net with another cost of the only part of an arc -/
def AN.rte (A : AN) (i : Nat) (z : Int) : AN := AN.mk A.n A.M A.fr A.tr A.pt A.en A.tp A.st (uI A.rt (4 * i) z) A.su
theorem b_price {u v : dm_S} {x : Int32} {d : Int64} (h : Inv u v) : same (sp_X10_price [.ref 0, .int x, .long d] u) (sp_X11_price [.ref 0, .int x, .long d] v) := by
  have hI := h
  obtain ⟨A, hN, ⟨n, c, T, p1, p2⟩, hS⟩ := h
  obtain ⟨hA, hC, hM, hk⟩ := hN
  obtain ⟨hn, hM80⟩ := hA.1
  have e1 := hC.1.2
  have e2 := hM.1.2
  have rng : 0 ≤ x ∧ x < nI A.M → (vp_in x 80 ∧ vp_in (x * 4) 320 ∧ vp_in (4 * x) 320) ∧ ((x * 4).toNatClampNeg = 4 * x.toNatClampNeg ∧ (4 * x).toNatClampNeg = 4 * x.toNatClampNeg) ∧ x.toNatClampNeg < A.M ∧ (u.1 16 x.toNatClampNeg = 1 ↔ v.1 6 x.toNatClampNeg ≤ 0) ∧ (u.1 16 x.toNatClampNeg = 1 → A.pt x.toNatClampNeg = 1) := fun z => by
    obtain ⟨x1, x2⟩ := i_nI (by omega) z
    have q1 := (hC.2.2 _ x2).2.2.1
    have q2 := (hM.2.2 _ x2).2.2.1
    have q3 := (hA.2.1 _ x2).2.1
    have t1 : nI (A.pt x.toNatClampNeg) = 1 ↔ A.pt x.toNatClampNeg = 1 := nI_eq (b := 1) (by omega) (by omega)
    have t2 : nI (A.pt x.toNatClampNeg - 1) ≤ 0 ↔ A.pt x.toNatClampNeg - 1 ≤ 0 := nI_leI (b := 0) (by omega) (by omega)
    have m1 : nI x.toNatClampNeg * 4 = nI (4 * x.toNatClampNeg) := by rw [show (4 : Int32) = nI 4 from rfl, pk_mul, Nat.mul_comm]
    have m2 : 4 * nI x.toNatClampNeg = nI (4 * x.toNatClampNeg) := by rw [show (4 : Int32) = nI 4 from rfl, pk_mul]
    rw [← x1] at m1 m2
    rw [q1, q2, t1, t2, m1, m2, nI_clamp (by omega)]
    exact ⟨⟨by rw [x1]; exact vp_in_nI (by omega) (by omega), vp_in_nI (by omega) (by omega), vp_in_nI (by omega) (by omega)⟩, ⟨rfl, rfl⟩, x2, by omega, id⟩
  refine ⟨fun z => by rw [e1] at z; exact ⟨(rng z).1.1, (rng z).1.2.1⟩, fun z => ?_, fun z => ⟨fun z1 => by rw [e2] at z1; exact ⟨(rng z1).1.1, (rng z1).1.2.2⟩, fun z2 => absurd ?_ z, fun _ => ⟨rfl, hI⟩⟩⟩
  · rw [e1] at z
    obtain ⟨r1, ⟨r2, r3⟩, x2, r4, r5⟩ := rng z.1
    have hpt := r5 z.2.1
    have db := l_bd z.2.2
    rw [r2]
    refine ⟨fun z1 => ⟨r1.1, r1.2.2⟩, fun _ => ?_, fun z2 => absurd ⟨by rw [e2]; exact z.1, r4.mp z.2.1, z.2.2⟩ z2⟩
    rw [r3]
    have rtx : ∀ a k, a < A.M → k < A.pt a → uI A.rt (4 * x.toNatClampNeg) d.toInt (4 * a + k) = if a = x.toNatClampNeg then d.toInt else A.rt (4 * a + k) := fun a k ha hk2 => by
      have q4 := (hA.2.1 a ha).2.1.2
      unfold uI
      by_cases y : a = x.toNatClampNeg
      · subst y
        rw [hpt] at hk2
        rw [if_pos (by omega), if_pos rfl]
      · rw [if_neg (by omega), if_neg y]
    refine ⟨rfl, A.rte x.toNatClampNeg d.toInt, ⟨⟨hA.1, fun a ha => ?_, hA.2.2⟩, ⟨hC.1, hC.2.1, fun a ha => ?_⟩, ⟨hM.1, hM.2.1, fun a ha => ?_⟩, hk⟩, ⟨n, c, T, p1, p2⟩, Or.inl ⟨rfl, ⟨rfl, rfl, rfl⟩, rfl, rfl⟩⟩
    · obtain ⟨q1, q2, q3, q4, q5, q6⟩ := hA.2.1 a ha
      refine ⟨q1, q2, q3, fun k hk2 => ⟨(q4 k hk2).1, ?_⟩, fun k hk2 => ⟨(q5 k hk2).1, ?_⟩, q6⟩
      · show -1000000 ≤ uI A.rt (4 * x.toNatClampNeg) d.toInt (4 * a + k) ∧ uI A.rt (4 * x.toNatClampNeg) d.toInt (4 * a + k) ≤ 1000000
        rw [rtx a k ha hk2]
        split
        · exact db
        · exact (q4 k hk2).2
      · show uI A.rt (4 * x.toNatClampNeg) d.toInt (4 * a + k) ≤ uI A.rt (4 * x.toNatClampNeg) d.toInt (4 * a + (k + 1))
        have hk3 : k + 1 < A.pt a := hk2
        rw [rtx a k ha (by omega), rtx a (k + 1) ha hk3]
        by_cases y : a = x.toNatClampNeg
        · rw [y, hpt] at hk3; omega
        · rw [if_neg y, if_neg y]; exact (q5 k hk2).2
    · obtain ⟨q1, q2, q3, q4⟩ := hC.2.2 a ha
      refine ⟨q1, q2, q3, fun k hk2 => ⟨(q4 k hk2).1, ?_⟩⟩
      show (dm_ul (dm_fg u) 18 (4 * x.toNatClampNeg) d).2 18 (4 * a + k) = lI (uI A.rt (4 * x.toNatClampNeg) d.toInt (4 * a + k))
      rw [dm_ul_2, if_pos rfl]
      unfold vp_updL uI
      by_cases y : 4 * a + k = 4 * x.toNatClampNeg
      · rw [if_pos y, if_pos y, lI_to]
      · rw [if_neg y, if_neg y]; exact (q4 k hk2).2
    · obtain ⟨q1, q2, q3, q4, q5⟩ := hM.2.2 a ha
      refine ⟨q1, q2, q3, fun k hk2 => ?_, q5⟩
      show (dm_ul v 7 (4 * x.toNatClampNeg) d).2 7 (4 * a + k) = lI (uI A.rt (4 * x.toNatClampNeg) d.toInt (4 * a + k))
      rw [dm_ul_2, if_pos rfl]
      unfold vp_updL uI
      by_cases y : 4 * a + k = 4 * x.toNatClampNeg
      · rw [if_pos y, if_pos y, lI_to]
      · rw [if_neg y, if_neg y]; exact q4 k hk2
  · obtain ⟨q1, q2, q3⟩ := z2
    rw [e2] at q1
    obtain ⟨-, -, -, r4, -⟩ := rng q1
    exact ⟨by rw [e1]; exact q1, r4.mpr q2, q3⟩
