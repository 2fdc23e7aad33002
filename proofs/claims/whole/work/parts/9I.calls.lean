/-! ===== the calls that only tell ===== -/
theorem SI_st {u v : dm_S} {A : AN} (h : SI u v A) : v.1 0 10 = u.1 0 10 ∧ v.1 0 13 = u.1 8 3 ∧ v.1 0 15 = u.1 9 2 ∧ (u.1 0 10 = 0 → BI u v A) := by
  rcases h with ⟨h1, ⟨a, b, c⟩, h3, h4⟩ | ⟨h1, ⟨a, b⟩, h3, S, h4, h5⟩ | ⟨h1, h2, f, rq, h3, ⟨a, b, c⟩, h5, h6⟩ | ⟨h1, ⟨a, b, c⟩, h3, h4, h5⟩
  · exact ⟨by rw [a, h1], by rw [b, h3], by rw [c, h4], fun z => by rw [h1] at z; exact absurd z (by decide)⟩
  · exact ⟨by rw [a, h1], by rw [b, h3], by rw [h4.1, h5.1], fun z => by rw [h1] at z; exact absurd z (by decide)⟩
  · exact ⟨by rw [a, h1], by rw [b, h5], by rw [c, h2], fun z => by rw [h1] at z; exact absurd z (by decide)⟩
  · exact ⟨by rw [a, h1], by rw [b, h3], by rw [c, h4], fun _ => h5⟩
theorem BI_fr {u v v' : dm_S} {A : AN} (h : BI u v A) (h1 : v'.2 9 = v.2 9) (h2 : v'.2 0 = v.2 0) : BI u v' A := by
  obtain ⟨mm, lo, p, C, nb, a1, a2, a3, a4, a5, a6, a7, a8, a9, a10, a11⟩ := h
  exact ⟨mm, lo, p, C, nb, a1, a2, a3, a4, a5, a6, a7, a8, fun a ha => by rw [h1]; exact a9 a ha, a10, by rw [h2]; exact a11⟩
theorem Inv_ds {u v v' : dm_S} (h : Inv u v) (hf : ds_fr v v') : Inv u v' := by
  obtain ⟨A, h1, h2, h3⟩ := h
  have hm : mr_fr v v' := ⟨fun c _ => by rw [hf.1], fun k _ => by rw [hf.1], fun c hc => hf.2 c (by simp at hc; omega)⟩
  have hc : kc_fr u u := ⟨fun _ _ => rfl, fun _ _ => rfl⟩
  refine ⟨A, NI_fr h1 hc hm, PI_fr h2 hc hm, ?_⟩
  unfold SI s3 MS at h3 ⊢
  rw [hf.1]
  rcases h3 with g | g | g | ⟨g1, g2, g3, g4, g5⟩
  · exact Or.inl g
  · exact Or.inr (Or.inl g)
  · exact Or.inr (Or.inr (Or.inl g))
  · exact Or.inr (Or.inr (Or.inr ⟨g1, g2, g3, g4, BI_fr g5 (hf.2 9 (by decide)) (hf.2 0 (by decide))⟩))
theorem c1_I {u : dm_S} {A : AN} (hA : A.ok) (hC : CR u A) (hL : LN u A) : ∀ a, a ≤ A.M → cn_c1 u A.pt a = lI (sI (fun a => A.rt (4 * a) * A.st (4 * a)) a)
  | 0, _ => rfl
  | a + 1, h => by
    have ih := c1_I hA hC hL a (by omega)
    have ha : a < A.M := by omega
    have p0 : 0 < A.pt a := by have := (hA.2.1 a ha).2.1.1; omega
    have e1 := ((hC.2.2 a ha).2.2.2 0 p0).1
    obtain ⟨l1, l2, l3⟩ := A.l_at ha p0
    have e2 := (hL.2.2 _ l1).2
    rw [Nat.add_zero] at e1 e2 l3
    have e3 : A.c (cn_fs A.pt a) = A.rt (4 * a) := by unfold AN.c; rw [Nat.add_zero] at l3; rw [l3]
    show cn_c1 u A.pt a + u.2 17 (4 * a) * u.2 23 (cn_fs A.pt a) = lI (sI (fun a => A.rt (4 * a) * A.st (4 * a)) a + A.rt (4 * a) * A.st (4 * a))
    rw [ih, e1, e2, e3, lI_mul, lI_add, Int.mul_comm]
theorem c2_I {u : dm_S} {A : AN} {lo : Nat → Int} {s : Int} (hL : LN u A) (h24 : u.2 24 = lF lo) : ∀ l, l ≤ A.K → cn_c2 u (lI s) l = lI (s + ct l A.c lo)
  | 0, _ => by show lI s = lI (s + 0); rw [Int.add_zero]
  | l + 1, h => by
    have ih := c2_I (s := s) hL h24 l (by omega)
    have e2 := (hL.2.2 l (by omega)).2
    show cn_c2 u (lI s) l + u.2 24 l * u.2 23 l = lI (s + (ct l A.c lo + A.c l * lo l))
    rw [ih, h24, e2, lF_at, lI_mul, lI_add, Int.mul_comm, Int.add_assoc]
theorem b_cost {u v : dm_S} (h : Inv u v) : same (sp_X10_cost [.ref 0] u) (sp_X11_cost [.ref 0] v) := by
  have hI := h
  obtain ⟨A, hN, hP, hS⟩ := h
  obtain ⟨hA, hC, hM, hk⟩ := hN
  obtain ⟨s1, -, -, s4⟩ := SI_st hS
  refine ⟨fun z => ?_, fun z => ⟨fun z2 => absurd (s1 ▸ z2) z, fun _ => ⟨rfl, hI⟩⟩⟩
  obtain ⟨mm, lo, p, C, nb, a1, a2, a3, a4, a5, a6, a7, a8, a9, a10, a11⟩ := s4 z
  refine ⟨A.n, A.M, A.fr, A.tr, A.pt, CR_cn hC hA, a2.1, a2.2.1.1.2.2.2, fun _ => ⟨?_, hI⟩, fun z2 => absurd (s1.trans z) z2⟩
  rw [c1_I hA hC a2 A.M (Nat.le_refl _), a11]
  have := c2_I (s := sI (fun a => A.rt (4 * a) * A.st (4 * a)) A.M) a2 a4 A.K (Nat.le_refl _)
  rw [show cn_fs A.pt A.M = A.K from rfl, this]
theorem b_on {u v : dm_S} {x : Int32} (h : Inv u v) : same (sp_X10_on [.ref 0, .int x] u) (sp_X11_on [.ref 0, .int x] v) := by
  have hI := h
  obtain ⟨A, hN, hP, hS⟩ := h
  obtain ⟨hA, hC, hM, hk⟩ := hN
  obtain ⟨s1, -, -, s4⟩ := SI_st hS
  have e1 := hC.1.2
  have e2 := hM.1.2
  have hM80 := hA.1.2
  refine ⟨fun z => ?_, fun z => ⟨fun z2 => absurd ⟨s1 ▸ z2.1, z2.2.1, by rw [e1]; rw [e2] at z2; exact z2.2.2⟩ z, fun _ => ⟨rfl, hI⟩⟩⟩
  obtain ⟨mm, lo, p, C, nb, a1, a2, a3, a4, a5, a6, a7, a8, a9, a10, a11⟩ := s4 z.1
  rw [e1] at z
  obtain ⟨x1, x2⟩ := i_nI (by omega) z.2
  refine ⟨A.n, A.M, A.fr, A.tr, A.pt, x.toNatClampNeg, CR_cn hC hA, a2.1, x2, x1, fun _ => ⟨by rw [x1]; exact vp_in_nI (by omega) (by omega), ?_, hI⟩, fun z2 => absurd ⟨s1.trans z.1, z.2.1, by rw [e2]; exact z.2.2⟩ z2⟩
  rw [cn_am_I hA hC a4 x2, a9 _ x2]
theorem b_ring {u v : dm_S} {x : Int32} (h : Inv u v) : same (sp_X10_ring [.ref 0, .int x] u) (sp_X11_ring [.ref 0, .int x] v) := by
  have hI := h
  obtain ⟨A, hN, hP, hS⟩ := h
  obtain ⟨s1, s2, -, s4⟩ := SI_st hS
  have key : 0 ≤ x ∧ x < u.1 8 3 → vp_in x 24 ∧ u.1 46 x.toNatClampNeg = v.1 10 x.toNatClampNeg := fun z => by
    have z0 : u.1 8 3 = 0 → False := fun q => by rw [q] at z; exact dm_i_le.mpr z.2 z.1
    rcases hS with ⟨h1, -, h3, h4⟩ | ⟨h1, -, h3, -⟩ | ⟨h1, h2, f, rq, h3, -, h5, h6⟩ | ⟨h1, -, h3, -⟩
    · exact absurd h3 z0
    · exact absurd h3 z0
    · rw [h5] at z
      obtain ⟨x1, x2⟩ := i_nI (by omega) z
      obtain ⟨q1, q2⟩ := h6 _ x2
      exact ⟨by rw [x1]; exact vp_in_nI (by omega) (by omega), by rw [q1, q2]⟩
    · exact absurd h3 z0
  refine ⟨fun z => (key z).1, fun z => ?_, ?_⟩
  · rw [s2] at z; exact (key z).1
  · refine ⟨?_, hI⟩
    rw [s2]
    by_cases z : 0 ≤ x ∧ x < u.1 8 3
    · rw [if_pos z, if_pos z, (key z).2]
    · rw [if_neg z, if_neg z]
