/-! ===== set, told, potential, check ===== -/
theorem dm_ct_at {S : Nat → Bool} : ∀ {n i : Nat}, i < dm_ct S n → ∃ k, k < n ∧ S k = true ∧ dm_ct S k = i
  | 0, i, h => absurd h (Nat.not_lt_zero _)
  | n + 1, i, h => by
    have h' : i < dm_ct S n + (if S n then 1 else 0) := h
    by_cases y : i < dm_ct S n
    · obtain ⟨k, k1, k2, k3⟩ := dm_ct_at y
      exact ⟨k, by omega, k2, k3⟩
    · cases hq : S n with
      | true => rw [hq, if_pos rfl] at h'; exact ⟨n, by omega, hq, by omega⟩
      | false => rw [hq, if_neg (by decide)] at h'; omega
theorem b_set {u v : dm_S} {x : Int32} (h : Inv u v) : same (sp_X10_set [.ref 0, .int x] u) (sp_X11_set [.ref 0, .int x] v) := by
  have hI := h
  obtain ⟨A, hN, hP, hS⟩ := h
  have hn := hN.1.1.1
  obtain ⟨s1, -, s3, s4⟩ := SI_st hS
  have key : 0 ≤ x ∧ x < u.1 9 2 → vp_in x 24 ∧ u.1 48 x.toNatClampNeg = v.1 11 x.toNatClampNeg := fun z => by
    have z0 : u.1 9 2 = 0 → False := fun q => by rw [q] at z; exact dm_i_le.mpr z.2 z.1
    rcases hS with ⟨h1, -, h3, h4⟩ | ⟨h1, -, h3, S, h4, h5⟩ | ⟨h1, h2, -⟩ | ⟨h1, -, h3, h4, -⟩
    · exact absurd h4 z0
    · have hc := dm_ct_le S A.n
      rw [h4.1] at z
      obtain ⟨x1, x2⟩ := i_nI (by omega) z
      obtain ⟨k, k1, k2, k3⟩ := dm_ct_at x2
      refine ⟨by rw [x1]; exact vp_in_nI (by omega) (by omega), ?_⟩
      have q1 := h4.2 k k1 k2
      have q2 := h5.2 k k1 k2
      rw [k3] at q1 q2
      rw [q1, q2]
    · exact absurd h2 z0
    · exact absurd h4 z0
  refine ⟨fun z => (key z).1, fun z => ?_, ?_⟩
  · rw [s3] at z; exact (key z).1
  · refine ⟨?_, hI⟩
    rw [s3]
    by_cases z : 0 ≤ x ∧ x < u.1 9 2
    · rw [if_pos z, if_pos z, (key z).2]
    · rw [if_neg z, if_neg z]
theorem b_told {u v : dm_S} {x : Int32} (h : Inv u v) : same (sp_X10_told [.ref 0, .int x] u) (sp_X11_told [.ref 0, .int x] v) := by
  have hI := h
  obtain ⟨A, hN, hP, hS⟩ := h
  obtain ⟨hA, hC, hM, hk⟩ := hN
  obtain ⟨s1, s2, s3, s4⟩ := SI_st hS
  obtain ⟨n, c, T, p1, p2⟩ := hP
  refine ⟨fun z => ⟨A, hA, hM, ?_, hI⟩, fun z => ⟨?_, hI⟩⟩
  · rw [if_neg (by omega), if_neg (by omega), if_pos z, hk]
  · have e6 : (x.toInt = 6) ↔ x = 6 := ⟨fun q => Int32.toInt_inj.mp q, fun q => by rw [q]; rfl⟩
    rw [hC.1.1, hC.1.2, hM.1.1, hM.1.2, s1, s2, s3, p1.1.1.2, p2.1.2]
    by_cases q0 : x.toInt = 0
    · rw [if_pos q0, if_pos q0]
    · rw [if_neg q0, if_neg q0]
      by_cases q1 : x.toInt = 1
      · rw [if_pos q1, if_pos q1]
      · rw [if_neg q1, if_neg q1, if_neg z]
        by_cases q3 : x.toInt = 3
        · rw [if_pos q3, if_pos q3]
        · rw [if_neg q3, if_neg q3]
          by_cases q4 : x.toInt = 4
          · rw [if_pos q4, if_pos q4]
          · rw [if_neg q4, if_neg q4]
            by_cases q5 : x.toInt = 5
            · rw [if_pos q5, if_pos q5]
            · rw [if_neg q5, if_neg q5]
              by_cases q6 : x = 6
              · rw [if_pos (e6.mpr q6), if_pos q6]
              · rw [if_neg (fun q => q6 (e6.mp q)), if_neg q6]
/-- what the reference's search for prices relies on -/
theorem BI_ds {u v : dm_S} {A : AN} {mm lo p : Nat → Int} (hA : A.ok) (hM : MR v A) (hm : ∀ l, l < A.K → mm l = A.w 1000000000 l) (ho : A.opt mm p lo) (hf : FL v A.M (A.on lo)) (hs : ∀ a, a < A.M → A.on lo a ≤ 430000000) (bt : Int32) : ds_ok v A (A.on lo) p bt ∧ fits A.K (A.w 1000000000) lo ∧ pf A.K A.b A.e (A.w 1000000000) A.c p lo := by
  have o9 := AN.opt_cg ho hm
  refine ⟨⟨hA, hM, hf, fun a ha => ?_, AN.y_dP hA (B := 1000000000) (by decide) o9.1 o9.2.2 (fun a ha _ => by have := hs a ha; omega) (fun j hj => by unfold yn at hj; simp at hj; exact hj.1)⟩, o9.1, o9.2.2⟩
  have h1 := (hA.2.1 a ha).2.2.1
  have h2 : 0 ≤ A.am lo a := sI_ge0 (fun k hk => (o9.1 _ (A.l_at ha hk).1).1)
  have h3 := hs a ha
  have h4 : A.on lo a = A.st (4 * a) + A.am lo a := rfl
  omega
theorem b_potential {u v : dm_S} {x : Int32} (h : Inv u v) : same (sp_X10_potential [.ref 0, .int x] u) (sp_X11_potential [.ref 0, .int x] v) := by
  have hI := h
  obtain ⟨A, hN, hP, hS⟩ := h
  obtain ⟨hA, hC, hM, hk⟩ := hN
  have hn := hA.1.1
  obtain ⟨s1, -, -, s4⟩ := SI_st hS
  have e1 := hC.1.1
  have e2 := hM.1.1
  refine ⟨fun z => ?_, fun z => ⟨fun _ => ⟨rfl, hI⟩, fun z2 => absurd ⟨s1 ▸ z2.1, z2.2.1, by rw [e1]; rw [e2] at z2; exact z2.2.2⟩ z⟩⟩
  obtain ⟨mm, lo, p, C, nb, a1, a2, a3, a4, a5, a6, a7, a8, a9, a10, a11⟩ := s4 z.1
  rw [e1] at z
  obtain ⟨x1, x2⟩ := i_nI (by omega) z.2
  obtain ⟨ok, f9, pf9⟩ := BI_ds (v := v) (u := u) hA hM a1 a6 a9 a10 (-1)
  refine ⟨by rw [x1]; exact vp_in_nI (by omega) (by omega), fun z2 => absurd ⟨s1.trans z.1, z.2.1, by rw [e2]; exact z.2.2⟩ z2, fun _ => ⟨A, A.on lo, p, x.toNatClampNeg, ok, ⟨x2, x1⟩, fun v' V b1 b2 b3 b4 => ⟨?_, Inv_ds hI b1⟩⟩⟩
  have hpr := AN.y_prc hA (B := 1000000000) (on := yn A (A.on lo) (-1)) (V0 := ys (-1)) (by decide) f9 pf9 (fun a ha _ => by have := a10 a ha; omega) (fun j hj => by
    have hM80 := hA.1.2
    unfold yn
    have : ¬ nI (j / 2) = -1 := nI_nm1 (by omega)
    simp [this]) (fun v _ => if_pos (Or.inl rfl)) b3 b4
  rw [a5, lF_at, AN.prc_uq (AN.prc_cg a7 a1) hpr _ x2]
