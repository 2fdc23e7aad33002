/-! ===== keeps ===== -/
theorem lm_v0_I {u v : dm_S} {A : AN} {mm lo p V : Nat → Int} {C a : Nat} {nb : Nat → Nat} (hA : A.ok) (a1 : ∀ l, l < A.K → mm l = A.w 1000000000 l) (a3 : u.2 22 = lF mm) (a4 : u.2 24 = lF lo) (a6 : A.opt mm p lo) (a8 : WG u A mm lo C nb) (a10 : ∀ a, a < A.M → A.on lo a ≤ 430000000) (ha : a < A.M) (hpt : A.pt a = 1) (ok : ds_ok v A (A.on lo) p (nI a)) (b3 : dI A.n (2 * A.M) (wb A.fr A.tr) (we A.fr A.tr) (A.yc (A.on lo)) (yn A (A.on lo) (nI a)) (ys (nI (A.tr a))) V) (b4 : dR (2 * A.M) (wb A.fr A.tr) (we A.fr A.tr) (A.yc (A.on lo)) (yn A (A.on lo) (nI a)) V) : lm_v0 u A.n A.fr A.tr C nb (fun j => wb A.b A.e (nb j)) (fun j => we A.b A.e (nb j)) a (cn_fs A.pt a) = lI (lm0 A (A.on lo) V a) := by
  obtain ⟨y1, y2⟩ := lw_yo hA a1 a3 a4 a6 a10 ha hpt
  obtain ⟨⟨n1, n2, n3⟩, -⟩ := hA.2.1 _ ha
  have hFl : (1152921504606846976 : Int64) = lI fAR := rfl
  have hF : fAR = 1152921504606846976 := rfl
  unfold lm_v0 lm0
  by_cases q : lw_m u (2 * cn_fs A.pt a) = 0
  · rw [if_pos q, if_neg (fun g => y1.mp q g.1)]; rfl
  · have E := ds_cl hA a1 a6 a10 a8 ha hpt n2 b3 b4 _ n1
    have vb := ds_V ok b3 b4 n1
    rw [if_neg q]
    unfold lm_lo
    rw [E, hFl, lI_neg]
    have yy : A.yo (A.on lo) (2 * a) = true := Classical.byContradiction (fun g => q (y1.mpr g))
    by_cases w : V (A.fr a) = fAR
    · rw [if_pos (by rw [w]), if_neg (fun g => g.2 w)]; rfl
    · rw [if_neg (fun g => w ((lI_eq (by unfold lB; omega) (by unfold lB; omega)).mp g)), if_pos ⟨yy, w⟩]
theorem lm_v1_I {u v : dm_S} {A : AN} {mm lo p V : Nat → Int} {C a : Nat} {nb : Nat → Nat} (hA : A.ok) (a1 : ∀ l, l < A.K → mm l = A.w 1000000000 l) (a3 : u.2 22 = lF mm) (a4 : u.2 24 = lF lo) (a6 : A.opt mm p lo) (a8 : WG u A mm lo C nb) (a10 : ∀ a, a < A.M → A.on lo a ≤ 430000000) (ha : a < A.M) (hpt : A.pt a = 1) (ok : ds_ok v A (A.on lo) p (nI a)) (b3 : dI A.n (2 * A.M) (wb A.fr A.tr) (we A.fr A.tr) (A.yc (A.on lo)) (yn A (A.on lo) (nI a)) (ys (nI (A.fr a))) V) (b4 : dR (2 * A.M) (wb A.fr A.tr) (we A.fr A.tr) (A.yc (A.on lo)) (yn A (A.on lo) (nI a)) V) : lm_v1 u A.n A.fr A.tr C nb (fun j => wb A.b A.e (nb j)) (fun j => we A.b A.e (nb j)) a (cn_fs A.pt a) = lI (lm1 A (A.on lo) V a) := by
  obtain ⟨y1, y2⟩ := lw_yo hA a1 a3 a4 a6 a10 ha hpt
  obtain ⟨⟨n1, n2, n3⟩, -⟩ := hA.2.1 _ ha
  have hFl : (1152921504606846976 : Int64) = lI fAR := rfl
  have hF : fAR = 1152921504606846976 := rfl
  unfold lm_v1 lm1
  by_cases q : lw_m u (2 * cn_fs A.pt a + 1) = 0
  · rw [if_pos q, if_neg (fun g => y2.mp q g.1)]; rfl
  · have E := ds_cl hA a1 a6 a10 a8 ha hpt n1 b3 b4 _ n2
    have vb := ds_V ok b3 b4 n2
    rw [if_neg q]
    unfold lm_hi
    rw [E, hFl]
    have yy : A.yo (A.on lo) (2 * a + 1) = true := Classical.byContradiction (fun g => q (y2.mpr g))
    by_cases w : V (A.tr a) = fAR
    · rw [if_pos (by rw [w]), if_neg (fun g => g.2 w)]; rfl
    · rw [if_neg (fun g => w ((lI_eq (by unfold lB; omega) (by unfold lB; omega)).mp g)), if_pos ⟨yy, w⟩]
set_option maxHeartbeats 1600000 in
theorem b_keeps {u v : dm_S} {x : Int32} {c : Int64} (h : Inv u v) : same (sp_X10_keeps [.ref 0, .int x, .long c] u) (sp_X11_keeps [.ref 0, .int x, .long c] v) := by
  have hI := h
  obtain ⟨A, hN, hP, hS⟩ := h
  obtain ⟨hA, hC, hM, hk⟩ := hN
  obtain ⟨hn, hM80⟩ := hA.1
  obtain ⟨s1, -, -, s4⟩ := SI_st hS
  have e1 := hC.1.2
  have e2 := hM.1.2
  have rng : 0 ≤ x ∧ x < nI A.M → vp_in x 80 ∧ (u.1 16 x.toNatClampNeg = 1 ↔ v.1 6 x.toNatClampNeg ≤ 0) ∧ (u.1 16 x.toNatClampNeg = 1 → A.pt x.toNatClampNeg = 1) := fun z => by
    obtain ⟨x1, x2⟩ := i_nI (by omega) z
    have q1 := (hC.2.2 _ x2).2.2.1
    have q2 := (hM.2.2 _ x2).2.2.1
    have q3 := (hA.2.1 _ x2).2.1
    have t1 : nI (A.pt x.toNatClampNeg) = 1 ↔ A.pt x.toNatClampNeg = 1 := nI_eq (b := 1) (by omega) (by omega)
    have t2 : nI (A.pt x.toNatClampNeg - 1) ≤ 0 ↔ A.pt x.toNatClampNeg - 1 ≤ 0 := nI_leI (b := 0) (by omega) (by omega)
    rw [q1, q2, t1, t2]
    exact ⟨by rw [x1]; exact vp_in_nI (by omega) (by omega), by omega, id⟩
  refine ⟨fun z => by rw [e1] at z; exact (rng z).1, fun z => ?_, fun z => ⟨fun z1 z2 => by rw [e2] at z2; exact (rng ⟨z1, z2⟩).1, fun _ => ⟨rfl, hI⟩, fun q => absurd ?_ z⟩⟩
  · rw [e1] at z
    obtain ⟨z1, z2, z3⟩ := z
    obtain ⟨r1, r2, r3⟩ := rng z2
    have hpt := r3 z3
    obtain ⟨x1, x2⟩ := i_nI (by omega) z2
    obtain ⟨mm, lo, p, C, nb, a1, a2, a3, a4, a5, a6, a7, a8, a9, a10, a11⟩ := s4 z1
    obtain ⟨ok, f9, pf9⟩ := BI_ds (v := v) (u := u) hA hM a1 a6 a9 a10 x
    have good : v.1 0 10 = 0 ∧ (0 ≤ x ∧ x < v.1 0 1) ∧ v.1 6 x.toNatClampNeg ≤ 0 := ⟨s1.trans z1, by rw [e2]; exact z2, r2.mp z3⟩
    have hp320 := AN.fs_le hA x2
    have hK := A.K_le hA
    refine ⟨A.n, A.M, A.fr, A.tr, A.pt, C, nb, _, _, x.toNatClampNeg, cn_fs A.pt x.toNatClampNeg, ⟨CR_cn hC hA, WG_wg hA a8, ⟨x2, x1⟩, by omega, a2.1 _ (by omega)⟩, fun u1 u2 hu1 hu2 => ?_⟩
    have I1 : Inv u1 v ∧ su_fr u u1 := by
      rw [hu1]; unfold lm_u0
      split
      · exact ⟨hI, su_0 u⟩
      · exact ⟨Inv_37 hI, su_37⟩
    have I2 : Inv u2 v := by
      rw [hu2]; unfold lm_u1
      split
      · exact I1.1
      · exact Inv_37 I1.1
    have f1 := I1.2
    have b8 : WG u1 A mm lo C nb := by
      unfold WG WGp at a8 ⊢
      rw [f1.1 3 (by decide) (by decide), f1.1 28 (by decide) (by decide), f1.1 29 (by decide) (by decide), f1.1 30 (by decide) (by decide), f1.2 31 (by decide)]
      exact a8
    have b22 : u1.2 22 = lF mm := by rw [f1.2 22 (by decide)]; exact a3
    have b24 : u1.2 24 = lF lo := by rw [f1.2 24 (by decide)]; exact a4
    have vals : ∀ V W : Nat → Int, dI A.n (2 * A.M) (wb A.fr A.tr) (we A.fr A.tr) (A.yc (A.on lo)) (yn A (A.on lo) x) (ys (nI (A.tr x.toNatClampNeg))) V → dR (2 * A.M) (wb A.fr A.tr) (we A.fr A.tr) (A.yc (A.on lo)) (yn A (A.on lo) x) V → dI A.n (2 * A.M) (wb A.fr A.tr) (we A.fr A.tr) (A.yc (A.on lo)) (yn A (A.on lo) x) (ys (nI (A.fr x.toNatClampNeg))) W → dR (2 * A.M) (wb A.fr A.tr) (we A.fr A.tr) (A.yc (A.on lo)) (yn A (A.on lo) x) W → (lm_k (lm_v0 u A.n A.fr A.tr C nb (fun j => wb A.b A.e (nb j)) (fun j => we A.b A.e (nb j)) x.toNatClampNeg (cn_fs A.pt x.toNatClampNeg)) (lm_v1 u1 A.n A.fr A.tr C nb (fun j => wb A.b A.e (nb j)) (fun j => we A.b A.e (nb j)) x.toNatClampNeg (cn_fs A.pt x.toNatClampNeg)) c ↔ kpr (lI (lm0 A (A.on lo) V x.toNatClampNeg)) (lI (lm1 A (A.on lo) W x.toNatClampNeg)) c) := fun V W v1 v2 w1 w2 => by
      have okx := ok
      rw [x1] at okx v1 v2 w1 w2
      rw [nI_clamp (by omega)] at v1 w1
      rw [lm_v0_I hA a1 a3 a4 a6 a8 a10 x2 hpt okx v1 v2, lm_v1_I hA a1 b22 b24 a6 b8 a10 x2 hpt okx w1 w2]
      exact Iff.rfl
    refine ⟨fun hk1 => ⟨fun _ _ => r1, fun q => absurd good q, fun _ => ⟨A, A.on lo, p, x.toNatClampNeg, ok, ⟨x2, x1⟩, fun v' V W b1 v1 v2 w1 w2 => ⟨fun _ => ⟨rfl, Inv_ds I2 b1⟩, fun q => absurd ((vals V W v1 v2 w1 w2).mp hk1) q⟩⟩⟩, fun hk1 => ⟨fun _ _ => r1, fun q => absurd good q, fun _ => ⟨A, A.on lo, p, x.toNatClampNeg, ok, ⟨x2, x1⟩, fun v' V W b1 v1 v2 w1 w2 => ⟨fun q => absurd ((vals V W v1 v2 w1 w2).mpr q) hk1, fun _ => ⟨rfl, Inv_ds I2 b1⟩⟩⟩⟩⟩
  · obtain ⟨q1, q2, q4⟩ := q
    rw [e2] at q2
    obtain ⟨r1, r2, r3⟩ := rng q2
    exact ⟨s1 ▸ q1, by rw [e1]; exact q2, r2.mpr q4⟩
