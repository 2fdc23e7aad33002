/-! ===== span, keeps ===== -/
theorem Inv_37 {u v : dm_S} {f : Nat → Int64} (h : Inv u v) : Inv (dm_sj u 37 f) v := by
  obtain ⟨A, h1, ⟨n, c, T, p1, p2⟩, h3⟩ := h
  exact ⟨A, NI_fr2 h1 su_37 (sv_0 v), ⟨n, c, T, p1, p2⟩, SI_fr h3 su_37 (sv_0 v)⟩
/-- room and load of the only lane of an arc -/
theorem lw_yo {u : dm_S} {A : AN} {mm lo p : Nat → Int} {a : Nat} (hA : A.ok) (hm : ∀ l, l < A.K → mm l = A.w 1000000000 l) (e22 : u.2 22 = lF mm) (e24 : u.2 24 = lF lo) (ho : A.opt mm p lo) (hsm : ∀ a, a < A.M → A.on lo a ≤ 430000000) (ha : a < A.M) (hpt : A.pt a = 1) : (lw_m u (2 * cn_fs A.pt a) = 0 ↔ ¬ A.yo (A.on lo) (2 * a) = true) ∧ (lw_m u (2 * cn_fs A.pt a + 1) = 0 ↔ ¬ A.yo (A.on lo) (2 * a + 1) = true) := by
  have hl := A.l_at ha (show 0 < A.pt a by omega)
  rw [Nat.add_zero] at hl
  have o9 := AN.opt_cg ho hm
  have f9 := o9.1 _ hl.1
  have w9 := A.w_bd hA (B := 1000000000) (by decide) hl.1
  have wat := AN.w_at (B := 1000000000) ha (show 0 < A.pt a by omega)
  rw [Nat.add_zero, Nat.add_zero] at wat
  have hed : A.ed 1000000000 a 0 = if A.en a then 1000000000 else A.tp a := by unfold AN.ed; rw [if_neg (by omega)]
  rw [hed] at wat
  have hon : A.on lo a = A.st (4 * a) + lo (cn_fs A.pt a) := by
    unfold AN.on AN.am
    rw [hpt]
    show _ + (0 + lo (cn_fs A.pt a + 0)) = _
    rw [Nat.add_zero]; omega
  have hs := hsm a ha
  have h0l : (0 : Int64) = lI 0 := rfl
  constructor
  · unfold lw_m
    rw [if_pos (by omega), show 2 * cn_fs A.pt a / 2 = cn_fs A.pt a by omega, e22, e24, lF_at, lF_at, lI_sub, hm _ hl.1, h0l, lI_eq (by unfold lB; omega) (by unfold lB; omega), AN.y_e.1, Bool.or_eq_true, decide_eq_true_eq]
    cases hq : A.en a with
    | true =>
      rw [hq, if_pos rfl] at wat
      exact ⟨fun z => by omega, fun z => absurd (Or.inl rfl) z⟩
    | false =>
      rw [hq, if_neg (by decide)] at wat
      refine ⟨fun z q => ?_, fun z => ?_⟩
      · rcases q with q | q
        · cases q
        · omega
      · have : ¬ A.on lo a < A.tp a := fun q => z (Or.inr q)
        omega
  · unfold lw_m
    rw [if_neg (by omega), show (2 * cn_fs A.pt a + 1) / 2 = cn_fs A.pt a by omega, e24, lF_at, h0l, lI_eq (by unfold lB; omega) (by unfold lB; omega), AN.y_o.1, decide_eq_true_eq]
    exact ⟨fun z => by omega, fun z => by omega⟩
set_option maxHeartbeats 1600000 in
theorem b_span {u v : dm_S} {x y : Int32} (h : Inv u v) : same (sp_X10_span [.ref 0, .int x, .int y] u) (sp_X11_span [.ref 0, .int x, .int y] v) := by
  have hI := h
  obtain ⟨A, hN, hP, hS⟩ := h
  obtain ⟨hA, hC, hM, hk⟩ := hN
  obtain ⟨hn, hM80⟩ := hA.1
  obtain ⟨s1, -, -, s4⟩ := SI_st hS
  have e1 := hC.1.2
  have e2 := hM.1.2
  have rng : 0 ≤ x ∧ x < nI A.M → vp_in x 80 ∧ (u.1 16 x.toNatClampNeg = 1 ↔ v.1 6 x.toNatClampNeg ≤ 0) ∧ (u.1 16 x.toNatClampNeg = 1 → A.pt x.toNatClampNeg = 1) := fun z => by
    obtain ⟨x1, x2⟩ := i_nI (by omega) z
    have q1 := (hC.2.2 _ x2).2.2.1
    have q2 := (hM.2.2 _ x2).2.2.1
    have q3 := (hA.2.1 _ x2).2.1
    have t1 : nI (A.pt x.toNatClampNeg) = 1 ↔ A.pt x.toNatClampNeg = 1 := nI_eq (b := 1) (by omega) (by omega)
    have t2 : nI (A.pt x.toNatClampNeg - 1) ≤ 0 ↔ A.pt x.toNatClampNeg - 1 ≤ 0 := nI_leI (b := 0) (by omega) (by omega)
    rw [q1, q2, t1, t2]
    exact ⟨by rw [x1]; exact vp_in_nI (by omega) (by omega), by omega, id⟩
  refine ⟨fun z => by rw [e1] at z; exact (rng z).1, fun z => ?_, fun z => ⟨fun z1 z2 => by rw [e2] at z2; exact (rng ⟨z1, z2⟩).1, fun _ => ⟨rfl, hI⟩, fun q => absurd ?_ z⟩⟩
  · rw [e1] at z
    obtain ⟨z1, z2, z3, z4, z5⟩ := z
    obtain ⟨r1, r2, r3⟩ := rng z2
    have hpt := r3 z3
    obtain ⟨x1, x2⟩ := i_nI (by omega) z2
    obtain ⟨mm, lo, p, C, nb, a1, a2, a3, a4, a5, a6, a7, a8, a9, a10, a11⟩ := s4 z1
    obtain ⟨ok, f9, pf9⟩ := BI_ds (v := v) (u := u) hA hM a1 a6 a9 a10 x
    obtain ⟨y1, y2⟩ := lw_yo hA a1 a3 a4 a6 a10 x2 hpt
    obtain ⟨⟨n1, n2, n3⟩, -⟩ := hA.2.1 _ x2
    have good : v.1 0 10 = 0 ∧ (0 ≤ x ∧ x < v.1 0 1) ∧ (0 ≤ y ∧ y ≤ 1) ∧ v.1 6 x.toNatClampNeg ≤ 0 := ⟨s1.trans z1, by rw [e2]; exact z2, ⟨z4, z5⟩, r2.mp z3⟩
    have hFl : (1152921504606846976 : Int64) = lI fAR := rfl
    have hF : fAR = 1152921504606846976 := rfl
    -- what the reference answers
    have ref : ∀ (val : Int64) (u' : dm_S), Inv u' v → (y = 0 → ∀ V : Nat → Int, dI A.n (2 * A.M) (wb A.fr A.tr) (we A.fr A.tr) (A.yc (A.on lo)) (yn A (A.on lo) x) (ys (nI (A.tr x.toNatClampNeg))) V → dR (2 * A.M) (wb A.fr A.tr) (we A.fr A.tr) (A.yc (A.on lo)) (yn A (A.on lo) x) V → val = lI (lm0 A (A.on lo) V x.toNatClampNeg)) → (¬ y = 0 → ∀ V : Nat → Int, dI A.n (2 * A.M) (wb A.fr A.tr) (we A.fr A.tr) (A.yc (A.on lo)) (yn A (A.on lo) x) (ys (nI (A.fr x.toNatClampNeg))) V → dR (2 * A.M) (wb A.fr A.tr) (we A.fr A.tr) (A.yc (A.on lo)) (yn A (A.on lo) x) V → val = lI (lm1 A (A.on lo) V x.toNatClampNeg)) → sp_X11_span [.ref 0, .int x, .int y] v (fun r' v' => some (Value.long val) = r' ∧ Inv u' v') := fun val u' hI' c0 c1 => ⟨fun _ _ => r1, fun q => absurd good q, fun _ => ⟨A, A.on lo, p, x.toNatClampNeg, ok, ⟨x2, x1⟩, fun hy v' V b1 b2 b3 b4 => ⟨by rw [c0 hy V b3 b4]; rfl, Inv_ds hI' b1⟩, fun hy v' V b1 b2 b3 b4 => ⟨by rw [c1 hy V b3 b4]; rfl, Inv_ds hI' b1⟩⟩⟩
    have hp320 := AN.fs_le hA x2
    have hK := A.K_le hA
    refine ⟨A.n, A.M, A.fr, A.tr, A.pt, C, nb, _, _, x.toNatClampNeg, cn_fs A.pt x.toNatClampNeg, ⟨CR_cn hC hA, WG_wg hA a8, ⟨x2, x1⟩, by omega, a2.1 _ (by omega)⟩, fun hy => ⟨fun q => ?_, fun q => ?_⟩, fun hy => ⟨fun q => ?_, fun q => ?_⟩⟩
    · refine ref _ u hI (fun _ V _ _ => ?_) (fun g => absurd hy g)
      unfold lm0
      rw [if_neg (fun g => y1.mp q g.1)]; rfl
    · refine ref _ _ (Inv_37 hI) (fun _ V b3 b4 => ?_) (fun g => absurd hy g)
      have b3' := b3
      have b4' := b4
      rw [x1] at b3' b4'
      rw [nI_clamp (by omega)] at b3'
      have E := ds_cl hA a1 a6 a10 a8 x2 hpt n2 b3' b4' _ n1
      have vb := ds_V ok b3 b4 n1
      unfold lm_lo lm0
      rw [E, hFl, lI_neg]
      have yy : A.yo (A.on lo) (2 * x.toNatClampNeg) = true := Classical.byContradiction (fun g => q (y1.mpr g))
      by_cases w : V (A.fr x.toNatClampNeg) = fAR
      · rw [if_pos (by rw [w]), if_neg (fun g => g.2 w)]; rfl
      · rw [if_neg (fun g => w ((lI_eq (by unfold lB; omega) (by unfold lB; omega)).mp g)), if_pos ⟨yy, w⟩]
    · refine ref _ u hI (fun g => absurd g hy) (fun _ V _ _ => ?_)
      unfold lm1
      rw [if_neg (fun g => y2.mp q g.1)]; rfl
    · refine ref _ _ (Inv_37 hI) (fun g => absurd g hy) (fun _ V b3 b4 => ?_)
      have b3' := b3
      have b4' := b4
      rw [x1] at b3' b4'
      rw [nI_clamp (by omega)] at b3'
      have E := ds_cl hA a1 a6 a10 a8 x2 hpt n1 b3' b4' _ n2
      have vb := ds_V ok b3 b4 n2
      unfold lm_hi lm1
      rw [E, hFl]
      have yy : A.yo (A.on lo) (2 * x.toNatClampNeg + 1) = true := Classical.byContradiction (fun g => q (y2.mpr g))
      by_cases w : V (A.tr x.toNatClampNeg) = fAR
      · rw [if_pos (by rw [w]), if_neg (fun g => g.2 w)]; rfl
      · rw [if_neg (fun g => w ((lI_eq (by unfold lB; omega) (by unfold lB; omega)).mp g)), if_pos ⟨yy, w⟩]
  · obtain ⟨q1, q2, q3, q4⟩ := q
    rw [e2] at q2
    obtain ⟨r1, r2, r3⟩ := rng q2
    exact ⟨s1 ▸ q1, by rw [e1]; exact q2, r2.mpr q4, q3.1, q3.2⟩
