/-! ===== assign, put, clear ===== -/
theorem i_bd {x : Int32} {a b : Nat} (ha : a < 2147483648) (hb : b < 2147483648) (h : nI a ≤ x ∧ x ≤ nI b) : x = nI x.toNatClampNeg ∧ a ≤ x.toNatClampNeg ∧ x.toNatClampNeg ≤ b := by
  have h1 := Int32.le_iff_toInt_le.mp h.1
  have h2 := Int32.le_iff_toInt_le.mp h.2
  unfold nI at h1 h2
  rw [Int32.toInt_ofNat_of_lt (by omega)] at h1 h2
  have h0 : 0 ≤ x := Int32.le_iff_toInt_le.mpr (by show (0 : Int) ≤ x.toInt; omega)
  refine ⟨(nI_of3 h0).symm, ?_, ?_⟩
  · unfold Int32.toNatClampNeg; omega
  · unfold Int32.toNatClampNeg; omega
theorem b_assign {u v : dm_S} {x : Int32} (h : Inv u v) : same (sp_X10_assign [.ref 0, .int x] u) (sp_X11_assign [.ref 0, .int x] v) := by
  have hI := h
  obtain ⟨A, hN, hP, hS⟩ := h
  refine ⟨fun z => ⟨fun _ => ⟨rfl, ?_⟩, fun z2 => absurd z z2⟩, fun z => ⟨fun z2 => absurd z2 z, fun _ => ⟨rfl, hI⟩⟩⟩
  obtain ⟨x1, x2, x3⟩ := i_bd (a := 1) (b := 8) (by omega) (by omega) z
  obtain ⟨T, hT⟩ := pT_ex (n := x.toNatClampNeg) (by omega) (fun _ => pF)
  have h1 : su_fr u (dm_fj (dm_ui (dm_ui u 10 3 x) 10 4 0) 49 64 1152921504606846976) := by
    refine ⟨fun c q1 q2 => ?_, fun c hc => ?_⟩
    · show (dm_ui (dm_ui u 10 3 x) 10 4 0).1 c = _
      rw [dm_ui_1, if_neg q1, dm_ui_1, if_neg q1]
    · show (if c = 49 then (fun j => if j < 64 then (1152921504606846976 : Int64) else u.2 49 j) else u.2 c) = u.2 c
      rw [if_neg (by simp at hc; omega)]
  have h2 : sv_fr v (dm_fi (dm_ui v 0 27 x) 22 64 0) := by
    refine ⟨fun k hk => ?_, fun c hc => ?_, fun c _ => rfl⟩
    · show (dm_ui v 0 27 x).1 0 k = _
      rw [dm_ui_1, if_pos rfl]
      exact if_neg (by simp at hk; omega)
    · show (if c = 22 then (fun j => if j < 64 then (0 : Int32) else (dm_ui v 0 27 x).1 22 j) else (dm_ui v 0 27 x).1 c) = _
      rw [if_neg (by simp at hc; omega), dm_ui_1, if_neg (by simp at hc; omega)]
  refine ⟨A, NI_fr2 hN h1 h2, ⟨x.toNatClampNeg, fun _ => pF, T, ⟨⟨⟨by omega, ?_⟩, fun k _ => Or.inl rfl, fun k hk => ?_⟩, hT, fun _ q => absurd ?_ q⟩, ⟨by omega, ?_⟩, fun _ k hk => Or.inl ⟨?_, rfl⟩⟩, SI_fr hS h1 h2⟩
  · show (dm_ui (dm_ui u 10 3 x) 10 4 0).1 10 3 = _
    rw [dm_ui_1, if_pos rfl]
    exact (if_neg (by decide)).trans (by rw [dm_ui_1, if_pos rfl]; exact (if_pos rfl).trans x1)
  · show (if k < 64 then (1152921504606846976 : Int64) else u.2 49 k) = _
    rw [if_pos hk]; rfl
  · show (dm_ui (dm_ui u 10 3 x) 10 4 0).1 10 4 = 0
    rw [dm_ui_1, if_pos rfl]; exact if_pos rfl
  · show (dm_ui v 0 27 x).1 0 27 = _
    rw [dm_ui_1, if_pos rfl]
    exact (if_pos rfl).trans x1
  · show (if k < 64 then (0 : Int32) else (dm_ui v 0 27 x).1 22 k) = 0
    exact if_pos hk
theorem b_put {u v : dm_S} {x y : Int32} {d : Int64} (h : Inv u v) : same (sp_X10_put [.ref 0, .int x, .int y, .long d] u) (sp_X11_put [.ref 0, .int x, .int y, .long d] v) := by
  have hI := h
  obtain ⟨A, hN, ⟨n, c, T, hP, hM⟩, hS⟩ := h
  have hn : n < 9 := hM.1.1
  have e1 : u.1 10 3 = nI n := hP.1.1.2
  have e2 : v.1 0 27 = nI n := hM.1.2
  refine ⟨fun z => ?_, fun z => ⟨fun z2 => absurd (by rw [e1]; rw [e2] at z2; exact z2) z, fun _ => ⟨rfl, hI⟩⟩⟩
  rw [e1] at z
  obtain ⟨x1, x2⟩ := i_nI (by omega) z.1
  obtain ⟨y1, y2⟩ := i_nI (by omega) z.2.1
  have k1 : x * 8 + y = nI (8 * x.toNatClampNeg + y.toNatClampNeg) := by
    rw [x1, y1, show (8 : Int32) = nI 8 from rfl, pk_mul, nI_add, nI_clamp (by omega), nI_clamp (by omega), Nat.mul_comm]
  have k2 : 8 * x + y = nI (8 * x.toNatClampNeg + y.toNatClampNeg) := by
    rw [x1, y1, show (8 : Int32) = nI 8 from rfl, pk_mul, nI_add, nI_clamp (by omega), nI_clamp (by omega)]
  have ck : (nI (8 * x.toNatClampNeg + y.toNatClampNeg)).toNatClampNeg = 8 * x.toNatClampNeg + y.toNatClampNeg := nI_clamp (by omega)
  have ik : vp_in (nI (8 * x.toNatClampNeg + y.toNatClampNeg)) 64 := vp_in_nI (by omega) (by omega)
  have d1 := Int64.le_iff_toInt_le.mp z.2.2.1
  have d2 := Int64.le_iff_toInt_le.mp z.2.2.2
  have d3 : ((-1000000 : Int64).toInt) = -1000000 := rfl
  have d4 : ((1000000 : Int64).toInt) = 1000000 := rfl
  rw [d3] at d1
  rw [d4] at d2
  rw [k1, ck]
  refine ⟨ik, fun _ => ?_, fun z2 => absurd (by rw [e2]; exact z) z2⟩
  rw [k2, ck]
  refine ⟨ik, rfl, ?_⟩
  generalize hk : 8 * x.toNatClampNeg + y.toNatClampNeg = k
  obtain ⟨T', hT'⟩ := pT_ex (n := n) hn (uI c k d.toInt)
  have h1 : su_fr u (dm_ui (dm_ul u 49 k d) 10 4 0) := by
    refine ⟨fun c q1 q2 => ?_, fun c hc => ?_⟩
    · rw [dm_ui_1, if_neg q1]; rfl
    · rw [dm_ui_2, dm_ul_2, if_neg (by simp at hc; omega)]
  have h2 : sv_fr v (dm_ui (dm_ul v 21 k d) 22 k 1) := by
    refine ⟨fun j hj => ?_, fun c hc => ?_, fun c hc => ?_⟩
    · rw [dm_ui_1, if_neg (by decide)]; rfl
    · rw [dm_ui_1, if_neg (by simp at hc; omega)]; rfl
    · rw [dm_ui_2, dm_ul_2, if_neg (by simp at hc; omega)]
  refine ⟨A, NI_fr2 hN h1 h2, ⟨n, uI c k d.toInt, T', ⟨⟨⟨hn, ?_⟩, fun j hj => ?_, fun j hj => ?_⟩, hT', fun _ q => absurd ?_ q⟩, ⟨hn, ?_⟩, fun hn0 j hj => ?_⟩, SI_fr hS h1 h2⟩
  · rw [dm_ui_1, if_pos rfl]; exact (if_neg (by decide)).trans e1
  · unfold uI
    by_cases q : j = k
    · rw [if_pos q]; exact Or.inr ⟨d1, d2⟩
    · rw [if_neg q]; exact hP.1.2.1 j hj
  · rw [dm_ui_2, dm_ul_2, if_pos rfl]
    unfold vp_updL uI
    by_cases q : j = k
    · rw [if_pos q, if_pos q, lI_to]
    · rw [if_neg q, if_neg q]; exact hP.1.2.2 j hj
  · rw [dm_ui_1, if_pos rfl]; exact if_pos rfl
  · rw [dm_ui_1, if_neg (by decide)]; exact e2
  · rw [dm_ui_1, if_pos rfl, dm_ui_2, dm_ul_2, if_pos rfl]
    unfold upd vp_updL uI
    by_cases q : j = k
    · rw [if_pos q, if_pos q, if_pos q]; exact Or.inr ⟨rfl, (lI_to d).symm, d1, d2⟩
    · rw [if_neg q, if_neg q, if_neg q]; exact hM.2 hn0 j hj
theorem b_clear {u v : dm_S} (h : Inv u v) : same (sp_X10_clear [.ref 0] u) (sp_X11_clear [.ref 0] v) := by
  obtain ⟨T, hT⟩ := pT_ex (n := 0) (by omega) (fun _ => pF)
  have hA : (AN.mk 0 0 (fun _ => 0) (fun _ => 0) (fun _ => 0) (fun _ => false) (fun _ => 0) (fun _ => 0) (fun _ => 0) (fun _ => 0)).ok := ⟨⟨Nat.zero_le _, Nat.zero_le _⟩, fun a ha => absurd ha (Nat.not_lt_zero _), fun a ha => absurd ha (Nat.not_lt_zero _)⟩
  refine ⟨rfl, _, ⟨hA, ⟨⟨rfl, rfl⟩, fun a ha => absurd ha (Nat.not_lt_zero _), fun a ha => absurd ha (Nat.not_lt_zero _)⟩, ⟨⟨rfl, rfl⟩, fun a ha => absurd ha (Nat.not_lt_zero _), fun a ha => absurd ha (Nat.not_lt_zero _)⟩, rfl⟩, ⟨0, fun _ => pF, T, ⟨⟨⟨by omega, rfl⟩, fun k _ => Or.inl rfl, fun k hk => ?_⟩, hT, fun q => absurd rfl q⟩, ⟨by omega, rfl⟩, fun q => absurd rfl q⟩, Or.inl ⟨rfl, ⟨rfl, rfl, rfl⟩, rfl, rfl⟩⟩
  show (if k < 64 then (1152921504606846976 : Int64) else u.2 49 k) = _
  rw [if_pos hk]; rfl
