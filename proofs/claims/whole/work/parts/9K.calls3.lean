/-! ===== least, mate, check ===== -/
def su_fr (u u' : dm_S) : Prop := (∀ c, c ≠ 10 → c ≠ 50 → u'.1 c = u.1 c) ∧ ∀ c, c ∉ [25, 37, 49, 51] → u'.2 c = u.2 c
def sv_fr (v v' : dm_S) : Prop := (∀ k, k ∈ [0, 1, 10, 13, 15] → v'.1 0 k = v.1 0 k) ∧ (∀ c, c ∈ [2, 3, 6, 10, 11] → v'.1 c = v.1 c) ∧ ∀ c, c ∈ [0, 1, 4, 5, 7, 8, 9] → v'.2 c = v.2 c
theorem su_nt {u u' : dm_S} (h : su_fr u u') : nt_fr u u' := ⟨fun c hc => h.1 c (by simp at hc; omega) (by simp at hc; omega), fun c hc => h.2 c (by simp at hc ⊢; omega)⟩
theorem sv_mn {v v' : dm_S} (h : sv_fr v v') : mn_fr v v' := ⟨⟨h.1 0 (by decide), h.1 1 (by decide)⟩, fun c hc => h.2.1 c (by simp at hc ⊢; omega), fun c hc => h.2.2 c (by simp at hc ⊢; omega)⟩
theorem su_0 (u : dm_S) : su_fr u u := ⟨fun _ _ _ => rfl, fun _ _ => rfl⟩
theorem sv_0 (v : dm_S) : sv_fr v v := ⟨fun _ _ => rfl, fun _ _ => rfl, fun _ _ => rfl⟩
theorem su_t {u u' u'' : dm_S} (h : su_fr u u') (h2 : su_fr u' u'') : su_fr u u'' := ⟨fun c a b => (h2.1 c a b).trans (h.1 c a b), fun c a => (h2.2 c a).trans (h.2 c a)⟩
theorem su_ip {u u' : dm_S} (h : ip_fr u u') : su_fr u u' := ⟨fun c a b => h.1 c b a, fun c hc => h.2.2 c (by simp at hc; omega)⟩
theorem su_25 {u : dm_S} {f : Nat → Int64} : su_fr u (dm_sj u 25 f) := ⟨fun _ _ _ => rfl, fun c hc => by show (if c = 25 then f else u.2 c) = u.2 c; rw [if_neg (by simp at hc; omega)]⟩
theorem su_37 {u : dm_S} {f : Nat → Int64} : su_fr u (dm_sj u 37 f) := ⟨fun _ _ _ => rfl, fun c hc => by show (if c = 37 then f else u.2 c) = u.2 c; rw [if_neg (by simp at hc; omega)]⟩
theorem sv_bs {v v' : dm_S} (h : bs_fr v v') : sv_fr v v' := ⟨fun k _ => by rw [h.1], fun c _ => by rw [h.1], fun c hc => h.2 c (by simp at hc; omega)⟩
theorem sv_ds {v v' : dm_S} (h : ds_fr v v') : sv_fr v v' := ⟨fun k _ => by rw [h.1], fun c _ => by rw [h.1], fun c hc => h.2 c (by simp at hc; omega)⟩
theorem BI_u {u u' v : dm_S} {A : AN} (h : BI u v A) (hf : su_fr u u') : BI u' v A := by
  obtain ⟨mm, lo, p, C, nb, a1, a2, a3, a4, a5, a6, a7, a8, a9, a10, a11⟩ := h
  refine ⟨mm, lo, p, C, nb, a1, LN_fr a2 (fun c hc => hf.1 c (by simp at hc; omega) (by simp at hc; omega)) (fun c hc => hf.2 c (by simp at hc ⊢; omega)), ?_, ?_, ?_, a6, a7, ?_, a9, a10, a11⟩
  · rw [hf.2 22 (by decide)]; exact a3
  · rw [hf.2 24 (by decide)]; exact a4
  · rw [hf.2 36 (by decide)]; exact a5
  · unfold WG WGp at a8 ⊢
    rw [hf.1 3 (by decide) (by decide), hf.1 28 (by decide) (by decide), hf.1 29 (by decide) (by decide), hf.1 30 (by decide) (by decide), hf.2 31 (by decide)]
    exact a8
theorem SI_fr {u u' v v' : dm_S} {A : AN} (h : SI u v A) (h1 : su_fr u u') (h2 : sv_fr v v') : SI u' v' A := by
  unfold SI s3 MS CS at h ⊢
  rw [h1.1 0 (by decide) (by decide), h1.1 8 (by decide) (by decide), h1.1 9 (by decide) (by decide), h1.1 46 (by decide) (by decide), h1.1 48 (by decide) (by decide), h2.1 10 (by decide), h2.1 13 (by decide), h2.1 15 (by decide), h2.2.1 10 (by decide), h2.2.1 11 (by decide)]
  rcases h with g | g | g | ⟨g1, g2, g3, g4, g5⟩
  · exact Or.inl g
  · exact Or.inr (Or.inl g)
  · exact Or.inr (Or.inr (Or.inl g))
  · exact Or.inr (Or.inr (Or.inr ⟨g1, g2, g3, g4, BI_fr (BI_u g5 h1) (h2.2.2 9 (by decide)) (h2.2.2 0 (by decide))⟩))
theorem NI_fr2 {u u' v v' : dm_S} {A : AN} (h : NI u v A) (h1 : su_fr u u') (h2 : sv_fr v v') : NI u' v' A := ⟨h.1, CR_fr h.2.1 (su_nt h1), MR_fr h.2.2.1 (sv_mn h2), by rw [h1.1 1 (by decide) (by decide)]; exact h.2.2.2⟩
theorem b_least {u v : dm_S} (h : Inv u v) : same (sp_X10_least [.ref 0] u) (sp_X11_least [.ref 0] v) := by
  have hI := h
  obtain ⟨A, hN, ⟨n, c, T, hP, hM⟩, hS⟩ := h
  refine ⟨n, c, T, hP, fun z => ⟨n, c, T, hM, hP.2.1, fun _ => ⟨rfl, hI⟩, fun z2 => absurd z z2⟩, fun z u' f1 p1 p2 => ⟨n, c, T, hM, hP.2.1, fun z2 => absurd z2 z, fun _ v' f2 => ⟨rfl, A, NI_fr2 hN (su_ip f1) (sv_bs f2), ⟨n, c, T, ⟨p1, hP.2.1, fun _ _ => p2⟩, MP_bs hM f2⟩, SI_fr hS (su_ip f1) (sv_bs f2)⟩⟩⟩
theorem pMt_lt {n : Nat} {c T : Nat → Int} {m gv : Nat → Nat} {k : Nat} (h : pMt n c T m gv k) : ∀ i, i ≤ k → gv i < 2 ^ n
  | 0, _ => by rw [h.1]; exact Nat.two_pow_pos n
  | i + 1, hi => by
    have ih := pMt_lt h i (by omega)
    obtain ⟨⟨h1, -⟩, h2⟩ := h.2 i (by omega)
    rw [h2]
    exact Nat.or_lt_two_pow ih (Nat.pow_lt_pow_right (by decide) h1)
theorem b_mate {u v : dm_S} {x : Int32} (h : Inv u v) : same (sp_X10_mate [.ref 0, .int x] u) (sp_X11_mate [.ref 0, .int x] v) := by
  have hI := h
  obtain ⟨A, hN, ⟨n, c, T, hP, hM⟩, hS⟩ := h
  refine ⟨n, c, T, hP, fun z => ⟨n, c, T, hM, hP.2.1, fun _ => ⟨rfl, hI⟩, fun z2 => absurd z2 z⟩, fun z u' f1 p1 p2 => ?_⟩
  have hn : n < 9 := hP.1.1.1
  obtain ⟨x1, x2⟩ := i_nI (by omega) z
  have fin : ∀ v', bs_fr v v' → Inv u' v' := fun v' f2 => ⟨A, NI_fr2 hN (su_ip f1) (sv_bs f2), ⟨n, c, T, ⟨p1, hP.2.1, fun _ _ => p2⟩, MP_bs hM f2⟩, SI_fr hS (su_ip f1) (sv_bs f2)⟩
  refine ⟨fun z0 => ⟨n, c, T, hM, hP.2.1, fun q => absurd z q, fun _ v' f2 => ⟨fun _ => ⟨rfl, fin v' f2⟩, fun q => absurd z0 q⟩⟩, fun z0 m gv hm _ => ⟨n, c, T, hM, hP.2.1, fun q => absurd z q, fun _ v' f2 => ⟨fun q => absurd q z0, fun _ m' gv' hm' => ⟨?_, fin v' f2⟩⟩⟩⟩
  have hk : pMt n c T m gv (x.toNatClampNeg + 1) := ⟨hm.1, fun i hi => hm.2 i (by omega)⟩
  have := (pMt_un (fun _ _ _ _ => rfl) (fun _ _ => rfl) (fun i hi => pMt_lt hk i (by omega)) hk hm' x.toNatClampNeg (by omega)).2 (by omega)
  rw [this]
theorem b_check {u v : dm_S} (h : Inv u v) : same (sp_X10_check [.ref 0] u) (sp_X11_check [.ref 0] v) := by
  have hI := h
  obtain ⟨A, hN, hP, hS⟩ := h
  have hN' := hN
  obtain ⟨hA, hC, hM, hk⟩ := hN'
  obtain ⟨s1, -, -, s4⟩ := SI_st hS
  refine ⟨fun z => ?_, fun z => ⟨fun z2 => absurd (s1 ▸ z2) z, fun _ => ⟨rfl, hI⟩⟩⟩
  obtain ⟨mm, lo, p, C, nb, a1, a2, a3, a4, a5, a6, a7, a8, a9, a10, a11⟩ := s4 z
  have hwg := WG_wg hA a8
  obtain ⟨f, e1, e2⟩ := wg_I hA hC a4
  refine ⟨A.n, A.M, A.fr, A.tr, A.pt, C, nb, _, _, CR_cn hC hA, a2.1, hwg, fun j hj => ?_, fun j hj => ?_, fun _ => ⟨rfl, A, NI_fr2 hN su_25 (sv_0 v), ?_, SI_fr hS su_25 (sv_0 v)⟩, fun z2 => absurd (s1.trans z) z2⟩
  · obtain ⟨g1, -, -, -, g5⟩ := a8.1.2 j hj
    have hw := AN.dFw hA (c := A.c) (on := fun _ => true) (fun l hl => AN.c_bd hA hl) (nb j) g1.1 rfl
    have q1 := a7.1 _ hw.1.1
    have q2 := a7.1 _ hw.1.2
    rw [a5, g5, lF_at, lF_at, lI_add, lI_le (by unfold lB; omega) (by unfold lB; omega)]
    exact pf_way a7.2.1 g1.1 g1.2.1
  · rw [e1, lF_at, e2 j hj, a6.2.1 j hj, Int.sub_self]; rfl
  · obtain ⟨n, c, T, p1, p2⟩ := hP
    exact ⟨n, c, T, p1, p2⟩
