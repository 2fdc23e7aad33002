/-! ===== what both found is the same ===== -/
theorem isLow_uq {P Q : Nat → Prop} {a b : Nat} (h : isLow P a) (h' : isLow Q b) (e : ∀ i, P i ↔ Q i) : a = b := by
  rcases Nat.lt_trichotomy a b with y | y | y
  · exact absurd ((e a).mp h.1) (h'.2 a y)
  · exact y
  · exact absurd ((e b).mpr h'.1) (h.2 b y)
/-- THE RING is one -/
theorem rqok_uq {A : AN} {f f' : Nat} {rq rq' : Nat → Nat} (h : rqok A f rq) (h' : rqok A f' rq') : f = f' ∧ ∀ i, i < f → rq i = rq' i := by
  obtain ⟨⟨a1, a2⟩, a3, ⟨g, a4, a5⟩, a6, a7⟩ := h
  obtain ⟨⟨b1, b2⟩, b3, ⟨g', b4, b5⟩, b6, b7⟩ := h'
  have ef : f = f' := by
    rcases Nat.lt_trichotomy f f' with y | y | y
    · have := b3 g f a4 a1 y; omega
    · exact y
    · have := a3 g' f' b4 b1 y; omega
  subst ef
  refine ⟨rfl, ?_⟩
  have e0 : rq 0 = rq' 0 := isLow_uq a6 b6 (fun _ => Iff.rfl)
  have all : ∀ k, k < f → ∀ i, i ≤ k → rq i = rq' i := by
    intro k
    induction k with
    | zero => intro _ i hi; rw [show i = 0 by omega]; exact e0
    | succ k ih =>
      intro hk i hi
      have hp := ih (by omega)
      by_cases y : i ≤ k
      · exact hp i y
      · rw [show i = k + 1 by omega]
        refine isLow_uq (a7 k hk) (b7 k hk) (fun a => ?_)
        have es : sI (fun j => A.lr (rq j)) (k + 1) = sI (fun j => A.lr (rq' j)) (k + 1) := sI_cg (fun j hj => by show A.lr (rq j) = A.lr (rq' j); rw [hp j (by omega)])
        rw [hp k (Nat.le_refl _), es, e0]
  intro i hi
  exact all i hi i (Nat.le_refl _)
/-- THE SET is one -/
theorem set_uq {A : AN} (hA : A.ok) {mm lo lo' : Nat → Int} {S S' : Nat → Bool} (hm : ∀ l, l < A.K → mm l = A.w 1000000000 l) (hl : fits A.K mm lo) (hl' : fits A.K (A.w 1000000000000) lo') (hS : stk A.n A.K A.b A.e A.ln mm A.s lo S) (hS' : stk A.n A.K A.b A.e A.ln (A.w 1000000000000) A.s lo' S') : ∀ v, v < A.n → S v = S' v := by
  have hw : ∀ l, l < A.K → A.ln l = false → mm l = A.w 1000000000000 l := fun l hl hn => by rw [hm l hl]; exact A.w_nl hl hn
  intro v hv
  have h1 := stk_one (AN.nd hA) hw hl hl' hS hS' v hv
  have h2 := stk_one (AN.nd hA) (fun l hl hn => (hw l hl hn).symm) hl' hl hS' hS v hv
  cases e1 : S v <;> cases e2 : S' v
  · rfl
  · rw [h2 e2] at e1; cases e1
  · rw [h1 e1] at e2; cases e2
  · rfl
theorem fits_cg {K : Nat} {w w' x : Nat → Int} (h : fits K w x) (e : ∀ l, l < K → w l = w' l) : fits K w' x := fun l hl => by rw [← e l hl]; exact h l hl
theorem pf_cg {K : Nat} {b e : Nat → Nat} {w w' c p x : Nat → Int} (h : pf K b e w c p x) (q : ∀ l, l < K → w l = w' l) : pf K b e w' c p x := fun l hl => by rw [← q l hl]; exact h l hl
theorem AN.opt_cg {A : AN} {w w' p y : Nat → Int} (h : A.opt w p y) (e : ∀ l, l < A.K → w l = w' l) : A.opt w' p y := ⟨fits_cg h.1 e, h.2.1, pf_cg h.2.2 e⟩
theorem AN.lex_cg {A : AN} {w w' p y : Nat → Int} {a : Nat} (h : A.lex w p y a) (e : ∀ l, l < A.K → w l = w' l) : A.lex w' p y a := fun a' ha z hz => h a' ha z (AN.opt_cg hz (fun l hl => (e l hl).symm))
theorem AN.prc_cg {A : AN} {w w' p y : Nat → Int} (h : A.prc w y p) (e : ∀ l, l < A.K → w l = w' l) : A.prc w' y p := ⟨h.1, pf_cg h.2.1 e, fun q h1 h2 => h.2.2 q h1 (pf_cg h2 (fun l hl => (e l hl).symm))⟩
/-- the class's flow and the reference's -/
theorem AN.best_meet {A : AN} (hA : A.ok) {U mm p lo f P : Nat → Int} (hU : A.nor U) (hm : ∀ l, l < A.K → mm l = A.w 1000000000 l) (ho : A.opt mm p lo) (hx : A.lex mm p lo A.M) (hf : ∀ a, a < A.M → A.bL 1000000000000 P a ≤ f a ∧ f a ≤ A.bH 1000000000000 P a) (hd : ∀ v, v < A.n → dv A.M A.fr A.tr f v = A.su v) (ha : aLex A.n A.M A.fr A.tr (A.bL 1000000000000 P) (A.bH 1000000000000 P) f A.M) : (∀ a, a < A.M → f a = A.on lo a) ∧ (∀ a, a < A.M → f a ≤ 430000000) ∧ sI (fun a => A.co a (f a)) A.M = sI (fun a => A.rt (4 * a) * A.st (4 * a)) A.M + ct A.K A.c lo := by
  have hB : (1000000 : Int) ≤ 1000000000000 := by decide
  obtain ⟨oh, lh⟩ := AN.lex_of hA hB hf hd ha
  have hs := AN.lex_small hA hB hU oh lh
  obtain ⟨h1, -, h3⟩ := AN.box_pf hA hB hf
  have o9 := AN.opt_cg ho hm
  have m1 := (AN.meet hA o9 (AN.lex_cg hx hm) oh lh hs).1
  have m2 := AN.meet_ct hA o9 oh hs
  have sm : ∀ l, l < A.K → A.nl 1000000000000 f l ≤ 424000000 := fun l hl => by
    cases hq : A.ln l with
    | true => exact hs l hl hq
    | false =>
      have := (A.w_bd hA hB hl).2.2 hq
      have := (h1 l hl).2
      omega
  refine ⟨fun a ha => ?_, fun a ha => ?_, ?_⟩
  · have := m1 a ha
    rw [← h3 a ha]
    unfold AN.on
    omega
  · -- all but the last lane of an arc are small
    obtain ⟨p1, p2⟩ := (hA.2.1 a ha).2.1
    have e := h3 a ha
    have c1 := AN.nl_sum hA hB (f := f) ha (by
      have b1 := hf a ha
      obtain ⟨j, j1, j2, j3⟩ := AN.bL_cp hA (B := 1000000000000) (P := P) ha
      have b2 := AN.cp_mono hA hB ha (i := 0) j (by omega)
      have c0 : A.cp 1000000000000 a 0 = A.st (4 * a) := by show A.st (4 * a) + 0 = _; omega
      rw [Nat.zero_add, c0] at b2
      omega) (A.pt a - 1) (by omega)
    have c2 : A.cp 1000000000000 a (A.pt a - 1) = A.st (4 * a + (A.pt a - 1)) := AN.cp_st ha (by omega)
    have c3 := ((hA.2.1 a ha).2.2.2.1 (A.pt a - 1) (by omega)).1
    have c4 := sm _ (A.l_at ha (show A.pt a - 1 < A.pt a by omega)).1
    have c5 : A.on (A.nl 1000000000000 f) a = A.st (4 * a) + (sI (fun i => A.nl 1000000000000 f (cn_fs A.pt a + i)) (A.pt a - 1) + A.nl 1000000000000 f (cn_fs A.pt a + (A.pt a - 1))) := by
      unfold AN.on AN.am
      have e : A.pt a = (A.pt a - 1) + 1 := by omega
      rw [e]; rfl
    have c6 : (if f a ≤ A.cp 1000000000000 a (A.pt a - 1) then f a else A.cp 1000000000000 a (A.pt a - 1)) ≤ A.cp 1000000000000 a (A.pt a - 1) := by split <;> omega
    omega
  · rw [m2]
    refine AN.co_sum hA hB (fun a ha => ?_)
    have b1 := hf a ha
    obtain ⟨j, j1, j2, j3⟩ := AN.bL_cp hA (B := 1000000000000) (P := P) ha
    obtain ⟨i, i1, i2, i3⟩ := AN.bH_cp hA (B := 1000000000000) (P := P) ha
    have b2 := AN.cp_mono hA hB ha (i := 0) j (by omega)
    have b3 := AN.cp_mono hA hB ha (i := i) (A.pt a - i) (by omega)
    rw [show i + (A.pt a - i) = A.pt a by omega] at b3
    have c0 : A.cp 1000000000000 a 0 = A.st (4 * a) := by show A.st (4 * a) + 0 = _; omega
    rw [Nat.zero_add, c0] at b2
    have c1 : A.cp 1000000000000 a (A.pt a) = (if A.en a then 1000000000000 else A.tp a) := by unfold AN.cp; rw [AN.w_all hA ha]; omega
    have c2 : (if A.en a then (1000000000000 : Int) else A.tp a) ≤ 1000000000000 := by
      cases hq : A.en a with
      | true => rw [if_pos rfl]; decide
      | false => have := ((hA.2.1 a ha).2.2.2.2.2 hq).1; rw [if_neg (by decide)]; omega
    have hF : fAR = 1152921504606846976 := rfl
    omega
/-- prices are one -/
theorem AN.prc_uq {A : AN} {w lo p q : Nat → Int} (h : A.prc w lo p) (h' : A.prc w lo q) : ∀ v, v < A.n → p v = q v := by
  intro v hv
  have a1 := h'.2.2 p (fun v hv => (h.1 v hv).2) h.2.1 v hv
  have a2 := h.2.2 q (fun v hv => (h'.1 v hv).2) h'.2.1 v hv
  omega
