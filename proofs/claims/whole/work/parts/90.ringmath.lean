/-! ===== THE RING: with arcs behind its first only, it is the same ===== -/
/-- walks along ENDLESS arcs behind r -/
def gw (A : AN) (r g k v : Nat) : Int := wk A.M A.fr A.tr A.lr (fun a => A.en a && decide (r < a)) g k v
theorem fw_le {A : AN} (hA : A.ok) {g k v : Nat} {q : Nat → Nat} (hk : k ≤ 100) (hq : isW A.M A.fr A.tr A.en k v q) (hz : nx A.tr q v k = g) : fw A g k v ≠ fAR ∧ fw A g k v ≤ sI (fun i => A.lr (q i)) k := by
  rw [fw_T]
  exact wkT_le (AN.dFe hA) f0_ok k v q hk hq (if_pos hz)
theorem fw_att {A : AN} {g k v : Nat} (h : fw A g k v ≠ fAR) : ∃ q, isW A.M A.fr A.tr A.en k v q ∧ nx A.tr q v k = g ∧ sI (fun i => A.lr (q i)) k = fw A g k v := by
  rw [fw_T] at h ⊢
  obtain ⟨q, h1, h2, h3⟩ := wkT_att f0_ok k v h
  refine ⟨q, h1, ?_, h3⟩
  by_cases z : nx A.tr q v k = g
  · exact z
  · have h4 : (if nx A.tr q v k = g then (0 : Int) else fAR) = 0 := h2
    rw [if_neg z] at h4
    exact absurd h4 (by decide)
theorem AN.dFr {A : AN} (hA : A.ok) {r : Nat} : dF A.n A.M A.fr A.tr A.lr (fun a => A.en a && decide (r < a)) := fun a ha ho => AN.dFe hA a ha (by simp only [Bool.and_eq_true] at ho; exact ho.1)
theorem gw_le {A : AN} (hA : A.ok) {r g k v : Nat} {q : Nat → Nat} (hk : k ≤ 100) (hq : isW A.M A.fr A.tr A.en k v q) (hr : ∀ i, i < k → r < q i) (hz : nx A.tr q v k = g) : gw A r g k v ≠ fAR ∧ gw A r g k v ≤ sI (fun i => A.lr (q i)) k := by
  unfold gw
  rw [wk_T]
  exact wkT_le (AN.dFr hA) f0_ok k v q hk (fun i hi => ⟨(hq i hi).1, by simp only [Bool.and_eq_true, decide_eq_true_eq]; exact ⟨(hq i hi).2.1, hr i hi⟩, (hq i hi).2.2⟩) (if_pos hz)
theorem gw_fw {A : AN} (hA : A.ok) {r g k v : Nat} (hk : k ≤ 100) (h : gw A r g k v ≠ fAR) : fw A g k v ≠ fAR ∧ fw A g k v ≤ gw A r g k v := by
  have h' := h
  unfold gw at h'
  rw [wk_T] at h'
  obtain ⟨q, h1, h2, h3⟩ := wkT_att f0_ok k v h'
  have hz : nx A.tr q v k = g := by
    by_cases z : nx A.tr q v k = g
    · exact z
    · have h4 : (if nx A.tr q v k = g then (0 : Int) else fAR) = 0 := h2
      rw [if_neg z] at h4
      exact absurd h4 (by decide)
  have := fw_le hA hk (q := q) (fun i hi => ⟨(h1 i hi).1, by have := (h1 i hi).2.1; simp only [Bool.and_eq_true] at this; exact this.1, (h1 i hi).2.2⟩) hz
  refine ⟨this.1, ?_⟩
  have e : gw A r g k v = sI (fun i => A.lr (q i)) k := by
    rw [h3]; unfold gw; rw [wk_T]
  rw [e]; exact this.2
/-- an arc before a walk -/
def cs (a : Nat) (q : Nat → Nat) : Nat → Nat := fun i => if i = 0 then a else q (i - 1)
theorem cs_0 {a : Nat} {q : Nat → Nat} : cs a q 0 = a := rfl
theorem cs_s {a i : Nat} {q : Nat → Nat} : cs a q (i + 1) = q i := rfl
theorem isW_cs {M : Nat} {fr tr : Nat → Nat} {on : Nat → Bool} {k a : Nat} {q : Nat → Nat} (h : isW M fr tr on k (tr a) q) (ha : a < M) (ho : on a = true) : isW M fr tr on (k + 1) (fr a) (cs a q) ∧ nx tr (cs a q) (fr a) (k + 1) = nx tr q (tr a) k := by
  refine ⟨fun i hi => ?_, ?_⟩
  · cases i with
    | zero => exact ⟨ha, ho, rfl⟩
    | succ i =>
      rw [cs_s]
      obtain ⟨h1, h2, h3⟩ := h i (by omega)
      refine ⟨h1, h2, ?_⟩
      rw [h3]
      cases i <;> rfl
  · cases k <;> rfl
theorem cs_sum {a k : Nat} {q : Nat → Nat} {w : Nat → Int} : sI (fun i => w (cs a q i)) (k + 1) = w a + sI (fun i => w (q i)) k := by
  rw [sI_shift]; rfl
/-- a closed walk that falls: each of its arcs begins such a one -/
theorem cw_rg {A : AN} (hA : A.ok) {f g : Nat} {q : Nat → Nat} (hf : 1 ≤ f) (hf2 : f ≤ 24) (hq : isW A.M A.fr A.tr A.en f g q) (hc : nx A.tr q g f = g) (hs : sI (fun i => A.lr (q i)) f < 0) {i : Nat} (hi : i < f) : rgA A f (q i) := by
  obtain ⟨q1, q2, q3⟩ := hq i hi
  -- the arc before
  have cyc : ∀ m, m < f → A.fr (q m) = A.tr (q (if m = 0 then f - 1 else m - 1)) := by
    intro m hm
    have h1 := (hq m hm).2.2
    cases m with
    | zero =>
      rw [if_pos rfl, h1]
      show g = _
      rw [← hc]
      cases f with
      | zero => omega
      | succ f => rfl
    | succ m => rw [if_neg (by omega), h1]; rfl
  let q' : Nat → Nat := fun j => if i + 1 + j < f then q (i + 1 + j) else q (i + 1 + j - f)
  have ql : ∀ j, i + 1 + j < f → q' j = q (i + 1 + j) := fun j h => if_pos h
  have qg : ∀ j, f ≤ i + 1 + j → q' j = q (i + 1 + j - f) := fun j h => if_neg (by omega)
  have hw : isW A.M A.fr A.tr A.en (f - 1) (A.tr (q i)) q' := by
    intro j hj
    have hin : ∃ m, m < f ∧ q' j = q m ∧ nx A.tr q' (A.tr (q i)) j = A.tr (q (if m = 0 then f - 1 else m - 1)) := by
      by_cases y : i + 1 + j < f
      · refine ⟨i + 1 + j, y, ql j y, ?_⟩
        rw [if_neg (by omega)]
        cases j with
        | zero => rfl
        | succ j =>
          show A.tr (q' j) = _
          rw [ql j (by omega)]; rfl
      · refine ⟨i + 1 + j - f, by omega, qg j (by omega), ?_⟩
        by_cases z : i + 1 + j = f
        · rw [if_pos (by omega)]
          cases j with
          | zero => show A.tr (q i) = _; rw [show i = f - 1 by omega]
          | succ j =>
            show A.tr (q' j) = _
            rw [ql j (by omega), show i + 1 + j = f - 1 by omega]
        · rw [if_neg (by omega)]
          cases j with
          | zero => omega
          | succ j =>
            show A.tr (q' j) = _
            rw [qg j (by omega), show i + 1 + (j + 1) - f - 1 = i + 1 + j - f by omega]
    obtain ⟨m, m1, m2, m3⟩ := hin
    rw [m2, m3]
    exact ⟨(hq m m1).1, (hq m m1).2.1, cyc m m1⟩
  have hend : nx A.tr q' (A.tr (q i)) (f - 1) = A.fr (q i) := by
    rw [cyc i hi]
    by_cases y : f = 1
    · subst y
      have : i = 0 := by omega
      subst this
      rfl
    · have e : f - 1 = (f - 2) + 1 := by omega
      rw [e]
      show A.tr (q' (f - 2)) = _
      by_cases z : i = 0
      · rw [if_pos z, ql _ (by omega), show i + 1 + (f - 2) = f - 2 + 1 by omega]
      · rw [if_neg z, qg _ (by omega), show i + 1 + (f - 2) - f = i - 1 by omega]
  have hsum : sI (fun j => A.lr (q' j)) (f - 1) + A.lr (q i) = sI (fun j => A.lr (q j)) f := by
    have e1 : sI (fun j => A.lr (q' j)) (f - 1) = sI (fun j => A.lr (q (i + 1 + j))) (f - 1 - i) + sI (fun j => A.lr (q j)) i := by
      rw [show f - 1 = (f - 1 - i) + i by omega, sI_app]
      congr 1
      · rw [show f - 1 - i + i - i = f - 1 - i by omega]
        exact sI_cg (fun j hj => by show A.lr (q' j) = _; rw [ql j (by omega)])
      · exact sI_cg (fun j hj => by show A.lr (q' (f - 1 - i + j)) = _; rw [qg _ (by omega), show i + 1 + (f - 1 - i + j) - f = j by omega])
    have e2 : sI (fun j => A.lr (q j)) f = sI (fun j => A.lr (q j)) i + (A.lr (q i) + sI (fun j => A.lr (q (i + 1 + j))) (f - 1 - i)) := by
      have h1 := sI_app (f := fun j => A.lr (q j)) (i := i) (k := (f - 1 - i) + 1)
      rw [show i + (f - 1 - i + 1) = f by omega, sI_shift] at h1
      rw [h1]
      have h2 : sI (fun j => A.lr (q (i + (j + 1)))) (f - 1 - i) = sI (fun j => A.lr (q (i + 1 + j))) (f - 1 - i) := sI_cg (fun j _ => by show A.lr (q (i + (j + 1))) = A.lr (q (i + 1 + j)); rw [show i + (j + 1) = i + 1 + j by omega])
      rw [← h2]; rfl
    rw [e1, e2]; omega
  have := fw_le hA (by omega) hw hend
  exact ⟨q1, q2, by omega⟩
/-- of fewest arcs: none of them comes twice -/
theorem cw_ne {A : AN} (hA : A.ok) {f g : Nat} {q : Nat → Nat} (hf2 : f ≤ 24) (hmin : ∀ g s, g < A.n → 1 ≤ s → s < f → 0 ≤ fw A g s g) (hq : isW A.M A.fr A.tr A.en f g q) (hc : nx A.tr q g f = g) (hs : sI (fun i => A.lr (q i)) f < 0) {i : Nat} (hi0 : 1 ≤ i) (hi : i < f) : q i ≠ q 0 := by
  intro z
  have g0 : A.fr (q 0) = g := (hq 0 (by omega)).2.2
  have gi := (hq i hi).2.2
  have hg : g < A.n := by rw [← g0]; exact (hA.2.1 _ (hq 0 (by omega)).1).1.1
  have h1 := fw_le hA (g := g) (k := i) (v := g) (q := q) (by omega) (fun j hj => hq j (by omega)) (by rw [← gi, z, g0])
  have h2 := hmin g i hg hi0 hi
  have h3 := fw_le hA (g := g) (k := f - i) (v := g) (q := fun j => q (i + j)) (by omega) (fun j hj => by
    obtain ⟨a1, a2, a3⟩ := hq (i + j) (by omega)
    refine ⟨a1, a2, ?_⟩
    show A.fr (q (i + j)) = _
    cases j with
    | zero => show A.fr (q i) = g; rw [z, g0]
    | succ j => rw [a3]; rfl) (by
    have e : f - i = (f - i - 1) + 1 := by omega
    rw [e]
    show A.tr (q (i + (f - i - 1))) = g
    rw [show i + (f - i - 1) = f - 1 by omega]
    rw [show f = (f - 1) + 1 by omega] at hc
    exact hc)
  have h4 := hmin g (f - i) hg (by omega) (by omega)
  have h5 := sI_app (f := fun j => A.lr (q j)) (i := i) (k := f - i)
  rw [show i + (f - i) = f by omega] at h5
  have h6 : sI (fun j => (fun j => A.lr (q j)) (i + j)) (f - i) = sI (fun j => A.lr (q (i + j))) (f - i) := rfl
  omega
/-- so all behind the first are behind it -/
theorem cw_gt {A : AN} (hA : A.ok) {f g : Nat} {q : Nat → Nat} (hf2 : f ≤ 24) (hmin : ∀ g s, g < A.n → 1 ≤ s → s < f → 0 ≤ fw A g s g) (hq : isW A.M A.fr A.tr A.en f g q) (hc : nx A.tr q g f = g) (hs : sI (fun i => A.lr (q i)) f < 0) (hlow : ∀ a, a < q 0 → ¬ rgA A f a) {i : Nat} (hi0 : 1 ≤ i) (hi : i < f) : q 0 < q i := by
  have h1 := cw_ne hA hf2 hmin hq hc hs hi0 hi
  have h2 := cw_rg hA (by omega) hf2 hq hc hs hi
  rcases Nat.lt_or_ge (q i) (q 0) with y | y
  · exact absurd h2 (hlow _ y)
  · omega
theorem rq_2 {A : AN} (hA : A.ok) {f : Nat} {rq : Nat → Nat} (h : rqok A f rq) : 2 ≤ f := by
  obtain ⟨⟨h1, h2⟩, -, ⟨g, h3, h4⟩, -⟩ := h
  rcases Nat.lt_or_ge f 2 with y | y
  · exfalso
    have e : f = 1 := by omega
    subst e
    obtain ⟨q, q1, q2, q3⟩ := fw_att (A := A) (g := g) (k := 1) (v := g) (by intro z; rw [z] at h4; exact absurd h4 (by decide))
    obtain ⟨a1, a2, a3⟩ := q1 0 (by omega)
    have q4 : A.tr (q 0) = g := q2
    have a4 : A.fr (q 0) = g := a3
    exact (hA.2.1 _ a1).1.2.2 (by rw [a4, q4])
  · exact y
/-- no ring of fewer arcs -/
theorem ref_few {A : AN} (hA : A.ok) {f : Nat} (hf : f ≤ 24) (hmin : ∀ g s, g < A.n → 1 ≤ s → s < f → 0 ≤ fw A g s g) {s a : Nat} (hs : 1 ≤ s) (hsf : s < f) (ha : a < A.M) (ho : A.en a = true) (hg : gw A a (A.fr a) (s - 1) (A.tr a) ≠ fAR) : 0 ≤ gw A a (A.fr a) (s - 1) (A.tr a) + A.lr a := by
  obtain ⟨h1, h2⟩ := gw_fw hA (by omega) hg
  obtain ⟨q, q1, q2, q3⟩ := fw_att h1
  obtain ⟨c1, c2⟩ := isW_cs q1 ha ho
  have h3 := fw_le hA (g := A.fr a) (by omega) c1 (by rw [c2, q2])
  rw [cs_sum, q3, show s - 1 + 1 = s by omega] at h3
  have h4 := hmin (A.fr a) s (hA.2.1 a ha).1.1 hs hsf
  omega
/-- the first arc -/
theorem ref_first {A : AN} (hA : A.ok) {f : Nat} {rq : Nat → Nat} (h : rqok A f rq) : isLow (fun a => a < A.M ∧ A.en a = true ∧ gw A a (A.fr a) (f - 1) (A.tr a) ≠ fAR ∧ gw A a (A.fr a) (f - 1) (A.tr a) + A.lr a < 0) (rq 0) := by
  obtain ⟨⟨h1, h2⟩, hmin, -, ⟨hl, hl2⟩, -⟩ := h
  have hn := hA.1.1
  obtain ⟨l1, l2, l3⟩ := hl
  refine ⟨⟨l1, l2, ?_⟩, fun a ha hq => ?_⟩
  · have hlr := AN.dFe hA (rq 0) l1 l2
    obtain ⟨q, q1, q2, q3⟩ := fw_att (A := A) (g := A.fr (rq 0)) (k := f - 1) (v := A.tr (rq 0)) (by intro z; rw [z] at l3; have : fAR = 1152921504606846976 := rfl; omega)
    obtain ⟨c1, c2⟩ := isW_cs q1 l1 l2
    rw [show f - 1 + 1 = f by omega] at c1 c2
    have cs1 := cs_sum (a := rq 0) (k := f - 1) (q := q) (w := A.lr)
    rw [show f - 1 + 1 = f by omega] at cs1
    have g1 := gw_le hA (r := rq 0) (g := A.fr (rq 0)) (by omega) q1 (fun i hi => by
      have := cw_gt hA (i := i + 1) (by omega) hmin c1 (by rw [c2, q2]) (by rw [cs1]; omega) (by rw [cs_0]; exact hl2) (by omega) (by omega)
      rw [cs_0, cs_s] at this
      exact this) q2
    exact ⟨g1.1, by omega⟩
  · obtain ⟨a1, a2, a3, a4⟩ := hq
    have := gw_fw hA (by omega) a3
    exact hl2 a ha ⟨a1, a2, by omega⟩
theorem ref_next {A : AN} (hA : A.ok) {f : Nat} {rq : Nat → Nat} (h : rqok A f rq) {i : Nat} (hi : i + 1 < f) : isLow (fun a => rq 0 < a ∧ a < A.M ∧ A.en a = true ∧ A.fr a = A.tr (rq i) ∧ gw A (rq 0) (A.fr (rq 0)) (f - 2 - i) (A.tr a) ≠ fAR ∧ sI (fun j => A.lr (rq j)) (i + 1) + A.lr a + gw A (rq 0) (A.fr (rq 0)) (f - 2 - i) (A.tr a) < 0) (rq (i + 1)) := by
  have hh := h
  obtain ⟨⟨h1, h2⟩, hmin, -, ⟨hl, hl2⟩, hnx⟩ := h
  have hn := hA.1.1
  have hin := rq_in hh
  have key : ∀ a, (rq 0 < a ∧ a < A.M ∧ A.en a = true ∧ A.fr a = A.tr (rq i) ∧ gw A (rq 0) (A.fr (rq 0)) (f - 2 - i) (A.tr a) ≠ fAR ∧ sI (fun j => A.lr (rq j)) (i + 1) + A.lr a + gw A (rq 0) (A.fr (rq 0)) (f - 2 - i) (A.tr a) < 0) ↔ (a < A.M ∧ A.en a = true ∧ A.fr a = A.tr (rq i) ∧ sI (fun j => A.lr (rq j)) (i + 1) + A.lr a + fw A (A.fr (rq 0)) (f - 2 - i) (A.tr a) < 0) := by
    intro a
    constructor
    · rintro ⟨-, a1, a2, a3, a4, a5⟩
      have := gw_fw hA (by omega) a4
      exact ⟨a1, a2, a3, by omega⟩
    · rintro ⟨a1, a2, a3, a4⟩
      have hlr := AN.dFe hA a a1 a2
      have lb : sI (fun _ => (-1000000 : Int)) (i + 1) ≤ sI (fun j => A.lr (rq j)) (i + 1) := sI_le (fun j hj => (AN.dFe hA (rq j) (hin j (by omega)).1 (hin j (by omega)).2).2.1)
      rw [sI_const] at lb
      have hF : fAR = 1152921504606846976 := rfl
      obtain ⟨q, q1, q2, q3⟩ := fw_att (A := A) (g := A.fr (rq 0)) (k := f - 2 - i) (v := A.tr a) (by intro z; rw [z] at a4; omega)
      let Q : Nat → Nat := fun j => if j ≤ i then rq j else cs a q (j - (i + 1))
      have Ql : ∀ j, j ≤ i → Q j = rq j := fun j hj => if_pos hj
      have Qg : ∀ j, Q (i + 1 + j) = cs a q j := fun j => by
        show (if i + 1 + j ≤ i then rq (i + 1 + j) else cs a q (i + 1 + j - (i + 1))) = _
        rw [if_neg (by omega), show i + 1 + j - (i + 1) = j by omega]
      obtain ⟨c1, c2⟩ := isW_cs q1 a1 a2
      have hQ : isW A.M A.fr A.tr A.en f (A.fr (rq 0)) Q := by
        intro j hj
        rcases Nat.lt_or_ge i j with y | y
        · obtain ⟨d, rfl⟩ : ∃ d, j = i + 1 + d := ⟨j - (i + 1), by omega⟩
          rw [Qg]
          obtain ⟨e1, e2, e3⟩ := c1 d (by omega)
          refine ⟨e1, e2, ?_⟩
          cases d with
          | zero =>
            show A.fr a = A.tr (Q i)
            rw [Ql i (Nat.le_refl _), a3]
          | succ d =>
            rw [e3]
            show A.tr (cs a q d) = A.tr (Q (i + 1 + d))
            rw [Qg]
        · rw [Ql j y]
          refine ⟨(hin j (by omega)).1, (hin j (by omega)).2, ?_⟩
          cases j with
          | zero => rfl
          | succ j =>
            show A.fr (rq (j + 1)) = A.tr (Q j)
            rw [Ql j (by omega)]
            exact (hnx j (by omega)).1.2.2.1
      have hc : nx A.tr Q (A.fr (rq 0)) f = A.fr (rq 0) := by
        have e : f = i + 1 + (f - 2 - i) + 1 := by omega
        rw [e]
        show A.tr (Q (i + 1 + (f - 2 - i))) = _
        rw [Qg]
        exact c2.trans q2
      have hsum : sI (fun j => A.lr (Q j)) f = sI (fun j => A.lr (rq j)) (i + 1) + A.lr a + sI (fun j => A.lr (q j)) (f - 2 - i) := by
        have e := sI_app (f := fun j => A.lr (Q j)) (i := i + 1) (k := f - 2 - i + 1)
        rw [show i + 1 + (f - 2 - i + 1) = f by omega] at e
        have e2 : sI (fun j => A.lr (Q j)) (i + 1) = sI (fun j => A.lr (rq j)) (i + 1) := sI_cg (fun j hj => by show A.lr (Q j) = A.lr (rq j); rw [Ql j (by omega)])
        have e3 : sI (fun j => A.lr (Q (i + 1 + j))) (f - 2 - i + 1) = sI (fun j => A.lr (cs a q j)) (f - 2 - i + 1) := sI_cg (fun j _ => by show A.lr (Q (i + 1 + j)) = A.lr (cs a q j); rw [Qg])
        rw [cs_sum] at e3
        have e4 : sI (fun j => (fun j => A.lr (Q j)) (i + 1 + j)) (f - 2 - i + 1) = sI (fun j => A.lr (Q (i + 1 + j))) (f - 2 - i + 1) := rfl
        omega
      have gt : ∀ j, 1 ≤ j → j < f → rq 0 < Q j := fun j j1 j2 => by
        have := cw_gt hA (i := j) (by omega) hmin hQ hc (by omega) (by rw [Ql 0 (by omega)]; exact hl2) j1 j2
        rw [Ql 0 (by omega)] at this
        exact this
      have g1 := gw_le hA (r := rq 0) (g := A.fr (rq 0)) (by omega) q1 (fun j hj => by
        have := gt (i + 1 + (j + 1)) (by omega) (by omega)
        rw [Qg, cs_s] at this
        exact this) q2
      have g2 := gt (i + 1 + 0) (by omega) (by omega)
      rw [Qg, cs_0] at g2
      exact ⟨g2, a1, a2, a3, g1.1, by omega⟩
  obtain ⟨k1, k2⟩ := hnx i hi
  exact ⟨(key _).mpr k1, fun a ha hq => k2 a ha ((key a).mp hq)⟩
