/-! ===== of the flows of least cost the one with the least on arc 0, then on arc 1, and so on ===== -/
/-- flows that the prices p prove -/
def AN.opt (A : AN) (mm p y : Nat → Int) : Prop := fits A.K mm y ∧ bal A.n A.K A.b A.e A.s y ∧ pf A.K A.b A.e mm A.c p y
/-- none of them has less on an arc below a and the same on those before it -/
def AN.lex (A : AN) (mm p lo : Nat → Int) (a : Nat) : Prop := ∀ a', a' < a → ∀ y, A.opt mm p y → (∀ i, i < a' → A.am y i = A.am lo i) → A.am lo a' ≤ A.am y a'
def AN.tgt (A : AN) (p : Nat → Int) (l : Nat) : Bool := decide (rc A.b A.e A.c p l = 0)
def AN.opn (A : AN) (p : Nat → Int) (a l : Nat) : Bool := A.tgt p l && decide (a ≤ A.ar l)
theorem AN.rc_mono {A : AN} (hA : A.ok) {p : Nat → Int} {a k : Nat} (ha : a < A.M) : ∀ j, k + j < A.pt a → rc A.b A.e A.c p (cn_fs A.pt a + k) ≤ rc A.b A.e A.c p (cn_fs A.pt a + (k + j))
  | 0, _ => Int.le_refl _
  | j + 1, h => by
    have h1 := AN.rc_mono hA (p := p) (k := k) ha j (by omega)
    have h2 := ((hA.2.1 a ha).2.2.2.2.1 (k + j) (by omega)).2
    obtain ⟨_, e1, e2⟩ := A.l_at ha (show k + j < A.pt a by omega)
    obtain ⟨_, e3, e4⟩ := A.l_at ha (show k + (j + 1) < A.pt a by omega)
    have h3 : rc A.b A.e A.c p (cn_fs A.pt a + (k + j)) ≤ rc A.b A.e A.c p (cn_fs A.pt a + (k + (j + 1))) := by
      unfold rc AN.b AN.e AN.c
      rw [e1, e2, e3, e4, show 4 * a + (k + (j + 1)) = 4 * a + (k + j) + 1 by omega]
      omega
    omega
theorem AN.am_cg {A : AN} {x y : Nat → Int} {a : Nat} (h : ∀ k, k < A.pt a → x (cn_fs A.pt a + k) = y (cn_fs A.pt a + k)) : A.am x a = A.am y a := sI_cg h
theorem AN.am_le {A : AN} {x y : Nat → Int} {a : Nat} (h : ∀ k, k < A.pt a → x (cn_fs A.pt a + k) ≤ y (cn_fs A.pt a + k)) : A.am x a ≤ A.am y a := sI_le h
/-- nothing on an arc's tight lanes: no flow has less there -/
theorem AN.least0 {A : AN} {mm p x y : Nat → Int} {a : Nat} (ha : a < A.M) (hx : pf A.K A.b A.e mm A.c p x) (h0 : ∀ k, k < A.pt a → A.tgt p (cn_fs A.pt a + k) = true → x (cn_fs A.pt a + k) = 0) (hy : A.opt mm p y) : A.am x a ≤ A.am y a := by
  refine A.am_le (fun k hk => ?_)
  have hl := (A.l_at ha hk).1
  have hy1 := hy.1 _ hl
  have hy2 := hy.2.2 _ hl
  have hx2 := hx _ hl
  rcases Int.lt_trichotomy (rc A.b A.e A.c p (cn_fs A.pt a + k)) 0 with q | q | q
  · rw [hx2.1 q, hy2.1 q]; exact Int.le_refl _
  · rw [h0 k hk (decide_eq_true q)]; exact hy1.1
  · rw [hx2.2 q]; exact hy1.1
theorem pbL_eq {A : AN} (hA : A.ok) {mm p lo : Nat → Int} {r : Int} {a : Nat} (ha : a < A.M) (hm : ∀ l, l < A.K → 0 ≤ mm l) (hr : 0 ≤ r) (hlo : pf A.K A.b A.e mm A.c p lo) (h0 : ∀ k, k < A.pt a → A.tgt p (cn_fs A.pt a + k) = true → lo (cn_fs A.pt a + k) = 0) (hT : r ≤ sI (fun j => if A.tgt p (cn_fs A.pt a + j) then mm (cn_fs A.pt a + j) else 0) (A.pt a)) : ∀ k, k ≤ A.pt a → pbL (cn_fs A.pt a) mm lo r k = (if r ≤ sI (fun j => if A.tgt p (cn_fs A.pt a + j) then mm (cn_fs A.pt a + j) else 0) k then 0 else r - sI (fun j => if A.tgt p (cn_fs A.pt a + j) then mm (cn_fs A.pt a + j) else 0) k)
  | 0, _ => by
    show r = if r ≤ 0 then 0 else r - 0
    split <;> omega
  | k + 1, hk => by
    have ih := pbL_eq hA ha hm hr hlo h0 hT k (by omega)
    obtain ⟨hl, _, _⟩ := A.l_at ha (show k < A.pt a by omega)
    have hmk := hm _ hl
    have hlk := hlo _ hl
    show pbL (cn_fs A.pt a) mm lo r k - mn2 (pbL (cn_fs A.pt a) mm lo r k) (mm (cn_fs A.pt a + k) - lo (cn_fs A.pt a + k)) = if r ≤ sI (fun j => if A.tgt p (cn_fs A.pt a + j) then mm (cn_fs A.pt a + j) else 0) k + (if A.tgt p (cn_fs A.pt a + k) then mm (cn_fs A.pt a + k) else 0) then 0 else r - (sI (fun j => if A.tgt p (cn_fs A.pt a + j) then mm (cn_fs A.pt a + j) else 0) k + (if A.tgt p (cn_fs A.pt a + k) then mm (cn_fs A.pt a + k) else 0))
    rw [ih]
    have hT2 : 0 < rc A.b A.e A.c p (cn_fs A.pt a + k) → r ≤ sI (fun j => if A.tgt p (cn_fs A.pt a + j) then mm (cn_fs A.pt a + j) else 0) k := by
      intro q
      have e1 : sI (fun j => if A.tgt p (cn_fs A.pt a + j) then mm (cn_fs A.pt a + j) else 0) (A.pt a) = sI (fun j => if A.tgt p (cn_fs A.pt a + j) then mm (cn_fs A.pt a + j) else 0) k := by
        have e2 := sI_app (f := fun j => if A.tgt p (cn_fs A.pt a + j) then mm (cn_fs A.pt a + j) else 0) (i := k) (k := A.pt a - k)
        rw [show k + (A.pt a - k) = A.pt a by omega] at e2
        rw [e2]
        have e3 : sI (fun j => if A.tgt p (cn_fs A.pt a + (k + j)) then mm (cn_fs A.pt a + (k + j)) else 0) (A.pt a - k) = 0 := sI_0 (fun j hj => by
          have := AN.rc_mono hA (p := p) (k := k) ha j (by omega)
          show (if A.tgt p (cn_fs A.pt a + (k + j)) then mm (cn_fs A.pt a + (k + j)) else 0) = 0
          rw [if_neg]
          intro z
          have := of_decide_eq_true z
          omega)
        omega
      omega
    generalize sI (fun j => if A.tgt p (cn_fs A.pt a + j) then mm (cn_fs A.pt a + j) else 0) k = T at *
    rcases Int.lt_trichotomy (rc A.b A.e A.c p (cn_fs A.pt a + k)) 0 with q | q | q
    · have ht : (if A.tgt p (cn_fs A.pt a + k) = true then mm (cn_fs A.pt a + k) else 0) = 0 := if_neg (fun z => by have : rc A.b A.e A.c p (cn_fs A.pt a + k) = 0 := of_decide_eq_true z; omega)
      rw [hlk.1 q, ht]
      unfold mn2
      split <;> split <;> omega
    · have hz := h0 k (by omega) (decide_eq_true q)
      have ht : (if A.tgt p (cn_fs A.pt a + k) = true then mm (cn_fs A.pt a + k) else 0) = mm (cn_fs A.pt a + k) := if_pos (show A.tgt p (cn_fs A.pt a + k) = true from decide_eq_true q)
      rw [hz, ht]
      unfold mn2
      split <;> split <;> omega
    · have ht : (if A.tgt p (cn_fs A.pt a + k) = true then mm (cn_fs A.pt a + k) else 0) = 0 := if_neg (fun z => by have : rc A.b A.e A.c p (cn_fs A.pt a + k) = 0 := of_decide_eq_true z; omega)
      rw [hlk.2 q, ht, if_pos (hT2 q)]
      have := hT2 q
      unfold mn2
      split <;> split <;> omega
theorem pbX_sum {p : Nat} {mm lo : Nat → Int} {r : Int} : ∀ k, sI (fun j => mn2 (pbL p mm lo r j) (mm (p + j) - lo (p + j))) k = r - pbL p mm lo r k
  | 0 => by show (0 : Int) = r - r; omega
  | k + 1 => by
    have ih := pbX_sum (p := p) (mm := mm) (lo := lo) (r := r) k
    show sI (fun j => mn2 (pbL p mm lo r j) (mm (p + j) - lo (p + j))) k + mn2 (pbL p mm lo r k) (mm (p + k) - lo (p + k)) = r - (pbL p mm lo r k - mn2 (pbL p mm lo r k) (mm (p + k) - lo (p + k)))
    omega
/-- the least on arc a: by the cut of what a search saw -/
theorem AN.cut_lex {A : AN} (hA : A.ok) {mm p x y : Nat → Int} {a : Nat} {S : Nat → Bool} (ha : a < A.M) (hx : A.opt mm p x) (hy : A.opt mm p y) (hs : ∀ i, i < a → A.am y i = A.am x i) (s1 : S (A.fr a) = true) (s2 : S (A.tr a) = false) (hout : ∀ l, l < A.K → a < A.ar l → A.tgt p l = true → S (A.b l) = true → S (A.e l) = false → x l = mm l) (hin : ∀ l, l < A.K → a < A.ar l → A.tgt p l = true → S (A.b l) = false → S (A.e l) = true → x l = 0) : A.am x a ≤ A.am y a := by
  have hnA : ∀ i, i < A.M → A.fr i < A.n ∧ A.tr i < A.n := fun i hi => ⟨(hA.2.1 i hi).1.1, (hA.2.1 i hi).1.2.1⟩
  have hsum : ∀ z, bal A.n A.K A.b A.e A.s z → sI (fun i => A.am z i * (ind S (A.fr i) - ind S (A.tr i))) A.M = sI (fun v => ind S v * A.s v) A.n := by
    intro z hz
    rw [← dv_sbp hnA]
    refine sI_cg (fun v hv => ?_)
    show ind S v * dv A.M A.fr A.tr (A.am z) v = ind S v * A.s v
    rw [← A.dv_am, hz v hv]
  have e1 := hsum x hx.2.1
  have e2 := hsum y hy.2.1
  have hl : ∀ i, i < A.M → i ≠ a → A.am y i * (ind S (A.fr i) - ind S (A.tr i)) ≤ A.am x i * (ind S (A.fr i) - ind S (A.tr i)) := by
    intro i hi hne
    rcases Nat.lt_or_ge i a with q | q
    · rw [hs i q]; exact Int.le_refl _
    · have q2 : a < i := by omega
      cases eb : S (A.fr i) <;> cases ee : S (A.tr i)
      · rw [ind_f eb, ind_f ee]; simp
      · rw [ind_f eb, ind_t ee]
        have : A.am x i ≤ A.am y i := A.am_le (fun k hk => by
          obtain ⟨g1, g2, g3⟩ := A.l_at hi hk
          have y1 := hy.1 _ g1
          have y2 := hy.2.2 _ g1
          have x2 := hx.2.2 _ g1
          rcases Int.lt_trichotomy (rc A.b A.e A.c p (cn_fs A.pt i + k)) 0 with z | z | z
          · rw [x2.1 z, y2.1 z]; exact Int.le_refl _
          · rw [hin _ g1 (by rw [g2]; exact q2) (decide_eq_true z) (by unfold AN.b; rw [g2]; exact eb) (by unfold AN.e; rw [g2]; exact ee)]
            exact y1.1
          · rw [x2.2 z]; exact y1.1)
        omega
      · rw [ind_t eb, ind_f ee]
        have : A.am y i ≤ A.am x i := A.am_le (fun k hk => by
          obtain ⟨g1, g2, g3⟩ := A.l_at hi hk
          have y1 := hy.1 _ g1
          have y2 := hy.2.2 _ g1
          have x2 := hx.2.2 _ g1
          have x1 := hx.1 _ g1
          rcases Int.lt_trichotomy (rc A.b A.e A.c p (cn_fs A.pt i + k)) 0 with z | z | z
          · rw [x2.1 z, y2.1 z]; exact Int.le_refl _
          · rw [hout _ g1 (by rw [g2]; exact q2) (decide_eq_true z) (by unfold AN.b; rw [g2]; exact eb) (by unfold AN.e; rw [g2]; exact ee)]
            exact y1.2
          · rw [y2.2 z]; exact x1.1)
        omega
      · rw [ind_t eb, ind_t ee]; simp
  rcases Int.lt_or_le (A.am y a) (A.am x a) with q | q
  · exfalso
    have hall : ∀ i, i < A.M → A.am y i * (ind S (A.fr i) - ind S (A.tr i)) ≤ A.am x i * (ind S (A.fr i) - ind S (A.tr i)) := by
      intro i hi
      by_cases z : i = a
      · rw [z, ind_t s1, ind_f s2]; omega
      · exact hl i hi z
    have := sI_eq hall (by omega) a ha
    rw [ind_t s1, ind_f s2] at this
    omega
  · exact q
