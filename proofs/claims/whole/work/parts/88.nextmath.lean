/-! ===== the cost of one more on an arc, of one less: the same by amounts as by lanes ===== -/
def AN.NK (A : AN) (a : Nat) (x : Int) (k : Nat) : Prop := k < A.pt a ∧ (∀ i, i < k → A.st (4 * a + i + 1) ≤ x) ∧ (k + 1 < A.pt a → x < A.st (4 * a + k + 1))
theorem AN.NK_uq {A : AN} {a : Nat} {x : Int} {k k' : Nat} (h : A.NK a x k) (h' : A.NK a x k') : k = k' := by
  rcases Nat.lt_trichotomy k k' with y | y | y
  · have := h.2.2 (by have := h'.1; omega)
    have := h'.2.1 k y
    omega
  · exact y
  · have := h'.2.2 (by have := h.1; omega)
    have := h.2.1 k' y
    omega
/-- the part in which one more would lie -/
def AN.nk (A : AN) (a : Nat) (x : Int) : Nat := if 1 < A.pt a ∧ A.st (4 * a + 1) ≤ x then (if 2 < A.pt a ∧ A.st (4 * a + 2) ≤ x then (if 3 < A.pt a ∧ A.st (4 * a + 3) ≤ x then 3 else 2) else 1) else 0
theorem AN.nk_NK {A : AN} (hA : A.ok) {a : Nat} (ha : a < A.M) {x : Int} : A.NK a x (A.nk a x) := by
  obtain ⟨p1, p2⟩ := (hA.2.1 a ha).2.1
  unfold AN.nk
  by_cases y1 : 1 < A.pt a ∧ A.st (4 * a + 1) ≤ x
  · rw [if_pos y1]
    by_cases y2 : 2 < A.pt a ∧ A.st (4 * a + 2) ≤ x
    · rw [if_pos y2]
      by_cases y3 : 3 < A.pt a ∧ A.st (4 * a + 3) ≤ x
      · rw [if_pos y3]
        refine ⟨y3.1, fun i hi => ?_, fun z => by omega⟩
        have : i = 0 ∨ i = 1 ∨ i = 2 := by omega
        rcases this with z | z | z <;> subst z
        · exact y1.2
        · exact y2.2
        · exact y3.2
      · rw [if_neg y3]
        refine ⟨y2.1, fun i hi => ?_, fun z => ?_⟩
        · have : i = 0 ∨ i = 1 := by omega
          rcases this with z | z <;> subst z
          · exact y1.2
          · exact y2.2
        · rcases Int.lt_or_le x (A.st (4 * a + 2 + 1)) with g | g
          · exact g
          · exact absurd ⟨z, g⟩ y3
    · rw [if_neg y2]
      refine ⟨y1.1, fun i hi => ?_, fun z => ?_⟩
      · have : i = 0 := by omega
        subst this
        exact y1.2
      · rcases Int.lt_or_le x (A.st (4 * a + 1 + 1)) with g | g
        · exact g
        · exact absurd ⟨z, g⟩ y2
  · rw [if_neg y1]
    refine ⟨by omega, fun i hi => by omega, fun z => ?_⟩
    rcases Int.lt_or_le x (A.st (4 * a + 0 + 1)) with g | g
    · exact g
    · exact absurd ⟨z, g⟩ y1
def AN.nc (A : AN) (a : Nat) (x : Int) : Int := A.rt (4 * a + A.nk a x)
theorem sI_ifn {f : Nat → Int} {k : Nat} : ∀ {n : Nat}, k ≤ n → sI (fun i => if i < k then f i else 0) n = sI f k
  | 0, h => by rw [show k = 0 by omega]; rfl
  | n + 1, h => by
    show sI (fun i => if i < k then f i else 0) n + (if n < k then f n else 0) = sI f k
    by_cases y : k = n + 1
    · subst y
      rw [if_pos (by omega)]
      show _ = sI f n + f n
      rw [sI_cg (fun i hi => if_pos (by omega))]
    · rw [if_neg (by omega), sI_ifn (by omega)]; omega
theorem AN.st_mono {A : AN} (hA : A.ok) {a : Nat} (ha : a < A.M) {i : Nat} : ∀ d, i + d < A.pt a → A.st (4 * a + i) ≤ A.st (4 * a + (i + d))
  | 0, _ => Int.le_refl _
  | d + 1, h => by
    have h1 := AN.st_mono hA ha (i := i) d (by omega)
    have h2 := ((hA.2.1 a ha).2.2.2.2.1 (i + d) (by omega)).1
    have e : 4 * a + (i + (d + 1)) = 4 * a + (i + d) + 1 := by omega
    rw [e]; omega
/-- what the first lanes of an arc hold -/
theorem AN.w_sum {A : AN} {B : Int} {a : Nat} (ha : a < A.M) : ∀ j, j < A.pt a → sI (fun i => A.w B (cn_fs A.pt a + i)) j = A.st (4 * a + j) - A.st (4 * a)
  | 0, _ => by show (0 : Int) = A.st (4 * a) - A.st (4 * a); omega
  | j + 1, h => by
    show sI (fun i => A.w B (cn_fs A.pt a + i)) j + A.w B (cn_fs A.pt a + j) = _
    rw [AN.w_sum ha j (by omega), AN.w_at ha (by omega)]
    unfold AN.ed
    rw [if_pos h, show 4 * a + (j + 1) = 4 * a + j + 1 by omega]; omega
/-- what an arc's lanes hold -/
theorem AN.w_all {A : AN} (hA : A.ok) {B : Int} {a : Nat} (ha : a < A.M) : sI (fun i => A.w B (cn_fs A.pt a + i)) (A.pt a) = (if A.en a then B else A.tp a) - A.st (4 * a) := by
  obtain ⟨p1, p2⟩ := (hA.2.1 a ha).2.1
  have e : A.pt a = (A.pt a - 1) + 1 := by omega
  rw [e]
  show sI (fun i => A.w B (cn_fs A.pt a + i)) (A.pt a - 1) + A.w B (cn_fs A.pt a + (A.pt a - 1)) = _
  rw [AN.w_sum ha _ (by omega), AN.w_at ha (by omega)]
  unfold AN.ed
  rw [if_neg (show ¬ A.pt a - 1 + 1 < A.pt a by omega)]; omega
theorem AN.rc_c {A : AN} {p : Nat → Int} {a i j : Nat} (ha : a < A.M) (hi : i < A.pt a) (hj : j < A.pt a) : rc A.b A.e A.c p (cn_fs A.pt a + i) - rc A.b A.e A.c p (cn_fs A.pt a + j) = A.rt (4 * a + i) - A.rt (4 * a + j) := by
  obtain ⟨-, a1, a2⟩ := A.l_at ha hi
  obtain ⟨-, b1, b2⟩ := A.l_at ha hj
  unfold rc AN.c AN.b AN.e
  rw [a1, a2, b1, b2]; omega
/-- one more -/
theorem AN.nc_up {A : AN} (hA : A.ok) {B : Int} {p lo : Nat → Int} {a j : Nat} (hl : fits A.K (A.w B) lo) (hp : pf A.K A.b A.e (A.w B) A.c p lo) (ha : a < A.M) (hj : j < A.pt a) (hm : lo (cn_fs A.pt a + j) < A.w B (cn_fs A.pt a + j)) (hb : ∀ i, i < j → A.w B (cn_fs A.pt a + i) ≤ lo (cn_fs A.pt a + i)) : A.nc a (A.on lo a) = A.rt (4 * a + j) := by
  have hk := AN.nk_NK hA ha (x := A.on lo a)
  unfold AN.nc
  obtain ⟨k1, k2, k3⟩ := hk
  have am : A.on lo a = A.st (4 * a) + sI (fun i => lo (cn_fs A.pt a + i)) (A.pt a) := rfl
  have ge : A.st (4 * a + j) ≤ A.on lo a := by
    have h1 : sI (fun i => if i < j then A.w B (cn_fs A.pt a + i) else 0) (A.pt a) ≤ sI (fun i => lo (cn_fs A.pt a + i)) (A.pt a) := sI_le (fun i hi => by
      show (if i < j then A.w B (cn_fs A.pt a + i) else 0) ≤ lo (cn_fs A.pt a + i)
      by_cases y : i < j
      · rw [if_pos y]; exact hb i y
      · rw [if_neg y]; exact (hl _ (A.l_at ha hi).1).1)
    rw [sI_ifn (f := fun i => A.w B (cn_fs A.pt a + i)) (by omega), AN.w_sum ha _ hj] at h1
    omega
  have kj : j ≤ A.nk a (A.on lo a) := by
    rcases Nat.lt_or_ge (A.nk a (A.on lo a)) j with y | y
    · have h1 := k3 (by omega)
      have h2 := AN.st_mono hA ha (i := A.nk a (A.on lo a) + 1) (j - (A.nk a (A.on lo a) + 1)) (by omega)
      rw [show A.nk a (A.on lo a) + 1 + (j - (A.nk a (A.on lo a) + 1)) = j by omega, show 4 * a + (A.nk a (A.on lo a) + 1) = 4 * a + A.nk a (A.on lo a) + 1 by omega] at h2
      omega
    · exact y
  by_cases z : A.nk a (A.on lo a) = j
  · rw [z]
  · have ex : ∃ i, A.nk a (A.on lo a) ≤ i ∧ i < A.pt a ∧ 0 < lo (cn_fs A.pt a + i) := by
      refine Classical.byContradiction (fun hno => ?_)
      have h0 : ∀ i, i < A.pt a → lo (cn_fs A.pt a + i) ≤ (fun i => if i < A.nk a (A.on lo a) then A.w B (cn_fs A.pt a + i) else 0) i := fun i hi => by
        show _ ≤ (if i < A.nk a (A.on lo a) then A.w B (cn_fs A.pt a + i) else 0)
        by_cases y : i < A.nk a (A.on lo a)
        · rw [if_pos y]; exact (hl _ (A.l_at ha hi).1).2
        · rw [if_neg y]
          rcases Int.lt_or_le 0 (lo (cn_fs A.pt a + i)) with g | g
          · exact absurd ⟨i, by omega, hi, g⟩ hno
          · exact g
      have h1 := k2 (A.nk a (A.on lo a) - 1) (by omega)
      rw [show 4 * a + (A.nk a (A.on lo a) - 1) + 1 = 4 * a + A.nk a (A.on lo a) by omega] at h1
      have h2 := sI_eq h0 (by rw [sI_ifn (f := fun i => A.w B (cn_fs A.pt a + i)) (by omega), AN.w_sum ha _ k1]; omega) j hj
      have h3 : lo (cn_fs A.pt a + j) = (if j < A.nk a (A.on lo a) then A.w B (cn_fs A.pt a + j) else 0) := h2
      rw [if_pos (by omega)] at h3
      omega
    obtain ⟨i, i1, i2, i3⟩ := ex
    have r1 : 0 ≤ rc A.b A.e A.c p (cn_fs A.pt a + j) := by
      rcases Int.lt_or_le (rc A.b A.e A.c p (cn_fs A.pt a + j)) 0 with g | g
      · have := (hp _ (A.l_at ha hj).1).1 g; omega
      · exact g
    have r2 : rc A.b A.e A.c p (cn_fs A.pt a + i) ≤ 0 := by
      rcases Int.lt_or_le 0 (rc A.b A.e A.c p (cn_fs A.pt a + i)) with g | g
      · have := (hp _ (A.l_at ha i2).1).2 g; omega
      · exact g
    have m1 := AN.rc_mono hA (p := p) (k := j) ha (A.nk a (A.on lo a) - j) (by omega)
    have m2 := AN.rc_mono hA (p := p) (k := A.nk a (A.on lo a)) ha (i - A.nk a (A.on lo a)) (by omega)
    rw [show j + (A.nk a (A.on lo a) - j) = A.nk a (A.on lo a) by omega] at m1
    rw [show A.nk a (A.on lo a) + (i - A.nk a (A.on lo a)) = i by omega] at m2
    have := AN.rc_c (p := p) ha hj k1
    omega
/-- one less -/
theorem AN.nc_dn {A : AN} (hA : A.ok) {B : Int} {p lo : Nat → Int} {a j : Nat} (hl : fits A.K (A.w B) lo) (hp : pf A.K A.b A.e (A.w B) A.c p lo) (ha : a < A.M) (hj : j < A.pt a) (hm : 0 < lo (cn_fs A.pt a + j)) (hb : ∀ i, j < i → i < A.pt a → lo (cn_fs A.pt a + i) ≤ 0) : A.nc a (A.on lo a - 1) = A.rt (4 * a + j) := by
  have hk := AN.nk_NK hA ha (x := A.on lo a - 1)
  unfold AN.nc
  obtain ⟨k1, k2, k3⟩ := hk
  have am : A.on lo a = A.st (4 * a) + sI (fun i => lo (cn_fs A.pt a + i)) (A.pt a) := rfl
  have le : j + 1 < A.pt a → A.on lo a ≤ A.st (4 * a + j + 1) := fun h => by
    have h1 : sI (fun i => lo (cn_fs A.pt a + i)) (A.pt a) ≤ sI (fun i => if i < j + 1 then A.w B (cn_fs A.pt a + i) else 0) (A.pt a) := sI_le (fun i hi => by
      show lo (cn_fs A.pt a + i) ≤ (if i < j + 1 then A.w B (cn_fs A.pt a + i) else 0)
      by_cases y : i < j + 1
      · rw [if_pos y]; exact (hl _ (A.l_at ha hi).1).2
      · rw [if_neg y]; exact hb i (by omega) hi)
    rw [sI_ifn (f := fun i => A.w B (cn_fs A.pt a + i)) (by omega), AN.w_sum ha _ h, show 4 * a + (j + 1) = 4 * a + j + 1 by omega] at h1
    omega
  have kj : A.nk a (A.on lo a - 1) ≤ j := by
    rcases Nat.lt_or_ge j (A.nk a (A.on lo a - 1)) with y | y
    · have h1 := k2 j y
      have h2 := le (by omega)
      omega
    · exact y
  by_cases z : A.nk a (A.on lo a - 1) = j
  · rw [z]
  · have ex : ∃ i, i ≤ A.nk a (A.on lo a - 1) ∧ lo (cn_fs A.pt a + i) < A.w B (cn_fs A.pt a + i) := by
      refine Classical.byContradiction (fun hno => ?_)
      have h0 : ∀ i, i < A.pt a → (fun i => if i < A.nk a (A.on lo a - 1) + 1 then A.w B (cn_fs A.pt a + i) else 0) i ≤ lo (cn_fs A.pt a + i) := fun i hi => by
        show (if i < A.nk a (A.on lo a - 1) + 1 then A.w B (cn_fs A.pt a + i) else 0) ≤ _
        by_cases y : i < A.nk a (A.on lo a - 1) + 1
        · rw [if_pos y]
          rcases Int.lt_or_le (lo (cn_fs A.pt a + i)) (A.w B (cn_fs A.pt a + i)) with g | g
          · exact absurd ⟨i, by omega, g⟩ hno
          · exact g
        · rw [if_neg y]; exact (hl _ (A.l_at ha hi).1).1
      have h1 := k3 (by omega)
      have h2 := sI_eq h0 (by rw [sI_ifn (f := fun i => A.w B (cn_fs A.pt a + i)) (by omega), AN.w_sum ha _ (by omega), show 4 * a + (A.nk a (A.on lo a - 1) + 1) = 4 * a + A.nk a (A.on lo a - 1) + 1 by omega]; omega) j hj
      have h3 : (if j < A.nk a (A.on lo a - 1) + 1 then A.w B (cn_fs A.pt a + j) else 0) = lo (cn_fs A.pt a + j) := h2
      rw [if_neg (by omega)] at h3
      omega
    obtain ⟨i, i1, i2⟩ := ex
    have r1 : 0 ≤ rc A.b A.e A.c p (cn_fs A.pt a + i) := by
      rcases Int.lt_or_le (rc A.b A.e A.c p (cn_fs A.pt a + i)) 0 with g | g
      · have := (hp _ (A.l_at ha (show i < A.pt a by omega)).1).1 g; omega
      · exact g
    have r2 : rc A.b A.e A.c p (cn_fs A.pt a + j) ≤ 0 := by
      rcases Int.lt_or_le 0 (rc A.b A.e A.c p (cn_fs A.pt a + j)) with g | g
      · have := (hp _ (A.l_at ha hj).1).2 g; omega
      · exact g
    have m1 := AN.rc_mono hA (p := p) (k := i) ha (A.nk a (A.on lo a - 1) - i) (by omega)
    have m2 := AN.rc_mono hA (p := p) (k := A.nk a (A.on lo a - 1)) ha (j - A.nk a (A.on lo a - 1)) (by omega)
    rw [show i + (A.nk a (A.on lo a - 1) - i) = A.nk a (A.on lo a - 1) by omega] at m1
    rw [show A.nk a (A.on lo a - 1) + (j - A.nk a (A.on lo a - 1)) = j by omega] at m2
    have := AN.rc_c (p := p) ha hj k1
    omega
/-- the ways by arcs: 2 * a one more, 2 * a + 1 one less -/
def AN.yo (A : AN) (x : Nat → Int) (j : Nat) : Bool := if j % 2 = 0 then A.en (j / 2) || decide (x (j / 2) < A.tp (j / 2)) else decide (A.st (4 * (j / 2)) < x (j / 2))
def AN.yc (A : AN) (x : Nat → Int) (j : Nat) : Int := if j % 2 = 0 then A.nc (j / 2) (x (j / 2)) else -A.nc (j / 2) (x (j / 2) - 1)
theorem AN.gat_y {A : AN} (hA : A.ok) {B : Int} {p lo : Nat → Int} (hB : 1000000 ≤ B) (hl : fits A.K (A.w B) lo) (hp : pf A.K A.b A.e (A.w B) A.c p lo) {w : Nat} (hg : A.gat (A.w B) lo w) : ∃ j, j < 2 * A.M ∧ (j / 2 = A.ar (w / 2) ∧ j % 2 = w % 2) ∧ A.yo (A.on lo) j = true ∧ wb A.fr A.tr j = wb A.b A.e w ∧ we A.fr A.tr j = we A.b A.e w ∧ A.yc (A.on lo) j = wr A.c w := by
  obtain ⟨g1, g2, g3, g4⟩ := hg
  obtain ⟨ha, k, hk, e1, e2⟩ := A.l_in (show w / 2 < A.K by omega)
  have am : A.on lo (A.ar (w / 2)) = A.st (4 * A.ar (w / 2)) + sI (fun i => lo (cn_fs A.pt (A.ar (w / 2)) + i)) (A.pt (A.ar (w / 2))) := rfl
  by_cases y : w % 2 = 0
  · refine ⟨2 * A.ar (w / 2), by omega, ⟨by omega, by omega⟩, ?_, ?_, ?_, ?_⟩
    · unfold AN.yo
      rw [if_pos (by omega), show 2 * A.ar (w / 2) / 2 = A.ar (w / 2) by omega]
      cases hq : A.en (A.ar (w / 2)) with
      | true => rfl
      | false =>
        rw [Bool.false_or, decide_eq_true_eq]
        have h1 := AN.w_all hA (B := B) ha
        rw [hq] at h1
        have h2 : sI (fun i => lo (cn_fs A.pt (A.ar (w / 2)) + i)) (A.pt (A.ar (w / 2))) ≤ sI (fun i => A.w B (cn_fs A.pt (A.ar (w / 2)) + i)) (A.pt (A.ar (w / 2))) := sI_le (fun i hi => (hl _ (A.l_at ha hi).1).2)
        rcases Int.lt_or_le (A.on lo (A.ar (w / 2))) (A.tp (A.ar (w / 2))) with g | g
        · exact g
        · have h3 := sI_eq (f := fun i => lo (cn_fs A.pt (A.ar (w / 2)) + i)) (g := fun i => A.w B (cn_fs A.pt (A.ar (w / 2)) + i)) (fun i hi => (hl _ (A.l_at ha hi).1).2) (by rw [h1]; show A.tp _ - _ ≤ _; omega) k hk
          have h4 : lo (cn_fs A.pt (A.ar (w / 2)) + k) = A.w B (cn_fs A.pt (A.ar (w / 2)) + k) := h3
          rw [← e1] at h4
          unfold wm at g2
          rw [if_pos y] at g2
          omega
    · rw [wy_e.1]; unfold wb; rw [if_pos y]; rfl
    · rw [wy_e.2]; unfold we; rw [if_pos y]; rfl
    · unfold AN.yc wr
      rw [if_pos (by omega), if_pos y, show 2 * A.ar (w / 2) / 2 = A.ar (w / 2) by omega]
      have e3 : A.c (w / 2) = A.rt (4 * A.ar (w / 2) + k) := by unfold AN.c; rw [e2]
      rw [e3]
      unfold wm at g2
      rw [if_pos y] at g2
      refine AN.nc_up hA hl hp ha hk (by rw [← e1]; omega) (fun i hi => ?_)
      have q := A.l_at ha (show i < A.pt (A.ar (w / 2)) by omega)
      exact g3 y _ (by omega) q.2.1
  · refine ⟨2 * A.ar (w / 2) + 1, by omega, ⟨by omega, by omega⟩, ?_, ?_, ?_, ?_⟩
    · unfold AN.yo
      rw [if_neg (by omega), show (2 * A.ar (w / 2) + 1) / 2 = A.ar (w / 2) by omega, decide_eq_true_eq]
      unfold wm at g2
      rw [if_neg y, e1] at g2
      have h1 := sI_term (f := fun i => lo (cn_fs A.pt (A.ar (w / 2)) + i)) (fun i hi => (hl _ (A.l_at ha hi).1).1) hk
      have h2 : lo (cn_fs A.pt (A.ar (w / 2)) + k) ≤ sI (fun i => lo (cn_fs A.pt (A.ar (w / 2)) + i)) (A.pt (A.ar (w / 2))) := h1
      omega
    · rw [wy_o.1]; unfold wb; rw [if_neg y]; rfl
    · rw [wy_o.2]; unfold we; rw [if_neg y]; rfl
    · unfold AN.yc wr
      rw [if_neg (by omega), if_neg y, show (2 * A.ar (w / 2) + 1) / 2 = A.ar (w / 2) by omega]
      have e3 : A.c (w / 2) = A.rt (4 * A.ar (w / 2) + k) := by unfold AN.c; rw [e2]
      rw [e3]
      unfold wm at g2
      rw [if_neg y] at g2
      rw [AN.nc_dn hA hl hp ha hk (by rw [← e1]; omega) (fun i hi hi2 => ?_)]
      have q := A.l_at ha hi2
      exact g4 (by omega) _ (by omega) q.1 q.2.1
theorem first_ex {P : Nat → Prop} : ∀ {n : Nat}, (∃ i, i < n ∧ P i) → ∃ i, i < n ∧ P i ∧ ∀ j, j < i → ¬ P j
  | 0, ⟨i, h, _⟩ => absurd h (Nat.not_lt_zero _)
  | n + 1, ⟨i, h, hp⟩ => by
    by_cases y : ∃ i, i < n ∧ P i
    · obtain ⟨j, h1, h2, h3⟩ := first_ex y
      exact ⟨j, by omega, h2, h3⟩
    · have e : i = n := by
        rcases Nat.lt_or_ge i n with z | z
        · exact absurd ⟨i, z, hp⟩ y
        · omega
      subst e
      exact ⟨i, by omega, hp, fun j hj hq => y ⟨j, hj, hq⟩⟩
theorem last_ex {P : Nat → Prop} : ∀ {n : Nat}, (∃ i, i < n ∧ P i) → ∃ i, i < n ∧ P i ∧ ∀ j, i < j → j < n → ¬ P j
  | 0, ⟨i, h, _⟩ => absurd h (Nat.not_lt_zero _)
  | n + 1, ⟨i, h, hp⟩ => by
    by_cases y : P n
    · exact ⟨n, by omega, y, fun j h1 h2 => by omega⟩
    · have hi : i < n := by
        rcases Nat.lt_or_ge i n with z | z
        · exact z
        · rw [show i = n by omega] at hp; exact absurd hp y
      obtain ⟨j, h1, h2, h3⟩ := last_ex ⟨i, hi, hp⟩
      refine ⟨j, by omega, h2, fun m m1 m2 => ?_⟩
      by_cases z : m = n
      · rw [z]; exact y
      · exact h3 m m1 (by omega)
theorem AN.y_gat {A : AN} (hA : A.ok) {B : Int} {p lo : Nat → Int} (hB : 1000000 ≤ B) (hl : fits A.K (A.w B) lo) (hp : pf A.K A.b A.e (A.w B) A.c p lo) (hs : ∀ a, a < A.M → A.en a = true → A.on lo a < B) {j : Nat} (hj : j < 2 * A.M) (ho : A.yo (A.on lo) j = true) : ∃ w, A.gat (A.w B) lo w ∧ (j / 2 = A.ar (w / 2) ∧ j % 2 = w % 2) ∧ wb A.b A.e w = wb A.fr A.tr j ∧ we A.b A.e w = we A.fr A.tr j ∧ wr A.c w = A.yc (A.on lo) j := by
  have ha : j / 2 < A.M := by omega
  have am : A.on lo (j / 2) = A.st (4 * (j / 2)) + sI (fun i => lo (cn_fs A.pt (j / 2) + i)) (A.pt (j / 2)) := rfl
  suffices h : ∃ w, A.gat (A.w B) lo w ∧ A.ar (w / 2) = j / 2 ∧ w % 2 = j % 2 by
    obtain ⟨w, h1, h2, h3⟩ := h
    obtain ⟨j', q1, ⟨q2, q3⟩, q4, q5, q6, q7⟩ := AN.gat_y hA hB hl hp h1
    have : j' = j := by omega
    subst this
    exact ⟨w, h1, ⟨q2, q3⟩, q5.symm, q6.symm, q7.symm⟩
  by_cases y : j % 2 = 0
  · unfold AN.yo at ho
    rw [if_pos y, Bool.or_eq_true, decide_eq_true_eq] at ho
    have lt : A.on lo (j / 2) < (if A.en (j / 2) then B else A.tp (j / 2)) := by
      cases hq : A.en (j / 2) with
      | true => rw [if_pos rfl]; exact hs _ ha hq
      | false =>
        rw [hq] at ho
        rcases ho with g | g
        · cases g
        · exact g
    have ex : ∃ i, i < A.pt (j / 2) ∧ lo (cn_fs A.pt (j / 2) + i) < A.w B (cn_fs A.pt (j / 2) + i) := by
      refine Classical.byContradiction (fun hno => ?_)
      have h1 : sI (fun i => A.w B (cn_fs A.pt (j / 2) + i)) (A.pt (j / 2)) ≤ sI (fun i => lo (cn_fs A.pt (j / 2) + i)) (A.pt (j / 2)) := sI_le (fun i hi => by
        show A.w B (cn_fs A.pt (j / 2) + i) ≤ lo (cn_fs A.pt (j / 2) + i)
        rcases Int.lt_or_le (lo (cn_fs A.pt (j / 2) + i)) (A.w B (cn_fs A.pt (j / 2) + i)) with g | g
        · exact absurd ⟨i, hi, g⟩ hno
        · exact g)
      rw [AN.w_all hA ha] at h1
      omega
    obtain ⟨i, i1, i2, i3⟩ := first_ex ex
    obtain ⟨q1, q2, q3⟩ := A.l_at ha i1
    refine ⟨2 * (cn_fs A.pt (j / 2) + i), ⟨by omega, by rw [wm_e]; omega, fun _ l' h1 h2 => ?_, fun z => by omega⟩, by rw [show 2 * (cn_fs A.pt (j / 2) + i) / 2 = cn_fs A.pt (j / 2) + i by omega]; exact q2, by omega⟩
    rw [show 2 * (cn_fs A.pt (j / 2) + i) / 2 = cn_fs A.pt (j / 2) + i by omega] at h1 h2
    rw [q2] at h2
    obtain ⟨-, k, k1, k2, k3⟩ := A.l_in (show l' < A.K by omega)
    rw [h2] at k1 k2
    have := i3 k (by omega)
    rw [k2]; omega
  · unfold AN.yo at ho
    rw [if_neg y, decide_eq_true_eq] at ho
    have ex : ∃ i, i < A.pt (j / 2) ∧ 0 < lo (cn_fs A.pt (j / 2) + i) := by
      refine Classical.byContradiction (fun hno => ?_)
      have h1 : sI (fun i => lo (cn_fs A.pt (j / 2) + i)) (A.pt (j / 2)) ≤ sI (fun _ => 0) (A.pt (j / 2)) := sI_le (fun i hi => by
        show lo (cn_fs A.pt (j / 2) + i) ≤ 0
        rcases Int.lt_or_le 0 (lo (cn_fs A.pt (j / 2) + i)) with g | g
        · exact absurd ⟨i, hi, g⟩ hno
        · exact g)
      rw [sI_0 (f := fun _ => 0) (fun _ _ => rfl)] at h1
      omega
    obtain ⟨i, i1, i2, i3⟩ := last_ex ex
    obtain ⟨q1, q2, q3⟩ := A.l_at ha i1
    refine ⟨2 * (cn_fs A.pt (j / 2) + i) + 1, ⟨by omega, by rw [wm_o]; omega, fun z => by omega, fun _ l' h1 h3 h2 => ?_⟩, by rw [show (2 * (cn_fs A.pt (j / 2) + i) + 1) / 2 = cn_fs A.pt (j / 2) + i by omega]; exact q2, by omega⟩
    rw [show (2 * (cn_fs A.pt (j / 2) + i) + 1) / 2 = cn_fs A.pt (j / 2) + i by omega] at h1 h2
    rw [q2] at h2
    obtain ⟨-, k, k1, k2, k3⟩ := A.l_in h3
    rw [h2] at k1 k2
    have := i3 k (by omega) k1
    rw [k2]; omega
