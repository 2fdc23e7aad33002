/-! ===== sums of whole numbers ===== -/
def sI (f : Nat → Int) : Nat → Int
  | 0 => 0
  | n + 1 => sI f n + f n
theorem sI_cg {f g : Nat → Int} : ∀ {n : Nat}, (∀ i, i < n → f i = g i) → sI f n = sI g n
  | 0, _ => rfl
  | n + 1, h => by
    show sI f n + f n = sI g n + g n
    rw [sI_cg (fun i hi => h i (by omega)), h n (by omega)]
theorem sI_le {f g : Nat → Int} : ∀ {n : Nat}, (∀ i, i < n → f i ≤ g i) → sI f n ≤ sI g n
  | 0, _ => Int.le_refl _
  | n + 1, h => by
    have h1 := sI_le (n := n) (fun i hi => h i (by omega))
    have h2 := h n (by omega)
    show sI f n + f n ≤ sI g n + g n
    omega
theorem sI_add {f g : Nat → Int} : ∀ {n : Nat}, sI (fun i => f i + g i) n = sI f n + sI g n
  | 0 => rfl
  | n + 1 => by
    have h1 := sI_add (f := f) (g := g) (n := n)
    show sI (fun i => f i + g i) n + (f n + g n) = sI f n + f n + (sI g n + g n)
    omega
theorem sI_sub {f g : Nat → Int} : ∀ {n : Nat}, sI (fun i => f i - g i) n = sI f n - sI g n
  | 0 => rfl
  | n + 1 => by
    have h1 := sI_sub (f := f) (g := g) (n := n)
    show sI (fun i => f i - g i) n + (f n - g n) = sI f n + f n - (sI g n + g n)
    omega
theorem sI_mul {a : Int} {f : Nat → Int} : ∀ {n : Nat}, sI (fun i => a * f i) n = a * sI f n
  | 0 => by simp [sI]
  | n + 1 => by
    have h1 := sI_mul (a := a) (f := f) (n := n)
    show sI (fun i => a * f i) n + a * f n = a * (sI f n + f n)
    rw [h1, Int.mul_add]
theorem sI_0 {f : Nat → Int} : ∀ {n : Nat}, (∀ i, i < n → f i = 0) → sI f n = 0
  | 0, _ => rfl
  | n + 1, h => by
    have h1 := sI_0 (n := n) (fun i hi => h i (by omega))
    have h2 := h n (by omega)
    show sI f n + f n = 0
    omega
theorem sI_ge0 {f : Nat → Int} : ∀ {n : Nat}, (∀ i, i < n → 0 ≤ f i) → 0 ≤ sI f n
  | 0, _ => Int.le_refl _
  | n + 1, h => by
    have h1 := sI_ge0 (n := n) (fun i hi => h i (by omega))
    have h2 := h n (by omega)
    show 0 ≤ sI f n + f n
    omega
/-- pointwise no greater, and the sums no less: pointwise the same -/
theorem sI_eq {f g : Nat → Int} : ∀ {n : Nat}, (∀ i, i < n → f i ≤ g i) → sI g n ≤ sI f n → ∀ i, i < n → f i = g i
  | 0, _, _ => fun i hi => absurd hi (Nat.not_lt_zero _)
  | n + 1, h, hs => by
    have h1 := sI_le (n := n) (fun i hi => h i (by omega))
    have h2 := h n (by omega)
    have h3 : sI g n + g n ≤ sI f n + f n := hs
    intro i hi
    rcases Nat.lt_or_ge i n with y | y
    · exact sI_eq (n := n) (fun i hi => h i (by omega)) (by omega) i y
    · rw [show i = n by omega]; omega
theorem sI_one {k : Nat} {a : Int} : ∀ {n : Nat}, sI (fun i => if i = k then a else 0) n = if k < n then a else 0
  | 0 => by simp [sI]
  | n + 1 => by
    have h1 := sI_one (k := k) (a := a) (n := n)
    show sI (fun i => if i = k then a else 0) n + (if n = k then a else 0) = _
    rw [h1]
    by_cases h : n = k
    · rw [if_neg (by omega), if_pos h, if_pos (by omega)]; omega
    · rw [if_neg h]
      by_cases h2 : k < n
      · rw [if_pos h2, if_pos (by omega)]; omega
      · rw [if_neg h2, if_neg (by omega)]; omega
theorem sI_swap {f : Nat → Nat → Int} {m : Nat} : ∀ {n : Nat}, sI (fun i => sI (fun j => f i j) m) n = sI (fun j => sI (fun i => f i j) n) m
  | 0 => (sI_0 (fun _ _ => rfl)).symm
  | n + 1 => by
    have h1 := sI_swap (f := f) (m := m) (n := n)
    show sI (fun i => sI (fun j => f i j) m) n + sI (fun j => f n j) m = sI (fun j => sI (fun i => f i j) n + f n j) m
    rw [sI_add, h1]
/-- the same, one place changed -/
def uI (f : Nat → Int) (k : Nat) (a : Int) : Nat → Int := fun i => if i = k then a else f i
theorem uI_at {f : Nat → Int} {k : Nat} {a : Int} : uI f k a k = a := if_pos rfl
theorem uI_ne {f : Nat → Int} {k i : Nat} {a : Int} (h : i ≠ k) : uI f k a i = f i := if_neg h
theorem sI_upd {f : Nat → Int} {k n : Nat} {a : Int} (h : k < n) : sI (uI f k a) n = sI f n + (a - f k) := by
  have e : sI (uI f k a) n = sI (fun i => f i + (if i = k then a - f k else 0)) n := sI_cg (fun i _ => by
    unfold uI
    by_cases h : i = k
    · rw [if_pos h, if_pos h, h]; omega
    · rw [if_neg h, if_neg h]; omega)
  rw [e, sI_add, sI_one, if_pos h]
/-- one term is no greater than the sum of terms not below 0 -/
theorem sI_term {f : Nat → Int} {n k : Nat} (h : ∀ i, i < n → 0 ≤ f i) (hk : k < n) : f k ≤ sI f n := by
  have h1 : sI (fun i => if i = k then f k else 0) n ≤ sI f n := sI_le (fun i hi => by
    show (if i = k then f k else 0) ≤ f i
    by_cases e : i = k
    · rw [if_pos e, e]; exact Int.le_refl _
    · rw [if_neg e]; exact h i hi)
  rw [sI_one, if_pos hk] at h1
  exact h1
theorem sI_const {a : Int} : ∀ {n : Nat}, sI (fun _ => a) n = n * a
  | 0 => by simp [sI]
  | n + 1 => by
    have h1 := sI_const (a := a) (n := n)
    show sI (fun _ => a) n + a = _
    rw [h1, Int.natCast_add, Int.add_mul]; omega
theorem sI_bd {f : Nat → Int} {n : Nat} {a : Int} (h : ∀ i, i < n → f i ≤ a) : sI f n ≤ n * a := by
  rw [← sI_const (a := a)]
  exact sI_le h

/-! ===== a net of lanes: what leaves a node, cuts, prices ===== -/
/-- what leaves v along the lanes, less what comes -/
def dv (K : Nat) (b e : Nat → Nat) (x : Nat → Int) (v : Nat) : Int := sI (fun l => (if b l = v then x l else 0) - (if e l = v then x l else 0)) K
theorem dv_sbp {n K : Nat} {b e : Nat → Nat} {x p : Nat → Int} (hb : ∀ l, l < K → b l < n ∧ e l < n) : sI (fun v => p v * dv K b e x v) n = sI (fun l => x l * (p (b l) - p (e l))) K := by
  have e1 : sI (fun v => p v * dv K b e x v) n = sI (fun v => sI (fun l => p v * ((if b l = v then x l else 0) - (if e l = v then x l else 0))) K) n := sI_cg (fun v _ => by
    unfold dv
    rw [sI_mul])
  rw [e1, sI_swap]
  refine sI_cg (fun l hl => ?_)
  obtain ⟨h1, h2⟩ := hb l hl
  have e2 : sI (fun v => p v * ((if b l = v then x l else 0) - (if e l = v then x l else 0))) n = sI (fun v => (if v = b l then p (b l) * x l else 0) - (if v = e l then p (e l) * x l else 0)) n := sI_cg (fun v _ => by
    show p v * ((if b l = v then x l else 0) - (if e l = v then x l else 0)) = (if v = b l then p (b l) * x l else 0) - (if v = e l then p (e l) * x l else 0)
    rw [Int.mul_sub]
    congr 1
    · by_cases h : b l = v
      · rw [if_pos h, if_pos h.symm, h]
      · rw [if_neg h, if_neg (Ne.symm h), Int.mul_zero]
    · by_cases h : e l = v
      · rw [if_pos h, if_pos h.symm, h]
      · rw [if_neg h, if_neg (Ne.symm h), Int.mul_zero])
  rw [e2, sI_sub, sI_one, sI_one, if_pos h1, if_pos h2, Int.mul_sub, Int.mul_comm (x l), Int.mul_comm (x l)]
theorem dv_add {K : Nat} {b e : Nat → Nat} {x y : Nat → Int} {v : Nat} : dv K b e (fun l => x l + y l) v = dv K b e x v + dv K b e y v := by
  unfold dv
  rw [← sI_add]
  refine sI_cg (fun l _ => ?_)
  show (if b l = v then x l + y l else 0) - (if e l = v then x l + y l else 0) = _
  split <;> split <;> omega
theorem dv_mul {K : Nat} {b e : Nat → Nat} {a : Int} {x : Nat → Int} {v : Nat} : dv K b e (fun l => a * x l) v = a * dv K b e x v := by
  unfold dv
  rw [← sI_mul]
  refine sI_cg (fun l _ => ?_)
  show (if b l = v then a * x l else 0) - (if e l = v then a * x l else 0) = _
  rw [Int.mul_sub]
  split <;> split <;> simp
theorem dv_cg {K : Nat} {b e : Nat → Nat} {x y : Nat → Int} {v : Nat} (h : ∀ l, l < K → x l = y l) : dv K b e x v = dv K b e y v := by
  unfold dv
  exact sI_cg (fun l hl => by show (if b l = v then x l else 0) - (if e l = v then x l else 0) = (if b l = v then y l else 0) - (if e l = v then y l else 0); rw [h l hl])
/-- one lane's load changed -/
theorem dv_upd {K : Nat} {b e : Nat → Nat} {x : Nat → Int} {v k : Nat} {a : Int} (h : k < K) : dv K b e (uI x k (x k + a)) v = dv K b e x v + ((if b k = v then a else 0) - (if e k = v then a else 0)) := by
  have h1 : dv K b e (uI x k (x k + a)) v = dv K b e (fun l => x l + (if l = k then a else 0)) v := dv_cg (fun l _ => by
    unfold uI
    by_cases h : l = k
    · rw [if_pos h, if_pos h, h]
    · rw [if_neg h, if_neg h]; omega)
  rw [h1, dv_add]
  congr 1
  have h2 : dv K b e (fun l => if l = k then a else 0) v = sI (fun l => if l = k then ((if b k = v then a else 0) - (if e k = v then a else 0)) else 0) K := sI_cg (fun l _ => by
    show (if b l = v then (if l = k then a else 0) else 0) - (if e l = v then (if l = k then a else 0) else 0) = if l = k then ((if b k = v then a else 0) - (if e k = v then a else 0)) else 0
    by_cases h : l = k
    · rw [h]; simp
    · rw [if_neg h, if_neg h]; simp)
  rw [h2, sI_one, if_pos h]
