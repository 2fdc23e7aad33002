/-! ===== amounts on arcs between bounds that prices give: the flows that they prove ===== -/
/-- the last of the first k parts that is such ends there -/
def bx (pr : Nat → Bool) (ed : Nat → Int) (x : Int) : Nat → Int
  | 0 => x
  | k + 1 => if pr k then ed k else bx pr ed x k
theorem bx_pre {pr : Nat → Bool} {ed : Nat → Int} {x : Int} : ∀ {n : Nat}, (∀ i k, i ≤ k → k < n → pr k = true → pr i = true) → ∃ j, j ≤ n ∧ (∀ k, k < n → (pr k = true ↔ k < j)) ∧ bx pr ed x n = if j = 0 then x else ed (j - 1)
  | 0, _ => ⟨0, Nat.le_refl _, fun k hk => absurd hk (Nat.not_lt_zero _), rfl⟩
  | n + 1, h => by
    cases hq : pr n with
    | true =>
      refine ⟨n + 1, Nat.le_refl _, fun k hk => ⟨fun _ => hk, fun _ => h k n (by omega) (by omega) hq⟩, ?_⟩
      show (if pr n then ed n else bx pr ed x n) = _
      rw [if_pos hq, if_neg (by omega)]; rfl
    | false =>
      obtain ⟨j, h1, h2, h3⟩ := bx_pre (n := n) (ed := ed) (x := x) (fun i k a b c => h i k a (by omega) c)
      refine ⟨j, by omega, fun k hk => ?_, ?_⟩
      · by_cases y : k < n
        · exact h2 k y
        · have e : k = n := by omega
          subst e
          rw [hq]
          exact ⟨fun z => (by cases z), fun z => by omega⟩
      · show (if pr n then ed n else bx pr ed x n) = _
        rw [hq]; exact h3
/-- an arc's least and most under the prices P -/
def AN.bL (A : AN) (B : Int) (P : Nat → Int) (a : Nat) : Int := bx (fun k => decide (A.rt (4 * a + k) < P (A.tr a) - P (A.fr a))) (A.ed B a) (A.st (4 * a)) (A.pt a)
def AN.bH (A : AN) (B : Int) (P : Nat → Int) (a : Nat) : Int := bx (fun k => decide (A.rt (4 * a + k) ≤ P (A.tr a) - P (A.fr a))) (A.ed B a) (A.st (4 * a)) (A.pt a)
/-- what an arc has when its first j lanes are full -/
def AN.cp (A : AN) (B : Int) (a j : Nat) : Int := A.st (4 * a) + sI (fun i => A.w B (cn_fs A.pt a + i)) j
theorem AN.cp_st {A : AN} {B : Int} {a j : Nat} (ha : a < A.M) (hj : j < A.pt a) : A.cp B a j = A.st (4 * a + j) := by
  unfold AN.cp
  rw [AN.w_sum ha j hj]; omega
theorem AN.cp_ed {A : AN} (hA : A.ok) {B : Int} {a j : Nat} (ha : a < A.M) (hj : j ≤ A.pt a) : (if j = 0 then A.st (4 * a) else A.ed B a (j - 1)) = A.cp B a j := by
  by_cases y : j = 0
  · subst y
    rw [if_pos rfl]; show _ = A.st (4 * a) + 0; omega
  · rw [if_neg y]
    unfold AN.ed
    by_cases z : j - 1 + 1 < A.pt a
    · rw [if_pos z, AN.cp_st ha (by omega), show 4 * a + (j - 1) + 1 = 4 * a + j by omega]
    · rw [if_neg z]
      unfold AN.cp
      rw [show j = A.pt a by omega, AN.w_all hA ha]; omega
theorem AN.cp_s {A : AN} {B : Int} {a j : Nat} : A.cp B a (j + 1) = A.cp B a j + A.w B (cn_fs A.pt a + j) := by
  show A.st (4 * a) + (sI (fun i => A.w B (cn_fs A.pt a + i)) j + A.w B (cn_fs A.pt a + j)) = A.st (4 * a) + sI (fun i => A.w B (cn_fs A.pt a + i)) j + A.w B (cn_fs A.pt a + j)
  omega
theorem AN.cp_mono {A : AN} (hA : A.ok) {B : Int} (hB : 1000000 ≤ B) {a : Nat} (ha : a < A.M) {i : Nat} : ∀ d, i + d ≤ A.pt a → A.cp B a i ≤ A.cp B a (i + d)
  | 0, _ => Int.le_refl _
  | d + 1, h => by
    have h1 := AN.cp_mono hA hB ha (i := i) d (by omega)
    have h2 := (A.w_bd hA hB (A.l_at ha (show i + d < A.pt a by omega)).1).1
    rw [show i + (d + 1) = i + d + 1 by omega, AN.cp_s]; omega
theorem AN.rt_mono {A : AN} (hA : A.ok) {a : Nat} (ha : a < A.M) {i : Nat} : ∀ d, i + d < A.pt a → A.rt (4 * a + i) ≤ A.rt (4 * a + (i + d))
  | 0, _ => Int.le_refl _
  | d + 1, h => by
    have h1 := AN.rt_mono hA ha (i := i) d (by omega)
    have h2 := ((hA.2.1 a ha).2.2.2.2.1 (i + d) (by omega)).2
    rw [show 4 * a + (i + (d + 1)) = 4 * a + (i + d) + 1 by omega]; omega
theorem AN.rc_at {A : AN} {P : Nat → Int} {a k : Nat} (ha : a < A.M) (hk : k < A.pt a) : rc A.b A.e A.c P (cn_fs A.pt a + k) = A.rt (4 * a + k) + P (A.fr a) - P (A.tr a) := by
  obtain ⟨-, a1, a2⟩ := A.l_at ha hk
  unfold rc AN.c AN.b AN.e
  rw [a1, a2]
theorem AN.bL_cp {A : AN} (hA : A.ok) {B : Int} {P : Nat → Int} {a : Nat} (ha : a < A.M) : ∃ j, j ≤ A.pt a ∧ (∀ k, k < A.pt a → (rc A.b A.e A.c P (cn_fs A.pt a + k) < 0 ↔ k < j)) ∧ A.bL B P a = A.cp B a j := by
  obtain ⟨j, h1, h2, h3⟩ := bx_pre (pr := fun k => decide (A.rt (4 * a + k) < P (A.tr a) - P (A.fr a))) (ed := A.ed B a) (x := A.st (4 * a)) (n := A.pt a) (fun i k h1 h2 h3 => by
    rw [decide_eq_true_eq] at h3 ⊢
    have := AN.rt_mono hA ha (i := i) (k - i) (by omega)
    rw [show i + (k - i) = k by omega] at this
    omega)
  refine ⟨j, h1, fun k hk => ?_, ?_⟩
  · rw [← h2 k hk, decide_eq_true_eq, AN.rc_at ha hk]
    exact ⟨fun _ => by omega, fun _ => by omega⟩
  · unfold AN.bL
    rw [h3, AN.cp_ed hA ha h1]
theorem AN.bH_cp {A : AN} (hA : A.ok) {B : Int} {P : Nat → Int} {a : Nat} (ha : a < A.M) : ∃ j, j ≤ A.pt a ∧ (∀ k, k < A.pt a → (rc A.b A.e A.c P (cn_fs A.pt a + k) ≤ 0 ↔ k < j)) ∧ A.bH B P a = A.cp B a j := by
  obtain ⟨j, h1, h2, h3⟩ := bx_pre (pr := fun k => decide (A.rt (4 * a + k) ≤ P (A.tr a) - P (A.fr a))) (ed := A.ed B a) (x := A.st (4 * a)) (n := A.pt a) (fun i k h1 h2 h3 => by
    rw [decide_eq_true_eq] at h3 ⊢
    have := AN.rt_mono hA ha (i := i) (k - i) (by omega)
    rw [show i + (k - i) = k by omega] at this
    omega)
  refine ⟨j, h1, fun k hk => ?_, ?_⟩
  · rw [← h2 k hk, decide_eq_true_eq, AN.rc_at ha hk]
    exact ⟨fun _ => by omega, fun _ => by omega⟩
  · unfold AN.bH
    rw [h3, AN.cp_ed hA ha h1]
/-- lanes filled in their order -/
def clp (x m : Int) : Int := if x ≤ 0 then 0 else if m ≤ x then m else x
def AN.nl (A : AN) (B : Int) (f : Nat → Int) (l : Nat) : Int := clp (f (A.ar l) - A.st (A.ix l)) (A.w B l)
theorem clp_bd {x m : Int} (h : 0 ≤ m) : 0 ≤ clp x m ∧ clp x m ≤ m := by
  unfold clp
  split
  · omega
  · split <;> omega
theorem AN.nl_at {A : AN} {B : Int} {f : Nat → Int} {a k : Nat} (ha : a < A.M) (hk : k < A.pt a) : A.nl B f (cn_fs A.pt a + k) = clp (f a - A.cp B a k) (A.w B (cn_fs A.pt a + k)) := by
  obtain ⟨-, a1, a2⟩ := A.l_at ha hk
  unfold AN.nl
  rw [a1, a2, AN.cp_st ha hk]
theorem AN.nl_sum {A : AN} (hA : A.ok) {B : Int} (hB : 1000000 ≤ B) {f : Nat → Int} {a : Nat} (ha : a < A.M) (h0 : A.st (4 * a) ≤ f a) : ∀ j, j ≤ A.pt a → A.st (4 * a) + sI (fun i => A.nl B f (cn_fs A.pt a + i)) j = if f a ≤ A.cp B a j then f a else A.cp B a j
  | 0, _ => by
    have : A.cp B a 0 = A.st (4 * a) := by show A.st (4 * a) + 0 = _; omega
    rw [this]
    show A.st (4 * a) + 0 = _
    split <;> omega
  | j + 1, hj => by
    have ih := AN.nl_sum hA hB ha h0 j (by omega)
    show A.st (4 * a) + (sI (fun i => A.nl B f (cn_fs A.pt a + i)) j + A.nl B f (cn_fs A.pt a + j)) = _
    have hw := (A.w_bd hA hB (A.l_at ha (show j < A.pt a by omega)).1).1
    rw [AN.nl_at ha (by omega), AN.cp_s]
    unfold clp
    by_cases y : f a ≤ A.cp B a j
    · rw [if_pos y] at ih
      rw [if_pos (by omega), if_pos (by omega)]; omega
    · rw [if_neg y] at ih
      rw [if_neg (by omega)]
      by_cases z : f a ≤ A.cp B a j + A.w B (cn_fs A.pt a + j)
      · rw [if_pos z]
        split <;> omega
      · rw [if_neg z, if_pos (by omega)]; omega
/-- amounts between the bounds, laid on lanes: the prices prove them -/
theorem AN.box_pf {A : AN} (hA : A.ok) {B : Int} (hB : 1000000 ≤ B) {P f : Nat → Int} (hf : ∀ a, a < A.M → A.bL B P a ≤ f a ∧ f a ≤ A.bH B P a) : fits A.K (A.w B) (A.nl B f) ∧ pf A.K A.b A.e (A.w B) A.c P (A.nl B f) ∧ ∀ a, a < A.M → A.on (A.nl B f) a = f a := by
  have c0 : ∀ a, A.cp B a 0 = A.st (4 * a) := fun a => by show A.st (4 * a) + 0 = _; omega
  refine ⟨fun l hl => clp_bd (A.w_bd hA hB hl).1, fun l hl => ?_, fun a ha => ?_⟩
  · obtain ⟨ha, k, hk, e1, e2⟩ := A.l_in hl
    obtain ⟨j, j1, j2, j3⟩ := AN.bL_cp hA (B := B) (P := P) ha
    obtain ⟨i, i1, i2, i3⟩ := AN.bH_cp hA (B := B) (P := P) ha
    obtain ⟨f1, f2⟩ := hf _ ha
    rw [j3] at f1
    rw [i3] at f2
    have hw := (A.w_bd hA hB hl).1
    rw [e1, AN.nl_at ha hk]
    rw [e1] at hw
    constructor
    · intro g
      have kj := (j2 k hk).mp g
      have h1 := AN.cp_mono hA hB ha (i := k + 1) (j - (k + 1)) (by omega)
      rw [show k + 1 + (j - (k + 1)) = j by omega, AN.cp_s] at h1
      unfold clp
      by_cases z : f (A.ar l) - A.cp B (A.ar l) k ≤ 0
      · rw [if_pos z]; omega
      · rw [if_neg z, if_pos (by omega)]
    · intro g
      have ki : i ≤ k := by
        rcases Nat.lt_or_ge k i with y | y
        · have := (i2 k hk).mpr y; omega
        · exact y
      have h1 := AN.cp_mono hA hB ha (i := i) (k - i) (by omega)
      rw [show i + (k - i) = k by omega] at h1
      unfold clp
      rw [if_pos (by omega)]
  · obtain ⟨j, j1, j2, j3⟩ := AN.bL_cp hA (B := B) (P := P) ha
    obtain ⟨i, i1, i2, i3⟩ := AN.bH_cp hA (B := B) (P := P) ha
    obtain ⟨f1, f2⟩ := hf _ ha
    have h1 := AN.cp_mono hA hB ha (i := 0) j (by omega)
    rw [Nat.zero_add, c0] at h1
    have h2 := AN.cp_mono hA hB ha (i := i) (A.pt a - i) (by omega)
    rw [show i + (A.pt a - i) = A.pt a by omega] at h2
    have h3 := AN.nl_sum hA hB (f := f) ha (by omega) (A.pt a) (Nat.le_refl _)
    rw [if_pos (by omega)] at h3
    exact h3
/-- what prices prove lies between the bounds -/
theorem AN.pf_box {A : AN} (hA : A.ok) {B : Int} {P y : Nat → Int} (hl : fits A.K (A.w B) y) (hp : pf A.K A.b A.e (A.w B) A.c P y) {a : Nat} (ha : a < A.M) : A.bL B P a ≤ A.on y a ∧ A.on y a ≤ A.bH B P a := by
  obtain ⟨j, j1, j2, j3⟩ := AN.bL_cp hA (B := B) (P := P) ha
  obtain ⟨i, i1, i2, i3⟩ := AN.bH_cp hA (B := B) (P := P) ha
  have on : A.on y a = A.st (4 * a) + sI (fun k => y (cn_fs A.pt a + k)) (A.pt a) := rfl
  rw [j3, i3]
  unfold AN.cp
  constructor
  · have h1 : sI (fun k => if k < j then A.w B (cn_fs A.pt a + k) else 0) (A.pt a) ≤ sI (fun k => y (cn_fs A.pt a + k)) (A.pt a) := sI_le (fun k hk => by
      show (if k < j then A.w B (cn_fs A.pt a + k) else 0) ≤ y (cn_fs A.pt a + k)
      by_cases z : k < j
      · rw [if_pos z, (hp _ (A.l_at ha hk).1).1 ((j2 k hk).mpr z)]; exact Int.le_refl _
      · rw [if_neg z]; exact (hl _ (A.l_at ha hk).1).1)
    rw [sI_ifn (f := fun k => A.w B (cn_fs A.pt a + k)) j1] at h1
    omega
  · have h1 : sI (fun k => y (cn_fs A.pt a + k)) (A.pt a) ≤ sI (fun k => if k < i then A.w B (cn_fs A.pt a + k) else 0) (A.pt a) := sI_le (fun k hk => by
      show y (cn_fs A.pt a + k) ≤ (if k < i then A.w B (cn_fs A.pt a + k) else 0)
      by_cases z : k < i
      · rw [if_pos z]; exact (hl _ (A.l_at ha hk).1).2
      · rw [if_neg z]
        have g : 0 < rc A.b A.e A.c P (cn_fs A.pt a + k) := by
          rcases Int.lt_or_le 0 (rc A.b A.e A.c P (cn_fs A.pt a + k)) with g | g
          · exact g
          · exact absurd ((i2 k hk).mp g) z
        rw [(hp _ (A.l_at ha hk).1).2 g]; exact Int.le_refl _)
    rw [sI_ifn (f := fun k => A.w B (cn_fs A.pt a + k)) i1] at h1
    omega
theorem AN.bal_on {A : AN} {y : Nat → Int} {v : Nat} : A.s v - dv A.K A.b A.e y v = A.su v - dv A.M A.fr A.tr (A.on y) v := by
  have h1 : dv A.M A.fr A.tr (A.on y) v = dv A.M A.fr A.tr (fun a => A.st (4 * a)) v + dv A.M A.fr A.tr (A.am y) v := by
    rw [← dv_add]; rfl
  rw [h1, A.dv_am]
  unfold AN.s
  omega
/-- amounts on arcs: f is the least in its order below a, among those between L and H with what f leaves at nodes -/
def aLex (n M : Nat) (fr tr : Nat → Nat) (L H f : Nat → Int) (a : Nat) : Prop := ∀ i, i < a → ∀ y : Nat → Int, (∀ k, k < M → L k ≤ y k ∧ y k ≤ H k) → (∀ v, v < n → dv M fr tr y v = dv M fr tr f v) → (∀ k, k < i → y k = f k) → f i ≤ y i
/-- a search along arcs behind a came not to its end: no less on a -/
theorem aLex_cut {n M : Nat} {fr tr : Nat → Nat} {L H f : Nat → Int} {a : Nat} {S : Nat → Bool} (hb : nd n M fr tr) (ha : a < M) (h : aLex n M fr tr L H f a) (s1 : S (fr a) = true) (s2 : S (tr a) = false) (hout : ∀ k, k < M → a < k → S (fr k) = true → S (tr k) = false → H k ≤ f k) (hin : ∀ k, k < M → a < k → S (fr k) = false → S (tr k) = true → f k ≤ L k) : aLex n M fr tr L H f (a + 1) := by
  intro i hi y hy hd he
  by_cases z : i < a
  · exact h i z y hy hd he
  · have e : i = a := by omega
    subst e
    have d1 := dv_sbp (x := y) (p := ind S) hb
    have d2 := dv_sbp (x := f) (p := ind S) hb
    have d3 : sI (fun v => ind S v * dv M fr tr y v) n = sI (fun v => ind S v * dv M fr tr f v) n := sI_cg (fun v hv => by show ind S v * dv M fr tr y v = ind S v * dv M fr tr f v; rw [hd v hv])
    rcases Int.lt_or_le (y i) (f i) with g | g
    case inr => exact g
    exfalso
    have le : ∀ k, k < M → y k * (ind S (fr k) - ind S (tr k)) ≤ f k * (ind S (fr k) - ind S (tr k)) := by
      intro k hk
      rcases Nat.lt_trichotomy k i with q | q | q
      · rw [he k q]; exact Int.le_refl _
      · subst q
        rw [ind_t s1, ind_f s2]; omega
      · have hyk := hy k hk
        cases eb : S (fr k) <;> cases ee : S (tr k)
        · rw [ind_f eb, ind_f ee]; simp
        · have := hin k hk q eb ee
          rw [ind_f eb, ind_t ee]; omega
        · have := hout k hk q eb ee
          rw [ind_t eb, ind_f ee]; omega
        · rw [ind_t eb, ind_t ee]; simp
    have q : y i * (ind S (fr i) - ind S (tr i)) = f i * (ind S (fr i) - ind S (tr i)) := sI_eq le (by omega) i (by omega)
    rw [ind_t s1, ind_f s2] at q
    omega
/-- amounts that are at their least -/
theorem aLex_low {n M : Nat} {fr tr : Nat → Nat} {L H f : Nat → Int} {a : Nat} (h : aLex n M fr tr L H f a) (ha : a < M) (hl : f a ≤ L a) : aLex n M fr tr L H f (a + 1) := by
  intro i hi y hy hd he
  by_cases z : i < a
  · exact h i z y hy hd he
  · have e : i = a := by omega
    subst e
    have := (hy i ha).1
    omega
theorem aLex_cg {n M : Nat} {fr tr : Nat → Nat} {L H f g : Nat → Int} {a : Nat} (h : aLex n M fr tr L H f a) (h1 : ∀ k, k < a → g k = f k) (h2 : ∀ v, v < n → dv M fr tr g v = dv M fr tr f v) : aLex n M fr tr L H g a := by
  intro i hi y hy hd he
  rw [h1 i hi]
  exact h i hi y hy (fun v hv => (hd v hv).trans (h2 v hv)) (fun k hk => (he k hk).trans (h1 k (by omega)))
/-- the least amounts on arcs, laid on lanes -/
theorem AN.lex_of {A : AN} (hA : A.ok) {B : Int} (hB : 1000000 ≤ B) {P f : Nat → Int} (hf : ∀ a, a < A.M → A.bL B P a ≤ f a ∧ f a ≤ A.bH B P a) (hd : ∀ v, v < A.n → dv A.M A.fr A.tr f v = A.su v) (hx : aLex A.n A.M A.fr A.tr (A.bL B P) (A.bH B P) f A.M) : A.opt (A.w B) P (A.nl B f) ∧ A.lex (A.w B) P (A.nl B f) A.M := by
  obtain ⟨h1, h2, h3⟩ := AN.box_pf hA hB hf
  refine ⟨⟨h1, fun v hv => ?_, h2⟩, fun a ha y hy he => ?_⟩
  · have := A.bal_on (y := A.nl B f) (v := v)
    rw [dv_cg (fun a ha => h3 a ha), hd v hv] at this
    omega
  · have q := hx a ha (A.on y) (fun k hk => AN.pf_box hA hy.1 hy.2.2 hk) (fun v hv => ?_) (fun k hk => ?_)
    · have := h3 a ha
      unfold AN.on at this q
      omega
    · have := A.bal_on (y := y) (v := v)
      rw [hy.2.1 v hv] at this
      rw [hd v hv]; omega
    · have e1 := he k hk
      have e2 := h3 k (by omega)
      unfold AN.on at e2 ⊢
      omega
