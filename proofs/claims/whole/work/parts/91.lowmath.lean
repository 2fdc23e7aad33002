/-! ===== a search from one node in a line; less on an arc, the rest goes round ===== -/
def bI (n M : Nat) (fr tr : Nat → Nat) (on : Nat → Bool) (root : Nat) (line : Nat → Nat) (m : Nat) (sn : Nat → Bool) (via : Nat → Option Nat) : Prop :=
  (1 ≤ m ∧ line 0 = root) ∧ (∀ j, j < m → line j < n ∧ sn (line j) = true) ∧ (∀ v, v < n → sn v = true → ∃ j, j < m ∧ line j = v) ∧ (∀ i j, i < m → j < m → line i = line j → i = j) ∧
  (via root = none) ∧ (∀ v, v < n → sn v = false → via v = none) ∧ ∀ j, 0 < j → j < m → ∃ w, via (line j) = some w ∧ (w < 2 * M ∧ on w = true) ∧ we fr tr w = line j ∧ ∃ i, i < j ∧ line i = wb fr tr w
theorem bI_0 {n M : Nat} {fr tr : Nat → Nat} {on : Nat → Bool} {root : Nat} {line : Nat → Nat} (hr : root < n) (h0 : line 0 = root) : bI n M fr tr on root line 1 (fun v => decide (v = root)) (fun _ => none) := by
  refine ⟨⟨by omega, h0⟩, fun j hj => ?_, fun v _ h => ?_, fun i j h1 h2 _ => by omega, rfl, fun _ _ _ => rfl, fun j h1 h2 => by omega⟩
  · have : j = 0 := by omega
    subst this
    rw [h0]
    exact ⟨hr, by simp⟩
  · rw [decide_eq_true_eq] at h
    exact ⟨0, by omega, by rw [h0, h]⟩
/-- room in the line for one that was not seen -/
theorem bI_m {n M : Nat} {fr tr : Nat → Nat} {on : Nat → Bool} {root : Nat} {line : Nat → Nat} {m : Nat} {sn : Nat → Bool} {via : Nat → Option Nat} (h : bI n M fr tr on root line m sn via) {y : Nat} (hy : y < n) (hs : sn y = false) : m < n := by
  obtain ⟨h1, h2, h3, h4, -⟩ := h
  rcases Nat.lt_or_ge m n with z | z
  · exact z
  · exfalso
    obtain ⟨i, j, a1, a2, a3⟩ := pigeon n (fun i => if i < n then line i else y) (fun i hi => by
      show (if i < n then line i else y) < n
      by_cases q : i < n
      · rw [if_pos q]; exact (h2 i (by omega)).1
      · rw [if_neg q]; exact hy)
    have a4 : (if i < n then line i else y) = (if j < n then line j else y) := a3
    rw [if_pos (by omega)] at a4
    by_cases q : j < n
    · rw [if_pos q] at a4
      have := h4 i j (by omega) (by omega) a4
      omega
    · rw [if_neg q] at a4
      have := (h2 i (by omega)).2
      rw [a4, hs] at this
      cases this
theorem bI_mn {n M : Nat} {fr tr : Nat → Nat} {on : Nat → Bool} {root : Nat} {line : Nat → Nat} {m : Nat} {sn : Nat → Bool} {via : Nat → Option Nat} (h : bI n M fr tr on root line m sn via) : m ≤ n := by
  obtain ⟨h1, h2, h3, h4, -⟩ := h
  rcases Nat.lt_or_ge n m with z | z
  · exfalso
    obtain ⟨i, j, a1, a2, a3⟩ := pigeon n line (fun i hi => (h2 i (by omega)).1)
    have := h4 i j (by omega) (by omega) a3
    omega
  · exact z
def uB (f : Nat → Bool) (k : Nat) : Nat → Bool := fun v => if v = k then true else f v
def uN (f : Nat → Nat) (k a : Nat) : Nat → Nat := fun v => if v = k then a else f v
theorem bI_s {n M : Nat} {fr tr : Nat → Nat} {on : Nat → Bool} {root : Nat} {line : Nat → Nat} {m : Nat} {sn : Nat → Bool} {via : Nat → Option Nat} (h : bI n M fr tr on root line m sn via) {i w : Nat} (hi : i < m) (hw : w < 2 * M) (ho : on w = true) (hb : wb fr tr w = line i) (he : we fr tr w < n) (hs : sn (we fr tr w) = false) : bI n M fr tr on root (uN line m (we fr tr w)) (m + 1) (uB sn (we fr tr w)) (uO via (we fr tr w) w) := by
  obtain ⟨⟨h1, h1'⟩, h2, h3, h4, h5, h6, h7⟩ := h
  have nl : ∀ j, j < m → line j ≠ we fr tr w := fun j hj z => by
    have := (h2 j hj).2
    rw [z, hs] at this
    cases this
  have lo : ∀ j, j < m → uN line m (we fr tr w) j = line j := fun j hj => if_neg (by omega)
  have lm : uN line m (we fr tr w) m = we fr tr w := if_pos rfl
  have hr : root ≠ we fr tr w := fun z => nl 0 (by omega) (by rw [h1', z])
  refine ⟨⟨by omega, by rw [lo 0 (by omega)]; exact h1'⟩, fun j hj => ?_, fun v hv hq => ?_, fun a b ha hb2 hab => ?_, ?_, fun v hv hq => ?_, fun j j1 j2 => ?_⟩
  · by_cases z : j < m
    · rw [lo j z]
      refine ⟨(h2 j z).1, ?_⟩
      unfold uB
      rw [if_neg (nl j z)]; exact (h2 j z).2
    · rw [show j = m by omega, lm]
      exact ⟨he, if_pos rfl⟩
  · by_cases z : v = we fr tr w
    · exact ⟨m, by omega, by rw [lm, z]⟩
    · unfold uB at hq
      rw [if_neg z] at hq
      obtain ⟨j, j1, j2⟩ := h3 v hv hq
      exact ⟨j, by omega, by rw [lo j j1]; exact j2⟩
  · by_cases za : a < m <;> by_cases zb : b < m
    · rw [lo a za, lo b zb] at hab; exact h4 a b za zb hab
    · rw [lo a za, show b = m by omega, lm] at hab; exact absurd hab (nl a za)
    · rw [lo b zb, show a = m by omega, lm] at hab; exact absurd hab.symm (nl b zb)
    · omega
  · rw [uO_ne hr]; exact h5
  · unfold uB at hq
    by_cases z : v = we fr tr w
    · rw [if_pos z] at hq; cases hq
    · rw [if_neg z] at hq
      rw [uO_ne z]; exact h6 v hv hq
  · by_cases z : j < m
    · obtain ⟨w', a1, a2, a3, i', a4, a5⟩ := h7 j j1 z
      rw [lo j z]
      exact ⟨w', by rw [uO_ne (nl j z)]; exact a1, a2, a3, i', a4, by rw [lo i' (by omega)]; exact a5⟩
    · rw [show j = m by omega, lm]
      exact ⟨w, uO_at, ⟨hw, ho⟩, rfl, i, hi, by rw [lo i hi, hb]⟩
theorem bI_tre {n M : Nat} {fr tr : Nat → Nat} {on : Nat → Bool} {root : Nat} {line : Nat → Nat} {m : Nat} {sn : Nat → Bool} {via : Nat → Option Nat} (h : bI n M fr tr on root line m sn via) : ∃ rk : Nat → Nat, tre n M fr tr via rk ∧ (∀ v, v < n → rk v ≤ n) ∧ (∀ v w, v < n → via v = some w → on w = true ∧ sn (wb fr tr w) = true) ∧ ∀ k v, v < n → rk v ≤ k → sn v = true → rot fr tr via k v = root := by
  have hmn := bI_mn h
  obtain ⟨⟨h1, h1'⟩, h2, h3, h4, h5, h6, h7⟩ := h
  have px : ∀ v, ∃ j, v < n → sn v = true → j < m ∧ line j = v := fun v => by
    by_cases y : v < n ∧ sn v = true
    · obtain ⟨j, hj⟩ := h3 v y.1 y.2; exact ⟨j, fun _ _ => hj⟩
    · exact ⟨0, fun z1 z2 => absurd ⟨z1, z2⟩ y⟩
  have hs : ∀ v w, v < n → via v = some w → sn v = true := fun v w hv hw => by
    cases hq : sn v with
    | true => rfl
    | false => rw [h6 v hv hq] at hw; cases hw
  have main : ∀ v w, v < n → via v = some w → ∃ j, 0 < j ∧ j < m ∧ line j = v ∧ (w < 2 * M ∧ on w = true) ∧ we fr tr w = v ∧ ∃ i, i < j ∧ line i = wb fr tr w := by
    intro v w hv hw
    obtain ⟨j, j1, j2⟩ := h3 v hv (hs v w hv hw)
    have j0 : 0 < j := by
      rcases Nat.eq_zero_or_pos j with z | z
      · subst z
        rw [← j2, h1', h5] at hw; cases hw
      · exact z
    obtain ⟨w', a1, a2, a3, i, a4, a5⟩ := h7 j j0 j1
    rw [j2, hw] at a1
    cases a1
    exact ⟨j, j0, j1, j2, a2, by rw [a3, j2], i, a4, a5⟩
  have tr0 : tre n M fr tr via (fun v => if sn v = true ∧ v < n then Classical.choose (px v) else 0) := by
    intro v w hv hw
    obtain ⟨j, j0, j1, j2, ⟨a1, a1'⟩, a2, i, a3, a4⟩ := main v w hv hw
    obtain ⟨b1, b2⟩ := h2 i (by omega)
    rw [a4] at b1 b2
    refine ⟨a1, a2, b1, ?_⟩
    have c1 := Classical.choose_spec (px v) hv (hs v w hv hw)
    have c2 := Classical.choose_spec (px (wb fr tr w)) b1 b2
    have e1 := h4 _ j c1.1 j1 (c1.2.trans j2.symm)
    have e2 := h4 _ i c2.1 (by omega) (c2.2.trans a4.symm)
    show (if sn (wb fr tr w) = true ∧ wb fr tr w < n then Classical.choose (px (wb fr tr w)) else 0) < (if sn v = true ∧ v < n then Classical.choose (px v) else 0)
    rw [if_pos ⟨b2, b1⟩, if_pos ⟨hs v w hv hw, hv⟩, e1, e2]
    exact a3
  have hon : ∀ v w, v < n → via v = some w → on w = true ∧ sn (wb fr tr w) = true := fun v w hv hw => by
    obtain ⟨j, j0, j1, j2, ⟨a1, a1'⟩, a2, i, a3, a4⟩ := main v w hv hw
    refine ⟨a1', ?_⟩
    rw [← a4]; exact (h2 i (by omega)).2
  obtain ⟨rk, tr1, bd⟩ : ∃ rk : Nat → Nat, tre n M fr tr via rk ∧ ∀ v, v < n → rk v ≤ n := by
    refine ⟨_, tr0, fun v hv => ?_⟩
    show (if sn v = true ∧ v < n then Classical.choose (px v) else 0) ≤ n
    by_cases y : sn v = true ∧ v < n
    · rw [if_pos y]
      have := (Classical.choose_spec (px v) y.2 y.1).1
      omega
    · rw [if_neg y]; omega
  refine ⟨rk, tr1, bd, hon, ?_⟩
  · intro k
    induction k with
    | zero =>
      intro v hv hk hq
      cases hw : via v with
      | none =>
        rw [rot_n hw]
        obtain ⟨j, j1, j2⟩ := h3 v hv hq
        rcases Nat.eq_zero_or_pos j with z | z
        · subst z; rw [← j2, h1']
        · obtain ⟨w', a1, -⟩ := h7 j z j1
          rw [j2, hw] at a1; cases a1
      | some w => have := (tr1 v w hv hw).2.2.2; omega
    | succ k ih =>
      intro v hv hk hq
      cases hw : via v with
      | none =>
        rw [rot_n hw]
        obtain ⟨j, j1, j2⟩ := h3 v hv hq
        rcases Nat.eq_zero_or_pos j with z | z
        · subst z; rw [← j2, h1']
        · obtain ⟨w', a1, -⟩ := h7 j z j1
          rw [j2, hw] at a1; cases a1
      | some w =>
        have t := tr1 v w hv hw
        rw [rot_s hw]
        exact ih _ t.2.2.1 (by omega) (hon v w hv hw).2
/-- a less on arc a0, and round it along the tree -/
theorem low_send {n M : Nat} {fr tr : Nat → Nat} {L H f : Nat → Int} {via : Nat → Option Nat} {rk : Nat → Nat} {k a0 : Nat} {a : Int} (ht : tre n M fr tr via rk) (hne : fr a0 ≠ tr a0) (hv : tr a0 < n) (hk : rk (tr a0) ≤ k) (hroot : rot fr tr via k (tr a0) = fr a0) (hLH : ∀ i, i < M → L i ≤ f i ∧ f i ≤ H i) (ha0 : a0 < M) (hno : ∀ v w, v < n → via v = some w → w / 2 ≠ a0) (ha : 0 < a) (ha1 : a ≤ f a0 - L a0) (hal : al fr tr via (fun w => a ≤ wm (fun i => H i - L i) (fun i => f i - L i) w) k (tr a0)) : (∀ i, i < M → L i ≤ uI (snd fr tr via k (tr a0) a f) a0 (snd fr tr via k (tr a0) a f a0 - a) i ∧ uI (snd fr tr via k (tr a0) a f) a0 (snd fr tr via k (tr a0) a f a0 - a) i ≤ H i) ∧ (∀ v, dv M fr tr (uI (snd fr tr via k (tr a0) a f) a0 (snd fr tr via k (tr a0) a f a0 - a)) v = dv M fr tr f v) ∧ uI (snd fr tr via k (tr a0) a f) a0 (snd fr tr via k (tr a0) a f a0 - a) a0 = f a0 - a := by
  have hfit : fits M (fun i => H i - L i) (fun i => f i - L i) := fun i hi => by
    have := hLH i hi
    show 0 ≤ f i - L i ∧ f i - L i ≤ H i - L i
    omega
  have hs := (snt_tre (ex := fun j => if j = tr a0 then -a else a) ht hv hk hfit ha (by show a ≤ -(if tr a0 = tr a0 then -a else a); rw [if_pos rfl]; omega) (by show a ≤ (if rot fr tr via k (tr a0) = tr a0 then -a else a); rw [hroot, if_neg hne]; omega) hal).1.1
  have p0 : pth fr tr via k (tr a0) a0 = 0 := by
    rcases pth_lane ht (car := fun _ => 0) (fun _ _ _ _ => Int.le_refl _) (l := a0) k (tr a0) hv hk with y | ⟨u, w, y1, y2, y3, -⟩
    · exact y
    · exact absurd y3 (hno u w y1 y2)
  have s0 : snd fr tr via k (tr a0) a f a0 = f a0 := by
    unfold snd; rw [p0, Int.mul_zero, Int.add_zero]
  refine ⟨fun i hi => ?_, fun v => ?_, by rw [uI_at, s0]⟩
  · by_cases z : i = a0
    · subst z
      rw [uI_at, s0]
      have := hLH i hi
      omega
    · rw [uI_ne z]
      have h1 := hs i hi
      unfold snd at h1 ⊢
      have h2 : 0 ≤ f i - L i + a * pth fr tr via k (tr a0) i ∧ f i - L i + a * pth fr tr via k (tr a0) i ≤ H i - L i := h1
      omega
  · have e : snd fr tr via k (tr a0) a f a0 - a = snd fr tr via k (tr a0) a f a0 + (-a) := by omega
    rw [e, dv_upd ha0, snd_dv ht hv hk, hroot]
    split <;> split <;> omega
