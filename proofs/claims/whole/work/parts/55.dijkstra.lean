/-! ===== ways of least cost: the nearest node first ===== -/
def rcw (b e : Nat → Nat) (c p : Nat → Int) (w : Nat) : Int := wr c w + p (wb b e w) - p (we b e w)
def djN (n K : Nat) (b e : Nat → Nat) (c mm lo ex p : Nat → Int) (dl : Int) (vn : Nat → Option (Option Nat)) (D : Nat → Int) (h : Nat → Nat) (dn : Nat → Bool) (car : Nat → Int) (v : Nat) : Prop := match vn v with
  | none => D v = fAR ∧ dn v = false
  | some none => dl ≤ ex v ∧ D v = 0 ∧ h v = 0 ∧ car v = ex v
  | some (some w) => (w < 2 * K ∧ we b e w = v ∧ wb b e w < n) ∧ (dn (wb b e w) = true ∧ vn (wb b e w) ≠ none) ∧ D v = D (wb b e w) + 32 * rcw b e c p w + 1 ∧ h v = h (wb b e w) + 1 ∧ dl ≤ wm mm lo w ∧ car v = mn2 (car (wb b e w)) (wm mm lo w)
def djI (n K : Nat) (b e : Nat → Nat) (c mm lo ex p : Nat → Int) (dl Rs : Int) (vn : Nat → Option (Option Nat)) (D : Nat → Int) (h : Nat → Nat) (dn : Nat → Bool) (car : Nat → Int) : Prop :=
  (∀ v, v < n → djN n K b e c mm lo ex p dl vn D h dn car v) ∧ (∀ v, v < n → dl ≤ ex v → vn v = some none) ∧ (∀ u v, u < n → v < n → dn u = true → dn v = false → D u ≤ D v) ∧ (∀ v, v < n → vn v ≠ none → dl ≤ car v ∧ h v ≤ cN dn n ∧ ∃ C, 0 ≤ C ∧ D v = 32 * C + h v ∧ C + p v ≤ Rs + 1000000 * h v) ∧ ∀ v, v < n → dn v = true → h v + 1 ≤ cN dn n
/-- what the prices and sources allow -/
def djP (n K : Nat) (b e : Nat → Nat) (c mm lo p : Nat → Int) (dl Rs : Int) : Prop := (∀ w, w < 2 * K → dl ≤ wm mm lo w → 0 ≤ rcw b e c p w) ∧ (∀ l, l < K → -1000000 ≤ c l ∧ c l ≤ 1000000) ∧ (∀ v, v < n → Rs - p v ≤ 18014398509481984 ∧ -18014398509481984 ≤ p v ∧ p v ≤ 18014398509481984) ∧ 1 ≤ dl
theorem wr_bd {K w : Nat} {c : Nat → Int} (h : ∀ l, l < K → -1000000 ≤ c l ∧ c l ≤ 1000000) (hw : w < 2 * K) : -1000000 ≤ wr c w ∧ wr c w ≤ 1000000 := by
  have := h (w / 2) (by omega)
  unfold wr
  split <;> omega
section
variable {n K : Nat} {b e : Nat → Nat} {c mm lo ex p : Nat → Int} {dl Rs : Int} {vn : Nat → Option (Option Nat)} {D : Nat → Int} {h : Nat → Nat} {dn : Nat → Bool} {car : Nat → Int}
theorem dj_far (hn : n ≤ 24) (hP : djP n K b e c mm lo p dl Rs) (H : djI n K b e c mm lo ex p dl Rs vn D h dn car) {v : Nat} (hv : v < n) (hs : vn v ≠ none) : 0 ≤ D v ∧ D v < 600000000000000000 := by
  obtain ⟨-, h2, C, c1, c2, c3⟩ := H.2.2.2.1 v hv hs
  have := hP.2.2.1 v hv
  have : cN dn n ≤ n := cN_le
  omega
theorem dj_relax (hn : n ≤ 24) (hP : djP n K b e c mm lo p dl Rs) (H : djI n K b e c mm lo ex p dl Rs vn D h dn car) {u w : Nat} (hu : u < n) (hd : dn u = true) (hmx : ∀ u', u' < n → dn u' = true → D u' ≤ D u) (hw : w < 2 * K) (hwb : wb b e w = u) (hm : dl ≤ wm mm lo w) (hv : we b e w < n) (hnd : dn (we b e w) = false) (hlt : D u + 32 * rcw b e c p w + 1 < D (we b e w)) : djI n K b e c mm lo ex p dl Rs (uF vn (we b e w) (some (some w))) (uF D (we b e w) (D u + 32 * rcw b e c p w + 1)) (uF h (we b e w) (h u + 1)) dn (uF car (we b e w) (mn2 (car u) (wm mm lo w))) := by
  obtain ⟨H1, H2, H3, H4, H5⟩ := H
  generalize hvv : we b e w = v at *
  have huv : u ≠ v := fun z => by rw [z, hnd] at hd; cases hd
  have hus : vn u ≠ none := by
    intro z
    have := H1 u hu
    unfold djN at this
    rw [z] at this
    rw [this.2] at hd; cases hd
  have hrc := hP.1 w hw hm
  obtain ⟨k1, k2, C, c1, c2, c3⟩ := H4 u hu hus
  have hdone : ∀ x, dn x = true → x ≠ v := fun x hx z => by rw [z, hnd] at hx; cases hx
  have hD0 : 0 ≤ D u := by omega
  refine ⟨fun x hx => ?_, fun x hx hp => ?_, fun x y hx hy d1 d2 => ?_, fun x hx hs => ?_, fun x hx hd2 => ?_⟩
  · by_cases z : x = v
    · subst z
      unfold djN
      rw [uF_at]
      show (w < 2 * K ∧ we b e w = x ∧ wb b e w < n) ∧ (dn (wb b e w) = true ∧ uF vn x _ (wb b e w) ≠ none) ∧ uF D x _ x = uF D x _ (wb b e w) + 32 * rcw b e c p w + 1 ∧ uF h x _ x = uF h x _ (wb b e w) + 1 ∧ dl ≤ wm mm lo w ∧ uF car x _ x = mn2 (uF car x _ (wb b e w)) (wm mm lo w)
      rw [uF_at, uF_at, uF_at, hwb, uF_ne huv, uF_ne huv, uF_ne huv, uF_ne huv]
      exact ⟨⟨hw, hvv, hu⟩, ⟨hd, hus⟩, rfl, rfl, hm, rfl⟩
    · have h7 := H1 x hx
      unfold djN at h7 ⊢
      rw [uF_ne z]
      cases hq : vn x with
      | none =>
        rw [hq] at h7
        show uF D v _ x = fAR ∧ dn x = false
        rw [uF_ne z]; exact h7
      | some o =>
        rw [hq] at h7
        cases o with
        | none =>
          show dl ≤ ex x ∧ uF D v _ x = 0 ∧ uF h v _ x = 0 ∧ uF car v _ x = ex x
          rw [uF_ne z, uF_ne z, uF_ne z]; exact h7
        | some w' =>
          obtain ⟨g1, g2, g3, g4, g5, g6⟩ := h7
          have e2 := hdone _ g2.1
          show (w' < 2 * K ∧ we b e w' = x ∧ wb b e w' < n) ∧ (dn (wb b e w') = true ∧ uF vn v _ (wb b e w') ≠ none) ∧ uF D v _ x = uF D v _ (wb b e w') + 32 * rcw b e c p w' + 1 ∧ uF h v _ x = uF h v _ (wb b e w') + 1 ∧ dl ≤ wm mm lo w' ∧ uF car v _ x = mn2 (uF car v _ (wb b e w')) (wm mm lo w')
          rw [uF_ne z, uF_ne z, uF_ne z, uF_ne e2, uF_ne e2, uF_ne e2, uF_ne e2]
          exact ⟨g1, g2, g3, g4, g5, g6⟩
  · have h7 := H2 x hx hp
    by_cases z : x = v
    · exfalso
      have h8 := H1 x hx
      unfold djN at h8
      rw [h7] at h8
      rw [← z, h8.2.1] at hlt
      omega
    · rw [uF_ne z]; exact h7
  · have e1 := hdone x d1
    rw [uF_ne e1]
    by_cases z : y = v
    · rw [z, uF_at]
      have := hmx x hx d1
      omega
    · rw [uF_ne z]; exact H3 x y hx hy d1 d2
  · by_cases z : x = v
    · rw [z, uF_at, uF_at, uF_at]
      have h5 := H5 u hu hd
      refine ⟨?_, h5, C + rcw b e c p w, by omega, by omega, ?_⟩
      · rcases (mn2_le (a := car u) (b := wm mm lo w)).2.2 with y | y
        · rw [y]; exact k1
        · rw [y]; exact hm
      · have h6 := wr_bd hP.2.1 hw
        have h7 : rcw b e c p w = wr c w + p u - p v := by unfold rcw; rw [hwb, hvv]
        rw [h7]
        omega
    · rw [uF_ne z] at hs
      rw [uF_ne z, uF_ne z, uF_ne z]
      exact H4 x hx hs
  · rw [uF_ne (hdone x hd2)]; exact H5 x hx hd2
theorem cN_upd {dn : Nat → Bool} {v : Nat} (hv : dn v = false) : ∀ {N : Nat}, v < N → cN (uF dn v true) N = cN dn N + 1
  | 0, h => absurd h (Nat.not_lt_zero _)
  | N + 1, h => by
    show cN (uF dn v true) N + (if uF dn v true N then 1 else 0) = cN dn N + (if dn N then 1 else 0) + 1
    rcases Nat.lt_or_ge v N with y | y
    · rw [cN_upd hv y, uF_ne (by omega)]; omega
    · have e2 : v = N := by omega
      subst e2
      rw [uF_at, hv]
      have : cN (uF dn v true) v = cN dn v := cN_cg (fun u hu => by rw [uF_ne (by omega)])
      rw [this]; rfl
/-- the nearest that is not done is done -/
theorem dj_done (H : djI n K b e c mm lo ex p dl Rs vn D h dn car) {v : Nat} (hv : v < n) (hs : vn v ≠ none) (hnd : dn v = false) (hmin : ∀ x, x < n → dn x = false → D v ≤ D x) : djI n K b e c mm lo ex p dl Rs vn D h (uF dn v true) car := by
  obtain ⟨H1, H2, H3, H4, H5⟩ := H
  have hc := cN_upd hnd hv
  have hk : ∀ x, dn x = true → uF dn v true x = true := by
    intro x hx
    by_cases z : x = v
    · rw [z, uF_at]
    · rw [uF_ne z]; exact hx
  refine ⟨fun x hx => ?_, H2, fun x y hx hy d1 d2 => ?_, fun x hx hs2 => ?_, fun x hx hd2 => ?_⟩
  · have h7 := H1 x hx
    unfold djN at h7 ⊢
    cases hq : vn x with
    | none =>
      rw [hq] at h7
      have z : x ≠ v := fun z => hs (by rw [← z]; exact hq)
      show D x = fAR ∧ uF dn v true x = false
      rw [uF_ne z]; exact h7
    | some o =>
      rw [hq] at h7
      cases o with
      | none => exact h7
      | some w' =>
        obtain ⟨g1, g2, g3, g4, g5, g6⟩ := h7
        exact ⟨g1, ⟨hk _ g2.1, g2.2⟩, g3, g4, g5, g6⟩
  · have d3 : dn y = false := by
      by_cases z : y = v
      · rw [z]; exact hnd
      · rw [uF_ne z] at d2; exact d2
    by_cases z : x = v
    · rw [z]; exact hmin y hy d3
    · rw [uF_ne z] at d1
      exact H3 x y hx hy d1 d3
  · obtain ⟨k1, k2, k3⟩ := H4 x hx hs2
    exact ⟨k1, by rw [hc]; omega, k3⟩
  · rw [hc]
    by_cases z : x = v
    · have := (H4 v hv hs).2.1
      rw [z]; omega
    · rw [uF_ne z] at hd2
      have := H5 x hx hd2
      omega
/-- gone on from all that is done -/
def djX (n K : Nat) (b e : Nat → Nat) (c mm lo p : Nat → Int) (dl : Int) (vn : Nat → Option (Option Nat)) (D : Nat → Int) (dn : Nat → Bool) : Prop := ∀ u, u < n → dn u = true → ∀ w, w < 2 * K → wb b e w = u → dl ≤ wm mm lo w → vn (we b e w) ≠ none ∧ D (we b e w) ≤ D u + 32 * rcw b e c p w + 1
theorem dj_tre (H : djI n K b e c mm lo ex p dl Rs vn D h dn car) : tre n K b e (bvi vn) h := by
  intro v w hv hw
  have := H.1 v hv
  unfold djN at this
  rw [bvi_s hw] at this
  obtain ⟨⟨w1, w2, w3⟩, w4, w5, w6, w7⟩ := this
  exact ⟨w1, w2, w3, by omega⟩
theorem dj_via (H : djI n K b e c mm lo ex p dl Rs vn D h dn car) {v w : Nat} (hv : v < n) (hw : bvi vn v = some w) : (w < 2 * K ∧ we b e w = v ∧ wb b e w < n) ∧ (dn (wb b e w) = true ∧ vn (wb b e w) ≠ none) ∧ D v = D (wb b e w) + 32 * rcw b e c p w + 1 ∧ h v = h (wb b e w) + 1 ∧ dl ≤ wm mm lo w ∧ car v = mn2 (car (wb b e w)) (wm mm lo w) := by
  have := H.1 v hv
  unfold djN at this
  rw [bvi_s hw] at this
  exact this
theorem dj_src (H : djI n K b e c mm lo ex p dl Rs vn D h dn car) {v : Nat} (hv : v < n) (hs : vn v ≠ none) (hw : bvi vn v = none) : dl ≤ ex v ∧ D v = 0 ∧ h v = 0 ∧ car v = ex v := by
  have := H.1 v hv
  unfold djN at this
  cases hq : vn v with
  | none => exact absurd hq hs
  | some o =>
    cases o with
    | none => rw [hq] at this; exact this
    | some w => unfold bvi at hw; rw [hq] at hw; cases hw
theorem dj_car (H : djI n K b e c mm lo ex p dl Rs vn D h dn car) : ∀ v w, v < n → bvi vn v = some w → car v ≤ car (wb b e w) ∧ car v ≤ wm mm lo w := by
  intro v w hv hw
  obtain ⟨-, -, -, -, -, h5⟩ := dj_via H hv hw
  rw [h5]
  exact ⟨mn2_le.1, mn2_le.2.1⟩
theorem dj_on (H : djI n K b e c mm lo ex p dl Rs vn D h dn car) {k v u : Nat} (hv : v < n) (hs : vn v ≠ none) (hu : onp b e (bvi vn) k v u) : u < n ∧ vn u ≠ none := onp_ind (P := fun u => u < n ∧ vn u ≠ none) (fun u w hu hw => by
  obtain ⟨⟨_, _, a3⟩, a4, _⟩ := dj_via H hu.1 hw
  exact ⟨a3, a4.2⟩) ⟨hv, hs⟩ hu
theorem dj_rot (H : djI n K b e c mm lo ex p dl Rs vn D h dn car) {k v : Nat} (hv : v < n) (hs : vn v ≠ none) (hk : h v ≤ k) : rot b e (bvi vn) k v < n ∧ dl ≤ ex (rot b e (bvi vn) k v) ∧ car v ≤ ex (rot b e (bvi vn) k v) := by
  have ht := dj_tre H
  obtain ⟨r1, r2⟩ := rot_n2 ht k v hv hk
  have r3 := (dj_on H hv hs (rot_on ht k v hv hk)).2
  obtain ⟨s1, s2, s3, s4⟩ := dj_src H r2 r3 r1
  have := rot_car ht (fun v w hv hw => (dj_car H v w hv hw).1) k v hv hk
  exact ⟨r2, s1, by omega⟩
end
