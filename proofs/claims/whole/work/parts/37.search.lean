/-! ===== the nodes on the tree's way to a node ===== -/
def onp (b e : Nat → Nat) (via : Nat → Option Nat) : Nat → Nat → Nat → Prop
  | 0, v, u => u = v
  | k + 1, v, u => u = v ∨ ∃ w, via v = some w ∧ onp b e via k (wb b e w) u
theorem onp_self {b e : Nat → Nat} {via : Nat → Option Nat} : ∀ {k v : Nat}, onp b e via k v v
  | 0, _ => rfl
  | _ + 1, _ => Or.inl rfl
theorem onp_ind {b e : Nat → Nat} {via : Nat → Option Nat} {P : Nat → Prop} (hs : ∀ v w, P v → via v = some w → P (wb b e w)) : ∀ {k v u : Nat}, P v → onp b e via k v u → P u
  | 0, v, u, hv, h => by rw [show u = v from h]; exact hv
  | k + 1, v, u, hv, h => by
    rcases h with h | ⟨w, h1, h2⟩
    · rw [h]; exact hv
    · exact onp_ind hs (hs v w hv h1) h2
theorem onp_tre {n K : Nat} {b e : Nat → Nat} {via : Nat → Option Nat} {rk : Nat → Nat} (ht : tre n K b e via rk) {k v u : Nat} (hv : v < n) (h : onp b e via k v u) : u < n ∧ rk u ≤ rk v := onp_ind (P := fun u => u < n ∧ rk u ≤ rk v) (fun u w hu hw => by
  obtain ⟨g1, g2, g3, g4⟩ := ht u w hu.1 hw
  exact ⟨g3, by omega⟩) ⟨hv, Nat.le_refl _⟩ h
theorem onp_dis {n K : Nat} {b e : Nat → Nat} {via : Nat → Option Nat} {rk : Nat → Nat} (ht : tre n K b e via rk) {k v w u w' : Nat} (hv : v < n) (hw : via v = some w) (hu : onp b e via k (wb b e w) u) (hw' : via u = some w') : w' / 2 ≠ w / 2 := by
  intro hq
  obtain ⟨h1, h2, h3, h4⟩ := ht v w hv hw
  obtain ⟨q1, q2⟩ := onp_tre ht h3 hu
  obtain ⟨g1, g2, g3, g4⟩ := ht u w' q1 hw'
  by_cases z : w' = w
  · rw [z, h2] at g2; rw [← g2] at q2; omega
  · obtain ⟨o1, o2⟩ := we_ot (b := b) (e := e) hq z
    rw [o2, h2] at g4; omega
theorem pth_lane2 {n K : Nat} {b e : Nat → Nat} {via : Nat → Option Nat} {rk : Nat → Nat} (ht : tre n K b e via rk) {l : Nat} : ∀ k v, v < n → rk v ≤ k → pth b e via k v l = 0 ∨ ∃ u w, onp b e via k v u ∧ via u = some w ∧ w / 2 = l ∧ pth b e via k v l = sg w
  | k, v, hv, hk => by
    cases hq : via v with
    | none => rw [pth_n hq]; exact Or.inl rfl
    | some w =>
      obtain ⟨h1, h2, h3, h4⟩ := ht v w hv hq
      cases k with
      | zero => omega
      | succ k =>
        rw [pth_s hq]
        show pth b e via k (wb b e w) l + (if l = w / 2 then sg w else 0) = 0 ∨ ∃ u w', onp b e via (k + 1) v u ∧ via u = some w' ∧ w' / 2 = l ∧ pth b e via k (wb b e w) l + (if l = w / 2 then sg w else 0) = sg w'
        rcases pth_lane2 ht (l := l) k _ h3 (by omega) with y | ⟨u, w', y1, y2, y3, y4⟩
        · rw [y]
          by_cases hl : l = w / 2
          · rw [if_pos hl]
            exact Or.inr ⟨v, w, Or.inl rfl, hq, hl.symm, by omega⟩
          · rw [if_neg hl]; exact Or.inl rfl
        · have := onp_dis ht hv hq y1 y2
          rw [if_neg (by omega), Int.add_zero]
          exact Or.inr ⟨u, w', Or.inr ⟨w, hq, y1⟩, y2, y3, y4⟩
theorem pth_on {n K : Nat} {b e : Nat → Nat} {via : Nat → Option Nat} {rk : Nat → Nat} (ht : tre n K b e via rk) : ∀ {k v u w' : Nat}, v < n → rk v ≤ k → onp b e via k v u → via u = some w' → pth b e via k v (w' / 2) = sg w'
  | 0, v, u, w', hv, hk, hu, hw' => by
    rw [show u = v from hu] at hw'
    have := (ht v w' hv hw').2.2.2
    omega
  | k + 1, v, u, w', hv, hk, hu, hw' => by
    cases hq : via v with
    | none =>
      rcases hu with hu | ⟨w, h1, h2⟩
      · rw [hu, hq] at hw'; cases hw'
      · rw [hq] at h1; cases h1
    | some w =>
      obtain ⟨h1, h2, h3, h4⟩ := ht v w hv hq
      rw [pth_s hq]
      show pth b e via k (wb b e w) (w' / 2) + (if w' / 2 = w / 2 then sg w else 0) = sg w'
      rcases hu with hu | ⟨w0, g1, g2⟩
      · rw [hu, hq] at hw'
        have e1 : w = w' := Option.some.inj hw'
        subst e1
        rw [if_pos rfl]
        rcases pth_lane2 ht (l := w / 2) k _ h3 (by omega) with y | ⟨u2, w2, y1, y2, y3, y4⟩
        · rw [y]; omega
        · exact absurd y3 (onp_dis ht hv hq y1 y2)
      · rw [hq] at g1
        cases g1
        rw [if_neg (onp_dis ht hv hq g2 hw'), Int.add_zero]
        exact pth_on ht h3 (by omega) g2 hw'
/-! ===== a search through open lanes, the nearest first ===== -/
def uF {α : Type} (f : Nat → α) (k : Nat) (a : α) : Nat → α := fun i => if i = k then a else f i
theorem uF_at {α : Type} {f : Nat → α} {k : Nat} {a : α} : uF f k a k = a := if_pos rfl
theorem uF_ne {α : Type} {f : Nat → α} {k i : Nat} {a : α} (h : i ≠ k) : uF f k a i = f i := if_neg h
def mn2 (a b : Int) : Int := if a ≤ b then a else b
theorem mn2_le {a b : Int} : mn2 a b ≤ a ∧ mn2 a b ≤ b ∧ (mn2 a b = a ∨ mn2 a b = b) := by
  unfold mn2
  split
  · exact ⟨Int.le_refl _, by omega, Or.inl rfl⟩
  · exact ⟨by omega, Int.le_refl _, Or.inr rfl⟩
/-- what holds of a node: not seen; too much of its own; or come to by a way -/
def bfN (n K : Nat) (b e : Nat → Nat) (op : Nat → Bool) (mm lo ex : Nat → Int) (vn : Nat → Option (Option Nat)) (lev : Nat → Nat) (car : Nat → Int) (v : Nat) : Prop := match vn v with
  | none => True
  | some none => 0 < ex v ∧ lev v = 0 ∧ car v = ex v
  | some (some w) => (w < 2 * K ∧ we b e w = v ∧ wb b e w < n) ∧ vn (wb b e w) ≠ none ∧ lev v = lev (wb b e w) + 1 ∧ (op (w / 2) = true ∧ 0 < wm mm lo w) ∧ car v = mn2 (car (wb b e w)) (wm mm lo w)
def bfI (n K : Nat) (b e : Nat → Nat) (op : Nat → Bool) (mm lo ex : Nat → Int) (vn : Nat → Option (Option Nat)) (lev : Nat → Nat) (car : Nat → Int) (q : Nat → Nat) (m : Nat) : Prop :=
  m = cN (fun v => (vn v).isSome) n ∧ (∀ j, j < m → q j < n ∧ vn (q j) ≠ none ∧ lev (q j) ≤ j) ∧ (∀ v, v < n → vn v ≠ none → 0 < car v ∧ ∃ j, j < m ∧ q j = v) ∧ (∀ i j, i ≤ j → j < m → lev (q i) ≤ lev (q j)) ∧ (∀ v, v < n → bfN n K b e op mm lo ex vn lev car v) ∧
  ∀ T : Nat → Prop, (∀ w, w < 2 * K → op (w / 2) = true → 0 < wm mm lo w → T (wb b e w) → T (we b e w)) → (∀ v, v < n → 0 < ex v → T v) → ∀ v, v < n → vn v ≠ none → T v
theorem bfI_0 {n K : Nat} {b e : Nat → Nat} {op : Nat → Bool} {mm lo ex : Nat → Int} {lev : Nat → Nat} {car : Nat → Int} {q : Nat → Nat} : bfI n K b e op mm lo ex (fun _ => none) lev car q 0 := by
  have h : ∀ n, cN (fun _ => false) n = 0 := by
    intro n
    induction n with
    | zero => rfl
    | succ n ih => show cN (fun _ => false) n + _ = 0; rw [ih]; rfl
  exact ⟨(h n).symm, fun j hj => absurd hj (Nat.not_lt_zero _), fun v _ h => absurd rfl h, fun i j _ hj => absurd hj (Nat.not_lt_zero _), fun v _ => trivial, fun T _ _ v _ h => absurd rfl h⟩
theorem bfI_add {n K : Nat} {b e : Nat → Nat} {op : Nat → Bool} {mm lo ex : Nat → Int} {vn : Nat → Option (Option Nat)} {lev : Nat → Nat} {car : Nat → Int} {q : Nat → Nat} {m v L : Nat} {x : Option Nat} {a : Int} (h : bfI n K b e op mm lo ex vn lev car q m) (hv : v < n) (h0 : vn v = none) (hL : ∀ j, j < m → lev (q j) ≤ L) (hx : (x = none ∧ 0 < ex v ∧ L = 0 ∧ a = ex v) ∨ ∃ w, x = some w ∧ (w < 2 * K ∧ we b e w = v ∧ wb b e w < n) ∧ vn (wb b e w) ≠ none ∧ L = lev (wb b e w) + 1 ∧ (op (w / 2) = true ∧ 0 < wm mm lo w) ∧ a = mn2 (car (wb b e w)) (wm mm lo w)) : bfI n K b e op mm lo ex (uF vn v (some x)) (uF lev v L) (uF car v a) (uF q m v) (m + 1) ∧ m < n := by
  obtain ⟨h1, h2, h3, h4, h5, h6⟩ := h
  have hne : ∀ u, vn u ≠ none → u ≠ v := fun u hu z => hu (by rw [z]; exact h0)
  have hc : cN (fun u => (uF vn v (some x) u).isSome) n = m + 1 := by
    have e1 : ∀ N, v < N → cN (fun u => (uF vn v (some x) u).isSome) N = cN (fun u => (vn u).isSome) N + 1 := by
      intro N
      induction N with
      | zero => intro z; omega
      | succ N ih =>
        intro z
        show cN (fun u => (uF vn v (some x) u).isSome) N + (if (uF vn v (some x) N).isSome then 1 else 0) = cN (fun u => (vn u).isSome) N + (if (vn N).isSome then 1 else 0) + 1
        rcases Nat.lt_or_ge v N with y | y
        · rw [ih y, uF_ne (by omega)]; omega
        · have e2 : v = N := by omega
          subst e2
          rw [uF_at, h0]
          have : cN (fun u => (uF vn v (some x) u).isSome) v = cN (fun u => (vn u).isSome) v := cN_cg (fun u hu => by rw [uF_ne (by omega)])
          rw [this]; rfl
    rw [e1 n hv, h1]
  have hm : m < n := by have := cN_le (P := fun u => (uF vn v (some x) u).isSome) (n := n); omega
  have hLm : L ≤ m := by
    rcases hx with ⟨_, _, z, _⟩ | ⟨w, _, ⟨_, _, w3⟩, w4, w5, _⟩
    · omega
    · obtain ⟨-, j, hj, e1⟩ := h3 _ w3 w4
      have := (h2 j hj).2.2
      rw [e1] at this
      omega
  have ha : 0 < a := by
    rcases hx with ⟨_, z1, _, z2⟩ | ⟨w, _, ⟨_, _, w3⟩, w4, w5, w6, w7⟩
    · omega
    · have := (h3 _ w3 w4).1
      rcases (mn2_le (a := car (wb b e w)) (b := wm mm lo w)).2.2 with y | y
      · rw [w7, y]; exact this
      · rw [w7, y]; exact w6.2
  refine ⟨⟨hc.symm, ?_, ?_, ?_, ?_, ?_⟩, hm⟩
  · intro j hj
    by_cases e1 : j = m
    · rw [e1, uF_at, uF_at, uF_at]; exact ⟨hv, by simp, hLm⟩
    · obtain ⟨a1, a2, a3⟩ := h2 j (by omega)
      rw [uF_ne e1, uF_ne (hne _ a2), uF_ne (hne _ a2)]
      exact ⟨a1, a2, a3⟩
  · intro u hu hs
    by_cases e1 : u = v
    · rw [e1, uF_at]; exact ⟨ha, m, by omega, uF_at⟩
    · rw [uF_ne e1] at hs
      obtain ⟨a1, j, hj, e2⟩ := h3 u hu hs
      rw [uF_ne e1]
      exact ⟨a1, j, by omega, by rw [uF_ne (by omega)]; exact e2⟩
  · intro i j hij hj
    by_cases e1 : j = m
    · by_cases e2 : i = m
      · rw [e1, e2]; exact Nat.le_refl _
      · rw [e1, uF_at, uF_at, uF_ne e2, uF_ne (hne _ (h2 i (by omega)).2.1)]
        exact hL i (by omega)
    · have i1 : uF q m v i = q i := uF_ne (by omega)
      have i2 : uF q m v j = q j := uF_ne (by omega)
      rw [i1, i2, uF_ne (hne _ (h2 i (by omega)).2.1), uF_ne (hne _ (h2 j (by omega)).2.1)]
      exact h4 i j hij (by omega)
  · intro u hu
    by_cases e1 : u = v
    · subst e1
      unfold bfN
      rw [uF_at]
      rcases hx with ⟨rfl, z1, z2, z3⟩ | ⟨w, rfl, w1, w4, w5, w6, w7⟩
      · show 0 < ex u ∧ uF lev u L u = 0 ∧ uF car u a u = ex u
        rw [uF_at, uF_at]; exact ⟨z1, z2, z3⟩
      · have e2 := hne _ w4
        show (w < 2 * K ∧ we b e w = u ∧ wb b e w < n) ∧ uF vn u _ (wb b e w) ≠ none ∧ uF lev u L u = uF lev u L (wb b e w) + 1 ∧ (op (w / 2) = true ∧ 0 < wm mm lo w) ∧ uF car u a u = mn2 (uF car u a (wb b e w)) (wm mm lo w)
        rw [uF_at, uF_at, uF_ne e2, uF_ne e2, uF_ne e2]
        exact ⟨w1, w4, w5, w6, w7⟩
    · have h7 := h5 u hu
      unfold bfN at h7 ⊢
      rw [uF_ne e1]
      cases hq : vn u with
      | none => trivial
      | some o =>
        rw [hq] at h7
        cases o with
        | none =>
          show 0 < ex u ∧ uF lev v L u = 0 ∧ uF car v a u = ex u
          rw [uF_ne e1, uF_ne e1]; exact h7
        | some w =>
          obtain ⟨w1, w4, w5, w6, w7⟩ := h7
          have e2 := hne _ w4
          show (w < 2 * K ∧ we b e w = u ∧ wb b e w < n) ∧ uF vn v _ (wb b e w) ≠ none ∧ uF lev v L u = uF lev v L (wb b e w) + 1 ∧ (op (w / 2) = true ∧ 0 < wm mm lo w) ∧ uF car v a u = mn2 (uF car v a (wb b e w)) (wm mm lo w)
          rw [uF_ne e1, uF_ne e1, uF_ne e2, uF_ne e2, uF_ne e2]
          exact ⟨w1, w4, w5, w6, w7⟩
  · intro T t1 t2 u hu hs
    by_cases e1 : u = v
    · rw [e1]
      rcases hx with ⟨_, z1, _, _⟩ | ⟨w, _, ⟨w1, w2, w3⟩, w4, w5, w6, w7⟩
      · exact t2 v hv z1
      · have := t1 w w1 w6.1 w6.2 (h6 T t1 t2 _ w3 w4)
        rw [w2] at this
        exact this
    · rw [uF_ne e1] at hs
      exact h6 T t1 t2 u hu hs
/-- the nodes of the first i places have been gone on from -/
def bfX (K : Nat) (b e : Nat → Nat) (op : Nat → Bool) (mm lo ex : Nat → Int) (vn : Nat → Option (Option Nat)) (lev : Nat → Nat) (q : Nat → Nat) (i : Nat) : Prop := ∀ j, j < i → 0 ≤ ex (q j) ∧ ∀ w, w < 2 * K → op (w / 2) = true → 0 < wm mm lo w → wb b e w = q j → vn (we b e w) ≠ none ∧ lev (we b e w) ≤ lev (q j) + 1
def bfS (n : Nat) (ex : Nat → Int) (vn : Nat → Option (Option Nat)) : Prop := ∀ v, v < n → 0 < ex v → vn v = some none
def bvi (vn : Nat → Option (Option Nat)) (v : Nat) : Option Nat := match vn v with
  | some (some w) => some w
  | _ => none
theorem bvi_s {vn : Nat → Option (Option Nat)} {v w : Nat} (h : bvi vn v = some w) : vn v = some (some w) := by
  unfold bvi at h
  split at h
  · rename_i w' e1
    rw [e1]
    cases h
    rfl
  · cases h
theorem bfI_tre {n K : Nat} {b e : Nat → Nat} {op : Nat → Bool} {mm lo ex : Nat → Int} {vn : Nat → Option (Option Nat)} {lev : Nat → Nat} {car : Nat → Int} {q : Nat → Nat} {m : Nat} (h : bfI n K b e op mm lo ex vn lev car q m) : tre n K b e (bvi vn) lev := by
  intro v w hv hw
  have := h.2.2.2.2.1 v hv
  unfold bfN at this
  rw [bvi_s hw] at this
  obtain ⟨⟨w1, w2, w3⟩, w4, w5, w6, w7⟩ := this
  exact ⟨w1, w2, w3, by omega⟩
