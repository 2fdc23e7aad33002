/-! ===== ways 2 * lane and 2 * lane + 1; trees of ways, and what is sent along one ===== -/
def wb (b e : Nat → Nat) (w : Nat) : Nat := if w % 2 = 0 then b (w / 2) else e (w / 2)
def we (b e : Nat → Nat) (w : Nat) : Nat := if w % 2 = 0 then e (w / 2) else b (w / 2)
def wr (c : Nat → Int) (w : Nat) : Int := if w % 2 = 0 then c (w / 2) else -c (w / 2)
/-- the room of a way: m the widths, x the loads -/
def wm (m x : Nat → Int) (w : Nat) : Int := if w % 2 = 0 then m (w / 2) - x (w / 2) else x (w / 2)
def sg (w : Nat) : Int := if w % 2 = 0 then 1 else -1
def pth (b e : Nat → Nat) (via : Nat → Option Nat) : Nat → Nat → Nat → Int
  | 0, _ => fun _ => 0
  | k + 1, v => match via v with
    | none => fun _ => 0
    | some w => fun l => pth b e via k (wb b e w) l + (if l = w / 2 then sg w else 0)
def rot (b e : Nat → Nat) (via : Nat → Option Nat) : Nat → Nat → Nat
  | 0, v => v
  | k + 1, v => match via v with
    | none => v
    | some w => rot b e via k (wb b e w)
def tre (n K : Nat) (b e : Nat → Nat) (via : Nat → Option Nat) (rk : Nat → Nat) : Prop := ∀ v w, v < n → via v = some w → w < 2 * K ∧ we b e w = v ∧ wb b e w < n ∧ rk (wb b e w) < rk v
theorem pth_s {b e : Nat → Nat} {via : Nat → Option Nat} {k v w : Nat} (h : via v = some w) : pth b e via (k + 1) v = fun l => pth b e via k (wb b e w) l + (if l = w / 2 then sg w else 0) := by
  show (match via v with | none => fun _ => 0 | some w => fun l => pth b e via k (wb b e w) l + (if l = w / 2 then sg w else 0)) = _
  rw [h]
theorem pth_n {b e : Nat → Nat} {via : Nat → Option Nat} {k v : Nat} (h : via v = none) : pth b e via k v = fun _ => 0 := by
  cases k with
  | zero => rfl
  | succ k =>
    show (match via v with | none => fun _ => 0 | some w => fun l => pth b e via k (wb b e w) l + (if l = w / 2 then sg w else 0)) = _
    rw [h]
theorem rot_s {b e : Nat → Nat} {via : Nat → Option Nat} {k v w : Nat} (h : via v = some w) : rot b e via (k + 1) v = rot b e via k (wb b e w) := by
  show (match via v with | none => v | some w => rot b e via k (wb b e w)) = _
  rw [h]
theorem rot_n {b e : Nat → Nat} {via : Nat → Option Nat} {k v : Nat} (h : via v = none) : rot b e via k v = v := by
  cases k with
  | zero => rfl
  | succ k =>
    show (match via v with | none => v | some w => rot b e via k (wb b e w)) = _
    rw [h]
theorem dv_way {K : Nat} {b e : Nat → Nat} {w u : Nat} (hw : w < 2 * K) : dv K b e (fun l => if l = w / 2 then sg w else 0) u = (if wb b e w = u then 1 else 0) - (if we b e w = u then 1 else 0) := by
  have h1 := dv_upd (K := K) (b := b) (e := e) (x := fun _ => 0) (v := u) (k := w / 2) (a := sg w) (by omega)
  have h2 : dv K b e (fun _ => 0) u = 0 := sI_0 (fun l _ => by split <;> split <;> rfl)
  rw [h2] at h1
  have h3 : dv K b e (uI (fun _ => 0) (w / 2) (0 + sg w)) u = dv K b e (fun l => if l = w / 2 then sg w else 0) u := dv_cg (fun l _ => by
    unfold uI
    split
    · omega
    · rfl)
  rw [h3] at h1
  rw [h1]
  unfold wb we sg
  by_cases q : w % 2 = 0
  · simp only [if_pos q]; omega
  · simp only [if_neg q]
    split <;> split <;> omega
theorem pth_dv {n K : Nat} {b e : Nat → Nat} {via : Nat → Option Nat} {rk : Nat → Nat} (ht : tre n K b e via rk) {u : Nat} : ∀ k v, v < n → rk v ≤ k → dv K b e (pth b e via k v) u = (if rot b e via k v = u then 1 else 0) - (if v = u then 1 else 0)
  | k, v, hv, hk => by
    cases hq : via v with
    | none =>
      rw [pth_n hq, rot_n hq]
      have : dv K b e (fun _ => 0) u = 0 := sI_0 (fun l _ => by split <;> split <;> rfl)
      rw [this]; omega
    | some w =>
      obtain ⟨h1, h2, h3, h4⟩ := ht v w hv hq
      cases k with
      | zero => omega
      | succ k =>
        rw [pth_s hq, rot_s hq, dv_add, dv_way h1, h2, pth_dv ht k _ h3 (by omega)]
        omega
theorem rot_n2 {n K : Nat} {b e : Nat → Nat} {via : Nat → Option Nat} {rk : Nat → Nat} (ht : tre n K b e via rk) : ∀ k v, v < n → rk v ≤ k → via (rot b e via k v) = none ∧ rot b e via k v < n
  | k, v, hv, hk => by
    cases hq : via v with
    | none => rw [rot_n hq]; exact ⟨hq, hv⟩
    | some w =>
      obtain ⟨h1, h2, h3, h4⟩ := ht v w hv hq
      cases k with
      | zero => omega
      | succ k =>
        rw [rot_s hq]
        exact rot_n2 ht k _ h3 (by omega)
theorem we_ot {b e : Nat → Nat} {w w' : Nat} (h : w / 2 = w' / 2) (hn : w ≠ w') : we b e w = wb b e w' ∧ wb b e w = we b e w' := by
  unfold we wb
  by_cases q : w % 2 = 0
  · rw [if_pos q, if_pos q, if_neg (by omega), if_neg (by omega), h]; exact ⟨rfl, rfl⟩
  · rw [if_neg q, if_neg q, if_pos (by omega), if_pos (by omega), h]; exact ⟨rfl, rfl⟩
/-- what is sent along a lane: nothing, or by one way of the tree; car: what a node's ways let through -/
theorem pth_lane {n K : Nat} {b e : Nat → Nat} {via : Nat → Option Nat} {rk : Nat → Nat} (ht : tre n K b e via rk) {car : Nat → Int} (hc : ∀ v w, v < n → via v = some w → car v ≤ car (wb b e w)) {l : Nat} : ∀ k v, v < n → rk v ≤ k → pth b e via k v l = 0 ∨ ∃ u w, u < n ∧ via u = some w ∧ w / 2 = l ∧ pth b e via k v l = sg w ∧ rk u ≤ rk v ∧ car v ≤ car u
  | k, v, hv, hk => by
    cases hq : via v with
    | none => rw [pth_n hq]; exact Or.inl rfl
    | some w =>
      obtain ⟨h1, h2, h3, h4⟩ := ht v w hv hq
      cases k with
      | zero => omega
      | succ k =>
        have hs := hc v w hv hq
        rw [pth_s hq]
        show pth b e via k (wb b e w) l + (if l = w / 2 then sg w else 0) = 0 ∨ ∃ u w', u < n ∧ via u = some w' ∧ w' / 2 = l ∧ pth b e via k (wb b e w) l + (if l = w / 2 then sg w else 0) = sg w' ∧ rk u ≤ rk v ∧ car v ≤ car u
        by_cases hl : l = w / 2
        · rw [if_pos hl]
          rcases pth_lane ht hc (l := l) k _ h3 (by omega) with y | ⟨u, w', y1, y2, y3, y4, y5, y6⟩
          · rw [y]
            exact Or.inr ⟨v, w, hv, hq, hl.symm, by omega, Nat.le_refl _, Int.le_refl _⟩
          · exfalso
            obtain ⟨g1, g2, g3, g4⟩ := ht u w' y1 y2
            by_cases z : w' = w
            · rw [z, h2] at g2; rw [← g2] at y5; omega
            · obtain ⟨o1, o2⟩ := we_ot (b := b) (e := e) (w := w') (w' := w) (by omega) z
              rw [o2, h2] at g4; omega
        · rw [if_neg hl, Int.add_zero]
          rcases pth_lane ht hc (l := l) k _ h3 (by omega) with y | ⟨u, w', y1, y2, y3, y4, y5, y6⟩
          · exact Or.inl y
          · exact Or.inr ⟨u, w', y1, y2, y3, y4, by omega, by omega⟩
theorem rot_car {n K : Nat} {b e : Nat → Nat} {via : Nat → Option Nat} {rk : Nat → Nat} (ht : tre n K b e via rk) {car : Nat → Int} (hc : ∀ v w, v < n → via v = some w → car v ≤ car (wb b e w)) : ∀ k v, v < n → rk v ≤ k → car v ≤ car (rot b e via k v)
  | k, v, hv, hk => by
    cases hq : via v with
    | none => rw [rot_n hq]; exact Int.le_refl _
    | some w =>
      obtain ⟨h1, h2, h3, h4⟩ := ht v w hv hq
      cases k with
      | zero => omega
      | succ k =>
        rw [rot_s hq]
        have := rot_car ht hc k _ h3 (by omega)
        have := hc v w hv hq
        omega
/-- the loads behind sending a along the tree to v -/
def snd (b e : Nat → Nat) (via : Nat → Option Nat) (k v : Nat) (a : Int) (x : Nat → Int) : Nat → Int := fun l => x l + a * pth b e via k v l
theorem snd_fits {n K : Nat} {b e : Nat → Nat} {via : Nat → Option Nat} {rk : Nat → Nat} {m x car : Nat → Int} {a : Int} (ht : tre n K b e via rk) (hc : ∀ v w, v < n → via v = some w → car v ≤ car (wb b e w) ∧ car v ≤ wm m x w) (hx : fits K m x) {k v : Nat} (hv : v < n) (hk : rk v ≤ k) (ha : 0 ≤ a) (hav : a ≤ car v) : fits K m (snd b e via k v a x) := by
  intro l hl
  obtain ⟨x1, x2⟩ := hx l hl
  show 0 ≤ x l + a * pth b e via k v l ∧ x l + a * pth b e via k v l ≤ m l
  rcases pth_lane ht (fun v w hv h => (hc v w hv h).1) (l := l) k v hv hk with y | ⟨u, w, y1, y2, y3, y4, y5, y6⟩
  · rw [y, Int.mul_zero, Int.add_zero]; exact ⟨x1, x2⟩
  · have h1 := (hc u w y1 y2).2
    rw [y4]
    unfold wm at h1
    unfold sg
    rw [y3] at h1
    by_cases q : w % 2 = 0
    · rw [if_pos q] at h1 ⊢; omega
    · rw [if_neg q] at h1 ⊢; omega
theorem snd_dv {n K : Nat} {b e : Nat → Nat} {via : Nat → Option Nat} {rk : Nat → Nat} {x : Nat → Int} {a : Int} (ht : tre n K b e via rk) {k v u : Nat} (hv : v < n) (hk : rk v ≤ k) : dv K b e (snd b e via k v a x) u = dv K b e x u + ((if rot b e via k v = u then a else 0) - (if v = u then a else 0)) := by
  unfold snd
  rw [dv_add, dv_mul, pth_dv ht k v hv hk]
  congr 1
  split <;> split <;> omega
/-- the room of a way behind it: none that is new but against a way of the tree -/
theorem snd_room {n K : Nat} {b e : Nat → Nat} {via : Nat → Option Nat} {rk : Nat → Nat} {m x : Nat → Int} {a : Int} (ht : tre n K b e via rk) {k v w : Nat} (hv : v < n) (hk : rk v ≤ k) (ha : 0 ≤ a) (hw : w < 2 * K) : wm m (snd b e via k v a x) w ≤ wm m x w ∨ ∃ u w', u < n ∧ via u = some w' ∧ w' / 2 = w / 2 ∧ w' ≠ w := by
  rcases pth_lane ht (car := fun _ => 0) (fun _ _ _ _ => Int.le_refl _) (l := w / 2) k v hv hk with y | ⟨u, w', y1, y2, y3, y4, y5, y6⟩
  · refine Or.inl ?_
    unfold wm snd
    rw [y, Int.mul_zero, Int.add_zero]; exact Int.le_refl _
  · by_cases z : w' = w
    · refine Or.inl ?_
      unfold wm snd
      rw [y4, z]
      unfold sg
      by_cases q : w % 2 = 0
      · rw [if_pos q, if_pos q, if_pos q]; omega
      · rw [if_neg q, if_neg q, if_neg q]; omega
    · exact Or.inr ⟨u, w', y1, y2, y3, z⟩
