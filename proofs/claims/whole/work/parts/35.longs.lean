/-! ===== longs as whole numbers ===== -/
def lI (z : Int) : Int64 := Int64.ofInt z
def lF (f : Nat → Int) : Nat → Int64 := fun i => lI (f i)
theorem lI_add {a b : Int} : lI a + lI b = lI (a + b) := (Int64.ofInt_add a b).symm
theorem lI_sub {a b : Int} : lI a - lI b = lI (a - b) := (Int64.ofInt_sub a b).symm
theorem lI_neg {a : Int} : -lI a = lI (-a) := (Int64.ofInt_neg a).symm
theorem lI_mul {a b : Int} : lI a * lI b = lI (a * b) := (Int64.ofInt_mul a b).symm
theorem lI_to (x : Int64) : lI x.toInt = x := Int64.ofInt_toInt x
theorem lI_ti {a : Int} (h : -4611686018427387904 ≤ a ∧ a ≤ 4611686018427387904) : (lI a).toInt = a := Int64.toInt_ofInt_of_le (by omega) (by omega)
def lB (a : Int) : Prop := -4611686018427387904 ≤ a ∧ a ≤ 4611686018427387904
theorem lI_lt {a b : Int} (ha : lB a) (hb : lB b) : lI a < lI b ↔ a < b := by rw [Int64.lt_iff_toInt_lt, lI_ti ha, lI_ti hb]
theorem lI_le {a b : Int} (ha : lB a) (hb : lB b) : lI a ≤ lI b ↔ a ≤ b := by rw [Int64.le_iff_toInt_le, lI_ti ha, lI_ti hb]
theorem lI_eq {a b : Int} (ha : lB a) (hb : lB b) : lI a = lI b ↔ a = b := by rw [← Int64.toInt_inj, lI_ti ha, lI_ti hb]
theorem lI_nat {k : Nat} [OfNat Int64 k] (h : (OfNat.ofNat k : Int64) = lI k) : (OfNat.ofNat k : Int64) = lI k := h
theorem lF_to (f : Nat → Int64) : lF (fun i => (f i).toInt) = f := funext fun i => lI_to (f i)
theorem lF_upd {f : Nat → Int} {k : Nat} {a : Int} : vp_updL (lF f) k (lI a) = lF (uI f k a) := by
  funext i
  unfold vp_updL lF uI
  split <;> rfl
theorem lF_at {f : Nat → Int} {k : Nat} : lF f k = lI (f k) := rfl
theorem lI_min {a b : Int} (ha : lB a) (hb : lB b) : (if lI a ≤ lI b then lI a else lI b) = lI (if a ≤ b then a else b) := by
  by_cases h : a ≤ b
  · rw [if_pos h, if_pos ((lI_le ha hb).mpr h)]
  · rw [if_neg h, if_neg (fun z => h ((lI_le ha hb).mp z))]
/-! two arrays of longs put in place -/
theorem dm_sj_sw {u : dm_S} {c d : Nat} {f g : Nat → Int64} (h : c ≠ d) : dm_sj (dm_sj u c f) d g = dm_sj (dm_sj u d g) c f := by
  unfold dm_sj
  refine Prod.ext rfl ?_
  funext c'
  by_cases e : c' = d
  · subst e; simp [Ne.symm h]
  · simp [e]
theorem dm_sj_2s {u : dm_S} {c : Nat} {f g : Nat → Int64} : dm_sj (dm_sj u c f) c g = dm_sj u c g := by
  unfold dm_sj
  refine Prod.ext rfl ?_
  funext c'
  by_cases e : c' = c
  · simp [e]
  · simp [e]
theorem dm_ul_sj {u : dm_S} {c j : Nat} {x : Int64} : dm_ul u c j x = dm_sj u c (vp_updL (u.2 c) j x) := by
  rw [← dm_sj_u, dm_sj_self]
/-- loads x and excess ex in place -/
def st_x (u : dm_S) (x ex : Nat → Int) : dm_S := dm_sj (dm_sj u 24 (lF x)) 25 (lF ex)
theorem st_x1 {u : dm_S} {x ex : Nat → Int} : (st_x u x ex).1 = u.1 := rfl
theorem st_x24 {u : dm_S} {x ex : Nat → Int} : (st_x u x ex).2 24 = lF x := rfl
theorem st_x25 {u : dm_S} {x ex : Nat → Int} : (st_x u x ex).2 25 = lF ex := rfl
theorem st_xo {u : dm_S} {x ex : Nat → Int} {c : Nat} (h : c ≠ 24) (h2 : c ≠ 25) : (st_x u x ex).2 c = u.2 c := by
  show (if c = 25 then lF ex else if c = 24 then lF x else u.2 c) = u.2 c
  rw [if_neg h2, if_neg h]
theorem st_xx {u : dm_S} {x ex y ey : Nat → Int} : st_x (st_x u x ex) y ey = st_x u y ey := by
  unfold st_x
  rw [dm_sj_sw (u := dm_sj u 24 (lF x)) (c := 25) (d := 24) (by decide), dm_sj_2s, dm_sj_2s]
theorem st_x0 (u : dm_S) : ∃ x ex, u = st_x u x ex ∧ u.2 24 = lF x ∧ u.2 25 = lF ex := by
  refine ⟨fun i => (u.2 24 i).toInt, fun i => (u.2 25 i).toInt, ?_, (lF_to _).symm, (lF_to _).symm⟩
  unfold st_x
  rw [lF_to, lF_to, dm_sj_self, dm_sj_self]
theorem st_xs {u : dm_S} {x ex : Nat → Int} (h1 : u.2 24 = lF x) (h2 : u.2 25 = lF ex) : st_x u x ex = u := by
  unfold st_x
  rw [← h1, ← h2, dm_sj_self, dm_sj_self]
theorem st_u24 {u : dm_S} {x ex : Nat → Int} {k : Nat} {z : Int} : dm_ul (st_x u x ex) 24 k (lI z) = st_x u (uI x k z) ex := by
  rw [dm_ul_sj, st_x24, lF_upd]
  unfold st_x
  rw [dm_sj_sw (u := dm_sj u 24 (lF x)) (c := 25) (d := 24) (by decide), dm_sj_2s]
theorem st_u25 {u : dm_S} {x ex : Nat → Int} {k : Nat} {z : Int} : dm_ul (st_x u x ex) 25 k (lI z) = st_x u x (uI ex k z) := by
  rw [dm_ul_sj, st_x25, lF_upd]
  unfold st_x
  rw [dm_sj_2s]
/-! the lanes as they are laid: n nodes, K lanes from b to e -/
def ln_ok (u : dm_S) (n K : Nat) (b e : Nat → Nat) : Prop := (n ≤ 24 ∧ K ≤ 320 ∧ u.1 1 8 = nI n ∧ u.1 2 10 = nI K) ∧ ∀ l, l < K → (u.1 20 l = nI (b l) ∧ b l < n) ∧ (u.1 21 l = nI (e l) ∧ e l < n)
theorem ln_b {u : dm_S} {n K w : Nat} {b e : Nat → Nat} (h : ln_ok u n K b e) (hw : w < 2 * K) : lw_b u w = nI (wb b e w) ∧ wb b e w < n := by
  obtain ⟨⟨h1, h2⟩, h3, h4⟩ := h.2 (w / 2) (by omega)
  unfold lw_b wb
  split
  · exact ⟨h1, h2⟩
  · exact ⟨h3, h4⟩
theorem ln_e {u : dm_S} {n K w : Nat} {b e : Nat → Nat} (h : ln_ok u n K b e) (hw : w < 2 * K) : lw_e u w = nI (we b e w) ∧ we b e w < n := by
  obtain ⟨⟨h1, h2⟩, h3, h4⟩ := h.2 (w / 2) (by omega)
  unfold lw_e we
  split
  · exact ⟨h3, h4⟩
  · exact ⟨h1, h2⟩
theorem ln_st {u : dm_S} {n K : Nat} {b e : Nat → Nat} {x ex : Nat → Int} (h : ln_ok u n K b e) : ln_ok (st_x u x ex) n K b e := h
/-- push, in whole numbers -/
def pX (w : Nat) (a : Int) (x : Nat → Int) : Nat → Int := uI x (w / 2) (x (w / 2) + sg w * a)
def pE (b e : Nat → Nat) (w : Nat) (a : Int) (ex : Nat → Int) : Nat → Int := fun v => ex v - (if wb b e w = v then a else 0) + (if we b e w = v then a else 0)
theorem ln_pu {u : dm_S} {n K w : Nat} {b e : Nat → Nat} {x ex : Nat → Int} {a : Int} (h : ln_ok u n K b e) (hw : w < 2 * K) : dm_pu (st_x u x ex) w (lI a) = st_x u (pX w a x) (pE b e w a ex) := by
  obtain ⟨e1, l1⟩ := ln_b h hw
  obtain ⟨e2, l2⟩ := ln_e h hw
  have hn : n ≤ 24 := h.1.1
  have c1 : (lw_b (st_x u x ex) w).toNatClampNeg = wb b e w := by
    show (lw_b u w).toNatClampNeg = _
    rw [e1, nI_clamp (by omega)]
  have c2 : (lw_e (st_x u x ex) w).toNatClampNeg = we b e w := by
    show (lw_e u w).toNatClampNeg = _
    rw [e2, nI_clamp (by omega)]
  unfold dm_pu
  rw [c1, c2, st_x24, st_x25]
  have s1 : (if w % 2 = 0 then lI a else -lI a) = lI (sg w * a) := by
    unfold sg
    split
    · rw [Int.one_mul]
    · rw [lI_neg]; congr 1; omega
  rw [s1, lF_at, lI_add, lF_at, lF_at, lI_sub]
  have s2 : (if we b e w = wb b e w then lI (ex (wb b e w) - a) else lI (ex (we b e w))) + lI a = lI ((if we b e w = wb b e w then ex (wb b e w) - a else ex (we b e w)) + a) := by
    split <;> rw [lI_add]
  rw [s2, st_u24, st_u25, st_u25]
  have s6 : uI (uI ex (wb b e w) (ex (wb b e w) - a)) (we b e w) ((if we b e w = wb b e w then ex (wb b e w) - a else ex (we b e w)) + a) = pE b e w a ex := by
    funext v
    unfold uI pE
    by_cases q1 : v = we b e w
    · subst q1
      rw [if_pos rfl, if_pos rfl]
      by_cases q2 : we b e w = wb b e w
      · rw [if_pos q2, if_pos q2.symm, q2]
      · rw [if_neg q2, if_neg (Ne.symm q2)]; omega
    · rw [if_neg q1, if_neg (Ne.symm q1)]
      by_cases q2 : v = wb b e w
      · rw [if_pos q2, if_pos q2.symm, q2]; omega
      · rw [if_neg q2, if_neg (Ne.symm q2)]; omega
  rw [s6]
  rfl
