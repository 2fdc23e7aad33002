/-! ===== searching by falling values: the tree that it leaves, and what is sent along it ===== -/
/-- from v by k ways back to a node with none -/
def ch (b e : Nat → Nat) (via : Nat → Option Nat) : Nat → Nat → Prop
  | 0, v => via v = none
  | k + 1, v => ∃ w, via v = some w ∧ ch b e via k (wb b e w)
theorem ch_uq {b e : Nat → Nat} {via : Nat → Option Nat} : ∀ {k k' v : Nat}, ch b e via k v → ch b e via k' v → k = k'
  | 0, 0, _, _, _ => rfl
  | 0, k' + 1, v, h, ⟨w, h1, _⟩ => by rw [show via v = none from h] at h1; cases h1
  | k + 1, 0, v, ⟨w, h1, _⟩, h => by rw [show via v = none from h] at h1; cases h1
  | k + 1, k' + 1, v, ⟨w, h1, h2⟩, ⟨w', h3, h4⟩ => by
    rw [h1] at h3
    cases h3
    rw [ch_uq h2 h4]
theorem ch_tre {n K : Nat} {b e : Nat → Nat} {via : Nat → Option Nat} (h1 : ∀ v w, v < n → via v = some w → w < 2 * K ∧ we b e w = v ∧ wb b e w < n) (h2 : ∀ v, v < n → ∃ k, ch b e via k v) : ∃ rk, tre n K b e via rk := by
  have h3 : ∀ v, ∃ k, v < n → ch b e via k v := fun v => by
    by_cases y : v < n
    · obtain ⟨k, hk⟩ := h2 v y; exact ⟨k, fun _ => hk⟩
    · exact ⟨0, fun z => absurd z y⟩
  refine ⟨fun v => Classical.choose (h3 v), fun v w hv hw => ?_⟩
  obtain ⟨a1, a2, a3⟩ := h1 v w hv hw
  refine ⟨a1, a2, a3, ?_⟩
  have c1 := Classical.choose_spec (h3 v) hv
  have c2 := Classical.choose_spec (h3 (wb b e w)) a3
  have c3 : ch b e via (Classical.choose (h3 (wb b e w)) + 1) v := ⟨w, hw, c2⟩
  have := ch_uq c1 c3
  show Classical.choose (h3 (wb b e w)) < Classical.choose (h3 v)
  omega
def uO (via : Nat → Option Nat) (k w : Nat) : Nat → Option Nat := fun v => if v = k then some w else via v
theorem uO_at {via : Nat → Option Nat} {k w : Nat} : uO via k w k = some w := if_pos rfl
theorem uO_ne {via : Nat → Option Nat} {k w v : Nat} (h : v ≠ k) : uO via k w v = via v := if_neg h
theorem ch_upd {n : Nat} {b e : Nat → Nat} {via : Nat → Option Nat} {g : Nat → Int} {x p : Nat} (h1 : ∀ v w, v < n → via v = some w → wb b e w < n ∧ g (wb b e w) ≤ g v) (h2 : ∀ v, v < n → ∃ k, ch b e via k v) (hp : wb b e p < n) (hg : g (wb b e p) < g x) : ∀ v, v < n → ∃ k, ch b e (uO via x p) k v := by
  have s1 : ∀ k v, v < n → g v < g x → ch b e via k v → ch b e (uO via x p) k v := by
    intro k
    induction k with
    | zero =>
      intro v hv hl h
      show uO via x p v = none
      rw [uO_ne (fun z => by subst z; omega)]; exact h
    | succ k ih =>
      intro v hv hl ⟨w, h3, h4⟩
      obtain ⟨a1, a2⟩ := h1 v w hv h3
      exact ⟨w, by rw [uO_ne (fun z => by subst z; omega)]; exact h3, ih _ a1 (by omega) h4⟩
  obtain ⟨kp, hkp⟩ := h2 _ hp
  have hx : ch b e (uO via x p) (kp + 1) x := ⟨p, uO_at, s1 kp _ hp hg hkp⟩
  have s2 : ∀ k v, v < n → ch b e via k v → ∃ k', ch b e (uO via x p) k' v := by
    intro k
    induction k with
    | zero =>
      intro v hv h
      by_cases z : v = x
      · exact ⟨kp + 1, by rw [z]; exact hx⟩
      · exact ⟨0, by show uO via x p v = none; rw [uO_ne z]; exact h⟩
    | succ k ih =>
      intro v hv ⟨w, h3, h4⟩
      by_cases z : v = x
      · exact ⟨kp + 1, by rw [z]; exact hx⟩
      · obtain ⟨k', hk'⟩ := ih _ (h1 v w hv h3).1 h4
        exact ⟨k' + 1, w, by rw [uO_ne z]; exact h3, hk'⟩
  intro v hv
  obtain ⟨k, hk⟩ := h2 v hv
  exact s2 k v hv hk
def wI (n K : Nat) (b e : Nat → Nat) (c : Nat → Int) (on : Nat → Bool) (V0 V : Nat → Int) (via : Nat → Option Nat) : Prop :=
  dI n (2 * K) (wb b e) (we b e) (wr c) on V0 V ∧ (∀ v w, v < n → via v = some w → ((w < 2 * K ∧ we b e w = v ∧ wb b e w < n) ∧ on w = true) ∧ V (wb b e w) ≠ fAR ∧ V (wb b e w) + wr c w ≤ V v) ∧ (∀ v, v < n → via v = none → V v = V0 v) ∧ ∀ v, v < n → ∃ k, ch b e via k v
theorem wI_0 {n K : Nat} {b e : Nat → Nat} {c V0 : Nat → Int} {on : Nat → Bool} : wI n K b e c on V0 V0 (fun _ => none) := ⟨dI_0, fun _ _ _ h => (by cases (show (none : Option Nat) = some _ from h)), fun _ _ _ => rfl, fun _ _ => ⟨0, rfl⟩⟩
theorem wI_s {n K : Nat} {b e : Nat → Nat} {c U V0 V : Nat → Int} {on : Nat → Bool} {via : Nat → Option Nat} (h : wI n K b e c on V0 V via) (hf : dF n (2 * K) (wb b e) (we b e) (wr c) on) (hU : dP (2 * K) (wb b e) (we b e) (wr c) on U) (h0 : d0 n V0) {w : Nat} (hw : w < 2 * K) (ho : on w = true) (hb : V (wb b e w) ≠ fAR) (hl : V (wb b e w) + wr c w < V (we b e w)) : wI n K b e c on V0 (uI V (we b e w) (V (wb b e w) + wr c w)) (uO via (we b e w) w) := by
  obtain ⟨h1, h2, h3, h4⟩ := h
  obtain ⟨⟨f1, f2⟩, -⟩ := hf w hw ho
  have hne : wb b e w ≠ we b e w := fun z => by
    have := hU w hw ho
    rw [z] at this hl
    omega
  have hle := dI_fr h0 h1
  refine ⟨dI_s h1 hf hw ho hb hl, fun v w' hv hw' => ?_, fun v hv hn => ?_, ?_⟩
  · by_cases z : v = we b e w
    · rw [z, uO_at] at hw'
      cases hw'
      rw [z, uI_at, uI_ne hne]
      exact ⟨⟨⟨hw, rfl, f1⟩, ho⟩, hb, Int.le_refl _⟩
    · rw [uO_ne z] at hw'
      obtain ⟨a1, a2, a3⟩ := h2 v w' hv hw'
      rw [uI_ne z]
      refine ⟨a1, ?_⟩
      by_cases y : wb b e w' = we b e w
      · rw [y, uI_at]
        rw [y] at a2 a3
        have := hle _ f2
        exact ⟨by omega, by omega⟩
      · rw [uI_ne y]; exact ⟨a2, a3⟩
  · by_cases z : v = we b e w
    · rw [z, uO_at] at hn; cases hn
    · rw [uO_ne z] at hn
      rw [uI_ne z]; exact h3 v hv hn
  · refine ch_upd (g := fun v => V v - U v) (fun v w' hv hw' => ?_) h4 f1 ?_
    · obtain ⟨⟨⟨a1, a2, a3⟩, a4⟩, a5, a6⟩ := h2 v w' hv hw'
      have := hU w' a1 a4
      rw [a2] at this
      exact ⟨a3, by show V (wb b e w') - U (wb b e w') ≤ V v - U v; omega⟩
    · have := hU w hw ho
      show V (wb b e w) - U (wb b e w) < V (we b e w) - U (we b e w)
      omega
theorem wI_ex {n K : Nat} {b e : Nat → Nat} {c U V0 : Nat → Int} {on : Nat → Bool} (hn : n ≤ 24) (hf : dF n (2 * K) (wb b e) (we b e) (wr c) on) (hU : dP (2 * K) (wb b e) (we b e) (wr c) on U) (h0 : d0 n V0) : ∃ V via, wI n K b e c on V0 V via ∧ dR (2 * K) (wb b e) (we b e) (wr c) on V := by
  suffices h : ∀ (k : Nat) (V : Nat → Int) (via : Nat → Option Nat), wI n K b e c on V0 V via → sI V n - n * (-24000000) ≤ k → ∃ V via, wI n K b e c on V0 V via ∧ dR (2 * K) (wb b e) (we b e) (wr c) on V by
    exact h (sI V0 n - n * (-24000000)).toNat V0 _ wI_0 (by omega)
  intro k
  induction k with
  | zero =>
    intro V via hV hs
    refine ⟨V, via, hV, fun j hj ho hb => ?_⟩
    rcases Int.lt_or_le (V (wb b e j) + wr c j) (V (we b e j)) with q | q
    · exfalso
      have h2 := wI_s hV hf hU h0 hj ho hb q
      have h3 := dI_lo hn hf hU h0 h2.1
      have h4 : n * (-24000000) ≤ sI (uI V (we b e j) (V (wb b e j) + wr c j)) n := by rw [← sI_const (a := -24000000)]; exact sI_le h3
      rw [sI_upd (hf j hj ho).1.2] at h4
      omega
    · exact q
  | succ k ih =>
    intro V via hV hs
    by_cases hr : dR (2 * K) (wb b e) (we b e) (wr c) on V
    · exact ⟨V, via, hV, hr⟩
    · simp only [dR, Classical.not_forall] at hr
      obtain ⟨j, hj, ho, hb, q⟩ := hr
      have q2 : V (wb b e j) + wr c j < V (we b e j) := by omega
      refine ih _ _ (wI_s hV hf hU h0 hj ho hb q2) ?_
      rw [sI_upd (hf j hj ho).1.2]
      omega
/-- at rest each way of the tree is tight -/
theorem wI_eq {n K : Nat} {b e : Nat → Nat} {c V0 V : Nat → Int} {on : Nat → Bool} {via : Nat → Option Nat} (h : wI n K b e c on V0 V via) (hr : dR (2 * K) (wb b e) (we b e) (wr c) on V) {v w : Nat} (hv : v < n) (hw : via v = some w) : V v = V (wb b e w) + wr c w := by
  obtain ⟨⟨⟨a1, a2, a3⟩, a4⟩, a5, a6⟩ := h.2.1 v w hv hw
  have := hr w a1 a4 a5
  rw [a2] at this
  omega
theorem wI_tre {n K : Nat} {b e : Nat → Nat} {c V0 V : Nat → Int} {on : Nat → Bool} {via : Nat → Option Nat} (h : wI n K b e c on V0 V via) : ∃ rk, tre n K b e via rk := ch_tre (fun v w hv hw => (h.2.1 v w hv hw).1.1) h.2.2.2
/-- the node from which it was reached -/
theorem wI_rot {n K : Nat} {b e : Nat → Nat} {c V0 V : Nat → Int} {on : Nat → Bool} {via : Nat → Option Nat} {rk : Nat → Nat} (h : wI n K b e c on V0 V via) (ht : tre n K b e via rk) : ∀ k v, v < n → rk v ≤ k → V v ≠ fAR → rot b e via k v < n ∧ V0 (rot b e via k v) ≠ fAR
  | k, v, hv, hk, hF => by
    cases hq : via v with
    | none => rw [rot_n hq, ← h.2.2.1 v hv hq]; exact ⟨hv, hF⟩
    | some w =>
      obtain ⟨a1, a2, a3, a4⟩ := ht v w hv hq
      cases k with
      | zero => omega
      | succ k =>
        rw [rot_s hq]
        exact wI_rot h ht k _ a3 (by omega) (h.2.1 v w hv hq).2.1
/-- all ways of v's chain are such -/
def al (b e : Nat → Nat) (via : Nat → Option Nat) (R : Nat → Prop) : Nat → Nat → Prop
  | 0, _ => True
  | k + 1, v => ∀ w, via v = some w → R w ∧ al b e via R k (wb b e w)
theorem al_le {b e : Nat → Nat} {via : Nat → Option Nat} {R : Nat → Prop} : ∀ {k v : Nat} (j : Nat), al b e via R (k + j) v → al b e via R k v
  | 0, _, _, _ => trivial
  | k + 1, v, j, h => by
    rw [show k + 1 + j = k + j + 1 by omega] at h
    exact fun w hw => ⟨(h w hw).1, al_le j (h w hw).2⟩
/-- the least room along the chain, and r -/
def gm (b e : Nat → Nat) (via : Nat → Option Nat) (R : Nat → Int) : Nat → Nat → Int → Int
  | 0, _, r => r
  | k + 1, v, r => match via v with
    | none => r
    | some w => gm b e via R k (wb b e w) (if r < R w then r else R w)
theorem gm_s {b e : Nat → Nat} {via : Nat → Option Nat} {R : Nat → Int} {k v w : Nat} {r : Int} (h : via v = some w) : gm b e via R (k + 1) v r = gm b e via R k (wb b e w) (if r < R w then r else R w) := by
  rw [gm, h]
theorem gm_n {b e : Nat → Nat} {via : Nat → Option Nat} {R : Nat → Int} {k v : Nat} {r : Int} (h : via v = none) : gm b e via R k v r = r := by
  cases k with
  | zero => rfl
  | succ k => rw [gm, h]
theorem gm_le {b e : Nat → Nat} {via : Nat → Option Nat} {R : Nat → Int} : ∀ {k v : Nat} {r : Int}, gm b e via R k v r ≤ r
  | 0, _, _ => Int.le_refl _
  | k + 1, v, r => by
    cases h : via v with
    | none => rw [gm_n h]; omega
    | some w =>
      rw [gm_s h]
      refine Int.le_trans gm_le ?_
      split <;> omega
theorem gm_al {b e : Nat → Nat} {via : Nat → Option Nat} {R : Nat → Int} {a : Int} : ∀ {k v : Nat} {r : Int}, a ≤ gm b e via R k v r → al b e via (fun w => a ≤ R w) k v
  | 0, _, _, _ => trivial
  | k + 1, v, r, h => by
    intro w hw
    rw [gm_s hw] at h
    refine ⟨?_, gm_al h⟩
    have := gm_le (b := b) (e := e) (via := via) (R := R) (k := k) (v := wb b e w) (r := if r < R w then r else R w)
    have h2 : (if r < R w then r else R w) ≤ R w := by split <;> omega
    show a ≤ R w
    omega
theorem gm_pos {n K : Nat} {b e : Nat → Nat} {via : Nat → Option Nat} {R : Nat → Int} {rk : Nat → Nat} (ht : tre n K b e via rk) (hR : ∀ v w, v < n → via v = some w → 0 < R w) : ∀ {k v : Nat} {r : Int}, v < n → 0 < r → 0 < gm b e via R k v r
  | 0, _, _, _, h => h
  | k + 1, v, r, hv, h => by
    cases hq : via v with
    | none => rw [gm_n hq]; exact h
    | some w =>
      rw [gm_s hq]
      refine gm_pos ht hR (ht v w hv hq).2.2.1 ?_
      have := hR v w hv hq
      split <;> omega
theorem snt_tre {n K : Nat} {b e : Nat → Nat} {mm lo ex : Nat → Int} {via : Nat → Option Nat} {rk : Nat → Nat} {k v : Nat} {a : Int} (ht : tre n K b e via rk) (hv : v < n) (hk : rk v ≤ k) (hl : fits K mm lo) (ha : 0 < a) (hx : a ≤ -ex v) (hr : a ≤ ex (rot b e via k v)) (hal : al b e via (fun w => a ≤ wm mm lo w) k v) : snt n K b e (fun _ => true) mm lo ex (snd b e via k v a lo) (sdE b e via k v a ex) ∧ pe n (sdE b e via k v a ex) = pe n ex - a := by
  have r1 := (rot_n2 ht k v hv hk).2
  have hrv : rot b e via k v ≠ v := fun z => by rw [z] at hr; omega
  have hE : ∀ j, sdE b e via k v a ex j = ex j + (if v = j then a else 0) - (if rot b e via k v = j then a else 0) := fun j => rfl
  have hpe : pe n (sdE b e via k v a ex) = pe n ex - a := by
    have e1 : sI (fun j => if 0 ≤ sdE b e via k v a ex j then sdE b e via k v a ex j else 0) n = sI (fun j => (if 0 ≤ ex j then ex j else 0) - (if j = rot b e via k v then a else 0)) n := sI_cg (fun j _ => by
      show (if 0 ≤ sdE b e via k v a ex j then sdE b e via k v a ex j else 0) = (if 0 ≤ ex j then ex j else 0) - (if j = rot b e via k v then a else 0)
      rw [hE]
      by_cases z1 : v = j
      · subst z1
        rw [if_pos rfl, if_neg hrv, if_neg (Ne.symm hrv)]
        by_cases z2 : 0 ≤ ex v + a - 0
        · rw [if_pos z2, if_neg (by omega)]; omega
        · rw [if_neg z2, if_neg (by omega)]; omega
      · rw [if_neg z1]
        by_cases z2 : rot b e via k v = j
        · subst z2
          rw [if_pos rfl, if_pos (show 0 ≤ ex (rot b e via k v) + 0 - a by omega), if_pos (show 0 ≤ ex (rot b e via k v) by omega)]; omega
        · rw [if_neg z2, if_neg (Ne.symm z2)]
          by_cases z3 : 0 ≤ ex j
          · rw [if_pos z3, if_pos (by omega)]; omega
          · rw [if_neg z3, if_neg (by omega)]; omega)
    unfold pe
    rw [e1, sI_sub, sI_one, if_pos r1]
  -- what a chain lets through
  have hcx : ∃ car : Nat → Int, (∀ u w, u < n → via u = some w → car u ≤ car (wb b e w) ∧ car u ≤ wm mm lo w) ∧ car v = a := by
    refine ⟨fun u => @ite _ (al b e via (fun w => a ≤ wm mm lo w) (rk u) u) (Classical.propDecidable _) a 0, fun u w hu hw => ?_, ?_⟩
    · obtain ⟨a1, a2, a3, a4⟩ := ht u w hu hw
      have hwm : 0 ≤ wm mm lo w := by
        have := hl (w / 2) (by omega)
        unfold wm; split <;> omega
      by_cases y : al b e via (fun w => a ≤ wm mm lo w) (rk u) u
      · rw [show rk u = (rk u - 1) + 1 by omega] at y
        obtain ⟨y1, y2⟩ := y w hw
        rw [show rk u - 1 = rk (wb b e w) + (rk u - 1 - rk (wb b e w)) by omega] at y2
        have y3 := al_le _ y2
        have e1 : (@ite _ (al b e via (fun w => a ≤ wm mm lo w) (rk (wb b e w)) (wb b e w)) (Classical.propDecidable _) a 0) = a := if_pos y3
        have e2 : (@ite _ (al b e via (fun w => a ≤ wm mm lo w) (rk u) u) (Classical.propDecidable _) a 0) ≤ a := by split <;> omega
        show (@ite _ (al b e via (fun w => a ≤ wm mm lo w) (rk u) u) (Classical.propDecidable _) a 0) ≤ (@ite _ (al b e via (fun w => a ≤ wm mm lo w) (rk (wb b e w)) (wb b e w)) (Classical.propDecidable _) a 0) ∧ (@ite _ (al b e via (fun w => a ≤ wm mm lo w) (rk u) u) (Classical.propDecidable _) a 0) ≤ wm mm lo w
        have y4 : a ≤ wm mm lo w := y1
        rw [e1]
        exact ⟨e2, by omega⟩
      · have e1 : (@ite _ (al b e via (fun w => a ≤ wm mm lo w) (rk u) u) (Classical.propDecidable _) a 0) = 0 := if_neg y
        have e2 : 0 ≤ (@ite _ (al b e via (fun w => a ≤ wm mm lo w) (rk (wb b e w)) (wb b e w)) (Classical.propDecidable _) a 0) := by split <;> omega
        show (@ite _ (al b e via (fun w => a ≤ wm mm lo w) (rk u) u) (Classical.propDecidable _) a 0) ≤ (@ite _ (al b e via (fun w => a ≤ wm mm lo w) (rk (wb b e w)) (wb b e w)) (Classical.propDecidable _) a 0) ∧ (@ite _ (al b e via (fun w => a ≤ wm mm lo w) (rk u) u) (Classical.propDecidable _) a 0) ≤ wm mm lo w
        rw [e1]
        exact ⟨e2, hwm⟩
    · rw [show k = rk v + (k - rk v) by omega] at hal
      exact if_pos (al_le _ hal)
  obtain ⟨car, hc1, hc2⟩ := hcx
  refine ⟨⟨snd_fits ht hc1 hl hv hk (Int.le_of_lt ha) (by omega), fun j hj => ?_, fun l hl ho => (Bool.noConfusion (show true = false from ho)), fun j hj => ?_, fun l hl => ?_⟩, hpe⟩
  · rw [snd_dv ht hv hk, hE]
    split <;> split <;> omega
  · rw [hE]
    by_cases z1 : v = j
    · subst z1
      rw [if_pos rfl, if_neg hrv]
      exact ⟨fun z => by omega, fun z => by omega⟩
    · rw [if_neg z1]
      by_cases z2 : rot b e via k v = j
      · subst z2
        rw [if_pos rfl]
        exact ⟨fun z => by omega, fun z => by omega⟩
      · rw [if_neg z2]
        exact ⟨fun z => by omega, fun z => by omega⟩
  · rw [hpe]
    unfold snd
    rcases pth_lane ht (fun v w hv hw => (hc1 v w hv hw).1) (l := l) k v hv hk with y | ⟨u, w, y1, y2, y3, y4, -⟩
    · rw [y, Int.mul_zero]; omega
    · rw [y4]
      unfold sg
      split <;> omega
def onW (mm lo : Nat → Int) (w : Nat) : Bool := decide (0 < wm mm lo w)
theorem onW_t {mm lo : Nat → Int} {w : Nat} : onW mm lo w = true ↔ 0 < wm mm lo w := decide_eq_true_iff
theorem wr_ot {c : Nat → Int} {w w' : Nat} (h : w / 2 = w' / 2) (hn : w ≠ w') : wr c w = -wr c w' := by
  unfold wr
  rw [h]
  by_cases y : w % 2 = 0
  · rw [if_pos y, if_neg (by omega)]; omega
  · rw [if_neg y, if_pos (by omega)]
/-- there are prices behind it, too -/
theorem wI_next {n K : Nat} {b e : Nat → Nat} {c U V0 V mm lo : Nat → Int} {via : Nat → Option Nat} {rk : Nat → Nat} {k v : Nat} {a : Int} (hn : n ≤ 24) (hf : dF n (2 * K) (wb b e) (we b e) (wr c) (fun _ => true)) (hU : dP (2 * K) (wb b e) (we b e) (wr c) (onW mm lo) U) (h0 : d0 n V0) (h : wI n K b e c (onW mm lo) V0 V via) (hr : dR (2 * K) (wb b e) (we b e) (wr c) (onW mm lo) V) (ht : tre n K b e via rk) (hv : v < n) (hk : rk v ≤ k) (ha : 0 ≤ a) : ∃ U', dP (2 * K) (wb b e) (we b e) (wr c) (onW mm (snd b e via k v a lo)) U' := by
  have hfo : dF n (2 * K) (wb b e) (we b e) (wr c) (onW mm lo) := fun j hj _ => hf j hj rfl
  obtain ⟨P, hP, hPb⟩ := dP_small hn hfo hU
  have up := dB_up hn hfo h0 h.1 hr
  have lw := dI_lo hn hfo hU h0 h.1
  have hF : fAR = 1152921504606846976 := rfl
  refine ⟨fun u => if V u = fAR then P u + 1000000000 else V u, fun w hw ho => ?_⟩
  show (if V (we b e w) = fAR then P (we b e w) + 1000000000 else V (we b e w)) ≤ (if V (wb b e w) = fAR then P (wb b e w) + 1000000000 else V (wb b e w)) + wr c w
  obtain ⟨⟨f1, f2⟩, f3, f4⟩ := hf w hw rfl
  rcases snd_room ht (m := mm) (x := lo) hv hk ha hw with y | ⟨u, w', y1, y2, y3, y4⟩
  · have hon : onW mm lo w = true := onW_t.mpr (by have := onW_t.mp ho; omega)
    have p1 := hP w hw hon
    have p2 := hPb _ f1
    have p3 := hPb _ f2
    by_cases z1 : V (wb b e w) = fAR
    · rw [if_pos z1]
      by_cases z2 : V (we b e w) = fAR
      · rw [if_pos z2]; omega
      · rw [if_neg z2]
        have := up _ f2
        omega
    · have r1 := hr w hw hon z1
      have := up _ f1
      have z2 : V (we b e w) ≠ fAR := fun z2 => by omega
      rw [if_neg z1, if_neg z2]; exact r1
  · obtain ⟨q1, q2⟩ := we_ot (b := b) (e := e) y3 y4
    obtain ⟨⟨⟨a1, a2, a3⟩, a4⟩, a5, a6⟩ := h.2.1 u w' y1 y2
    have e1 := wI_eq h hr y1 y2
    have e2 := wr_ot (c := c) y3 y4
    rw [← q1, ← q2, a2]
    have := dI_fr h0 h.1 u y1
    have := up _ a3
    have := (hf w' a1 rfl).2
    have z : V u ≠ fAR := fun z => by omega
    rw [if_neg z, if_neg a5]
    omega
