/-! ===== sending along a least way, and raising the prices ===== -/
theorem snt_gen {n K : Nat} {b e : Nat → Nat} {via : Nat → Option Nat} {rk : Nat → Nat} {mm lo ex car : Nat → Int} {v : Nat} {a : Int} (ht : tre n K b e via rk) (hc : ∀ v w, v < n → via v = some w → car v ≤ car (wb b e w) ∧ car v ≤ wm mm lo w) (hl : fits K mm lo) (hv : v < n) (hk : rk v ≤ n) (ha : 0 < a) (hav : a ≤ car v) (hev : a ≤ -ex v) (hrn : rot b e via n v < n) (hre : a ≤ ex (rot b e via n v)) : snt n K b e (fun _ => true) mm lo ex (snd b e via n v a lo) (sdE b e via n v a ex) ∧ pe n (sdE b e via n v a ex) = pe n ex - a := by
  have hrv : rot b e via n v ≠ v := fun z => by rw [z] at hre; omega
  have hE : ∀ j, sdE b e via n v a ex j = ex j + (if v = j then a else 0) - (if rot b e via n v = j then a else 0) := fun j => rfl
  have hpe : pe n (sdE b e via n v a ex) = pe n ex - a := by
    have e1 : sI (fun j => if 0 ≤ sdE b e via n v a ex j then sdE b e via n v a ex j else 0) n = sI (fun j => (if 0 ≤ ex j then ex j else 0) - (if j = rot b e via n v then a else 0)) n := sI_cg (fun j _ => by
      show (if 0 ≤ sdE b e via n v a ex j then sdE b e via n v a ex j else 0) = (if 0 ≤ ex j then ex j else 0) - (if j = rot b e via n v then a else 0)
      rw [hE]
      by_cases z1 : v = j
      · subst z1
        rw [if_pos rfl, if_neg hrv, if_neg (Ne.symm hrv)]
        by_cases z2 : 0 ≤ ex v + a - 0
        · rw [if_pos z2, if_neg (by omega)]; omega
        · rw [if_neg z2, if_neg (by omega)]; omega
      · rw [if_neg z1]
        by_cases z2 : rot b e via n v = j
        · subst z2
          rw [if_pos rfl, if_pos (show 0 ≤ ex (rot b e via n v) + 0 - a by omega), if_pos (show 0 ≤ ex (rot b e via n v) by omega)]; omega
        · rw [if_neg z2, if_neg (Ne.symm z2)]
          by_cases z3 : 0 ≤ ex j
          · rw [if_pos z3, if_pos (by omega)]; omega
          · rw [if_neg z3, if_neg (by omega)]; omega)
    unfold pe
    rw [e1, sI_sub, sI_one, if_pos hrn]
  refine ⟨⟨snd_fits ht hc hl hv hk (Int.le_of_lt ha) hav, fun j hj => ?_, fun l hl ho => (by cases ho), fun j hj => ?_, fun l hl => ?_⟩, hpe⟩
  · rw [snd_dv ht hv hk, hE]
    split <;> split <;> omega
  · rw [hE]
    by_cases z1 : v = j
    · subst z1
      rw [if_pos rfl, if_neg hrv]
      exact ⟨fun z => by omega, fun z => by omega⟩
    · rw [if_neg z1]
      by_cases z2 : rot b e via n v = j
      · subst z2
        rw [if_pos rfl]
        exact ⟨fun z => by omega, fun z => by omega⟩
      · rw [if_neg z2]
        exact ⟨fun z => by omega, fun z => by omega⟩
  · rw [hpe]
    unfold snd
    rcases pth_lane2 ht (l := l) n v hv hk with y | ⟨u, w, y1, y2, y3, y4⟩
    · rw [y, Int.mul_zero]; omega
    · rw [y4]
      unfold sg
      split <;> omega
/-- prices raised by the least costs, up to that of the node found -/
def djR (D p : Nat → Int) (v : Nat) : Nat → Int := fun u => p u + mn2 (D u / 32) (D v / 32)
section
variable {n K : Nat} {b e : Nat → Nat} {c mm lo ex p : Nat → Int} {dl Rs : Int} {vn : Nat → Option (Option Nat)} {D : Nat → Int} {h : Nat → Nat} {dn : Nat → Bool} {car : Nat → Int}
theorem dj_div (hn : n ≤ 24) (H : djI n K b e c mm lo ex p dl Rs vn D h dn car) {v : Nat} (hv : v < n) (hs : vn v ≠ none) : D v = 32 * (D v / 32) + h v ∧ 0 ≤ D v / 32 ∧ D v / 32 + p v ≤ Rs + 1000000 * h v ∧ h v ≤ n := by
  obtain ⟨-, h2, C, c1, c2, c3⟩ := H.2.2.2.1 v hv hs
  have : cN dn n ≤ n := cN_le
  have e1 : D v / 32 = C := by omega
  rw [e1]
  exact ⟨c2, c1, c3, by omega⟩
theorem dj_send (hn : n ≤ 24) (hb : nd n K b e) (hP : djP n K b e c mm lo p dl Rs) (hl : fits K mm lo) (H : djI n K b e c mm lo ex p dl Rs vn D h dn car) (hX : djX n K b e c mm lo p dl vn D dn) (hdx : ∀ u, u < n → dn u = true → -dl < ex u) {v : Nat} (hv : v < n) (hs : vn v ≠ none) (hnd : dn v = false) (hne : ex v ≤ -dl) (hmin : ∀ x, x < n → dn x = false → D v ≤ D x) {a : Int} (ha : a = mn2 (car v) (-ex v)) : (dl ≤ a ∧ snt n K b e (fun _ => true) mm lo ex (snd b e (bvi vn) n v a lo) (sdE b e (bvi vn) n v a ex) ∧ pe n (sdE b e (bvi vn) n v a ex) = pe n ex - a) ∧ (∀ w, w < 2 * K → dl ≤ wm mm (snd b e (bvi vn) n v a lo) w → 0 ≤ rcw b e c (djR D p v) w) ∧ (0 ≤ D v / 32 ∧ D v / 32 + p v ≤ Rs + 24000000) ∧ ∀ u, u < n → (p u ≤ djR D p v u ∧ djR D p v u ≤ p u + D v / 32) ∧ (dl ≤ ex u → djR D p v u = p u) ∧ (ex u ≤ -dl → djR D p v u = p u + D v / 32) := by
  have ht := dj_tre H
  obtain ⟨v1, v2, v3, v4⟩ := dj_div hn H hv hs
  have hdl := hP.2.2.2
  obtain ⟨r1, r2, r3⟩ := dj_rot H hv hs v4
  have hcar := (H.2.2.2.1 v hv hs).1
  have hda : dl ≤ a := by
    rcases (mn2_le (a := car v) (b := -ex v)).2.2 with y | y
    · rw [ha, y]; exact hcar
    · rw [ha, y]; omega
  have ha1 : a ≤ car v := by rw [ha]; exact mn2_le.1
  have ha2 : a ≤ -ex v := by rw [ha]; exact mn2_le.2.1
  have hsn := snt_gen ht (dj_car H) hl hv v4 (by omega) ha1 ha2 r1 (by omega)
  have hDn : ∀ u, u < n → 0 ≤ D u / 32 := by
    intro u hu
    by_cases z : vn u = none
    · have := H.1 u hu
      unfold djN at this
      rw [z] at this
      rw [this.1]; unfold fAR; omega
    · exact (dj_div hn H hu z).2.1
  have hbw : ∀ w, w < 2 * K → wb b e w < n ∧ we b e w < n := by
    intro w hw
    obtain ⟨c1, c2⟩ := hb (w / 2) (by omega)
    unfold wb we
    split
    · exact ⟨c1, c2⟩
    · exact ⟨c2, c1⟩
  have hinv : ∀ w, w < 2 * K → dl ≤ wm mm lo w → 0 ≤ rcw b e c (djR D p v) w := by
    intro w hw hm
    obtain ⟨w1, w2⟩ := hbw w hw
    have h0 := hP.1 w hw hm
    have e1 : rcw b e c (djR D p v) w = rcw b e c p w + mn2 (D (wb b e w) / 32) (D v / 32) - mn2 (D (we b e w) / 32) (D v / 32) := by
      unfold rcw djR; omega
    rw [e1]
    have h3 := (mn2_le (a := D (we b e w) / 32) (b := D v / 32)).2.1
    have h4 := (mn2_le (a := D (we b e w) / 32) (b := D v / 32)).1
    cases hq : dn (wb b e w)
    · have := hmin _ w1 hq
      have h5 : mn2 (D (wb b e w) / 32) (D v / 32) = D v / 32 := by
        unfold mn2
        split <;> omega
      omega
    · obtain ⟨x1, x2⟩ := hX _ w1 hq w hw rfl hm
      have x3 : vn (wb b e w) ≠ none := by
        intro z
        have := H.1 _ w1
        unfold djN at this
        rw [z] at this
        rw [this.2] at hq; cases hq
      obtain ⟨y1, y2, y3, y4⟩ := dj_div hn H w1 x3
      obtain ⟨z1, z2, z3, z4⟩ := dj_div hn H w2 x1
      have h5 : D (we b e w) / 32 ≤ D (wb b e w) / 32 + rcw b e c p w := by omega
      rcases (mn2_le (a := D (wb b e w) / 32) (b := D v / 32)).2.2 with y | y <;> omega
  refine ⟨⟨hda, hsn.1, hsn.2⟩, fun w hw hm => ?_, ⟨v2, ?_⟩, fun u hu => ⟨⟨?_, ?_⟩, fun hz => ?_, fun hz => ?_⟩⟩
  · rcases snd_room2 ht (m := mm) (x := lo) (w := w) hv v4 (show 0 ≤ a by omega) with y | ⟨u, w', y1, y2, y3, y4⟩
    · exact hinv w hw (by omega)
    · obtain ⟨o1, o2⟩ := we_ot (b := b) (e := e) y3 y4
      have hon : u < n ∧ vn u ≠ none ∧ D u ≤ D v := onp_ind (P := fun u => u < n ∧ vn u ≠ none ∧ D u ≤ D v) (fun u w hu hw => by
        obtain ⟨⟨g1, g2, g3⟩, g4, g5, g6, g7, g8⟩ := dj_via H hu.1 hw
        have := hP.1 w g1 g7
        exact ⟨g3, g4.2, by omega⟩) ⟨hv, hs, Int.le_refl _⟩ y1
      obtain ⟨⟨g1, g2, g3⟩, g4, g5, g6, g7, g8⟩ := dj_via H hon.1 y2
      obtain ⟨p1, p2, p3, p4⟩ := dj_div hn H hon.1 hon.2.1
      obtain ⟨q1, q2, q3, q4⟩ := dj_div hn H g3 g4.2
      have h0 := hP.1 w' g1 g7
      have e1 : rcw b e c (djR D p v) w = -rcw b e c (djR D p v) w' := by
        unfold rcw
        rw [o1, o2]
        have : wr c w = -wr c w' := by
          unfold wr
          by_cases q : w % 2 = 0
          · rw [if_pos q, if_neg (by omega), y3]; omega
          · rw [if_neg q, if_pos (by omega), y3]
        omega
      have e2 : rcw b e c (djR D p v) w' = rcw b e c p w' + mn2 (D (wb b e w') / 32) (D v / 32) - mn2 (D (we b e w') / 32) (D v / 32) := by
        unfold rcw djR; omega
      rw [e1, e2, g2]
      have m1 : mn2 (D u / 32) (D v / 32) = D u / 32 := by
        unfold mn2
        rw [if_pos (by omega)]
      have m2 : mn2 (D (wb b e w') / 32) (D v / 32) = D (wb b e w') / 32 := by
        unfold mn2
        rw [if_pos (by omega)]
      omega
  · have : cN dn n ≤ n := cN_le
    omega
  · have := hDn u hu
    show p u ≤ p u + mn2 (D u / 32) (D v / 32)
    have := mn2_le (a := D u / 32) (b := D v / 32)
    omega
  · show p u + mn2 (D u / 32) (D v / 32) ≤ _
    have := mn2_le (a := D u / 32) (b := D v / 32)
    omega
  · have e1 := H.2.1 u hu hz
    obtain ⟨s1, s2, s3, s4⟩ := dj_src H hu (by rw [e1]; simp) (by unfold bvi; rw [e1])
    show p u + mn2 (D u / 32) (D v / 32) = p u
    rw [s2]
    unfold mn2
    rw [if_pos (by omega)]; omega
  · have e1 : dn u = false := by
      cases hq : dn u
      · rfl
      · have := hdx u hu hq; omega
    have := hmin u hu e1
    show p u + mn2 (D u / 32) (D v / 32) = _
    unfold mn2
    split <;> omega
end
