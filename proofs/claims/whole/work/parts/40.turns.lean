/-! ===== how often a search can find a way: the nearest first ===== -/
def ekI (n K : Nat) (b e : Nat → Nat) (op : Nat → Bool) (mm lo ex : Nat → Int) (d : Nat → Nat) (D : Nat) : Prop := (∀ w, w < 2 * K → op (w / 2) = true → 0 < wm mm lo w → d (we b e w) ≤ d (wb b e w) + 1) ∧ (∀ v, v < n → 0 < ex v → d v = 0) ∧ ∀ v, v < n → ex v < 0 → D ≤ d v
def ekL (b e : Nat → Nat) (op : Nat → Bool) (mm lo : Nat → Int) (d : Nat → Nat) (w : Nat) : Bool := op (w / 2) && (decide (0 < wm mm lo w) && decide (d (we b e w) = d (wb b e w) + 1))
def ekC (n K : Nat) (b e : Nat → Nat) (op : Nat → Bool) (mm lo ex : Nat → Int) (d : Nat → Nat) : Nat := cN (ekL b e op mm lo d) (2 * K) + cN (fun v => !decide (ex v = 0)) n
theorem rot_on {n K : Nat} {b e : Nat → Nat} {via : Nat → Option Nat} {rk : Nat → Nat} (ht : tre n K b e via rk) : ∀ k v, v < n → rk v ≤ k → onp b e via k v (rot b e via k v)
  | k, v, hv, hk => by
    cases hq : via v with
    | none => rw [rot_n hq]; exact onp_self
    | some w =>
      obtain ⟨h1, h2, h3, h4⟩ := ht v w hv hq
      cases k with
      | zero => omega
      | succ k =>
        rw [rot_s hq]
        exact Or.inr ⟨w, hq, rot_on ht k _ h3 (by omega)⟩
theorem snd_room2 {n K : Nat} {b e : Nat → Nat} {via : Nat → Option Nat} {rk : Nat → Nat} {m x : Nat → Int} {a : Int} (ht : tre n K b e via rk) {k v w : Nat} (hv : v < n) (hk : rk v ≤ k) (ha : 0 ≤ a) : wm m (snd b e via k v a x) w ≤ wm m x w ∨ ∃ u w', onp b e via k v u ∧ via u = some w' ∧ w' / 2 = w / 2 ∧ w' ≠ w := by
  rcases pth_lane2 ht (l := w / 2) k v hv hk with y | ⟨u, w', y1, y2, y3, y4⟩
  · refine Or.inl ?_
    unfold wm snd
    rw [y, Int.mul_zero, Int.add_zero]; exact Int.le_refl _
  · by_cases z : w' = w
    · refine Or.inl ?_
      unfold wm snd
      rw [y4, z]
      unfold sg
      by_cases q : w % 2 = 0
      · rw [if_pos q, if_pos q, if_pos q]; omega
      · rw [if_neg q, if_neg q, if_neg q]; omega
    · exact Or.inr ⟨u, w', y1, y2, y3, z⟩
theorem snd_room3 {n K : Nat} {b e : Nat → Nat} {via : Nat → Option Nat} {rk : Nat → Nat} {m x : Nat → Int} {a : Int} (ht : tre n K b e via rk) {k v u w : Nat} (hv : v < n) (hk : rk v ≤ k) (hu : onp b e via k v u) (hw : via u = some w) : wm m (snd b e via k v a x) w = wm m x w - a := by
  have h := pth_on ht hv hk hu hw
  unfold wm snd
  rw [h]
  unfold sg
  by_cases q : w % 2 = 0
  · rw [if_pos q, if_pos q, if_pos q]; omega
  · rw [if_neg q, if_neg q, if_neg q]; omega
section
variable {n K : Nat} {b e : Nat → Nat} {op : Nat → Bool} {mm lo ex : Nat → Int} {vn : Nat → Option (Option Nat)} {lev : Nat → Nat} {car : Nat → Int} {q : Nat → Nat} {m : Nat}
theorem bfI_via (h : bfI n K b e op mm lo ex vn lev car q m) {v w : Nat} (hv : v < n) (hw : bvi vn v = some w) : (w < 2 * K ∧ we b e w = v ∧ wb b e w < n) ∧ vn (wb b e w) ≠ none ∧ lev v = lev (wb b e w) + 1 ∧ (op (w / 2) = true ∧ 0 < wm mm lo w) ∧ car v = mn2 (car (wb b e w)) (wm mm lo w) := by
  have := h.2.2.2.2.1 v hv
  unfold bfN at this
  rw [bvi_s hw] at this
  exact this
theorem bfI_src (h : bfI n K b e op mm lo ex vn lev car q m) {v : Nat} (hv : v < n) (hs : vn v ≠ none) (hw : bvi vn v = none) : 0 < ex v ∧ lev v = 0 ∧ car v = ex v := by
  have := h.2.2.2.2.1 v hv
  unfold bfN at this
  cases hq : vn v with
  | none => exact absurd hq hs
  | some o =>
    cases o with
    | none => rw [hq] at this; exact this
    | some w => unfold bvi at hw; rw [hq] at hw; cases hw
theorem bfI_car (h : bfI n K b e op mm lo ex vn lev car q m) : ∀ v w, v < n → bvi vn v = some w → car v ≤ car (wb b e w) ∧ car v ≤ wm mm lo w := by
  intro v w hv hw
  obtain ⟨-, -, -, -, h5⟩ := bfI_via h hv hw
  rw [h5]
  exact ⟨mn2_le.1, mn2_le.2.1⟩
theorem bfI_on (h : bfI n K b e op mm lo ex vn lev car q m) {k v u : Nat} (hv : v < n) (hs : vn v ≠ none) (hu : onp b e (bvi vn) k v u) : u < n ∧ vn u ≠ none := onp_ind (P := fun u => u < n ∧ vn u ≠ none) (fun u w hu hw => by
  obtain ⟨⟨_, _, a3⟩, a4, _⟩ := bfI_via h hu.1 hw
  exact ⟨a3, a4⟩) ⟨hv, hs⟩ hu
/-- the root: too much there -/
theorem bfI_rot (h : bfI n K b e op mm lo ex vn lev car q m) {k v : Nat} (hv : v < n) (hs : vn v ≠ none) (hk : lev v ≤ k) : rot b e (bvi vn) k v < n ∧ 0 < ex (rot b e (bvi vn) k v) ∧ car (rot b e (bvi vn) k v) = ex (rot b e (bvi vn) k v) ∧ car v ≤ car (rot b e (bvi vn) k v) := by
  have ht := bfI_tre h
  obtain ⟨r1, r2⟩ := rot_n2 ht k v hv hk
  have r3 := (bfI_on h hv hs (rot_on ht k v hv hk)).2
  obtain ⟨s1, s2, s3⟩ := bfI_src h r2 r3 r1
  exact ⟨r2, s1, s3, rot_car ht (fun v w hv hw => (bfI_car h v w hv hw).1) k v hv hk⟩
theorem bfI_bot (h : bfI n K b e op mm lo ex vn lev car q m) : ∀ k v, v < n → vn v ≠ none → lev v ≤ k → car v = car (rot b e (bvi vn) k v) ∨ ∃ u w, onp b e (bvi vn) k v u ∧ bvi vn u = some w ∧ wm mm lo w = car v
  | k, v, hv, hs, hk => by
    cases hq : bvi vn v with
    | none => rw [rot_n hq]; exact Or.inl rfl
    | some w =>
      obtain ⟨⟨a1, a2, a3⟩, a4, a5, a6, a7⟩ := bfI_via h hv hq
      cases k with
      | zero => omega
      | succ k =>
        rw [rot_s hq]
        rcases (mn2_le (a := car (wb b e w)) (b := wm mm lo w)).2.2 with y | y
        · rw [y] at a7
          rw [a7]
          rcases bfI_bot h k _ a3 a4 (by omega) with z | ⟨u, w', z1, z2, z3⟩
          · exact Or.inl z
          · exact Or.inr ⟨u, w', Or.inr ⟨w, hq, z1⟩, z2, z3⟩
        · rw [y] at a7
          exact Or.inr ⟨v, w, Or.inl rfl, hq, a7.symm⟩
theorem ek_le {d : Nat → Nat} {D : Nat} (h : bfI n K b e op mm lo ex vn lev car q m) (hk : ekI n K b e op mm lo ex d D) : ∀ k v, v < n → vn v ≠ none → lev v ≤ k → d v ≤ lev v
  | k, v, hv, hs, hl => by
    cases hq : bvi vn v with
    | none =>
      obtain ⟨s1, s2, s3⟩ := bfI_src h hv hs hq
      rw [hk.2.1 v hv s1]; omega
    | some w =>
      obtain ⟨⟨a1, a2, a3⟩, a4, a5, a6, a7⟩ := bfI_via h hv hq
      cases k with
      | zero => omega
      | succ k =>
        have h1 := ek_le h hk k _ a3 a4 (by omega)
        have h2 := hk.1 w a1 a6.1 a6.2
        rw [a2] at h2
        omega
/-- levels as the search saw them -/
def ekD (vn : Nat → Option (Option Nat)) (lev : Nat → Nat) (L : Nat) (v : Nat) : Nat := if vn v ≠ none ∧ lev v ≤ L then lev v else L
theorem ekD_ok {i : Nat} (hb : nd n K b e) (h : bfI n K b e op mm lo ex vn lev car q m) (hx : bfX K b e op mm lo ex vn lev q i) (hS : bfS n ex vn) (hi : i < m) : ekI n K b e op mm lo ex (ekD vn lev (lev (q i))) (lev (q i)) := by
  have hle : ∀ v, ekD vn lev (lev (q i)) v ≤ lev (q i) := by
    intro v
    unfold ekD
    by_cases y : vn v ≠ none ∧ lev v ≤ lev (q i)
    · rw [if_pos y]; exact y.2
    · rw [if_neg y]; exact Nat.le_refl _
  have hlt : ∀ v, v < n → ekD vn lev (lev (q i)) v < lev (q i) → vn v ≠ none ∧ ekD vn lev (lev (q i)) v = lev v ∧ ∃ j, j < i ∧ q j = v := by
    intro v hv hl
    by_cases y : vn v ≠ none ∧ lev v ≤ lev (q i)
    · have e1 : ekD vn lev (lev (q i)) v = lev v := if_pos y
      obtain ⟨-, j, hj, ej⟩ := h.2.2.1 v hv y.1
      refine ⟨y.1, e1, j, ?_, ej⟩
      rcases Nat.lt_or_ge j i with z | z
      · exact z
      · have := h.2.2.2.1 i j z hj
        rw [ej] at this
        omega
    · have e1 : ekD vn lev (lev (q i)) v = lev (q i) := if_neg y
      omega
  refine ⟨fun w hw ho hm => ?_, fun v hv hp => ?_, fun v hv hp => ?_⟩
  · obtain ⟨b1, b2⟩ : wb b e w < n ∧ we b e w < n := by
      obtain ⟨c1, c2⟩ := hb (w / 2) (by omega)
      unfold wb we
      split
      · exact ⟨c1, c2⟩
      · exact ⟨c2, c1⟩
    have h1 := hle (we b e w)
    rcases Nat.lt_or_ge (ekD vn lev (lev (q i)) (wb b e w)) (lev (q i)) with y | y
    · obtain ⟨z1, z2, j, hj, ej⟩ := hlt _ b1 y
      obtain ⟨g1, g2⟩ := (hx j hj).2 w hw ho hm ej.symm
      rw [ej] at g2
      rw [z2]
      unfold ekD
      by_cases y2 : lev (we b e w) ≤ lev (q i)
      · rw [if_pos ⟨g1, y2⟩]; exact g2
      · rw [if_neg (fun z => y2 z.2)]; omega
    · omega
  · have e1 := hS v hv hp
    have e2 := (bfI_src h hv (by rw [e1]; simp) (by unfold bvi; rw [e1])).2.1
    unfold ekD
    rw [if_pos ⟨by rw [e1]; simp, by omega⟩]
    exact e2
  · rcases Nat.lt_or_ge (ekD vn lev (lev (q i)) v) (lev (q i)) with y | y
    · obtain ⟨z1, z2, j, hj, ej⟩ := hlt _ hv y
      have := (hx j hj).1
      rw [ej] at this
      omega
    · exact y
/-- sending as much as goes: a level's way is full, or a node has what it wants -/
theorem ek_send {d : Nat → Nat} {v : Nat} (h : bfI n K b e op mm lo ex vn lev car q m) (hv : v < n) (hs : vn v ≠ none) (hne : ex v < 0) (hln : lev v ≤ n) (hk : ekI n K b e op mm lo ex d (lev v)) {a : Int} (ha : a = mn2 (car v) (-ex v)) {ex' : Nat → Int} (hex : ∀ j, ex' j = ex j + (if v = j then a else 0) - (if rot b e (bvi vn) n v = j then a else 0)) : ekI n K b e op mm (snd b e (bvi vn) n v a lo) ex' d (lev v) ∧ ekC n K b e op mm (snd b e (bvi vn) n v a lo) ex' d + 1 ≤ ekC n K b e op mm lo ex d := by
  have ht := bfI_tre h
  obtain ⟨r1, r2, r3, r4⟩ := bfI_rot h hv hs hln
  generalize hr : rot b e (bvi vn) n v = r at *
  have hrv : r ≠ v := fun z => by rw [z] at r2; omega
  have hcar := (h.2.2.1 v hv hs).1
  have ha0 : 0 < a := by
    rcases (mn2_le (a := car v) (b := -ex v)).2.2 with y | y
    · rw [ha, y]; exact hcar
    · rw [ha, y]; omega
  have ha1 : a ≤ car v := by rw [ha]; exact mn2_le.1
  have ha2 : a ≤ -ex v := by rw [ha]; exact mn2_le.2.1
  have hexv : ex' v = ex v + a := by rw [hex, if_pos rfl, if_neg hrv]; omega
  have hexr : ex' r = ex r - a := by rw [hex, if_neg (Ne.symm hrv), if_pos rfl]; omega
  have hexo : ∀ j, j ≠ v → j ≠ r → ex' j = ex j := fun j h1 h2 => by rw [hex, if_neg (Ne.symm h1), if_neg (Ne.symm h2)]; omega
  have hlev : ∀ u, onp b e (bvi vn) n v u → u < n ∧ vn u ≠ none ∧ d u = lev u := by
    intro u hu
    refine onp_ind (P := fun u => u < n ∧ vn u ≠ none ∧ d u = lev u) ?_ ?_ hu
    · rintro u w ⟨p1, p2, p3⟩ hw
      obtain ⟨⟨a1, a2, a3⟩, a4, a5, a6, a7⟩ := bfI_via h p1 hw
      have h1 := ek_le h hk (lev (wb b e w)) _ a3 a4 (Nat.le_refl _)
      have h2 := hk.1 w a1 a6.1 a6.2
      rw [a2] at h2
      exact ⟨a3, a4, by omega⟩
    · have h1 := ek_le h hk (lev v) v hv hs (Nat.le_refl _)
      have h2 := hk.2.2 v hv hne
      exact ⟨hv, hs, by omega⟩
  have hup : ∀ u w, onp b e (bvi vn) n v u → bvi vn u = some w → d (we b e w) = d (wb b e w) + 1 := by
    intro u w hu hw
    obtain ⟨p1, p2, p3⟩ := hlev u hu
    obtain ⟨⟨a1, a2, a3⟩, a4, a5, a6, a7⟩ := bfI_via h p1 hw
    have h1 := ek_le h hk (lev (wb b e w)) _ a3 a4 (Nat.le_refl _)
    have h2 := hk.1 w a1 a6.1 a6.2
    rw [a2] at h2 ⊢
    omega
  have hroom : ∀ w, wm mm (snd b e (bvi vn) n v a lo) w ≤ wm mm lo w ∨ d (we b e w) + 1 = d (wb b e w) := by
    intro w
    rcases snd_room2 ht (m := mm) (x := lo) (w := w) hv hln (Int.le_of_lt ha0) with y | ⟨u, w', y1, y2, y3, y4⟩
    · exact Or.inl y
    · obtain ⟨o1, o2⟩ := we_ot (b := b) (e := e) y3 y4
      have := hup u w' y1 y2
      rw [o1, o2] at this
      exact Or.inr this.symm
  have hpos : ∀ j, j < n → 0 < ex' j → 0 < ex j := by
    intro j hj hp
    by_cases e1 : j = v
    · rw [e1, hexv] at hp; omega
    · by_cases e2 : j = r
      · rw [e2]; exact r2
      · rw [hexo j e1 e2] at hp; exact hp
  have hneg : ∀ j, j < n → ex' j < 0 → ex j < 0 := by
    intro j hj hp
    by_cases e1 : j = v
    · rw [e1]; exact hne
    · by_cases e2 : j = r
      · rw [e2, hexr] at hp; omega
      · rw [hexo j e1 e2] at hp; exact hp
  refine ⟨⟨fun w hw ho hm => ?_, fun j hj hp => hk.2.1 j hj (hpos j hj hp), fun j hj hp => hk.2.2 j hj (hneg j hj hp)⟩, ?_⟩
  · rcases hroom w with y | y
    · exact hk.1 w hw ho (by omega)
    · omega
  · have m1 : ∀ w, w < 2 * K → ekL b e op mm (snd b e (bvi vn) n v a lo) d w = true → ekL b e op mm lo d w = true := by
      intro w hw hl
      unfold ekL at hl ⊢
      simp only [Bool.and_eq_true, decide_eq_true_eq] at hl ⊢
      obtain ⟨l1, l2, l3⟩ := hl
      rcases hroom w with y | y
      · exact ⟨l1, by omega, l3⟩
      · omega
    have m2 : ∀ j, j < n → (!decide (ex' j = 0)) = true → (!decide (ex j = 0)) = true := by
      intro j hj hl
      simp only [Bool.not_eq_true', decide_eq_false_iff_not] at hl ⊢
      intro z
      by_cases e1 : j = v
      · rw [e1] at z; omega
      · by_cases e2 : j = r
        · rw [e2] at z; omega
        · rw [hexo j e1 e2] at hl; exact hl z
    have n1 := cN_mono m1
    have n2 := cN_mono m2
    unfold ekC
    have hz : ∀ j, j < n → ex' j = 0 → ex j ≠ 0 → cN (fun v => !decide (ex' v = 0)) n + 1 ≤ cN (fun v => !decide (ex v = 0)) n := fun j hj z1 z2 => cN_lt m2 hj (by simp [z1]) (by simp [z2])
    rcases (mn2_le (a := car v) (b := -ex v)).2.2 with y | y
    · rcases bfI_bot h n v hv hs hln with z | ⟨u, w, z1, z2, z3⟩
      · rw [hr] at z
        have := hz r r1 (by rw [hexr, ha, y, z, r3]; omega) (by omega)
        omega
      · obtain ⟨p1, p2, p3⟩ := hlev u z1
        obtain ⟨⟨a1, a2, a3⟩, a4, a5, a6, a7⟩ := bfI_via h p1 z2
        have h0 : wm mm (snd b e (bvi vn) n v a lo) w = 0 := by rw [snd_room3 ht hv hln z1 z2, z3, ha, y]; omega
        have := cN_lt (k := w) m1 a1 (by unfold ekL; rw [h0]; simp) (by unfold ekL; simp only [Bool.and_eq_true, decide_eq_true_eq]; exact ⟨a6.1, a6.2, hup u w z1 z2⟩)
        omega
    · have := hz v hv (by rw [hexv, ha, y]; omega) (by omega)
      omega
end
def ekM (n K : Nat) (b e : Nat → Nat) (op : Nat → Bool) (mm lo ex : Nat → Int) (d : Nat → Nat) (D : Nat) : Nat := (24 - D) * 700 + ekC n K b e op mm lo ex d
theorem ekC_le {n K : Nat} {b e : Nat → Nat} {op : Nat → Bool} {mm lo ex : Nat → Int} {d : Nat → Nat} (hn : n ≤ 24) (hK : K ≤ 320) : ekC n K b e op mm lo ex d ≤ 664 := by
  have h1 := cN_le (P := ekL b e op mm lo d) (n := 2 * K)
  have h2 := cN_le (P := fun v => !decide (ex v = 0)) (n := n)
  unfold ekC
  omega
theorem ek_step {n K : Nat} {b e : Nat → Nat} {op : Nat → Bool} {mm lo ex : Nat → Int} {vn : Nat → Option (Option Nat)} {lev : Nat → Nat} {car : Nat → Int} {q : Nat → Nat} {m i D : Nat} {d : Nat → Nat} (hn : n ≤ 24) (hK : K ≤ 320) (hb : nd n K b e) (h : bfI n K b e op mm lo ex vn lev car q m) (hx : bfX K b e op mm lo ex vn lev q i) (hS : bfS n ex vn) (hi : i < m) (hne : ex (q i) < 0) (hk : ekI n K b e op mm lo ex d D) {a : Int} (ha : a = mn2 (car (q i)) (-ex (q i))) {ex' : Nat → Int} (hex : ∀ j, ex' j = ex j + (if q i = j then a else 0) - (if rot b e (bvi vn) n (q i) = j then a else 0)) : ∃ d' D', ekI n K b e op mm (snd b e (bvi vn) n (q i) a lo) ex' d' D' ∧ ekM n K b e op mm (snd b e (bvi vn) n (q i) a lo) ex' d' D' < ekM n K b e op mm lo ex d D := by
  obtain ⟨q1, q2, q3⟩ := h.2.1 i hi
  have hm : m ≤ n := by rw [h.1]; exact cN_le
  have h1 := ek_le h hk (lev (q i)) (q i) q1 q2 (Nat.le_refl _)
  have h2 := hk.2.2 (q i) q1 hne
  by_cases hD : D = lev (q i)
  · subst hD
    obtain ⟨g1, g2⟩ := ek_send h q1 q2 hne (by omega) hk ha hex
    exact ⟨d, _, g1, by unfold ekM; omega⟩
  · obtain ⟨g1, g2⟩ := ek_send h q1 q2 hne (by omega) (ekD_ok hb h hx hS hi) ha hex
    refine ⟨_, _, g1, ?_⟩
    have := ekC_le (n := n) (K := K) (b := b) (e := e) (op := op) (mm := mm) (lo := snd b e (bvi vn) n (q i) a lo) (ex := ex') (d := ekD vn lev (lev (q i))) hn hK
    unfold ekM
    have : (24 - lev (q i)) * 700 + 700 ≤ (24 - D) * 700 := by omega
    omega
