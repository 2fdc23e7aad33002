/-! ===== a search that is at rest: THE SET; what a flow says of it ===== -/
theorem wy_e {b e : Nat → Nat} {l : Nat} : wb b e (2 * l) = b l ∧ we b e (2 * l) = e l := by
  unfold wb we
  rw [if_pos (by omega), if_pos (by omega), show 2 * l / 2 = l by omega]
  exact ⟨rfl, rfl⟩
theorem wy_o {b e : Nat → Nat} {l : Nat} : wb b e (2 * l + 1) = e l ∧ we b e (2 * l + 1) = b l := by
  unfold wb we
  rw [if_neg (by omega), if_neg (by omega), show (2 * l + 1) / 2 = l by omega]
  exact ⟨rfl, rfl⟩
theorem wm_e {m x : Nat → Int} {l : Nat} : wm m x (2 * l) = m l - x l := by
  unfold wm
  rw [if_pos (by omega), show 2 * l / 2 = l by omega]
theorem wm_o {m x : Nat → Int} {l : Nat} : wm m x (2 * l + 1) = x l := by
  unfold wm
  rw [if_neg (by omega), show (2 * l + 1) / 2 = l by omega]
theorem wr_e {c : Nat → Int} {l : Nat} : wr c (2 * l) = c l := by
  unfold wr
  rw [if_pos (by omega), show 2 * l / 2 = l by omega]
theorem wr_o {c : Nat → Int} {l : Nat} : wr c (2 * l + 1) = -c l := by
  unfold wr
  rw [if_neg (by omega), show (2 * l + 1) / 2 = l by omega]
theorem wr_0 {w : Nat} : wr (fun _ => 0) w = 0 := by
  unfold wr; split <;> rfl
/-- a lane without end is as wide as that -/
theorem AN.w_ln {A : AN} (h : A.ok) {B : Int} {l : Nat} (hl : l < A.K) (hn : A.ln l = true) : B - 1000000 ≤ A.w B l := by
  obtain ⟨ha, k, hk, e1, e2⟩ := A.l_in hl
  unfold AN.ln at hn
  simp only [Bool.and_eq_true, decide_eq_true_eq] at hn
  have e3 : cn_fs A.pt (A.ar l + 1) = cn_fs A.pt (A.ar l) + A.pt (A.ar l) := rfl
  have e4 : l - cn_fs A.pt (A.ar l) = k := by omega
  unfold AN.w AN.ed
  rw [e4, e2, if_neg (by omega), if_pos hn.1]
  have := ((h.2.1 _ ha).2.2.2.1 k hk).1
  omega
theorem AN.dFw {A : AN} (hA : A.ok) {c : Nat → Int} {on : Nat → Bool} (hc : ∀ l, l < A.K → -1000000 ≤ c l ∧ c l ≤ 1000000) : dF A.n (2 * A.K) (wb A.b A.e) (we A.b A.e) (wr c) on := by
  intro w hw _
  have h1 := AN.nd hA (w / 2) (by omega)
  have h2 := hc (w / 2) (by omega)
  unfold wb we wr
  by_cases y : w % 2 = 0
  · rw [if_pos y, if_pos y, if_pos y]; exact ⟨h1, h2⟩
  · rw [if_neg y, if_neg y, if_neg y]; exact ⟨⟨h1.2, h1.1⟩, by omega, by omega⟩
/-- a search along what has room, at rest: nothing leads out of what it saw -/
theorem rest_cut {n K : Nat} {b e : Nat → Nat} {c mm lo V0 V : Nat → Int} (hn : n ≤ 24) (hf : dF n (2 * K) (wb b e) (we b e) (wr c) (fun _ => true)) (h0 : d0 n V0) (h : dI n (2 * K) (wb b e) (we b e) (wr c) (onW mm lo) V0 V) (hr : dR (2 * K) (wb b e) (we b e) (wr c) (onW mm lo) V) : ∀ w, w < 2 * K → V (wb b e w) ≠ fAR → V (we b e w) = fAR → wm mm lo w ≤ 0 := by
  intro w hw h1 h2
  have hfo : dF n (2 * K) (wb b e) (we b e) (wr c) (onW mm lo) := fun j hj _ => hf j hj rfl
  rcases Int.lt_or_le 0 (wm mm lo w) with y | y
  · have r := hr w hw (onW_t.mpr y) h1
    have hF : fAR = 1152921504606846976 := rfl
    obtain ⟨⟨f1, f2⟩, f3, f4⟩ := hf w hw rfl
    have := dB_up hn hfo h0 h hr _ f1
    omega
  · exact y
theorem AN.ref_stk {A : AN} (hA : A.ok) {B : Int} {lo ex V V0 : Nat → Int} {via : Nat → Option Nat} (hB : 106000000 ≤ B) (hV0 : ∀ v, v < A.n → V0 v = if 0 < ex v then 0 else fAR) (hx : ∀ v, v < A.n → ex v = A.s v - dv A.K A.b A.e lo v) (hl : fits A.K (A.w B) lo) (hb : ∀ l, l < A.K → lo l ≤ 104000000) (h : wI A.n A.K A.b A.e (fun _ => 0) (onW (A.w B) lo) V0 V via) (hr : dR (2 * A.K) (wb A.b A.e) (we A.b A.e) (wr (fun _ => 0)) (onW (A.w B) lo) V) (hend : ∀ v, v < A.n → ex v < 0 → V v = fAR) : stk A.n A.K A.b A.e A.ln (A.w B) A.s lo (fun v => decide (V v ≠ fAR)) := by
  have hF : fAR = 1152921504606846976 := rfl
  have hf := AN.dFw hA (c := fun _ => 0) (on := fun _ => true) (fun l _ => ⟨by decide, by decide⟩)
  have h0 : d0 A.n V0 := fun v hv => by rw [hV0 v hv]; split <;> simp
  have cut := rest_cut hA.1.1 hf h0 h.1 hr
  refine ⟨fun l hl2 h1 h2 => ?_, fun l hl2 h1 h2 => ?_, fun v hv h1 => ?_, fun v hv h1 => ?_, fun T t1 t2 t3 v hv h1 => ?_⟩
  · simp only [decide_eq_true_eq, decide_eq_false_iff_not, Classical.not_not] at h1 h2
    have q := cut (2 * l) (by omega) (by rw [wy_e.1]; exact h1) (by rw [wy_e.2]; exact h2)
    rw [wm_e] at q
    have := hl l hl2
    have hw : lo l = A.w B l := by omega
    refine ⟨hw, ?_⟩
    cases hq : A.ln l with
    | false => rfl
    | true =>
      have := AN.w_ln hA (B := B) hl2 hq
      have := hb l hl2
      omega
  · simp only [decide_eq_true_eq, decide_eq_false_iff_not, Classical.not_not] at h1 h2
    have q := cut (2 * l + 1) (by omega) (by rw [wy_o.1]; exact h2) (by rw [wy_o.2]; exact h1)
    rw [wm_o] at q
    have := hl l hl2
    omega
  · rw [← hx v hv] at h1
    have h2 := h.1.1 v hv
    rw [hV0 v hv, if_pos h1] at h2
    simp only [decide_eq_true_eq]
    omega
  · rw [← hx v hv] at h1
    simp only [decide_eq_false_iff_not, Classical.not_not]
    exact hend v hv h1
  · simp only [decide_eq_true_eq] at h1
    refine (h.1.2 (fun v => T v = true) (fun _ => 0) (fun w hw ho ht => ⟨?_, by show (0 : Int) ≤ 0 + _; rw [wr_0]; decide⟩) (fun v hv hq => ?_) v hv h1).1
    · have hm := onW_t.mp ho
      cases hq : T (we A.b A.e w) with
      | true => rfl
      | false =>
        exfalso
        by_cases y : w % 2 = 0
        · have e1 : w = 2 * (w / 2) := by omega
          rw [e1] at ht hq hm
          rw [wy_e.1] at ht
          rw [wy_e.2] at hq
          rw [wm_e] at hm
          have := t1 (w / 2) (by omega) ht hq
          omega
        · have e1 : w = 2 * (w / 2) + 1 := by omega
          rw [e1] at ht hq hm
          rw [wy_o.1] at ht
          rw [wy_o.2] at hq
          rw [wm_o] at hm
          have := t2 (w / 2) (by omega) hq ht
          omega
    · have q : 0 < ex v := by
        rcases Int.lt_or_le 0 (ex v) with y | y
        · exact y
        · rw [hV0 v hv, if_neg (by omega)] at hq; exact absurd rfl hq
      refine ⟨t3 v hv (by rw [← hx v hv]; exact q), ?_⟩
      rw [hV0 v hv, if_pos q]; exact Int.le_refl _
/-- where there is a flow at all, a cut that nothing leaves leaves nothing over -/
theorem cut_bal {n K : Nat} {b e : Nat → Nat} {s x y : Nat → Int} {S : Nat → Bool} (hb : nd n K b e) (hs : sI s n = 0) (hy : bal n K b e s y) (hle : ∀ l, l < K → y l * (ind S (b l) - ind S (e l)) ≤ x l * (ind S (b l) - ind S (e l))) (h3 : ∀ v, v < n → 0 < s v - dv K b e x v → S v = true) (h4 : ∀ v, v < n → s v - dv K b e x v < 0 → S v = false) : bal n K b e s x := by
  have q := sI_le hle
  have c1 := cut_sum (s := s) (x := x) hb S
  have c2 := cut_sum (s := s) (x := y) hb S
  have z2 : sI (fun v => ind S v * (s v - dv K b e y v)) n = 0 := sI_0 (fun v hv => by rw [hy v hv, Int.sub_self, Int.mul_zero])
  have nn : ∀ v, v < n → 0 ≤ ind S v * (s v - dv K b e x v) := fun v hv => by
    cases hq : S v with
    | true =>
      rw [ind_t hq, Int.one_mul]
      rcases Int.lt_or_le (s v - dv K b e x v) 0 with y | y
      · rw [h4 v hv y] at hq; cases hq
      · exact y
    | false => rw [ind_f hq, Int.zero_mul]; exact Int.le_refl _
  have z1 : ∀ v, v < n → ind S v * (s v - dv K b e x v) = 0 := fun v hv => by
    have t1 := sI_term (f := fun v => ind S v * (s v - dv K b e x v)) (n := n) (fun i hi => nn i hi) hv
    have t2 := nn v hv
    have t3 : ind S v * (s v - dv K b e x v) ≤ sI (fun v => ind S v * (s v - dv K b e x v)) n := t1
    omega
  have le0 : ∀ v, v < n → s v - dv K b e x v ≤ 0 := fun v hv => by
    rcases Int.lt_or_le 0 (s v - dv K b e x v) with y | y
    · have := z1 v hv
      rw [ind_t (h3 v hv y), Int.one_mul] at this
      omega
    · exact y
  have tot : sI (fun v => s v - dv K b e x v) n = 0 := by
    rw [sI_sub, hs, dv_tot hb]; rfl
  have al := sI_eq (f := fun v => s v - dv K b e x v) (g := fun _ => 0) (n := n) le0 (by rw [tot, sI_0 (fun _ _ => rfl)]; exact Int.le_refl _)
  intro v hv
  have : s v - dv K b e x v = 0 := al v hv
  omega
theorem stk_bal {n K : Nat} {b e : Nat → Nat} {en : Nat → Bool} {w w' s x y : Nat → Int} {S : Nat → Bool} (hb : nd n K b e) (hs : sI s n = 0) (hw : ∀ l, l < K → en l = false → w l = w' l) (fy : fits K w' y) (hy : bal n K b e s y) (hS : stk n K b e en w s x S) : bal n K b e s x := cut_bal hb hs hy (stk_lane hw hS.1 hS.2.1 fy) hS.2.2.1 hS.2.2.2.1
/-- what nodes have to send is as much as what they are to get -/
theorem AN.s_sum {A : AN} (hA : A.ok) : sI A.s A.n = sI A.su A.n := by
  have : sI A.s A.n = sI A.su A.n - sI (fun v => dv A.M A.fr A.tr (fun a => A.st (4 * a)) v) A.n := by
    rw [← sI_sub]; rfl
  rw [this, dv_tot (fun a ha => ⟨(hA.2.1 a ha).1.1, (hA.2.1 a ha).1.2.1⟩)]
  omega
/-- the last search along costs, where there is a flow: all is served -/
theorem AN.ref_bal {A : AN} (hA : A.ok) {B : Int} {c lo ex V V0 y : Nat → Int} (hc : ∀ l, l < A.K → -1000000 ≤ c l ∧ c l ≤ 1000000) (hV0 : ∀ v, v < A.n → V0 v = if 0 < ex v then 0 else fAR) (hx : ∀ v, v < A.n → ex v = A.s v - dv A.K A.b A.e lo v) (hl : fits A.K (A.w B) lo) (h : dI A.n (2 * A.K) (wb A.b A.e) (we A.b A.e) (wr c) (onW (A.w B) lo) V0 V) (hr : dR (2 * A.K) (wb A.b A.e) (we A.b A.e) (wr c) (onW (A.w B) lo) V) (hend : ∀ v, v < A.n → ex v < 0 → V v = fAR) (hs : sI A.su A.n = 0) (fy : fits A.K (A.w B) y) (hy : bal A.n A.K A.b A.e A.s y) : bal A.n A.K A.b A.e A.s lo := by
  have hF : fAR = 1152921504606846976 := rfl
  have hf := AN.dFw hA (c := c) (on := fun _ => true) hc
  have h0 : d0 A.n V0 := fun v hv => by rw [hV0 v hv]; split <;> simp
  have cut := rest_cut hA.1.1 hf h0 h hr
  refine cut_bal (S := fun v => decide (V v ≠ fAR)) (AN.nd hA) (by rw [AN.s_sum hA]; exact hs) hy (fun l hl2 => ?_) (fun v hv h1 => ?_) (fun v hv h1 => ?_)
  · have q1 := hl l hl2
    have q2 := fy l hl2
    by_cases eb : V (A.b l) = fAR
    · have e1 : ind (fun v => decide (V v ≠ fAR)) (A.b l) = 0 := ind_f (by simp [eb])
      by_cases ee : V (A.e l) = fAR
      · have e2 : ind (fun v => decide (V v ≠ fAR)) (A.e l) = 0 := ind_f (by simp [ee])
        rw [e1, e2]; simp
      · have e2 : ind (fun v => decide (V v ≠ fAR)) (A.e l) = 1 := ind_t (by simp [ee])
        have := cut (2 * l + 1) (by omega) (by rw [wy_o.1]; exact ee) (by rw [wy_o.2]; exact eb)
        rw [wm_o] at this
        rw [e1, e2]; omega
    · have e1 : ind (fun v => decide (V v ≠ fAR)) (A.b l) = 1 := ind_t (by simp [eb])
      by_cases ee : V (A.e l) = fAR
      · have e2 : ind (fun v => decide (V v ≠ fAR)) (A.e l) = 0 := ind_f (by simp [ee])
        have := cut (2 * l) (by omega) (by rw [wy_e.1]; exact eb) (by rw [wy_e.2]; exact ee)
        rw [wm_e] at this
        rw [e1, e2]; omega
      · have e2 : ind (fun v => decide (V v ≠ fAR)) (A.e l) = 1 := ind_t (by simp [ee])
        rw [e1, e2]; simp
  · rw [← hx v hv] at h1
    have h2 := h.1 v hv
    rw [hV0 v hv, if_pos h1] at h2
    simp only [decide_eq_true_eq]
    omega
  · rw [← hx v hv] at h1
    simp only [decide_eq_false_iff_not, Classical.not_not]
    exact hend v hv h1
