/-! ===== a flow of least cost with least amounts is small; the two flows are one ===== -/
theorem AN.w_nl {A : AN} {B B' : Int} {l : Nat} (hl : l < A.K) (hn : A.ln l = false) : A.w B l = A.w B' l := by
  obtain ⟨ha, k, hk, e1, e2⟩ := A.l_in hl
  have e3 : cn_fs A.pt (A.ar l + 1) = cn_fs A.pt (A.ar l) + A.pt (A.ar l) := rfl
  have e4 : l - cn_fs A.pt (A.ar l) = k := by omega
  unfold AN.w AN.ed
  rw [e4]
  by_cases y : k + 1 < A.pt (A.ar l)
  · rw [if_pos y, if_pos y]
  · rw [if_neg y, if_neg y]
    have : A.en (A.ar l) = false := by
      cases hq : A.en (A.ar l) with
      | false => rfl
      | true =>
        unfold AN.ln at hn
        rw [hq, Bool.true_and, decide_eq_false_iff_not] at hn
        omega
    rw [this]; rfl
theorem AN.c_ln {A : AN} {l : Nat} (hl : l < A.K) (hn : A.ln l = true) : A.en (A.ar l) = true ∧ A.c l = A.lr (A.ar l) := by
  obtain ⟨ha, k, hk, e1, e2⟩ := A.l_in hl
  unfold AN.ln at hn
  simp only [Bool.and_eq_true, decide_eq_true_eq] at hn
  have e3 : cn_fs A.pt (A.ar l + 1) = cn_fs A.pt (A.ar l) + A.pt (A.ar l) := rfl
  refine ⟨hn.1, ?_⟩
  unfold AN.c AN.lr
  rw [e2, show A.pt (A.ar l) - 1 = k by omega]
theorem AN.lex_small {A : AN} (hA : A.ok) {B : Int} (hB : 1000000 ≤ B) {U p h : Nat → Int} (hU : A.nor U) (ho : A.opt (A.w B) p h) (hx : A.lex (A.w B) p h A.M) : ∀ l, l < A.K → A.ln l = true → h l ≤ 424000000 := by
  intro l0 hl0 hn0
  obtain ⟨hfit, hbal, hpf⟩ := ho
  have hF : fAR = 1152921504606846976 := rfl
  have hnd := AN.nd hA
  rcases Int.lt_or_le 424000000 (h l0) with big | y
  case inr => exact y
  exfalso
  let on : Nat → Bool := fun w => decide (w % 2 = 0) && (A.ln (w / 2) && decide (1000000 < h (w / 2)))
  have hon : ∀ w, on w = true ↔ w % 2 = 0 ∧ A.ln (w / 2) = true ∧ 1000000 < h (w / 2) := fun w => by
    show (decide (w % 2 = 0) && (A.ln (w / 2) && decide (1000000 < h (w / 2)))) = true ↔ _
    simp only [Bool.and_eq_true, decide_eq_true_eq]
  have hf := AN.dFw hA (c := fun _ => 0) (on := on) (fun l _ => ⟨by decide, by decide⟩)
  have h0 : d0 A.n (fun v => if v = A.e l0 then 0 else fAR) := fun v _ => by
    show (if v = A.e l0 then 0 else fAR) = fAR ∨ (if v = A.e l0 then 0 else fAR) = 0
    split <;> simp
  obtain ⟨V, via, hw, hr⟩ := wI_ex (U := fun _ => 0) hA.1.1 hf (fun w _ _ => by show (0 : Int) ≤ 0 + _; rw [wr_0]; decide) h0
  have hl0n := hnd l0 hl0
  have up := dB_up hA.1.1 hf h0 hw.1 hr
  have hle := dI_fr h0 hw.1
  by_cases hb : V (A.b l0) = fAR
  · -- a cut
    have ve : V (A.e l0) ≠ fAR := by
      have g1 := hw.1.1 (A.e l0) hl0n.2
      have g2 : (fun v => if v = A.e l0 then 0 else fAR) (A.e l0) = 0 := if_pos rfl
      rw [g2] at g1
      omega
    have c1 := cut_sum (s := A.s) (x := h) hnd (fun v => decide (V v ≠ fAR))
    rw [sI_0 (fun v hv => by rw [hbal v hv, Int.sub_self, Int.mul_zero])] at c1
    have ub : sI (fun l => h l * (ind (fun v => decide (V v ≠ fAR)) (A.b l) - ind (fun v => decide (V v ≠ fAR)) (A.e l))) A.K ≤ sI (fun l => 1000000 + (if l = l0 then -h l0 else 0)) A.K := sI_le (fun l hl => by
      show h l * (ind (fun v => decide (V v ≠ fAR)) (A.b l) - ind (fun v => decide (V v ≠ fAR)) (A.e l)) ≤ 1000000 + (if l = l0 then -h l0 else 0)
      have q1 := hfit l hl
      by_cases z : l = l0
      · subst z
        have e1 : ind (fun v => decide (V v ≠ fAR)) (A.b l) = 0 := ind_f (by simp [hb])
        have e2 : ind (fun v => decide (V v ≠ fAR)) (A.e l) = 1 := ind_t (by simp [ve])
        rw [e1, e2, if_pos rfl]; omega
      · rw [if_neg z]
        by_cases eb : V (A.b l) = fAR
        · have e1 : ind (fun v => decide (V v ≠ fAR)) (A.b l) = 0 := ind_f (by simp [eb])
          by_cases ee : V (A.e l) = fAR
          · have e2 : ind (fun v => decide (V v ≠ fAR)) (A.e l) = 0 := ind_f (by simp [ee])
            rw [e1, e2]; simp
          · have e2 : ind (fun v => decide (V v ≠ fAR)) (A.e l) = 1 := ind_t (by simp [ee])
            rw [e1, e2]; omega
        · have e1 : ind (fun v => decide (V v ≠ fAR)) (A.b l) = 1 := ind_t (by simp [eb])
          by_cases ee : V (A.e l) = fAR
          · have e2 : ind (fun v => decide (V v ≠ fAR)) (A.e l) = 0 := ind_f (by simp [ee])
            rw [e1, e2]
            have hsm : h l ≤ 1000000 := by
              rcases Int.lt_or_le 1000000 (h l) with g | g
              · cases hq : A.ln l with
                | true =>
                  have o1 : on (2 * l) = true := (hon _).mpr ⟨by omega, by rw [show 2 * l / 2 = l by omega]; exact hq, by rw [show 2 * l / 2 = l by omega]; exact g⟩
                  have := hr (2 * l) (by omega) o1 (by rw [wy_e.1]; exact eb)
                  rw [wy_e.1, wy_e.2, wr_0] at this
                  have := up _ (hnd l hl).1
                  omega
                | false =>
                  have := (A.w_bd hA hB hl).2.2 hq
                  omega
              · exact g
            omega
          · have e2 : ind (fun v => decide (V v ≠ fAR)) (A.e l) = 1 := ind_t (by simp [ee])
            rw [e1, e2]; simp)
    rw [sI_add, sI_const, sI_one, if_pos hl0] at ub
    have ss : sI A.s A.n = 0 := by
      rw [← dv_tot (x := h) hnd]; exact sI_cg (fun v hv => (hbal v hv).symm)
    have pp := A.pe_s hA (f := A.s) (fun _ _ => rfl)
    have lo2 : sI (fun v => A.s v - (if 0 ≤ A.s v then A.s v else 0)) A.n ≤ sI (fun v => ind (fun v => decide (V v ≠ fAR)) v * A.s v) A.n := sI_le (fun v hv => by
      show A.s v - (if 0 ≤ A.s v then A.s v else 0) ≤ ind (fun v => decide (V v ≠ fAR)) v * A.s v
      by_cases z : V v = fAR
      · rw [ind_f (by simp [z])]; split <;> omega
      · rw [ind_t (by simp [z])]; split <;> omega)
    rw [sI_sub] at lo2
    have pd : pe A.n A.s = sI (fun v => if 0 ≤ A.s v then A.s v else 0) A.n := rfl
    rw [← pd] at lo2
    have := A.K_le hA
    omega
  · -- a ring
    obtain ⟨rk, ht⟩ := wI_tre hw
    have hrt := wI_rot hw ht (rk (A.b l0)) (A.b l0) hl0n.1 (Nat.le_refl _) hb
    have hroot : rot A.b A.e via (rk (A.b l0)) (A.b l0) = A.e l0 := by
      by_cases z : rot A.b A.e via (rk (A.b l0)) (A.b l0) = A.e l0
      · exact z
      · exact absurd (if_neg z) hrt.2
    have hq : ∀ l, l < A.K → (pth A.b A.e via (rk (A.b l0)) (A.b l0) l = 0 ∨ (pth A.b A.e via (rk (A.b l0)) (A.b l0) l = 1 ∧ A.ln l = true ∧ 1000000 < h l)) := by
      intro l hl
      rcases pth_lane ht (car := fun _ => 0) (fun _ _ _ _ => Int.le_refl _) (l := l) (rk (A.b l0)) (A.b l0) hl0n.1 (Nat.le_refl _) with y | ⟨u, w, y1, y2, y3, y4, -⟩
      · exact Or.inl y
      · right
        have := (hon w).mp (hw.2.1 u w y1 y2).1.2
        rw [y3] at this
        refine ⟨?_, this.2⟩
        rw [y4]; unfold sg; rw [if_pos this.1]
    let q : Nat → Int := fun l => pth A.b A.e via (rk (A.b l0)) (A.b l0) l + (if l = l0 then 1 else 0)
    have q0 : ∀ l, l < A.K → (0 ≤ q l ∧ q l ≤ 2) ∧ (0 < q l → A.ln l = true ∧ 1000000 < h l) := by
      intro l hl
      show (0 ≤ pth A.b A.e via (rk (A.b l0)) (A.b l0) l + (if l = l0 then 1 else 0) ∧ pth A.b A.e via (rk (A.b l0)) (A.b l0) l + (if l = l0 then 1 else 0) ≤ 2) ∧ (0 < pth A.b A.e via (rk (A.b l0)) (A.b l0) l + (if l = l0 then 1 else 0) → _)
      by_cases z : l = l0
      · rw [if_pos z, z]
        refine ⟨?_, fun _ => ⟨hn0, by omega⟩⟩
        rcases hq l0 hl0 with y | ⟨y, -⟩ <;> (rw [y]; decide)
      · rw [if_neg z]
        rcases hq l hl with y | ⟨y, y2⟩
        · rw [y]; exact ⟨by decide, fun g => by omega⟩
        · rw [y]; exact ⟨by decide, fun _ => y2⟩
    have hdq : ∀ v, dv A.K A.b A.e q v = 0 := by
      intro v
      show dv A.K A.b A.e (fun l => pth A.b A.e via (rk (A.b l0)) (A.b l0) l + (if l = l0 then 1 else 0)) v = 0
      rw [dv_add, pth_dv ht _ _ hl0n.1 (Nat.le_refl _), hroot]
      have e1 : dv A.K A.b A.e (fun l => if l = l0 then 1 else 0) v = dv A.K A.b A.e (fun l => if l = (2 * l0) / 2 then sg (2 * l0) else 0) v := dv_cg (fun l _ => by
        show (if l = l0 then (1 : Int) else 0) = if l = (2 * l0) / 2 then sg (2 * l0) else 0
        rw [show 2 * l0 / 2 = l0 by omega]
        unfold sg
        rw [if_pos (show 2 * l0 % 2 = 0 by omega)])
      rw [e1, dv_way (by omega), wy_e.1, wy_e.2]
      omega
    have s1 := rc_sum (c := A.c) (p := p) (x := q) hnd
    have s2 := rc_sum (c := A.c) (p := U) (x := q) hnd
    have z1 : ∀ r : Nat → Int, sI (fun v => r v * dv A.K A.b A.e q v) A.n = 0 := fun r => sI_0 (fun v _ => by rw [hdq, Int.mul_zero])
    rw [z1] at s1 s2
    have nneg : 0 ≤ sI (fun l => rc A.b A.e A.c U l * q l) A.K := sI_ge0 (fun l hl => by
      show 0 ≤ rc A.b A.e A.c U l * q l
      obtain ⟨g1, g2⟩ := q0 l hl
      by_cases z : 0 < q l
      · obtain ⟨g3, g4⟩ := A.c_ln hl (g2 z).1
        have := hU _ (A.l_in hl).1 g3
        refine Int.mul_nonneg ?_ g1.1
        unfold rc
        rw [g4]
        show 0 ≤ _ + U (A.fr (A.ar l)) - U (A.tr (A.ar l))
        omega
      · rw [show q l = 0 by omega, Int.mul_zero]; exact Int.le_refl _)
    have npos : ∀ l, l < A.K → rc A.b A.e A.c p l * q l ≤ 0 := by
      intro l hl
      obtain ⟨g1, g2⟩ := q0 l hl
      by_cases z : 0 < q l
      · have hh := (g2 z).2
        have : rc A.b A.e A.c p l ≤ 0 := by
          rcases Int.lt_or_le 0 (rc A.b A.e A.c p l) with g | g
          · have := (hpf l hl).2 g; omega
          · exact g
        exact Int.mul_nonpos_of_nonpos_of_nonneg this g1.1
      · rw [show q l = 0 by omega, Int.mul_zero]; exact Int.le_refl _
    have zero := sI_eq (f := fun l => rc A.b A.e A.c p l * q l) (g := fun _ => 0) npos (by rw [sI_0 (fun _ _ => rfl), s1, ← s2]; exact nneg)
    have rc0 : ∀ l, l < A.K → 0 < q l → rc A.b A.e A.c p l = 0 := by
      intro l hl z
      have h1 : rc A.b A.e A.c p l * q l = 0 := zero l hl
      rcases Int.mul_eq_zero.mp h1 with g | g
      · exact g
      · omega
    have hy : A.opt (A.w B) p (fun l => h l - q l) := by
      refine ⟨fun l hl => ?_, fun v hv => ?_, fun l hl => ?_⟩
      · obtain ⟨g1, g2⟩ := q0 l hl
        have := hfit l hl
        show 0 ≤ h l - q l ∧ h l - q l ≤ _
        by_cases z : 0 < q l
        · have := (g2 z).2; omega
        · omega
      · have e1 : dv A.K A.b A.e (fun l => h l - q l) v = dv A.K A.b A.e (fun l => h l + (-1) * q l) v := dv_cg (fun l _ => by show h l - q l = h l + (-1) * q l; omega)
        rw [e1, dv_add, dv_mul, hdq, hbal v hv]; omega
      · obtain ⟨g1, g2⟩ := q0 l hl
        show (rc A.b A.e A.c p l < 0 → h l - q l = _) ∧ (0 < rc A.b A.e A.c p l → h l - q l = 0)
        by_cases z : 0 < q l
        · rw [rc0 l hl z]; exact ⟨fun g => absurd g (by decide), fun g => absurd g (by decide)⟩
        · rw [show q l = 0 by omega, Int.sub_zero]; exact hpf l hl
    have le : ∀ a, a < A.M → A.am (fun l => h l - q l) a ≤ A.am h a := fun a ha => A.am_le (fun k hk => by
      have := (q0 _ (A.l_at ha hk).1).1
      show h (cn_fs A.pt a + k) - q (cn_fs A.pt a + k) ≤ h (cn_fs A.pt a + k)
      omega)
    have eqs : ∀ a, a ≤ A.M → ∀ i, i < a → A.am (fun l => h l - q l) i = A.am h i := by
      intro a
      induction a with
      | zero => intro _ i hi; omega
      | succ a ih =>
        intro ha i hi
        have := ih (by omega)
        by_cases z : i < a
        · exact this i z
        · rw [show i = a by omega]
          have g1 := hx a (by omega) _ hy this
          have g2 := le a (by omega)
          omega
    obtain ⟨ha, k, hk, e1, e2⟩ := A.l_in hl0
    have g := eqs A.M (Nat.le_refl _) (A.ar l0) ha
    have g3 : ∀ j, j < A.pt (A.ar l0) → (fun k => h (cn_fs A.pt (A.ar l0) + k) - q (cn_fs A.pt (A.ar l0) + k)) j = h (cn_fs A.pt (A.ar l0) + j) := sI_eq (fun j hj => by
      have := (q0 _ (A.l_at ha hj).1).1
      show h (cn_fs A.pt (A.ar l0) + j) - q (cn_fs A.pt (A.ar l0) + j) ≤ h (cn_fs A.pt (A.ar l0) + j)
      omega) (Int.le_of_eq g.symm)
    have g4 : h (cn_fs A.pt (A.ar l0) + k) - q (cn_fs A.pt (A.ar l0) + k) = h (cn_fs A.pt (A.ar l0) + k) := g3 k hk
    rw [← e1] at g4
    have g5 : q l0 = pth A.b A.e via (rk (A.b l0)) (A.b l0) l0 + (if l0 = l0 then 1 else 0) := rfl
    rw [if_pos rfl] at g5
    rcases hq l0 hl0 with y | ⟨y, -⟩ <;> omega
/-- class and reference: the widths of lanes without end differ, the flows don't -/
theorem AN.opt_9 {A : AN} (hA : A.ok) {p h : Nat → Int} (ho : A.opt (A.w 1000000000000) p h) (hs : ∀ l, l < A.K → A.ln l = true → h l ≤ 424000000) : A.opt (A.w 1000000000) p h ∧ ∀ l, l < A.K → A.ln l = true → 0 ≤ rc A.b A.e A.c p l := by
  obtain ⟨h1, h2, h3⟩ := ho
  have ge : ∀ l, l < A.K → A.ln l = true → 0 ≤ rc A.b A.e A.c p l := fun l hl hn => by
    rcases Int.lt_or_le (rc A.b A.e A.c p l) 0 with y | y
    · have := (h3 l hl).1 y
      have := AN.w_ln hA (B := 1000000000000) hl hn
      have := hs l hl hn
      omega
    · exact y
  refine ⟨⟨fun l hl => ?_, h2, fun l hl => ?_⟩, ge⟩
  · have := h1 l hl
    cases hq : A.ln l with
    | true =>
      have := AN.w_ln hA (B := 1000000000) hl hq
      have := hs l hl hq
      exact ⟨by omega, by omega⟩
    | false => rw [AN.w_nl (B' := 1000000000000) hl hq]; exact this
  · refine ⟨fun g => ?_, (h3 l hl).2⟩
    cases hq : A.ln l with
    | true => have := ge l hl hq; omega
    | false => rw [AN.w_nl (B' := 1000000000000) hl hq]; exact (h3 l hl).1 g
theorem AN.opt_12 {A : AN} (hA : A.ok) {p x : Nat → Int} (ho : A.opt (A.w 1000000000) p x) (ge : ∀ l, l < A.K → A.ln l = true → 0 ≤ rc A.b A.e A.c p l) : A.opt (A.w 1000000000000) p x := by
  obtain ⟨h1, h2, h3⟩ := ho
  refine ⟨fun l hl => ?_, h2, fun l hl => ?_⟩
  · have := h1 l hl
    cases hq : A.ln l with
    | true =>
      have := AN.w_ln hA (B := 1000000000000) hl hq
      have := (A.w_bd hA (B := 1000000000) (by decide) hl).2.1
      exact ⟨by omega, by omega⟩
    | false => rw [AN.w_nl (B' := 1000000000) hl hq]; exact this
  · refine ⟨fun g => ?_, (h3 l hl).2⟩
    cases hq : A.ln l with
    | true => have := ge l hl hq; omega
    | false => rw [AN.w_nl (B' := 1000000000) hl hq]; exact (h3 l hl).1 g
theorem AN.meet {A : AN} (hA : A.ok) {x p h p' : Nat → Int} (ox : A.opt (A.w 1000000000) p x) (lx : A.lex (A.w 1000000000) p x A.M) (oh : A.opt (A.w 1000000000000) p' h) (lh : A.lex (A.w 1000000000000) p' h A.M) (hs : ∀ l, l < A.K → A.ln l = true → h l ≤ 424000000) : (∀ a, a < A.M → A.am x a = A.am h a) ∧ ∀ q : Nat → Int, pf A.K A.b A.e (A.w 1000000000) A.c q x ↔ pf A.K A.b A.e (A.w 1000000000000) A.c q h := by
  have hnd := AN.nd hA
  obtain ⟨o9, ge⟩ := AN.opt_9 hA oh hs
  have c1 : ct A.K A.c h ≤ ct A.K A.c x := pf_opt hnd o9.2.2 o9.2.1 ox.2.1 ox.1
  have c2 : ct A.K A.c x ≤ ct A.K A.c h := pf_opt hnd ox.2.2 ox.2.1 o9.2.1 o9.1
  have h9 : A.opt (A.w 1000000000) p h := ⟨o9.1, o9.2.1, pf_all hnd ox.2.2 ox.2.1 o9.2.1 o9.1 c1⟩
  have x9 : A.opt (A.w 1000000000) p' x := ⟨ox.1, ox.2.1, pf_all hnd o9.2.2 o9.2.1 ox.2.1 ox.1 c2⟩
  have x12 := AN.opt_12 hA x9 ge
  constructor
  · have eqs : ∀ a, a ≤ A.M → ∀ i, i < a → A.am x i = A.am h i := by
      intro a
      induction a with
      | zero => intro _ i hi; omega
      | succ a ih =>
        intro ha i hi
        have := ih (by omega)
        by_cases z : i < a
        · exact this i z
        · rw [show i = a by omega]
          have g1 := lx a (by omega) h h9 (fun i hi => (this i hi).symm)
          have g2 := lh a (by omega) x x12 this
          omega
    exact eqs A.M (Nat.le_refl _)
  · intro q
    constructor
    · intro g
      have g9 : pf A.K A.b A.e (A.w 1000000000) A.c q h := pf_all hnd g ox.2.1 o9.2.1 o9.1 c1
      refine (AN.opt_12 hA ⟨o9.1, o9.2.1, g9⟩ (fun l hl hn => ?_)).2.2
      rcases Int.lt_or_le (rc A.b A.e A.c q l) 0 with y | y
      · have := (g9 l hl).1 y
        have := AN.w_ln hA (B := 1000000000) hl hn
        have := hs l hl hn
        omega
      · exact y
    · intro g
      exact pf_all hnd (AN.opt_9 hA ⟨oh.1, oh.2.1, g⟩ hs).1.2.2 o9.2.1 ox.2.1 ox.1 c2
/-- the same prices -/
theorem AN.prc_meet {A : AN} {x h P P' : Nat → Int} (hq : ∀ q : Nat → Int, pf A.K A.b A.e (A.w 1000000000) A.c q x ↔ pf A.K A.b A.e (A.w 1000000000000) A.c q h) (h1 : A.prc (A.w 1000000000) x P) (h2 : A.prc (A.w 1000000000000) h P') : ∀ v, v < A.n → P v = P' v := by
  intro v hv
  have a1 := h2.2.2 P (fun v hv => (h1.1 v hv).2) ((hq P).mp h1.2.1) v hv
  have a2 := h1.2.2 P' (fun v hv => (h2.1 v hv).2) ((hq P').mpr h2.2.1) v hv
  omega
