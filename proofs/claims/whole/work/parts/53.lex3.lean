/-! ===== one arc lessened: what could go elsewhere has gone ===== -/
theorem AN.lex_send {A : AN} (hA : A.ok) {mm p lo ex1 lo2 ex2 : Nat → Int} {a : Nat} {vn : Nat → Option (Option Nat)} {lev : Nat → Nat} {car : Nat → Int} {q : Nat → Nat} {m : Nat} (ha : a < A.M) (hm : ∀ l, l < A.K → 0 ≤ mm l) (hx : A.opt mm p lo) (hlex : A.lex mm p lo a) (he1 : ∀ v, v < A.n → ex1 v = (if A.fr a = v then cl_tk A a (A.opn p a) lo (A.pt a) else 0) - (if A.tr a = v then cl_tk A a (A.opn p a) lo (A.pt a) else 0)) (hs : snt A.n A.K A.b A.e (A.opn p (a + 1)) mm (cl_lo A a (A.opn p a) lo (A.pt a)) ex1 lo2 ex2) (h : bfI A.n A.K A.b A.e (A.opn p (a + 1)) mm lo2 ex2 vn lev car q m) (hX : bfX A.K A.b A.e (A.opn p (a + 1)) mm lo2 ex2 vn lev q m) (hS : bfS A.n ex2 vn) : (0 ≤ ex2 (A.fr a) ∧ ex2 (A.fr a) ≤ cl_tk A a (A.opn p a) lo (A.pt a)) ∧ A.opt mm p (pbX (cn_fs A.pt a) mm lo2 (ex2 (A.fr a)) (A.pt a)) ∧ A.lex mm p (pbX (cn_fs A.pt a) mm lo2 (ex2 (A.fr a)) (A.pt a)) (a + 1) ∧ ∀ v, v < A.n → pbE A a ex2 (ex2 (A.fr a) - pbL (cn_fs A.pt a) mm lo2 (ex2 (A.fr a)) (A.pt a)) v = 0 := by
  obtain ⟨f1, f2, f3, f4, f5, f6, f7⟩ := A.cl_facts hA ha hx
  generalize ht : cl_tk A a (A.opn p a) lo (A.pt a) = t at *
  generalize hl1 : cl_lo A a (A.opn p a) lo (A.pt a) = lo1 at *
  obtain ⟨⟨d1, d2, d3⟩, ⟨d4, d5⟩, -⟩ := hA.2.1 a ha
  have hnd := AN.nd hA
  obtain ⟨s1, s2, s3, s4, s5⟩ := hs
  have hfr := s4 _ d1
  have htr := s4 _ d2
  rw [he1 _ d1, if_pos rfl, if_neg (Ne.symm d3)] at hfr
  rw [he1 _ d2, if_neg d3, if_pos rfl] at htr
  have hr0 : 0 ≤ ex2 (A.fr a) ∧ ex2 (A.fr a) ≤ t := by
    have := hfr.1 (by omega); omega
  have hother : ∀ v, v < A.n → v ≠ A.fr a → v ≠ A.tr a → ex2 v = 0 := by
    intro v hv n1 n2
    have := s4 v hv
    rw [he1 v hv, if_neg (Ne.symm n1), if_neg (Ne.symm n2)] at this
    have := this.1 (by omega)
    omega
  have htot : ex2 (A.tr a) = -ex2 (A.fr a) := by
    have e1 : sI ex2 A.n = sI ex1 A.n := by
      have g1 := dv_tot (x := lo2) hnd
      have g2 := dv_tot (x := lo1) hnd
      have g3 : sI (fun v => ex2 v + dv A.K A.b A.e lo2 v) A.n = sI (fun v => ex1 v + dv A.K A.b A.e lo1 v) A.n := sI_cg s2
      rw [sI_add, sI_add, g1, g2] at g3
      omega
    have e2 : sI ex1 A.n = 0 := by
      have g1 : sI ex1 A.n = sI (fun v => (if v = A.fr a then t else 0) - (if v = A.tr a then t else 0)) A.n := sI_cg (fun v hv => by
        rw [he1 v hv]
        congr 1
        · by_cases z : A.fr a = v
          · rw [if_pos z, if_pos z.symm]
          · rw [if_neg z, if_neg (Ne.symm z)]
        · by_cases z : A.tr a = v
          · rw [if_pos z, if_pos z.symm]
          · rw [if_neg z, if_neg (Ne.symm z)])
      rw [g1, sI_sub, sI_one, sI_one, if_pos d1, if_pos d2]; omega
    have e3 : sI ex2 A.n = sI (fun v => (if v = A.fr a then ex2 (A.fr a) else 0) + (if v = A.tr a then ex2 (A.tr a) else 0)) A.n := sI_cg (fun v hv => by
      show ex2 v = (if v = A.fr a then ex2 (A.fr a) else 0) + (if v = A.tr a then ex2 (A.tr a) else 0)
      by_cases z1 : v = A.fr a
      · rw [if_pos z1, if_neg (by rw [z1]; exact d3), z1]; omega
      · rw [if_neg z1]
        by_cases z2 : v = A.tr a
        · rw [if_pos z2, z2]; omega
        · rw [if_neg z2, hother v hv z1 z2]; omega)
    rw [e3, sI_add, sI_one, sI_one, if_pos d1, if_pos d2] at e1
    omega
  generalize hr : ex2 (A.fr a) = r at *
  have hop : ∀ l, l < A.K → A.opn p (a + 1) l = false → lo2 l = lo1 l := s3
  have hlow : ∀ l, l < A.K → A.ar l ≤ a → lo2 l = lo1 l := fun l hl z => hop l hl (by unfold AN.opn; simp; intro; omega)
  have hnt : ∀ l, l < A.K → A.tgt p l = false → lo2 l = lo l := fun l hl z => by
    rw [hop l hl (by unfold AN.opn; rw [z]; rfl), f3 l hl (fun y => by rw [z] at y; cases y.2)]
  have hpf2 : pf A.K A.b A.e mm A.c p lo2 := by
    intro l hl
    have := hx.2.2 l hl
    refine ⟨fun z => ?_, fun z => ?_⟩
    · rw [hnt l hl (decide_eq_false (by omega))]; exact this.1 z
    · rw [hnt l hl (decide_eq_false (by omega))]; exact this.2 z
  have hz2 : ∀ k, k < A.pt a → A.tgt p (cn_fs A.pt a + k) = true → lo2 (cn_fs A.pt a + k) = 0 := by
    intro k hk hq
    obtain ⟨g1, g2, g3⟩ := A.l_at ha hk
    rw [hlow _ g1 (by omega), f2 _ g1 g2 hq]
  have hT : r ≤ sI (fun j => if A.tgt p (cn_fs A.pt a + j) then mm (cn_fs A.pt a + j) else 0) (A.pt a) := by omega
  have hpb := pbL_eq hA ha hm hr0.1 hpf2 hz2 hT
  have hpb0 : pbL (cn_fs A.pt a) mm lo2 r (A.pt a) = 0 := by rw [hpb _ (Nat.le_refl _), if_pos hT]
  have hpbn : ∀ k, k ≤ A.pt a → 0 ≤ pbL (cn_fs A.pt a) mm lo2 r k := fun k hk => (pbL_bd hr0.1 (fun j hj => by
    have := s1 _ (A.l_at ha (show j < A.pt a by omega)).1; omega)).1
  have hX3 : ∀ l, l < A.K → A.ar l ≠ a → pbX (cn_fs A.pt a) mm lo2 r (A.pt a) l = lo2 l := fun l hl z => if_neg (fun y => z ((A.in_ar ha hl).mp y))
  have hX4 : ∀ k, k < A.pt a → pbX (cn_fs A.pt a) mm lo2 r (A.pt a) (cn_fs A.pt a + k) = lo2 (cn_fs A.pt a + k) + mn2 (pbL (cn_fs A.pt a) mm lo2 r k) (mm (cn_fs A.pt a + k) - lo2 (cn_fs A.pt a + k)) := by
    intro k hk
    unfold pbX
    rw [if_pos (by omega), show cn_fs A.pt a + k - cn_fs A.pt a = k by omega]
  have hin : ∀ l, l < A.K → A.ar l = a → ∃ k, k < A.pt a ∧ l = cn_fs A.pt a + k := by
    intro l hl z
    obtain ⟨g1, k, g2, g3, g4⟩ := A.l_in hl
    rw [z] at g2 g3
    exact ⟨k, g2, g3⟩
  have hft : fits A.K mm (pbX (cn_fs A.pt a) mm lo2 r (A.pt a)) := by
    intro l hl
    have hs1 := s1 l hl
    by_cases z : A.ar l = a
    · obtain ⟨k, hk, e1⟩ := hin l hl z
      subst e1
      rw [hX4 k hk]
      have := hpbn k (by omega)
      have h9 := mn2_0 (a := pbL (cn_fs A.pt a) mm lo2 r k) (b := mm (cn_fs A.pt a + k) - lo2 (cn_fs A.pt a + k)) this (by omega)
      have h10 := (mn2_le (a := pbL (cn_fs A.pt a) mm lo2 r k) (b := mm (cn_fs A.pt a + k) - lo2 (cn_fs A.pt a + k))).2.1
      omega
    · rw [hX3 l hl z]; exact hs1
  have hpf3 : pf A.K A.b A.e mm A.c p (pbX (cn_fs A.pt a) mm lo2 r (A.pt a)) := by
    intro l hl
    have hs1 := s1 l hl
    have hp2 := hpf2 l hl
    by_cases z : A.ar l = a
    · obtain ⟨k, hk, e1⟩ := hin l hl z
      subst e1
      rw [hX4 k hk]
      have := hpbn k (by omega)
      refine ⟨fun y => ?_, fun y => ?_⟩
      · rw [hp2.1 y]
        unfold mn2
        split <;> omega
      · rw [hp2.2 y, pbL_0 hA ha hm hr0.1 hpf2 hz2 hT hk y]
        unfold mn2
        have := hm _ hl
        rw [if_pos (by omega)]; omega
    · rw [hX3 l hl z]; exact hp2
  have ham3 : A.am (pbX (cn_fs A.pt a) mm lo2 r (A.pt a)) a = A.am lo2 a + r := by
    have e1 : A.am (pbX (cn_fs A.pt a) mm lo2 r (A.pt a)) a = sI (fun k => lo2 (cn_fs A.pt a + k) + mn2 (pbL (cn_fs A.pt a) mm lo2 r k) (mm (cn_fs A.pt a + k) - lo2 (cn_fs A.pt a + k))) (A.pt a) := sI_cg hX4
    rw [e1, sI_add, pbX_sum, hpb0]
    show A.am lo2 a + (r - 0) = _
    omega
  have ham1 : A.am lo1 a = A.am lo a + (-t) := by omega
  have hbal : bal A.n A.K A.b A.e A.s (pbX (cn_fs A.pt a) mm lo2 r (A.pt a)) := by
    intro v hv
    rw [A.dv_one ha hX3 ham3]
    have g1 := s2 v hv
    have g2 := A.dv_one (x := lo) (y := lo1) (v := v) ha (fun l hl z => f3 l hl (fun y => z y.1)) ham1
    have g3 := hx.2.1 v hv
    rw [he1 v hv] at g1
    have g4 : ex2 v = (if A.fr a = v then r else 0) - (if A.tr a = v then r else 0) := by
      by_cases z1 : A.fr a = v
      · subst z1
        rw [if_pos rfl, if_neg (Ne.symm d3), hr]; omega
      · rw [if_neg z1]
        by_cases z2 : A.tr a = v
        · subst z2
          rw [if_pos rfl, htot]; omega
        · rw [if_neg z2, hother v hv (Ne.symm z1) (Ne.symm z2)]; omega
    rw [g4] at g1
    by_cases z1 : A.fr a = v
    · have z2 : ¬ A.tr a = v := fun z => d3 (z1.trans z.symm)
      simp only [if_pos z1, if_neg z2] at g1 g2 ⊢
      omega
    · by_cases z2 : A.tr a = v
      · simp only [if_neg z1, if_pos z2] at g1 g2 ⊢
        omega
      · simp only [if_neg z1, if_neg z2] at g1 g2 ⊢
        omega
  have hopt : A.opt mm p (pbX (cn_fs A.pt a) mm lo2 r (A.pt a)) := ⟨hft, hbal, hpf3⟩
  have hamlo : ∀ i, i < a → A.am (pbX (cn_fs A.pt a) mm lo2 r (A.pt a)) i = A.am lo i := fun i hi => A.am_ne (by omega) (fun l hl e1 => by
    rw [hX3 l hl (by omega), hlow l hl (by omega), f3 l hl (fun y => by omega)])
  refine ⟨hr0, hopt, fun a' ha' y hy hsm => ?_, fun v hv => ?_⟩
  · rcases Nat.lt_or_ge a' a with z | z
    · rw [hamlo a' z]
      exact hlex a' z y hy (fun i hi => by rw [hsm i hi, hamlo i (by omega)])
    · have e1 : a' = a := by omega
      subst e1
      rcases Int.lt_or_le 0 r with y1 | y1
      · have hcl : ∀ w, w < 2 * A.K → A.opn p (a' + 1) (w / 2) = true → 0 < wm mm lo2 w → vn (wb A.b A.e w) ≠ none → vn (we A.b A.e w) ≠ none := by
          intro w hw ho hr2 hv
          have hbn : wb A.b A.e w < A.n := by
            obtain ⟨c1, c2⟩ := hnd (w / 2) (by omega)
            unfold wb
            split <;> assumption
          obtain ⟨-, j, hj, ej⟩ := h.2.2.1 _ hbn hv
          exact ((hX j hj).2 w hw ho hr2 ej.symm).1
        have hsome : ∀ v, (vn v).isSome = true ↔ vn v ≠ none := by
          intro v
          cases vn v <;> simp
        have hnone : ∀ v, (vn v).isSome = false ↔ vn v = none := by
          intro v
          cases vn v <;> simp
        refine A.cut_lex hA (S := fun v => (vn v).isSome) ha hopt hy hsm ?_ ?_ (fun l hl l1 l2 l3 l4 => ?_) (fun l hl l1 l2 l3 l4 => ?_)
        · show (vn (A.fr a')).isSome = true
          rw [hS _ d1 (by omega)]; rfl
        · refine (hnone _).mpr ?_
          cases hq : vn (A.tr a') with
          | none => rfl
          | some o =>
            obtain ⟨-, j, hj, ej⟩ := h.2.2.1 _ d2 (by rw [hq]; simp)
            have := (hX j hj).1
            rw [ej] at this
            omega
        · rw [hX3 l hl (by omega)]
          have := s1 l hl
          rcases Int.lt_or_le (lo2 l) (mm l) with y2 | y2
          · have := hcl (2 * l) (by omega) (by rw [show 2 * l / 2 = l by omega]; unfold AN.opn; rw [l2]; simp; omega) (by unfold wm; rw [if_pos (by omega), show 2 * l / 2 = l by omega]; omega) (by unfold wb; rw [if_pos (by omega), show 2 * l / 2 = l by omega]; exact (hsome _).mp l3)
            unfold we at this
            rw [if_pos (by omega), show 2 * l / 2 = l by omega] at this
            exact absurd ((hnone _).mp l4) this
          · omega
        · rw [hX3 l hl (by omega)]
          have := s1 l hl
          rcases Int.lt_or_le 0 (lo2 l) with y2 | y2
          · have := hcl (2 * l + 1) (by omega) (by rw [show (2 * l + 1) / 2 = l by omega]; unfold AN.opn; rw [l2]; simp; omega) (by unfold wm; rw [if_neg (by omega), show (2 * l + 1) / 2 = l by omega]; omega) (by unfold wb; rw [if_neg (by omega), show (2 * l + 1) / 2 = l by omega]; exact (hsome _).mp l4)
            unfold we at this
            rw [if_neg (by omega), show (2 * l + 1) / 2 = l by omega] at this
            exact absurd ((hnone _).mp l3) this
          · omega
      · refine A.least0 ha hpf3 (fun k hk hq => ?_) hy
        rw [hX4 k hk, hz2 k hk hq, hpb k (by omega)]
        have g1 : 0 ≤ sI (fun j => if A.tgt p (cn_fs A.pt a' + j) then mm (cn_fs A.pt a' + j) else 0) k := sI_ge0 (fun j hj => by
          have := hm _ (A.l_at ha (show j < A.pt a' by omega)).1
          show 0 ≤ if A.tgt p (cn_fs A.pt a' + j) then mm (cn_fs A.pt a' + j) else 0
          split <;> omega)
        have g2 := hm _ (A.l_at ha hk).1
        rw [if_pos (by omega)]
        unfold mn2
        rw [if_pos (by omega)]; omega
  · rw [hpb0]
    unfold pbE
    by_cases z1 : A.fr a = v
    · subst z1
      rw [if_pos rfl, if_neg (Ne.symm d3), hr]; omega
    · rw [if_neg z1]
      by_cases z2 : A.tr a = v
      · subst z2
        rw [if_pos rfl, htot]; omega
      · rw [if_neg z2, hother v hv (Ne.symm z1) (Ne.symm z2)]; omega
