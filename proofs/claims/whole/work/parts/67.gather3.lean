/-! ===== what gather leaves ===== -/
theorem dm_fst_s {f : Nat → Bool} : ∀ {n p l : Nat}, dm_fst f p n = some l → p ≤ l ∧ l < p + n ∧ f l = true ∧ ∀ l', p ≤ l' → l' < l → f l' = false
  | 0, p, l, h => by cases h
  | n + 1, p, l, h => by
    have h2 : (if f p then some p else dm_fst f (p + 1) n) = some l := h
    by_cases q : f p = true
    · rw [if_pos q] at h2
      have e : p = l := Option.some.inj h2
      subst e
      exact ⟨Nat.le_refl _, by omega, q, fun l' a b => by omega⟩
    · rw [if_neg q] at h2
      obtain ⟨a1, a2, a3, a4⟩ := dm_fst_s h2
      refine ⟨by omega, by omega, a3, fun l' b1 b2 => ?_⟩
      by_cases z : l' = p
      · rw [z]; simpa using q
      · exact a4 l' (by omega) b2
theorem dm_fst_n {f : Nat → Bool} : ∀ {n p : Nat}, dm_fst f p n = none → ∀ l', p ≤ l' → l' < p + n → f l' = false
  | 0, p, _, l', a, b => by omega
  | n + 1, p, h, l', a, b => by
    have h2 : (if f p then some p else dm_fst f (p + 1) n) = none := h
    by_cases q : f p = true
    · rw [if_pos q] at h2; cases h2
    · rw [if_neg q] at h2
      by_cases z : l' = p
      · rw [z]; simpa using q
      · exact dm_fst_n h2 l' (by omega) (by omega)
theorem dm_lst_s {f : Nat → Bool} {p : Nat} : ∀ {n l : Nat}, dm_lst f p n = some l → p ≤ l ∧ l < p + n ∧ f l = true ∧ ∀ l', l < l' → l' < p + n → f l' = false
  | 0, l, h => by cases h
  | n + 1, l, h => by
    have h2 : (if f (p + n) then some (p + n) else dm_lst f p n) = some l := h
    by_cases q : f (p + n) = true
    · rw [if_pos q] at h2
      have e : p + n = l := Option.some.inj h2
      subst e
      exact ⟨by omega, by omega, q, fun l' a b => by omega⟩
    · rw [if_neg q] at h2
      obtain ⟨a1, a2, a3, a4⟩ := dm_lst_s h2
      refine ⟨a1, by omega, a3, fun l' b1 b2 => ?_⟩
      by_cases z : l' = p + n
      · rw [z]; simpa using q
      · exact a4 l' b1 (by omega)
theorem dm_lst_n {f : Nat → Bool} {p : Nat} : ∀ {n : Nat}, dm_lst f p n = none → ∀ l', p ≤ l' → l' < p + n → f l' = false
  | 0, _, l', a, b => by omega
  | n + 1, h, l', a, b => by
    have h2 : (if f (p + n) then some (p + n) else dm_lst f p n) = none := h
    by_cases q : f (p + n) = true
    · rw [if_pos q] at h2; cases h2
    · rw [if_neg q] at h2
      by_cases z : l' = p + n
      · rw [z]; simpa using q
      · exact dm_lst_n h2 l' a (by omega)
/-- the gathered ways in the cells -/
def WGp (s : dm_S) (A : AN) (mm lo : Nat → Int) (C : Nat) (nb : Nat → Nat) : Prop := s.1 3 6 = nI C ∧ ∀ j, j < C → A.gat mm lo (nb j) ∧ s.1 28 j = nI (nb j) ∧ s.1 29 j = nI (wb A.b A.e (nb j)) ∧ s.1 30 j = nI (we A.b A.e (nb j)) ∧ s.2 31 j = lI (wr A.c (nb j))
def WG (s : dm_S) (A : AN) (mm lo : Nat → Int) (C : Nat) (nb : Nat → Nat) : Prop := WGp s A mm lo C nb ∧ C ≤ 160 ∧ ∀ w, A.gat mm lo w → ∃ j, j < C ∧ nb j = w
/-- the lanes' cells that a way's begin, end, rate come out of -/
def ln_c (s : dm_S) (A : AN) : Prop := ln_ok s A.n A.K A.b A.e ∧ ∀ l, l < A.K → s.2 23 l = lI (A.c l)
theorem ln_cr {s : dm_S} {A : AN} (h : ln_c s A) {w : Nat} (hw : w < 2 * A.K) : lw_r s w = lI (wr A.c w) := by
  unfold lw_r wr
  rw [h.2 (w / 2) (by omega)]
  split
  · rfl
  · rw [lI_neg]
theorem WG_ad {s : dm_S} {A : AN} {mm lo : Nat → Int} {C w : Nat} {nb : Nat → Nat} (hc : ln_c s A) (h : WGp s A mm lo C nb) (hC : C < 160) (hg : A.gat mm lo w) : WGp (dm_ad s w) A mm lo (C + 1) (uF nb C w) := by
  obtain ⟨h1, h2⟩ := h
  have cc : (s.1 3 6).toNatClampNeg = C := by rw [h1, nI_clamp (by omega)]
  have e1 := (ln_b hc.1 hg.1).1
  have e2 := (ln_e hc.1 hg.1).1
  have e3 := ln_cr hc hg.1
  unfold dm_ad
  rw [cc, e1, e2, e3, h1]
  refine ⟨by simp [dm_ui_1, upd, nI_1], fun j hj => ?_⟩
  by_cases z : j = C
  · subst z
    rw [uF_at]
    refine ⟨hg, ?_, ?_, ?_, ?_⟩ <;> simp [dm_ui_1, dm_ul_1, dm_ui_2, dm_ul_2, upd, vp_updL]
  · rw [uF_ne z]
    obtain ⟨g1, g2, g3, g4, g5⟩ := h2 j (by omega)
    refine ⟨g1, ?_, ?_, ?_, ?_⟩ <;> simp [dm_ui_1, dm_ul_1, dm_ui_2, dm_ul_2, upd, vp_updL, z] <;> assumption
theorem ln_cf {s s' : dm_S} {A : AN} (h : ln_c s A) (h1 : ∀ c, c ≠ 3 → c ≠ 28 → c ≠ 29 → c ≠ 30 → s'.1 c = s.1 c) (h2 : ∀ c, c ≠ 31 → s'.2 c = s.2 c) : ln_c s' A := by
  refine ⟨⟨?_, fun l hl => ?_⟩, fun l hl => ?_⟩
  · rw [h1 1 (by decide) (by decide) (by decide) (by decide), h1 2 (by decide) (by decide) (by decide) (by decide)]; exact h.1.1
  · rw [h1 20 (by decide) (by decide) (by decide) (by decide), h1 21 (by decide) (by decide) (by decide) (by decide)]; exact h.1.2 l hl
  · rw [h2 23 (by decide)]; exact h.2 l hl
theorem WG_ga {u : dm_S} {A : AN} {mm lo : Nat → Int} (hA : A.ok) (hc : ln_c u A) (e22 : u.2 22 = lF mm) (e24 : u.2 24 = lF lo) (hl : fits A.K mm lo) (hm : ∀ l, l < A.K → mm l ≤ 1152921504606846976) : ∀ a, a ≤ A.M → ∃ C nb, C ≤ 2 * a ∧ WGp (wy_ga u A.pt a) A mm lo C nb ∧ ∀ w, A.gat mm lo w → A.ar (w / 2) < a → ∃ j, j < C ∧ nb j = w
  | 0, _ => ⟨0, fun _ => 0, by omega, ⟨by show (dm_ui u 3 6 0).1 3 6 = nI 0; simp [dm_ui_1, upd]; rfl, fun j hj => absurd hj (Nat.not_lt_zero _)⟩, fun w _ h => absurd h (Nat.not_lt_zero _)⟩
  | a + 1, ha => by
    obtain ⟨C, nb, c1, c2, c3⟩ := WG_ga hA hc e22 e24 hl hm a (by omega)
    have ham : a < A.M := by omega
    have hM := hA.1.2
    have hfs := AN.fs_le hA ham
    obtain ⟨-, k1, k2⟩ := wy_ga_k (u := u) (pt := A.pt) a
    have hc1 := ln_cf hc k1 k2
    have hcmp : ∀ l, l < A.K → (decide (u.2 24 l < u.2 22 l) = true ↔ lo l < mm l) ∧ (decide (0 < u.2 24 l) = true ↔ 0 < lo l) := by
      intro l hlK
      have q1 := hl l hlK
      have q2 := hm l hlK
      have b1 : lB (lo l) := by unfold lB; omega
      have b2 : lB (mm l) := by unfold lB; omega
      have b0 : lB 0 := by unfold lB; omega
      rw [e24, e22, lF_at, lF_at, decide_eq_true_iff, decide_eq_true_iff, lI_lt b1 b2, show (0 : Int64) = lI 0 from rfl, lI_lt b0 b1]
      exact ⟨Iff.rfl, Iff.rfl⟩
    have hin : ∀ l, cn_fs A.pt a ≤ l → l < cn_fs A.pt a + A.pt a → l < A.K ∧ A.ar l = a := fun l q1 q2 => ⟨by omega, (A.in_ar ham (by omega)).mp ⟨q1, q2⟩⟩
    have hout : ∀ l, l < A.K → A.ar l = a → cn_fs A.pt a ≤ l ∧ l < cn_fs A.pt a + A.pt a := fun l q1 q2 => (A.in_ar ham q1).mpr q2
    show ∃ C nb, C ≤ 2 * (a + 1) ∧ WGp (dm_ao (dm_ao (wy_ga u A.pt a) (wy_al u (cn_fs A.pt a) (A.pt a))) (wy_ag u (cn_fs A.pt a) (A.pt a))) A mm lo C nb ∧ _
    have s1 : ∃ C1 nb1, C1 ≤ 2 * a + 1 ∧ C ≤ C1 ∧ (∀ j, j < C → nb1 j = nb j) ∧ WGp (dm_ao (wy_ga u A.pt a) (wy_al u (cn_fs A.pt a) (A.pt a))) A mm lo C1 nb1 ∧ ∀ w, A.gat mm lo w → A.ar (w / 2) = a → w % 2 = 0 → ∃ j, j < C1 ∧ nb1 j = w := by
      unfold wy_al
      cases hq : dm_fst (fun l => decide (u.2 24 l < u.2 22 l)) (cn_fs A.pt a) (A.pt a) with
      | none =>
        refine ⟨C, nb, by omega, Nat.le_refl _, fun _ _ => rfl, c2, fun w hg har hw => ?_⟩
        exfalso
        obtain ⟨o1, o2⟩ := hout (w / 2) (by have := hg.1; omega) har
        have h5 := dm_fst_n hq (w / 2) o1 o2
        have h6 := hg.2.1
        unfold wm at h6
        rw [if_pos hw] at h6
        have h7 := (hcmp (w / 2) (by omega)).1.mpr (by omega)
        rw [h5] at h7; cases h7
      | some l =>
        obtain ⟨a1, a2, a3, a4⟩ := dm_fst_s hq
        obtain ⟨i1, i2⟩ := hin l a1 a2
        have hlt := (hcmp l i1).1.mp a3
        have d0 : 2 * l / 2 = l := by omega
        have hg : A.gat mm lo (2 * l) := by
          refine ⟨by omega, by unfold wm; rw [if_pos (by omega), d0]; omega, fun _ l' h1 h2 => ?_, fun z => by omega⟩
          rw [d0] at h1 h2
          rw [i2] at h2
          have h3 := a4 l' (hout l' (by omega) h2).1 h1
          rcases Int.lt_or_le (lo l') (mm l') with y | y
          · have := (hcmp l' (by omega)).1.mpr y
            rw [h3] at this; cases this
          · exact y
        refine ⟨C + 1, uF nb C (2 * l), by omega, by omega, fun j hj => uF_ne (by omega), WG_ad hc1 c2 (by omega) hg, fun w hg2 har hw => ⟨C, by omega, ?_⟩⟩
        rw [uF_at]
        obtain ⟨o1, o2⟩ := hout (w / 2) (by have := hg2.1; omega) har
        have h6 := hg2.2.1
        unfold wm at h6
        rw [if_pos hw] at h6
        rcases Nat.lt_trichotomy (w / 2) l with y | y | y
        · have := (hcmp (w / 2) (by omega)).1.mpr (by omega)
          rw [a4 _ o1 y] at this; cases this
        · omega
        · have := hg2.2.2.1 hw l y (by rw [i2, har])
          omega
    obtain ⟨C1, nb1, d1, d2, d3, d4, d5⟩ := s1
    have hc2 := ln_cf hc1 (dm_ao_k (u := wy_ga u A.pt a) (o := wy_al u (cn_fs A.pt a) (A.pt a))).1 (dm_ao_k (u := wy_ga u A.pt a) (o := wy_al u (cn_fs A.pt a) (A.pt a))).2
    have hold : ∀ (C2 : Nat) (nb2 : Nat → Nat), C1 ≤ C2 → (∀ j, j < C1 → nb2 j = nb1 j) → (∀ w, A.gat mm lo w → A.ar (w / 2) = a → w % 2 = 1 → ∃ j, j < C2 ∧ nb2 j = w) → ∀ w, A.gat mm lo w → A.ar (w / 2) < a + 1 → ∃ j, j < C2 ∧ nb2 j = w := by
      intro C2 nb2 q1 q2 q3 w hg har
      by_cases z : A.ar (w / 2) = a
      · rcases Nat.mod_two_eq_zero_or_one w with y | y
        · obtain ⟨j, j1, j2⟩ := d5 w hg z y
          exact ⟨j, by omega, by rw [q2 j j1]; exact j2⟩
        · exact q3 w hg z y
      · obtain ⟨j, j1, j2⟩ := c3 w hg (by omega)
        exact ⟨j, by omega, by rw [q2 j (by omega), d3 j j1]; exact j2⟩
    unfold wy_ag
    cases hq : dm_lst (fun l => decide (0 < u.2 24 l)) (cn_fs A.pt a) (A.pt a) with
    | none =>
      refine ⟨C1, nb1, by omega, d4, hold C1 nb1 (Nat.le_refl _) (fun _ _ => rfl) (fun w hg har hw => ?_)⟩
      exfalso
      obtain ⟨o1, o2⟩ := hout (w / 2) (by have := hg.1; omega) har
      have h5 := dm_lst_n hq (w / 2) o1 o2
      have h6 := hg.2.1
      unfold wm at h6
      rw [if_neg (by omega)] at h6
      have h7 := (hcmp (w / 2) (by omega)).2.mpr h6
      rw [h5] at h7; cases h7
    | some l =>
      obtain ⟨a1, a2, a3, a4⟩ := dm_lst_s hq
      obtain ⟨i1, i2⟩ := hin l a1 a2
      have hlt := (hcmp l i1).2.mp a3
      have e0 : (2 * l + 1) / 2 = l := by omega
      have hg : A.gat mm lo (2 * l + 1) := by
        refine ⟨by omega, by unfold wm; rw [if_neg (by omega), e0]; exact hlt, fun z => by omega, fun _ l' h1 h2 h3 => ?_⟩
        rw [e0] at h1 h3
        rw [i2] at h3
        have h4 := a4 l' h1 (hout l' h2 h3).2
        rcases Int.lt_or_le 0 (lo l') with y | y
        · have := (hcmp l' h2).2.mpr y
          rw [h4] at this; cases this
        · exact y
      refine ⟨C1 + 1, uF nb1 C1 (2 * l + 1), by omega, WG_ad hc2 d4 (by omega) hg, hold (C1 + 1) _ (by omega) (fun j hj => uF_ne (by omega)) (fun w hg2 har hw => ⟨C1, by omega, ?_⟩)⟩
      rw [uF_at]
      obtain ⟨o1, o2⟩ := hout (w / 2) (by have := hg2.1; omega) har
      have h6 := hg2.2.1
      unfold wm at h6
      rw [if_neg (by omega)] at h6
      rcases Nat.lt_trichotomy (w / 2) l with y | y | y
      · have := hg2.2.2.2 hw l y i1 (by rw [i2, har])
        omega
      · omega
      · have := (hcmp (w / 2) (by omega)).2.mpr h6
        rw [a4 _ y o2] at this; cases this
/-- behind gather -/
theorem WG_all {u : dm_S} {A : AN} {mm lo : Nat → Int} (hA : A.ok) (hc : ln_c u A) (e22 : u.2 22 = lF mm) (e24 : u.2 24 = lF lo) (hl : fits A.K mm lo) (hm : ∀ l, l < A.K → mm l ≤ 1152921504606846976) : ∃ C nb, WG (wy_ga u A.pt A.M) A mm lo C nb := by
  obtain ⟨C, nb, c1, c2, c3⟩ := WG_ga hA hc e22 e24 hl hm A.M (Nat.le_refl _)
  have := hA.1.2
  exact ⟨C, nb, c2, by omega, fun w hg => c3 w hg (A.l_in (show w / 2 < A.K by have := hg.1; omega)).1⟩
