/-! ===== passes in the cells are passes in whole numbers ===== -/
theorem rf_dG {n C : Nat} {bg en : Nat → Nat} {wt : Nat → Int} {on : Nat → Bool} {w : Nat → Int64} {U V0 V : Nat → Int} (hn : n ≤ 24) (hf : dF n C bg en wt on) (hU : dP C bg en wt on U) (h0 : d0 n V0) (hw : ∀ j, j < C → w j = lI (wt j)) (hV : dI n C bg en wt on V0 V) : ∀ j, j ≤ C → rf_go bg en w on (lF V) j = (lF (dG bg en wt on V j).1, (dG bg en wt on V j).2)
  | 0, _ => rfl
  | j + 1, hj => by
    have ih := rf_dG hn hf hU h0 hw hV j (by omega)
    have hI := dG_I hf hV j (by omega)
    show (if on j = true ∧ ¬ (rf_go bg en w on (lF V) j).1 (bg j) = 1152921504606846976 ∧ (rf_go bg en w on (lF V) j).1 (bg j) + w j < (rf_go bg en w on (lF V) j).1 (en j) then (vp_updL (rf_go bg en w on (lF V) j).1 (en j) ((rf_go bg en w on (lF V) j).1 (bg j) + w j), true) else rf_go bg en w on (lF V) j) = _
    rw [dG_s, ih, hw j (by omega)]
    by_cases ho : on j = true
    · obtain ⟨⟨f1, f2⟩, f3, f4⟩ := hf j (by omega) ho
      have b1 := dI_lo hn hf hU h0 hI (bg j) f1
      have b2 := dI_fr h0 hI (bg j) f1
      have b3 := dI_lo hn hf hU h0 hI (en j) f2
      have b4 := dI_fr h0 hI (en j) f2
      have hF : (1152921504606846976 : Int64) = lI fAR := rfl
      have l1 : lB ((dG bg en wt on V j).1 (bg j)) := by unfold lB fAR at *; omega
      have l2 : lB ((dG bg en wt on V j).1 (en j)) := by unfold lB fAR at *; omega
      have l3 : lB ((dG bg en wt on V j).1 (bg j) + wt j) := by unfold lB fAR at *; omega
      have l4 : lB fAR := by unfold lB fAR; omega
      have e1 : (on j = true ∧ ¬ (lF (dG bg en wt on V j).1) (bg j) = 1152921504606846976 ∧ (lF (dG bg en wt on V j).1) (bg j) + lI (wt j) < (lF (dG bg en wt on V j).1) (en j)) ↔ (on j = true ∧ ¬ (dG bg en wt on V j).1 (bg j) = fAR ∧ (dG bg en wt on V j).1 (bg j) + wt j < (dG bg en wt on V j).1 (en j)) := by
        rw [lF_at, lF_at, hF, lI_add, lI_eq l1 l4, lI_lt l3 l2]
      by_cases q : on j = true ∧ ¬ (dG bg en wt on V j).1 (bg j) = fAR ∧ (dG bg en wt on V j).1 (bg j) + wt j < (dG bg en wt on V j).1 (en j)
      · rw [if_pos (e1.mpr q), if_pos q]
        show (vp_updL (lF (dG bg en wt on V j).1) (en j) (lF (dG bg en wt on V j).1 (bg j) + lI (wt j)), true) = _
        rw [lF_at, lI_add, lF_upd]
      · rw [if_neg (fun z => q (e1.mp z)), if_neg q]
    · rw [if_neg (fun z => ho z.1), if_neg (fun z => ho z.1)]
theorem rf_dT {n C : Nat} {bg en : Nat → Nat} {wt : Nat → Int} {on : Nat → Bool} {w : Nat → Int64} {U V0 : Nat → Int} (hn : n ≤ 24) (hf : dF n C bg en wt on) (hU : dP C bg en wt on U) (h0 : d0 n V0) (hw : ∀ j, j < C → w j = lI (wt j)) : ∀ (r : Nat) (V : Nat → Int), dI n C bg en wt on V0 V → rf_it C bg en w on r (lF V) = lF (dT C bg en wt on r V)
  | 0, V, _ => rfl
  | r + 1, V, hV => by
    show (if (rf_go bg en w on (lF V) C).2 then rf_it C bg en w on r (rf_go bg en w on (lF V) C).1 else (rf_go bg en w on (lF V) C).1) = lF (if (dG bg en wt on V C).2 then dT C bg en wt on r (dG bg en wt on V C).1 else (dG bg en wt on V C).1)
    rw [rf_dG hn hf hU h0 hw hV C (Nat.le_refl _)]
    by_cases q : (dG bg en wt on V C).2 = true
    · rw [if_pos q, if_pos q]
      exact rf_dT hn hf hU h0 hw r _ (dG_I hf hV C (Nat.le_refl _))
    · rw [if_neg q, if_neg q]
/-! ===== PRICES: the greatest of those that prove the flow ===== -/
def AN.prc (A : AN) (mm lo p : Nat → Int) : Prop := (∀ v, v < A.n → -24000000 ≤ p v ∧ p v ≤ 0) ∧ pf A.K A.b A.e mm A.c p lo ∧ ∀ q : Nat → Int, (∀ v, v < A.n → q v ≤ 0) → pf A.K A.b A.e mm A.c q lo → ∀ v, v < A.n → q v ≤ p v
/-- prices prove a flow: no way with room falls -/
theorem pf_way {K : Nat} {b e : Nat → Nat} {c mm p lo : Nat → Int} (h : pf K b e mm c p lo) {w : Nat} (hw : w < 2 * K) (hm : 0 < wm mm lo w) : p (we b e w) ≤ p (wb b e w) + wr c w := by
  obtain ⟨h1, h2⟩ := h (w / 2) (by omega)
  unfold rc at h1 h2
  unfold wm at hm
  unfold we wb wr
  by_cases z : w % 2 = 0
  · rw [if_pos z] at hm
    rw [if_pos z, if_pos z, if_pos z]
    rcases Int.lt_or_le (c (w / 2) + p (b (w / 2)) - p (e (w / 2))) 0 with y | y
    · have := h1 y; omega
    · omega
  · rw [if_neg z] at hm
    rw [if_neg z, if_neg z, if_neg z]
    rcases Int.lt_or_le 0 (c (w / 2) + p (b (w / 2)) - p (e (w / 2))) with y | y
    · have := h2 y; omega
    · omega
theorem pf_of {K : Nat} {b e : Nat → Nat} {c mm p lo : Nat → Int} (hl : fits K mm lo) (h : phI K b e c mm lo p 1 0) : pf K b e mm c p lo := by
  intro l hlK
  have h0 := hl l hlK
  refine ⟨fun z => ?_, fun z => ?_⟩
  · rcases Int.lt_or_le (lo l) (mm l) with y | y
    · have := h (2 * l) (by omega) (by unfold wm; rw [if_pos (by omega), show 2 * l / 2 = l by omega]; omega)
      unfold wS wr wb we at this
      rw [if_pos (by omega), if_pos (by omega), if_pos (by omega), show 2 * l / 2 = l by omega] at this
      unfold rc at z
      omega
    · omega
  · rcases Int.lt_or_le 0 (lo l) with y | y
    · have := h (2 * l + 1) (by omega) (by unfold wm; rw [if_neg (by omega), show (2 * l + 1) / 2 = l by omega]; exact y)
      unfold wS wr wb we at this
      rw [if_neg (by omega), if_neg (by omega), if_neg (by omega), show (2 * l + 1) / 2 = l by omega] at this
      unfold rc at z
      omega
    · omega
/-- what measure leaves in the cell of the prices -/
theorem ms_prc {A : AN} (hA : A.ok) {s : dm_S} {mm lo : Nat → Int} {C : Nat} {nb : Nat → Nat} {q0 : Nat → Int} (hg : WG s A mm lo C nb) (hl : fits A.K mm lo) (hq : pf A.K A.b A.e mm A.c q0 lo) : ∃ p : Nat → Int, rf_it C (fun j => wb A.b A.e (nb j)) (fun j => we A.b A.e (nb j)) (s.2 31) (wg_on nb (-1)) A.n (dm_z0 s) = lF p ∧ A.prc mm lo p := by
  have hn := hA.1.1
  have hK := A.K_le hA
  have hon : ∀ j, j < C → wg_on nb (-1) j = true := by
    intro j hj
    have hw := (hg.1.2 j hj).1.1
    unfold wg_on
    simp only [Bool.not_eq_true', decide_eq_false_iff_not]
    intro z
    have h2 := nI_pos (n := nb j / 2) (by omega)
    rw [z] at h2
    exact h2 (by decide)
  have hf : dF A.n C (fun j => wb A.b A.e (nb j)) (fun j => we A.b A.e (nb j)) (fun j => wr A.c (nb j)) (wg_on nb (-1)) := fun j hj _ => by
    have hw := (hg.1.2 j hj).1.1
    have hb := wr_bd (K := A.K) (c := A.c) (fun l hl => A.c_bd hA hl) hw
    exact ⟨A.wn hA hw, hb.1, hb.2⟩
  have hfeas : ∀ q : Nat → Int, pf A.K A.b A.e mm A.c q lo → dP C (fun j => wb A.b A.e (nb j)) (fun j => we A.b A.e (nb j)) (fun j => wr A.c (nb j)) (wg_on nb (-1)) q := fun q hq j hj _ => pf_way hq (hg.1.2 j hj).1.1 (hg.1.2 j hj).1.2.1
  have e0 : dm_z0 s = lF (fun j => if j < 24 then 0 else (s.2 36 j).toInt) := by
    funext j
    show (if j < 24 then (0 : Int64) else s.2 36 j) = lI (if j < 24 then 0 else (s.2 36 j).toInt)
    split
    · rfl
    · exact (lI_to _).symm
  have h0 : d0 A.n (fun j => if j < 24 then 0 else (s.2 36 j).toInt) := fun v hv => Or.inr (if_pos (by omega))
  have hw : ∀ j, j < C → s.2 31 j = lI (wr A.c (nb j)) := fun j hj => (hg.1.2 j hj).2.2.2.2
  obtain ⟨E, e1, e2, e3⟩ := dT_all hn hf (hfeas q0 hq) h0
  refine ⟨_, by rw [e0]; exact rf_dT hn hf (hfeas q0 hq) h0 hw A.n _ dI_0, ?_⟩
  have hEn : ∀ v, v < A.n → E v ≤ 0 := fun v hv => by
    have := e1.1 v hv
    simp only [if_pos (show v < 24 by omega)] at this
    exact this
  have hEf : ∀ v, v < A.n → E v ≠ fAR := fun v hv => by have := hEn v hv; unfold fAR; omega
  refine ⟨fun v hv => ?_, ?_, fun q hq0 hqp v hv => ?_⟩
  · rw [e3 v hv]
    exact ⟨dB_lo hn hf h0 e1 e2 v hv, hEn v hv⟩
  · refine pf_of hl (A.gat_ph hA (by omega) (fun w hgw => ?_))
    obtain ⟨j, hj, ej⟩ := hg.2.2 w hgw
    obtain ⟨n1, n2⟩ := A.wn hA hgw.1
    have h3 := e2 j hj (hon j hj) (hEf _ (by show wb A.b A.e (nb j) < A.n; rw [ej]; exact n1))
    have h4 : E (we A.b A.e (nb j)) ≤ E (wb A.b A.e (nb j)) + wr A.c (nb j) := h3
    rw [ej] at h4
    unfold wS
    rw [e3 _ n1, e3 _ n2]
    omega
  · rw [e3 v hv]
    refine (e1.2 (fun _ => True) q (fun j hj ho _ => ⟨trivial, hfeas q hqp j hj ho⟩) (fun u hu _ => ⟨trivial, ?_⟩) v hv (hEf v hv)).2
    simp only [if_pos (show u < 24 by omega)]
    exact hq0 u hu
/-- the same prices for every flow of least cost -/
theorem AN.prc_eq {A : AN} (hA : A.ok) {mm lo lo2 p p2 : Nat → Int} (h : A.prc mm lo p) (h2 : A.prc mm lo2 p2) (hl : fits A.K mm lo) (hl2 : fits A.K mm lo2) (hb : bal A.n A.K A.b A.e A.s lo) (hb2 : bal A.n A.K A.b A.e A.s lo2) : ∀ v, v < A.n → p v = p2 v := by
  intro v hv
  have c1 := pf_opt (AN.nd hA) h.2.1 hb hb2 hl2
  have c2 := pf_opt (AN.nd hA) h2.2.1 hb2 hb hl
  have q1 := pf_all (AN.nd hA) h.2.1 hb hb2 hl2 c2
  have q2 := pf_all (AN.nd hA) h2.2.1 hb2 hb hl c1
  have r1 := h2.2.2 p (fun v hv => (h.1 v hv).2) q1 v hv
  have r2 := h.2.2 p2 (fun v hv => (h2.1 v hv).2) q2 v hv
  omega
