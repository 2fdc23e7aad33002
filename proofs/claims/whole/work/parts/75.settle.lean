/-! ===== settleEndless in whole numbers ===== -/
theorem rx_dG {n M : Nat} {fr tr : Nat → Nat} {wt : Nat → Int} {on : Nat → Bool} {w : Nat → Int64} (hf : dF n M fr tr wt on) (hw : ∀ a, a < M → w a = lI (wt a)) {B : Int} {V : Nat → Int} (hV : ∀ v, v < n → -B ≤ V v ∧ V v ≤ 0) (hB : B + M * 1000000 ≤ 1000000000000000) : ∀ a, a ≤ M → rx_go fr tr w on (lF V) a = (lF (dG fr tr wt on V a).1, (dG fr tr wt on V a).2) ∧ ∀ v, v < n → -(B + a * 1000000) ≤ (dG fr tr wt on V a).1 v ∧ (dG fr tr wt on V a).1 v ≤ 0
  | 0, _ => ⟨rfl, fun v hv => by have := hV v hv; show -(B + ((0 : Nat) : Int) * 1000000) ≤ V v ∧ V v ≤ 0; omega⟩
  | a + 1, ha => by
    obtain ⟨i1, i2⟩ := rx_dG hf hw hV hB a (by omega)
    have hg : rx_go fr tr w on (lF V) (a + 1) = if on a = true ∧ (rx_go fr tr w on (lF V) a).1 (fr a) + w a < (rx_go fr tr w on (lF V) a).1 (tr a) then (vp_updL (rx_go fr tr w on (lF V) a).1 (tr a) ((rx_go fr tr w on (lF V) a).1 (fr a) + w a), true) else rx_go fr tr w on (lF V) a := rfl
    have hcast : ((a + 1 : Nat) : Int) * 1000000 = a * 1000000 + 1000000 := by rw [Int.natCast_add, Int.add_mul]; omega
    have haM : (a : Int) * 1000000 ≤ M * 1000000 := Int.mul_le_mul_of_nonneg_right (by omega) (by omega)
    rw [hg, i1, hw a (by omega), dG_s]
    by_cases ho : on a = true
    · obtain ⟨⟨f1, f2⟩, f3, f4⟩ := hf a (by omega) ho
      have b1 := i2 _ f1
      have b2 := i2 _ f2
      have l1 : lB ((dG fr tr wt on V a).1 (tr a)) := by unfold lB; omega
      have l2 : lB ((dG fr tr wt on V a).1 (fr a) + wt a) := by unfold lB; omega
      have hne : ¬ (dG fr tr wt on V a).1 (fr a) = fAR := by unfold fAR; omega
      have e1 : (on a = true ∧ (lF (dG fr tr wt on V a).1) (fr a) + lI (wt a) < (lF (dG fr tr wt on V a).1) (tr a)) ↔ (on a = true ∧ ¬ (dG fr tr wt on V a).1 (fr a) = fAR ∧ (dG fr tr wt on V a).1 (fr a) + wt a < (dG fr tr wt on V a).1 (tr a)) := by
        rw [lF_at, lF_at, lI_add, lI_lt l2 l1]
        exact ⟨fun z => ⟨z.1, hne, z.2⟩, fun z => ⟨z.1, z.2.2⟩⟩
      by_cases q : on a = true ∧ ¬ (dG fr tr wt on V a).1 (fr a) = fAR ∧ (dG fr tr wt on V a).1 (fr a) + wt a < (dG fr tr wt on V a).1 (tr a)
      · rw [if_pos (e1.mpr q), if_pos q]
        refine ⟨?_, fun v hv => ?_⟩
        · show (vp_updL (lF (dG fr tr wt on V a).1) (tr a) (lF (dG fr tr wt on V a).1 (fr a) + lI (wt a)), true) = _
          rw [lF_at, lI_add, lF_upd]
        · show _ ≤ uI _ _ _ v ∧ uI _ _ _ v ≤ 0
          unfold uI
          have := i2 v hv
          split
          · have := q.2.2; omega
          · omega
      · rw [if_neg (fun z => q (e1.mp z)), if_neg q]
        exact ⟨rfl, fun v hv => by have := i2 v hv; omega⟩
    · rw [if_neg (fun z => ho z.1), if_neg (fun z => ho z.1)]
      exact ⟨rfl, fun v hv => by have := i2 v hv; omega⟩
theorem rx_eT {n M : Nat} {fr tr : Nat → Nat} {wt : Nat → Int} {on : Nat → Bool} {w : Nat → Int64} (hM : M ≤ 80) (hf : dF n M fr tr wt on) (hw : ∀ a, a < M → w a = lI (wt a)) : ∀ (r : Nat) (B : Int) (V : Nat → Int), (∀ v, v < n → -B ≤ V v ∧ V v ≤ 0) → B + r * 80000000 ≤ 1000000000000000 → rx_it M fr tr w on r (lF V) = (lF (eT M fr tr wt on r V).1, (eT M fr tr wt on r V).2)
  | 0, B, V, _, _ => rfl
  | r + 1, B, V, hV, hB => by
    have hcast : ((r + 1 : Nat) : Int) * 80000000 = r * 80000000 + 80000000 := by rw [Int.natCast_add, Int.add_mul]; omega
    have hM2 : (M : Int) * 1000000 ≤ 80000000 := by omega
    obtain ⟨g1, g2⟩ := rx_dG hf hw hV (by omega) M (Nat.le_refl _)
    show (if (rx_go fr tr w on (lF V) M).2 then rx_it M fr tr w on r (rx_go fr tr w on (lF V) M).1 else ((rx_go fr tr w on (lF V) M).1, true)) = (lF (if (dG fr tr wt on V M).2 then eT M fr tr wt on r (dG fr tr wt on V M).1 else ((dG fr tr wt on V M).1, true)).1, (if (dG fr tr wt on V M).2 then eT M fr tr wt on r (dG fr tr wt on V M).1 else ((dG fr tr wt on V M).1, true)).2)
    rw [g1]
    by_cases q : (dG fr tr wt on V M).2 = true
    · rw [if_pos q, if_pos q]
      exact rx_eT hM hf hw r (B + M * 1000000) _ g2 (by omega)
    · rw [if_neg q, if_neg q]
/-- the cost of an arc's last part -/
def AN.lr (A : AN) (a : Nat) : Int := A.rt (4 * a + (A.pt a - 1))
/-- prices along ENDLESS arcs: no ring of theirs falls -/
def AN.nor (A : AN) (U : Nat → Int) : Prop := ∀ a, a < A.M → A.en a = true → U (A.tr a) ≤ U (A.fr a) + A.lr a
theorem AN.dFe {A : AN} (hA : A.ok) : dF A.n A.M A.fr A.tr A.lr A.en := fun a ha _ => by
  obtain ⟨⟨a1, a2, -⟩, ⟨a3, a4⟩, -, a6, -⟩ := hA.2.1 a ha
  have := a6 (A.pt a - 1) (by omega)
  exact ⟨⟨a1, a2⟩, this.2⟩
theorem dG_on {bg en : Nat → Nat} {wt : Nat → Int} {on on' : Nat → Bool} {V : Nat → Int} {C : Nat} (h : ∀ j, j < C → on j = on' j) : ∀ j, j ≤ C → dG bg en wt on V j = dG bg en wt on' V j
  | 0, _ => rfl
  | j + 1, hj => by rw [dG_s, dG_s, dG_on h j (by omega), h j (by omega)]
theorem eT_on {bg en : Nat → Nat} {wt : Nat → Int} {on on' : Nat → Bool} {C : Nat} (h : ∀ j, j < C → on j = on' j) : ∀ (r : Nat) (V : Nat → Int), eT C bg en wt on r V = eT C bg en wt on' r V
  | 0, _ => rfl
  | r + 1, V => by
    show (if (dG bg en wt on V C).2 then eT C bg en wt on r (dG bg en wt on V C).1 else ((dG bg en wt on V C).1, true)) = if (dG bg en wt on' V C).2 then eT C bg en wt on' r (dG bg en wt on' V C).1 else ((dG bg en wt on' V C).1, true)
    rw [dG_on h C (Nat.le_refl _), eT_on h r]
/-- what settleEndless leaves -/
theorem st_nor {u : dm_S} {A : AN} (hA : A.ok) (hC : CR u A) : ∃ p : Nat → Int, (rx_it A.M A.fr A.tr (cn_lw u A.pt) (cn_en u) (A.n + 1) (dm_z0 u)).1 = lF p ∧ ((rx_it A.M A.fr A.tr (cn_lw u A.pt) (cn_en u) (A.n + 1) (dm_z0 u)).2 = true → A.nor p ∧ ∀ v, v < A.n → -24000000 ≤ p v ∧ p v ≤ 0) ∧ ((rx_it A.M A.fr A.tr (cn_lw u A.pt) (cn_en u) (A.n + 1) (dm_z0 u)).2 = true ↔ ∃ U, A.nor U) := by
  obtain ⟨hn, hM⟩ := hA.1
  have hf := AN.dFe hA
  have hen : ∀ a, a < A.M → cn_en u a = A.en a := by
    intro a ha
    have := (hC.2.2 a ha).2.1.1
    unfold cn_en
    rw [this]
    cases A.en a <;> rfl
  have hw : ∀ a, a < A.M → cn_lw u A.pt a = lI (A.lr a) := by
    intro a ha
    have h1 := (hA.2.1 a ha).2.1.1
    have := ((hC.2.2 a ha).2.2.2 (A.pt a - 1) (by omega)).2
    unfold cn_lw AN.lr
    rw [show 4 * a + A.pt a - 1 = 4 * a + (A.pt a - 1) by omega]
    exact this
  have hf2 : dF A.n A.M A.fr A.tr A.lr (cn_en u) := fun a ha ho => hf a ha (by rw [← hen a ha]; exact ho)
  have e0 : dm_z0 u = lF (fun j => if j < 24 then 0 else (u.2 36 j).toInt) := by
    funext j
    show (if j < 24 then (0 : Int64) else u.2 36 j) = lI (if j < 24 then 0 else (u.2 36 j).toInt)
    split
    · rfl
    · exact (lI_to _).symm
  have hz : ∀ v, v < A.n → (fun j => if j < 24 then 0 else (u.2 36 j).toInt) v = 0 := fun v hv => if_pos (by omega)
  have hr := rx_eT hM hf2 hw (A.n + 1) 0 (fun j => if j < 24 then 0 else (u.2 36 j).toInt) (fun v hv => by rw [if_pos (show v < 24 by omega)]; omega) (by omega)
  rw [eT_on hen] at hr
  rw [e0, hr]
  refine ⟨_, rfl, fun h => ?_, ?_⟩
  · obtain ⟨a, b⟩ := eT_end (n := A.n) (V0 := fun j => if j < 24 then 0 else (u.2 36 j).toInt) hf (A.n + 1) _ dI_0 h
    have hd0 : d0 A.n (fun j => if j < 24 then 0 else (u.2 36 j).toInt) := fun v hv => Or.inr (hz v hv)
    have hle : ∀ v, v < A.n → (eT A.M A.fr A.tr A.lr A.en (A.n + 1) (fun j => if j < 24 then 0 else (u.2 36 j).toInt)).1 v ≤ 0 := fun v hv => by
      have := a.1 v hv
      rw [hz v hv] at this
      exact this
    refine ⟨fun i hi ho => b i hi ho (by have := hle _ (hf i hi ho).1.1; unfold fAR; omega), fun v hv => ⟨dB_lo hn hf hd0 a b v hv, hle v hv⟩⟩
  · exact eT_iff hn hf hz
