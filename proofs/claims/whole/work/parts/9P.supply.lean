/-! ===== supply ===== -/
theorem l_bd {d : Int64} (h : -1000000 ≤ d ∧ d ≤ 1000000) : -1000000 ≤ d.toInt ∧ d.toInt ≤ 1000000 := by
  have d1 := Int64.le_iff_toInt_le.mp h.1
  have d2 := Int64.le_iff_toInt_le.mp h.2
  have d3 : ((-1000000 : Int64).toInt) = -1000000 := rfl
  have d4 : ((1000000 : Int64).toInt) = 1000000 := rfl
  rw [d3] at d1
  rw [d4] at d2
  exact ⟨d1, d2⟩
/-- the net with another supply -/
def AN.sup (A : AN) (i : Nat) (z : Int) : AN := AN.mk A.n A.M A.fr A.tr A.pt A.en A.tp A.st A.rt (uI A.su i z)
theorem b_supply {u v : dm_S} {x : Int32} {d : Int64} (h : Inv u v) : same (sp_X10_supply [.ref 0, .int x, .long d] u) (sp_X11_supply [.ref 0, .int x, .long d] v) := by
  have hI := h
  obtain ⟨A, hN, ⟨n, c, T, p1, p2⟩, hS⟩ := h
  obtain ⟨hA, hC, hM, hk⟩ := hN
  obtain ⟨hn, hM80⟩ := hA.1
  have e1 := hC.1.1
  have e2 := hM.1.1
  refine ⟨fun z => ?_, fun z => ⟨fun z2 => absurd (by rw [e1]; rw [e2] at z2; exact z2) z, fun _ => ⟨rfl, hI⟩⟩⟩
  rw [e1] at z
  obtain ⟨x1, x2⟩ := i_nI (by omega) z.1
  have ix : vp_in x 24 := by rw [x1]; exact vp_in_nI (by omega) (by omega)
  have db := l_bd z.2
  refine ⟨ix, fun _ => ⟨ix, ?_, A.sup x.toNatClampNeg d.toInt, ⟨?_, ?_, ?_, hk⟩, ⟨n, c, T, p1, p2⟩, Or.inl ⟨rfl, ⟨rfl, rfl, rfl⟩, rfl, rfl⟩⟩, fun z2 => absurd (by rw [e2]; exact z) z2⟩
  · rw [hC.2.1 _ x2, hM.2.1 _ x2]
  · refine ⟨hA.1, hA.2.1, fun w hw => ?_⟩
    show -1000000 ≤ uI A.su x.toNatClampNeg d.toInt w ∧ uI A.su x.toNatClampNeg d.toInt w ≤ 1000000
    unfold uI
    by_cases y : w = x.toNatClampNeg
    · rw [if_pos y]; exact db
    · rw [if_neg y]; exact hA.2.2 w hw
  · refine ⟨hC.1, fun w hw => ?_, hC.2.2⟩
    show (dm_ul (dm_fg u) 11 x.toNatClampNeg d).2 11 w = lI (uI A.su x.toNatClampNeg d.toInt w)
    rw [dm_ul_2, if_pos rfl]
    unfold vp_updL uI
    by_cases y : w = x.toNatClampNeg
    · rw [if_pos y, if_pos y, lI_to]
    · rw [if_neg y, if_neg y]; exact hC.2.1 w hw
  · refine ⟨hM.1, fun w hw => ?_, hM.2.2⟩
    show (dm_ul v 1 x.toNatClampNeg d).2 1 w = lI (uI A.su x.toNatClampNeg d.toInt w)
    rw [dm_ul_2, if_pos rfl]
    unfold vp_updL uI
    by_cases y : w = x.toNatClampNeg
    · rw [if_pos y, if_pos y, lI_to]
    · rw [if_neg y, if_neg y]; exact hM.2.1 w hw
