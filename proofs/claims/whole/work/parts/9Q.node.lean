/-! ===== node ===== -/
/-- the net with one node more -/
def AN.nod (A : AN) (z : Int) : AN := AN.mk (A.n + 1) A.M A.fr A.tr A.pt A.en A.tp A.st A.rt (uI A.su A.n z)
theorem b_node {u v : dm_S} {d : Int64} (h : Inv u v) : same (sp_X10_node [.ref 0, .long d] u) (sp_X11_node [.ref 0, .long d] v) := by
  have hI := h
  obtain ⟨A, hN, ⟨n, c, T, p1, p2⟩, hS⟩ := h
  obtain ⟨hA, hC, hM, hk⟩ := hN
  obtain ⟨hn, hM80⟩ := hA.1
  have e1 := hC.1.1
  have e2 := hM.1.1
  have t1 : u.1 1 8 < 24 ↔ A.n < 24 := by rw [e1]; exact nI_ltI (b := 24) (by omega) (by omega)
  have t2 : v.1 0 0 = 24 ↔ A.n = 24 := by rw [e2]; exact nI_eq (b := 24) (by omega) (by omega)
  refine ⟨fun z => ?_, fun z => ⟨fun z2 => absurd ⟨t1.mpr (Nat.lt_of_le_of_ne hn (fun q => z2.1 (t2.mpr q))), z2.2⟩ z, fun _ => ⟨rfl, hI⟩⟩⟩
  have hn24 := t1.mp z.1
  have cn : (nI A.n).toNatClampNeg = A.n := nI_clamp (by omega)
  have ix : vp_in (nI A.n) 24 := vp_in_nI (by omega) (by omega)
  have db := l_bd z.2
  rw [e1, cn]
  refine ⟨ix, fun z2 => ?_, fun z2 => absurd ⟨fun q => by have := t2.mp q; omega, z.2⟩ z2⟩
  rw [e2, cn]
  refine ⟨ix, rfl, A.nod d.toInt, ⟨?_, ?_, ?_, ?_⟩, ⟨n, c, T, p1, p2⟩, Or.inl ⟨rfl, ⟨rfl, rfl, rfl⟩, rfl, rfl⟩⟩
  · refine ⟨⟨by show A.n + 1 ≤ 24; omega, hM80⟩, fun a ha => ?_, fun w hw => ?_⟩
    · obtain ⟨⟨q1, q2, q3⟩, q4⟩ := hA.2.1 a ha
      exact ⟨⟨Nat.lt_succ_of_lt q1, Nat.lt_succ_of_lt q2, q3⟩, q4⟩
    · show -1000000 ≤ uI A.su A.n d.toInt w ∧ uI A.su A.n d.toInt w ≤ 1000000
      unfold uI
      by_cases y : w = A.n
      · rw [if_pos y]; exact db
      · rw [if_neg y]
        have hw' : w < A.n + 1 := hw
        exact hA.2.2 w (by omega)
  · refine ⟨⟨?_, hC.1.2⟩, fun w hw => ?_, hC.2.2⟩
    · rw [dm_ui_1, if_pos rfl]
      exact (if_pos rfl).trans (nI_1 _)
    · show (dm_ul (dm_fg u) 11 A.n d).2 11 w = lI (uI A.su A.n d.toInt w)
      rw [dm_ul_2, if_pos rfl]
      unfold vp_updL uI
      by_cases y : w = A.n
      · rw [if_pos y, if_pos y, lI_to]
      · rw [if_neg y, if_neg y]
        have hw' : w < A.n + 1 := hw
        exact hC.2.1 w (by omega)
  · refine ⟨⟨?_, hM.1.2⟩, fun w hw => ?_, hM.2.2⟩
    · show nI A.n + 1 = nI (A.n + 1)
      exact nI_1 _
    · show (dm_ul v 1 A.n d).2 1 w = lI (uI A.su A.n d.toInt w)
      rw [dm_ul_2, if_pos rfl]
      unfold vp_updL uI
      by_cases y : w = A.n
      · rw [if_pos y, if_pos y, lI_to]
      · rw [if_neg y, if_neg y]
        have hw' : w < A.n + 1 := hw
        exact hM.2.1 w (by omega)
  · exact hk
