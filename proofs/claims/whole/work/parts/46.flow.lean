/-! ===== what is too much where: in whole numbers ===== -/
theorem dm_sg_I {x : Nat → Int} {p : Nat} : ∀ {n : Nat}, dm_sg (lF x) p n = lI (sI (fun k => x (p + k)) n)
  | 0 => rfl
  | n + 1 => by
    show dm_sg (lF x) p n + lF x (p + n) = lI (sI (fun k => x (p + k)) n + x (p + n))
    rw [dm_sg_I, lF_at, lI_add]
/-- what goes on an arc -/
def AN.on (A : AN) (x : Nat → Int) (a : Nat) : Int := A.st (4 * a) + A.am x a
theorem cn_am_I {u : dm_S} {A : AN} {x : Nat → Int} (hA : A.ok) (hC : CR u A) (hx : u.2 24 = lF x) {a : Nat} (ha : a < A.M) : cn_am u A.pt a = lI (A.on x a) := by
  have h1 := ((hC.2.2 a ha).2.2.2 0 (by have := (hA.2.1 a ha).2.1.1; omega)).1
  rw [Nat.add_zero] at h1
  unfold cn_am
  rw [hx, dm_sg_I, h1, lI_add]
  rfl
theorem cn_ex_I {u : dm_S} {A : AN} {x : Nat → Int} (hA : A.ok) (hC : CR u A) (hx : u.2 24 = lF x) : ∀ a, a ≤ A.M → ∃ f : Nat → Int, cn_ex u A.n A.fr A.tr A.pt a = lF f ∧ ∀ v, v < A.n → f v = A.su v - dv a A.fr A.tr (A.on x) v
  | 0, _ => by
    refine ⟨fun j => if j < A.n then A.su j else (u.2 25 j).toInt, ?_, fun v hv => ?_⟩
    · funext j
      show (if j < A.n then u.2 11 j else u.2 25 j) = lI (if j < A.n then A.su j else (u.2 25 j).toInt)
      split
      · rename_i h; exact hC.2.1 j h
      · exact (lI_to _).symm
    · show (if v < A.n then A.su v else (u.2 25 v).toInt) = A.su v - 0
      rw [if_pos hv]; omega
  | a + 1, ha => by
    obtain ⟨f, h1, h2⟩ := cn_ex_I hA hC hx a (by omega)
    have ham : a < A.M := by omega
    have hne := (hA.2.1 a ham).1.2.2
    show ∃ g : Nat → Int, vp_updL (vp_updL (cn_ex u A.n A.fr A.tr A.pt a) (A.fr a) (cn_ex u A.n A.fr A.tr A.pt a (A.fr a) - cn_am u A.pt a)) (A.tr a) (vp_updL (cn_ex u A.n A.fr A.tr A.pt a) (A.fr a) (cn_ex u A.n A.fr A.tr A.pt a (A.fr a) - cn_am u A.pt a) (A.tr a) + cn_am u A.pt a) = lF g ∧ _
    rw [h1, cn_am_I hA hC hx ham, lF_at, lI_sub, lF_upd, lF_at, lI_add, lF_upd]
    refine ⟨_, rfl, fun v hv => ?_⟩
    have h3 := h2 v hv
    show _ = A.su v - (dv a A.fr A.tr (A.on x) v + ((if A.fr a = v then A.on x a else 0) - (if A.tr a = v then A.on x a else 0)))
    unfold uI
    by_cases q1 : v = A.tr a
    · subst q1
      rw [if_pos rfl, if_neg (Ne.symm hne), if_pos rfl, if_neg hne]; omega
    · rw [if_neg q1, if_neg (Ne.symm q1)]
      by_cases q2 : v = A.fr a
      · subst q2
        rw [if_pos rfl, if_pos rfl]; omega
      · rw [if_neg q2, if_neg (Ne.symm q2)]; omega
/-- behind weigh -/
theorem wg_I {u : dm_S} {A : AN} {x : Nat → Int} (hA : A.ok) (hC : CR u A) (hx : u.2 24 = lF x) : ∃ f : Nat → Int, cn_ex u A.n A.fr A.tr A.pt A.M = lF f ∧ ∀ v, v < A.n → f v = A.s v - dv A.K A.b A.e x v := by
  obtain ⟨f, h1, h2⟩ := cn_ex_I hA hC hx A.M (Nat.le_refl _)
  refine ⟨f, h1, fun v hv => ?_⟩
  rw [h2 v hv, A.dv_am]
  unfold AN.s
  have : dv A.M A.fr A.tr (A.on x) v = dv A.M A.fr A.tr (fun a => A.st (4 * a)) v + dv A.M A.fr A.tr (A.am x) v := by
    rw [← dv_add]; rfl
  omega
/-- all that is too much, when every arc has its LOW -/
theorem AN.pe_s {A : AN} (hA : A.ok) {f : Nat → Int} (hf : ∀ v, v < A.n → f v = A.s v) : pe A.n f ≤ 104000000 := by
  have h1 : pe A.n f ≤ sI (fun v => 1000000 + sI (fun a => if A.tr a = v then A.st (4 * a) else 0) A.M) A.n := sI_le (fun v hv => by
    show (if 0 ≤ f v then f v else 0) ≤ 1000000 + sI (fun a => if A.tr a = v then A.st (4 * a) else 0) A.M
    have h2 : 0 ≤ sI (fun a => if A.tr a = v then A.st (4 * a) else 0) A.M := sI_ge0 (fun a ha => by
      show 0 ≤ if A.tr a = v then A.st (4 * a) else 0
      have := (hA.2.1 a ha).2.2.1
      split <;> omega)
    have h3 : A.s v ≤ 1000000 + sI (fun a => if A.tr a = v then A.st (4 * a) else 0) A.M := by
      have h4 : -sI (fun a => if A.tr a = v then A.st (4 * a) else 0) A.M ≤ dv A.M A.fr A.tr (fun a => A.st (4 * a)) v := by
        have h5 : sI (fun a => (-1) * (if A.tr a = v then A.st (4 * a) else 0)) A.M ≤ dv A.M A.fr A.tr (fun a => A.st (4 * a)) v := sI_le (fun a ha => by
          show (-1) * (if A.tr a = v then A.st (4 * a) else 0) ≤ (if A.fr a = v then A.st (4 * a) else 0) - (if A.tr a = v then A.st (4 * a) else 0)
          have := (hA.2.1 a ha).2.2.1
          split <;> split <;> omega)
        rw [sI_mul] at h5
        omega
      have := (hA.2.2 v hv).2
      unfold AN.s
      omega
    rw [hf v hv]
    split <;> omega)
  have h2 : sI (fun v => sI (fun a => if A.tr a = v then A.st (4 * a) else 0) A.M) A.n ≤ A.M * 1000000 := by
    rw [sI_swap]
    refine sI_bd (fun a ha => ?_)
    have h3 : sI (fun v => if A.tr a = v then A.st (4 * a) else 0) A.n = sI (fun v => if v = A.tr a then A.st (4 * a) else 0) A.n := sI_cg (fun v _ => by
      by_cases q : A.tr a = v
      · rw [if_pos q, if_pos q.symm]
      · rw [if_neg q, if_neg (Ne.symm q)])
    show sI (fun v => if A.tr a = v then A.st (4 * a) else 0) A.n ≤ 1000000
    rw [h3, sI_one, if_pos (hA.2.1 a ha).1.2.1]
    have := ((hA.2.1 a ha).2.2.2.1 0 (by have := (hA.2.1 a ha).2.1.1; omega)).1
    exact this
  rw [sI_add, sI_const] at h1
  have := hA.1.1
  have := hA.1.2
  omega
