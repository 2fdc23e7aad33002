/-! ===== Router.findFlow ===== -/
def ff_fr (u u' : dm_S) : Prop := (∀ c, c ∉ [32, 33, 35, 4] → u'.1 c = u.1 c) ∧ (∀ k, k ≠ 6 → u'.1 4 k = u.1 4 k) ∧ ∀ c, c ∉ [24, 25, 34] → u'.2 c = u.2 c
theorem ff_nt {u u' : dm_S} (h : ff_fr u u') : nt_fr u u' := by
  refine ⟨fun c hc => h.1 c ?_, fun c hc => h.2.2 c ?_⟩
  · intro z; revert hc z; revert c; decide
  · intro z; revert hc z; revert c; decide
theorem LN_fr {u u' : dm_S} {A : AN} (h : LN u A) (h1 : ∀ c, c ∈ [1, 2, 19, 20, 21] → u'.1 c = u.1 c) (h2 : ∀ c, c ∈ [22, 23] → u'.2 c = u.2 c) : LN u' A := by
  obtain ⟨a1, ⟨a2, a3⟩, a4⟩ := h
  refine ⟨fun a ha => ?_, ⟨?_, fun l hl => ?_⟩, fun l hl => ?_⟩
  · rw [h1 19 (by decide)]; exact a1 a ha
  · rw [h1 1 (by decide), h1 2 (by decide)]; exact a2
  · rw [h1 20 (by decide), h1 21 (by decide)]; exact a3 l hl
  · rw [h2 22 (by decide), h2 23 (by decide)]; exact a4 l hl
theorem so_eq {u u' : dm_S} {n K : Nat} {b e hd sr : Nat → Nat} (h : so_ok u n K b e hd sr) (h1 : u'.1 26 = u.1 26) (h2 : u'.1 27 = u.1 27) : so_ok u' n K b e hd sr := by
  obtain ⟨a1, a2, a3, a4⟩ := h
  refine ⟨fun v hv => by rw [h1]; exact a1 v hv, a2, fun v t x y z => by rw [h2]; exact a3 v t x y z, a4⟩
theorem LN_mm {u : dm_S} {A : AN} (h : LN u A) (hA : A.ok) : ∃ mm, u.2 22 = lF mm ∧ ∀ l, l < A.K → mm l = A.w 1000000000 l := by
  refine ⟨fun l => (u.2 22 l).toInt, (lF_to _).symm, fun l hl => ?_⟩
  have := A.w_bd hA (B := 1000000000) (by omega) hl
  show (u.2 22 l).toInt = _
  rw [(h.2.2 l hl).1, lI_ti (by omega)]
theorem AN.s_bd {A : AN} (hA : A.ok) {v : Nat} (hv : v < A.n) : -104000000 ≤ A.s v ∧ A.s v ≤ 104000000 := by
  have h1 := A.pe_s hA (f := A.s) (fun _ _ => rfl)
  have h2 := sI_term (f := fun v => if 0 ≤ A.s v then A.s v else 0) (n := A.n) (fun i _ => by show 0 ≤ if 0 ≤ A.s i then A.s i else 0; split <;> omega) hv
  have h3 : (if 0 ≤ A.s v then A.s v else 0) ≤ pe A.n A.s := h2
  have h4 : dv A.M A.fr A.tr (fun a => A.st (4 * a)) v ≤ A.M * 1000000 := sI_bd (fun a ha => by
    show (if A.fr a = v then A.st (4 * a) else 0) - (if A.tr a = v then A.st (4 * a) else 0) ≤ 1000000
    have q1 := (hA.2.1 a ha).2.2.1
    have q2 := ((hA.2.1 a ha).2.2.2.1 0 (by have := (hA.2.1 a ha).2.1.1; omega)).1
    rw [Nat.add_zero] at q2
    split <;> split <;> omega)
  have h5 := (hA.2.2 v hv).1
  have h6 := hA.1.2
  have h7 : A.s v = A.su v - dv A.M A.fr A.tr (fun a => A.st (4 * a)) v := rfl
  split at h3 <;> omega
theorem ul_I {u : dm_S} {A : AN} (hA : A.ok) (hC : CR u A) : ∃ lo ex : Nat → Int, dm_sj (dm_fj u 24 320 0) 25 (cn_ex (dm_fj u 24 320 0) A.n A.fr A.tr A.pt A.M) = st_x u lo ex ∧ (∀ l, l < 320 → lo l = 0) ∧ ∀ v, v < A.n → ex v = A.s v := by
  have e1 : dm_fj u 24 320 0 = dm_sj u 24 (lF (fun l => if l < 320 then 0 else (u.2 24 l).toInt)) := by
    unfold dm_fj dm_sj
    refine Prod.ext rfl ?_
    funext c
    show (if c = 24 then (fun j => if j < 320 then (0 : Int64) else u.2 24 j) else u.2 c) = if c = 24 then lF (fun l => if l < 320 then 0 else (u.2 24 l).toInt) else u.2 c
    congr 1
    funext j
    show (if j < 320 then (0 : Int64) else u.2 24 j) = lI (if j < 320 then 0 else (u.2 24 j).toInt)
    split
    · rfl
    · exact (lI_to _).symm
  have hC' : CR (dm_fj u 24 320 0) A := CR_fr hC ⟨fun _ _ => rfl, fun c hc => by
    rw [e1]
    show (if c = 24 then _ else u.2 c) = u.2 c
    rw [if_neg (fun z => by rw [z] at hc; revert hc; decide)]⟩
  have hx : (dm_fj u 24 320 0).2 24 = lF (fun l => if l < 320 then 0 else (u.2 24 l).toInt) := by rw [e1]; rfl
  obtain ⟨f, h1, h2⟩ := wg_I hA hC' hx
  refine ⟨fun l => if l < 320 then 0 else (u.2 24 l).toInt, f, ?_, fun l hl => if_pos hl, fun v hv => ?_⟩
  · rw [h1, e1]; rfl
  · rw [h2 v hv]
    have : dv A.K A.b A.e (fun l => if l < 320 then 0 else (u.2 24 l).toInt) v = dv A.K A.b A.e (fun _ => 0) v := dv_cg (fun l hl => by
      have := A.K_le hA
      show (if l < 320 then 0 else (u.2 24 l).toInt) = 0
      rw [if_pos (by omega)])
    rw [this]
    have : dv A.K A.b A.e (fun _ => 0) v = 0 := sI_0 (fun l _ => by split <;> split <;> rfl)
    omega
theorem LB_eq {K : Nat} {mm w lo : Nat → Int} (h : fits K mm lo) (hm : ∀ l, l < K → mm l = w l) : fits K w lo := fun l hl => by
  rw [← hm l hl]; exact h l hl
/-- a search that found nothing: THE SET -/
theorem ff_stk {A : AN} (hA : A.ok) {mm lo ex lo' ex' : Nat → Int} {vn : Nat → Option (Option Nat)} {lev : Nat → Nat} {car : Nat → Int} {q : Nat → Nat} {m : Nat} (hm : ∀ l, l < A.K → mm l = A.w 1000000000 l) (hl0 : ∀ l, l < 320 → lo l = 0) (he0 : ∀ v, v < A.n → ex v = A.s v) (hs : snt A.n A.K A.b A.e (fun _ => true) mm lo ex lo' ex') (h : bfI A.n A.K A.b A.e (fun _ => true) mm lo' ex' vn lev car q m) (hx : bfX A.K A.b A.e (fun _ => true) mm lo' ex' vn lev q m) (hS : bfS A.n ex' vn) : stk A.n A.K A.b A.e A.ln (A.w 1000000000) A.s lo' (fun v => (vn v).isSome) := by
  have hK := A.K_le hA
  have hnd := AN.nd hA
  have hexs : ∀ v, v < A.n → ex' v = A.s v - dv A.K A.b A.e lo' v := by
    intro v hv
    have h1 := hs.2.1 v hv
    have h2 : dv A.K A.b A.e lo v = 0 := by
      have : dv A.K A.b A.e lo v = dv A.K A.b A.e (fun _ => 0) v := dv_cg (fun l hl => hl0 l (by omega))
      rw [this]
      exact sI_0 (fun l _ => by split <;> split <;> rfl)
    rw [he0 v hv] at h1
    omega
  have hsome : ∀ v, (vn v).isSome = true ↔ vn v ≠ none := by
    intro v
    cases vn v <;> simp
  have hnone : ∀ v, (vn v).isSome = false ↔ vn v = none := by
    intro v
    cases vn v <;> simp
  have hcl : ∀ w, w < 2 * A.K → 0 < wm mm lo' w → vn (wb A.b A.e w) ≠ none → vn (we A.b A.e w) ≠ none := by
    intro w hw hr hv
    have hbn : wb A.b A.e w < A.n := by
      obtain ⟨c1, c2⟩ := hnd (w / 2) (by omega)
      unfold wb
      split <;> assumption
    obtain ⟨-, j, hj, ej⟩ := h.2.2.1 _ hbn hv
    exact ((hx j hj).2 w hw rfl hr ej.symm).1
  have hE : ∀ l, wb A.b A.e (2 * l) = A.b l ∧ we A.b A.e (2 * l) = A.e l ∧ wm mm lo' (2 * l) = mm l - lo' l := by
    intro l
    unfold wb we wm
    rw [if_pos (by omega), if_pos (by omega), if_pos (by omega), show 2 * l / 2 = l by omega]
    exact ⟨rfl, rfl, rfl⟩
  have hO : ∀ l, wb A.b A.e (2 * l + 1) = A.e l ∧ we A.b A.e (2 * l + 1) = A.b l ∧ wm mm lo' (2 * l + 1) = lo' l := by
    intro l
    unfold wb we wm
    rw [if_neg (by omega), if_neg (by omega), if_neg (by omega), show (2 * l + 1) / 2 = l by omega]
    exact ⟨rfl, rfl, rfl⟩
  refine ⟨fun l hl s1 s2 => ?_, fun l hl s1 s2 => ?_, fun v hv hp => ?_, fun v hv hp => ?_, fun T t1 t2 t3 v hv hq => ?_⟩
  · obtain ⟨f1, f2⟩ := hs.1 l hl
    have e1 : lo' l = mm l := by
      rcases Int.lt_or_le (lo' l) (mm l) with y | y
      · obtain ⟨o1, o2, o3⟩ := hE l
        have := hcl (2 * l) (by omega) (by rw [o3]; omega) (by rw [o1]; exact (hsome _).mp s1)
        rw [o2] at this
        exact absurd ((hnone _).mp s2) this
      · omega
    refine ⟨by rw [e1]; exact hm l hl, ?_⟩
    cases hq : A.ln l
    · rfl
    · exfalso
      have h5 := hs.2.2.2.2 l hl
      rw [hl0 l (by omega)] at h5
      have h6 := A.pe_s hA he0
      have h7 : 0 ≤ pe A.n ex' := sI_ge0 (fun v _ => by show 0 ≤ if 0 ≤ ex' v then ex' v else 0; split <;> omega)
      rw [hm l hl] at e1
      obtain ⟨g1, k, g2, g3, g4⟩ := A.l_in hl
      unfold AN.ln at hq
      simp only [Bool.and_eq_true, decide_eq_true_eq] at hq
      have g5 : cn_fs A.pt (A.ar l + 1) = cn_fs A.pt (A.ar l) + A.pt (A.ar l) := rfl
      have g6 : A.w 1000000000 l = 1000000000 - A.st (4 * A.ar l + k) := by
        have g7 := A.w_at (B := 1000000000) g1 g2
        rw [← g3] at g7
        rw [g7]
        unfold AN.ed
        rw [if_neg (by omega), if_pos hq.1]
      have g8 := ((hA.2.1 _ g1).2.2.2.1 k g2).1
      omega
  · obtain ⟨f1, f2⟩ := hs.1 l hl
    rcases Int.lt_or_le 0 (lo' l) with y | y
    · obtain ⟨o1, o2, o3⟩ := hO l
      have := hcl (2 * l + 1) (by omega) (by rw [o3]; omega) (by rw [o1]; exact (hsome _).mp s2)
      rw [o2] at this
      exact absurd ((hnone _).mp s1) this
    · omega
  · rw [← hexs v hv] at hp
    show (vn v).isSome = true
    rw [hS v hv hp]; rfl
  · rw [← hexs v hv] at hp
    refine (hnone v).mpr ?_
    cases hq : vn v with
    | none => rfl
    | some o =>
      obtain ⟨-, j, hj, ej⟩ := h.2.2.1 v hv (by rw [hq]; simp)
      have := (hx j hj).1
      rw [ej] at this
      omega
  · refine h.2.2.2.2.2 (fun v => T v = true) (fun w hw _ hr ht => ?_) (fun u hu hp => t3 u hu (by rw [← hexs u hu]; exact hp)) v hv ((hsome v).mp hq)
    show T (we A.b A.e w) = true
    cases hz : T (we A.b A.e w)
    · exfalso
      have ht2 : T (wb A.b A.e w) = true := ht
      rcases Nat.mod_two_eq_zero_or_one w with y | y
      · obtain ⟨o1, o2, o3⟩ := hE (w / 2)
        rw [show 2 * (w / 2) = w by omega] at o1 o2 o3
        rw [o1] at ht2
        rw [o2] at hz
        have := t1 (w / 2) (by omega) ht2 hz
        rw [o3, hm _ (by omega)] at hr
        omega
      · obtain ⟨o1, o2, o3⟩ := hO (w / 2)
        rw [show 2 * (w / 2) + 1 = w by omega] at o1 o2 o3
        rw [o1] at ht2
        rw [o2] at hz
        have := t2 (w / 2) (by omega) hz ht2
        rw [o3] at hr
        omega
    · rfl
