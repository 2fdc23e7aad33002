/-! ===== A MACHINE OF OUR OWN over static cells: a state is two functions (numbers of one slot, of two) by cell and place ===== -/
abbrev dm_S : Type := (Nat → Nat → Int32) × (Nat → Nat → Int64)
/-- a cell's shape: an array (0 int, 1 long, 2 boolean; its length), or an object (its class's number; its fields: 0 int, 1 long, 2 boolean, k + 3 a reference to cell k) -/
abbrev dm_H : Type := (Nat × Nat) ⊕ (Nat × List Nat)
def dm_fv (ad : Nat → Nat) (u : dm_S) (c k : Nat) (f : Nat) : Value := match f with
  | 0 => .int (u.1 c k)
  | 1 => .long (u.2 c k)
  | 2 => .int (u.1 c k)
  | n + 3 => .ref (ad n)
def dm_en (ad : Nat → Nat) (cA : Nat → ClassId) (u : dm_S) (c : Nat) (h : dm_H) : va_E := match h with
  | .inl (k, n) => if k = 1 then .inl (cA 1, n, .inr (.inl (u.2 c))) else .inl (cA k, n, .inl (u.1 c))
  | .inr (ci, fs) => .inr (ci, fs.mapIdx (fun k f => dm_fv ad u c k f))
def dm_w (ad : Nat → Nat) (cA : Nat → ClassId) (sh : List dm_H) (u : dm_S) : va_W := sh.mapIdx (fun c h => (ad c, dm_en ad cA u c h))
def dm_ui (u : dm_S) (c j : Nat) (x : Int32) : dm_S := (fun c' => if c' = c then upd (u.1 c) j x else u.1 c', u.2)
def dm_ul (u : dm_S) (c j : Nat) (x : Int64) : dm_S := (u.1, fun c' => if c' = c then vp_updL (u.2 c) j x else u.2 c')
def dm_cv (ad : Nat → Nat) (v : Value) : Value := match v with
  | .ref c => .ref (ad c)
  | v => v
theorem dm_w_at {ad : Nat → Nat} {cA : Nat → ClassId} {sh : List dm_H} {u : dm_S} {c : Nat} {h : dm_H} (hc : sh[c]? = some h) : (dm_w ad cA sh u)[c]? = some (ad c, dm_en ad cA u c h) := by
  simp [dm_w, List.getElem?_mapIdx, hc]
theorem dm_w_of {ad : Nat → Nat} {cA : Nat → ClassId} {sh : List dm_H} {u : dm_S} {c : Nat} {q : Nat × va_E} (hc : (dm_w ad cA sh u)[c]? = some q) : ∃ h, sh[c]? = some h ∧ q = (ad c, dm_en ad cA u c h) := by
  simp only [dm_w, List.getElem?_mapIdx, Option.map_eq_some_iff] at hc
  obtain ⟨h, h1, h2⟩ := hc
  exact ⟨h, h1, h2.symm⟩
theorem dm_D {ad : Nat → Nat} {cA : Nat → ClassId} {sh : List dm_H} {u u' : dm_S} {A : Nat → Prop} (h : va_D A (dm_w ad cA sh u)) : va_D A (dm_w ad cA sh u') := by
  refine ⟨fun i j p q hp hq e => ?_, fun k q hq => ?_⟩
  · obtain ⟨h1, e1, rfl⟩ := dm_w_of hp
    obtain ⟨h2, e2, rfl⟩ := dm_w_of hq
    exact h.1 i j _ _ (dm_w_at e1) (dm_w_at e2) e
  · obtain ⟨h1, e1, rfl⟩ := dm_w_of hq
    exact h.2 k (ad k, dm_en ad cA u k h1) (dm_w_at e1)
theorem dm_w_A {ad : Nat → Nat} {cA : Nat → ClassId} {sh : List dm_H} {u u' : dm_S} {sz : Nat} : va_A (dm_w ad cA sh u) sz = va_A (dm_w ad cA sh u') sz := by
  funext q
  apply propext
  constructor
  · rintro (⟨k, e, h⟩ | h)
    · obtain ⟨h1, e1, e2⟩ := dm_w_of h
      refine Or.inl ⟨k, dm_en ad cA u' k h1, ?_⟩
      rw [dm_w_at e1]
      rw [Prod.mk.injEq] at e2
      rw [e2.1]
    · exact Or.inr h
  · rintro (⟨k, e, h⟩ | h)
    · obtain ⟨h1, e1, e2⟩ := dm_w_of h
      refine Or.inl ⟨k, dm_en ad cA u k h1, ?_⟩
      rw [dm_w_at e1]
      rw [Prod.mk.injEq] at e2
      rw [e2.1]
    · exact Or.inr h
theorem dm_en_eq {ad : Nat → Nat} {cA : Nat → ClassId} {u u' : dm_S} {c : Nat} {h : dm_H} (h1 : u'.1 c = u.1 c) (h2 : u'.2 c = u.2 c) : dm_en ad cA u' c h = dm_en ad cA u c h := by
  have hf : ∀ k f, dm_fv ad u' c k f = dm_fv ad u c k f := by
    intro k f
    unfold dm_fv
    split <;> simp [h1, h2]
  rcases h with ⟨k, n⟩ | ⟨ci, fs⟩
  · simp only [dm_en, h1, h2]
  · simp only [dm_en]
    congr 2
    apply List.ext_getElem?
    intro i
    simp only [List.getElem?_mapIdx, hf]
theorem dm_w_set {ad : Nat → Nat} {cA : Nat → ClassId} {sh : List dm_H} {u u' : dm_S} {c : Nat} {h : dm_H} (hc : sh[c]? = some h) (h1 : ∀ c', c' ≠ c → u'.1 c' = u.1 c') (h2 : ∀ c', c' ≠ c → u'.2 c' = u.2 c') : dm_w ad cA sh u' = (dm_w ad cA sh u).set c (ad c, dm_en ad cA u' c h) := by
  apply List.ext_getElem?
  intro i
  by_cases hi : i = c
  · subst hi
    rw [dm_w_at hc]
    have hl : i < (dm_w ad cA sh u).length := by
      have := (List.getElem?_eq_some_iff.mp hc).1
      simpa [dm_w] using this
    rw [List.getElem?_set_self hl]
  · rw [List.getElem?_set_ne (fun e => hi e.symm)]
    simp only [dm_w, List.getElem?_mapIdx]
    congr 1
    funext h'
    rw [dm_en_eq (h1 i hi) (h2 i hi)]
/-! the locals, by their numbers -/
def dm_lh (ad : Nat → Nat) (ls : Array Slot) (nL : Nat) (L : List (Option Value)) : Prop := (ls.size = nL ∧ L.length = nL) ∧ lv_wf ls ∧ ∀ (i : Nat) (v : Value), L[i]? = some (some v) → ls[i]? = some (.val (dm_cv ad v))
def dm_clr (L : List (Option Value)) (i : Nat) : List (Option Value) := match i with
  | 0 => L
  | j + 1 => match L[j]? with
    | some (some (.long _)) => L.set j none
    | some (some (.double _)) => L.set j none
    | _ => L
def dm_s1 (L : List (Option Value)) (i : Nat) (v : Value) : List (Option Value) := (dm_clr L i).set i (some v)
def dm_s2 (L : List (Option Value)) (i : Nat) (v : Value) : List (Option Value) := ((dm_clr L i).set (i + 1) none).set i (some v)
def dm_ll (ad : Nat → Nat) (L : List (Option Value)) : List (Nat × Value) := (L.mapIdx (fun i o => o.map (fun v => (i, dm_cv ad v)))).filterMap id
theorem dm_ll_mem {ad : Nat → Nat} {L : List (Option Value)} {q : Nat × Value} : q ∈ dm_ll ad L ↔ ∃ v, L[q.1]? = some (some v) ∧ q.2 = dm_cv ad v := by
  unfold dm_ll
  rw [List.mem_filterMap]
  constructor
  · rintro ⟨o, h1, h2⟩
    obtain ⟨i, hi⟩ := List.mem_iff_getElem?.mp h1
    rw [List.getElem?_mapIdx] at hi
    cases hL : L[i]? with
    | none => rw [hL] at hi; cases hi
    | some w =>
      rw [hL] at hi
      simp only [Option.map_some, Option.some.injEq] at hi
      subst hi
      cases w with
      | none => cases h2
      | some v =>
        simp only [Option.map_some, id_eq, Option.some.injEq] at h2
        subst h2
        exact ⟨v, hL, rfl⟩
  · rintro ⟨v, h1, h2⟩
    refine ⟨some q, List.mem_iff_getElem?.mpr ⟨q.1, ?_⟩, rfl⟩
    rw [List.getElem?_mapIdx, h1]
    simp only [Option.map_some]
    rw [← h2]
theorem dm_lh.has {ad : Nat → Nat} {ls : Array Slot} {nL : Nat} {L : List (Option Value)} (h : dm_lh ad ls nL L) : lv_has ls nL (dm_ll ad L) := by
  refine ⟨h.1.1, h.2.1, fun q hq => ?_⟩
  obtain ⟨v, h1, h2⟩ := dm_ll_mem.mp hq
  rw [h2]
  exact h.2.2 _ _ h1
theorem dm_clr_len (L : List (Option Value)) (i : Nat) : (dm_clr L i).length = L.length := by
  unfold dm_clr
  split
  · rfl
  · split <;> simp
theorem dm_clr_at {L : List (Option Value)} {i j : Nat} {w : Value} (h : (dm_clr L i)[j]? = some (some w)) : L[j]? = some (some w) ∧ ¬ (j + 1 = i ∧ w.category = 2) := by
  unfold dm_clr at h
  split at h
  · exact ⟨h, fun q => by omega⟩
  · rename_i k
    split at h
    · rename_i x hx
      by_cases hj : j = k
      · subst hj
        rw [List.getElem?_set_self (List.getElem?_eq_some_iff.mp hx).1] at h
        cases h
      · rw [List.getElem?_set_ne (fun e => hj e.symm)] at h
        exact ⟨h, fun q => hj (by omega)⟩
    · rename_i x hx
      by_cases hj : j = k
      · subst hj
        rw [List.getElem?_set_self (List.getElem?_eq_some_iff.mp hx).1] at h
        cases h
      · rw [List.getElem?_set_ne (fun e => hj e.symm)] at h
        exact ⟨h, fun q => hj (by omega)⟩
    · rename_i n1 n2
      refine ⟨h, fun q => ?_⟩
      have hj : j = k := by omega
      subst hj
      cases w with
      | long z => exact n1 z h
      | double z => exact n2 z h
      | _ => cases q.2
theorem dm_cv_cat (ad : Nat → Nat) (v : Value) : (dm_cv ad v).category = v.category := by
  cases v <;> rfl
theorem dm_lh.s1 {ad : Nat → Nat} {ls ls' : Array Slot} {nL i : Nat} {v v' : Value} {L : List (Option Value)} (h : dm_lh ad ls nL L) (hv : v' = dm_cv ad v) (h' : lv_has ls' nL ((i, v') :: (dm_ll ad L).filter (fun q => !(q.1 == i) && !(q.1 + 1 == i && q.2.category == 2)))) : dm_lh ad ls' nL (dm_s1 L i v) := by
  refine ⟨⟨h'.1, by simp [dm_s1, dm_clr_len, h.1.2]⟩, h'.2.1, fun j w hj => ?_⟩
  unfold dm_s1 at hj
  by_cases e : j = i
  · subst e
    have hl : j < (dm_clr L j).length := by
      have := (List.getElem?_eq_some_iff.mp hj).1
      simpa using this
    rw [List.getElem?_set_self hl] at hj
    cases hj
    rw [← hv]
    exact h'.2.2 (j, v') List.mem_cons_self
  · rw [List.getElem?_set_ne (fun q => e q.symm)] at hj
    obtain ⟨a1, a2⟩ := dm_clr_at hj
    refine h'.2.2 (j, dm_cv ad w) (List.mem_cons_of_mem _ (List.mem_filter.mpr ⟨dm_ll_mem.mpr ⟨w, a1, rfl⟩, ?_⟩))
    simp only [dm_cv_cat, Bool.and_eq_true, Bool.not_eq_true', beq_eq_false_iff_ne, ne_eq, Bool.and_eq_false_iff]
    exact ⟨e, by by_cases z : j + 1 = i
                 · exact Or.inr (fun y => a2 ⟨z, y⟩)
                 · exact Or.inl z⟩
theorem dm_lh.s2 {ad : Nat → Nat} {ls ls' : Array Slot} {nL i : Nat} {v v' : Value} {L : List (Option Value)} (h : dm_lh ad ls nL L) (hv : v' = dm_cv ad v) (h' : lv_has ls' nL ((i, v') :: (dm_ll ad L).filter (fun q => !(q.1 == i) && (!(q.1 == i + 1) && !(q.1 + 1 == i && q.2.category == 2))))) : dm_lh ad ls' nL (dm_s2 L i v) := by
  refine ⟨⟨h'.1, by simp [dm_s2, dm_clr_len, h.1.2]⟩, h'.2.1, fun j w hj => ?_⟩
  unfold dm_s2 at hj
  by_cases e : j = i
  · subst e
    have hl : j < ((dm_clr L j).set (j + 1) none).length := by
      have := (List.getElem?_eq_some_iff.mp hj).1
      simpa using this
    rw [List.getElem?_set_self hl] at hj
    cases hj
    rw [← hv]
    exact h'.2.2 (j, v') List.mem_cons_self
  · rw [List.getElem?_set_ne (fun q => e q.symm)] at hj
    have e2 : j ≠ i + 1 := by
      intro q
      subst q
      have hl : i + 1 < (dm_clr L i).length := by
        have := (List.getElem?_eq_some_iff.mp hj).1
        simpa using this
      rw [List.getElem?_set_self hl] at hj
      cases hj
    rw [List.getElem?_set_ne (fun q => e2 q.symm)] at hj
    obtain ⟨a1, a2⟩ := dm_clr_at hj
    refine h'.2.2 (j, dm_cv ad w) (List.mem_cons_of_mem _ (List.mem_filter.mpr ⟨dm_ll_mem.mpr ⟨w, a1, rfl⟩, ?_⟩))
    simp only [dm_cv_cat, Bool.and_eq_true, Bool.not_eq_true', beq_eq_false_iff_ne, ne_eq, Bool.and_eq_false_iff]
    exact ⟨e, e2, by by_cases z : j + 1 = i
                     · exact Or.inr (fun y => a2 ⟨z, y⟩)
                     · exact Or.inl z⟩
