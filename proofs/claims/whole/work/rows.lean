section
/-! ===== A MACHINE OF OUR OWN over static cells: a state is two functions (numbers of one slot, of two) by cell and place ===== -/
abbrev dm_S : Type := (Nat → Nat → Int32) × (Nat → Nat → Int64)
/-- a cell's shape: an array (0 int, 1 long, 2 boolean; its length), or an object (its class's number; its fields: 0 int, 1 long, 2 boolean, k + 3 a reference to cell k) -/
abbrev dm_H : Type := (Nat × Nat) ⊕ (Nat × List Nat)
def dm_fv (ad : Nat → Nat) (u : dm_S) (c k : Nat) (f : Nat) : Value := match f with
  | 0 => .int (u.1 c k)
  | 1 => .long (u.2 c k)
  | 2 => .int (u.1 c k)
  | n + 3 => .ref (ad n)
def dm_en (ad : Nat → Nat) (cA : Nat → ClassId) (u : dm_S) (c : Nat) (h : dm_H) : va_E := match h with
  | .inl (k, n) => if k = 1 then .inl (cA 1, n, .inr (.inl (u.2 c))) else .inl (cA k, n, .inl (u.1 c))
  | .inr (ci, fs) => .inr (ci, fs.mapIdx (fun k f => dm_fv ad u c k f))
def dm_w (ad : Nat → Nat) (cA : Nat → ClassId) (sh : List dm_H) (u : dm_S) : va_W := sh.mapIdx (fun c h => (ad c, dm_en ad cA u c h))
def dm_ui (u : dm_S) (c j : Nat) (x : Int32) : dm_S := (fun c' => if c' = c then upd (u.1 c) j x else u.1 c', u.2)
def dm_ul (u : dm_S) (c j : Nat) (x : Int64) : dm_S := (u.1, fun c' => if c' = c then vp_updL (u.2 c) j x else u.2 c')
def dm_cv (ad : Nat → Nat) (v : Value) : Value := match v with
  | .ref c => .ref (ad c)
  | v => v
theorem dm_w_at {ad : Nat → Nat} {cA : Nat → ClassId} {sh : List dm_H} {u : dm_S} {c : Nat} {h : dm_H} (hc : sh[c]? = some h) : (dm_w ad cA sh u)[c]? = some (ad c, dm_en ad cA u c h) := by
  simp [dm_w, List.getElem?_mapIdx, hc]
theorem dm_w_of {ad : Nat → Nat} {cA : Nat → ClassId} {sh : List dm_H} {u : dm_S} {c : Nat} {q : Nat × va_E} (hc : (dm_w ad cA sh u)[c]? = some q) : ∃ h, sh[c]? = some h ∧ q = (ad c, dm_en ad cA u c h) := by
  simp only [dm_w, List.getElem?_mapIdx, Option.map_eq_some_iff] at hc
  obtain ⟨h, h1, h2⟩ := hc
  exact ⟨h, h1, h2.symm⟩
theorem dm_D {ad : Nat → Nat} {cA : Nat → ClassId} {sh : List dm_H} {u u' : dm_S} {A : Nat → Prop} (h : va_D A (dm_w ad cA sh u)) : va_D A (dm_w ad cA sh u') := by
  refine ⟨fun i j p q hp hq e => ?_, fun k q hq => ?_⟩
  · obtain ⟨h1, e1, rfl⟩ := dm_w_of hp
    obtain ⟨h2, e2, rfl⟩ := dm_w_of hq
    exact h.1 i j _ _ (dm_w_at e1) (dm_w_at e2) e
  · obtain ⟨h1, e1, rfl⟩ := dm_w_of hq
    exact h.2 k (ad k, dm_en ad cA u k h1) (dm_w_at e1)
theorem dm_w_A {ad : Nat → Nat} {cA : Nat → ClassId} {sh : List dm_H} {u u' : dm_S} {sz : Nat} : va_A (dm_w ad cA sh u) sz = va_A (dm_w ad cA sh u') sz := by
  funext q
  apply propext
  constructor
  · rintro (⟨k, e, h⟩ | h)
    · obtain ⟨h1, e1, e2⟩ := dm_w_of h
      refine Or.inl ⟨k, dm_en ad cA u' k h1, ?_⟩
      rw [dm_w_at e1]
      rw [Prod.mk.injEq] at e2
      rw [e2.1]
    · exact Or.inr h
  · rintro (⟨k, e, h⟩ | h)
    · obtain ⟨h1, e1, e2⟩ := dm_w_of h
      refine Or.inl ⟨k, dm_en ad cA u k h1, ?_⟩
      rw [dm_w_at e1]
      rw [Prod.mk.injEq] at e2
      rw [e2.1]
    · exact Or.inr h
theorem dm_en_eq {ad : Nat → Nat} {cA : Nat → ClassId} {u u' : dm_S} {c : Nat} {h : dm_H} (h1 : u'.1 c = u.1 c) (h2 : u'.2 c = u.2 c) : dm_en ad cA u' c h = dm_en ad cA u c h := by
  have hf : ∀ k f, dm_fv ad u' c k f = dm_fv ad u c k f := by
    intro k f
    unfold dm_fv
    split <;> simp [h1, h2]
  rcases h with ⟨k, n⟩ | ⟨ci, fs⟩
  · simp only [dm_en, h1, h2]
  · simp only [dm_en]
    congr 2
    apply List.ext_getElem?
    intro i
    simp only [List.getElem?_mapIdx, hf]
theorem dm_w_set {ad : Nat → Nat} {cA : Nat → ClassId} {sh : List dm_H} {u u' : dm_S} {c : Nat} {h : dm_H} (hc : sh[c]? = some h) (h1 : ∀ c', c' ≠ c → u'.1 c' = u.1 c') (h2 : ∀ c', c' ≠ c → u'.2 c' = u.2 c') : dm_w ad cA sh u' = (dm_w ad cA sh u).set c (ad c, dm_en ad cA u' c h) := by
  apply List.ext_getElem?
  intro i
  by_cases hi : i = c
  · subst hi
    rw [dm_w_at hc]
    have hl : i < (dm_w ad cA sh u).length := by
      have := (List.getElem?_eq_some_iff.mp hc).1
      simpa [dm_w] using this
    rw [List.getElem?_set_self hl]
  · rw [List.getElem?_set_ne (fun e => hi e.symm)]
    simp only [dm_w, List.getElem?_mapIdx]
    congr 1
    funext h'
    rw [dm_en_eq (h1 i hi) (h2 i hi)]
/-! the locals, by their numbers -/
def dm_lh (ad : Nat → Nat) (ls : Array Slot) (nL : Nat) (L : List (Option Value)) : Prop := (ls.size = nL ∧ L.length = nL) ∧ lv_wf ls ∧ ∀ (i : Nat) (v : Value), L[i]? = some (some v) → ls[i]? = some (.val (dm_cv ad v))
def dm_clr (L : List (Option Value)) (i : Nat) : List (Option Value) := match i with
  | 0 => L
  | j + 1 => match L[j]? with
    | some (some (.long _)) => L.set j none
    | some (some (.double _)) => L.set j none
    | _ => L
def dm_s1 (L : List (Option Value)) (i : Nat) (v : Value) : List (Option Value) := (dm_clr L i).set i (some v)
def dm_s2 (L : List (Option Value)) (i : Nat) (v : Value) : List (Option Value) := ((dm_clr L i).set (i + 1) none).set i (some v)
def dm_ll (ad : Nat → Nat) (L : List (Option Value)) : List (Nat × Value) := (L.mapIdx (fun i o => o.map (fun v => (i, dm_cv ad v)))).filterMap id
theorem dm_ll_mem {ad : Nat → Nat} {L : List (Option Value)} {q : Nat × Value} : q ∈ dm_ll ad L ↔ ∃ v, L[q.1]? = some (some v) ∧ q.2 = dm_cv ad v := by
  unfold dm_ll
  rw [List.mem_filterMap]
  constructor
  · rintro ⟨o, h1, h2⟩
    obtain ⟨i, hi⟩ := List.mem_iff_getElem?.mp h1
    rw [List.getElem?_mapIdx] at hi
    cases hL : L[i]? with
    | none => rw [hL] at hi; cases hi
    | some w =>
      rw [hL] at hi
      simp only [Option.map_some, Option.some.injEq] at hi
      subst hi
      cases w with
      | none => cases h2
      | some v =>
        simp only [Option.map_some, id_eq, Option.some.injEq] at h2
        subst h2
        exact ⟨v, hL, rfl⟩
  · rintro ⟨v, h1, h2⟩
    refine ⟨some q, List.mem_iff_getElem?.mpr ⟨q.1, ?_⟩, rfl⟩
    rw [List.getElem?_mapIdx, h1]
    simp only [Option.map_some]
    rw [← h2]
theorem dm_lh.has {ad : Nat → Nat} {ls : Array Slot} {nL : Nat} {L : List (Option Value)} (h : dm_lh ad ls nL L) : lv_has ls nL (dm_ll ad L) := by
  refine ⟨h.1.1, h.2.1, fun q hq => ?_⟩
  obtain ⟨v, h1, h2⟩ := dm_ll_mem.mp hq
  rw [h2]
  exact h.2.2 _ _ h1
theorem dm_clr_len (L : List (Option Value)) (i : Nat) : (dm_clr L i).length = L.length := by
  unfold dm_clr
  split
  · rfl
  · split <;> simp
theorem dm_clr_at {L : List (Option Value)} {i j : Nat} {w : Value} (h : (dm_clr L i)[j]? = some (some w)) : L[j]? = some (some w) ∧ ¬ (j + 1 = i ∧ w.category = 2) := by
  unfold dm_clr at h
  split at h
  · exact ⟨h, fun q => by omega⟩
  · rename_i k
    split at h
    · rename_i x hx
      by_cases hj : j = k
      · subst hj
        rw [List.getElem?_set_self (List.getElem?_eq_some_iff.mp hx).1] at h
        cases h
      · rw [List.getElem?_set_ne (fun e => hj e.symm)] at h
        exact ⟨h, fun q => hj (by omega)⟩
    · rename_i x hx
      by_cases hj : j = k
      · subst hj
        rw [List.getElem?_set_self (List.getElem?_eq_some_iff.mp hx).1] at h
        cases h
      · rw [List.getElem?_set_ne (fun e => hj e.symm)] at h
        exact ⟨h, fun q => hj (by omega)⟩
    · rename_i n1 n2
      refine ⟨h, fun q => ?_⟩
      have hj : j = k := by omega
      subst hj
      cases w with
      | long z => exact n1 z h
      | double z => exact n2 z h
      | _ => cases q.2
theorem dm_cv_cat (ad : Nat → Nat) (v : Value) : (dm_cv ad v).category = v.category := by
  cases v <;> rfl
theorem dm_lh.s1 {ad : Nat → Nat} {ls ls' : Array Slot} {nL i : Nat} {v v' : Value} {L : List (Option Value)} (h : dm_lh ad ls nL L) (hv : v' = dm_cv ad v) (h' : lv_has ls' nL ((i, v') :: (dm_ll ad L).filter (fun q => !(q.1 == i) && !(q.1 + 1 == i && q.2.category == 2)))) : dm_lh ad ls' nL (dm_s1 L i v) := by
  refine ⟨⟨h'.1, by simp [dm_s1, dm_clr_len, h.1.2]⟩, h'.2.1, fun j w hj => ?_⟩
  unfold dm_s1 at hj
  by_cases e : j = i
  · subst e
    have hl : j < (dm_clr L j).length := by
      have := (List.getElem?_eq_some_iff.mp hj).1
      simpa using this
    rw [List.getElem?_set_self hl] at hj
    cases hj
    rw [← hv]
    exact h'.2.2 (j, v') List.mem_cons_self
  · rw [List.getElem?_set_ne (fun q => e q.symm)] at hj
    obtain ⟨a1, a2⟩ := dm_clr_at hj
    refine h'.2.2 (j, dm_cv ad w) (List.mem_cons_of_mem _ (List.mem_filter.mpr ⟨dm_ll_mem.mpr ⟨w, a1, rfl⟩, ?_⟩))
    simp only [dm_cv_cat, Bool.and_eq_true, Bool.not_eq_true', beq_eq_false_iff_ne, ne_eq, Bool.and_eq_false_iff]
    exact ⟨e, by by_cases z : j + 1 = i
                 · exact Or.inr (fun y => a2 ⟨z, y⟩)
                 · exact Or.inl z⟩
theorem dm_lh.s2 {ad : Nat → Nat} {ls ls' : Array Slot} {nL i : Nat} {v v' : Value} {L : List (Option Value)} (h : dm_lh ad ls nL L) (hv : v' = dm_cv ad v) (h' : lv_has ls' nL ((i, v') :: (dm_ll ad L).filter (fun q => !(q.1 == i) && (!(q.1 == i + 1) && !(q.1 + 1 == i && q.2.category == 2))))) : dm_lh ad ls' nL (dm_s2 L i v) := by
  refine ⟨⟨h'.1, by simp [dm_s2, dm_clr_len, h.1.2]⟩, h'.2.1, fun j w hj => ?_⟩
  unfold dm_s2 at hj
  by_cases e : j = i
  · subst e
    have hl : j < ((dm_clr L j).set (j + 1) none).length := by
      have := (List.getElem?_eq_some_iff.mp hj).1
      simpa using this
    rw [List.getElem?_set_self hl] at hj
    cases hj
    rw [← hv]
    exact h'.2.2 (j, v') List.mem_cons_self
  · rw [List.getElem?_set_ne (fun q => e q.symm)] at hj
    have e2 : j ≠ i + 1 := by
      intro q
      subst q
      have hl : i + 1 < (dm_clr L i).length := by
        have := (List.getElem?_eq_some_iff.mp hj).1
        simpa using this
      rw [List.getElem?_set_self hl] at hj
      cases hj
    rw [List.getElem?_set_ne (fun q => e2 q.symm)] at hj
    obtain ⟨a1, a2⟩ := dm_clr_at hj
    refine h'.2.2 (j, dm_cv ad w) (List.mem_cons_of_mem _ (List.mem_filter.mpr ⟨dm_ll_mem.mpr ⟨w, a1, rfl⟩, ?_⟩))
    simp only [dm_cv_cat, Bool.and_eq_true, Bool.not_eq_true', beq_eq_false_iff_ne, ne_eq, Bool.and_eq_false_iff]
    exact ⟨e, e2, by by_cases z : j + 1 = i
                     · exact Or.inr (fun y => a2 ⟨z, y⟩)
                     · exact Or.inl z⟩
end
section
/-! ===== THE MACHINE'S INSTRUCTIONS: what is left to show, as a condition on what comes behind ===== -/
/-- what pool numbers mean: fields (class's number, place), ints, longs, methods (number, arguments without the receiver, the receiver's class's number, 1000 for a static one); what it answers: 0 nothing, 1 int, 2 long, 3 boolean -/
abbrev dm_X : Type := (Nat → Option (Nat × Nat)) × (Nat → Option Int32) × (Nat → Option Int64) × (Nat → Option (Nat × Nat × Nat)) × Nat
abbrev dm_Sp : Type := Nat → List Value → dm_S → (Option Value → dm_S → Prop) → Prop
abbrev dm_K : Type := Nat → List (Option Value) → List Value → dm_S → Prop
abbrev dm_I : Type := Nat × Instr × Nat × List Nat
def dm_t1 (K : dm_K) (t : List Nat) (L : List (Option Value)) (S : List Value) (u : dm_S) : Prop := match t with
  | a :: _ => K a L S u
  | [] => False
def dm_sw (x : Int32) (K : dm_K) (L : List (Option Value)) (S : List Value) (u : dm_S) : Int → List Nat → Prop
  | _, [] => True
  | lo, t :: ts => (x.toInt = lo → K t L S u) ∧ dm_sw x K L S u (lo + 1) ts
def dm_ic (o : Jvm.ClassFile.Cond) (x y : Int32) : Prop := match o with
  | .eq => x = y
  | .ne => ¬ x = y
  | .lt => x < y
  | .ge => y ≤ x
  | .gt => y < x
  | .le => x ≤ y
def dm_cs (S : List Value) : Nat := (S.map fun v => v.category).sum
/-- behind a call -/
def dm_cc (K : dm_K) (pc : Nat) (L : List (Option Value)) (S : List Value) (r : Option Value) (u : dm_S) : Prop := match r with
  | some v => K pc L (v :: S) u
  | none => K pc L S u
def dm_x (sh : List dm_H) (X : dm_X) (Sp : dm_Sp) (K : dm_K) (Rt : Option Value → dm_S → Prop) (i : Instr) (t : List Nat) (pc : Nat) (L : List (Option Value)) (S : List Value) (u : dm_S) : Prop :=
  match i with
  | .iconst n => K (pc + 1) L (.int (Int32.ofInt n) :: S) u
  | .bipush n => K (pc + 2) L (.int (Int8.ofInt n).toInt32 :: S) u
  | .sipush n => K (pc + 3) L (.int (Int16.ofInt n).toInt32 :: S) u
  | .lconst n => K (pc + 1) L (.long (Int64.ofNat n.val) :: S) u
  | .ldc j => match X.2.1 j with
    | some v => K (pc + 2) L (.int v :: S) u
    | none => False
  | .ldc_w j => match X.2.1 j with
    | some v => K (pc + 3) L (.int v :: S) u
    | none => False
  | .ldc2_w j => match X.2.2.1 j with
    | some v => K (pc + 3) L (.long v :: S) u
    | none => False
  | .iload_n _ => match L[t.headD 1000]? with
    | some (some (.int x)) => K (pc + 1) L (.int x :: S) u
    | _ => False
  | .iload k => match L[k]? with
    | some (some (.int x)) => K (pc + 2) L (.int x :: S) u
    | _ => False
  | .lload_n _ => match L[t.headD 1000]? with
    | some (some (.long x)) => K (pc + 1) L (.long x :: S) u
    | _ => False
  | .lload k => match L[k]? with
    | some (some (.long x)) => K (pc + 2) L (.long x :: S) u
    | _ => False
  | .aload_n _ => match L[t.headD 1000]? with
    | some (some (.ref x)) => K (pc + 1) L (.ref x :: S) u
    | _ => False
  | .aload k => match L[k]? with
    | some (some (.ref x)) => K (pc + 2) L (.ref x :: S) u
    | _ => False
  | .istore_n _ => match S with
    | .int x :: S => t.headD 1000 < L.length ∧ K (pc + 1) (dm_s1 L (t.headD 1000) (.int x)) S u
    | _ => False
  | .istore k => match S with
    | .int x :: S => k < L.length ∧ K (pc + 2) (dm_s1 L k (.int x)) S u
    | _ => False
  | .lstore_n _ => match S with
    | .long x :: S => t.headD 1000 + 1 < L.length ∧ K (pc + 1) (dm_s2 L (t.headD 1000) (.long x)) S u
    | _ => False
  | .lstore k => match S with
    | .long x :: S => k + 1 < L.length ∧ K (pc + 2) (dm_s2 L k (.long x)) S u
    | _ => False
  | .iinc k n => match L[k]? with
    | some (some (.int x)) => K (pc + 3) (dm_s1 L k (.int (x + Int32.ofInt n))) S u
    | _ => False
  | .iadd => match S with
    | .int y :: .int x :: S => K (pc + 1) L (.int (x + y) :: S) u
    | _ => False
  | .isub => match S with
    | .int y :: .int x :: S => K (pc + 1) L (.int (x - y) :: S) u
    | _ => False
  | .imul => match S with
    | .int y :: .int x :: S => K (pc + 1) L (.int (x * y) :: S) u
    | _ => False
  | .iand => match S with
    | .int y :: .int x :: S => K (pc + 1) L (.int (x &&& y) :: S) u
    | _ => False
  | .ior => match S with
    | .int y :: .int x :: S => K (pc + 1) L (.int (x ||| y) :: S) u
    | _ => False
  | .idiv => match S with
    | .int y :: .int x :: S => ¬ y = 0 ∧ K (pc + 1) L (.int (x / y) :: S) u
    | _ => False
  | .irem => match S with
    | .int y :: .int x :: S => ¬ y = 0 ∧ K (pc + 1) L (.int (x - x / y * y) :: S) u
    | _ => False
  | .ishl => match S with
    | .int y :: .int x :: S => K (pc + 1) L (.int (x <<< (y &&& 31)) :: S) u
    | _ => False
  | .ishr => match S with
    | .int y :: .int x :: S => K (pc + 1) L (.int (x >>> (y &&& 31)) :: S) u
    | _ => False
  | .iushr => match S with
    | .int y :: .int x :: S => K (pc + 1) L (.int (x.toUInt32 >>> (y.toUInt32 &&& Int32.toUInt32 31)).toInt32 :: S) u
    | _ => False
  | .ladd => match S with
    | .long y :: .long x :: S => K (pc + 1) L (.long (x + y) :: S) u
    | _ => False
  | .lsub => match S with
    | .long y :: .long x :: S => K (pc + 1) L (.long (x - y) :: S) u
    | _ => False
  | .lmul => match S with
    | .long y :: .long x :: S => K (pc + 1) L (.long (x * y) :: S) u
    | _ => False
  | .lneg => match S with
    | .long x :: S => K (pc + 1) L (.long (-x) :: S) u
    | _ => False
  | .lshr => match S with
    | .int y :: .long x :: S => K (pc + 1) L (.long (x >>> (y.toInt64 &&& 63)) :: S) u
    | _ => False
  | .i2l => match S with
    | .int x :: S => K (pc + 1) L (.long x.toInt64 :: S) u
    | _ => False
  | .l2i => match S with
    | .long x :: S => K (pc + 1) L (.int x.toInt32 :: S) u
    | _ => False
  | .lcmp => match S with
    | .long y :: .long x :: S => K (pc + 1) L (.int (lg_cmp x y) :: S) u
    | _ => False
  | .dup => match S with
    | .int x :: S => K (pc + 1) L (.int x :: .int x :: S) u
    | .ref x :: S => K (pc + 1) L (.ref x :: .ref x :: S) u
    | _ => False
  | .dup2 => match S with
    | .int y :: .ref x :: S => K (pc + 1) L (.int y :: .ref x :: .int y :: .ref x :: S) u
    | .long x :: S => K (pc + 1) L (.long x :: .long x :: S) u
    | _ => False
  | .iaload => match S with
    | .int j :: .ref c :: S => match sh[c]? with
      | some (.inl (0, n)) => vp_in j n ∧ K (pc + 1) L (.int (u.1 c j.toNatClampNeg) :: S) u
      | _ => False
    | _ => False
  | .baload => match S with
    | .int j :: .ref c :: S => match sh[c]? with
      | some (.inl (2, n)) => vp_in j n ∧ K (pc + 1) L (.int (u.1 c j.toNatClampNeg) :: S) u
      | _ => False
    | _ => False
  | .laload => match S with
    | .int j :: .ref c :: S => match sh[c]? with
      | some (.inl (1, n)) => vp_in j n ∧ K (pc + 1) L (.long (u.2 c j.toNatClampNeg) :: S) u
      | _ => False
    | _ => False
  | .iastore => match S with
    | .int x :: .int j :: .ref c :: S => match sh[c]? with
      | some (.inl (0, n)) => vp_in j n ∧ K (pc + 1) L S (dm_ui u c j.toNatClampNeg x)
      | _ => False
    | _ => False
  | .bastore => match S with
    | .int x :: .int j :: .ref c :: S => match sh[c]? with
      | some (.inl (2, n)) => vp_nar .boolean x = x ∧ vp_in j n ∧ K (pc + 1) L S (dm_ui u c j.toNatClampNeg x)
      | _ => False
    | _ => False
  | .lastore => match S with
    | .long x :: .int j :: .ref c :: S => match sh[c]? with
      | some (.inl (1, n)) => vp_in j n ∧ K (pc + 1) L S (dm_ul u c j.toNatClampNeg x)
      | _ => False
    | _ => False
  | .arraylength => match S with
    | .ref c :: S => match sh[c]? with
      | some (.inl (k, n)) => k < 3 ∧ K (pc + 1) L (.int (Int32.ofNat n) :: S) u
      | _ => False
    | _ => False
  | .getfield j => match S with
    | .ref c :: S => match X.1 j with
      | some (ci, k) => match sh[c]? with
        | some (.inr (ci', fs)) => ci = ci' ∧ match fs[k]? with
          | some 0 => K (pc + 3) L (.int (u.1 c k) :: S) u
          | some 1 => K (pc + 3) L (.long (u.2 c k) :: S) u
          | some 2 => K (pc + 3) L (.int (u.1 c k) :: S) u
          | some (n + 3) => K (pc + 3) L (.ref n :: S) u
          | none => False
        | _ => False
      | none => False
    | _ => False
  | .putfield j => match S with
    | .int x :: .ref c :: S => match X.1 j with
      | some (ci, k) => match sh[c]? with
        | some (.inr (ci', fs)) => ci = ci' ∧ match fs[k]? with
          | some 0 => K (pc + 3) L S (dm_ui u c k x)
          | some 2 => (narrow .boolean (.int x) = .int x ∧ fits .boolean (.int x) = true) ∧ K (pc + 3) L S (dm_ui u c k x)
          | _ => False
        | _ => False
      | none => False
    | .long x :: .ref c :: S => match X.1 j with
      | some (ci, k) => match sh[c]? with
        | some (.inr (ci', fs)) => ci = ci' ∧ match fs[k]? with
          | some 1 => K (pc + 3) L S (dm_ul u c k x)
          | _ => False
        | _ => False
      | none => False
    | _ => False
  | .ifCond o _ => match S with
    | .int x :: S => (dm_ic o x 0 → dm_t1 K t L S u) ∧ (¬ dm_ic o x 0 → K (pc + 3) L S u)
    | _ => False
  | .if_icmp o _ => match S with
    | .int y :: .int x :: S => (dm_ic o x y → dm_t1 K t L S u) ∧ (¬ dm_ic o x y → K (pc + 3) L S u)
    | _ => False
  | .goto _ => dm_t1 K t L S u
  | .tableswitch _ lo hi _ => match S with
    | .int x :: S => match t with
      | t0 :: ts => (x.toInt < lo ∨ hi < x.toInt → K t0 L S u) ∧ dm_sw x K L S u lo ts
      | [] => False
    | _ => False
  | .invokevirtual j => match X.2.2.2.1 j with
    | some (mid, n, ci) => match S.drop n with
      | .ref c :: S' => match sh[c]? with
        | some (.inr (ci', _)) => (ci = ci' ∧ ci < 1000 ∧ dm_cs S' ≤ 8) ∧ Sp mid (.ref c :: (S.take n).reverse) u (dm_cc K (pc + 3) L S')
        | _ => False
      | _ => False
    | none => False
  | .invokestatic j => match X.2.2.2.1 j with
    | some (mid, n, ci) => (ci = 1000 ∧ n ≤ S.length ∧ dm_cs (S.drop n) ≤ 8) ∧ Sp mid (S.take n).reverse u (dm_cc K (pc + 3) L (S.drop n))
    | none => False
  | .ireturn => match S with
    | [.int x] => match X.2.2.2.2 with
      | 1 => Rt (some (.int x)) u
      | 3 => narrow .boolean (.int x) = .int x ∧ Rt (some (.int x)) u
      | _ => False
    | _ => False
  | .lreturn => match S with
    | [.long x] => X.2.2.2.2 = 2 ∧ Rt (some (.long x)) u
    | _ => False
  | .return_ => match S with
    | [] => X.2.2.2.2 = 0 ∧ Rt none u
    | _ => False
  | _ => False
/-- the lengths of the instructions above -/
def dm_len (i : Instr) : Nat := match i with
  | .bipush _ | .ldc _ | .iload _ | .lload _ | .aload _ | .istore _ | .lstore _ => 2
  | .sipush _ | .ldc_w _ | .ldc2_w _ | .iinc _ _ | .getfield _ | .putfield _ | .ifCond _ _ | .if_icmp _ _ | .goto _ | .invokevirtual _ | .invokestatic _ => 3
  | _ => 1
/-- an instruction list is the code's -/
def dm_vb (cc : ByteArray) (q : dm_I) : Bool := decide (decode cc q.1 = .ok (q.2.1, q.2.2.1)) && match q.2.1, q.2.2.2 with
  | .ifCond _ off, [t] => decide ((q.1 : Int) + off = (t : Int)) && q.2.2.1 == 3
  | .if_icmp _ off, [t] => decide ((q.1 : Int) + off = (t : Int)) && q.2.2.1 == 3
  | .iload_n k, [t] => k.val == t && q.2.2.1 == 1
  | .lload_n k, [t] => k.val == t && q.2.2.1 == 1
  | .aload_n k, [t] => k.val == t && q.2.2.1 == 1
  | .istore_n k, [t] => k.val == t && q.2.2.1 == 1
  | .lstore_n k, [t] => k.val == t && q.2.2.1 == 1
  | .goto off, [t] => decide ((q.1 : Int) + off = (t : Int)) && q.2.2.1 == 3
  | .tableswitch d lo hi offs, t0 :: ts => decide ((q.1 : Int) + d = (t0 : Int)) && decide (offs.toList.map (fun (o : Int) => (q.1 : Int) + o) = ts.map (fun (a : Nat) => (a : Int))) && decide (hi + 1 = lo + ts.length)
  | .tableswitch _ _ _ _, [] => false
  | .ifCond _ _, [] => false
  | .if_icmp _ _, [] => false
  | .goto _, [] => false
  | .iload_n _, [] => false
  | .lload_n _, [] => false
  | .aload_n _, [] => false
  | .istore_n _, [] => false
  | .lstore_n _, [] => false
  | i, [] => q.2.2.1 == dm_len i
  | _, _ => false
/-- the instructions from pc on -/
def dm_fd (pc : Nat) : List dm_I → List dm_I
  | [] => []
  | q :: r => match q.1 == pc with
    | true => q :: r
    | false => dm_fd pc r
def dm_fn (prog rest : List dm_I) (pc : Nat) : List dm_I := match rest with
  | [] => dm_fd pc prog
  | q :: r => match q.1 == pc with
    | true => q :: r
    | false => dm_fd pc prog
def dm_wp (sh : List dm_H) (X : dm_X) (Sp : dm_Sp) (Rt : Option Value → dm_S → Prop) (prog : List dm_I) (cut : Nat → Bool) (K : dm_K) : Nat → Bool → List dm_I → Nat → List (Option Value) → List Value → dm_S → Prop
  | 0, _, _, _, _, _, _ => False
  | n + 1, b, rest, pc, L, S, u => match b && cut pc with
    | true => K pc L S u
    | false => match dm_fn prog rest pc with
      | [] => False
      | q :: r => dm_x sh X Sp (dm_wp sh X Sp Rt prog cut K n true r) Rt q.2.1 q.2.2.2 pc L S u
theorem dm_fd_ok {pc : Nat} {prog r : List dm_I} {q : dm_I} (h : dm_fd pc prog = q :: r) : q.1 = pc ∧ q ∈ prog ∧ ∀ z ∈ r, z ∈ prog := by
  induction prog with
  | nil => cases h
  | cons w t ih =>
    unfold dm_fd at h
    split at h
    · rename_i e
      cases h
      exact ⟨by simpa using e, List.mem_cons_self, fun z hz => List.mem_cons_of_mem _ hz⟩
    · obtain ⟨a, b, d⟩ := ih h
      exact ⟨a, List.mem_cons_of_mem _ b, fun z hz => List.mem_cons_of_mem _ (d z hz)⟩
theorem dm_fn_ok {pc : Nat} {prog rest r : List dm_I} {q : dm_I} (hr : ∀ z ∈ rest, z ∈ prog) (h : dm_fn prog rest pc = q :: r) : q.1 = pc ∧ q ∈ prog ∧ ∀ z ∈ r, z ∈ prog := by
  unfold dm_fn at h
  split at h
  · exact dm_fd_ok h
  · split at h
    · rename_i e
      cases h
      exact ⟨by simpa using e, hr _ List.mem_cons_self, fun z hz => hr z (List.mem_cons_of_mem _ hz)⟩
    · exact dm_fd_ok h
end
section
/-! ===== THE MACHINE IS SOUND ===== -/
def dm_tys (cA : Nat → ClassId) : List (ClassId × FieldType) := [(cA 0, .int), (cA 1, .long), (cA 2, .boolean)]
def dm_rt (k : Nat) : Option FieldType := match k with
  | 0 => none
  | 1 => some .int
  | 2 => some .long
  | _ => some .boolean
def dm_B (D : va_G) (cl : List vw_C) (cA : Nat → ClassId) (ad : Nat → Nat) (sh : List dm_H) (A : Nat → Prop) (u : dm_S) (t : State) : Prop := va_P D cl (dm_w ad cA sh u) t.heap ∧ va_K D cl (dm_tys cA) t ∧ va_D A (dm_w ad cA sh u)
def dm_Pc (D : va_G) (cl : List vw_C) (cA : Nat → ClassId) (ad : Nat → Nat) (sh : List dm_H) (sz : Nat) (As : List Value) (u : dm_S) : Array Value → State → Prop := va_Pc (As.map (dm_cv ad)) (fun U => U.heap.size = sz ∧ dm_B D cl cA ad sh (fun _ => True) u U)
def dm_Qc (D : va_G) (cl : List vw_C) (cA : Nat → ClassId) (ad : Nat → Nat) (sh : List dm_H) (A : Nat → Prop) (Qp : Option Value → dm_S → Prop) : Array Value → State → Outcome → State → Prop := fun _ st oc t => (∃ (r : Option Value) (v : dm_S), oc = .returned r ∧ (∀ a, r ≠ some (.ref a)) ∧ Qp r v ∧ dm_B D cl cA ad sh A v t) ∧ va_F A st t
/-- a contract: from every state and arguments of which P says that Qp holds behind it -/
def dm_Met (l : Launch) (D : va_G) (cl : List vw_C) (cA : Nat → ClassId) (ad : Nat → Nat) (sh : List dm_H) (y : MethodName) (ws : List Cond) (rm : Room) (P : List Value → dm_S → (Option Value → dm_S → Prop) → Prop) : Prop :=
  ∀ (sz : Nat) (As : List Value) (u : dm_S) (Qp : Option Value → dm_S → Prop), P As u Qp → Met l y ws rm (dm_Pc D cl cA ad sh sz As u) (dm_Qc D cl cA ad sh (va_A (dm_w ad cA sh u) sz) Qp) 0 0 (va_A (dm_w ad cA sh u) sz)
def dm_FO (Ts : List Cond) (own : String) (cl : List vw_C) (X : dm_X) : Prop := ∀ (j ci k : Nat), X.1 j = some (ci, k) → ∃ (C : String) (T : u_T) (N : Nat) (ty0 : Nat → FieldType), cl[ci]? = some (C, T, N) ∧ k < N ∧ (∀ w ∈ u_ws C T N, w ∈ Ts) ∧ Cond.fieldLink own j (T k).1 (T k).2.1 (T k).2.2.1 ∈ Ts ∧ (∀ k, k < N → parseFieldDescriptor (T k).2.2.1 = some (ty0 k)) ∧ (∀ a, a < N → ∀ b, b < N → a ≠ b → (T a).2.1 ≠ (T b).2.1)
def dm_IO (Ts : List Cond) (own : String) (X : dm_X) : Prop := (∀ j v, X.2.1 j = some v → Cond.constant own j v ∈ Ts) ∧ ∀ j v, X.2.2.1 j = some v → Cond.constantLong own j v ∈ Ts
def dm_SO (cl : List vw_C) (sh : List dm_H) : Prop := ∀ (c ci : Nat) (fs : List Nat), sh[c]? = some (.inr (ci, fs)) → ∀ (C : String) (T : u_T) (N : Nat), cl[ci]? = some (C, T, N) → ∀ (k f : Nat), fs[k]? = some f → (f = 0 → (T k).2.2.2 = false ∧ parseFieldDescriptor (T k).2.2.1 = some .int) ∧ (f = 1 → (T k).2.2.2 = false ∧ parseFieldDescriptor (T k).2.2.1 = some .long) ∧ (f = 2 → (T k).2.2.2 = false ∧ parseFieldDescriptor (T k).2.2.1 = some .boolean)
/-- what a call's pool number j needs: the callee's contract, its words, its room -/
def dm_M1 (l : Launch) (R : Room) (Ts : List Cond) (own : String) (D : va_G) (cl : List vw_C) (cA : Nat → ClassId) (ad : Nat → Nat) (sh : List dm_H) (P : List Value → dm_S → (Option Value → dm_S → Prop) → Prop) (j n ci : Nat) : Prop := ∃ (y : MethodName) (bytes : ByteArray) (maxL : Nat) (ret : Option FieldType) (ws' : List Cond) (rm : Room), dm_Met l D cl cA ad sh y (Cond.code y bytes maxL ret :: ws') rm P ∧ GoodIn Ts (Cond.code y bytes maxL ret :: ws') ∧ (rm.cells = 0 ∧ rm.slots = 0) ∧ (rm.frames + 1 ≤ R.frames ∧ 8 + (maxL + 11) + rm.locals ≤ R.locals) ∧ (Cond.initialized y.cls ∈ Ts ∧ Cond.methodLink own j y ∈ Ts) ∧ (y.cls ≠ "java/lang/invoke/MethodHandle" ∧ y.cls ≠ "java/lang/invoke/VarHandle" ∧ (parseMethodDescriptor y.desc).map (fun d => d.parameters.length) = some n) ∧ (ci = 1000 → Cond.static y ∈ Ts) ∧ (ci < 1000 → (Cond.instanceMethod y ∈ Ts ∧ Cond.selects y.cls y y ∈ Ts) ∧ ∃ T N, cl[ci]? = some (y.cls, T, N))
def dm_MO (l : Launch) (R : Room) (Ts : List Cond) (own : String) (D : va_G) (cl : List vw_C) (cA : Nat → ClassId) (ad : Nat → Nat) (sh : List dm_H) (X : dm_X) (Sp : dm_Sp) : Prop := ∀ (j mid n ci : Nat), X.2.2.2.1 j = some (mid, n, ci) → dm_M1 l R Ts own D cl cA ad sh (Sp mid) j n ci
def dm_C (p : Program) (s : State) (m : MethodId) (args : Array Value) (meth : Method) (c : Code) (cc : ByteArray) (nL : Nat) (Ts : List Cond) (own : String) (D : va_G) (cl : List vw_C) (cA : Nat → ClassId) (ad : Nat → Nat) (sh : List dm_H) (A : Nat → Prop) (rk : Nat) : Prop :=
  (p.tables.exec = Jvm.exec ∧ c.code = cc ∧ c.maxLocals = nL ∧ s.vm.findClass own = some m.cls ∧ ∀ w ∈ Ts, w.before args s = true) ∧ va_K D cl (dm_tys cA) s ∧ (∀ u, va_D A (dm_w ad cA sh u)) ∧ (∀ q, s.heap.size ≤ q → A q) ∧ meth.sig.returnType = dm_rt rk ∧ meth.locks = false
def dm_G (p : Program) (l : Launch) (e : Env) (R : Room) (s : State) (m : MethodId) (args : Array Value) (below : List Frame) (meth : Method) (c : Code) (D : va_G) (cl : List vw_C) (cA : Nat → ClassId) (ad : Nat → Nat) (sh : List dm_H) (A : Nat → Prop) (nL : Nat) (Q : State → Prop) : dm_K := fun pc L S u => ∀ (ls : Array Slot) (H : Heap) (locs : List Loc), dm_lh ad ls nL L → va_P D cl (dm_w ad cA sh u) H → va_S A s.heap H locs → W p l e R s m args below meth c H locs 0 0 Q (F0 m pc ls (S.map (dm_cv ad)))
def dm_pl (i : Instr) : Bool := match i with
  | .ifCond _ _ | .if_icmp _ _ | .goto _ | .tableswitch _ _ _ _ | .iload_n _ | .lload_n _ | .aload_n _ | .istore_n _ | .lstore_n _ => false
  | _ => true
theorem dm_vb_1 {cc : ByteArray} {pc n : Nat} {i : Instr} {t : List Nat} (hv : dm_vb cc (pc, i, n, t) = true) (hp : dm_pl i = true) : decode cc pc = .ok (i, dm_len i) := by
  simp only [dm_vb, Bool.and_eq_true, decide_eq_true_eq] at hv
  obtain ⟨h1, h2⟩ := hv
  have : n = dm_len i := by
    cases t with
    | nil =>
      cases i <;> (try (simp [dm_pl] at hp; done)) <;> simpa using h2
    | cons a b =>
      cases i <;> (try (simp [dm_pl] at hp; done)) <;> simp at h2
  rw [← this]
  exact h1
section DMS
variable {p : Program} {l : Launch} {e : Env} {R : Room} {s : State} {m : MethodId} {args : Array Value} {below : List Frame} {meth : Method} {c : Code} {D : va_G} {cl : List vw_C} {cA : Nat → ClassId} {ad : Nat → Nat} {sh : List dm_H} {A : Nat → Prop} {cc : ByteArray} {nL : Nat} {Ts : List Cond} {own : String} {X : dm_X} {Sp : dm_Sp} {Q : State → Prop}
variable {K : dm_K} {Qp : Option Value → dm_S → Prop} {pc : Nat} {L : List (Option Value)} {S : List Value} {u : dm_S} {t : List Nat} {n : Nat}
theorem dm_call {H : Heap} {locs : List Loc} {ls : Array Slot} {rest st0 : List Value} {a : Array Value} {A1 : Nat → Prop} {H0 : Heap} {free : Addr → Prop} (hr : va_Run p l e R s m args below meth c H locs 0 0 0 0 (F0 m pc ls st0) rest (dm_Qc D cl cA ad sh A1 Qp a) free) (hS : va_S A H0 H locs) (hA : ∀ q, q < H.size → A1 q → A q) (hf : ∀ q, free q → A q)
    (kk : ∀ (r : Option Value) (v : dm_S) (t : State) (H1 : Heap) (locs1 : List Loc), t.heap = H1 → s.vm.Alike t.vm → (∀ a, r ≠ some (.ref a)) → Qp r v → dm_B D cl cA ad sh A1 v t → va_S A H0 H1 locs1 → W p l e R s m args below meth c H1 locs1 0 0 Q (F0 m (pc + 3) ls (r.toList ++ rest))) : W p l e R s m args below meth c H locs 0 0 Q (F0 m pc ls st0) := by
  intro T hT X
  obtain ⟨v, st₀, t, T', L, h0, X', hL, e1, e2, ⟨⟨r, u, hv, hn, hp, hb⟩, hz, hk⟩, st⟩ := hr T hT X
  cases hv
  rw [h0] at hz hk
  obtain ⟨t2, a1, b1⟩ := kk v u t T'.heap (locs ++ L) e1.symm (by rw [← e2]; exact X'.warmed.alike) hn hp hb
    ⟨Nat.le_trans hS.1 (by rw [e1]; exact hz), fun q h1 h2 => by rw [e1, hk q (Nat.lt_of_lt_of_le h1 hS.1) (fun z => h2 (hA q (Nat.lt_of_lt_of_le h1 hS.1) z))]; exact hS.2.1 q h1 h2, fun q hq => by
      rcases List.mem_append.mp hq with h | h
      · exact hS.2.2 q h
      · exact hf _ (hL q h)⟩ T' rfl X'
  exact ⟨t2, st t2 a1, b1⟩
end DMS
end
section
/-! ===== one row an instruction ===== -/
section DMT
variable {p : Program} {l : Launch} {e : Env} {R : Room} {s : State} {m : MethodId} {args : Array Value} {below : List Frame} {meth : Method} {c : Code} {D : va_G} {cl : List vw_C} {cA : Nat → ClassId} {ad : Nat → Nat} {sh : List dm_H} {A : Nat → Prop} {cc : ByteArray} {nL : Nat} {Ts : List Cond} {own : String} {X : dm_X} {Sp : dm_Sp} {Q : State → Prop}
variable {K : dm_K} {Qp : Option Value → dm_S → Prop} {pc : Nat} {L : List (Option Value)} {S : List Value} {u : dm_S} {t : List Nat} {rk : Nat}
theorem dm_lh.st1 {ls : Array Slot} {i : Nat} {v : Value} (h : dm_lh ad ls nL L) {P : Array Slot → Prop} (k : ∀ ls', dm_lh ad ls' nL (dm_s1 L i v) → P ls') : ∀ ls' : Array Slot, lv_has ls' nL ((i, dm_cv ad v) :: (dm_ll ad L).filter (fun q => !(q.1 == i) && !(q.1 + 1 == i && q.2.category == 2))) → P ls' := fun ls' h' => k ls' (h.s1 rfl h')
theorem dm_lh.st2 {ls : Array Slot} {i : Nat} {v : Value} (h : dm_lh ad ls nL L) {P : Array Slot → Prop} (k : ∀ ls', dm_lh ad ls' nL (dm_s2 L i v) → P ls') : ∀ ls' : Array Slot, lv_has ls' nL ((i, dm_cv ad v) :: (dm_ll ad L).filter (fun q => !(q.1 == i) && (!(q.1 == i + 1) && !(q.1 + 1 == i && q.2.category == 2)))) → P ls' := fun ls' h' => k ls' (h.s2 rfl h')
theorem dm_T_iconst (C0 : dm_C p s m args meth c cc nL Ts own D cl cA ad sh A rk) (hK : ∀ pc L S u, K pc L S u → dm_G p l e R s m args below meth c D cl cA ad sh A nL Q pc L S u) {j : Int} (hd : decode cc pc = .ok (.iconst j, dm_len (.iconst j))) (h : dm_x sh X Sp K Qp (.iconst j) t pc L S u) : dm_G p l e R s m args below meth c D cl cA ad sh A nL Q pc L S u := by
  obtain ⟨⟨hx, hb, hml, hown, hts⟩, hKK, hDD, hA, hret, hlk⟩ := C0
  intro ls H locs hl hP hS
  exact lv_iconst hx hb hd rfl (hK _ _ _ _ h ls H locs hl hP hS)
theorem dm_T_bipush (C0 : dm_C p s m args meth c cc nL Ts own D cl cA ad sh A rk) (hK : ∀ pc L S u, K pc L S u → dm_G p l e R s m args below meth c D cl cA ad sh A nL Q pc L S u) {j : Int} (hd : decode cc pc = .ok (.bipush j, dm_len (.bipush j))) (h : dm_x sh X Sp K Qp (.bipush j) t pc L S u) : dm_G p l e R s m args below meth c D cl cA ad sh A nL Q pc L S u := by
  obtain ⟨⟨hx, hb, hml, hown, hts⟩, hKK, hDD, hA, hret, hlk⟩ := C0
  intro ls H locs hl hP hS
  exact lv_bipush hx hb hd rfl (hK _ _ _ _ h ls H locs hl hP hS)
theorem dm_T_sipush (C0 : dm_C p s m args meth c cc nL Ts own D cl cA ad sh A rk) (hK : ∀ pc L S u, K pc L S u → dm_G p l e R s m args below meth c D cl cA ad sh A nL Q pc L S u) {j : Int} (hd : decode cc pc = .ok (.sipush j, dm_len (.sipush j))) (h : dm_x sh X Sp K Qp (.sipush j) t pc L S u) : dm_G p l e R s m args below meth c D cl cA ad sh A nL Q pc L S u := by
  obtain ⟨⟨hx, hb, hml, hown, hts⟩, hKK, hDD, hA, hret, hlk⟩ := C0
  intro ls H locs hl hP hS
  exact lv_sipush hx hb hd rfl (hK _ _ _ _ h ls H locs hl hP hS)
theorem dm_T_lconst (C0 : dm_C p s m args meth c cc nL Ts own D cl cA ad sh A rk) (hK : ∀ pc L S u, K pc L S u → dm_G p l e R s m args below meth c D cl cA ad sh A nL Q pc L S u) {j : Fin 2} (hd : decode cc pc = .ok (.lconst j, dm_len (.lconst j))) (h : dm_x sh X Sp K Qp (.lconst j) t pc L S u) : dm_G p l e R s m args below meth c D cl cA ad sh A nL Q pc L S u := by
  obtain ⟨⟨hx, hb, hml, hown, hts⟩, hKK, hDD, hA, hret, hlk⟩ := C0
  intro ls H locs hl hP hS
  exact lv_lconst hx hb hd rfl (hK _ _ _ _ h ls H locs hl hP hS)
theorem dm_T_ldc (C0 : dm_C p s m args meth c cc nL Ts own D cl cA ad sh A rk) (hK : ∀ pc L S u, K pc L S u → dm_G p l e R s m args below meth c D cl cA ad sh A nL Q pc L S u) (hI : dm_IO Ts own X) {j : Nat} (hd : decode cc pc = .ok (.ldc j, dm_len (.ldc j))) (h : dm_x sh X Sp K Qp (.ldc j) t pc L S u) : dm_G p l e R s m args below meth c D cl cA ad sh A nL Q pc L S u := by
  obtain ⟨⟨hx, hb, hml, hown, hts⟩, hKK, hDD, hA, hret, hlk⟩ := C0
  intro ls H locs hl hP hS
  simp only [dm_x] at h
  split at h
  · rename_i v hv
    exact lv_ldc hx hb hown (hts _ (hI.1 _ _ hv)) hd (hK _ _ _ _ h ls H locs hl hP hS)
  · exact h.elim
theorem dm_T_ldc_w (C0 : dm_C p s m args meth c cc nL Ts own D cl cA ad sh A rk) (hK : ∀ pc L S u, K pc L S u → dm_G p l e R s m args below meth c D cl cA ad sh A nL Q pc L S u) (hI : dm_IO Ts own X) {j : Nat} (hd : decode cc pc = .ok (.ldc_w j, dm_len (.ldc_w j))) (h : dm_x sh X Sp K Qp (.ldc_w j) t pc L S u) : dm_G p l e R s m args below meth c D cl cA ad sh A nL Q pc L S u := by
  obtain ⟨⟨hx, hb, hml, hown, hts⟩, hKK, hDD, hA, hret, hlk⟩ := C0
  intro ls H locs hl hP hS
  simp only [dm_x] at h
  split at h
  · rename_i v hv
    exact lv_ldcw hx hb hown (hts _ (hI.1 _ _ hv)) hd (hK _ _ _ _ h ls H locs hl hP hS)
  · exact h.elim
theorem dm_T_ldc2_w (C0 : dm_C p s m args meth c cc nL Ts own D cl cA ad sh A rk) (hK : ∀ pc L S u, K pc L S u → dm_G p l e R s m args below meth c D cl cA ad sh A nL Q pc L S u) (hI : dm_IO Ts own X) {j : Nat} (hd : decode cc pc = .ok (.ldc2_w j, dm_len (.ldc2_w j))) (h : dm_x sh X Sp K Qp (.ldc2_w j) t pc L S u) : dm_G p l e R s m args below meth c D cl cA ad sh A nL Q pc L S u := by
  obtain ⟨⟨hx, hb, hml, hown, hts⟩, hKK, hDD, hA, hret, hlk⟩ := C0
  intro ls H locs hl hP hS
  simp only [dm_x] at h
  split at h
  · rename_i v hv
    exact lv_ldc2 hx hb hown (hts _ (hI.2 _ _ hv)) hd (hK _ _ _ _ h ls H locs hl hP hS)
  · exact h.elim
theorem dm_T_iload_n (C0 : dm_C p s m args meth c cc nL Ts own D cl cA ad sh A rk) (hK : ∀ pc L S u, K pc L S u → dm_G p l e R s m args below meth c D cl cA ad sh A nL Q pc L S u) {j : Fin 4} {a : Nat} (ht : t = [a]) (ho : j.val = a) (hd : decode cc pc = .ok (.iload_n j, dm_len (.iload_n j))) (h : dm_x sh X Sp K Qp (.iload_n j) t pc L S u) : dm_G p l e R s m args below meth c D cl cA ad sh A nL Q pc L S u := by
  obtain ⟨⟨hx, hb, hml, hown, hts⟩, hKK, hDD, hA, hret, hlk⟩ := C0
  intro ls H locs hl hP hS
  subst ht
  simp only [dm_x] at h
  split at h
  · rename_i x hx0
    exact lv_iload_n hx hb hd ho (hl.2.2 a _ hx0) (hK _ _ _ _ h ls H locs hl hP hS)
  · exact h.elim
theorem dm_T_iload (C0 : dm_C p s m args meth c cc nL Ts own D cl cA ad sh A rk) (hK : ∀ pc L S u, K pc L S u → dm_G p l e R s m args below meth c D cl cA ad sh A nL Q pc L S u) {j : Nat} (hd : decode cc pc = .ok (.iload j, dm_len (.iload j))) (h : dm_x sh X Sp K Qp (.iload j) t pc L S u) : dm_G p l e R s m args below meth c D cl cA ad sh A nL Q pc L S u := by
  obtain ⟨⟨hx, hb, hml, hown, hts⟩, hKK, hDD, hA, hret, hlk⟩ := C0
  intro ls H locs hl hP hS
  simp only [dm_x] at h
  split at h
  · rename_i x hx0
    exact lv_iload hx hb hd (hl.2.2 j _ hx0) (hK _ _ _ _ h ls H locs hl hP hS)
  · exact h.elim
theorem dm_T_lload_n (C0 : dm_C p s m args meth c cc nL Ts own D cl cA ad sh A rk) (hK : ∀ pc L S u, K pc L S u → dm_G p l e R s m args below meth c D cl cA ad sh A nL Q pc L S u) {j : Fin 4} {a : Nat} (ht : t = [a]) (ho : j.val = a) (hd : decode cc pc = .ok (.lload_n j, dm_len (.lload_n j))) (h : dm_x sh X Sp K Qp (.lload_n j) t pc L S u) : dm_G p l e R s m args below meth c D cl cA ad sh A nL Q pc L S u := by
  obtain ⟨⟨hx, hb, hml, hown, hts⟩, hKK, hDD, hA, hret, hlk⟩ := C0
  intro ls H locs hl hP hS
  subst ht
  simp only [dm_x] at h
  split at h
  · rename_i x hx0
    exact lv_lload_n hx hb hd ho (hl.2.2 a _ hx0) (hK _ _ _ _ h ls H locs hl hP hS)
  · exact h.elim
theorem dm_T_lload (C0 : dm_C p s m args meth c cc nL Ts own D cl cA ad sh A rk) (hK : ∀ pc L S u, K pc L S u → dm_G p l e R s m args below meth c D cl cA ad sh A nL Q pc L S u) {j : Nat} (hd : decode cc pc = .ok (.lload j, dm_len (.lload j))) (h : dm_x sh X Sp K Qp (.lload j) t pc L S u) : dm_G p l e R s m args below meth c D cl cA ad sh A nL Q pc L S u := by
  obtain ⟨⟨hx, hb, hml, hown, hts⟩, hKK, hDD, hA, hret, hlk⟩ := C0
  intro ls H locs hl hP hS
  simp only [dm_x] at h
  split at h
  · rename_i x hx0
    exact lv_lload hx hb hd (hl.2.2 j _ hx0) (hK _ _ _ _ h ls H locs hl hP hS)
  · exact h.elim
theorem dm_T_aload_n (C0 : dm_C p s m args meth c cc nL Ts own D cl cA ad sh A rk) (hK : ∀ pc L S u, K pc L S u → dm_G p l e R s m args below meth c D cl cA ad sh A nL Q pc L S u) {j : Fin 4} {a : Nat} (ht : t = [a]) (ho : j.val = a) (hd : decode cc pc = .ok (.aload_n j, dm_len (.aload_n j))) (h : dm_x sh X Sp K Qp (.aload_n j) t pc L S u) : dm_G p l e R s m args below meth c D cl cA ad sh A nL Q pc L S u := by
  obtain ⟨⟨hx, hb, hml, hown, hts⟩, hKK, hDD, hA, hret, hlk⟩ := C0
  intro ls H locs hl hP hS
  subst ht
  simp only [dm_x] at h
  split at h
  · rename_i x hx0
    exact lv_aload_n hx hb hd ho (hl.2.2 a _ hx0) (hK _ _ _ _ h ls H locs hl hP hS)
  · exact h.elim
theorem dm_T_aload (C0 : dm_C p s m args meth c cc nL Ts own D cl cA ad sh A rk) (hK : ∀ pc L S u, K pc L S u → dm_G p l e R s m args below meth c D cl cA ad sh A nL Q pc L S u) {j : Nat} (hd : decode cc pc = .ok (.aload j, dm_len (.aload j))) (h : dm_x sh X Sp K Qp (.aload j) t pc L S u) : dm_G p l e R s m args below meth c D cl cA ad sh A nL Q pc L S u := by
  obtain ⟨⟨hx, hb, hml, hown, hts⟩, hKK, hDD, hA, hret, hlk⟩ := C0
  intro ls H locs hl hP hS
  simp only [dm_x] at h
  split at h
  · rename_i x hx0
    exact lv_aload hx hb hd (hl.2.2 j _ hx0) (hK _ _ _ _ h ls H locs hl hP hS)
  · exact h.elim
theorem dm_T_istore_n (C0 : dm_C p s m args meth c cc nL Ts own D cl cA ad sh A rk) (hK : ∀ pc L S u, K pc L S u → dm_G p l e R s m args below meth c D cl cA ad sh A nL Q pc L S u) {j : Fin 4} {a : Nat} (ht : t = [a]) (ho : j.val = a) (hd : decode cc pc = .ok (.istore_n j, dm_len (.istore_n j))) (h : dm_x sh X Sp K Qp (.istore_n j) t pc L S u) : dm_G p l e R s m args below meth c D cl cA ad sh A nL Q pc L S u := by
  obtain ⟨⟨hx, hb, hml, hown, hts⟩, hKK, hDD, hA, hret, hlk⟩ := C0
  intro ls H locs hl hP hS
  subst ht
  simp only [dm_x] at h
  split at h
  · rename_i x S'
    exact lv_istore_n hx hb hd ho hl.has (by rw [← hl.1.2]; exact h.1) rfl (hl.st1 (v := .int x) fun ls' hl' => hK _ _ _ _ h.2 ls' H locs hl' hP hS)
  · exact h.elim
theorem dm_T_istore (C0 : dm_C p s m args meth c cc nL Ts own D cl cA ad sh A rk) (hK : ∀ pc L S u, K pc L S u → dm_G p l e R s m args below meth c D cl cA ad sh A nL Q pc L S u) {j : Nat} (hd : decode cc pc = .ok (.istore j, dm_len (.istore j))) (h : dm_x sh X Sp K Qp (.istore j) t pc L S u) : dm_G p l e R s m args below meth c D cl cA ad sh A nL Q pc L S u := by
  obtain ⟨⟨hx, hb, hml, hown, hts⟩, hKK, hDD, hA, hret, hlk⟩ := C0
  intro ls H locs hl hP hS
  simp only [dm_x] at h
  split at h
  · rename_i x S'
    exact lv_istore hx hb hd hl.has (by rw [← hl.1.2]; exact h.1) rfl (hl.st1 (v := .int x) fun ls' hl' => hK _ _ _ _ h.2 ls' H locs hl' hP hS)
  · exact h.elim
theorem dm_T_lstore_n (C0 : dm_C p s m args meth c cc nL Ts own D cl cA ad sh A rk) (hK : ∀ pc L S u, K pc L S u → dm_G p l e R s m args below meth c D cl cA ad sh A nL Q pc L S u) {j : Fin 4} {a : Nat} (ht : t = [a]) (ho : j.val = a) (hd : decode cc pc = .ok (.lstore_n j, dm_len (.lstore_n j))) (h : dm_x sh X Sp K Qp (.lstore_n j) t pc L S u) : dm_G p l e R s m args below meth c D cl cA ad sh A nL Q pc L S u := by
  obtain ⟨⟨hx, hb, hml, hown, hts⟩, hKK, hDD, hA, hret, hlk⟩ := C0
  intro ls H locs hl hP hS
  subst ht
  simp only [dm_x] at h
  split at h
  · rename_i x S'
    exact lv_lstore_n hx hb hd ho hl.has (by rw [← hl.1.2]; exact h.1) rfl (hl.st2 (v := .long x) fun ls' hl' => hK _ _ _ _ h.2 ls' H locs hl' hP hS)
  · exact h.elim
theorem dm_T_lstore (C0 : dm_C p s m args meth c cc nL Ts own D cl cA ad sh A rk) (hK : ∀ pc L S u, K pc L S u → dm_G p l e R s m args below meth c D cl cA ad sh A nL Q pc L S u) {j : Nat} (hd : decode cc pc = .ok (.lstore j, dm_len (.lstore j))) (h : dm_x sh X Sp K Qp (.lstore j) t pc L S u) : dm_G p l e R s m args below meth c D cl cA ad sh A nL Q pc L S u := by
  obtain ⟨⟨hx, hb, hml, hown, hts⟩, hKK, hDD, hA, hret, hlk⟩ := C0
  intro ls H locs hl hP hS
  simp only [dm_x] at h
  split at h
  · rename_i x S'
    exact lv_lstore hx hb hd hl.has (by rw [← hl.1.2]; exact h.1) rfl (hl.st2 (v := .long x) fun ls' hl' => hK _ _ _ _ h.2 ls' H locs hl' hP hS)
  · exact h.elim
theorem dm_T_iinc (C0 : dm_C p s m args meth c cc nL Ts own D cl cA ad sh A rk) (hK : ∀ pc L S u, K pc L S u → dm_G p l e R s m args below meth c D cl cA ad sh A nL Q pc L S u) {j : Nat} {k : Int} (hd : decode cc pc = .ok (.iinc j k, dm_len (.iinc j k))) (h : dm_x sh X Sp K Qp (.iinc j k) t pc L S u) : dm_G p l e R s m args below meth c D cl cA ad sh A nL Q pc L S u := by
  obtain ⟨⟨hx, hb, hml, hown, hts⟩, hKK, hDD, hA, hret, hlk⟩ := C0
  intro ls H locs hl hP hS
  simp only [dm_x] at h
  split at h
  · rename_i x h1
    have hm : (j, Value.int x) ∈ dm_ll ad L := dm_ll_mem.mpr ⟨.int x, h1, rfl⟩
    obtain ⟨q, hq⟩ := List.mem_iff_getElem?.mp hm
    exact lv_iinc hx hb hd hl.has hq rfl (by rw [← hl.1.2]; exact (List.getElem?_eq_some_iff.mp h1).1) rfl (hl.st1 (v := .int (x + Int32.ofInt k)) fun ls' hl' => hK _ _ _ _ h ls' H locs hl' hP hS)
  · exact h.elim
theorem dm_T_iadd (C0 : dm_C p s m args meth c cc nL Ts own D cl cA ad sh A rk) (hK : ∀ pc L S u, K pc L S u → dm_G p l e R s m args below meth c D cl cA ad sh A nL Q pc L S u) (hd : decode cc pc = .ok (.iadd, dm_len (.iadd))) (h : dm_x sh X Sp K Qp (.iadd) t pc L S u) : dm_G p l e R s m args below meth c D cl cA ad sh A nL Q pc L S u := by
  obtain ⟨⟨hx, hb, hml, hown, hts⟩, hKK, hDD, hA, hret, hlk⟩ := C0
  intro ls H locs hl hP hS
  simp only [dm_x] at h
  split at h
  · exact lv_iadd hx hb hd (hK _ _ _ _ h ls H locs hl hP hS)
  · exact h.elim
theorem dm_T_isub (C0 : dm_C p s m args meth c cc nL Ts own D cl cA ad sh A rk) (hK : ∀ pc L S u, K pc L S u → dm_G p l e R s m args below meth c D cl cA ad sh A nL Q pc L S u) (hd : decode cc pc = .ok (.isub, dm_len (.isub))) (h : dm_x sh X Sp K Qp (.isub) t pc L S u) : dm_G p l e R s m args below meth c D cl cA ad sh A nL Q pc L S u := by
  obtain ⟨⟨hx, hb, hml, hown, hts⟩, hKK, hDD, hA, hret, hlk⟩ := C0
  intro ls H locs hl hP hS
  simp only [dm_x] at h
  split at h
  · exact lv_isub hx hb hd (hK _ _ _ _ h ls H locs hl hP hS)
  · exact h.elim
theorem dm_T_imul (C0 : dm_C p s m args meth c cc nL Ts own D cl cA ad sh A rk) (hK : ∀ pc L S u, K pc L S u → dm_G p l e R s m args below meth c D cl cA ad sh A nL Q pc L S u) (hd : decode cc pc = .ok (.imul, dm_len (.imul))) (h : dm_x sh X Sp K Qp (.imul) t pc L S u) : dm_G p l e R s m args below meth c D cl cA ad sh A nL Q pc L S u := by
  obtain ⟨⟨hx, hb, hml, hown, hts⟩, hKK, hDD, hA, hret, hlk⟩ := C0
  intro ls H locs hl hP hS
  simp only [dm_x] at h
  split at h
  · exact lv_imul hx hb hd (hK _ _ _ _ h ls H locs hl hP hS)
  · exact h.elim
theorem dm_T_iand (C0 : dm_C p s m args meth c cc nL Ts own D cl cA ad sh A rk) (hK : ∀ pc L S u, K pc L S u → dm_G p l e R s m args below meth c D cl cA ad sh A nL Q pc L S u) (hd : decode cc pc = .ok (.iand, dm_len (.iand))) (h : dm_x sh X Sp K Qp (.iand) t pc L S u) : dm_G p l e R s m args below meth c D cl cA ad sh A nL Q pc L S u := by
  obtain ⟨⟨hx, hb, hml, hown, hts⟩, hKK, hDD, hA, hret, hlk⟩ := C0
  intro ls H locs hl hP hS
  simp only [dm_x] at h
  split at h
  · exact lv_iand hx hb hd (hK _ _ _ _ h ls H locs hl hP hS)
  · exact h.elim
theorem dm_T_ior (C0 : dm_C p s m args meth c cc nL Ts own D cl cA ad sh A rk) (hK : ∀ pc L S u, K pc L S u → dm_G p l e R s m args below meth c D cl cA ad sh A nL Q pc L S u) (hd : decode cc pc = .ok (.ior, dm_len (.ior))) (h : dm_x sh X Sp K Qp (.ior) t pc L S u) : dm_G p l e R s m args below meth c D cl cA ad sh A nL Q pc L S u := by
  obtain ⟨⟨hx, hb, hml, hown, hts⟩, hKK, hDD, hA, hret, hlk⟩ := C0
  intro ls H locs hl hP hS
  simp only [dm_x] at h
  split at h
  · exact lv_ior hx hb hd (hK _ _ _ _ h ls H locs hl hP hS)
  · exact h.elim
theorem dm_T_ishl (C0 : dm_C p s m args meth c cc nL Ts own D cl cA ad sh A rk) (hK : ∀ pc L S u, K pc L S u → dm_G p l e R s m args below meth c D cl cA ad sh A nL Q pc L S u) (hd : decode cc pc = .ok (.ishl, dm_len (.ishl))) (h : dm_x sh X Sp K Qp (.ishl) t pc L S u) : dm_G p l e R s m args below meth c D cl cA ad sh A nL Q pc L S u := by
  obtain ⟨⟨hx, hb, hml, hown, hts⟩, hKK, hDD, hA, hret, hlk⟩ := C0
  intro ls H locs hl hP hS
  simp only [dm_x] at h
  split at h
  · exact lv_ishl hx hb hd (hK _ _ _ _ h ls H locs hl hP hS)
  · exact h.elim
theorem dm_T_ishr (C0 : dm_C p s m args meth c cc nL Ts own D cl cA ad sh A rk) (hK : ∀ pc L S u, K pc L S u → dm_G p l e R s m args below meth c D cl cA ad sh A nL Q pc L S u) (hd : decode cc pc = .ok (.ishr, dm_len (.ishr))) (h : dm_x sh X Sp K Qp (.ishr) t pc L S u) : dm_G p l e R s m args below meth c D cl cA ad sh A nL Q pc L S u := by
  obtain ⟨⟨hx, hb, hml, hown, hts⟩, hKK, hDD, hA, hret, hlk⟩ := C0
  intro ls H locs hl hP hS
  simp only [dm_x] at h
  split at h
  · exact lv_ishr hx hb hd (hK _ _ _ _ h ls H locs hl hP hS)
  · exact h.elim
theorem dm_T_ladd (C0 : dm_C p s m args meth c cc nL Ts own D cl cA ad sh A rk) (hK : ∀ pc L S u, K pc L S u → dm_G p l e R s m args below meth c D cl cA ad sh A nL Q pc L S u) (hd : decode cc pc = .ok (.ladd, dm_len (.ladd))) (h : dm_x sh X Sp K Qp (.ladd) t pc L S u) : dm_G p l e R s m args below meth c D cl cA ad sh A nL Q pc L S u := by
  obtain ⟨⟨hx, hb, hml, hown, hts⟩, hKK, hDD, hA, hret, hlk⟩ := C0
  intro ls H locs hl hP hS
  simp only [dm_x] at h
  split at h
  · exact lv_ladd hx hb hd (hK _ _ _ _ h ls H locs hl hP hS)
  · exact h.elim
theorem dm_T_lsub (C0 : dm_C p s m args meth c cc nL Ts own D cl cA ad sh A rk) (hK : ∀ pc L S u, K pc L S u → dm_G p l e R s m args below meth c D cl cA ad sh A nL Q pc L S u) (hd : decode cc pc = .ok (.lsub, dm_len (.lsub))) (h : dm_x sh X Sp K Qp (.lsub) t pc L S u) : dm_G p l e R s m args below meth c D cl cA ad sh A nL Q pc L S u := by
  obtain ⟨⟨hx, hb, hml, hown, hts⟩, hKK, hDD, hA, hret, hlk⟩ := C0
  intro ls H locs hl hP hS
  simp only [dm_x] at h
  split at h
  · exact lv_lsub hx hb hd (hK _ _ _ _ h ls H locs hl hP hS)
  · exact h.elim
theorem dm_T_lmul (C0 : dm_C p s m args meth c cc nL Ts own D cl cA ad sh A rk) (hK : ∀ pc L S u, K pc L S u → dm_G p l e R s m args below meth c D cl cA ad sh A nL Q pc L S u) (hd : decode cc pc = .ok (.lmul, dm_len (.lmul))) (h : dm_x sh X Sp K Qp (.lmul) t pc L S u) : dm_G p l e R s m args below meth c D cl cA ad sh A nL Q pc L S u := by
  obtain ⟨⟨hx, hb, hml, hown, hts⟩, hKK, hDD, hA, hret, hlk⟩ := C0
  intro ls H locs hl hP hS
  simp only [dm_x] at h
  split at h
  · exact lv_lmul hx hb hd (hK _ _ _ _ h ls H locs hl hP hS)
  · exact h.elim
theorem dm_T_lneg (C0 : dm_C p s m args meth c cc nL Ts own D cl cA ad sh A rk) (hK : ∀ pc L S u, K pc L S u → dm_G p l e R s m args below meth c D cl cA ad sh A nL Q pc L S u) (hd : decode cc pc = .ok (.lneg, dm_len (.lneg))) (h : dm_x sh X Sp K Qp (.lneg) t pc L S u) : dm_G p l e R s m args below meth c D cl cA ad sh A nL Q pc L S u := by
  obtain ⟨⟨hx, hb, hml, hown, hts⟩, hKK, hDD, hA, hret, hlk⟩ := C0
  intro ls H locs hl hP hS
  simp only [dm_x] at h
  split at h
  · exact lv_lneg hx hb hd (hK _ _ _ _ h ls H locs hl hP hS)
  · exact h.elim
theorem dm_T_iushr (C0 : dm_C p s m args meth c cc nL Ts own D cl cA ad sh A rk) (hK : ∀ pc L S u, K pc L S u → dm_G p l e R s m args below meth c D cl cA ad sh A nL Q pc L S u) (hd : decode cc pc = .ok (.iushr, dm_len (.iushr))) (h : dm_x sh X Sp K Qp (.iushr) t pc L S u) : dm_G p l e R s m args below meth c D cl cA ad sh A nL Q pc L S u := by
  obtain ⟨⟨hx, hb, hml, hown, hts⟩, hKK, hDD, hA, hret, hlk⟩ := C0
  intro ls H locs hl hP hS
  simp only [dm_x] at h
  split at h
  · exact lv_iushr hx hb hd rfl (hK _ _ _ _ h ls H locs hl hP hS)
  · exact h.elim
theorem dm_T_i2l (C0 : dm_C p s m args meth c cc nL Ts own D cl cA ad sh A rk) (hK : ∀ pc L S u, K pc L S u → dm_G p l e R s m args below meth c D cl cA ad sh A nL Q pc L S u) (hd : decode cc pc = .ok (.i2l, dm_len (.i2l))) (h : dm_x sh X Sp K Qp (.i2l) t pc L S u) : dm_G p l e R s m args below meth c D cl cA ad sh A nL Q pc L S u := by
  obtain ⟨⟨hx, hb, hml, hown, hts⟩, hKK, hDD, hA, hret, hlk⟩ := C0
  intro ls H locs hl hP hS
  simp only [dm_x] at h
  split at h
  · exact lv_i2l hx hb hd rfl (hK _ _ _ _ h ls H locs hl hP hS)
  · exact h.elim
theorem dm_T_l2i (C0 : dm_C p s m args meth c cc nL Ts own D cl cA ad sh A rk) (hK : ∀ pc L S u, K pc L S u → dm_G p l e R s m args below meth c D cl cA ad sh A nL Q pc L S u) (hd : decode cc pc = .ok (.l2i, dm_len (.l2i))) (h : dm_x sh X Sp K Qp (.l2i) t pc L S u) : dm_G p l e R s m args below meth c D cl cA ad sh A nL Q pc L S u := by
  obtain ⟨⟨hx, hb, hml, hown, hts⟩, hKK, hDD, hA, hret, hlk⟩ := C0
  intro ls H locs hl hP hS
  simp only [dm_x] at h
  split at h
  · exact lv_l2i hx hb hd rfl (hK _ _ _ _ h ls H locs hl hP hS)
  · exact h.elim
theorem dm_T_lshr (C0 : dm_C p s m args meth c cc nL Ts own D cl cA ad sh A rk) (hK : ∀ pc L S u, K pc L S u → dm_G p l e R s m args below meth c D cl cA ad sh A nL Q pc L S u) (hd : decode cc pc = .ok (.lshr, dm_len (.lshr))) (h : dm_x sh X Sp K Qp (.lshr) t pc L S u) : dm_G p l e R s m args below meth c D cl cA ad sh A nL Q pc L S u := by
  obtain ⟨⟨hx, hb, hml, hown, hts⟩, hKK, hDD, hA, hret, hlk⟩ := C0
  intro ls H locs hl hP hS
  simp only [dm_x] at h
  split at h
  · exact lv_lshr hx hb hd rfl (hK _ _ _ _ h ls H locs hl hP hS)
  · exact h.elim
theorem dm_T_idiv (C0 : dm_C p s m args meth c cc nL Ts own D cl cA ad sh A rk) (hK : ∀ pc L S u, K pc L S u → dm_G p l e R s m args below meth c D cl cA ad sh A nL Q pc L S u) (hd : decode cc pc = .ok (.idiv, dm_len (.idiv))) (h : dm_x sh X Sp K Qp (.idiv) t pc L S u) : dm_G p l e R s m args below meth c D cl cA ad sh A nL Q pc L S u := by
  obtain ⟨⟨hx, hb, hml, hown, hts⟩, hKK, hDD, hA, hret, hlk⟩ := C0
  intro ls H locs hl hP hS
  simp only [dm_x] at h
  split at h
  · exact lv_idiv hx hb hd h.1 (hK _ _ _ _ h.2 ls H locs hl hP hS)
  · exact h.elim
theorem dm_T_irem (C0 : dm_C p s m args meth c cc nL Ts own D cl cA ad sh A rk) (hK : ∀ pc L S u, K pc L S u → dm_G p l e R s m args below meth c D cl cA ad sh A nL Q pc L S u) (hd : decode cc pc = .ok (.irem, dm_len (.irem))) (h : dm_x sh X Sp K Qp (.irem) t pc L S u) : dm_G p l e R s m args below meth c D cl cA ad sh A nL Q pc L S u := by
  obtain ⟨⟨hx, hb, hml, hown, hts⟩, hKK, hDD, hA, hret, hlk⟩ := C0
  intro ls H locs hl hP hS
  simp only [dm_x] at h
  split at h
  · exact lv_irem hx hb hd h.1 (hK _ _ _ _ h.2 ls H locs hl hP hS)
  · exact h.elim
theorem dm_T_lcmp (C0 : dm_C p s m args meth c cc nL Ts own D cl cA ad sh A rk) (hK : ∀ pc L S u, K pc L S u → dm_G p l e R s m args below meth c D cl cA ad sh A nL Q pc L S u) (hd : decode cc pc = .ok (.lcmp, dm_len (.lcmp))) (h : dm_x sh X Sp K Qp (.lcmp) t pc L S u) : dm_G p l e R s m args below meth c D cl cA ad sh A nL Q pc L S u := by
  obtain ⟨⟨hx, hb, hml, hown, hts⟩, hKK, hDD, hA, hret, hlk⟩ := C0
  intro ls H locs hl hP hS
  simp only [dm_x] at h
  split at h
  · exact W.lcmp hx hb hd (hK _ _ _ _ h ls H locs hl hP hS)
  · exact h.elim
theorem dm_T_dup (C0 : dm_C p s m args meth c cc nL Ts own D cl cA ad sh A rk) (hK : ∀ pc L S u, K pc L S u → dm_G p l e R s m args below meth c D cl cA ad sh A nL Q pc L S u) (hd : decode cc pc = .ok (.dup, dm_len (.dup))) (h : dm_x sh X Sp K Qp (.dup) t pc L S u) : dm_G p l e R s m args below meth c D cl cA ad sh A nL Q pc L S u := by
  obtain ⟨⟨hx, hb, hml, hown, hts⟩, hKK, hDD, hA, hret, hlk⟩ := C0
  intro ls H locs hl hP hS
  simp only [dm_x] at h
  split at h
  · exact lv_dup hx hb hd rfl (hK _ _ _ _ h ls H locs hl hP hS)
  · exact lv_dup hx hb hd rfl (hK _ _ _ _ h ls H locs hl hP hS)
  · exact h.elim
theorem dm_T_dup2 (C0 : dm_C p s m args meth c cc nL Ts own D cl cA ad sh A rk) (hK : ∀ pc L S u, K pc L S u → dm_G p l e R s m args below meth c D cl cA ad sh A nL Q pc L S u) (hd : decode cc pc = .ok (.dup2, dm_len (.dup2))) (h : dm_x sh X Sp K Qp (.dup2) t pc L S u) : dm_G p l e R s m args below meth c D cl cA ad sh A nL Q pc L S u := by
  obtain ⟨⟨hx, hb, hml, hown, hts⟩, hKK, hDD, hA, hret, hlk⟩ := C0
  intro ls H locs hl hP hS
  simp only [dm_x] at h
  split at h
  · exact lv_dup2_11 hx hb hd rfl rfl (hK _ _ _ _ h ls H locs hl hP hS)
  · exact lv_dup2_2 hx hb hd rfl (hK _ _ _ _ h ls H locs hl hP hS)
  · exact h.elim
theorem dm_T_iaload (C0 : dm_C p s m args meth c cc nL Ts own D cl cA ad sh A rk) (hK : ∀ pc L S u, K pc L S u → dm_G p l e R s m args below meth c D cl cA ad sh A nL Q pc L S u) (hd : decode cc pc = .ok (.iaload, dm_len (.iaload))) (h : dm_x sh X Sp K Qp (.iaload) t pc L S u) : dm_G p l e R s m args below meth c D cl cA ad sh A nL Q pc L S u := by
  obtain ⟨⟨hx, hb, hml, hown, hts⟩, hKK, hDD, hA, hret, hlk⟩ := C0
  intro ls H locs hl hP hS
  simp only [dm_x] at h
  split at h
  · rename_i j c0 S'
    split at h
    · rename_i n hc
      exact va_iald hx hb hKK hP c0 0 (dm_w_at hc) rfl h.1 hd (hK _ _ _ _ h.2 ls H locs hl hP hS)
    · exact h.elim
  · exact h.elim
theorem dm_T_baload (C0 : dm_C p s m args meth c cc nL Ts own D cl cA ad sh A rk) (hK : ∀ pc L S u, K pc L S u → dm_G p l e R s m args below meth c D cl cA ad sh A nL Q pc L S u) (hd : decode cc pc = .ok (.baload, dm_len (.baload))) (h : dm_x sh X Sp K Qp (.baload) t pc L S u) : dm_G p l e R s m args below meth c D cl cA ad sh A nL Q pc L S u := by
  obtain ⟨⟨hx, hb, hml, hown, hts⟩, hKK, hDD, hA, hret, hlk⟩ := C0
  intro ls H locs hl hP hS
  simp only [dm_x] at h
  split at h
  · rename_i j c0 S'
    split at h
    · rename_i n hc
      exact va_zald hx hb hKK hP c0 2 (dm_w_at hc) rfl h.1 hd (hK _ _ _ _ h.2 ls H locs hl hP hS)
    · exact h.elim
  · exact h.elim
theorem dm_T_laload (C0 : dm_C p s m args meth c cc nL Ts own D cl cA ad sh A rk) (hK : ∀ pc L S u, K pc L S u → dm_G p l e R s m args below meth c D cl cA ad sh A nL Q pc L S u) (hd : decode cc pc = .ok (.laload, dm_len (.laload))) (h : dm_x sh X Sp K Qp (.laload) t pc L S u) : dm_G p l e R s m args below meth c D cl cA ad sh A nL Q pc L S u := by
  obtain ⟨⟨hx, hb, hml, hown, hts⟩, hKK, hDD, hA, hret, hlk⟩ := C0
  intro ls H locs hl hP hS
  simp only [dm_x] at h
  split at h
  · rename_i j c0 S'
    split at h
    · rename_i n hc
      exact va_lald hx hb hKK hP c0 1 (dm_w_at hc) rfl h.1 hd (hK _ _ _ _ h.2 ls H locs hl hP hS)
    · exact h.elim
  · exact h.elim
theorem dm_T_iastore (C0 : dm_C p s m args meth c cc nL Ts own D cl cA ad sh A rk) (hK : ∀ pc L S u, K pc L S u → dm_G p l e R s m args below meth c D cl cA ad sh A nL Q pc L S u) (hd : decode cc pc = .ok (.iastore, dm_len (.iastore))) (h : dm_x sh X Sp K Qp (.iastore) t pc L S u) : dm_G p l e R s m args below meth c D cl cA ad sh A nL Q pc L S u := by
  obtain ⟨⟨hx, hb, hml, hown, hts⟩, hKK, hDD, hA, hret, hlk⟩ := C0
  intro ls H locs hl hP hS
  simp only [dm_x] at h
  split at h
  · rename_i x j c0 S'
    split at h
    · rename_i n hc
      refine va_iast hx hb hKK hP (hDD u) hS c0 0 (dm_w_at hc) rfl h.1 hd (fun H1 locs1 hP1 _ hS1 => hK _ _ _ _ h.2 ls H1 locs1 hl ?_ hS1)
      rw [dm_w_set (u := u) (u' := dm_ui u c0 j.toNatClampNeg x) hc (fun c' hn => by simp [dm_ui, hn]) (fun c' hn => by simp [dm_ui, hn])]
      simpa [dm_en, dm_ui] using hP1
    · exact h.elim
  · exact h.elim
theorem dm_T_lastore (C0 : dm_C p s m args meth c cc nL Ts own D cl cA ad sh A rk) (hK : ∀ pc L S u, K pc L S u → dm_G p l e R s m args below meth c D cl cA ad sh A nL Q pc L S u) (hd : decode cc pc = .ok (.lastore, dm_len (.lastore))) (h : dm_x sh X Sp K Qp (.lastore) t pc L S u) : dm_G p l e R s m args below meth c D cl cA ad sh A nL Q pc L S u := by
  obtain ⟨⟨hx, hb, hml, hown, hts⟩, hKK, hDD, hA, hret, hlk⟩ := C0
  intro ls H locs hl hP hS
  simp only [dm_x] at h
  split at h
  · rename_i x j c0 S'
    split at h
    · rename_i n hc
      refine va_last hx hb hKK hP (hDD u) hS c0 1 (dm_w_at hc) rfl h.1 hd (fun H1 locs1 hP1 _ hS1 => hK _ _ _ _ h.2 ls H1 locs1 hl ?_ hS1)
      rw [dm_w_set (u := u) (u' := dm_ul u c0 j.toNatClampNeg x) hc (fun c' hn => by simp [dm_ul, hn]) (fun c' hn => by simp [dm_ul, hn])]
      simpa [dm_en, dm_ul] using hP1
    · exact h.elim
  · exact h.elim
theorem dm_T_bastore (C0 : dm_C p s m args meth c cc nL Ts own D cl cA ad sh A rk) (hK : ∀ pc L S u, K pc L S u → dm_G p l e R s m args below meth c D cl cA ad sh A nL Q pc L S u) (hd : decode cc pc = .ok (.bastore, dm_len (.bastore))) (h : dm_x sh X Sp K Qp (.bastore) t pc L S u) : dm_G p l e R s m args below meth c D cl cA ad sh A nL Q pc L S u := by
  obtain ⟨⟨hx, hb, hml, hown, hts⟩, hKK, hDD, hA, hret, hlk⟩ := C0
  intro ls H locs hl hP hS
  simp only [dm_x] at h
  split at h
  · rename_i x j c0 S'
    split at h
    · rename_i n hc
      refine va_zast hx hb hKK hP (hDD u) hS c0 2 (dm_w_at hc) rfl h.2.1 hd (fun H1 locs1 hP1 _ hS1 => hK _ _ _ _ h.2.2 ls H1 locs1 hl ?_ hS1)
      rw [h.1] at hP1
      rw [dm_w_set (u := u) (u' := dm_ui u c0 j.toNatClampNeg x) hc (fun c' hn => by simp [dm_ui, hn]) (fun c' hn => by simp [dm_ui, hn])]
      simpa [dm_en, dm_ui] using hP1
    · exact h.elim
  · exact h.elim
theorem dm_T_arraylength (C0 : dm_C p s m args meth c cc nL Ts own D cl cA ad sh A rk) (hK : ∀ pc L S u, K pc L S u → dm_G p l e R s m args below meth c D cl cA ad sh A nL Q pc L S u) (hd : decode cc pc = .ok (.arraylength, dm_len (.arraylength))) (h : dm_x sh X Sp K Qp (.arraylength) t pc L S u) : dm_G p l e R s m args below meth c D cl cA ad sh A nL Q pc L S u := by
  obtain ⟨⟨hx, hb, hml, hown, hts⟩, hKK, hDD, hA, hret, hlk⟩ := C0
  intro ls H locs hl hP hS
  simp only [dm_x] at h
  split at h
  · rename_i c0 S'
    split at h
    · rename_i k n hc
      obtain ⟨hk3, h⟩ := h
      have hw := dm_w_at (ad := ad) (cA := cA) (u := u) hc
      have hk : k = 0 ∨ k = 1 ∨ k = 2 := by omega
      rcases hk with rfl | rfl | rfl
      · exact va_alen hx hb hKK hP c0 0 hw rfl rfl hd (hK _ _ _ _ h ls H locs hl hP hS)
      · exact va_alen hx hb hKK hP c0 1 hw rfl rfl hd (hK _ _ _ _ h ls H locs hl hP hS)
      · exact va_alen hx hb hKK hP c0 2 hw rfl rfl hd (hK _ _ _ _ h ls H locs hl hP hS)
    · exact h.elim
  · exact h.elim
theorem dm_T_getfield (C0 : dm_C p s m args meth c cc nL Ts own D cl cA ad sh A rk) (hK : ∀ pc L S u, K pc L S u → dm_G p l e R s m args below meth c D cl cA ad sh A nL Q pc L S u) (hF : dm_FO Ts own cl X) {j : Nat} (hd : decode cc pc = .ok (.getfield j, dm_len (.getfield j))) (h : dm_x sh X Sp K Qp (.getfield j) t pc L S u) : dm_G p l e R s m args below meth c D cl cA ad sh A nL Q pc L S u := by
  obtain ⟨⟨hx, hb, hml, hown, hts⟩, hKK, hDD, hA, hret, hlk⟩ := C0
  intro ls H locs hl hP hS
  simp only [dm_x] at h
  split at h
  · rename_i c0 S'
    split at h
    · rename_i ci k hj
      split at h
      · rename_i ci' fs hc
        obtain ⟨rfl, h⟩ := h
        obtain ⟨C, T, N, ty0, hcl, hkN, hin, hlk, -, -⟩ := hF j ci k hj
        have hw := dm_w_at (ad := ad) (cA := cA) (u := u) hc
        have hfs : ∀ f, fs[k]? = some f → (fs.mapIdx (fun k f => dm_fv ad u c0 k f))[k]? = some (dm_fv ad u c0 k f) := fun f hf => by simp [List.getElem?_mapIdx, hf]
        split at h
        · rename_i hf
          exact va_get hx hb hts hin hown hKK hP c0 hw hcl k hkN (hts _ hlk) (fun _ h9 => h9) (hfs _ hf) hd (hK _ _ _ _ h ls H locs hl hP hS)
        · rename_i hf
          exact va_get hx hb hts hin hown hKK hP c0 hw hcl k hkN (hts _ hlk) (fun _ h9 => h9) (hfs _ hf) hd (hK _ _ _ _ h ls H locs hl hP hS)
        · rename_i hf
          exact va_get hx hb hts hin hown hKK hP c0 hw hcl k hkN (hts _ hlk) (fun _ h9 => h9) (hfs _ hf) hd (hK _ _ _ _ h ls H locs hl hP hS)
        · rename_i hf
          exact va_get hx hb hts hin hown hKK hP c0 hw hcl k hkN (hts _ hlk) (fun _ h9 => h9) (hfs _ hf) hd (hK _ _ _ _ h ls H locs hl hP hS)
        · exact h.elim
      · exact h.elim
    · exact h.elim
  · exact h.elim
theorem dm_en_puti {c0 ci k f : Nat} {fs : List Nat} {x : Int32} (hf : fs[k]? = some f) (h : f = 0 ∨ f = 2) : dm_en ad cA (dm_ui u c0 k x) c0 (.inr (ci, fs)) = .inr (ci, (fs.mapIdx (fun k f => dm_fv ad u c0 k f)).set k (.int x)) := by
  simp only [dm_en]
  congr 2
  apply List.ext_getElem?
  intro i
  by_cases hi : i = k
  · subst hi
    rw [List.getElem?_set_self (by simpa using (List.getElem?_eq_some_iff.mp hf).1), List.getElem?_mapIdx, hf]
    rcases h with rfl | rfl <;> simp [dm_fv, dm_ui, upd]
  · rw [List.getElem?_set_ne (fun q => hi q.symm), List.getElem?_mapIdx, List.getElem?_mapIdx]
    congr 1
    funext g
    unfold dm_fv
    split <;> simp [dm_ui, upd, hi]
theorem dm_en_putl {c0 ci k f : Nat} {fs : List Nat} {x : Int64} (hf : fs[k]? = some f) (h : f = 1) : dm_en ad cA (dm_ul u c0 k x) c0 (.inr (ci, fs)) = .inr (ci, (fs.mapIdx (fun k f => dm_fv ad u c0 k f)).set k (.long x)) := by
  simp only [dm_en]
  congr 2
  apply List.ext_getElem?
  intro i
  by_cases hi : i = k
  · subst hi
    rw [List.getElem?_set_self (by simpa using (List.getElem?_eq_some_iff.mp hf).1), List.getElem?_mapIdx, hf]
    subst h
    simp [dm_fv, dm_ul, vp_updL]
  · rw [List.getElem?_set_ne (fun q => hi q.symm), List.getElem?_mapIdx, List.getElem?_mapIdx]
    congr 1
    funext g
    unfold dm_fv
    split <;> simp [dm_ul, vp_updL, hi]
theorem dm_T_putfield (C0 : dm_C p s m args meth c cc nL Ts own D cl cA ad sh A rk) (hK : ∀ pc L S u, K pc L S u → dm_G p l e R s m args below meth c D cl cA ad sh A nL Q pc L S u) (hF : dm_FO Ts own cl X) (hSO : dm_SO cl sh) {j : Nat} (hd : decode cc pc = .ok (.putfield j, dm_len (.putfield j))) (h : dm_x sh X Sp K Qp (.putfield j) t pc L S u) : dm_G p l e R s m args below meth c D cl cA ad sh A nL Q pc L S u := by
  obtain ⟨⟨hx, hb, hml, hown, hts⟩, hKK, hDD, hA, hret, hlk⟩ := C0
  intro ls H locs hl hP hS
  simp only [dm_x] at h
  split at h
  · rename_i x c0 S'
    split at h
    · rename_i ci k hj
      split at h
      · rename_i ci' fs hc
        obtain ⟨rfl, h⟩ := h
        obtain ⟨C, T, N, ty0, hcl, hkN, hin, hlk, hty, hnm⟩ := hF j ci k hj
        have hw := dm_w_at (ad := ad) (cA := cA) (u := u) hc
        split at h
        · rename_i hf
          refine va_put (ty := .int) hx hb hts hin ty0 hty hnm hown hKK hP (hDD u) hS c0 hw hcl k hkN (hts _ hlk) (fun _ h9 => h9) ((hSO c0 ci fs hc C T N hcl k _ hf).1 rfl).1 ((hSO c0 ci fs hc C T N hcl k _ hf).1 rfl).2 rfl rfl (by simpa using (List.getElem?_eq_some_iff.mp hf).1) hd (fun H1 locs1 hP1 _ hS1 => hK _ _ _ _ h ls H1 locs1 hl ?_ hS1)
          rw [dm_w_set (u := u) (u' := dm_ui u c0 k x) hc (fun c' hn => by simp [dm_ui, hn]) (fun c' hn => by simp [dm_ui, hn])]
          rw [show dm_en ad cA (dm_ui u c0 k x) c0 (.inr (ci, fs)) = .inr (ci, (fs.mapIdx (fun k f => dm_fv ad u c0 k f)).set k (.int x)) from dm_en_puti hf (by decide)]
          exact hP1
        · rename_i hf
          refine va_put (ty := .boolean) hx hb hts hin ty0 hty hnm hown hKK hP (hDD u) hS c0 hw hcl k hkN (hts _ hlk) (fun _ h9 => h9) ((hSO c0 ci fs hc C T N hcl k _ hf).2.2 rfl).1 ((hSO c0 ci fs hc C T N hcl k _ hf).2.2 rfl).2 h.1.1 h.1.2 (by simpa using (List.getElem?_eq_some_iff.mp hf).1) hd (fun H1 locs1 hP1 _ hS1 => hK _ _ _ _ h.2 ls H1 locs1 hl ?_ hS1)
          rw [dm_w_set (u := u) (u' := dm_ui u c0 k x) hc (fun c' hn => by simp [dm_ui, hn]) (fun c' hn => by simp [dm_ui, hn])]
          rw [show dm_en ad cA (dm_ui u c0 k x) c0 (.inr (ci, fs)) = .inr (ci, (fs.mapIdx (fun k f => dm_fv ad u c0 k f)).set k (.int x)) from dm_en_puti hf (by decide)]
          exact hP1
        · exact h.elim
      · exact h.elim
    · exact h.elim
  · rename_i x c0 S'
    split at h
    · rename_i ci k hj
      split at h
      · rename_i ci' fs hc
        obtain ⟨rfl, h⟩ := h
        obtain ⟨C, T, N, ty0, hcl, hkN, hin, hlk, hty, hnm⟩ := hF j ci k hj
        have hw := dm_w_at (ad := ad) (cA := cA) (u := u) hc
        split at h
        · rename_i hf
          refine va_put (ty := .long) hx hb hts hin ty0 hty hnm hown hKK hP (hDD u) hS c0 hw hcl k hkN (hts _ hlk) (fun _ h9 => h9) ((hSO c0 ci fs hc C T N hcl k _ hf).2.1 rfl).1 ((hSO c0 ci fs hc C T N hcl k _ hf).2.1 rfl).2 rfl rfl (by simpa using (List.getElem?_eq_some_iff.mp hf).1) hd (fun H1 locs1 hP1 _ hS1 => hK _ _ _ _ h ls H1 locs1 hl ?_ hS1)
          rw [dm_w_set (u := u) (u' := dm_ul u c0 k x) hc (fun c' hn => by simp [dm_ul, hn]) (fun c' hn => by simp [dm_ul, hn])]
          rw [show dm_en ad cA (dm_ul u c0 k x) c0 (.inr (ci, fs)) = .inr (ci, (fs.mapIdx (fun k f => dm_fv ad u c0 k f)).set k (.long x)) from dm_en_putl hf (by decide)]
          exact hP1
        · exact h.elim
      · exact h.elim
    · exact h.elim
  · exact h.elim
end DMT
end
section
/-! ===== branches, calls, ends; the machine's soundness ===== -/
section DMU
variable {p : Program} {l : Launch} {e : Env} {R : Room} {s : State} {m : MethodId} {args : Array Value} {below : List Frame} {meth : Method} {c : Code} {D : va_G} {cl : List vw_C} {cA : Nat → ClassId} {ad : Nat → Nat} {sh : List dm_H} {A : Nat → Prop} {cc : ByteArray} {nL : Nat} {Ts : List Cond} {own : String} {X : dm_X} {Sp : dm_Sp} {Q : State → Prop}
variable {K : dm_K} {Qp : Option Value → dm_S → Prop} {pc : Nat} {L : List (Option Value)} {S : List Value} {u : dm_S} {t : List Nat} {rk : Nat}
theorem dm_cs_cv (S : List Value) : ((S.map (dm_cv ad)).map fun v => v.category).sum = dm_cs S := by
  unfold dm_cs
  rw [List.map_map]
  congr 2
  funext v
  exact dm_cv_cat ad v
theorem dm_toList_cv {r : Option Value} (h : ∀ a, r ≠ some (.ref a)) : r.toList.map (dm_cv ad) = r.toList := by
  cases r with
  | none => rfl
  | some v =>
    cases v with
    | ref a => exact absurd rfl (h a)
    | _ => rfl
theorem dm_blind {sz : Nat} {As : List Value} : FrameBlind (dm_Pc D cl cA ad sh sz As u) := fun a U g mk q => by
  obtain ⟨q0, q1, qP, qK, qD⟩ := q
  exact ⟨q0, q1, qP, va_K.moved (u := U) (U := U.calling g mk a) (Vm.Alike.refl U.vm) qK, qD⟩
theorem dm_freeA {H : Heap} {locs : List Loc} (hD : va_D A (dm_w ad cA sh u)) (hA : ∀ q, s.heap.size ≤ q → A q) (hS : va_S A s.heap H locs) : ∀ q, va_A (dm_w ad cA sh u) H.size q → A q := by
  intro q h
  rcases h with ⟨k, e, h⟩ | h
  · exact hD.2 k (q, e) h
  · exact hA q (Nat.le_trans hS.1 h)
theorem dm_T_ifCond (C0 : dm_C p s m args meth c cc nL Ts own D cl cA ad sh A rk) (hK : ∀ pc L S u, K pc L S u → dm_G p l e R s m args below meth c D cl cA ad sh A nL Q pc L S u) {o : Jvm.ClassFile.Cond} {off : Int} {a : Nat} (ht : t = [a]) (hd : decode cc pc = .ok (.ifCond o off, 3)) (ho : (pc : Int) + off = (a : Int)) (h : dm_x sh X Sp K Qp (.ifCond o off) t pc L S u) : dm_G p l e R s m args below meth c D cl cA ad sh A nL Q pc L S u := by
  obtain ⟨⟨hx, hb, hml, hown, hts⟩, hKK, hDD, hA, hret, hlk⟩ := C0
  intro ls H locs hl hP hS
  subst ht
  simp only [dm_x] at h
  split at h
  · rename_i x S'
    obtain ⟨h1, h2⟩ := h
    cases o with
    | eq => exact lv_if_eq hx hb hd ho (fun hc => hK _ _ _ _ (h1 hc) ls H locs hl hP hS) (fun hc => hK _ _ _ _ (h2 hc) ls H locs hl hP hS)
    | ne => exact lv_if_ne hx hb hd ho (fun hc => hK _ _ _ _ (h1 hc) ls H locs hl hP hS) (fun hc => hK _ _ _ _ (h2 (fun q => q hc)) ls H locs hl hP hS)
    | lt => exact lv_if_lt hx hb hd ho (fun hc => hK _ _ _ _ (h1 hc) ls H locs hl hP hS) (fun hc => hK _ _ _ _ (h2 hc) ls H locs hl hP hS)
    | ge => exact lv_if_ge hx hb hd ho (fun hc => hK _ _ _ _ (h1 hc) ls H locs hl hP hS) (fun hc => hK _ _ _ _ (h2 hc) ls H locs hl hP hS)
    | gt => exact lv_if_gt hx hb hd ho (fun hc => hK _ _ _ _ (h1 hc) ls H locs hl hP hS) (fun hc => hK _ _ _ _ (h2 hc) ls H locs hl hP hS)
    | le => exact lv_if_le hx hb hd ho (fun hc => hK _ _ _ _ (h1 hc) ls H locs hl hP hS) (fun hc => hK _ _ _ _ (h2 hc) ls H locs hl hP hS)
  · exact h.elim
theorem dm_T_if_icmp (C0 : dm_C p s m args meth c cc nL Ts own D cl cA ad sh A rk) (hK : ∀ pc L S u, K pc L S u → dm_G p l e R s m args below meth c D cl cA ad sh A nL Q pc L S u) {o : Jvm.ClassFile.Cond} {off : Int} {a : Nat} (ht : t = [a]) (hd : decode cc pc = .ok (.if_icmp o off, 3)) (ho : (pc : Int) + off = (a : Int)) (h : dm_x sh X Sp K Qp (.if_icmp o off) t pc L S u) : dm_G p l e R s m args below meth c D cl cA ad sh A nL Q pc L S u := by
  obtain ⟨⟨hx, hb, hml, hown, hts⟩, hKK, hDD, hA, hret, hlk⟩ := C0
  intro ls H locs hl hP hS
  subst ht
  simp only [dm_x] at h
  split at h
  · rename_i y x S'
    obtain ⟨h1, h2⟩ := h
    cases o with
    | eq => exact lv_icmp_eq hx hb hd ho (fun hc => hK _ _ _ _ (h1 hc) ls H locs hl hP hS) (fun hc => hK _ _ _ _ (h2 hc) ls H locs hl hP hS)
    | ne => exact lv_icmp_ne hx hb hd ho (fun hc => hK _ _ _ _ (h1 hc) ls H locs hl hP hS) (fun hc => hK _ _ _ _ (h2 (fun q => q hc)) ls H locs hl hP hS)
    | lt => exact lv_icmp_lt hx hb hd ho (fun hc => hK _ _ _ _ (h1 hc) ls H locs hl hP hS) (fun hc => hK _ _ _ _ (h2 hc) ls H locs hl hP hS)
    | ge => exact lv_icmp_ge hx hb hd ho (fun hc => hK _ _ _ _ (h1 hc) ls H locs hl hP hS) (fun hc => hK _ _ _ _ (h2 hc) ls H locs hl hP hS)
    | gt => exact lv_icmp_gt hx hb hd ho (fun hc => hK _ _ _ _ (h1 hc) ls H locs hl hP hS) (fun hc => hK _ _ _ _ (h2 hc) ls H locs hl hP hS)
    | le => exact lv_icmp_le hx hb hd ho (fun hc => hK _ _ _ _ (h1 hc) ls H locs hl hP hS) (fun hc => hK _ _ _ _ (h2 hc) ls H locs hl hP hS)
  · exact h.elim
theorem dm_T_goto (C0 : dm_C p s m args meth c cc nL Ts own D cl cA ad sh A rk) (hK : ∀ pc L S u, K pc L S u → dm_G p l e R s m args below meth c D cl cA ad sh A nL Q pc L S u) {off : Int} {a : Nat} (ht : t = [a]) (hd : decode cc pc = .ok (.goto off, 3)) (ho : (pc : Int) + off = (a : Int)) (h : dm_x sh X Sp K Qp (.goto off) t pc L S u) : dm_G p l e R s m args below meth c D cl cA ad sh A nL Q pc L S u := by
  obtain ⟨⟨hx, hb, hml, hown, hts⟩, hKK, hDD, hA, hret, hlk⟩ := C0
  intro ls H locs hl hP hS
  subst ht
  exact lv_goto hx hb hd ho (hK _ _ _ _ h ls H locs hl hP hS)
theorem dm_sw_at {x : Int32} : ∀ (ts : List Nat) (lo : Int), dm_sw x K L S u lo ts → ∀ (j : Nat) (a : Nat), ts[j]? = some a → x.toInt = lo + j → K a L S u := by
  intro ts
  induction ts with
  | nil => intro lo _ j a h; simp at h
  | cons b ts ih =>
    intro lo h j a hj e
    cases j with
    | zero => simp at hj; subst hj; exact h.1 (by simpa using e)
    | succ j => exact ih (lo + 1) h.2 j a (by simpa using hj) (by rw [e]; push_cast; omega)
theorem dm_T_tableswitch (C0 : dm_C p s m args meth c cc nL Ts own D cl cA ad sh A rk) (hK : ∀ pc L S u, K pc L S u → dm_G p l e R s m args below meth c D cl cA ad sh A nL Q pc L S u) {d lo hi : Int} {offs : Array Int} {len : Nat} {t0 : Nat} {ts : List Nat} (ht : t = t0 :: ts) (hd : decode cc pc = .ok (.tableswitch d lo hi offs, len)) (h0 : (pc : Int) + d = (t0 : Int)) (ho : offs.toList.map (fun (o : Int) => (pc : Int) + o) = ts.map (fun (a : Nat) => (a : Int))) (hn : hi + 1 = lo + ts.length) (h : dm_x sh X Sp K Qp (.tableswitch d lo hi offs) t pc L S u) : dm_G p l e R s m args below meth c D cl cA ad sh A nL Q pc L S u := by
  obtain ⟨⟨hx, hb, hml, hown, hts⟩, hKK, hDD, hA, hret, hlk⟩ := C0
  intro ls H locs hl hP hS
  subst ht
  simp only [dm_x] at h
  split at h
  · rename_i x S'
    obtain ⟨h1, h2⟩ := h
    by_cases hin : x.toInt < lo ∨ hi < x.toInt
    · exact lv_tableOut hx hb hd hin h0 (hK _ _ _ _ (h1 hin) ls H locs hl hP hS)
    · have g1 : ¬ x.toInt < lo := fun q => hin (Or.inl q)
      have g2 : ¬ hi < x.toInt := fun q => hin (Or.inr q)
      have hj : (x.toInt - lo).toNat < ts.length := by omega
      have ha : ts[(x.toInt - lo).toNat]? = some ts[(x.toInt - lo).toNat] := List.getElem?_eq_getElem hj
      have hlen : offs.toList.length = ts.length := by
        have := congrArg List.length ho
        simpa using this
      have hj2 : (x.toInt - lo).toNat < offs.toList.length := by omega
      have hb2 : offs.toList[(x.toInt - lo).toNat]? = some offs.toList[(x.toInt - lo).toNat] := List.getElem?_eq_getElem hj2
      have he : (pc : Int) + offs.toList[(x.toInt - lo).toNat] = (ts[(x.toInt - lo).toNat] : Int) := by
        have := congrArg (fun z => z[(x.toInt - lo).toNat]?) ho
        simp only [List.getElem?_map, ha, hb2, Option.map_some, Option.some.injEq] at this
        exact this
      refine lv_tableIn hx hb hd g1 g2 (by rw [← Array.getElem?_toList]; exact hb2) he (hK _ _ _ _ (dm_sw_at ts lo h2 _ _ ha ?_) ls H locs hl hP hS)
      omega
  · exact h.elim
theorem dm_T_invokevirtual (C0 : dm_C p s m args meth c cc nL Ts own D cl cA ad sh A rk) (hK : ∀ pc L S u, K pc L S u → dm_G p l e R s m args below meth c D cl cA ad sh A nL Q pc L S u) (hM : dm_MO l R Ts own D cl cA ad sh X Sp) {j : Nat} (hd : decode cc pc = .ok (.invokevirtual j, dm_len (.invokevirtual j))) (h : dm_x sh X Sp K Qp (.invokevirtual j) t pc L S u) : dm_G p l e R s m args below meth c D cl cA ad sh A nL Q pc L S u := by
  obtain ⟨⟨hx, hb, hml, hown, hts⟩, hKK, hDD, hA, hret, hlk⟩ := C0
  intro ls H locs hl hP hS
  simp only [dm_x] at h
  split at h
  · rename_i mid n ci hj
    split at h
    · rename_i c0 S' hS'
      split at h
      · rename_i ci' fs hc
        obtain ⟨⟨rfl, hci, hcs⟩, hsp⟩ := h
        obtain ⟨y, bytes, maxL, ret, ws', rm, hMet, hG, ⟨hrc, hrs⟩, hRoom, ⟨hini, hlink⟩, hd3, -, hvirt⟩ := hM j mid n ci hj
        obtain ⟨⟨hinst, hsel⟩, T, N, hcl⟩ := hvirt hci
        have hw := dm_w_at (ad := ad) (cA := cA) (u := u) hc
        have hn : n < S.length := by
          have := congrArg List.length hS'
          simp at this
          omega
        have hcw : CallW R s args own y.cls j y bytes maxL ret (Cond.code y bytes maxL ret :: ws') rm 0 0 n := ⟨callB_of n hts hG rfl hrc hrs (hts _ hini) (hts _ hlink) hd3 hRoom, hts _ hinst, hts _ hsel⟩
        have hFr := dm_freeA (hDD u) hA hS
        have hstk : S.map (dm_cv ad) = (((S.take n).reverse).map (dm_cv ad)).reverse ++ Value.ref (ad c0) :: S'.map (dm_cv ad) := by
          conv => lhs; rw [← List.take_append_drop n S, hS']
          simp [dm_cv]
        have hR := va_runV (rest := S'.map (dm_cv ad)) (g := F0 m pc ls (S.map (dm_cv ad))) (locs := locs) (cells := 0) (slots := 0) (below := below) (meth := meth) (e := e) ⟨hx, hb, hml, hown, hts⟩ (hMet H.size (.ref c0 :: (S.take n).reverse) u _ hsp) hcw (b := ad c0) (As := ((S.take n).reverse).map (dm_cv ad)) ⟨dm_blind, va_recv hKK hP hcl hw, fun U hU hW => ⟨rfl, by rw [hU], by rw [hU]; exact hP, va_K.moved hW.alike hKK, (hDD u).weaken (fun _ _ _ _ => trivial)⟩⟩ rfl (by simp; omega) hl.1.1 hstk (lv_room (by rw [dm_cs_cv]; exact hcs)) hd ⟨Nat.zero_le _, Nat.zero_le _⟩
        refine dm_call hR hS (fun q _ h9 => hFr q h9) hFr (fun r v t H1 locs1 ht hvm hnr hq hB hS1 => ?_)
        have hq2 : K (pc + 3) L (r.toList ++ S') v := by cases r <;> exact hq
        have hk := hK _ _ _ _ hq2 ls H1 locs1 hl (by rw [← ht]; exact hB.1) hS1
        rw [List.map_append, dm_toList_cv hnr] at hk
        exact hk
      · exact h.elim
    · exact h.elim
  · exact h.elim
theorem dm_T_invokestatic (C0 : dm_C p s m args meth c cc nL Ts own D cl cA ad sh A rk) (hK : ∀ pc L S u, K pc L S u → dm_G p l e R s m args below meth c D cl cA ad sh A nL Q pc L S u) (hM : dm_MO l R Ts own D cl cA ad sh X Sp) {j : Nat} (hd : decode cc pc = .ok (.invokestatic j, dm_len (.invokestatic j))) (h : dm_x sh X Sp K Qp (.invokestatic j) t pc L S u) : dm_G p l e R s m args below meth c D cl cA ad sh A nL Q pc L S u := by
  obtain ⟨⟨hx, hb, hml, hown, hts⟩, hKK, hDD, hA, hret, hlk⟩ := C0
  intro ls H locs hl hP hS
  simp only [dm_x] at h
  split at h
  · rename_i mid n ci hj
    obtain ⟨⟨rfl, hn, hcs⟩, hsp⟩ := h
    obtain ⟨y, bytes, maxL, ret, ws', rm, hMet, hG, ⟨hrc, hrs⟩, hRoom, ⟨hini, hlink⟩, hd3, hstat, -⟩ := hM j mid n 1000 hj
    have hcw : CallB R s args own j y bytes maxL ret (Cond.code y bytes maxL ret :: ws') rm 0 0 n ∧ (Cond.static y).before args s = true := ⟨callB_of n hts hG rfl hrc hrs (hts _ hini) (hts _ hlink) hd3 hRoom, hts _ (hstat rfl)⟩
    have hFr := dm_freeA (hDD u) hA hS
    have hstk : S.map (dm_cv ad) = (((S.take n).reverse).map (dm_cv ad)).reverse ++ (S.drop n).map (dm_cv ad) := by
      conv => lhs; rw [← List.take_append_drop n S]
      simp
    have hR := va_runS (rest := (S.drop n).map (dm_cv ad)) (g := F0 m pc ls (S.map (dm_cv ad))) (locs := locs) (cells := 0) (slots := 0) (below := below) (meth := meth) (e := e) ⟨hx, hb, hml, hown, hts⟩ (hMet H.size ((S.take n).reverse) u _ hsp) hcw (As := ((S.take n).reverse).map (dm_cv ad)) ⟨dm_blind, fun U hU hW => ⟨rfl, by rw [hU], by rw [hU]; exact hP, va_K.moved hW.alike hKK, (hDD u).weaken (fun _ _ _ _ => trivial)⟩⟩ rfl (by simp; omega) hl.1.1 hstk (lv_room (by rw [dm_cs_cv]; exact hcs)) hd ⟨Nat.zero_le _, Nat.zero_le _⟩
    refine dm_call hR hS (fun q _ h9 => hFr q h9) hFr (fun r v t H1 locs1 ht hvm hnr hq hB hS1 => ?_)
    have hq2 : K (pc + 3) L (r.toList ++ S.drop n) v := by cases r <;> exact hq
    have hk := hK _ _ _ _ hq2 ls H1 locs1 hl (by rw [← ht]; exact hB.1) hS1
    rw [List.map_append, dm_toList_cv hnr] at hk
    exact hk
  · exact h.elim
theorem dm_T_ireturn (C0 : dm_C p s m args meth c cc nL Ts own D cl cA ad sh A rk) (hrk : X.2.2.2.2 = rk) (hd : decode cc pc = .ok (.ireturn, dm_len (.ireturn))) (h : dm_x sh X Sp K Qp (.ireturn) t pc L S u) : dm_G p l e R s m args below meth c D cl cA ad sh A nL (MQ below (dm_Qc D cl cA ad sh A Qp) args s 0 0 A) pc L S u := by
  obtain ⟨⟨hx, hb, hml, hown, hts⟩, hKK, hDD, hA, hret, hlk⟩ := C0
  intro ls H locs hl hP hS
  simp only [dm_x] at h
  split at h
  · rename_i x
    split at h
    · rename_i hq
      rw [← hrk, hq] at hret
      exact W.zret (ty := .int) hx hb hret rfl (fun t ht hW => ⟨⟨some (.int x), u, rfl, (fun a q => by cases q), h, by rw [ht]; exact hP, va_K.moved hW.alike hKK, hDD u⟩, hS.F ht⟩) hS.2.2 hd
    · rename_i hq
      rw [← hrk, hq] at hret
      exact W.zret (ty := .boolean) hx hb hret h.1 (fun t ht hW => ⟨⟨some (.int x), u, rfl, (fun a q => by cases q), h.2, by rw [ht]; exact hP, va_K.moved hW.alike hKK, hDD u⟩, hS.F ht⟩) hS.2.2 hd
    · exact h.elim
  · exact h.elim
theorem dm_T_lreturn (C0 : dm_C p s m args meth c cc nL Ts own D cl cA ad sh A rk) (hrk : X.2.2.2.2 = rk) (hd : decode cc pc = .ok (.lreturn, dm_len (.lreturn))) (h : dm_x sh X Sp K Qp (.lreturn) t pc L S u) : dm_G p l e R s m args below meth c D cl cA ad sh A nL (MQ below (dm_Qc D cl cA ad sh A Qp) args s 0 0 A) pc L S u := by
  obtain ⟨⟨hx, hb, hml, hown, hts⟩, hKK, hDD, hA, hret, hlk⟩ := C0
  intro ls H locs hl hP hS
  simp only [dm_x] at h
  split at h
  · rename_i x
    rw [← hrk, h.1] at hret
    exact W.lret hx hb hret (fun t ht hW => ⟨⟨some (.long x), u, rfl, (fun a q => by cases q), h.2, by rw [ht]; exact hP, va_K.moved hW.alike hKK, hDD u⟩, hS.F ht⟩) hS.2.2 hd
  · exact h.elim
theorem dm_T_return_ (C0 : dm_C p s m args meth c cc nL Ts own D cl cA ad sh A rk) (hrk : X.2.2.2.2 = rk) (hd : decode cc pc = .ok (.return_, dm_len (.return_))) (h : dm_x sh X Sp K Qp (.return_) t pc L S u) : dm_G p l e R s m args below meth c D cl cA ad sh A nL (MQ below (dm_Qc D cl cA ad sh A Qp) args s 0 0 A) pc L S u := by
  obtain ⟨⟨hx, hb, hml, hown, hts⟩, hKK, hDD, hA, hret, hlk⟩ := C0
  intro ls H locs hl hP hS
  simp only [dm_x] at h
  split at h
  · rw [← hrk, h.1] at hret
    exact W.vret hx hb hret (fun t ht hW => ⟨⟨none, u, rfl, (fun a q => by cases q), h.2, by rw [ht]; exact hP, va_K.moved hW.alike hKK, hDD u⟩, hS.F ht⟩) hS.2.2 hd
  · exact h.elim
set_option maxHeartbeats 4000000 in
theorem dm_step (C0 : dm_C p s m args meth c cc nL Ts own D cl cA ad sh A rk) (hrk : X.2.2.2.2 = rk) (hF : dm_FO Ts own cl X) (hI : dm_IO Ts own X) (hSO : dm_SO cl sh) (hM : dm_MO l R Ts own D cl cA ad sh X Sp) (hK : ∀ pc L S u, K pc L S u → dm_G p l e R s m args below meth c D cl cA ad sh A nL (MQ below (dm_Qc D cl cA ad sh A Qp) args s 0 0 A) pc L S u) (i : Instr) (n : Nat) (hv : dm_vb cc (pc, i, n, t) = true) (h : dm_x sh X Sp K Qp i t pc L S u) : dm_G p l e R s m args below meth c D cl cA ad sh A nL (MQ below (dm_Qc D cl cA ad sh A Qp) args s 0 0 A) pc L S u := by
  cases i with
  | iconst a => exact dm_T_iconst C0 hK (dm_vb_1 hv rfl) h
  | bipush a => exact dm_T_bipush C0 hK (dm_vb_1 hv rfl) h
  | sipush a => exact dm_T_sipush C0 hK (dm_vb_1 hv rfl) h
  | lconst a => exact dm_T_lconst C0 hK (dm_vb_1 hv rfl) h
  | iload a => exact dm_T_iload C0 hK (dm_vb_1 hv rfl) h
  | lload a => exact dm_T_lload C0 hK (dm_vb_1 hv rfl) h
  | aload a => exact dm_T_aload C0 hK (dm_vb_1 hv rfl) h
  | istore a => exact dm_T_istore C0 hK (dm_vb_1 hv rfl) h
  | lstore a => exact dm_T_lstore C0 hK (dm_vb_1 hv rfl) h
  | iinc a b => exact dm_T_iinc C0 hK (dm_vb_1 hv rfl) h
  | iadd => exact dm_T_iadd C0 hK (dm_vb_1 hv rfl) h
  | isub => exact dm_T_isub C0 hK (dm_vb_1 hv rfl) h
  | imul => exact dm_T_imul C0 hK (dm_vb_1 hv rfl) h
  | iand => exact dm_T_iand C0 hK (dm_vb_1 hv rfl) h
  | ior => exact dm_T_ior C0 hK (dm_vb_1 hv rfl) h
  | idiv => exact dm_T_idiv C0 hK (dm_vb_1 hv rfl) h
  | irem => exact dm_T_irem C0 hK (dm_vb_1 hv rfl) h
  | ishl => exact dm_T_ishl C0 hK (dm_vb_1 hv rfl) h
  | ishr => exact dm_T_ishr C0 hK (dm_vb_1 hv rfl) h
  | iushr => exact dm_T_iushr C0 hK (dm_vb_1 hv rfl) h
  | ladd => exact dm_T_ladd C0 hK (dm_vb_1 hv rfl) h
  | lsub => exact dm_T_lsub C0 hK (dm_vb_1 hv rfl) h
  | lmul => exact dm_T_lmul C0 hK (dm_vb_1 hv rfl) h
  | lneg => exact dm_T_lneg C0 hK (dm_vb_1 hv rfl) h
  | lshr => exact dm_T_lshr C0 hK (dm_vb_1 hv rfl) h
  | i2l => exact dm_T_i2l C0 hK (dm_vb_1 hv rfl) h
  | l2i => exact dm_T_l2i C0 hK (dm_vb_1 hv rfl) h
  | lcmp => exact dm_T_lcmp C0 hK (dm_vb_1 hv rfl) h
  | dup => exact dm_T_dup C0 hK (dm_vb_1 hv rfl) h
  | dup2 => exact dm_T_dup2 C0 hK (dm_vb_1 hv rfl) h
  | iaload => exact dm_T_iaload C0 hK (dm_vb_1 hv rfl) h
  | baload => exact dm_T_baload C0 hK (dm_vb_1 hv rfl) h
  | laload => exact dm_T_laload C0 hK (dm_vb_1 hv rfl) h
  | iastore => exact dm_T_iastore C0 hK (dm_vb_1 hv rfl) h
  | bastore => exact dm_T_bastore C0 hK (dm_vb_1 hv rfl) h
  | lastore => exact dm_T_lastore C0 hK (dm_vb_1 hv rfl) h
  | arraylength => exact dm_T_arraylength C0 hK (dm_vb_1 hv rfl) h
  | ldc a => exact dm_T_ldc C0 hK hI (dm_vb_1 hv rfl) h
  | ldc_w a => exact dm_T_ldc_w C0 hK hI (dm_vb_1 hv rfl) h
  | ldc2_w a => exact dm_T_ldc2_w C0 hK hI (dm_vb_1 hv rfl) h
  | getfield a => exact dm_T_getfield C0 hK hF (dm_vb_1 hv rfl) h
  | putfield a => exact dm_T_putfield C0 hK hF hSO (dm_vb_1 hv rfl) h
  | invokevirtual a => exact dm_T_invokevirtual C0 hK hM (dm_vb_1 hv rfl) h
  | invokestatic a => exact dm_T_invokestatic C0 hK hM (dm_vb_1 hv rfl) h
  | ireturn => exact dm_T_ireturn C0 hrk (dm_vb_1 hv rfl) h
  | lreturn => exact dm_T_lreturn C0 hrk (dm_vb_1 hv rfl) h
  | return_ => exact dm_T_return_ C0 hrk (dm_vb_1 hv rfl) h
  | iload_n j =>
    obtain ⟨b, rfl, hd, ho⟩ : ∃ b, t = [b] ∧ decode cc pc = .ok (.iload_n j, dm_len (.iload_n j)) ∧ j.val = b := by
      simp only [dm_vb, Bool.and_eq_true, decide_eq_true_eq] at hv
      obtain ⟨h1, h2⟩ := hv
      split at h2 <;> simp_all [dm_len]
    exact dm_T_iload_n C0 hK rfl ho hd h
  | lload_n j =>
    obtain ⟨b, rfl, hd, ho⟩ : ∃ b, t = [b] ∧ decode cc pc = .ok (.lload_n j, dm_len (.lload_n j)) ∧ j.val = b := by
      simp only [dm_vb, Bool.and_eq_true, decide_eq_true_eq] at hv
      obtain ⟨h1, h2⟩ := hv
      split at h2 <;> simp_all [dm_len]
    exact dm_T_lload_n C0 hK rfl ho hd h
  | aload_n j =>
    obtain ⟨b, rfl, hd, ho⟩ : ∃ b, t = [b] ∧ decode cc pc = .ok (.aload_n j, dm_len (.aload_n j)) ∧ j.val = b := by
      simp only [dm_vb, Bool.and_eq_true, decide_eq_true_eq] at hv
      obtain ⟨h1, h2⟩ := hv
      split at h2 <;> simp_all [dm_len]
    exact dm_T_aload_n C0 hK rfl ho hd h
  | istore_n j =>
    obtain ⟨b, rfl, hd, ho⟩ : ∃ b, t = [b] ∧ decode cc pc = .ok (.istore_n j, dm_len (.istore_n j)) ∧ j.val = b := by
      simp only [dm_vb, Bool.and_eq_true, decide_eq_true_eq] at hv
      obtain ⟨h1, h2⟩ := hv
      split at h2 <;> simp_all [dm_len]
    exact dm_T_istore_n C0 hK rfl ho hd h
  | lstore_n j =>
    obtain ⟨b, rfl, hd, ho⟩ : ∃ b, t = [b] ∧ decode cc pc = .ok (.lstore_n j, dm_len (.lstore_n j)) ∧ j.val = b := by
      simp only [dm_vb, Bool.and_eq_true, decide_eq_true_eq] at hv
      obtain ⟨h1, h2⟩ := hv
      split at h2 <;> simp_all [dm_len]
    exact dm_T_lstore_n C0 hK rfl ho hd h
  | ifCond o off =>
    obtain ⟨b, rfl, hd, ho⟩ : ∃ b, t = [b] ∧ decode cc pc = .ok (.ifCond o off, 3) ∧ (pc : Int) + off = (b : Int) := by
      simp only [dm_vb, Bool.and_eq_true, decide_eq_true_eq] at hv
      obtain ⟨h1, h2⟩ := hv
      split at h2 <;> simp_all
    exact dm_T_ifCond C0 hK rfl hd ho h
  | if_icmp o off =>
    obtain ⟨b, rfl, hd, ho⟩ : ∃ b, t = [b] ∧ decode cc pc = .ok (.if_icmp o off, 3) ∧ (pc : Int) + off = (b : Int) := by
      simp only [dm_vb, Bool.and_eq_true, decide_eq_true_eq] at hv
      obtain ⟨h1, h2⟩ := hv
      split at h2 <;> simp_all
    exact dm_T_if_icmp C0 hK rfl hd ho h
  | goto off =>
    obtain ⟨b, rfl, hd, ho⟩ : ∃ b, t = [b] ∧ decode cc pc = .ok (.goto off, 3) ∧ (pc : Int) + off = (b : Int) := by
      simp only [dm_vb, Bool.and_eq_true, decide_eq_true_eq] at hv
      obtain ⟨h1, h2⟩ := hv
      split at h2 <;> simp_all
    exact dm_T_goto C0 hK rfl hd ho h
  | tableswitch d lo hi offs =>
    obtain ⟨t0, ts, rfl, h0, ho, hn⟩ : ∃ t0 ts, t = t0 :: ts ∧ (pc : Int) + d = (t0 : Int) ∧ offs.toList.map (fun (o : Int) => (pc : Int) + o) = ts.map (fun (a : Nat) => (a : Int)) ∧ hi + 1 = lo + ts.length := by
      simp only [dm_vb, Bool.and_eq_true, decide_eq_true_eq] at hv
      obtain ⟨h1, h2⟩ := hv
      cases t with
      | nil => simp at h2
      | cons t0 ts =>
        simp only [Bool.and_eq_true, decide_eq_true_eq] at h2
        exact ⟨t0, ts, rfl, h2.1.1, h2.1.2, h2.2⟩
    have hd : decode cc pc = .ok (.tableswitch d lo hi offs, n) := by
      simp only [dm_vb, Bool.and_eq_true, decide_eq_true_eq] at hv
      exact hv.1
    exact dm_T_tableswitch C0 hK rfl hd h0 ho hn h
  | _ => exact False.elim h
/-- a method's instruction list, walked as far as the cuts: what is left is a condition on what comes behind -/
theorem dm_sound (C0 : dm_C p s m args meth c cc nL Ts own D cl cA ad sh A rk) (hrk : X.2.2.2.2 = rk) (hF : dm_FO Ts own cl X) (hI : dm_IO Ts own X) (hSO : dm_SO cl sh) (hM : dm_MO l R Ts own D cl cA ad sh X Sp) {prog : List dm_I} (hp : prog.all (dm_vb cc) = true) (cut : Nat → Bool) : ∀ (n : Nat) (b : Bool) (rest : List dm_I), (∀ z ∈ rest, z ∈ prog) → ∀ (pc : Nat) (L : List (Option Value)) (S : List Value) (u : dm_S), dm_wp sh X Sp Qp prog cut (dm_G p l e R s m args below meth c D cl cA ad sh A nL (MQ below (dm_Qc D cl cA ad sh A Qp) args s 0 0 A)) n b rest pc L S u → dm_G p l e R s m args below meth c D cl cA ad sh A nL (MQ below (dm_Qc D cl cA ad sh A Qp) args s 0 0 A) pc L S u := by
  intro n
  induction n with
  | zero => intro b rest hr pc L S u h; exact h.elim
  | succ n ih =>
    intro b rest hr pc L S u h
    unfold dm_wp at h
    split at h
    · exact h
    · split at h
      · exact h.elim
      · rename_i q r hq
        obtain ⟨hpc, hmem, hr2⟩ := dm_fn_ok hr hq
        have hv := List.all_eq_true.mp hp q hmem
        obtain ⟨pc', i, len, t⟩ := q
        simp only at hpc
        subst hpc
        exact dm_step C0 hrk hF hI hSO hM (fun pc'' L' S' u' hk => ih true r hr2 pc'' L' S' u' hk) i len hv h
end DMU
end
section
-- ===== PART A: goes FIRST, ahead of the names: the tables' words, and 'selects' of the private methods out of them =====
/-- a private method of a class that the tables say can be made, by its rows of tables_1 -/
def lw_okq (q : MethodName × Nat) : Prop := (q.1.cls ≠ "java/lang/invoke/MethodHandle" ∧ q.1.cls ≠ "java/lang/invoke/VarHandle") ∧ Cond.instantiable q.1.cls q.2 ∈ tables_1 ∧ Cond.privateMethod q.1 ∈ tables_1 ∧ Cond.instanceMethod q.1 ∈ tables_1
theorem lw_p0 : lw_okq (⟨"CostFlow", "forget", "()V"⟩, 11) := ⟨⟨by decide +kernel, by decide +kernel⟩, List.mem_of_getElem? (i := 17) (by decide +kernel), List.mem_of_getElem? (i := 409) (by decide +kernel), List.mem_of_getElem? (i := 410) (by decide +kernel)⟩
theorem lw_p1 : lw_okq (⟨"CostFlow$Net", "lastPart", "(I)I"⟩, 11) := ⟨⟨by decide +kernel, by decide +kernel⟩, List.mem_of_getElem? (i := 25) (by decide +kernel), List.mem_of_getElem? (i := 444) (by decide +kernel), List.mem_of_getElem? (i := 445) (by decide +kernel)⟩
theorem lw_p2 : lw_okq (⟨"CostFlow$Lanes", "sortWays", "()V"⟩, 11) := ⟨⟨by decide +kernel, by decide +kernel⟩, List.mem_of_getElem? (i := 99) (by decide +kernel), List.mem_of_getElem? (i := 479) (by decide +kernel), List.mem_of_getElem? (i := 480) (by decide +kernel)⟩
theorem lw_p3 : lw_okq (⟨"CostFlow", "lookFor", "(I)I"⟩, 11) := ⟨⟨by decide +kernel, by decide +kernel⟩, List.mem_of_getElem? (i := 17) (by decide +kernel), List.mem_of_getElem? (i := 490) (by decide +kernel), List.mem_of_getElem? (i := 491) (by decide +kernel)⟩
theorem lw_p4 : lw_okq (⟨"CostFlow$Router", "sendWhatCanGo", "()V"⟩, 7) := ⟨⟨by decide +kernel, by decide +kernel⟩, List.mem_of_getElem? (i := 194) (by decide +kernel), List.mem_of_getElem? (i := 525) (by decide +kernel), List.mem_of_getElem? (i := 526) (by decide +kernel)⟩
theorem lw_p5 : lw_okq (⟨"CostFlow$Router", "nearestInNeed", "()I"⟩, 7) := ⟨⟨by decide +kernel, by decide +kernel⟩, List.mem_of_getElem? (i := 194) (by decide +kernel), List.mem_of_getElem? (i := 530) (by decide +kernel), List.mem_of_getElem? (i := 531) (by decide +kernel)⟩
theorem lw_p6 : lw_okq (⟨"CostFlow$Router", "queueSources", "()V"⟩, 7) := ⟨⟨by decide +kernel, by decide +kernel⟩, List.mem_of_getElem? (i := 194) (by decide +kernel), List.mem_of_getElem? (i := 534) (by decide +kernel), List.mem_of_getElem? (i := 535) (by decide +kernel)⟩
theorem lw_p7 : lw_okq (⟨"CostFlow$Router", "enqueue", "(IIJ)V"⟩, 7) := ⟨⟨by decide +kernel, by decide +kernel⟩, List.mem_of_getElem? (i := 194) (by decide +kernel), List.mem_of_getElem? (i := 539) (by decide +kernel), List.mem_of_getElem? (i := 540) (by decide +kernel)⟩
theorem lw_p8 : lw_okq (⟨"CostFlow$Router", "queueNeighbours", "(I)V"⟩, 7) := ⟨⟨by decide +kernel, by decide +kernel⟩, List.mem_of_getElem? (i := 194) (by decide +kernel), List.mem_of_getElem? (i := 543) (by decide +kernel), List.mem_of_getElem? (i := 544) (by decide +kernel)⟩
theorem lw_p9 : lw_okq (⟨"CostFlow$Prices", "lowerByEndless", "()Z"⟩, 5) := ⟨⟨by decide +kernel, by decide +kernel⟩, List.mem_of_getElem? (i := 223) (by decide +kernel), List.mem_of_getElem? (i := 580) (by decide +kernel), List.mem_of_getElem? (i := 581) (by decide +kernel)⟩
theorem lw_p10 : lw_okq (⟨"CostFlow$Falling", "fewestArcs", "()I"⟩, 4) := ⟨⟨by decide +kernel, by decide +kernel⟩, List.mem_of_getElem? (i := 302) (by decide +kernel), List.mem_of_getElem? (i := 592) (by decide +kernel), List.mem_of_getElem? (i := 593) (by decide +kernel)⟩
theorem lw_p11 : lw_okq (⟨"CostFlow$Falling", "measureTo", "(II)V"⟩, 4) := ⟨⟨by decide +kernel, by decide +kernel⟩, List.mem_of_getElem? (i := 302) (by decide +kernel), List.mem_of_getElem? (i := 596) (by decide +kernel), List.mem_of_getElem? (i := 597) (by decide +kernel)⟩
theorem lw_p12 : lw_okq (⟨"CostFlow$Falling", "lowestOfRings", "(I)I"⟩, 4) := ⟨⟨by decide +kernel, by decide +kernel⟩, List.mem_of_getElem? (i := 302) (by decide +kernel), List.mem_of_getElem? (i := 602) (by decide +kernel), List.mem_of_getElem? (i := 603) (by decide +kernel)⟩
theorem lw_p13 : lw_okq (⟨"CostFlow$Falling", "endsBelow", "(IIJ)Z"⟩, 4) := ⟨⟨by decide +kernel, by decide +kernel⟩, List.mem_of_getElem? (i := 302) (by decide +kernel), List.mem_of_getElem? (i := 606) (by decide +kernel), List.mem_of_getElem? (i := 607) (by decide +kernel)⟩
theorem lw_p14 : lw_okq (⟨"CostFlow$Falling", "lowestFrom", "(IIJ)I"⟩, 4) := ⟨⟨by decide +kernel, by decide +kernel⟩, List.mem_of_getElem? (i := 302) (by decide +kernel), List.mem_of_getElem? (i := 610) (by decide +kernel), List.mem_of_getElem? (i := 611) (by decide +kernel)⟩
theorem lw_p15 : lw_okq (⟨"CostFlow$Ways", "gatherAlong", "(I)V"⟩, 7) := ⟨⟨by decide +kernel, by decide +kernel⟩, List.mem_of_getElem? (i := 156) (by decide +kernel), List.mem_of_getElem? (i := 628) (by decide +kernel), List.mem_of_getElem? (i := 629) (by decide +kernel)⟩
def lw_privs_1 : List (MethodName × Nat) := [(⟨"CostFlow", "forget", "()V"⟩, 11), (⟨"CostFlow$Net", "lastPart", "(I)I"⟩, 11), (⟨"CostFlow$Lanes", "sortWays", "()V"⟩, 11), (⟨"CostFlow", "lookFor", "(I)I"⟩, 11), (⟨"CostFlow$Router", "sendWhatCanGo", "()V"⟩, 7), (⟨"CostFlow$Router", "nearestInNeed", "()I"⟩, 7), (⟨"CostFlow$Router", "queueSources", "()V"⟩, 7), (⟨"CostFlow$Router", "enqueue", "(IIJ)V"⟩, 7), (⟨"CostFlow$Router", "queueNeighbours", "(I)V"⟩, 7), (⟨"CostFlow$Prices", "lowerByEndless", "()Z"⟩, 5), (⟨"CostFlow$Falling", "fewestArcs", "()I"⟩, 4), (⟨"CostFlow$Falling", "measureTo", "(II)V"⟩, 4), (⟨"CostFlow$Falling", "lowestOfRings", "(I)I"⟩, 4), (⟨"CostFlow$Falling", "endsBelow", "(IIJ)Z"⟩, 4), (⟨"CostFlow$Falling", "lowestFrom", "(IIJ)I"⟩, 4), (⟨"CostFlow$Ways", "gatherAlong", "(I)V"⟩, 7)]
theorem lw_r1 : ∀ q ∈ lw_privs_1, lw_okq q := List.forall_mem_cons.mpr ⟨lw_p0, List.forall_mem_cons.mpr ⟨lw_p1, List.forall_mem_cons.mpr ⟨lw_p2, List.forall_mem_cons.mpr ⟨lw_p3, List.forall_mem_cons.mpr ⟨lw_p4, List.forall_mem_cons.mpr ⟨lw_p5, List.forall_mem_cons.mpr ⟨lw_p6, List.forall_mem_cons.mpr ⟨lw_p7, List.forall_mem_cons.mpr ⟨lw_p8, List.forall_mem_cons.mpr ⟨lw_p9, List.forall_mem_cons.mpr ⟨lw_p10, List.forall_mem_cons.mpr ⟨lw_p11, List.forall_mem_cons.mpr ⟨lw_p12, List.forall_mem_cons.mpr ⟨lw_p13, List.forall_mem_cons.mpr ⟨lw_p14, List.forall_mem_cons.mpr ⟨lw_p15, fun _ h => absurd h List.not_mem_nil⟩⟩⟩⟩⟩⟩⟩⟩⟩⟩⟩⟩⟩⟩⟩⟩
theorem lw_p16 : lw_okq (⟨"CostFlow$Ways", "add", "(I)V"⟩, 7) := ⟨⟨by decide +kernel, by decide +kernel⟩, List.mem_of_getElem? (i := 156) (by decide +kernel), List.mem_of_getElem? (i := 632) (by decide +kernel), List.mem_of_getElem? (i := 633) (by decide +kernel)⟩
theorem lw_p17 : lw_okq (⟨"CostFlow$Ways", "gatherAgainst", "(I)V"⟩, 7) := ⟨⟨by decide +kernel, by decide +kernel⟩, List.mem_of_getElem? (i := 156) (by decide +kernel), List.mem_of_getElem? (i := 642) (by decide +kernel), List.mem_of_getElem? (i := 643) (by decide +kernel)⟩
theorem lw_p18 : lw_okq (⟨"CostFlow$Rings", "walk", "()V"⟩, 7) := ⟨⟨by decide +kernel, by decide +kernel⟩, List.mem_of_getElem? (i := 274) (by decide +kernel), List.mem_of_getElem? (i := 646) (by decide +kernel), List.mem_of_getElem? (i := 647) (by decide +kernel)⟩
theorem lw_p19 : lw_okq (⟨"CostFlow$Rings", "walkOn", "(II)V"⟩, 7) := ⟨⟨by decide +kernel, by decide +kernel⟩, List.mem_of_getElem? (i := 274) (by decide +kernel), List.mem_of_getElem? (i := 651) (by decide +kernel), List.mem_of_getElem? (i := 652) (by decide +kernel)⟩
theorem lw_p20 : lw_okq (⟨"CostFlow$Rings", "endOfSteepest", "()I"⟩, 7) := ⟨⟨by decide +kernel, by decide +kernel⟩, List.mem_of_getElem? (i := 274) (by decide +kernel), List.mem_of_getElem? (i := 655) (by decide +kernel), List.mem_of_getElem? (i := 656) (by decide +kernel)⟩
theorem lw_p21 : lw_okq (⟨"CostFlow$Rings", "flattestStep", "(I)I"⟩, 7) := ⟨⟨by decide +kernel, by decide +kernel⟩, List.mem_of_getElem? (i := 274) (by decide +kernel), List.mem_of_getElem? (i := 659) (by decide +kernel), List.mem_of_getElem? (i := 660) (by decide +kernel)⟩
theorem lw_p22 : lw_okq (⟨"CostFlow$Rings", "costOfRest", "(II)J"⟩, 7) := ⟨⟨by decide +kernel, by decide +kernel⟩, List.mem_of_getElem? (i := 274) (by decide +kernel), List.mem_of_getElem? (i := 663) (by decide +kernel), List.mem_of_getElem? (i := 664) (by decide +kernel)⟩
theorem lw_p23 : lw_okq (⟨"CostFlow$Rings", "cancelRingTo", "(I)V"⟩, 7) := ⟨⟨by decide +kernel, by decide +kernel⟩, List.mem_of_getElem? (i := 274) (by decide +kernel), List.mem_of_getElem? (i := 667) (by decide +kernel), List.mem_of_getElem? (i := 668) (by decide +kernel)⟩
theorem lw_p24 : lw_okq (⟨"CostFlow$Rings", "pushRound", "(II)V"⟩, 7) := ⟨⟨by decide +kernel, by decide +kernel⟩, List.mem_of_getElem? (i := 274) (by decide +kernel), List.mem_of_getElem? (i := 673) (by decide +kernel), List.mem_of_getElem? (i := 674) (by decide +kernel)⟩
theorem lw_p25 : lw_okq (⟨"CostFlow$Paths", "useFalling", "(J)V"⟩, 7) := ⟨⟨by decide +kernel, by decide +kernel⟩, List.mem_of_getElem? (i := 246) (by decide +kernel), List.mem_of_getElem? (i := 686) (by decide +kernel), List.mem_of_getElem? (i := 687) (by decide +kernel)⟩
theorem lw_p26 : lw_okq (⟨"CostFlow$Paths", "sendAtLeast", "(JI)Z"⟩, 7) := ⟨⟨by decide +kernel, by decide +kernel⟩, List.mem_of_getElem? (i := 246) (by decide +kernel), List.mem_of_getElem? (i := 695) (by decide +kernel), List.mem_of_getElem? (i := 696) (by decide +kernel)⟩
theorem lw_p27 : lw_okq (⟨"CostFlow$Paths", "nearestInNeed", "(J)I"⟩, 7) := ⟨⟨by decide +kernel, by decide +kernel⟩, List.mem_of_getElem? (i := 246) (by decide +kernel), List.mem_of_getElem? (i := 699) (by decide +kernel), List.mem_of_getElem? (i := 700) (by decide +kernel)⟩
theorem lw_p28 : lw_okq (⟨"CostFlow$Paths", "markSources", "(J)V"⟩, 7) := ⟨⟨by decide +kernel, by decide +kernel⟩, List.mem_of_getElem? (i := 246) (by decide +kernel), List.mem_of_getElem? (i := 703) (by decide +kernel), List.mem_of_getElem? (i := 704) (by decide +kernel)⟩
theorem lw_p29 : lw_okq (⟨"CostFlow$Paths", "nearestNotDone", "()I"⟩, 7) := ⟨⟨by decide +kernel, by decide +kernel⟩, List.mem_of_getElem? (i := 246) (by decide +kernel), List.mem_of_getElem? (i := 708) (by decide +kernel), List.mem_of_getElem? (i := 709) (by decide +kernel)⟩
theorem lw_p30 : lw_okq (⟨"CostFlow$Paths", "goOn", "(IJ)V"⟩, 7) := ⟨⟨by decide +kernel, by decide +kernel⟩, List.mem_of_getElem? (i := 246) (by decide +kernel), List.mem_of_getElem? (i := 712) (by decide +kernel), List.mem_of_getElem? (i := 713) (by decide +kernel)⟩
theorem lw_p31 : lw_okq (⟨"CostFlow$Paths", "raisePrices", "(J)V"⟩, 7) := ⟨⟨by decide +kernel, by decide +kernel⟩, List.mem_of_getElem? (i := 246) (by decide +kernel), List.mem_of_getElem? (i := 718) (by decide +kernel), List.mem_of_getElem? (i := 719) (by decide +kernel)⟩
def lw_privs_2 : List (MethodName × Nat) := [(⟨"CostFlow$Ways", "add", "(I)V"⟩, 7), (⟨"CostFlow$Ways", "gatherAgainst", "(I)V"⟩, 7), (⟨"CostFlow$Rings", "walk", "()V"⟩, 7), (⟨"CostFlow$Rings", "walkOn", "(II)V"⟩, 7), (⟨"CostFlow$Rings", "endOfSteepest", "()I"⟩, 7), (⟨"CostFlow$Rings", "flattestStep", "(I)I"⟩, 7), (⟨"CostFlow$Rings", "costOfRest", "(II)J"⟩, 7), (⟨"CostFlow$Rings", "cancelRingTo", "(I)V"⟩, 7), (⟨"CostFlow$Rings", "pushRound", "(II)V"⟩, 7), (⟨"CostFlow$Paths", "useFalling", "(J)V"⟩, 7), (⟨"CostFlow$Paths", "sendAtLeast", "(JI)Z"⟩, 7), (⟨"CostFlow$Paths", "nearestInNeed", "(J)I"⟩, 7), (⟨"CostFlow$Paths", "markSources", "(J)V"⟩, 7), (⟨"CostFlow$Paths", "nearestNotDone", "()I"⟩, 7), (⟨"CostFlow$Paths", "goOn", "(IJ)V"⟩, 7), (⟨"CostFlow$Paths", "raisePrices", "(J)V"⟩, 7)]
theorem lw_r2 : ∀ q ∈ lw_privs_2, lw_okq q := List.forall_mem_cons.mpr ⟨lw_p16, List.forall_mem_cons.mpr ⟨lw_p17, List.forall_mem_cons.mpr ⟨lw_p18, List.forall_mem_cons.mpr ⟨lw_p19, List.forall_mem_cons.mpr ⟨lw_p20, List.forall_mem_cons.mpr ⟨lw_p21, List.forall_mem_cons.mpr ⟨lw_p22, List.forall_mem_cons.mpr ⟨lw_p23, List.forall_mem_cons.mpr ⟨lw_p24, List.forall_mem_cons.mpr ⟨lw_p25, List.forall_mem_cons.mpr ⟨lw_p26, List.forall_mem_cons.mpr ⟨lw_p27, List.forall_mem_cons.mpr ⟨lw_p28, List.forall_mem_cons.mpr ⟨lw_p29, List.forall_mem_cons.mpr ⟨lw_p30, List.forall_mem_cons.mpr ⟨lw_p31, fun _ h => absurd h List.not_mem_nil⟩⟩⟩⟩⟩⟩⟩⟩⟩⟩⟩⟩⟩⟩⟩⟩
theorem lw_p32 : lw_okq (⟨"CostFlow$Prices", "lowerAll", "([JI)V"⟩, 5) := ⟨⟨by decide +kernel, by decide +kernel⟩, List.mem_of_getElem? (i := 223) (by decide +kernel), List.mem_of_getElem? (i := 734) (by decide +kernel), List.mem_of_getElem? (i := 735) (by decide +kernel)⟩
theorem lw_p33 : lw_okq (⟨"CostFlow$Prices", "lowerBy", "(I[J)Z"⟩, 5) := ⟨⟨by decide +kernel, by decide +kernel⟩, List.mem_of_getElem? (i := 223) (by decide +kernel), List.mem_of_getElem? (i := 738) (by decide +kernel), List.mem_of_getElem? (i := 739) (by decide +kernel)⟩
theorem lw_p34 : lw_okq (⟨"CostFlow$Router", "closeLanes", "(I)Z"⟩, 7) := ⟨⟨by decide +kernel, by decide +kernel⟩, List.mem_of_getElem? (i := 194) (by decide +kernel), List.mem_of_getElem? (i := 747) (by decide +kernel), List.mem_of_getElem? (i := 748) (by decide +kernel)⟩
theorem lw_p35 : lw_okq (⟨"CostFlow$Router", "putBack", "(I)V"⟩, 7) := ⟨⟨by decide +kernel, by decide +kernel⟩, List.mem_of_getElem? (i := 194) (by decide +kernel), List.mem_of_getElem? (i := 751) (by decide +kernel), List.mem_of_getElem? (i := 752) (by decide +kernel)⟩
theorem lw_p36 : lw_okq (⟨"CostFlow$Prices", "distanceWithout", "(III)J"⟩, 5) := ⟨⟨by decide +kernel, by decide +kernel⟩, List.mem_of_getElem? (i := 223) (by decide +kernel), List.mem_of_getElem? (i := 803) (by decide +kernel), List.mem_of_getElem? (i := 804) (by decide +kernel)⟩
theorem lw_p37 : lw_okq (⟨"CostFlow$Pairing", "solve", "()V"⟩, 5) := ⟨⟨by decide +kernel, by decide +kernel⟩, List.mem_of_getElem? (i := 341) (by decide +kernel), List.mem_of_getElem? (i := 846) (by decide +kernel), List.mem_of_getElem? (i := 847) (by decide +kernel)⟩
theorem lw_p38 : lw_okq (⟨"CostFlow$Pairing", "sumWith", "(II)J"⟩, 5) := ⟨⟨by decide +kernel, by decide +kernel⟩, List.mem_of_getElem? (i := 341) (by decide +kernel), List.mem_of_getElem? (i := 850) (by decide +kernel), List.mem_of_getElem? (i := 851) (by decide +kernel)⟩
theorem lw_p39 : lw_okq (⟨"CostFlow$Pairing", "giveLowest", "()V"⟩, 5) := ⟨⟨by decide +kernel, by decide +kernel⟩, List.mem_of_getElem? (i := 341) (by decide +kernel), List.mem_of_getElem? (i := 861) (by decide +kernel), List.mem_of_getElem? (i := 862) (by decide +kernel)⟩
theorem lw_p40 : lw_okq (⟨"CostFlowModel", "gone", "()V"⟩, 37) := ⟨⟨by decide +kernel, by decide +kernel⟩, List.mem_of_getElem? (i := 882) (by decide +kernel), List.mem_of_getElem? (i := 1009) (by decide +kernel), List.mem_of_getElem? (i := 1010) (by decide +kernel)⟩
theorem lw_p41 : lw_okq (⟨"CostFlowModel", "isNode", "(I)Z"⟩, 37) := ⟨⟨by decide +kernel, by decide +kernel⟩, List.mem_of_getElem? (i := 882) (by decide +kernel), List.mem_of_getElem? (i := 1017) (by decide +kernel), List.mem_of_getElem? (i := 1018) (by decide +kernel)⟩
theorem lw_p42 : lw_okq (⟨"CostFlowModel", "isArc", "(I)Z"⟩, 37) := ⟨⟨by decide +kernel, by decide +kernel⟩, List.mem_of_getElem? (i := 882) (by decide +kernel), List.mem_of_getElem? (i := 1026) (by decide +kernel), List.mem_of_getElem? (i := 1027) (by decide +kernel)⟩
theorem lw_p43 : lw_okq (⟨"CostFlowModel", "isFeasible", "()Z"⟩, 37) := ⟨⟨by decide +kernel, by decide +kernel⟩, List.mem_of_getElem? (i := 882) (by decide +kernel), List.mem_of_getElem? (i := 1044) (by decide +kernel), List.mem_of_getElem? (i := 1045) (by decide +kernel)⟩
theorem lw_p44 : lw_okq (⟨"CostFlowModel", "split", "()V"⟩, 37) := ⟨⟨by decide +kernel, by decide +kernel⟩, List.mem_of_getElem? (i := 882) (by decide +kernel), List.mem_of_getElem? (i := 1048) (by decide +kernel), List.mem_of_getElem? (i := 1049) (by decide +kernel)⟩
theorem lw_p45 : lw_okq (⟨"CostFlowModel", "addPart", "(IIIJJ)V"⟩, 37) := ⟨⟨by decide +kernel, by decide +kernel⟩, List.mem_of_getElem? (i := 882) (by decide +kernel), List.mem_of_getElem? (i := 1053) (by decide +kernel), List.mem_of_getElem? (i := 1054) (by decide +kernel)⟩
theorem lw_p46 : lw_okq (⟨"CostFlowModel", "way", "()I"⟩, 37) := ⟨⟨by decide +kernel, by decide +kernel⟩, List.mem_of_getElem? (i := 882) (by decide +kernel), List.mem_of_getElem? (i := 1057) (by decide +kernel), List.mem_of_getElem? (i := 1058) (by decide +kernel)⟩
theorem lw_p47 : lw_okq (⟨"CostFlowModel", "tail", "(IZ)I"⟩, 37) := ⟨⟨by decide +kernel, by decide +kernel⟩, List.mem_of_getElem? (i := 882) (by decide +kernel), List.mem_of_getElem? (i := 1062) (by decide +kernel), List.mem_of_getElem? (i := 1063) (by decide +kernel)⟩
def lw_privs_3 : List (MethodName × Nat) := [(⟨"CostFlow$Prices", "lowerAll", "([JI)V"⟩, 5), (⟨"CostFlow$Prices", "lowerBy", "(I[J)Z"⟩, 5), (⟨"CostFlow$Router", "closeLanes", "(I)Z"⟩, 7), (⟨"CostFlow$Router", "putBack", "(I)V"⟩, 7), (⟨"CostFlow$Prices", "distanceWithout", "(III)J"⟩, 5), (⟨"CostFlow$Pairing", "solve", "()V"⟩, 5), (⟨"CostFlow$Pairing", "sumWith", "(II)J"⟩, 5), (⟨"CostFlow$Pairing", "giveLowest", "()V"⟩, 5), (⟨"CostFlowModel", "gone", "()V"⟩, 37), (⟨"CostFlowModel", "isNode", "(I)Z"⟩, 37), (⟨"CostFlowModel", "isArc", "(I)Z"⟩, 37), (⟨"CostFlowModel", "isFeasible", "()Z"⟩, 37), (⟨"CostFlowModel", "split", "()V"⟩, 37), (⟨"CostFlowModel", "addPart", "(IIIJJ)V"⟩, 37), (⟨"CostFlowModel", "way", "()I"⟩, 37), (⟨"CostFlowModel", "tail", "(IZ)I"⟩, 37)]
theorem lw_r3 : ∀ q ∈ lw_privs_3, lw_okq q := List.forall_mem_cons.mpr ⟨lw_p32, List.forall_mem_cons.mpr ⟨lw_p33, List.forall_mem_cons.mpr ⟨lw_p34, List.forall_mem_cons.mpr ⟨lw_p35, List.forall_mem_cons.mpr ⟨lw_p36, List.forall_mem_cons.mpr ⟨lw_p37, List.forall_mem_cons.mpr ⟨lw_p38, List.forall_mem_cons.mpr ⟨lw_p39, List.forall_mem_cons.mpr ⟨lw_p40, List.forall_mem_cons.mpr ⟨lw_p41, List.forall_mem_cons.mpr ⟨lw_p42, List.forall_mem_cons.mpr ⟨lw_p43, List.forall_mem_cons.mpr ⟨lw_p44, List.forall_mem_cons.mpr ⟨lw_p45, List.forall_mem_cons.mpr ⟨lw_p46, List.forall_mem_cons.mpr ⟨lw_p47, fun _ h => absurd h List.not_mem_nil⟩⟩⟩⟩⟩⟩⟩⟩⟩⟩⟩⟩⟩⟩⟩⟩
theorem lw_p48 : lw_okq (⟨"CostFlowModel", "head", "(IZ)I"⟩, 37) := ⟨⟨by decide +kernel, by decide +kernel⟩, List.mem_of_getElem? (i := 882) (by decide +kernel), List.mem_of_getElem? (i := 1066) (by decide +kernel), List.mem_of_getElem? (i := 1067) (by decide +kernel)⟩
theorem lw_p49 : lw_okq (⟨"CostFlowModel", "room", "(IZ)J"⟩, 37) := ⟨⟨by decide +kernel, by decide +kernel⟩, List.mem_of_getElem? (i := 882) (by decide +kernel), List.mem_of_getElem? (i := 1070) (by decide +kernel), List.mem_of_getElem? (i := 1071) (by decide +kernel)⟩
theorem lw_p50 : lw_okq (⟨"CostFlowModel", "goTo", "(I)V"⟩, 37) := ⟨⟨by decide +kernel, by decide +kernel⟩, List.mem_of_getElem? (i := 882) (by decide +kernel), List.mem_of_getElem? (i := 1074) (by decide +kernel), List.mem_of_getElem? (i := 1075) (by decide +kernel)⟩
theorem lw_p51 : lw_okq (⟨"CostFlowModel", "isServed", "()Z"⟩, 37) := ⟨⟨by decide +kernel, by decide +kernel⟩, List.mem_of_getElem? (i := 882) (by decide +kernel), List.mem_of_getElem? (i := 1081) (by decide +kernel), List.mem_of_getElem? (i := 1082) (by decide +kernel)⟩
theorem lw_p52 : lw_okq (⟨"CostFlowModel", "endless", "()Z"⟩, 37) := ⟨⟨by decide +kernel, by decide +kernel⟩, List.mem_of_getElem? (i := 882) (by decide +kernel), List.mem_of_getElem? (i := 1085) (by decide +kernel), List.mem_of_getElem? (i := 1086) (by decide +kernel)⟩
theorem lw_p53 : lw_okq (⟨"CostFlowModel", "lastCost", "(I)J"⟩, 37) := ⟨⟨by decide +kernel, by decide +kernel⟩, List.mem_of_getElem? (i := 882) (by decide +kernel), List.mem_of_getElem? (i := 1089) (by decide +kernel), List.mem_of_getElem? (i := 1090) (by decide +kernel)⟩
theorem lw_p54 : lw_okq (⟨"CostFlowModel", "findRing", "()V"⟩, 37) := ⟨⟨by decide +kernel, by decide +kernel⟩, List.mem_of_getElem? (i := 882) (by decide +kernel), List.mem_of_getElem? (i := 1093) (by decide +kernel), List.mem_of_getElem? (i := 1094) (by decide +kernel)⟩
theorem lw_p55 : lw_okq (⟨"CostFlowModel", "walks", "(III)V"⟩, 37) := ⟨⟨by decide +kernel, by decide +kernel⟩, List.mem_of_getElem? (i := 882) (by decide +kernel), List.mem_of_getElem? (i := 1097) (by decide +kernel), List.mem_of_getElem? (i := 1098) (by decide +kernel)⟩
theorem lw_p56 : lw_okq (⟨"CostFlowModel", "takeRing", "(II)V"⟩, 37) := ⟨⟨by decide +kernel, by decide +kernel⟩, List.mem_of_getElem? (i := 882) (by decide +kernel), List.mem_of_getElem? (i := 1101) (by decide +kernel), List.mem_of_getElem? (i := 1102) (by decide +kernel)⟩
theorem lw_p57 : lw_okq (⟨"CostFlowModel", "takeFlow", "()V"⟩, 37) := ⟨⟨by decide +kernel, by decide +kernel⟩, List.mem_of_getElem? (i := 882) (by decide +kernel), List.mem_of_getElem? (i := 1106) (by decide +kernel), List.mem_of_getElem? (i := 1107) (by decide +kernel)⟩
theorem lw_p58 : lw_okq (⟨"CostFlowModel", "lowest", "()V"⟩, 37) := ⟨⟨by decide +kernel, by decide +kernel⟩, List.mem_of_getElem? (i := 882) (by decide +kernel), List.mem_of_getElem? (i := 1110) (by decide +kernel), List.mem_of_getElem? (i := 1111) (by decide +kernel)⟩
theorem lw_p59 : lw_okq (⟨"CostFlowModel", "distances", "(II)V"⟩, 37) := ⟨⟨by decide +kernel, by decide +kernel⟩, List.mem_of_getElem? (i := 882) (by decide +kernel), List.mem_of_getElem? (i := 1114) (by decide +kernel), List.mem_of_getElem? (i := 1115) (by decide +kernel)⟩
theorem lw_p60 : lw_okq (⟨"CostFlowModel", "canGrow", "(I)Z"⟩, 37) := ⟨⟨by decide +kernel, by decide +kernel⟩, List.mem_of_getElem? (i := 882) (by decide +kernel), List.mem_of_getElem? (i := 1118) (by decide +kernel), List.mem_of_getElem? (i := 1119) (by decide +kernel)⟩
theorem lw_p61 : lw_okq (⟨"CostFlowModel", "nextCost", "(IJ)J"⟩, 37) := ⟨⟨by decide +kernel, by decide +kernel⟩, List.mem_of_getElem? (i := 882) (by decide +kernel), List.mem_of_getElem? (i := 1122) (by decide +kernel), List.mem_of_getElem? (i := 1123) (by decide +kernel)⟩
theorem lw_p62 : lw_okq (⟨"CostFlowModel", "lower", "(I)Z"⟩, 37) := ⟨⟨by decide +kernel, by decide +kernel⟩, List.mem_of_getElem? (i := 882) (by decide +kernel), List.mem_of_getElem? (i := 1126) (by decide +kernel), List.mem_of_getElem? (i := 1127) (by decide +kernel)⟩
theorem lw_p63 : lw_okq (⟨"CostFlowModel", "costOf", "(IJ)J"⟩, 37) := ⟨⟨by decide +kernel, by decide +kernel⟩, List.mem_of_getElem? (i := 882) (by decide +kernel), List.mem_of_getElem? (i := 1130) (by decide +kernel), List.mem_of_getElem? (i := 1131) (by decide +kernel)⟩
def lw_privs_4 : List (MethodName × Nat) := [(⟨"CostFlowModel", "head", "(IZ)I"⟩, 37), (⟨"CostFlowModel", "room", "(IZ)J"⟩, 37), (⟨"CostFlowModel", "goTo", "(I)V"⟩, 37), (⟨"CostFlowModel", "isServed", "()Z"⟩, 37), (⟨"CostFlowModel", "endless", "()Z"⟩, 37), (⟨"CostFlowModel", "lastCost", "(I)J"⟩, 37), (⟨"CostFlowModel", "findRing", "()V"⟩, 37), (⟨"CostFlowModel", "walks", "(III)V"⟩, 37), (⟨"CostFlowModel", "takeRing", "(II)V"⟩, 37), (⟨"CostFlowModel", "takeFlow", "()V"⟩, 37), (⟨"CostFlowModel", "lowest", "()V"⟩, 37), (⟨"CostFlowModel", "distances", "(II)V"⟩, 37), (⟨"CostFlowModel", "canGrow", "(I)Z"⟩, 37), (⟨"CostFlowModel", "nextCost", "(IJ)J"⟩, 37), (⟨"CostFlowModel", "lower", "(I)Z"⟩, 37), (⟨"CostFlowModel", "costOf", "(IJ)J"⟩, 37)]
theorem lw_r4 : ∀ q ∈ lw_privs_4, lw_okq q := List.forall_mem_cons.mpr ⟨lw_p48, List.forall_mem_cons.mpr ⟨lw_p49, List.forall_mem_cons.mpr ⟨lw_p50, List.forall_mem_cons.mpr ⟨lw_p51, List.forall_mem_cons.mpr ⟨lw_p52, List.forall_mem_cons.mpr ⟨lw_p53, List.forall_mem_cons.mpr ⟨lw_p54, List.forall_mem_cons.mpr ⟨lw_p55, List.forall_mem_cons.mpr ⟨lw_p56, List.forall_mem_cons.mpr ⟨lw_p57, List.forall_mem_cons.mpr ⟨lw_p58, List.forall_mem_cons.mpr ⟨lw_p59, List.forall_mem_cons.mpr ⟨lw_p60, List.forall_mem_cons.mpr ⟨lw_p61, List.forall_mem_cons.mpr ⟨lw_p62, List.forall_mem_cons.mpr ⟨lw_p63, fun _ h => absurd h List.not_mem_nil⟩⟩⟩⟩⟩⟩⟩⟩⟩⟩⟩⟩⟩⟩⟩⟩
theorem lw_p64 : lw_okq (⟨"CostFlowModel", "bests", "()V"⟩, 37) := ⟨⟨by decide +kernel, by decide +kernel⟩, List.mem_of_getElem? (i := 882) (by decide +kernel), List.mem_of_getElem? (i := 1182) (by decide +kernel), List.mem_of_getElem? (i := 1183) (by decide +kernel)⟩
def lw_privs_5 : List (MethodName × Nat) := [(⟨"CostFlowModel", "bests", "()V"⟩, 37)]
theorem lw_r5 : ∀ q ∈ lw_privs_5, lw_okq q := List.forall_mem_cons.mpr ⟨lw_p64, fun _ h => absurd h List.not_mem_nil⟩
def lw_privs : List (MethodName × Nat) := lw_privs_1 ++ (lw_privs_2 ++ (lw_privs_3 ++ (lw_privs_4 ++ (lw_privs_5))))
def lw_tbl : List Cond := k2_sels lw_privs ++ tables_1
theorem lw_privs_ok : ∀ q ∈ lw_privs, lw_okq q := by
  show ∀ q ∈ lw_privs_1 ++ (lw_privs_2 ++ (lw_privs_3 ++ (lw_privs_4 ++ (lw_privs_5)))), lw_okq q
  exact List.forall_mem_append.mpr ⟨lw_r1, List.forall_mem_append.mpr ⟨lw_r2, List.forall_mem_append.mpr ⟨lw_r3, List.forall_mem_append.mpr ⟨lw_r4, lw_r5⟩⟩⟩⟩
end
section
/-! ===== names: classes, fields, methods (out of the claim's own table of names) ===== -/
def RX0 : String := "CostFlow$Falling"
def TX0 : u_T := fun k => match k with
  | 0 => ("CostFlow$Falling", "net", "LCostFlow$Net;", true)
  | 1 => ("CostFlow$Falling", "arcs", "[I", true)
  | 2 => ("CostFlow$Falling", "costs", "[J", true)
  | _ => ("CostFlow$Falling", "length", "I", false)
def tyX0 : Nat → FieldType := fun k => match k with
  | 0 => .object "CostFlow$Net"
  | 1 => .array .int
  | 2 => .array .long
  | _ => .int
theorem nmX0 : ∀ a, a < 4 → ∀ b, b < 4 → a ≠ b → (TX0 a).2.1 ≠ (TX0 b).2.1 := by decide +kernel
theorem tyX0_ok : ∀ k, k < 4 → parseFieldDescriptor (TX0 k).2.2.1 = some (tyX0 k) := by decide +kernel
def RX1 : String := "CostFlow$Lanes"
def TX1 : u_T := fun k => match k with
  | 0 => ("CostFlow$Lanes", "net", "LCostFlow$Net;", true)
  | 1 => ("CostFlow$Lanes", "firsts", "[I", true)
  | 2 => ("CostFlow$Lanes", "begins", "[I", true)
  | 3 => ("CostFlow$Lanes", "ends", "[I", true)
  | 4 => ("CostFlow$Lanes", "widths", "[J", true)
  | 5 => ("CostFlow$Lanes", "rates", "[J", true)
  | 6 => ("CostFlow$Lanes", "loads", "[J", true)
  | 7 => ("CostFlow$Lanes", "excess", "[J", true)
  | 8 => ("CostFlow$Lanes", "heads", "[I", true)
  | 9 => ("CostFlow$Lanes", "sorted", "[I", true)
  | _ => ("CostFlow$Lanes", "count", "I", false)
def tyX1 : Nat → FieldType := fun k => match k with
  | 0 => .object "CostFlow$Net"
  | 1 => .array .int
  | 2 => .array .int
  | 3 => .array .int
  | 4 => .array .long
  | 5 => .array .long
  | 6 => .array .long
  | 7 => .array .long
  | 8 => .array .int
  | 9 => .array .int
  | _ => .int
theorem nmX1 : ∀ a, a < 11 → ∀ b, b < 11 → a ≠ b → (TX1 a).2.1 ≠ (TX1 b).2.1 := by decide +kernel
theorem tyX1_ok : ∀ k, k < 11 → parseFieldDescriptor (TX1 k).2.2.1 = some (tyX1 k) := by decide +kernel
def RX2 : String := "CostFlow$Net"
def TX2 : u_T := fun k => match k with
  | 0 => ("CostFlow$Net", "supplies", "[J", true)
  | 1 => ("CostFlow$Net", "froms", "[I", true)
  | 2 => ("CostFlow$Net", "tos", "[I", true)
  | 3 => ("CostFlow$Net", "endless", "[Z", true)
  | 4 => ("CostFlow$Net", "tops", "[J", true)
  | 5 => ("CostFlow$Net", "parts", "[I", true)
  | 6 => ("CostFlow$Net", "starts", "[J", true)
  | 7 => ("CostFlow$Net", "rates", "[J", true)
  | 8 => ("CostFlow$Net", "nodes", "I", false)
  | 9 => ("CostFlow$Net", "arcs", "I", false)
  | _ => ("CostFlow$Net", "pieces", "I", false)
def tyX2 : Nat → FieldType := fun k => match k with
  | 0 => .array .long
  | 1 => .array .int
  | 2 => .array .int
  | 3 => .array .boolean
  | 4 => .array .long
  | 5 => .array .int
  | 6 => .array .long
  | 7 => .array .long
  | 8 => .int
  | 9 => .int
  | _ => .int
theorem nmX2 : ∀ a, a < 11 → ∀ b, b < 11 → a ≠ b → (TX2 a).2.1 ≠ (TX2 b).2.1 := by decide +kernel
theorem tyX2_ok : ∀ k, k < 11 → parseFieldDescriptor (TX2 k).2.2.1 = some (tyX2 k) := by decide +kernel
def RX3 : String := "CostFlow$Pairing"
def TX3 : u_T := fun k => match k with
  | 0 => ("CostFlow$Pairing", "costs", "[J", true)
  | 1 => ("CostFlow$Pairing", "mates", "[I", true)
  | 2 => ("CostFlow$Pairing", "sums", "[J", true)
  | 3 => ("CostFlow$Pairing", "size", "I", false)
  | _ => ("CostFlow$Pairing", "solved", "Z", false)
def tyX3 : Nat → FieldType := fun k => match k with
  | 0 => .array .long
  | 1 => .array .int
  | 2 => .array .long
  | 3 => .int
  | _ => .boolean
theorem nmX3 : ∀ a, a < 5 → ∀ b, b < 5 → a ≠ b → (TX3 a).2.1 ≠ (TX3 b).2.1 := by decide +kernel
theorem tyX3_ok : ∀ k, k < 5 → parseFieldDescriptor (TX3 k).2.2.1 = some (tyX3 k) := by decide +kernel
def RX4 : String := "CostFlow$Paths"
def TX4 : u_T := fun k => match k with
  | 0 => ("CostFlow$Paths", "net", "LCostFlow$Net;", true)
  | 1 => ("CostFlow$Paths", "lanes", "LCostFlow$Lanes;", true)
  | 2 => ("CostFlow$Paths", "prices", "[J", true)
  | 3 => ("CostFlow$Paths", "distances", "[J", true)
  | 4 => ("CostFlow$Paths", "done", "[Z", true)
  | 5 => ("CostFlow$Paths", "via", "[I", true)
  | _ => ("CostFlow$Paths", "carried", "[J", true)
def tyX4 : Nat → FieldType := fun k => match k with
  | 0 => .object "CostFlow$Net"
  | 1 => .object "CostFlow$Lanes"
  | 2 => .array .long
  | 3 => .array .long
  | 4 => .array .boolean
  | 5 => .array .int
  | _ => .array .long
theorem nmX4 : ∀ a, a < 7 → ∀ b, b < 7 → a ≠ b → (TX4 a).2.1 ≠ (TX4 b).2.1 := by decide +kernel
theorem tyX4_ok : ∀ k, k < 7 → parseFieldDescriptor (TX4 k).2.2.1 = some (tyX4 k) := by decide +kernel
def RX5 : String := "CostFlow$Prices"
def TX5 : u_T := fun k => match k with
  | 0 => ("CostFlow$Prices", "net", "LCostFlow$Net;", true)
  | 1 => ("CostFlow$Prices", "lanes", "LCostFlow$Lanes;", true)
  | 2 => ("CostFlow$Prices", "ways", "LCostFlow$Ways;", true)
  | 3 => ("CostFlow$Prices", "values", "[J", true)
  | _ => ("CostFlow$Prices", "distances", "[J", true)
def tyX5 : Nat → FieldType := fun k => match k with
  | 0 => .object "CostFlow$Net"
  | 1 => .object "CostFlow$Lanes"
  | 2 => .object "CostFlow$Ways"
  | 3 => .array .long
  | _ => .array .long
theorem nmX5 : ∀ a, a < 5 → ∀ b, b < 5 → a ≠ b → (TX5 a).2.1 ≠ (TX5 b).2.1 := by decide +kernel
theorem tyX5_ok : ∀ k, k < 5 → parseFieldDescriptor (TX5 k).2.2.1 = some (tyX5 k) := by decide +kernel
def RX6 : String := "CostFlow$Rings"
def TX6 : u_T := fun k => match k with
  | 0 => ("CostFlow$Rings", "net", "LCostFlow$Net;", true)
  | 1 => ("CostFlow$Rings", "lanes", "LCostFlow$Lanes;", true)
  | 2 => ("CostFlow$Rings", "ways", "LCostFlow$Ways;", true)
  | 3 => ("CostFlow$Rings", "costs", "[J", true)
  | 4 => ("CostFlow$Rings", "lasts", "[I", true)
  | 5 => ("CostFlow$Rings", "trail", "[I", true)
  | _ => ("CostFlow$Rings", "metAt", "[I", true)
def tyX6 : Nat → FieldType := fun k => match k with
  | 0 => .object "CostFlow$Net"
  | 1 => .object "CostFlow$Lanes"
  | 2 => .object "CostFlow$Ways"
  | 3 => .array .long
  | 4 => .array .int
  | 5 => .array .int
  | _ => .array .int
theorem nmX6 : ∀ a, a < 7 → ∀ b, b < 7 → a ≠ b → (TX6 a).2.1 ≠ (TX6 b).2.1 := by decide +kernel
theorem tyX6_ok : ∀ k, k < 7 → parseFieldDescriptor (TX6 k).2.2.1 = some (tyX6 k) := by decide +kernel
def RX7 : String := "CostFlow$Router"
def TX7 : u_T := fun k => match k with
  | 0 => ("CostFlow$Router", "net", "LCostFlow$Net;", true)
  | 1 => ("CostFlow$Router", "lanes", "LCostFlow$Lanes;", true)
  | 2 => ("CostFlow$Router", "open", "[Z", true)
  | 3 => ("CostFlow$Router", "via", "[I", true)
  | 4 => ("CostFlow$Router", "carried", "[J", true)
  | 5 => ("CostFlow$Router", "queue", "[I", true)
  | _ => ("CostFlow$Router", "queued", "I", false)
def tyX7 : Nat → FieldType := fun k => match k with
  | 0 => .object "CostFlow$Net"
  | 1 => .object "CostFlow$Lanes"
  | 2 => .array .boolean
  | 3 => .array .int
  | 4 => .array .long
  | 5 => .array .int
  | _ => .int
theorem nmX7 : ∀ a, a < 7 → ∀ b, b < 7 → a ≠ b → (TX7 a).2.1 ≠ (TX7 b).2.1 := by decide +kernel
theorem tyX7_ok : ∀ k, k < 7 → parseFieldDescriptor (TX7 k).2.2.1 = some (tyX7 k) := by decide +kernel
def RX8 : String := "CostFlow$Unserved"
def TX8 : u_T := fun k => match k with
  | 0 => ("CostFlow$Unserved", "net", "LCostFlow$Net;", true)
  | 1 => ("CostFlow$Unserved", "members", "[I", true)
  | _ => ("CostFlow$Unserved", "count", "I", false)
def tyX8 : Nat → FieldType := fun k => match k with
  | 0 => .object "CostFlow$Net"
  | 1 => .array .int
  | _ => .int
theorem nmX8 : ∀ a, a < 3 → ∀ b, b < 3 → a ≠ b → (TX8 a).2.1 ≠ (TX8 b).2.1 := by decide +kernel
theorem tyX8_ok : ∀ k, k < 3 → parseFieldDescriptor (TX8 k).2.2.1 = some (tyX8 k) := by decide +kernel
def RX9 : String := "CostFlow$Ways"
def TX9 : u_T := fun k => match k with
  | 0 => ("CostFlow$Ways", "net", "LCostFlow$Net;", true)
  | 1 => ("CostFlow$Ways", "lanes", "LCostFlow$Lanes;", true)
  | 2 => ("CostFlow$Ways", "numbers", "[I", true)
  | 3 => ("CostFlow$Ways", "begins", "[I", true)
  | 4 => ("CostFlow$Ways", "ends", "[I", true)
  | 5 => ("CostFlow$Ways", "rates", "[J", true)
  | _ => ("CostFlow$Ways", "count", "I", false)
def tyX9 : Nat → FieldType := fun k => match k with
  | 0 => .object "CostFlow$Net"
  | 1 => .object "CostFlow$Lanes"
  | 2 => .array .int
  | 3 => .array .int
  | 4 => .array .int
  | 5 => .array .long
  | _ => .int
theorem nmX9 : ∀ a, a < 7 → ∀ b, b < 7 → a ≠ b → (TX9 a).2.1 ≠ (TX9 b).2.1 := by decide +kernel
theorem tyX9_ok : ∀ k, k < 7 → parseFieldDescriptor (TX9 k).2.2.1 = some (tyX9 k) := by decide +kernel
def RX10 : String := "CostFlow"
def TX10 : u_T := fun k => match k with
  | 0 => ("CostFlow", "net", "LCostFlow$Net;", true)
  | 1 => ("CostFlow", "lanes", "LCostFlow$Lanes;", true)
  | 2 => ("CostFlow", "ways", "LCostFlow$Ways;", true)
  | 3 => ("CostFlow", "router", "LCostFlow$Router;", true)
  | 4 => ("CostFlow", "prices", "LCostFlow$Prices;", true)
  | 5 => ("CostFlow", "paths", "LCostFlow$Paths;", true)
  | 6 => ("CostFlow", "rings", "LCostFlow$Rings;", true)
  | 7 => ("CostFlow", "falling", "LCostFlow$Falling;", true)
  | 8 => ("CostFlow", "unserved", "LCostFlow$Unserved;", true)
  | 9 => ("CostFlow", "pairing", "LCostFlow$Pairing;", true)
  | _ => ("CostFlow", "answer", "I", false)
def tyX10 : Nat → FieldType := fun k => match k with
  | 0 => .object "CostFlow$Net"
  | 1 => .object "CostFlow$Lanes"
  | 2 => .object "CostFlow$Ways"
  | 3 => .object "CostFlow$Router"
  | 4 => .object "CostFlow$Prices"
  | 5 => .object "CostFlow$Paths"
  | 6 => .object "CostFlow$Rings"
  | 7 => .object "CostFlow$Falling"
  | 8 => .object "CostFlow$Unserved"
  | 9 => .object "CostFlow$Pairing"
  | _ => .int
theorem nmX10 : ∀ a, a < 11 → ∀ b, b < 11 → a ≠ b → (TX10 a).2.1 ≠ (TX10 b).2.1 := by decide +kernel
theorem tyX10_ok : ∀ k, k < 11 → parseFieldDescriptor (TX10 k).2.2.1 = some (tyX10 k) := by decide +kernel
def RX11 : String := "CostFlowModel"
def TX11 : u_T := fun k => match k with
  | 0 => ("CostFlowModel", "nodes", "I", false)
  | 1 => ("CostFlowModel", "arcs", "I", false)
  | 2 => ("CostFlowModel", "supply", "[J", true)
  | 3 => ("CostFlowModel", "from", "[I", true)
  | 4 => ("CostFlowModel", "to", "[I", true)
  | 5 => ("CostFlowModel", "low", "[J", true)
  | 6 => ("CostFlowModel", "most", "[J", true)
  | 7 => ("CostFlowModel", "pieces", "[I", true)
  | 8 => ("CostFlowModel", "costs", "[J", true)
  | 9 => ("CostFlowModel", "marks", "[J", true)
  | 10 => ("CostFlowModel", "state", "I", false)
  | 11 => ("CostFlowModel", "flow", "[J", true)
  | 12 => ("CostFlowModel", "total", "J", false)
  | 13 => ("CostFlowModel", "ringSize", "I", false)
  | 14 => ("CostFlowModel", "ring", "[I", true)
  | 15 => ("CostFlowModel", "setSize", "I", false)
  | 16 => ("CostFlowModel", "set", "[I", true)
  | 17 => ("CostFlowModel", "parts", "I", false)
  | 18 => ("CostFlowModel", "pFrom", "[I", true)
  | 19 => ("CostFlowModel", "pTo", "[I", true)
  | 20 => ("CostFlowModel", "pArc", "[I", true)
  | 21 => ("CostFlowModel", "pRoom", "[J", true)
  | 22 => ("CostFlowModel", "pCost", "[J", true)
  | 23 => ("CostFlowModel", "pFlow", "[J", true)
  | 24 => ("CostFlowModel", "over", "[J", true)
  | 25 => ("CostFlowModel", "far", "[J", true)
  | 26 => ("CostFlowModel", "by", "[I", true)
  | 27 => ("CostFlowModel", "size", "I", false)
  | 28 => ("CostFlowModel", "pairs", "[J", true)
  | 29 => ("CostFlowModel", "isFree", "[Z", true)
  | 30 => ("CostFlowModel", "best", "[J", true)
  | 31 => ("CostFlowModel", "atLeast", "[J", true)
  | 32 => ("CostFlowModel", "atMost", "[J", true)
  | 33 => ("CostFlowModel", "seenBy", "[I", true)
  | 34 => ("CostFlowModel", "isSeen", "[Z", true)
  | 35 => ("CostFlowModel", "line", "[I", true)
  | _ => ("CostFlowModel", "walk", "[J", true)
def tyX11 : Nat → FieldType := fun k => match k with
  | 0 => .int
  | 1 => .int
  | 2 => .array .long
  | 3 => .array .int
  | 4 => .array .int
  | 5 => .array .long
  | 6 => .array .long
  | 7 => .array .int
  | 8 => .array .long
  | 9 => .array .long
  | 10 => .int
  | 11 => .array .long
  | 12 => .long
  | 13 => .int
  | 14 => .array .int
  | 15 => .int
  | 16 => .array .int
  | 17 => .int
  | 18 => .array .int
  | 19 => .array .int
  | 20 => .array .int
  | 21 => .array .long
  | 22 => .array .long
  | 23 => .array .long
  | 24 => .array .long
  | 25 => .array .long
  | 26 => .array .int
  | 27 => .int
  | 28 => .array .long
  | 29 => .array .boolean
  | 30 => .array .long
  | 31 => .array .long
  | 32 => .array .long
  | 33 => .array .int
  | 34 => .array .boolean
  | 35 => .array .int
  | _ => .array .long
theorem nmX11 : ∀ a, a < 37 → ∀ b, b < 37 → a ≠ b → (TX11 a).2.1 ≠ (TX11 b).2.1 := by decide +kernel
theorem tyX11_ok : ∀ k, k < 37 → parseFieldDescriptor (TX11 k).2.2.1 = some (tyX11 k) := by decide +kernel
def RJ6 : String := "java/lang/Integer"
def RJ9 : String := "java/lang/Math"
def RJ7 : String := "java/util/Arrays"
def RL : String := "CostFlowLaw"
abbrev cX0_init : ByteArray := prog_2_method_1_code
def yX0_init : MethodName := ⟨RX0, "<init>", "(LCostFlow$Net;)V"⟩
abbrev cX0_seek : ByteArray := prog_2_method_2_code
def yX0_seek : MethodName := ⟨RX0, "seek", "()V"⟩
abbrev cX0_fewestArcs : ByteArray := prog_2_method_3_code
def yX0_fewestArcs : MethodName := ⟨RX0, "fewestArcs", "()I"⟩
abbrev cX0_lowestOfRings : ByteArray := prog_2_method_4_code
def yX0_lowestOfRings : MethodName := ⟨RX0, "lowestOfRings", "(I)I"⟩
abbrev cX0_lowestFrom : ByteArray := prog_2_method_5_code
def yX0_lowestFrom : MethodName := ⟨RX0, "lowestFrom", "(IIJ)I"⟩
abbrev cX0_endsBelow : ByteArray := prog_2_method_6_code
def yX0_endsBelow : MethodName := ⟨RX0, "endsBelow", "(IIJ)Z"⟩
abbrev cX0_measureTo : ByteArray := prog_2_method_7_code
def yX0_measureTo : MethodName := ⟨RX0, "measureTo", "(II)V"⟩
abbrev cX1_init : ByteArray := prog_3_method_1_code
def yX1_init : MethodName := ⟨RX1, "<init>", "(LCostFlow$Net;)V"⟩
abbrev cX1_lay : ByteArray := prog_3_method_2_code
def yX1_lay : MethodName := ⟨RX1, "lay", "()V"⟩
abbrev cX1_sortWays : ByteArray := prog_3_method_3_code
def yX1_sortWays : MethodName := ⟨RX1, "sortWays", "()V"⟩
abbrev cX1_beginOf : ByteArray := prog_3_method_4_code
def yX1_beginOf : MethodName := ⟨RX1, "beginOf", "(I)I"⟩
abbrev cX1_endOf : ByteArray := prog_3_method_5_code
def yX1_endOf : MethodName := ⟨RX1, "endOf", "(I)I"⟩
abbrev cX1_rateOf : ByteArray := prog_3_method_6_code
def yX1_rateOf : MethodName := ⟨RX1, "rateOf", "(I)J"⟩
abbrev cX1_roomOf : ByteArray := prog_3_method_7_code
def yX1_roomOf : MethodName := ⟨RX1, "roomOf", "(I)J"⟩
abbrev cX1_unload : ByteArray := prog_3_method_8_code
def yX1_unload : MethodName := ⟨RX1, "unload", "()V"⟩
abbrev cX1_weigh : ByteArray := prog_3_method_9_code
def yX1_weigh : MethodName := ⟨RX1, "weigh", "()V"⟩
abbrev cX1_isBalanced : ByteArray := prog_3_method_10_code
def yX1_isBalanced : MethodName := ⟨RX1, "isBalanced", "()Z"⟩
abbrev cX1_push : ByteArray := prog_3_method_11_code
def yX1_push : MethodName := ⟨RX1, "push", "(IJ)V"⟩
abbrev cX1_sendTo : ByteArray := prog_3_method_12_code
def yX1_sendTo : MethodName := ⟨RX1, "sendTo", "(I[IJ)V"⟩
abbrev cX1_amountOn : ByteArray := prog_3_method_13_code
def yX1_amountOn : MethodName := ⟨RX1, "amountOn", "(I)J"⟩
abbrev cX1_fillCheapFirst : ByteArray := prog_3_method_14_code
def yX1_fillCheapFirst : MethodName := ⟨RX1, "fillCheapFirst", "()V"⟩
abbrev cX1_sumOfCosts : ByteArray := prog_3_method_15_code
def yX1_sumOfCosts : MethodName := ⟨RX1, "sumOfCosts", "()J"⟩
abbrev cX2_init : ByteArray := prog_4_method_1_code
def yX2_init : MethodName := ⟨RX2, "<init>", "()V"⟩
abbrev cX2_hasNode : ByteArray := prog_4_method_2_code
def yX2_hasNode : MethodName := ⟨RX2, "hasNode", "(I)Z"⟩
abbrev cX2_hasArc : ByteArray := prog_4_method_3_code
def yX2_hasArc : MethodName := ⟨RX2, "hasArc", "(I)Z"⟩
abbrev cX2_isPlain : ByteArray := prog_4_method_4_code
def yX2_isPlain : MethodName := ⟨RX2, "isPlain", "(I)Z"⟩
abbrev cX2_addNode : ByteArray := prog_4_method_5_code
def yX2_addNode : MethodName := ⟨RX2, "addNode", "(J)I"⟩
abbrev cX2_addArc : ByteArray := prog_4_method_6_code
def yX2_addArc : MethodName := ⟨RX2, "addArc", "(IIJJJ)I"⟩
abbrev cX2_takesPiece : ByteArray := prog_4_method_7_code
def yX2_takesPiece : MethodName := ⟨RX2, "takesPiece", "(IJJ)Z"⟩
abbrev cX2_addPiece : ByteArray := prog_4_method_8_code
def yX2_addPiece : MethodName := ⟨RX2, "addPiece", "(IJJ)I"⟩
abbrev cX2_lowOf : ByteArray := prog_4_method_9_code
def yX2_lowOf : MethodName := ⟨RX2, "lowOf", "(I)J"⟩
abbrev cX2_lastRate : ByteArray := prog_4_method_10_code
def yX2_lastRate : MethodName := ⟨RX2, "lastRate", "(I)J"⟩
abbrev cX2_endOf : ByteArray := prog_4_method_11_code
def yX2_endOf : MethodName := ⟨RX2, "endOf", "(II)J"⟩
abbrev cX2_sumOfSupplies : ByteArray := prog_4_method_12_code
def yX2_sumOfSupplies : MethodName := ⟨RX2, "sumOfSupplies", "()J"⟩
abbrev cX2_empty : ByteArray := prog_4_method_13_code
def yX2_empty : MethodName := ⟨RX2, "empty", "()V"⟩
abbrev cX2_lastPart : ByteArray := prog_4_method_14_code
def yX2_lastPart : MethodName := ⟨RX2, "lastPart", "(I)I"⟩
abbrev cX3_init : ByteArray := prog_5_method_1_code
def yX3_init : MethodName := ⟨RX3, "<init>", "()V"⟩
abbrev cX3_begin : ByteArray := prog_5_method_2_code
def yX3_begin : MethodName := ⟨RX3, "begin", "(I)V"⟩
abbrev cX3_has : ByteArray := prog_5_method_3_code
def yX3_has : MethodName := ⟨RX3, "has", "(I)Z"⟩
abbrev cX3_allow : ByteArray := prog_5_method_4_code
def yX3_allow : MethodName := ⟨RX3, "allow", "(IIJ)V"⟩
abbrev cX3_isPossible : ByteArray := prog_5_method_5_code
def yX3_isPossible : MethodName := ⟨RX3, "isPossible", "()Z"⟩
abbrev cX3_solve : ByteArray := prog_5_method_6_code
def yX3_solve : MethodName := ⟨RX3, "solve", "()V"⟩
abbrev cX3_sumWith : ByteArray := prog_5_method_7_code
def yX3_sumWith : MethodName := ⟨RX3, "sumWith", "(II)J"⟩
abbrev cX3_giveLowest : ByteArray := prog_5_method_8_code
def yX3_giveLowest : MethodName := ⟨RX3, "giveLowest", "()V"⟩
abbrev cX4_init : ByteArray := prog_6_method_1_code
def yX4_init : MethodName := ⟨RX4, "<init>", "(LCostFlow$Net;LCostFlow$Lanes;[J)V"⟩
abbrev cX4_sendOneByOne : ByteArray := prog_6_method_2_code
def yX4_sendOneByOne : MethodName := ⟨RX4, "sendOneByOne", "()Z"⟩
abbrev cX4_sendGreatFirst : ByteArray := prog_6_method_3_code
def yX4_sendGreatFirst : MethodName := ⟨RX4, "sendGreatFirst", "()V"⟩
abbrev cX4_useFalling : ByteArray := prog_6_method_4_code
def yX4_useFalling : MethodName := ⟨RX4, "useFalling", "(J)V"⟩
abbrev cX4_sendAtLeast : ByteArray := prog_6_method_5_code
def yX4_sendAtLeast : MethodName := ⟨RX4, "sendAtLeast", "(JI)Z"⟩
abbrev cX4_nearestInNeed : ByteArray := prog_6_method_6_code
def yX4_nearestInNeed : MethodName := ⟨RX4, "nearestInNeed", "(J)I"⟩
abbrev cX4_markSources : ByteArray := prog_6_method_7_code
def yX4_markSources : MethodName := ⟨RX4, "markSources", "(J)V"⟩
abbrev cX4_nearestNotDone : ByteArray := prog_6_method_8_code
def yX4_nearestNotDone : MethodName := ⟨RX4, "nearestNotDone", "()I"⟩
abbrev cX4_goOn : ByteArray := prog_6_method_9_code
def yX4_goOn : MethodName := ⟨RX4, "goOn", "(IJ)V"⟩
abbrev cX4_raisePrices : ByteArray := prog_6_method_10_code
def yX4_raisePrices : MethodName := ⟨RX4, "raisePrices", "(J)V"⟩
abbrev cX5_init : ByteArray := prog_7_method_1_code
def yX5_init : MethodName := ⟨RX5, "<init>", "(LCostFlow$Net;LCostFlow$Lanes;LCostFlow$Ways;)V"⟩
abbrev cX5_settleEndless : ByteArray := prog_7_method_2_code
def yX5_settleEndless : MethodName := ⟨RX5, "settleEndless", "()Z"⟩
abbrev cX5_lowerByEndless : ByteArray := prog_7_method_3_code
def yX5_lowerByEndless : MethodName := ⟨RX5, "lowerByEndless", "()Z"⟩
abbrev cX5_measure : ByteArray := prog_7_method_4_code
def yX5_measure : MethodName := ⟨RX5, "measure", "()V"⟩
abbrev cX5_areProof : ByteArray := prog_7_method_5_code
def yX5_areProof : MethodName := ⟨RX5, "areProof", "()Z"⟩
abbrev cX5_leastRate : ByteArray := prog_7_method_6_code
def yX5_leastRate : MethodName := ⟨RX5, "leastRate", "(I)J"⟩
abbrev cX5_greatestRate : ByteArray := prog_7_method_7_code
def yX5_greatestRate : MethodName := ⟨RX5, "greatestRate", "(I)J"⟩
abbrev cX5_distanceWithout : ByteArray := prog_7_method_8_code
def yX5_distanceWithout : MethodName := ⟨RX5, "distanceWithout", "(III)J"⟩
abbrev cX5_lowerAll : ByteArray := prog_7_method_9_code
def yX5_lowerAll : MethodName := ⟨RX5, "lowerAll", "([JI)V"⟩
abbrev cX5_lowerBy : ByteArray := prog_7_method_10_code
def yX5_lowerBy : MethodName := ⟨RX5, "lowerBy", "(I[J)Z"⟩
abbrev cX6_init : ByteArray := prog_8_method_1_code
def yX6_init : MethodName := ⟨RX6, "<init>", "(LCostFlow$Net;LCostFlow$Lanes;LCostFlow$Ways;)V"⟩
abbrev cX6_cancelAll : ByteArray := prog_8_method_2_code
def yX6_cancelAll : MethodName := ⟨RX6, "cancelAll", "()V"⟩
abbrev cX6_walk : ByteArray := prog_8_method_3_code
def yX6_walk : MethodName := ⟨RX6, "walk", "()V"⟩
abbrev cX6_walkOn : ByteArray := prog_8_method_4_code
def yX6_walkOn : MethodName := ⟨RX6, "walkOn", "(II)V"⟩
abbrev cX6_endOfSteepest : ByteArray := prog_8_method_5_code
def yX6_endOfSteepest : MethodName := ⟨RX6, "endOfSteepest", "()I"⟩
abbrev cX6_flattestStep : ByteArray := prog_8_method_6_code
def yX6_flattestStep : MethodName := ⟨RX6, "flattestStep", "(I)I"⟩
abbrev cX6_costOfRest : ByteArray := prog_8_method_7_code
def yX6_costOfRest : MethodName := ⟨RX6, "costOfRest", "(II)J"⟩
abbrev cX6_cancelRingTo : ByteArray := prog_8_method_8_code
def yX6_cancelRingTo : MethodName := ⟨RX6, "cancelRingTo", "(I)V"⟩
abbrev cX6_pushRound : ByteArray := prog_8_method_9_code
def yX6_pushRound : MethodName := ⟨RX6, "pushRound", "(II)V"⟩
abbrev cX7_init : ByteArray := prog_9_method_1_code
def yX7_init : MethodName := ⟨RX7, "<init>", "(LCostFlow$Net;LCostFlow$Lanes;)V"⟩
abbrev cX7_findFlow : ByteArray := prog_9_method_2_code
def yX7_findFlow : MethodName := ⟨RX7, "findFlow", "()Z"⟩
abbrev cX7_lessen : ByteArray := prog_9_method_3_code
def yX7_lessen : MethodName := ⟨RX7, "lessen", "([J)V"⟩
abbrev cX7_closeLanes : ByteArray := prog_9_method_4_code
def yX7_closeLanes : MethodName := ⟨RX7, "closeLanes", "(I)Z"⟩
abbrev cX7_putBack : ByteArray := prog_9_method_5_code
def yX7_putBack : MethodName := ⟨RX7, "putBack", "(I)V"⟩
abbrev cX7_sendWhatCanGo : ByteArray := prog_9_method_6_code
def yX7_sendWhatCanGo : MethodName := ⟨RX7, "sendWhatCanGo", "()V"⟩
abbrev cX7_nearestInNeed : ByteArray := prog_9_method_7_code
def yX7_nearestInNeed : MethodName := ⟨RX7, "nearestInNeed", "()I"⟩
abbrev cX7_queueSources : ByteArray := prog_9_method_8_code
def yX7_queueSources : MethodName := ⟨RX7, "queueSources", "()V"⟩
abbrev cX7_queueNeighbours : ByteArray := prog_9_method_9_code
def yX7_queueNeighbours : MethodName := ⟨RX7, "queueNeighbours", "(I)V"⟩
abbrev cX7_enqueue : ByteArray := prog_9_method_10_code
def yX7_enqueue : MethodName := ⟨RX7, "enqueue", "(IIJ)V"⟩
abbrev cX8_init : ByteArray := prog_10_method_1_code
def yX8_init : MethodName := ⟨RX8, "<init>", "(LCostFlow$Net;)V"⟩
abbrev cX8_takeAll : ByteArray := prog_10_method_2_code
def yX8_takeAll : MethodName := ⟨RX8, "takeAll", "()V"⟩
abbrev cX8_takeSeen : ByteArray := prog_10_method_3_code
def yX8_takeSeen : MethodName := ⟨RX8, "takeSeen", "([I)V"⟩
abbrev cX9_init : ByteArray := prog_11_method_1_code
def yX9_init : MethodName := ⟨RX9, "<init>", "(LCostFlow$Net;LCostFlow$Lanes;)V"⟩
abbrev cX9_gather : ByteArray := prog_11_method_2_code
def yX9_gather : MethodName := ⟨RX9, "gather", "()V"⟩
abbrev cX9_gatherAlong : ByteArray := prog_11_method_3_code
def yX9_gatherAlong : MethodName := ⟨RX9, "gatherAlong", "(I)V"⟩
abbrev cX9_gatherAgainst : ByteArray := prog_11_method_4_code
def yX9_gatherAgainst : MethodName := ⟨RX9, "gatherAgainst", "(I)V"⟩
abbrev cX9_add : ByteArray := prog_11_method_5_code
def yX9_add : MethodName := ⟨RX9, "add", "(I)V"⟩
abbrev cX10_init : ByteArray := prog_1_method_1_code
def yX10_init : MethodName := ⟨RX10, "<init>", "()V"⟩
abbrev cX10_node : ByteArray := prog_1_method_2_code
def yX10_node : MethodName := ⟨RX10, "node", "(J)I"⟩
abbrev cX10_arc : ByteArray := prog_1_method_3_code
def yX10_arc : MethodName := ⟨RX10, "arc", "(IIJJJ)I"⟩
abbrev cX10_piece : ByteArray := prog_1_method_4_code
def yX10_piece : MethodName := ⟨RX10, "piece", "(IJJ)I"⟩
abbrev cX10_supply : ByteArray := prog_1_method_5_code
def yX10_supply : MethodName := ⟨RX10, "supply", "(IJ)J"⟩
abbrev cX10_price : ByteArray := prog_1_method_6_code
def yX10_price : MethodName := ⟨RX10, "price", "(IJ)Z"⟩
abbrev cX10_run : ByteArray := prog_1_method_7_code
def yX10_run : MethodName := ⟨RX10, "run", "(I)I"⟩
abbrev cX10_cost : ByteArray := prog_1_method_8_code
def yX10_cost : MethodName := ⟨RX10, "cost", "()J"⟩
abbrev cX10_on : ByteArray := prog_1_method_9_code
def yX10_on : MethodName := ⟨RX10, "on", "(I)J"⟩
abbrev cX10_potential : ByteArray := prog_1_method_10_code
def yX10_potential : MethodName := ⟨RX10, "potential", "(I)J"⟩
abbrev cX10_check : ByteArray := prog_1_method_11_code
def yX10_check : MethodName := ⟨RX10, "check", "()I"⟩
abbrev cX10_ring : ByteArray := prog_1_method_12_code
def yX10_ring : MethodName := ⟨RX10, "ring", "(I)I"⟩
abbrev cX10_set : ByteArray := prog_1_method_13_code
def yX10_set : MethodName := ⟨RX10, "set", "(I)I"⟩
abbrev cX10_span : ByteArray := prog_1_method_14_code
def yX10_span : MethodName := ⟨RX10, "span", "(II)J"⟩
abbrev cX10_keeps : ByteArray := prog_1_method_15_code
def yX10_keeps : MethodName := ⟨RX10, "keeps", "(IJ)Z"⟩
abbrev cX10_assign : ByteArray := prog_1_method_16_code
def yX10_assign : MethodName := ⟨RX10, "assign", "(I)Z"⟩
abbrev cX10_put : ByteArray := prog_1_method_17_code
def yX10_put : MethodName := ⟨RX10, "put", "(IIJ)Z"⟩
abbrev cX10_mate : ByteArray := prog_1_method_18_code
def yX10_mate : MethodName := ⟨RX10, "mate", "(I)I"⟩
abbrev cX10_least : ByteArray := prog_1_method_19_code
def yX10_least : MethodName := ⟨RX10, "least", "()J"⟩
abbrev cX10_told : ByteArray := prog_1_method_20_code
def yX10_told : MethodName := ⟨RX10, "told", "(I)I"⟩
abbrev cX10_clear : ByteArray := prog_1_method_21_code
def yX10_clear : MethodName := ⟨RX10, "clear", "()V"⟩
abbrev cX10_isUsual : ByteArray := prog_1_method_22_code
def yX10_isUsual : MethodName := ⟨RX10, "isUsual", "(J)Z"⟩
abbrev cX10_forget : ByteArray := prog_1_method_23_code
def yX10_forget : MethodName := ⟨RX10, "forget", "()V"⟩
abbrev cX10_lookFor : ByteArray := prog_1_method_24_code
def yX10_lookFor : MethodName := ⟨RX10, "lookFor", "(I)I"⟩
abbrev cX11_init : ByteArray := prog_13_method_1_code
def yX11_init : MethodName := ⟨RX11, "<init>", "()V"⟩
abbrev cX11_within : ByteArray := prog_13_method_3_code
def yX11_within : MethodName := ⟨RX11, "within", "(JJJ)Z"⟩
abbrev cX11_gone : ByteArray := prog_13_method_4_code
def yX11_gone : MethodName := ⟨RX11, "gone", "()V"⟩
abbrev cX11_node : ByteArray := prog_13_method_5_code
def yX11_node : MethodName := ⟨RX11, "node", "(J)I"⟩
abbrev cX11_isNode : ByteArray := prog_13_method_6_code
def yX11_isNode : MethodName := ⟨RX11, "isNode", "(I)Z"⟩
abbrev cX11_isArc : ByteArray := prog_13_method_7_code
def yX11_isArc : MethodName := ⟨RX11, "isArc", "(I)Z"⟩
abbrev cX11_arc : ByteArray := prog_13_method_8_code
def yX11_arc : MethodName := ⟨RX11, "arc", "(IIJJJ)I"⟩
abbrev cX11_piece : ByteArray := prog_13_method_9_code
def yX11_piece : MethodName := ⟨RX11, "piece", "(IJJ)I"⟩
abbrev cX11_supply : ByteArray := prog_13_method_10_code
def yX11_supply : MethodName := ⟨RX11, "supply", "(IJ)J"⟩
abbrev cX11_price : ByteArray := prog_13_method_11_code
def yX11_price : MethodName := ⟨RX11, "price", "(IJ)Z"⟩
abbrev cX11_addPart : ByteArray := prog_13_method_12_code
def yX11_addPart : MethodName := ⟨RX11, "addPart", "(IIIJJ)V"⟩
abbrev cX11_split : ByteArray := prog_13_method_13_code
def yX11_split : MethodName := ⟨RX11, "split", "()V"⟩
abbrev cX11_lastCost : ByteArray := prog_13_method_14_code
def yX11_lastCost : MethodName := ⟨RX11, "lastCost", "(I)J"⟩
abbrev cX11_endless : ByteArray := prog_13_method_15_code
def yX11_endless : MethodName := ⟨RX11, "endless", "()Z"⟩
abbrev cX11_room : ByteArray := prog_13_method_16_code
def yX11_room : MethodName := ⟨RX11, "room", "(IZ)J"⟩
abbrev cX11_tail : ByteArray := prog_13_method_17_code
def yX11_tail : MethodName := ⟨RX11, "tail", "(IZ)I"⟩
abbrev cX11_head : ByteArray := prog_13_method_18_code
def yX11_head : MethodName := ⟨RX11, "head", "(IZ)I"⟩
abbrev cX11_way : ByteArray := prog_13_method_19_code
def yX11_way : MethodName := ⟨RX11, "way", "()I"⟩
abbrev cX11_goTo : ByteArray := prog_13_method_20_code
def yX11_goTo : MethodName := ⟨RX11, "goTo", "(I)V"⟩
abbrev cX11_lesser : ByteArray := prog_13_method_21_code
def yX11_lesser : MethodName := ⟨RX11, "lesser", "(JJ)J"⟩
abbrev cX11_isServed : ByteArray := prog_13_method_22_code
def yX11_isServed : MethodName := ⟨RX11, "isServed", "()Z"⟩
abbrev cX11_isFeasible : ByteArray := prog_13_method_23_code
def yX11_isFeasible : MethodName := ⟨RX11, "isFeasible", "()Z"⟩
abbrev cX11_run : ByteArray := prog_13_method_24_code
def yX11_run : MethodName := ⟨RX11, "run", "(I)I"⟩
abbrev cX11_takeFlow : ByteArray := prog_13_method_25_code
def yX11_takeFlow : MethodName := ⟨RX11, "takeFlow", "()V"⟩
abbrev cX11_costOf : ByteArray := prog_13_method_26_code
def yX11_costOf : MethodName := ⟨RX11, "costOf", "(IJ)J"⟩
abbrev cX11_nextCost : ByteArray := prog_13_method_27_code
def yX11_nextCost : MethodName := ⟨RX11, "nextCost", "(IJ)J"⟩
abbrev cX11_canGrow : ByteArray := prog_13_method_28_code
def yX11_canGrow : MethodName := ⟨RX11, "canGrow", "(I)Z"⟩
abbrev cX11_distances : ByteArray := prog_13_method_29_code
def yX11_distances : MethodName := ⟨RX11, "distances", "(II)V"⟩
abbrev cX11_lowest : ByteArray := prog_13_method_30_code
def yX11_lowest : MethodName := ⟨RX11, "lowest", "()V"⟩
abbrev cX11_lower : ByteArray := prog_13_method_31_code
def yX11_lower : MethodName := ⟨RX11, "lower", "(I)Z"⟩
abbrev cX11_walks : ByteArray := prog_13_method_32_code
def yX11_walks : MethodName := ⟨RX11, "walks", "(III)V"⟩
abbrev cX11_findRing : ByteArray := prog_13_method_33_code
def yX11_findRing : MethodName := ⟨RX11, "findRing", "()V"⟩
abbrev cX11_takeRing : ByteArray := prog_13_method_34_code
def yX11_takeRing : MethodName := ⟨RX11, "takeRing", "(II)V"⟩
abbrev cX11_cost : ByteArray := prog_13_method_35_code
def yX11_cost : MethodName := ⟨RX11, "cost", "()J"⟩
abbrev cX11_on : ByteArray := prog_13_method_36_code
def yX11_on : MethodName := ⟨RX11, "on", "(I)J"⟩
abbrev cX11_potential : ByteArray := prog_13_method_37_code
def yX11_potential : MethodName := ⟨RX11, "potential", "(I)J"⟩
abbrev cX11_check : ByteArray := prog_13_method_38_code
def yX11_check : MethodName := ⟨RX11, "check", "()I"⟩
abbrev cX11_ring : ByteArray := prog_13_method_39_code
def yX11_ring : MethodName := ⟨RX11, "ring", "(I)I"⟩
abbrev cX11_set : ByteArray := prog_13_method_40_code
def yX11_set : MethodName := ⟨RX11, "set", "(I)I"⟩
abbrev cX11_span : ByteArray := prog_13_method_41_code
def yX11_span : MethodName := ⟨RX11, "span", "(II)J"⟩
abbrev cX11_keeps : ByteArray := prog_13_method_42_code
def yX11_keeps : MethodName := ⟨RX11, "keeps", "(IJ)Z"⟩
abbrev cX11_assign : ByteArray := prog_13_method_43_code
def yX11_assign : MethodName := ⟨RX11, "assign", "(I)Z"⟩
abbrev cX11_put : ByteArray := prog_13_method_44_code
def yX11_put : MethodName := ⟨RX11, "put", "(IIJ)Z"⟩
abbrev cX11_bits : ByteArray := prog_13_method_45_code
def yX11_bits : MethodName := ⟨RX11, "bits", "(I)I"⟩
abbrev cX11_bests : ByteArray := prog_13_method_46_code
def yX11_bests : MethodName := ⟨RX11, "bests", "()V"⟩
abbrev cX11_mate : ByteArray := prog_13_method_47_code
def yX11_mate : MethodName := ⟨RX11, "mate", "(I)I"⟩
abbrev cX11_least : ByteArray := prog_13_method_48_code
def yX11_least : MethodName := ⟨RX11, "least", "()J"⟩
abbrev cX11_told : ByteArray := prog_13_method_49_code
def yX11_told : MethodName := ⟨RX11, "told", "(I)I"⟩
abbrev cX11_clear : ByteArray := prog_13_method_50_code
def yX11_clear : MethodName := ⟨RX11, "clear", "()V"⟩
abbrev cJ6_bitCount_0f7a4 : ByteArray := prog_14_method_49_code
def yJ6_bitCount_0f7a4 : MethodName := ⟨RJ6, "bitCount", "(I)I"⟩
abbrev cJ9_min_f86c9 : ByteArray := prog_15_method_70_code
def yJ9_min_f86c9 : MethodName := ⟨RJ9, "min", "(JJ)J"⟩
abbrev cJ7_fill_d0a16 : ByteArray := prog_16_method_101_code
def yJ7_fill_d0a16 : MethodName := ⟨RJ7, "fill", "([JJ)V"⟩
abbrev cJ7_fill_53178 : ByteArray := prog_16_method_103_code
def yJ7_fill_53178 : MethodName := ⟨RJ7, "fill", "([II)V"⟩
abbrev dm_cl : List vw_C := [(RX0, TX0, 4), (RX1, TX1, 11), (RX2, TX2, 11), (RX3, TX3, 5), (RX4, TX4, 7), (RX5, TX5, 5), (RX6, TX6, 7), (RX7, TX7, 7), (RX8, TX8, 3), (RX9, TX9, 7), (RX10, TX10, 11), (RX11, TX11, 37)]
end
section
/-! ===== the tables' words, by their places ===== -/
def dm_tt : List Cond := lw_tbl.filter goodWord
theorem dm_mem {ws : List Cond} (ps : List Nat) (hp : ws = ps.filterMap (fun i => lw_tbl[i]?)) (hg : ws.all goodWord = true) : ∀ w ∈ ws, w ∈ dm_tt := by
  intro w hw
  refine List.mem_filter.mpr ⟨?_, List.all_eq_true.mp hg w hw⟩
  rw [hp] at hw
  obtain ⟨i, -, hi⟩ := List.mem_filterMap.mp hw
  exact List.mem_of_getElem? hi
theorem dm_goodIn {ws big : List Cond} (hb : ∀ w ∈ dm_tt, w ∈ big) (h : ∀ w ∈ ws, w ∈ dm_tt) : GoodIn big ws := fun w hw => ⟨hb w (h w hw), good_of_word (List.mem_filter.mp (h w hw)).2⟩
theorem dm_lookup_mem {α : Type} {tbl : List (Nat × α)} {j : Nat} {v : α} (h : tbl.lookup j = some v) : (j, v) ∈ tbl := by
  induction tbl with
  | nil => cases h
  | cons q tbl ih =>
    obtain ⟨k, w⟩ := q
    rw [List.lookup_cons] at h
    by_cases e : j = k
    · subst e
      simp at h
      subst h
      exact List.mem_cons_self
    · have : (j == k) = false := by simpa using e
      rw [this] at h
      exact List.mem_cons_of_mem _ (ih h)
set_option maxRecDepth 100000 in
theorem dm_u0 : ∀ w ∈ u_ws RX0 TX0 4, w ∈ dm_tt := dm_mem [378, 380, 382, 384] (by decide +kernel) (by decide +kernel)
set_option maxRecDepth 100000 in
theorem dm_u1 : ∀ w ∈ u_ws RX1 TX1 11, w ∈ dm_tt := dm_mem [197, 199, 201, 203, 205, 207, 209, 211, 213, 215, 217] (by decide +kernel) (by decide +kernel)
set_option maxRecDepth 100000 in
theorem dm_u2 : ∀ w ∈ u_ws RX2 TX2 11, w ∈ dm_tt := dm_mem [137, 139, 141, 143, 145, 147, 149, 151, 153, 155, 157] (by decide +kernel) (by decide +kernel)
set_option maxRecDepth 100000 in
theorem dm_u3 : ∀ w ∈ u_ws RX3 TX3 5, w ∈ dm_tt := dm_mem [419, 421, 423, 425, 427] (by decide +kernel) (by decide +kernel)
set_option maxRecDepth 100000 in
theorem dm_u4 : ∀ w ∈ u_ws RX4 TX4 7, w ∈ dm_tt := dm_mem [323, 325, 327, 329, 331, 333, 335] (by decide +kernel) (by decide +kernel)
set_option maxRecDepth 100000 in
theorem dm_u5 : ∀ w ∈ u_ws RX5 TX5 5, w ∈ dm_tt := dm_mem [299, 301, 303, 305, 307] (by decide +kernel) (by decide +kernel)
set_option maxRecDepth 100000 in
theorem dm_u6 : ∀ w ∈ u_ws RX6 TX6 7, w ∈ dm_tt := dm_mem [351, 353, 355, 357, 359, 361, 363] (by decide +kernel) (by decide +kernel)
set_option maxRecDepth 100000 in
theorem dm_u7 : ∀ w ∈ u_ws RX7 TX7 7, w ∈ dm_tt := dm_mem [272, 274, 276, 278, 280, 282, 284] (by decide +kernel) (by decide +kernel)
set_option maxRecDepth 100000 in
theorem dm_u8 : ∀ w ∈ u_ws RX8 TX8 3, w ∈ dm_tt := dm_mem [398, 400, 402] (by decide +kernel) (by decide +kernel)
set_option maxRecDepth 100000 in
theorem dm_u9 : ∀ w ∈ u_ws RX9 TX9 7, w ∈ dm_tt := dm_mem [243, 245, 247, 249, 251, 253, 255] (by decide +kernel) (by decide +kernel)
set_option maxRecDepth 100000 in
theorem dm_u10 : ∀ w ∈ u_ws RX10 TX10 11, w ∈ dm_tt := dm_mem [441, 443, 445, 447, 449, 451, 453, 455, 457, 459, 461] (by decide +kernel) (by decide +kernel)
set_option maxRecDepth 100000 in
theorem dm_u11 : ∀ w ∈ u_ws RX11 TX11 37, w ∈ dm_tt := dm_mem [989, 991, 993, 995, 997, 999, 1001, 1003, 1005, 1007, 1009, 1011, 1013, 1015, 1017, 1019, 1021, 1023, 1025, 1027, 1029, 1031, 1033, 1035, 1037, 1039, 1041, 1043, 1045, 1047, 1049, 1051, 1053, 1055, 1057, 1059, 1061] (by decide +kernel) (by decide +kernel)
theorem dm_cls : ∀ (ci : Nat) (C : String) (T : u_T) (N : Nat), dm_cl[ci]? = some (C, T, N) → ∃ ty0 : Nat → FieldType, (∀ w ∈ u_ws C T N, w ∈ dm_tt) ∧ (∀ k, k < N → parseFieldDescriptor (T k).2.2.1 = some (ty0 k)) ∧ (∀ a, a < N → ∀ b, b < N → a ≠ b → (T a).2.1 ≠ (T b).2.1) := by
  intro ci C T N h
  match ci, h with
  | 0, h => cases h; exact ⟨tyX0, dm_u0, tyX0_ok, nmX0⟩
  | 1, h => cases h; exact ⟨tyX1, dm_u1, tyX1_ok, nmX1⟩
  | 2, h => cases h; exact ⟨tyX2, dm_u2, tyX2_ok, nmX2⟩
  | 3, h => cases h; exact ⟨tyX3, dm_u3, tyX3_ok, nmX3⟩
  | 4, h => cases h; exact ⟨tyX4, dm_u4, tyX4_ok, nmX4⟩
  | 5, h => cases h; exact ⟨tyX5, dm_u5, tyX5_ok, nmX5⟩
  | 6, h => cases h; exact ⟨tyX6, dm_u6, tyX6_ok, nmX6⟩
  | 7, h => cases h; exact ⟨tyX7, dm_u7, tyX7_ok, nmX7⟩
  | 8, h => cases h; exact ⟨tyX8, dm_u8, tyX8_ok, nmX8⟩
  | 9, h => cases h; exact ⟨tyX9, dm_u9, tyX9_ok, nmX9⟩
  | 10, h => cases h; exact ⟨tyX10, dm_u10, tyX10_ok, nmX10⟩
  | 11, h => cases h; exact ⟨tyX11, dm_u11, tyX11_ok, nmX11⟩
  | k + 12, h => simp at h
def dm_fl (own : String) (q : Nat × Nat × Nat) : Cond := match dm_cl[q.2.1]? with
  | some (_, T, _) => .fieldLink own q.1 (T q.2.2).1 (T q.2.2).2.1 (T q.2.2).2.2.1
  | none => .initialized own
def dm_ff (own : String) (q : Nat × Nat × Nat) : Prop := ∃ (C : String) (T : u_T) (N : Nat) (ty0 : Nat → FieldType), dm_cl[q.2.1]? = some (C, T, N) ∧ q.2.2 < N ∧ (∀ w ∈ u_ws C T N, w ∈ dm_tt) ∧ Cond.fieldLink own q.1 (T q.2.2).1 (T q.2.2).2.1 (T q.2.2).2.2.1 ∈ dm_tt ∧ (∀ k, k < N → parseFieldDescriptor (T k).2.2.1 = some (ty0 k)) ∧ (∀ a, a < N → ∀ b, b < N → a ≠ b → (T a).2.1 ≠ (T b).2.1)
theorem dm_ff_of {own : String} (tbl : List (Nat × Nat × Nat)) (hn : tbl.all (fun q => match dm_cl[q.2.1]? with | some (_, _, N) => decide (q.2.2 < N) | none => false) = true) (hm : ∀ w ∈ tbl.map (dm_fl own), w ∈ dm_tt) : ∀ q ∈ tbl, dm_ff own q := by
  intro q h1
  obtain ⟨j, ci, k⟩ := q
  have h2 := List.all_eq_true.mp hn _ h1
  have h3 := hm _ (List.mem_map_of_mem h1)
  simp only [dm_fl] at h2 h3
  cases hc : dm_cl[ci]? with
  | none => rw [hc] at h2; cases h2
  | some q =>
    obtain ⟨C, T, N⟩ := q
    rw [hc] at h2 h3
    obtain ⟨ty0, a1, a2, a3⟩ := dm_cls ci C T N hc
    exact ⟨C, T, N, ty0, hc, by simpa using h2, a1, h3, a2, a3⟩
theorem dm_FO_s {own : String} {Ts : List Cond} {X : dm_X} {big : List (Nat × Nat × Nat)} (hb : ∀ q ∈ big, dm_ff own q) (sub : List (Nat × Nat × Nat)) (hX : X.1 = fun j => sub.lookup j) (hT : ∀ w ∈ dm_tt, w ∈ Ts) (hs : sub.all (fun q => decide (q ∈ big)) = true) : dm_FO Ts own dm_cl X := by
  intro j ci k h
  rw [hX] at h
  have h1 := dm_lookup_mem h
  have h2 := List.all_eq_true.mp hs _ h1
  obtain ⟨C, T, N, ty0, a1, a2, a3, a4, a5, a6⟩ := hb _ (by simpa using h2)
  exact ⟨C, T, N, ty0, a1, a2, fun w hw => hT w (a3 w hw), hT _ a4, a5, a6⟩
theorem dm_IO_s {own : String} {Ts : List Cond} {X : dm_X} {bi : List (Nat × Int32)} {bj : List (Nat × Int64)} (h1 : ∀ w ∈ bi.map (fun q => Cond.constant own q.1 q.2), w ∈ dm_tt) (h2 : ∀ w ∈ bj.map (fun q => Cond.constantLong own q.1 q.2), w ∈ dm_tt) (ti : List (Nat × Int32)) (tj : List (Nat × Int64)) (hX : X.2.1 = fun j => ti.lookup j) (hY : X.2.2.1 = fun j => tj.lookup j) (hT : ∀ w ∈ dm_tt, w ∈ Ts) (hs : ti.all (fun q => decide (q ∈ bi)) = true) (ht : tj.all (fun q => decide (q ∈ bj)) = true) : dm_IO Ts own X := by
  refine ⟨fun j v h => ?_, fun j v h => ?_⟩
  · rw [hX] at h
    have h3 := List.all_eq_true.mp hs _ (dm_lookup_mem h)
    exact hT _ (h1 _ (List.mem_map_of_mem (f := fun q => Cond.constant own q.1 q.2) (a := (j, v)) (by simpa using h3)))
  · rw [hY] at h
    have h3 := List.all_eq_true.mp ht _ (dm_lookup_mem h)
    exact hT _ (h2 _ (List.mem_map_of_mem (f := fun q => Cond.constantLong own q.1 q.2) (a := (j, v)) (by simpa using h3)))
def fpX0 : List (Nat × Nat × Nat) := [(9, 0, 1), (15, 0, 2), (19, 0, 0), (23, 0, 3), (35, 2, 1), (48, 2, 2), (55, 2, 8), (58, 2, 9), (60, 2, 3)]
def ipX0 : List (Nat × Int32) := []
def jpX0 : List (Nat × Int64) := [(68, 1152921504606846976)]
set_option maxRecDepth 100000 in
theorem ffX0 : ∀ q ∈ fpX0, dm_ff RX0 q := dm_ff_of fpX0 (by decide +kernel) (dm_mem [373, 375, 372, 376, 99, 105, 123, 134, 110] (by decide +kernel) (by decide +kernel))
set_option maxRecDepth 100000 in
theorem ifX0 : ∀ w ∈ ipX0.map (fun q => Cond.constant RX0 q.1 q.2), w ∈ dm_tt := dm_mem [] (by decide +kernel) (by decide +kernel)
set_option maxRecDepth 100000 in
theorem jfX0 : ∀ w ∈ jpX0.map (fun q => Cond.constantLong RX0 q.1 q.2), w ∈ dm_tt := dm_mem [664] (by decide +kernel) (by decide +kernel)
def fpX1 : List (Nat × Nat × Nat) := [(9, 1, 1), (15, 1, 2), (18, 1, 3), (21, 1, 4), (25, 1, 5), (28, 1, 6), (31, 1, 7), (34, 1, 8), (37, 1, 9), (40, 1, 0), (44, 1, 10), (48, 2, 9), (53, 2, 5), (56, 2, 1), (59, 2, 2), (66, 2, 6), (69, 2, 7), (89, 2, 8), (92, 2, 0)]
def ipX1 : List (Nat × Int32) := []
def jpX1 : List (Nat × Int64) := []
set_option maxRecDepth 100000 in
theorem ffX1 : ∀ q ∈ fpX1, dm_ff RX1 q := dm_ff_of fpX1 (by decide +kernel) (dm_mem [170, 174, 176, 178, 180, 182, 185, 188, 191, 169, 194, 128, 113, 100, 104, 115, 117, 127, 97] (by decide +kernel) (by decide +kernel))
set_option maxRecDepth 100000 in
theorem ifX1 : ∀ w ∈ ipX1.map (fun q => Cond.constant RX1 q.1 q.2), w ∈ dm_tt := dm_mem [] (by decide +kernel) (by decide +kernel)
set_option maxRecDepth 100000 in
theorem jfX1 : ∀ w ∈ jpX1.map (fun q => Cond.constantLong RX1 q.1 q.2), w ∈ dm_tt := dm_mem [] (by decide +kernel) (by decide +kernel)
def fpX2 : List (Nat × Nat × Nat) := [(9, 2, 0), (15, 2, 1), (19, 2, 2), (22, 2, 3), (26, 2, 4), (29, 2, 5), (32, 2, 6), (35, 2, 7), (38, 2, 8), (42, 2, 9), (59, 2, 10)]
def ipX2 : List (Nat × Int32) := []
def jpX2 : List (Nat × Int64) := [(49, -2), (51, 1000000000), (57, 1000000)]
set_option maxRecDepth 100000 in
theorem ffX2 : ∀ q ∈ fpX2, dm_ff RX2 q := dm_ff_of fpX2 (by decide +kernel) (dm_mem [95, 98, 103, 108, 111, 112, 114, 116, 120, 130, 135] (by decide +kernel) (by decide +kernel))
set_option maxRecDepth 100000 in
theorem ifX2 : ∀ w ∈ ipX2.map (fun q => Cond.constant RX2 q.1 q.2), w ∈ dm_tt := dm_mem [] (by decide +kernel) (by decide +kernel)
set_option maxRecDepth 100000 in
theorem jfX2 : ∀ w ∈ jpX2.map (fun q => Cond.constantLong RX2 q.1 q.2), w ∈ dm_tt := dm_mem [494, 495, 512] (by decide +kernel) (by decide +kernel)
def fpX3 : List (Nat × Nat × Nat) := [(9, 3, 0), (15, 3, 1), (19, 3, 2), (22, 3, 3), (26, 3, 4)]
def ipX3 : List (Nat × Int32) := []
def jpX3 : List (Nat × Int64) := [(30, 1152921504606846976)]
set_option maxRecDepth 100000 in
theorem ffX3 : ∀ q ∈ fpX3, dm_ff RX3 q := dm_ff_of fpX3 (by decide +kernel) (dm_mem [411, 412, 414, 416, 418] (by decide +kernel) (by decide +kernel))
set_option maxRecDepth 100000 in
theorem ifX3 : ∀ w ∈ ipX3.map (fun q => Cond.constant RX3 q.1 q.2), w ∈ dm_tt := dm_mem [] (by decide +kernel) (by decide +kernel)
set_option maxRecDepth 100000 in
theorem jfX3 : ∀ w ∈ jpX3.map (fun q => Cond.constantLong RX3 q.1 q.2), w ∈ dm_tt := dm_mem [888] (by decide +kernel) (by decide +kernel)
def fpX4 : List (Nat × Nat × Nat) := [(9, 4, 3), (15, 4, 4), (19, 4, 5), (23, 4, 6), (26, 4, 0), (30, 4, 1), (34, 4, 2), (48, 1, 10), (79, 1, 7), (95, 2, 8), (109, 1, 8), (112, 1, 9)]
def ipX4 : List (Nat × Int32) := [(47, 1000000)]
def jpX4 : List (Nat × Int64) := [(45, 67108864), (107, 1152921504606846976), (115, 32)]
set_option maxRecDepth 100000 in
theorem ffX4 : ∀ q ∈ fpX4, dm_ff RX4 q := dm_ff_of fpX4 (by decide +kernel) (dm_mem [319, 320, 321, 322, 316, 317, 318, 196, 187, 125, 190, 193] (by decide +kernel) (by decide +kernel))
set_option maxRecDepth 100000 in
theorem ifX4 : ∀ w ∈ ipX4.map (fun q => Cond.constant RX4 q.1 q.2), w ∈ dm_tt := dm_mem [792] (by decide +kernel) (by decide +kernel)
set_option maxRecDepth 100000 in
theorem jfX4 : ∀ w ∈ jpX4.map (fun q => Cond.constantLong RX4 q.1 q.2), w ∈ dm_tt := dm_mem [791, 771, 780] (by decide +kernel) (by decide +kernel)
def fpX5 : List (Nat × Nat × Nat) := [(9, 5, 3), (15, 5, 4), (18, 5, 0), (22, 5, 1), (26, 5, 2), (36, 2, 8), (46, 2, 9), (49, 2, 1), (57, 2, 3), (61, 2, 2), (68, 9, 6), (73, 9, 4), (76, 9, 3), (79, 9, 5), (90, 1, 1), (104, 9, 2)]
def ipX5 : List (Nat × Int32) := []
def jpX5 : List (Nat × Int64) := [(96, -1000000002), (102, 1152921504606846976)]
set_option maxRecDepth 100000 in
theorem ffX5 : ∀ q ∈ fpX5, dm_ff RX5 q := dm_ff_of fpX5 (by decide +kernel) (dm_mem [296, 298, 293, 294, 295, 122, 131, 101, 109, 106, 242, 236, 233, 239, 173, 230] (by decide +kernel) (by decide +kernel))
set_option maxRecDepth 100000 in
theorem ifX5 : ∀ w ∈ ipX5.map (fun q => Cond.constant RX5 q.1 q.2), w ∈ dm_tt := dm_mem [] (by decide +kernel) (by decide +kernel)
set_option maxRecDepth 100000 in
theorem jfX5 : ∀ w ∈ jpX5.map (fun q => Cond.constantLong RX5 q.1 q.2), w ∈ dm_tt := dm_mem [866, 806] (by decide +kernel) (by decide +kernel)
def fpX6 : List (Nat × Nat × Nat) := [(9, 6, 3), (15, 6, 4), (19, 6, 5), (22, 6, 6), (25, 6, 0), (29, 6, 1), (33, 6, 2), (59, 2, 8), (71, 9, 6), (74, 9, 3), (77, 9, 4), (80, 9, 5), (83, 9, 2)]
def ipX6 : List (Nat × Int32) := [(42, 1000000)]
def jpX6 : List (Nat × Int64) := [(65, 1152921504606846976), (106, 1000000000)]
set_option maxRecDepth 100000 in
theorem ffX6 : ∀ q ∈ fpX6, dm_ff RX6 q := dm_ff_of fpX6 (by decide +kernel) (dm_mem [347, 348, 349, 350, 344, 345, 346, 124, 241, 232, 235, 238, 229] (by decide +kernel) (by decide +kernel))
set_option maxRecDepth 100000 in
theorem ifX6 : ∀ w ∈ ipX6.map (fun q => Cond.constant RX6 q.1 q.2), w ∈ dm_tt := dm_mem [687] (by decide +kernel) (by decide +kernel)
set_option maxRecDepth 100000 in
theorem jfX6 : ∀ w ∈ jpX6.map (fun q => Cond.constantLong RX6 q.1 q.2), w ∈ dm_tt := dm_mem [714, 741] (by decide +kernel) (by decide +kernel)
def fpX7 : List (Nat × Nat × Nat) := [(9, 7, 2), (15, 7, 3), (19, 7, 4), (23, 7, 5), (26, 7, 0), (30, 7, 1), (39, 1, 10), (50, 1, 5), (53, 1, 3), (56, 1, 2), (59, 2, 9), (72, 1, 1), (75, 1, 6), (78, 1, 7), (81, 2, 1), (84, 2, 2), (113, 7, 6), (125, 2, 8), (132, 1, 8), (135, 1, 9)]
def ipX7 : List (Nat × Int32) := [(101, 1000000)]
def jpX7 : List (Nat × Int64) := []
set_option maxRecDepth 100000 in
theorem ffX7 : ∀ q ∈ fpX7, dm_ff RX7 q := dm_ff_of fpX7 (by decide +kernel) (dm_mem [266, 267, 269, 270, 264, 265, 195, 181, 177, 175, 133, 172, 184, 186, 102, 107, 271, 126, 189, 192] (by decide +kernel) (by decide +kernel))
set_option maxRecDepth 100000 in
theorem ifX7 : ∀ w ∈ ipX7.map (fun q => Cond.constant RX7 q.1 q.2), w ∈ dm_tt := dm_mem [593] (by decide +kernel) (by decide +kernel)
set_option maxRecDepth 100000 in
theorem jfX7 : ∀ w ∈ jpX7.map (fun q => Cond.constantLong RX7 q.1 q.2), w ∈ dm_tt := dm_mem [] (by decide +kernel) (by decide +kernel)
def fpX8 : List (Nat × Nat × Nat) := [(9, 8, 1), (15, 8, 0), (19, 8, 2), (23, 2, 8)]
def ipX8 : List (Nat × Int32) := []
def jpX8 : List (Nat × Int64) := []
set_option maxRecDepth 100000 in
theorem ffX8 : ∀ q ∈ fpX8, dm_ff RX8 q := dm_ff_of fpX8 (by decide +kernel) (dm_mem [394, 393, 396, 121] (by decide +kernel) (by decide +kernel))
set_option maxRecDepth 100000 in
theorem ifX8 : ∀ w ∈ ipX8.map (fun q => Cond.constant RX8 q.1 q.2), w ∈ dm_tt := dm_mem [] (by decide +kernel) (by decide +kernel)
set_option maxRecDepth 100000 in
theorem jfX8 : ∀ w ∈ jpX8.map (fun q => Cond.constantLong RX8 q.1 q.2), w ∈ dm_tt := dm_mem [] (by decide +kernel) (by decide +kernel)
def fpX9 : List (Nat × Nat × Nat) := [(9, 9, 2), (15, 9, 3), (18, 9, 4), (21, 9, 5), (25, 9, 0), (29, 9, 1), (33, 9, 6), (37, 2, 9), (49, 1, 1), (54, 1, 6), (57, 1, 4)]
def ipX9 : List (Nat × Int32) := []
def jpX9 : List (Nat × Int64) := []
set_option maxRecDepth 100000 in
theorem ffX9 : ∀ q ∈ fpX9, dm_ff RX9 q := dm_ff_of fpX9 (by decide +kernel) (dm_mem [228, 231, 234, 237, 226, 227, 240, 129, 171, 183, 179] (by decide +kernel) (by decide +kernel))
set_option maxRecDepth 100000 in
theorem ifX9 : ∀ w ∈ ipX9.map (fun q => Cond.constant RX9 q.1 q.2), w ∈ dm_tt := dm_mem [] (by decide +kernel) (by decide +kernel)
set_option maxRecDepth 100000 in
theorem jfX9 : ∀ w ∈ jpX9.map (fun q => Cond.constantLong RX9 q.1 q.2), w ∈ dm_tt := dm_mem [] (by decide +kernel) (by decide +kernel)
def fpX10 : List (Nat × Nat × Nat) := [(12, 10, 0), (21, 10, 1), (30, 10, 2), (37, 10, 3), (46, 10, 4), (52, 5, 3), (59, 10, 5), (66, 10, 6), (73, 10, 7), (80, 10, 8), (87, 10, 9), (91, 10, 10), (95, 2, 8), (113, 2, 9), (137, 2, 0), (143, 2, 7), (167, 0, 3), (170, 0, 1), (173, 8, 2), (176, 8, 1), (203, 3, 1), (206, 3, 2), (211, 2, 10), (214, 3, 3), (231, 7, 3)]
def ipX10 : List (Nat × Int32) := []
def jpX10 : List (Nat × Int64) := [(116, 1000000), (118, -2), (135, -1000001), (161, -1), (179, -1000000001), (187, -1000000002), (209, -10000001), (220, -1000000)]
set_option maxRecDepth 100000 in
theorem ffX10 : ∀ q ∈ fpX10, dm_ff RX10 q := dm_ff_of fpX10 (by decide +kernel) (dm_mem [430, 431, 432, 433, 434, 297, 435, 436, 437, 438, 439, 440, 119, 132, 96, 118, 377, 374, 397, 395, 413, 415, 136, 417, 268] (by decide +kernel) (by decide +kernel))
set_option maxRecDepth 100000 in
theorem ifX10 : ∀ w ∈ ipX10.map (fun q => Cond.constant RX10 q.1 q.2), w ∈ dm_tt := dm_mem [] (by decide +kernel) (by decide +kernel)
set_option maxRecDepth 100000 in
theorem jfX10 : ∀ w ∈ jpX10.map (fun q => Cond.constantLong RX10 q.1 q.2), w ∈ dm_tt := dm_mem [472, 489, 521, 833, 860, 879, 933, 471] (by decide +kernel) (by decide +kernel)
def fpX11 : List (Nat × Nat × Nat) := [(7, 11, 2), (13, 11, 3), (17, 11, 4), (20, 11, 5), (23, 11, 6), (26, 11, 7), (29, 11, 8), (32, 11, 9), (35, 11, 11), (38, 11, 14), (41, 11, 16), (44, 11, 18), (47, 11, 19), (50, 11, 20), (53, 11, 21), (56, 11, 22), (59, 11, 23), (62, 11, 24), (65, 11, 25), (68, 11, 26), (71, 11, 28), (74, 11, 29), (78, 11, 30), (81, 11, 31), (84, 11, 32), (87, 11, 33), (90, 11, 34), (93, 11, 35), (96, 11, 36), (99, 11, 10), (103, 11, 13), (106, 11, 15), (109, 11, 0), (123, 11, 1), (139, 11, 17), (201, 11, 12), (239, 11, 27)]
def ipX11 : List (Nat × Int32) := []
def jpX11 : List (Nat × Int64) := [(112, -1000000), (114, 1000000), (130, -2), (135, 1000001), (137, -1000001), (142, 1000000000000), (152, 1152921504606846976), (193, 500000000000), (229, -1), (231, -1000000001), (233, -1000000002), (249, -10000001)]
set_option maxRecDepth 100000 in
theorem ffX11 : ∀ q ∈ fpX11, dm_ff RX11 q := dm_ff_of fpX11 (by decide +kernel) (dm_mem [954, 955, 956, 957, 958, 959, 960, 961, 963, 966, 968, 970, 971, 972, 973, 974, 975, 976, 977, 978, 980, 981, 982, 983, 984, 985, 986, 987, 988, 962, 965, 967, 952, 953, 969, 964, 979] (by decide +kernel) (by decide +kernel))
set_option maxRecDepth 100000 in
theorem ifX11 : ∀ w ∈ ipX11.map (fun q => Cond.constant RX11 q.1 q.2), w ∈ dm_tt := dm_mem [] (by decide +kernel) (by decide +kernel)
set_option maxRecDepth 100000 in
theorem jfX11 : ∀ w ∈ jpX11.map (fun q => Cond.constantLong RX11 q.1 q.2), w ∈ dm_tt := dm_mem [1068, 1069, 1085, 1094, 1099, 1116, 1125, 1169, 1206, 1227, 1228, 1257] (by decide +kernel) (by decide +kernel)
def fpJ6 : List (Nat × Nat × Nat) := []
def ipJ6 : List (Nat × Int32) := [(265, 1431655765), (266, 858993459), (267, 252645135)]
def jpJ6 : List (Nat × Int64) := []
set_option maxRecDepth 100000 in
theorem ffJ6 : ∀ q ∈ fpJ6, dm_ff RJ6 q := dm_ff_of fpJ6 (by decide +kernel) (dm_mem [] (by decide +kernel) (by decide +kernel))
set_option maxRecDepth 100000 in
theorem ifJ6 : ∀ w ∈ ipJ6.map (fun q => Cond.constant RJ6 q.1 q.2), w ∈ dm_tt := dm_mem [921, 922, 923] (by decide +kernel) (by decide +kernel)
set_option maxRecDepth 100000 in
theorem jfJ6 : ∀ w ∈ jpJ6.map (fun q => Cond.constantLong RJ6 q.1 q.2), w ∈ dm_tt := dm_mem [] (by decide +kernel) (by decide +kernel)
def fpJ9 : List (Nat × Nat × Nat) := []
def ipJ9 : List (Nat × Int32) := []
def jpJ9 : List (Nat × Int64) := []
set_option maxRecDepth 100000 in
theorem ffJ9 : ∀ q ∈ fpJ9, dm_ff RJ9 q := dm_ff_of fpJ9 (by decide +kernel) (dm_mem [] (by decide +kernel) (by decide +kernel))
set_option maxRecDepth 100000 in
theorem ifJ9 : ∀ w ∈ ipJ9.map (fun q => Cond.constant RJ9 q.1 q.2), w ∈ dm_tt := dm_mem [] (by decide +kernel) (by decide +kernel)
set_option maxRecDepth 100000 in
theorem jfJ9 : ∀ w ∈ jpJ9.map (fun q => Cond.constantLong RJ9 q.1 q.2), w ∈ dm_tt := dm_mem [] (by decide +kernel) (by decide +kernel)
def fpJ7 : List (Nat × Nat × Nat) := []
def ipJ7 : List (Nat × Int32) := []
def jpJ7 : List (Nat × Int64) := []
set_option maxRecDepth 100000 in
theorem ffJ7 : ∀ q ∈ fpJ7, dm_ff RJ7 q := dm_ff_of fpJ7 (by decide +kernel) (dm_mem [] (by decide +kernel) (by decide +kernel))
set_option maxRecDepth 100000 in
theorem ifJ7 : ∀ w ∈ ipJ7.map (fun q => Cond.constant RJ7 q.1 q.2), w ∈ dm_tt := dm_mem [] (by decide +kernel) (by decide +kernel)
set_option maxRecDepth 100000 in
theorem jfJ7 : ∀ w ∈ jpJ7.map (fun q => Cond.constantLong RJ7 q.1 q.2), w ∈ dm_tt := dm_mem [] (by decide +kernel) (by decide +kernel)
end
section
/-! ===== the cells: the class's own graph, and the reference ===== -/
/- cells C: 0 CostFlow, 1 CostFlow$Net, 2 CostFlow$Lanes, 3 CostFlow$Ways, 4 CostFlow$Router, 5 CostFlow$Prices, 6 CostFlow$Paths, 7 CostFlow$Rings, 8 CostFlow$Falling, 9 CostFlow$Unserved, 10 CostFlow$Pairing; 11 Net.supplies, 12 Net.froms, 13 Net.tos, 14 Net.endless, 15 Net.tops, 16 Net.parts, 17 Net.starts, 18 Net.rates, 19 Lanes.firsts, 20 Lanes.begins, 21 Lanes.ends, 22 Lanes.widths, 23 Lanes.rates, 24 Lanes.loads, 25 Lanes.excess, 26 Lanes.heads, 27 Lanes.sorted, 28 Ways.numbers, 29 Ways.begins, 30 Ways.ends, 31 Ways.rates, 32 Router.open, 33 Router.via, 34 Router.carried, 35 Router.queue, 36 Prices.values, 37 Prices.distances, 38 Paths.distances, 39 Paths.done, 40 Paths.via, 41 Paths.carried, 42 Rings.costs, 43 Rings.lasts, 44 Rings.trail, 45 Rings.metAt, 46 Falling.arcs, 47 Falling.costs, 48 Unserved.members, 49 Pairing.costs, 50 Pairing.mates, 51 Pairing.sums, 36 Paths.prices -/
def shC : List dm_H := [.inr (10, [4, 5, 6, 7, 8, 9, 10, 11, 12, 13, 0]), .inr (2, [14, 15, 16, 17, 18, 19, 20, 21, 0, 0, 0]), .inr (1, [4, 22, 23, 24, 25, 26, 27, 28, 29, 30, 0]), .inr (9, [4, 5, 31, 32, 33, 34, 0]), .inr (7, [4, 5, 35, 36, 37, 38, 0]), .inr (5, [4, 5, 6, 39, 40]), .inr (4, [4, 5, 39, 41, 42, 43, 44]), .inr (6, [4, 5, 6, 45, 46, 47, 48]), .inr (0, [4, 49, 50, 0]), .inr (8, [4, 51, 0]), .inr (3, [52, 53, 54, 0, 2]), .inl (1, 24), .inl (0, 80), .inl (0, 80), .inl (2, 80), .inl (1, 80), .inl (0, 80), .inl (1, 320), .inl (1, 320), .inl (0, 81), .inl (0, 320), .inl (0, 320), .inl (1, 320), .inl (1, 320), .inl (1, 320), .inl (1, 24), .inl (0, 25), .inl (0, 640), .inl (0, 160), .inl (0, 160), .inl (0, 160), .inl (1, 160), .inl (2, 320), .inl (0, 24), .inl (1, 24), .inl (0, 24), .inl (1, 24), .inl (1, 24), .inl (1, 24), .inl (2, 24), .inl (0, 24), .inl (1, 24), .inl (1, 600), .inl (0, 600), .inl (0, 24), .inl (0, 24), .inl (0, 24), .inl (1, 600), .inl (0, 24), .inl (1, 64), .inl (0, 8), .inl (1, 256)]
/- cells M: 0 CostFlowModel; 1 CostFlowModel.supply, 2 CostFlowModel.from, 3 CostFlowModel.to, 4 CostFlowModel.low, 5 CostFlowModel.most, 6 CostFlowModel.pieces, 7 CostFlowModel.costs, 8 CostFlowModel.marks, 9 CostFlowModel.flow, 10 CostFlowModel.ring, 11 CostFlowModel.set, 12 CostFlowModel.pFrom, 13 CostFlowModel.pTo, 14 CostFlowModel.pArc, 15 CostFlowModel.pRoom, 16 CostFlowModel.pCost, 17 CostFlowModel.pFlow, 18 CostFlowModel.over, 19 CostFlowModel.far, 20 CostFlowModel.by, 21 CostFlowModel.pairs, 22 CostFlowModel.isFree, 23 CostFlowModel.best, 24 CostFlowModel.atLeast, 25 CostFlowModel.atMost, 26 CostFlowModel.seenBy, 27 CostFlowModel.isSeen, 28 CostFlowModel.line, 29 CostFlowModel.walk -/
def shM : List dm_H := [.inr (11, [0, 0, 4, 5, 6, 7, 8, 9, 10, 11, 0, 12, 1, 0, 13, 0, 14, 0, 15, 16, 17, 18, 19, 20, 21, 22, 23, 0, 24, 25, 26, 27, 28, 29, 30, 31, 32]), .inl (1, 24), .inl (0, 80), .inl (0, 80), .inl (1, 80), .inl (1, 80), .inl (0, 80), .inl (1, 320), .inl (1, 320), .inl (1, 80), .inl (0, 24), .inl (0, 24), .inl (0, 400), .inl (0, 400), .inl (0, 400), .inl (1, 400), .inl (1, 400), .inl (1, 400), .inl (1, 26), .inl (1, 26), .inl (0, 26), .inl (1, 64), .inl (2, 64), .inl (1, 256), .inl (1, 80), .inl (1, 80), .inl (0, 24), .inl (2, 24), .inl (0, 24), .inl (1, 625)]
def dm_sob (sh : List dm_H) : Bool := sh.all (fun h => match h with
  | .inl _ => true
  | .inr (ci, fs) => match dm_cl[ci]? with
    | some (_, T, _) => fs.zipIdx.all (fun q => (q.1 != 0 || ((T q.2).2.2.2 == false && decide (parseFieldDescriptor (T q.2).2.2.1 = some .int))) && ((q.1 != 1 || ((T q.2).2.2.2 == false && decide (parseFieldDescriptor (T q.2).2.2.1 = some .long))) && (q.1 != 2 || ((T q.2).2.2.2 == false && decide (parseFieldDescriptor (T q.2).2.2.1 = some .boolean)))))
    | none => true)
theorem dm_SO_of {sh : List dm_H} (h : dm_sob sh = true) : dm_SO dm_cl sh := by
  intro c ci fs hc C T N hcl k f hf
  have h1 := List.all_eq_true.mp h _ (List.mem_of_getElem? hc)
  simp only [hcl] at h1
  have hz : (f, k) ∈ fs.zipIdx := by
    rw [List.mem_zipIdx_iff_getElem?]
    exact hf
  have h2 := List.all_eq_true.mp h1 _ hz
  simp only [Bool.and_eq_true, Bool.or_eq_true, bne_iff_ne, ne_eq, beq_iff_eq, decide_eq_true_eq] at h2
  exact ⟨fun e => h2.1.resolve_left (fun q => q e), fun e => h2.2.1.resolve_left (fun q => q e), fun e => h2.2.2.resolve_left (fun q => q e)⟩
theorem soC : dm_SO dm_cl shC := dm_SO_of (by decide +kernel)
theorem soM : dm_SO dm_cl shM := dm_SO_of (by decide +kernel)
/-! the locals with which a method begins -/
def dm_la (As : List Value) : List (Option Value) := match As with
  | [] => []
  | .long x :: r => some (.long x) :: none :: dm_la r
  | .double x :: r => some (.double x) :: none :: dm_la r
  | v :: r => some v :: dm_la r
def dm_L0 (n : Nat) (As : List Value) : List (Option Value) := dm_la As ++ List.replicate (n - (dm_la As).length) none
def dm_ls (ad : Nat → Nat) (o : Option Value) : Slot := match o with
  | some v => .val (dm_cv ad v)
  | none => .second
theorem dm_la_sl (ad : Nat → Nat) (As : List Value) : lg_sl (As.map (dm_cv ad)) = (dm_la As).map (dm_ls ad) := by
  induction As with
  | nil => rfl
  | cons v r ih =>
    have e : lg_sl ((v :: r).map (dm_cv ad)) = (if (dm_cv ad v).category = 2 then [.val (dm_cv ad v), .second] else [.val (dm_cv ad v)]) ++ lg_sl (r.map (dm_cv ad)) := rfl
    rw [e, ih]
    cases v <;> rfl
theorem dm_lh0 {ad : Nat → Nat} {As : List Value} {n : Nat} (h : (dm_la As).length ≤ n) : dm_lh ad ((lg_sl (As.map (dm_cv ad)) ++ List.replicate (n - (lg_sl (As.map (dm_cv ad))).length) Slot.unset).toArray) n (dm_L0 n As) := by
  have hlen : (lg_sl (As.map (dm_cv ad))).length = (dm_la As).length := by rw [dm_la_sl, List.length_map]
  have h0 := lv_entry (As.map (dm_cv ad)) (n := n) (by rw [hlen]; exact h)
  refine ⟨⟨h0.1, ?_⟩, h0.2.1, fun i v hi => ?_⟩
  · simp only [dm_L0, List.length_append, List.length_replicate]
    omega
  · unfold dm_L0 at hi
    rw [List.getElem?_append] at hi
    split at hi
    · rename_i hlt
      rw [List.getElem?_toArray, List.getElem?_append_left (by rw [hlen]; exact hlt), dm_la_sl, List.getElem?_map, hi]
      rfl
    · rw [List.getElem?_replicate] at hi
      split at hi <;> cases hi
def dm_mk (f : List (Nat × Nat × Nat)) (i : List (Nat × Int32)) (j : List (Nat × Int64)) (ms : List (Nat × Nat × Nat × Nat)) (rk : Nat) : dm_X := (fun a => f.lookup a, fun a => i.lookup a, fun a => j.lookup a, fun a => ms.lookup a, rk)
theorem dm_hT {w0 : Cond} : ∀ w ∈ dm_tt, w ∈ (w0 :: dm_tt) := fun _ h => List.mem_cons_of_mem _ h
/-- what is to be shown of a method, without the machine: whatever is closed under walking holds at its entry -/
def dm_Pure (sh : List dm_H) (X : dm_X) (Sp : dm_Sp) (prog : List dm_I) (maxL : Nat) (P : List Value → dm_S → (Option Value → dm_S → Prop) → Prop) : Prop := ∀ (As : List Value) (u : dm_S) (Qp : Option Value → dm_S → Prop), P As u Qp → (dm_la As).length ≤ maxL ∧ ∀ (G : dm_K) (Wp : (Nat → Bool) → Nat → Bool → List dm_I → dm_K), (∀ (cut : Nat → Bool) (b : Bool) (rest : List dm_I) (pc : Nat) (L : List (Option Value)) (S : List Value) (v : dm_S), Wp cut 0 b rest pc L S v = False) → (∀ (cut : Nat → Bool) (n : Nat) (b : Bool) (rest : List dm_I) (pc : Nat) (L : List (Option Value)) (S : List Value) (v : dm_S), Wp cut (n + 1) b rest pc L S v = match b && cut pc with
    | true => G pc L S v
    | false => match dm_fn prog rest pc with
      | [] => False
      | q :: r => dm_x sh X Sp (Wp cut n true r) Qp q.2.1 q.2.2.2 pc L S v) → (∀ (cut : Nat → Bool) (n pc : Nat) (L : List (Option Value)) (S : List Value) (v : dm_S), Wp cut n false [] pc L S v → G pc L S v) → G 0 (dm_L0 maxL As) [] u
/-- a contract out of it -/
theorem dm_meth {l : Launch} {D : va_G} {cA : Nat → ClassId} {ad : Nat → Nat} {sh : List dm_H} {y : MethodName} {cc : ByteArray} {maxL rk : Nat} {rm : Room} {P : List Value → dm_S → (Option Value → dm_S → Prop) → Prop} {own : String} {X : dm_X} {Sp : dm_Sp} {prog : List dm_I} (hy : plainFor y = true) (hown : y.cls = own) (hrk : X.2.2.2.2 = rk)
    (hF : dm_FO (Cond.code y cc maxL (dm_rt rk) :: dm_tt) own dm_cl X) (hI : dm_IO (Cond.code y cc maxL (dm_rt rk) :: dm_tt) own X) (hSO : dm_SO dm_cl sh) (hM : dm_MO l rm (Cond.code y cc maxL (dm_rt rk) :: dm_tt) own D dm_cl cA ad sh X Sp) (hv : prog.all (dm_vb cc) = true) (hp : dm_Pure sh X Sp prog maxL P) : dm_Met l D dm_cl cA ad sh y (Cond.code y cc maxL (dm_rt rk) :: dm_tt) rm P := by
  intro sz As u Qp hP
  obtain ⟨hlen, hbody⟩ := hp As u Qp hP
  refine va_MetF (cc := cc) (maxL := maxL) (ret := dm_rt rk) hy rfl ?_
  intro p e s m args below meth c s₁ B hml hv0
  obtain ⟨rfl, hsz, hP0, hK0, hD0⟩ := hv0
  have hts := atoms_spec (ws := Cond.code y cc maxL (dm_rt rk) :: dm_tt) B.pre
  have hownc : s.vm.findClass y.cls = some m.cls := findClass_of_methodNamed B.named
  rw [hown] at hownc
  subst hsz
  rw [lg_entry_eq]
  have C0 : dm_C p s m (As.map (dm_cv ad)).toArray meth c cc maxL (Cond.code y cc maxL (dm_rt rk) :: dm_tt) own D dm_cl cA ad sh (va_A (dm_w ad cA sh u) s.heap.size) rk := ⟨⟨B.exec, B.bytes, hml, hownc, hts⟩, hK0, fun u' => by rw [dm_w_A (u' := u')]; exact (dm_D hD0).self, fun q hq => Or.inr hq, B.returns, B.notSynchronized⟩
  exact hbody _ (fun cut n b rest pc L S v => dm_wp sh X Sp Qp prog cut _ n b rest pc L S v) (fun _ _ _ _ _ _ _ => rfl) (fun _ _ _ _ _ _ _ _ => rfl) (fun cut n pc L S v h => dm_sound C0 hrk hF hI hSO hM hv cut n false [] (fun _ h => by cases h) pc L S v h) _ s.heap [] (dm_lh0 hlen) hP0 va_S.rf
/-- a callee, out of its contract and words -/
theorem dm_M1_of {l : Launch} {R : Room} {Ts : List Cond} {own : String} {D : va_G} {cA : Nat → ClassId} {ad : Nat → Nat} {sh : List dm_H} {P : List Value → dm_S → (Option Value → dm_S → Prop) → Prop} {j n ci : Nat} {y : MethodName} {bytes : ByteArray} {maxL : Nat} {ret : Option FieldType} {rm : Room} (hMet : dm_Met l D dm_cl cA ad sh y (Cond.code y bytes maxL ret :: dm_tt) rm P) (hT : ∀ w ∈ dm_tt, w ∈ Ts) (hin : ∀ w ∈ ([.code y bytes maxL ret, .initialized y.cls, .methodLink own j y] : List Cond), w ∈ dm_tt) (hr : (rm.cells = 0 ∧ rm.slots = 0) ∧ (rm.frames + 1 ≤ R.frames ∧ 8 + (maxL + 11) + rm.locals ≤ R.locals)) (hd : y.cls ≠ "java/lang/invoke/MethodHandle" ∧ y.cls ≠ "java/lang/invoke/VarHandle" ∧ (parseMethodDescriptor y.desc).map (fun d => d.parameters.length) = some n) (hs : (ci = 1000 ∧ Cond.static y ∈ dm_tt) ∨ (ci < 1000 ∧ (∀ w ∈ ([.instanceMethod y, .selects y.cls y y] : List Cond), w ∈ dm_tt) ∧ (dm_cl[ci]?).map (fun q => q.1) = some y.cls)) : dm_M1 l R Ts own D dm_cl cA ad sh P j n ci := by
  refine ⟨y, bytes, maxL, ret, dm_tt, rm, hMet, dm_goodIn hT (fun w hw => ?_), hr.1, hr.2, ⟨hT _ (hin _ (by simp)), hT _ (hin _ (by simp))⟩, hd, fun e => ?_, fun e => ?_⟩
  · rcases List.mem_cons.mp hw with rfl | h
    · exact hin _ (by simp)
    · exact h
  · rcases hs with h | h
    · exact hT _ h.2
    · omega
  · rcases hs with h | h
    · omega
    · refine ⟨⟨hT _ (h.2.1 _ (by simp)), hT _ (h.2.1 _ (by simp))⟩, ?_⟩
      obtain ⟨q, h1, h2⟩ := Option.map_eq_some_iff.mp h.2.2
      obtain ⟨C, T, N⟩ := q
      simp only at h2
      subst h2
      exact ⟨T, N, h1⟩
theorem dm_MO_of {l : Launch} {R : Room} {Ts : List Cond} {own : String} {D : va_G} {cl : List vw_C} {cA : Nat → ClassId} {ad : Nat → Nat} {sh : List dm_H} {f : List (Nat × Nat × Nat)} {i : List (Nat × Int32)} {jj : List (Nat × Int64)} {ms : List (Nat × Nat × Nat × Nat)} {rk : Nat} {Sp : dm_Sp} (h : ∀ q ∈ ms, dm_M1 l R Ts own D cl cA ad sh (Sp q.2.1) q.1 q.2.2.1 q.2.2.2) : dm_MO l R Ts own D cl cA ad sh (dm_mk f i jj ms rk) Sp := fun j mid n ci hj => h (j, mid, n, ci) (dm_lookup_mem hj)
theorem sC_0 : shC[0]? = some (.inr (10, [4, 5, 6, 7, 8, 9, 10, 11, 12, 13, 0])) := rfl
theorem sC_1 : shC[1]? = some (.inr (2, [14, 15, 16, 17, 18, 19, 20, 21, 0, 0, 0])) := rfl
theorem sC_2 : shC[2]? = some (.inr (1, [4, 22, 23, 24, 25, 26, 27, 28, 29, 30, 0])) := rfl
theorem sC_3 : shC[3]? = some (.inr (9, [4, 5, 31, 32, 33, 34, 0])) := rfl
theorem sC_4 : shC[4]? = some (.inr (7, [4, 5, 35, 36, 37, 38, 0])) := rfl
theorem sC_5 : shC[5]? = some (.inr (5, [4, 5, 6, 39, 40])) := rfl
theorem sC_6 : shC[6]? = some (.inr (4, [4, 5, 39, 41, 42, 43, 44])) := rfl
theorem sC_7 : shC[7]? = some (.inr (6, [4, 5, 6, 45, 46, 47, 48])) := rfl
theorem sC_8 : shC[8]? = some (.inr (0, [4, 49, 50, 0])) := rfl
theorem sC_9 : shC[9]? = some (.inr (8, [4, 51, 0])) := rfl
theorem sC_10 : shC[10]? = some (.inr (3, [52, 53, 54, 0, 2])) := rfl
theorem sC_11 : shC[11]? = some (.inl (1, 24)) := rfl
theorem sC_12 : shC[12]? = some (.inl (0, 80)) := rfl
theorem sC_13 : shC[13]? = some (.inl (0, 80)) := rfl
theorem sC_14 : shC[14]? = some (.inl (2, 80)) := rfl
theorem sC_15 : shC[15]? = some (.inl (1, 80)) := rfl
theorem sC_16 : shC[16]? = some (.inl (0, 80)) := rfl
theorem sC_17 : shC[17]? = some (.inl (1, 320)) := rfl
theorem sC_18 : shC[18]? = some (.inl (1, 320)) := rfl
theorem sC_19 : shC[19]? = some (.inl (0, 81)) := rfl
theorem sC_20 : shC[20]? = some (.inl (0, 320)) := rfl
theorem sC_21 : shC[21]? = some (.inl (0, 320)) := rfl
theorem sC_22 : shC[22]? = some (.inl (1, 320)) := rfl
theorem sC_23 : shC[23]? = some (.inl (1, 320)) := rfl
theorem sC_24 : shC[24]? = some (.inl (1, 320)) := rfl
theorem sC_25 : shC[25]? = some (.inl (1, 24)) := rfl
theorem sC_26 : shC[26]? = some (.inl (0, 25)) := rfl
theorem sC_27 : shC[27]? = some (.inl (0, 640)) := rfl
theorem sC_28 : shC[28]? = some (.inl (0, 160)) := rfl
theorem sC_29 : shC[29]? = some (.inl (0, 160)) := rfl
theorem sC_30 : shC[30]? = some (.inl (0, 160)) := rfl
theorem sC_31 : shC[31]? = some (.inl (1, 160)) := rfl
theorem sC_32 : shC[32]? = some (.inl (2, 320)) := rfl
theorem sC_33 : shC[33]? = some (.inl (0, 24)) := rfl
theorem sC_34 : shC[34]? = some (.inl (1, 24)) := rfl
theorem sC_35 : shC[35]? = some (.inl (0, 24)) := rfl
theorem sC_36 : shC[36]? = some (.inl (1, 24)) := rfl
theorem sC_37 : shC[37]? = some (.inl (1, 24)) := rfl
theorem sC_38 : shC[38]? = some (.inl (1, 24)) := rfl
theorem sC_39 : shC[39]? = some (.inl (2, 24)) := rfl
theorem sC_40 : shC[40]? = some (.inl (0, 24)) := rfl
theorem sC_41 : shC[41]? = some (.inl (1, 24)) := rfl
theorem sC_42 : shC[42]? = some (.inl (1, 600)) := rfl
theorem sC_43 : shC[43]? = some (.inl (0, 600)) := rfl
theorem sC_44 : shC[44]? = some (.inl (0, 24)) := rfl
theorem sC_45 : shC[45]? = some (.inl (0, 24)) := rfl
theorem sC_46 : shC[46]? = some (.inl (0, 24)) := rfl
theorem sC_47 : shC[47]? = some (.inl (1, 600)) := rfl
theorem sC_48 : shC[48]? = some (.inl (0, 24)) := rfl
theorem sC_49 : shC[49]? = some (.inl (1, 64)) := rfl
theorem sC_50 : shC[50]? = some (.inl (0, 8)) := rfl
theorem sC_51 : shC[51]? = some (.inl (1, 256)) := rfl
theorem sM_0 : shM[0]? = some (.inr (11, [0, 0, 4, 5, 6, 7, 8, 9, 10, 11, 0, 12, 1, 0, 13, 0, 14, 0, 15, 16, 17, 18, 19, 20, 21, 22, 23, 0, 24, 25, 26, 27, 28, 29, 30, 31, 32])) := rfl
theorem sM_1 : shM[1]? = some (.inl (1, 24)) := rfl
theorem sM_2 : shM[2]? = some (.inl (0, 80)) := rfl
theorem sM_3 : shM[3]? = some (.inl (0, 80)) := rfl
theorem sM_4 : shM[4]? = some (.inl (1, 80)) := rfl
theorem sM_5 : shM[5]? = some (.inl (1, 80)) := rfl
theorem sM_6 : shM[6]? = some (.inl (0, 80)) := rfl
theorem sM_7 : shM[7]? = some (.inl (1, 320)) := rfl
theorem sM_8 : shM[8]? = some (.inl (1, 320)) := rfl
theorem sM_9 : shM[9]? = some (.inl (1, 80)) := rfl
theorem sM_10 : shM[10]? = some (.inl (0, 24)) := rfl
theorem sM_11 : shM[11]? = some (.inl (0, 24)) := rfl
theorem sM_12 : shM[12]? = some (.inl (0, 400)) := rfl
theorem sM_13 : shM[13]? = some (.inl (0, 400)) := rfl
theorem sM_14 : shM[14]? = some (.inl (0, 400)) := rfl
theorem sM_15 : shM[15]? = some (.inl (1, 400)) := rfl
theorem sM_16 : shM[16]? = some (.inl (1, 400)) := rfl
theorem sM_17 : shM[17]? = some (.inl (1, 400)) := rfl
theorem sM_18 : shM[18]? = some (.inl (1, 26)) := rfl
theorem sM_19 : shM[19]? = some (.inl (1, 26)) := rfl
theorem sM_20 : shM[20]? = some (.inl (0, 26)) := rfl
theorem sM_21 : shM[21]? = some (.inl (1, 64)) := rfl
theorem sM_22 : shM[22]? = some (.inl (2, 64)) := rfl
theorem sM_23 : shM[23]? = some (.inl (1, 256)) := rfl
theorem sM_24 : shM[24]? = some (.inl (1, 80)) := rfl
theorem sM_25 : shM[25]? = some (.inl (1, 80)) := rfl
theorem sM_26 : shM[26]? = some (.inl (0, 24)) := rfl
theorem sM_27 : shM[27]? = some (.inl (2, 24)) := rfl
theorem sM_28 : shM[28]? = some (.inl (0, 24)) := rfl
theorem sM_29 : shM[29]? = some (.inl (1, 625)) := rfl
theorem dm_nb0 : narrow .boolean (.int 0) = .int 0 ∧ fits .boolean (.int 0) = true ∧ vp_nar .boolean 0 = 0 := ⟨rfl, rfl, rfl⟩
theorem dm_nb1 : narrow .boolean (.int 1) = .int 1 ∧ fits .boolean (.int 1) = true ∧ vp_nar .boolean 1 = 1 := ⟨rfl, rfl, rfl⟩
theorem dm_cm0 {x y : Int64} : (lg_cmp x y = 0 ↔ x = y) := by
  unfold lg_cmp
  split
  · rename_i h
    exact ⟨fun q => absurd q (by decide), fun q => by subst q; exact absurd h (by simp [Int64.lt_iff_toInt_lt])⟩
  · split
    · rename_i h; exact ⟨fun _ => h, fun _ => rfl⟩
    · rename_i h; exact ⟨fun q => absurd q (by decide), fun q => absurd q h⟩
theorem dm_cm {x y : Int64} : (lg_cmp x y = 0 ↔ x = y) ∧ (lg_cmp x y < 0 ↔ x < y) ∧ (0 < lg_cmp x y ↔ y < x) ∧ (0 ≤ lg_cmp x y ↔ y ≤ x) ∧ (lg_cmp x y ≤ 0 ↔ x ≤ y) := ⟨dm_cm0, lg_cmp_lt x y, lg_cmp_gt x y, lg_cmp_ge x y, lg_cmp_le x y⟩
theorem dm_ui_1 {u : dm_S} {c j c' : Nat} {x : Int32} : (dm_ui u c j x).1 c' = if c' = c then upd (u.1 c) j x else u.1 c' := rfl
theorem dm_ui_2 {u : dm_S} {c j : Nat} {x : Int32} : (dm_ui u c j x).2 = u.2 := rfl
theorem dm_ul_1 {u : dm_S} {c j : Nat} {x : Int64} : (dm_ul u c j x).1 = u.1 := rfl
theorem dm_ul_2 {u : dm_S} {c j c' : Nat} {x : Int64} : (dm_ul u c j x).2 c' = if c' = c then vp_updL (u.2 c) j x else u.2 c' := rfl
end
section
/-! ===== leaves: methods without loops ===== -/
theorem dm_ite {P : Prop} [Decidable P] {α : Type} {a b : α} {Q : α → Prop} (h1 : P → Q a) (h2 : ¬ P → Q b) : Q (if P then a else b) := by
  by_cases h : P
  · rw [if_pos h]; exact h1 h
  · rw [if_neg h]; exact h2 h
theorem dm_i_le {x y : Int32} : (¬ x ≤ y) ↔ y < x := by rw [Int32.le_iff_toInt_le, Int32.lt_iff_toInt_lt]; omega
theorem dm_i_lt {x y : Int32} : (¬ x < y) ↔ y ≤ x := by rw [Int32.le_iff_toInt_le, Int32.lt_iff_toInt_lt]; omega
theorem dm_l_le {x y : Int64} : (¬ x ≤ y) ↔ y < x := by rw [Int64.le_iff_toInt_le, Int64.lt_iff_toInt_lt]; omega
theorem dm_l_lt {x y : Int64} : (¬ x < y) ↔ y ≤ x := by rw [Int64.le_iff_toInt_le, Int64.lt_iff_toInt_lt]; omega
def dm_b (P : Bool) : Int32 := if P then 1 else 0
def sp_J9_min_f86c9 (As : List Value) (u : dm_S) (Q : Option Value → dm_S → Prop) : Prop := match As with
  | [.long a, .long b] => Q (some (.long (if a ≤ b then a else b))) u
  | _ => False
def p_J9_min_f86c9 : List dm_I := [(0, .lload_n 0, 1, [0]), (1, .lload_n 2, 1, [2]), (2, .lcmp, 1, []), (3, .ifCond .gt 7, 3, [10]), (6, .lload_n 0, 1, [0]), (7, .goto 4, 3, [11]), (10, .lload_n 2, 1, [2]), (11, .lreturn, 1, [])]
set_option maxRecDepth 100000 in
theorem v_J9_min_f86c9 : p_J9_min_f86c9.all (dm_vb cJ9_min_f86c9) = true := by decide +kernel
def k_J9_min_f86c9 : dm_Sp := fun a => match a with
  | _ => fun _ _ _ => False
def x_J9_min_f86c9 : dm_X := dm_mk [] [] [] [] 2
set_option maxRecDepth 100000 in
set_option maxHeartbeats 400000 in
theorem u_J9_min_f86c9 : dm_Pure shC x_J9_min_f86c9 k_J9_min_f86c9 p_J9_min_f86c9 4 sp_J9_min_f86c9 := by
  intro As u Qp h
  unfold sp_J9_min_f86c9 at h
  split at h
  · refine ⟨Nat.le_of_ble_eq_true rfl, fun G Wp hW0 hW1 hG => ?_⟩
    apply hG (fun _ => false) 9
    simp (config := { maxSteps := 2000000 }) [hW0, hW1, dm_fn, dm_fd, dm_x, dm_L0, dm_la, dm_t1, dm_sw, List.headD, dm_ic, dm_mk, dm_s1, dm_s2, dm_clr, dm_cs, dm_cc, dm_nb0, dm_nb1, Value.category, List.lookup, p_J9_min_f86c9, x_J9_min_f86c9, k_J9_min_f86c9, dm_cm, upd, vp_updL, dm_ui_1, dm_ui_2, dm_ul_1, dm_ul_2, sC_0, sC_1, sC_2, sC_3, sC_4, sC_5, sC_6, sC_7, sC_8, sC_9, sC_10, sC_11, sC_12, sC_13, sC_14, sC_15, sC_16, sC_17, sC_18, sC_19, sC_20, sC_21, sC_22, sC_23, sC_24, sC_25, sC_26, sC_27, sC_28, sC_29, sC_30, sC_31, sC_32, sC_33, sC_34, sC_35, sC_36, sC_37, sC_38, sC_39, sC_40, sC_41, sC_42, sC_43, sC_44, sC_45, sC_46, sC_47, sC_48, sC_49, sC_50, sC_51]
    refine ⟨fun q => ?_, fun q => ?_⟩
    · rw [if_neg (dm_l_le.mpr q)] at h; exact h
    · rw [if_pos q] at h; exact h
  · exact h.elim
set_option maxRecDepth 100000 in
theorem t_J9_min_f86c9 (l : Launch) (D : va_G) (cA : Nat → ClassId) (ad : Nat → Nat) : dm_Met l D dm_cl cA ad shC yJ9_min_f86c9 (Cond.code yJ9_min_f86c9 cJ9_min_f86c9 4 (dm_rt 2) :: dm_tt) ({ frames := 0, cells := 0, slots := 0, locals := 0 } : Room) sp_J9_min_f86c9 := dm_meth (own := RJ9) (X := x_J9_min_f86c9) (Sp := k_J9_min_f86c9) (prog := p_J9_min_f86c9) (by decide +kernel) rfl rfl (dm_FO_s ffJ9 [] rfl dm_hT (by decide +kernel)) (dm_IO_s ifJ9 jfJ9 [] [] rfl rfl dm_hT (by decide +kernel) (by decide +kernel)) soC (dm_MO_of (fun _ h => absurd h List.not_mem_nil)) v_J9_min_f86c9 u_J9_min_f86c9
def sp_X2_hasNode (As : List Value) (u : dm_S) (Q : Option Value → dm_S → Prop) : Prop := match As with
  | [.ref 1, .int x] => Q (some (.int (if 0 ≤ x ∧ x < u.1 1 8 then 1 else 0))) u
  | _ => False
def p_X2_hasNode : List dm_I := [(0, .iload_n 1, 1, [1]), (1, .ifCond .lt 15, 3, [16]), (4, .iload_n 1, 1, [1]), (5, .aload_n 0, 1, [0]), (6, .getfield 38, 3, []), (9, .if_icmp .ge 7, 3, [16]), (12, .iconst 1, 1, []), (13, .goto 4, 3, [17]), (16, .iconst 0, 1, []), (17, .ireturn, 1, [])]
set_option maxRecDepth 100000 in
theorem v_X2_hasNode : p_X2_hasNode.all (dm_vb cX2_hasNode) = true := by decide +kernel
def k_X2_hasNode : dm_Sp := fun a => match a with
  | _ => fun _ _ _ => False
def x_X2_hasNode : dm_X := dm_mk [(38, 2, 8)] [] [] [] 3
set_option maxRecDepth 100000 in
set_option maxHeartbeats 400000 in
theorem u_X2_hasNode : dm_Pure shC x_X2_hasNode k_X2_hasNode p_X2_hasNode 2 sp_X2_hasNode := by
  intro As u Qp h
  unfold sp_X2_hasNode at h
  split at h
  · refine ⟨Nat.le_of_ble_eq_true rfl, fun G Wp hW0 hW1 hG => ?_⟩
    apply hG (fun _ => false) 11
    simp (config := { maxSteps := 2000000 }) [hW0, hW1, dm_fn, dm_fd, dm_x, dm_L0, dm_la, dm_t1, dm_sw, List.headD, dm_ic, dm_mk, dm_s1, dm_s2, dm_clr, dm_cs, dm_cc, dm_nb0, dm_nb1, Value.category, List.lookup, p_X2_hasNode, x_X2_hasNode, k_X2_hasNode, dm_cm, upd, vp_updL, dm_ui_1, dm_ui_2, dm_ul_1, dm_ul_2, sC_0, sC_1, sC_2, sC_3, sC_4, sC_5, sC_6, sC_7, sC_8, sC_9, sC_10, sC_11, sC_12, sC_13, sC_14, sC_15, sC_16, sC_17, sC_18, sC_19, sC_20, sC_21, sC_22, sC_23, sC_24, sC_25, sC_26, sC_27, sC_28, sC_29, sC_30, sC_31, sC_32, sC_33, sC_34, sC_35, sC_36, sC_37, sC_38, sC_39, sC_40, sC_41, sC_42, sC_43, sC_44, sC_45, sC_46, sC_47, sC_48, sC_49, sC_50, sC_51]
    refine ⟨fun q => ?_, fun q => ⟨fun q2 => ?_, fun q2 => ?_⟩⟩
    · rw [if_neg (fun z => dm_i_le.mpr q z.1)] at h; exact h
    · rw [if_neg (fun z => dm_i_lt.mpr q2 z.2)] at h; exact h
    · rw [if_pos ⟨q, q2⟩] at h; exact h
  · exact h.elim
set_option maxRecDepth 100000 in
theorem t_X2_hasNode (l : Launch) (D : va_G) (cA : Nat → ClassId) (ad : Nat → Nat) : dm_Met l D dm_cl cA ad shC yX2_hasNode (Cond.code yX2_hasNode cX2_hasNode 2 (dm_rt 3) :: dm_tt) ({ frames := 0, cells := 0, slots := 0, locals := 0 } : Room) sp_X2_hasNode := dm_meth (own := RX2) (X := x_X2_hasNode) (Sp := k_X2_hasNode) (prog := p_X2_hasNode) (by decide +kernel) rfl rfl (dm_FO_s ffX2 [(38, 2, 8)] rfl dm_hT (by decide +kernel)) (dm_IO_s ifX2 jfX2 [] [] rfl rfl dm_hT (by decide +kernel) (by decide +kernel)) soC (dm_MO_of (fun _ h => absurd h List.not_mem_nil)) v_X2_hasNode u_X2_hasNode
def sp_X2_hasArc (As : List Value) (u : dm_S) (Q : Option Value → dm_S → Prop) : Prop := match As with
  | [.ref 1, .int x] => Q (some (.int (if 0 ≤ x ∧ x < u.1 1 9 then 1 else 0))) u
  | _ => False
def p_X2_hasArc : List dm_I := [(0, .iload_n 1, 1, [1]), (1, .ifCond .lt 15, 3, [16]), (4, .iload_n 1, 1, [1]), (5, .aload_n 0, 1, [0]), (6, .getfield 42, 3, []), (9, .if_icmp .ge 7, 3, [16]), (12, .iconst 1, 1, []), (13, .goto 4, 3, [17]), (16, .iconst 0, 1, []), (17, .ireturn, 1, [])]
set_option maxRecDepth 100000 in
theorem v_X2_hasArc : p_X2_hasArc.all (dm_vb cX2_hasArc) = true := by decide +kernel
def k_X2_hasArc : dm_Sp := fun a => match a with
  | _ => fun _ _ _ => False
def x_X2_hasArc : dm_X := dm_mk [(42, 2, 9)] [] [] [] 3
set_option maxRecDepth 100000 in
set_option maxHeartbeats 400000 in
theorem u_X2_hasArc : dm_Pure shC x_X2_hasArc k_X2_hasArc p_X2_hasArc 2 sp_X2_hasArc := by
  intro As u Qp h
  unfold sp_X2_hasArc at h
  split at h
  · refine ⟨Nat.le_of_ble_eq_true rfl, fun G Wp hW0 hW1 hG => ?_⟩
    apply hG (fun _ => false) 11
    simp (config := { maxSteps := 2000000 }) [hW0, hW1, dm_fn, dm_fd, dm_x, dm_L0, dm_la, dm_t1, dm_sw, List.headD, dm_ic, dm_mk, dm_s1, dm_s2, dm_clr, dm_cs, dm_cc, dm_nb0, dm_nb1, Value.category, List.lookup, p_X2_hasArc, x_X2_hasArc, k_X2_hasArc, dm_cm, upd, vp_updL, dm_ui_1, dm_ui_2, dm_ul_1, dm_ul_2, sC_0, sC_1, sC_2, sC_3, sC_4, sC_5, sC_6, sC_7, sC_8, sC_9, sC_10, sC_11, sC_12, sC_13, sC_14, sC_15, sC_16, sC_17, sC_18, sC_19, sC_20, sC_21, sC_22, sC_23, sC_24, sC_25, sC_26, sC_27, sC_28, sC_29, sC_30, sC_31, sC_32, sC_33, sC_34, sC_35, sC_36, sC_37, sC_38, sC_39, sC_40, sC_41, sC_42, sC_43, sC_44, sC_45, sC_46, sC_47, sC_48, sC_49, sC_50, sC_51]
    refine ⟨fun q => ?_, fun q => ⟨fun q2 => ?_, fun q2 => ?_⟩⟩
    · rw [if_neg (fun z => dm_i_le.mpr q z.1)] at h; exact h
    · rw [if_neg (fun z => dm_i_lt.mpr q2 z.2)] at h; exact h
    · rw [if_pos ⟨q, q2⟩] at h; exact h
  · exact h.elim
set_option maxRecDepth 100000 in
theorem t_X2_hasArc (l : Launch) (D : va_G) (cA : Nat → ClassId) (ad : Nat → Nat) : dm_Met l D dm_cl cA ad shC yX2_hasArc (Cond.code yX2_hasArc cX2_hasArc 2 (dm_rt 3) :: dm_tt) ({ frames := 0, cells := 0, slots := 0, locals := 0 } : Room) sp_X2_hasArc := dm_meth (own := RX2) (X := x_X2_hasArc) (Sp := k_X2_hasArc) (prog := p_X2_hasArc) (by decide +kernel) rfl rfl (dm_FO_s ffX2 [(42, 2, 9)] rfl dm_hT (by decide +kernel)) (dm_IO_s ifX2 jfX2 [] [] rfl rfl dm_hT (by decide +kernel) (by decide +kernel)) soC (dm_MO_of (fun _ h => absurd h List.not_mem_nil)) v_X2_hasArc u_X2_hasArc
def sp_X2_lastPart (As : List Value) (u : dm_S) (Q : Option Value → dm_S → Prop) : Prop := match As with
  | [.ref 1, .int a] => vp_in a 80 ∧ Q (some (.int (a * 4 + u.1 16 a.toNatClampNeg - 1))) u
  | _ => False
def p_X2_lastPart : List dm_I := [(0, .iload_n 1, 1, [1]), (1, .iconst 4, 1, []), (2, .imul, 1, []), (3, .aload_n 0, 1, [0]), (4, .getfield 29, 3, []), (7, .iload_n 1, 1, [1]), (8, .iaload, 1, []), (9, .iadd, 1, []), (10, .iconst 1, 1, []), (11, .isub, 1, []), (12, .ireturn, 1, [])]
set_option maxRecDepth 100000 in
theorem v_X2_lastPart : p_X2_lastPart.all (dm_vb cX2_lastPart) = true := by decide +kernel
def k_X2_lastPart : dm_Sp := fun a => match a with
  | _ => fun _ _ _ => False
def x_X2_lastPart : dm_X := dm_mk [(29, 2, 5)] [] [] [] 1
set_option maxRecDepth 100000 in
set_option maxHeartbeats 400000 in
theorem u_X2_lastPart : dm_Pure shC x_X2_lastPart k_X2_lastPart p_X2_lastPart 2 sp_X2_lastPart := by
  intro As u Qp h
  unfold sp_X2_lastPart at h
  split at h
  · refine ⟨Nat.le_of_ble_eq_true rfl, fun G Wp hW0 hW1 hG => ?_⟩
    apply hG (fun _ => false) 12
    simp (config := { maxSteps := 2000000 }) [hW0, hW1, dm_fn, dm_fd, dm_x, dm_L0, dm_la, dm_t1, dm_sw, List.headD, dm_ic, dm_mk, dm_s1, dm_s2, dm_clr, dm_cs, dm_cc, dm_nb0, dm_nb1, Value.category, List.lookup, p_X2_lastPart, x_X2_lastPart, k_X2_lastPart, dm_cm, upd, vp_updL, dm_ui_1, dm_ui_2, dm_ul_1, dm_ul_2, sC_0, sC_1, sC_2, sC_3, sC_4, sC_5, sC_6, sC_7, sC_8, sC_9, sC_10, sC_11, sC_12, sC_13, sC_14, sC_15, sC_16, sC_17, sC_18, sC_19, sC_20, sC_21, sC_22, sC_23, sC_24, sC_25, sC_26, sC_27, sC_28, sC_29, sC_30, sC_31, sC_32, sC_33, sC_34, sC_35, sC_36, sC_37, sC_38, sC_39, sC_40, sC_41, sC_42, sC_43, sC_44, sC_45, sC_46, sC_47, sC_48, sC_49, sC_50, sC_51]
    exact h
  · exact h.elim
set_option maxRecDepth 100000 in
theorem t_X2_lastPart (l : Launch) (D : va_G) (cA : Nat → ClassId) (ad : Nat → Nat) : dm_Met l D dm_cl cA ad shC yX2_lastPart (Cond.code yX2_lastPart cX2_lastPart 2 (dm_rt 1) :: dm_tt) ({ frames := 0, cells := 0, slots := 0, locals := 0 } : Room) sp_X2_lastPart := dm_meth (own := RX2) (X := x_X2_lastPart) (Sp := k_X2_lastPart) (prog := p_X2_lastPart) (by decide +kernel) rfl rfl (dm_FO_s ffX2 [(29, 2, 5)] rfl dm_hT (by decide +kernel)) (dm_IO_s ifX2 jfX2 [] [] rfl rfl dm_hT (by decide +kernel) (by decide +kernel)) soC (dm_MO_of (fun _ h => absurd h List.not_mem_nil)) v_X2_lastPart u_X2_lastPart
def sp_X2_isPlain (As : List Value) (u : dm_S) (Q : Option Value → dm_S → Prop) : Prop := match As with
  | [.ref 1, .int x] => (0 ≤ x ∧ x < u.1 1 9 → vp_in x 80) ∧ Q (some (.int (if (0 ≤ x ∧ x < u.1 1 9) ∧ u.1 16 x.toNatClampNeg = 1 then 1 else 0))) u
  | _ => False
def p_X2_isPlain : List dm_I := [(0, .aload_n 0, 1, [0]), (1, .iload_n 1, 1, [1]), (2, .invokevirtual 45, 3, []), (5, .ifCond .eq 17, 3, [22]), (8, .aload_n 0, 1, [0]), (9, .getfield 29, 3, []), (12, .iload_n 1, 1, [1]), (13, .iaload, 1, []), (14, .iconst 1, 1, []), (15, .if_icmp .ne 7, 3, [22]), (18, .iconst 1, 1, []), (19, .goto 4, 3, [23]), (22, .iconst 0, 1, []), (23, .ireturn, 1, [])]
set_option maxRecDepth 100000 in
theorem v_X2_isPlain : p_X2_isPlain.all (dm_vb cX2_isPlain) = true := by decide +kernel
def k_X2_isPlain : dm_Sp := fun a => match a with
  | 0 => sp_X2_hasArc
  | _ => fun _ _ _ => False
def x_X2_isPlain : dm_X := dm_mk [(29, 2, 5)] [] [] [(45, 0, 1, 2)] 3
set_option maxRecDepth 100000 in
set_option maxHeartbeats 400000 in
theorem u_X2_isPlain : dm_Pure shC x_X2_isPlain k_X2_isPlain p_X2_isPlain 2 sp_X2_isPlain := by
  intro As u Qp h
  unfold sp_X2_isPlain at h
  split at h
  · refine ⟨Nat.le_of_ble_eq_true rfl, fun G Wp hW0 hW1 hG => ?_⟩
    apply hG (fun _ => false) 15
    simp (config := { maxSteps := 2000000 }) [hW0, hW1, dm_fn, dm_fd, dm_x, dm_L0, dm_la, dm_t1, dm_sw, List.headD, dm_ic, dm_mk, dm_s1, dm_s2, dm_clr, dm_cs, dm_cc, dm_nb0, dm_nb1, Value.category, List.lookup, p_X2_isPlain, x_X2_isPlain, k_X2_isPlain, dm_cm, upd, vp_updL, dm_ui_1, dm_ui_2, dm_ul_1, dm_ul_2, sp_X2_hasArc, sC_0, sC_1, sC_2, sC_3, sC_4, sC_5, sC_6, sC_7, sC_8, sC_9, sC_10, sC_11, sC_12, sC_13, sC_14, sC_15, sC_16, sC_17, sC_18, sC_19, sC_20, sC_21, sC_22, sC_23, sC_24, sC_25, sC_26, sC_27, sC_28, sC_29, sC_30, sC_31, sC_32, sC_33, sC_34, sC_35, sC_36, sC_37, sC_38, sC_39, sC_40, sC_41, sC_42, sC_43, sC_44, sC_45, sC_46, sC_47, sC_48, sC_49, sC_50, sC_51]
    obtain ⟨h1, h2⟩ := h
    refine ⟨fun q => ?_, fun q1 q2 => ⟨h1 ⟨q1, q2⟩, fun q3 => ?_, fun q3 => ?_⟩⟩
    · rw [if_neg (fun z => dm_i_lt.mpr (q z.1.1) z.1.2)] at h2; exact h2
    · rw [if_neg (fun z => q3 z.2)] at h2; exact h2
    · rw [if_pos ⟨⟨q1, q2⟩, q3⟩] at h2; exact h2
  · exact h.elim
set_option maxRecDepth 100000 in
theorem t_X2_isPlain (l : Launch) (D : va_G) (cA : Nat → ClassId) (ad : Nat → Nat) : dm_Met l D dm_cl cA ad shC yX2_isPlain (Cond.code yX2_isPlain cX2_isPlain 2 (dm_rt 3) :: dm_tt) ({ frames := 1, cells := 0, slots := 0, locals := 21 } : Room) sp_X2_isPlain := dm_meth (own := RX2) (X := x_X2_isPlain) (Sp := k_X2_isPlain) (prog := p_X2_isPlain) (by decide +kernel) rfl rfl (dm_FO_s ffX2 [(29, 2, 5)] rfl dm_hT (by decide +kernel)) (dm_IO_s ifX2 jfX2 [] [] rfl rfl dm_hT (by decide +kernel) (by decide +kernel)) soC (dm_MO_of (List.forall_mem_cons.mpr ⟨dm_M1_of (t_X2_hasArc l D cA ad) dm_hT (dm_mem [503, 67, 530] (by decide +kernel) (by decide +kernel)) (by decide) (by decide +kernel) (Or.inr ⟨by decide, dm_mem [501, 502] (by decide +kernel) (by decide +kernel), rfl⟩), fun _ h => absurd h List.not_mem_nil⟩)) v_X2_isPlain u_X2_isPlain
def sp_X2_addNode (As : List Value) (u : dm_S) (Q : Option Value → dm_S → Prop) : Prop := match As with
  | [.ref 1, .long a] => vp_in (u.1 1 8) 24 ∧ Q (some (.int (u.1 1 8))) (dm_ui (dm_ul u 11 (u.1 1 8).toNatClampNeg a) 1 8 (u.1 1 8 + 1))
  | _ => False
def p_X2_addNode : List dm_I := [(0, .aload_n 0, 1, [0]), (1, .getfield 9, 3, []), (4, .aload_n 0, 1, [0]), (5, .getfield 38, 3, []), (8, .lload_n 1, 1, [1]), (9, .lastore, 1, []), (10, .aload_n 0, 1, [0]), (11, .dup, 1, []), (12, .getfield 38, 3, []), (15, .iconst 1, 1, []), (16, .iadd, 1, []), (17, .putfield 38, 3, []), (20, .aload_n 0, 1, [0]), (21, .getfield 38, 3, []), (24, .iconst 1, 1, []), (25, .isub, 1, []), (26, .ireturn, 1, [])]
set_option maxRecDepth 100000 in
theorem v_X2_addNode : p_X2_addNode.all (dm_vb cX2_addNode) = true := by decide +kernel
def k_X2_addNode : dm_Sp := fun a => match a with
  | _ => fun _ _ _ => False
def x_X2_addNode : dm_X := dm_mk [(9, 2, 0), (38, 2, 8)] [] [] [] 1
set_option maxRecDepth 100000 in
set_option maxHeartbeats 400000 in
theorem u_X2_addNode : dm_Pure shC x_X2_addNode k_X2_addNode p_X2_addNode 3 sp_X2_addNode := by
  intro As u Qp h
  unfold sp_X2_addNode at h
  split at h
  · refine ⟨Nat.le_of_ble_eq_true rfl, fun G Wp hW0 hW1 hG => ?_⟩
    apply hG (fun _ => false) 18
    simp (config := { maxSteps := 2000000 }) [hW0, hW1, dm_fn, dm_fd, dm_x, dm_L0, dm_la, dm_t1, dm_sw, List.headD, dm_ic, dm_mk, dm_s1, dm_s2, dm_clr, dm_cs, dm_cc, dm_nb0, dm_nb1, Value.category, List.lookup, p_X2_addNode, x_X2_addNode, k_X2_addNode, dm_cm, upd, vp_updL, dm_ui_1, dm_ui_2, dm_ul_1, dm_ul_2, sC_0, sC_1, sC_2, sC_3, sC_4, sC_5, sC_6, sC_7, sC_8, sC_9, sC_10, sC_11, sC_12, sC_13, sC_14, sC_15, sC_16, sC_17, sC_18, sC_19, sC_20, sC_21, sC_22, sC_23, sC_24, sC_25, sC_26, sC_27, sC_28, sC_29, sC_30, sC_31, sC_32, sC_33, sC_34, sC_35, sC_36, sC_37, sC_38, sC_39, sC_40, sC_41, sC_42, sC_43, sC_44, sC_45, sC_46, sC_47, sC_48, sC_49, sC_50, sC_51]
    exact h
  · exact h.elim
set_option maxRecDepth 100000 in
theorem t_X2_addNode (l : Launch) (D : va_G) (cA : Nat → ClassId) (ad : Nat → Nat) : dm_Met l D dm_cl cA ad shC yX2_addNode (Cond.code yX2_addNode cX2_addNode 3 (dm_rt 1) :: dm_tt) ({ frames := 0, cells := 0, slots := 0, locals := 0 } : Room) sp_X2_addNode := dm_meth (own := RX2) (X := x_X2_addNode) (Sp := k_X2_addNode) (prog := p_X2_addNode) (by decide +kernel) rfl rfl (dm_FO_s ffX2 [(9, 2, 0), (38, 2, 8)] rfl dm_hT (by decide +kernel)) (dm_IO_s ifX2 jfX2 [] [] rfl rfl dm_hT (by decide +kernel) (by decide +kernel)) soC (dm_MO_of (fun _ h => absurd h List.not_mem_nil)) v_X2_addNode u_X2_addNode
def sp_X2_addArc (As : List Value) (u : dm_S) (Q : Option Value → dm_S → Prop) : Prop := match As with
  | [.ref 1, .int a, .int b, .long lo, .long mo, .long co] => vp_in (u.1 1 9) 80 ∧ vp_in (u.1 1 9 * 4) 320 ∧ Q (some (.int (u.1 1 9))) (dm_ui (dm_ul (dm_ul (dm_ui (dm_ul (dm_ui (dm_ui (dm_ui u 12 (u.1 1 9).toNatClampNeg a) 13 (u.1 1 9).toNatClampNeg b) 14 (u.1 1 9).toNatClampNeg (if mo = -2 then 1 else 0)) 15 (u.1 1 9).toNatClampNeg (if mo = -2 then 1000000000 else mo)) 16 (u.1 1 9).toNatClampNeg 1) 17 (u.1 1 9 * 4).toNatClampNeg lo) 18 (u.1 1 9 * 4).toNatClampNeg co) 1 9 (u.1 1 9 + 1))
  | _ => False
def p_X2_addArc : List dm_I := [(0, .aload_n 0, 1, [0]), (1, .getfield 15, 3, []), (4, .aload_n 0, 1, [0]), (5, .getfield 42, 3, []), (8, .iload_n 1, 1, [1]), (9, .iastore, 1, []), (10, .aload_n 0, 1, [0]), (11, .getfield 19, 3, []), (14, .aload_n 0, 1, [0]), (15, .getfield 42, 3, []), (18, .iload_n 2, 1, [2]), (19, .iastore, 1, []), (20, .aload_n 0, 1, [0]), (21, .getfield 22, 3, []), (24, .aload_n 0, 1, [0]), (25, .getfield 42, 3, []), (28, .lload 5, 2, []), (30, .ldc2_w 49, 3, []), (33, .lcmp, 1, []), (34, .ifCond .ne 7, 3, [41]), (37, .iconst 1, 1, []), (38, .goto 4, 3, [42]), (41, .iconst 0, 1, []), (42, .bastore, 1, []), (43, .aload_n 0, 1, [0]), (44, .getfield 26, 3, []), (47, .aload_n 0, 1, [0]), (48, .getfield 42, 3, []), (51, .lload 5, 2, []), (53, .ldc2_w 49, 3, []), (56, .lcmp, 1, []), (57, .ifCond .ne 9, 3, [66]), (60, .ldc2_w 51, 3, []), (63, .goto 5, 3, [68]), (66, .lload 5, 2, []), (68, .lastore, 1, []), (69, .aload_n 0, 1, [0]), (70, .getfield 29, 3, []), (73, .aload_n 0, 1, [0]), (74, .getfield 42, 3, []), (77, .iconst 1, 1, []), (78, .iastore, 1, []), (79, .aload_n 0, 1, [0]), (80, .getfield 32, 3, []), (83, .aload_n 0, 1, [0]), (84, .getfield 42, 3, []), (87, .iconst 4, 1, []), (88, .imul, 1, []), (89, .lload_n 3, 1, [3]), (90, .lastore, 1, []), (91, .aload_n 0, 1, [0]), (92, .getfield 35, 3, []), (95, .aload_n 0, 1, [0]), (96, .getfield 42, 3, []), (99, .iconst 4, 1, []), (100, .imul, 1, []), (101, .lload 7, 2, []), (103, .lastore, 1, []), (104, .aload_n 0, 1, [0]), (105, .dup, 1, []), (106, .getfield 42, 3, []), (109, .iconst 1, 1, []), (110, .iadd, 1, []), (111, .putfield 42, 3, []), (114, .aload_n 0, 1, [0]), (115, .getfield 42, 3, []), (118, .iconst 1, 1, []), (119, .isub, 1, []), (120, .ireturn, 1, [])]
set_option maxRecDepth 100000 in
theorem v_X2_addArc : p_X2_addArc.all (dm_vb cX2_addArc) = true := by decide +kernel
def k_X2_addArc : dm_Sp := fun a => match a with
  | _ => fun _ _ _ => False
def x_X2_addArc : dm_X := dm_mk [(15, 2, 1), (19, 2, 2), (22, 2, 3), (26, 2, 4), (29, 2, 5), (32, 2, 6), (35, 2, 7), (42, 2, 9)] [] [(49, -2), (51, 1000000000)] [] 1
set_option maxRecDepth 100000 in
set_option maxHeartbeats 400000 in
theorem u_X2_addArc : dm_Pure shC x_X2_addArc k_X2_addArc p_X2_addArc 9 sp_X2_addArc := by
  intro As u Qp h
  unfold sp_X2_addArc at h
  split at h
  · refine ⟨Nat.le_of_ble_eq_true rfl, fun G Wp hW0 hW1 hG => ?_⟩
    apply hG (fun _ => false) 70
    simp (config := { maxSteps := 2000000 }) [hW0, hW1, dm_fn, dm_fd, dm_x, dm_L0, dm_la, dm_t1, dm_sw, List.headD, dm_ic, dm_mk, dm_s1, dm_s2, dm_clr, dm_cs, dm_cc, dm_nb0, dm_nb1, Value.category, List.lookup, p_X2_addArc, x_X2_addArc, k_X2_addArc, dm_cm, upd, vp_updL, dm_ui_1, dm_ui_2, dm_ul_1, dm_ul_2, sC_0, sC_1, sC_2, sC_3, sC_4, sC_5, sC_6, sC_7, sC_8, sC_9, sC_10, sC_11, sC_12, sC_13, sC_14, sC_15, sC_16, sC_17, sC_18, sC_19, sC_20, sC_21, sC_22, sC_23, sC_24, sC_25, sC_26, sC_27, sC_28, sC_29, sC_30, sC_31, sC_32, sC_33, sC_34, sC_35, sC_36, sC_37, sC_38, sC_39, sC_40, sC_41, sC_42, sC_43, sC_44, sC_45, sC_46, sC_47, sC_48, sC_49, sC_50, sC_51]
    obtain ⟨h1, h2, h3⟩ := h
    refine ⟨h1, fun q => ⟨h1, fun _ => ⟨h1, h2, ?_⟩, fun q2 => absurd q2 q⟩, fun q => ⟨h1, fun q2 => absurd q q2, fun _ => ⟨h1, h2, ?_⟩⟩⟩
    · rw [if_neg q, if_neg q] at h3; simpa using h3
    · rw [if_pos q, if_pos q] at h3; simpa using h3
  · exact h.elim
set_option maxRecDepth 100000 in
theorem t_X2_addArc (l : Launch) (D : va_G) (cA : Nat → ClassId) (ad : Nat → Nat) : dm_Met l D dm_cl cA ad shC yX2_addArc (Cond.code yX2_addArc cX2_addArc 9 (dm_rt 1) :: dm_tt) ({ frames := 0, cells := 0, slots := 0, locals := 0 } : Room) sp_X2_addArc := dm_meth (own := RX2) (X := x_X2_addArc) (Sp := k_X2_addArc) (prog := p_X2_addArc) (by decide +kernel) rfl rfl (dm_FO_s ffX2 [(15, 2, 1), (19, 2, 2), (22, 2, 3), (26, 2, 4), (29, 2, 5), (32, 2, 6), (35, 2, 7), (42, 2, 9)] rfl dm_hT (by decide +kernel)) (dm_IO_s ifX2 jfX2 [] [(49, -2), (51, 1000000000)] rfl rfl dm_hT (by decide +kernel) (by decide +kernel)) soC (dm_MO_of (fun _ h => absurd h List.not_mem_nil)) v_X2_addArc u_X2_addArc
def sp_X2_takesPiece (As : List Value) (u : dm_S) (Q : Option Value → dm_S → Prop) : Prop := match As with
  | [.ref 1, .int a, .long mq, .long co] => vp_in a 80 ∧ (u.1 16 a.toNatClampNeg < 4 → vp_in (a * 4 + u.1 16 a.toNatClampNeg - 1) 320) ∧ Q (some (.int (if u.1 16 a.toNatClampNeg < 4 ∧ u.2 17 (a * 4 + u.1 16 a.toNatClampNeg - 1).toNatClampNeg < mq ∧ mq < u.2 15 a.toNatClampNeg ∧ mq ≤ 1000000 ∧ u.2 18 (a * 4 + u.1 16 a.toNatClampNeg - 1).toNatClampNeg ≤ co ∧ co ≤ 1000000 then 1 else 0))) u
  | _ => False
def p_X2_takesPiece : List dm_I := [(0, .aload_n 0, 1, [0]), (1, .getfield 29, 3, []), (4, .iload_n 1, 1, [1]), (5, .iaload, 1, []), (6, .iconst 4, 1, []), (7, .if_icmp .lt 5, 3, [12]), (10, .iconst 0, 1, []), (11, .ireturn, 1, []), (12, .aload_n 0, 1, [0]), (13, .iload_n 1, 1, [1]), (14, .invokevirtual 53, 3, []), (17, .istore 6, 2, []), (19, .lload_n 2, 1, [2]), (20, .aload_n 0, 1, [0]), (21, .getfield 32, 3, []), (24, .iload 6, 2, []), (26, .laload, 1, []), (27, .lcmp, 1, []), (28, .ifCond .le 48, 3, [76]), (31, .lload_n 2, 1, [2]), (32, .aload_n 0, 1, [0]), (33, .getfield 26, 3, []), (36, .iload_n 1, 1, [1]), (37, .laload, 1, []), (38, .lcmp, 1, []), (39, .ifCond .ge 37, 3, [76]), (42, .lload_n 2, 1, [2]), (43, .ldc2_w 57, 3, []), (46, .lcmp, 1, []), (47, .ifCond .gt 29, 3, [76]), (50, .lload 4, 2, []), (52, .aload_n 0, 1, [0]), (53, .getfield 35, 3, []), (56, .iload 6, 2, []), (58, .laload, 1, []), (59, .lcmp, 1, []), (60, .ifCond .lt 16, 3, [76]), (63, .lload 4, 2, []), (65, .ldc2_w 57, 3, []), (68, .lcmp, 1, []), (69, .ifCond .gt 7, 3, [76]), (72, .iconst 1, 1, []), (73, .goto 4, 3, [77]), (76, .iconst 0, 1, []), (77, .ireturn, 1, [])]
set_option maxRecDepth 100000 in
theorem v_X2_takesPiece : p_X2_takesPiece.all (dm_vb cX2_takesPiece) = true := by decide +kernel
def k_X2_takesPiece : dm_Sp := fun a => match a with
  | 0 => sp_X2_lastPart
  | _ => fun _ _ _ => False
def x_X2_takesPiece : dm_X := dm_mk [(26, 2, 4), (29, 2, 5), (32, 2, 6), (35, 2, 7)] [] [(57, 1000000)] [(53, 0, 1, 2)] 3
set_option maxRecDepth 100000 in
set_option maxHeartbeats 400000 in
theorem u_X2_takesPiece : dm_Pure shC x_X2_takesPiece k_X2_takesPiece p_X2_takesPiece 7 sp_X2_takesPiece := by
  intro As u Qp h
  unfold sp_X2_takesPiece at h
  split at h
  · refine ⟨Nat.le_of_ble_eq_true rfl, fun G Wp hW0 hW1 hG => ?_⟩
    apply hG (fun _ => false) 46
    simp (config := { maxSteps := 2000000 }) [hW0, hW1, dm_fn, dm_fd, dm_x, dm_L0, dm_la, dm_t1, dm_sw, List.headD, dm_ic, dm_mk, dm_s1, dm_s2, dm_clr, dm_cs, dm_cc, dm_nb0, dm_nb1, Value.category, List.lookup, p_X2_takesPiece, x_X2_takesPiece, k_X2_takesPiece, dm_cm, upd, vp_updL, dm_ui_1, dm_ui_2, dm_ul_1, dm_ul_2, sp_X2_lastPart, sC_0, sC_1, sC_2, sC_3, sC_4, sC_5, sC_6, sC_7, sC_8, sC_9, sC_10, sC_11, sC_12, sC_13, sC_14, sC_15, sC_16, sC_17, sC_18, sC_19, sC_20, sC_21, sC_22, sC_23, sC_24, sC_25, sC_26, sC_27, sC_28, sC_29, sC_30, sC_31, sC_32, sC_33, sC_34, sC_35, sC_36, sC_37, sC_38, sC_39, sC_40, sC_41, sC_42, sC_43, sC_44, sC_45, sC_46, sC_47, sC_48, sC_49, sC_50, sC_51]
    obtain ⟨h1, h2, h3⟩ := h
    refine ⟨h1, fun q1 => ⟨h1, h2 q1, fun q2 => ?_, fun q2 => ⟨h1, fun q3 => ?_, fun q3 => ⟨fun q4 => ?_, fun q4 => ⟨h2 q1, fun q5 => ?_, fun q5 => ⟨fun q6 => ?_, fun q6 => ?_⟩⟩⟩⟩⟩, fun q1 => ?_⟩
    · rw [if_neg (fun z => dm_l_lt.mpr q2 z.2.1)] at h3; exact h3
    · rw [if_neg (fun z => dm_l_lt.mpr q3 z.2.2.1)] at h3; exact h3
    · rw [if_neg (fun z => dm_l_le.mpr q4 z.2.2.2.1)] at h3; exact h3
    · rw [if_neg (fun z => dm_l_le.mpr q5 z.2.2.2.2.1)] at h3; exact h3
    · rw [if_neg (fun z => dm_l_le.mpr q6 z.2.2.2.2.2)] at h3; exact h3
    · rw [if_pos ⟨q1, q2, q3, q4, q5, q6⟩] at h3; exact h3
    · rw [if_neg (fun z => dm_i_lt.mpr q1 z.1)] at h3; exact h3
  · exact h.elim
set_option maxRecDepth 100000 in
theorem t_X2_takesPiece (l : Launch) (D : va_G) (cA : Nat → ClassId) (ad : Nat → Nat) : dm_Met l D dm_cl cA ad shC yX2_takesPiece (Cond.code yX2_takesPiece cX2_takesPiece 7 (dm_rt 3) :: dm_tt) ({ frames := 1, cells := 0, slots := 0, locals := 21 } : Room) sp_X2_takesPiece := dm_meth (own := RX2) (X := x_X2_takesPiece) (Sp := k_X2_takesPiece) (prog := p_X2_takesPiece) (by decide +kernel) rfl rfl (dm_FO_s ffX2 [(26, 2, 4), (29, 2, 5), (32, 2, 6), (35, 2, 7)] rfl dm_hT (by decide +kernel)) (dm_IO_s ifX2 jfX2 [] [(57, 1000000)] rfl rfl dm_hT (by decide +kernel) (by decide +kernel)) soC (dm_MO_of (List.forall_mem_cons.mpr ⟨dm_M1_of (t_X2_lastPart l D cA ad) dm_hT (dm_mem [511, 67, 508] (by decide +kernel) (by decide +kernel)) (by decide) (by decide +kernel) (Or.inr ⟨by decide, dm_mem [510, 1] (by decide +kernel) (by decide +kernel), rfl⟩), fun _ h => absurd h List.not_mem_nil⟩)) v_X2_takesPiece u_X2_takesPiece
def sp_X2_addPiece (As : List Value) (u : dm_S) (Q : Option Value → dm_S → Prop) : Prop := match As with
  | [.ref 1, .int a, .long mq, .long co] => vp_in a 80 ∧ vp_in (a * 4 + u.1 16 a.toNatClampNeg) 320 ∧ Q (some (.int (u.1 16 a.toNatClampNeg))) (dm_ui (dm_ui (dm_ul (dm_ul u 17 (a * 4 + u.1 16 a.toNatClampNeg).toNatClampNeg mq) 18 (a * 4 + u.1 16 a.toNatClampNeg).toNatClampNeg co) 16 a.toNatClampNeg (u.1 16 a.toNatClampNeg + 1)) 1 10 (u.1 1 10 + 1))
  | _ => False
def p_X2_addPiece : List dm_I := [(0, .aload_n 0, 1, [0]), (1, .iload_n 1, 1, [1]), (2, .invokevirtual 53, 3, []), (5, .iconst 1, 1, []), (6, .iadd, 1, []), (7, .istore 6, 2, []), (9, .aload_n 0, 1, [0]), (10, .getfield 32, 3, []), (13, .iload 6, 2, []), (15, .lload_n 2, 1, [2]), (16, .lastore, 1, []), (17, .aload_n 0, 1, [0]), (18, .getfield 35, 3, []), (21, .iload 6, 2, []), (23, .lload 4, 2, []), (25, .lastore, 1, []), (26, .aload_n 0, 1, [0]), (27, .getfield 29, 3, []), (30, .iload_n 1, 1, [1]), (31, .dup2, 1, []), (32, .iaload, 1, []), (33, .iconst 1, 1, []), (34, .iadd, 1, []), (35, .iastore, 1, []), (36, .aload_n 0, 1, [0]), (37, .dup, 1, []), (38, .getfield 59, 3, []), (41, .iconst 1, 1, []), (42, .iadd, 1, []), (43, .putfield 59, 3, []), (46, .aload_n 0, 1, [0]), (47, .getfield 29, 3, []), (50, .iload_n 1, 1, [1]), (51, .iaload, 1, []), (52, .iconst 1, 1, []), (53, .isub, 1, []), (54, .ireturn, 1, [])]
set_option maxRecDepth 100000 in
theorem v_X2_addPiece : p_X2_addPiece.all (dm_vb cX2_addPiece) = true := by decide +kernel
def k_X2_addPiece : dm_Sp := fun a => match a with
  | 0 => sp_X2_lastPart
  | _ => fun _ _ _ => False
def x_X2_addPiece : dm_X := dm_mk [(29, 2, 5), (32, 2, 6), (35, 2, 7), (59, 2, 10)] [] [] [(53, 0, 1, 2)] 1
set_option maxRecDepth 100000 in
set_option maxHeartbeats 400000 in
theorem u_X2_addPiece : dm_Pure shC x_X2_addPiece k_X2_addPiece p_X2_addPiece 7 sp_X2_addPiece := by
  intro As u Qp h
  unfold sp_X2_addPiece at h
  split at h
  · refine ⟨Nat.le_of_ble_eq_true rfl, fun G Wp hW0 hW1 hG => ?_⟩
    apply hG (fun _ => false) 38
    simp (config := { maxSteps := 2000000 }) [hW0, hW1, dm_fn, dm_fd, dm_x, dm_L0, dm_la, dm_t1, dm_sw, List.headD, dm_ic, dm_mk, dm_s1, dm_s2, dm_clr, dm_cs, dm_cc, dm_nb0, dm_nb1, Value.category, List.lookup, p_X2_addPiece, x_X2_addPiece, k_X2_addPiece, dm_cm, upd, vp_updL, dm_ui_1, dm_ui_2, dm_ul_1, dm_ul_2, sp_X2_lastPart, sC_0, sC_1, sC_2, sC_3, sC_4, sC_5, sC_6, sC_7, sC_8, sC_9, sC_10, sC_11, sC_12, sC_13, sC_14, sC_15, sC_16, sC_17, sC_18, sC_19, sC_20, sC_21, sC_22, sC_23, sC_24, sC_25, sC_26, sC_27, sC_28, sC_29, sC_30, sC_31, sC_32, sC_33, sC_34, sC_35, sC_36, sC_37, sC_38, sC_39, sC_40, sC_41, sC_42, sC_43, sC_44, sC_45, sC_46, sC_47, sC_48, sC_49, sC_50, sC_51]
    exact ⟨h.1, h.2.1, h.1, h.2.2⟩
  · exact h.elim
set_option maxRecDepth 100000 in
theorem t_X2_addPiece (l : Launch) (D : va_G) (cA : Nat → ClassId) (ad : Nat → Nat) : dm_Met l D dm_cl cA ad shC yX2_addPiece (Cond.code yX2_addPiece cX2_addPiece 7 (dm_rt 1) :: dm_tt) ({ frames := 1, cells := 0, slots := 0, locals := 21 } : Room) sp_X2_addPiece := dm_meth (own := RX2) (X := x_X2_addPiece) (Sp := k_X2_addPiece) (prog := p_X2_addPiece) (by decide +kernel) rfl rfl (dm_FO_s ffX2 [(29, 2, 5), (32, 2, 6), (35, 2, 7), (59, 2, 10)] rfl dm_hT (by decide +kernel)) (dm_IO_s ifX2 jfX2 [] [] rfl rfl dm_hT (by decide +kernel) (by decide +kernel)) soC (dm_MO_of (List.forall_mem_cons.mpr ⟨dm_M1_of (t_X2_lastPart l D cA ad) dm_hT (dm_mem [511, 67, 508] (by decide +kernel) (by decide +kernel)) (by decide) (by decide +kernel) (Or.inr ⟨by decide, dm_mem [510, 1] (by decide +kernel) (by decide +kernel), rfl⟩), fun _ h => absurd h List.not_mem_nil⟩)) v_X2_addPiece u_X2_addPiece
def sp_X2_lowOf (As : List Value) (u : dm_S) (Q : Option Value → dm_S → Prop) : Prop := match As with
  | [.ref 1, .int a] => vp_in (a * 4) 320 ∧ Q (some (.long (u.2 17 (a * 4).toNatClampNeg))) u
  | _ => False
def p_X2_lowOf : List dm_I := [(0, .aload_n 0, 1, [0]), (1, .getfield 32, 3, []), (4, .iload_n 1, 1, [1]), (5, .iconst 4, 1, []), (6, .imul, 1, []), (7, .laload, 1, []), (8, .lreturn, 1, [])]
set_option maxRecDepth 100000 in
theorem v_X2_lowOf : p_X2_lowOf.all (dm_vb cX2_lowOf) = true := by decide +kernel
def k_X2_lowOf : dm_Sp := fun a => match a with
  | _ => fun _ _ _ => False
def x_X2_lowOf : dm_X := dm_mk [(32, 2, 6)] [] [] [] 2
set_option maxRecDepth 100000 in
set_option maxHeartbeats 400000 in
theorem u_X2_lowOf : dm_Pure shC x_X2_lowOf k_X2_lowOf p_X2_lowOf 2 sp_X2_lowOf := by
  intro As u Qp h
  unfold sp_X2_lowOf at h
  split at h
  · refine ⟨Nat.le_of_ble_eq_true rfl, fun G Wp hW0 hW1 hG => ?_⟩
    apply hG (fun _ => false) 8
    simp (config := { maxSteps := 2000000 }) [hW0, hW1, dm_fn, dm_fd, dm_x, dm_L0, dm_la, dm_t1, dm_sw, List.headD, dm_ic, dm_mk, dm_s1, dm_s2, dm_clr, dm_cs, dm_cc, dm_nb0, dm_nb1, Value.category, List.lookup, p_X2_lowOf, x_X2_lowOf, k_X2_lowOf, dm_cm, upd, vp_updL, dm_ui_1, dm_ui_2, dm_ul_1, dm_ul_2, sC_0, sC_1, sC_2, sC_3, sC_4, sC_5, sC_6, sC_7, sC_8, sC_9, sC_10, sC_11, sC_12, sC_13, sC_14, sC_15, sC_16, sC_17, sC_18, sC_19, sC_20, sC_21, sC_22, sC_23, sC_24, sC_25, sC_26, sC_27, sC_28, sC_29, sC_30, sC_31, sC_32, sC_33, sC_34, sC_35, sC_36, sC_37, sC_38, sC_39, sC_40, sC_41, sC_42, sC_43, sC_44, sC_45, sC_46, sC_47, sC_48, sC_49, sC_50, sC_51]
    exact h
  · exact h.elim
set_option maxRecDepth 100000 in
theorem t_X2_lowOf (l : Launch) (D : va_G) (cA : Nat → ClassId) (ad : Nat → Nat) : dm_Met l D dm_cl cA ad shC yX2_lowOf (Cond.code yX2_lowOf cX2_lowOf 2 (dm_rt 2) :: dm_tt) ({ frames := 0, cells := 0, slots := 0, locals := 0 } : Room) sp_X2_lowOf := dm_meth (own := RX2) (X := x_X2_lowOf) (Sp := k_X2_lowOf) (prog := p_X2_lowOf) (by decide +kernel) rfl rfl (dm_FO_s ffX2 [(32, 2, 6)] rfl dm_hT (by decide +kernel)) (dm_IO_s ifX2 jfX2 [] [] rfl rfl dm_hT (by decide +kernel) (by decide +kernel)) soC (dm_MO_of (fun _ h => absurd h List.not_mem_nil)) v_X2_lowOf u_X2_lowOf
def sp_X2_lastRate (As : List Value) (u : dm_S) (Q : Option Value → dm_S → Prop) : Prop := match As with
  | [.ref 1, .int a] => vp_in a 80 ∧ vp_in (a * 4 + u.1 16 a.toNatClampNeg - 1) 320 ∧ Q (some (.long (u.2 18 (a * 4 + u.1 16 a.toNatClampNeg - 1).toNatClampNeg))) u
  | _ => False
def p_X2_lastRate : List dm_I := [(0, .aload_n 0, 1, [0]), (1, .getfield 35, 3, []), (4, .aload_n 0, 1, [0]), (5, .iload_n 1, 1, [1]), (6, .invokevirtual 53, 3, []), (9, .laload, 1, []), (10, .lreturn, 1, [])]
set_option maxRecDepth 100000 in
theorem v_X2_lastRate : p_X2_lastRate.all (dm_vb cX2_lastRate) = true := by decide +kernel
def k_X2_lastRate : dm_Sp := fun a => match a with
  | 0 => sp_X2_lastPart
  | _ => fun _ _ _ => False
def x_X2_lastRate : dm_X := dm_mk [(35, 2, 7)] [] [] [(53, 0, 1, 2)] 2
set_option maxRecDepth 100000 in
set_option maxHeartbeats 400000 in
theorem u_X2_lastRate : dm_Pure shC x_X2_lastRate k_X2_lastRate p_X2_lastRate 2 sp_X2_lastRate := by
  intro As u Qp h
  unfold sp_X2_lastRate at h
  split at h
  · refine ⟨Nat.le_of_ble_eq_true rfl, fun G Wp hW0 hW1 hG => ?_⟩
    apply hG (fun _ => false) 8
    simp (config := { maxSteps := 2000000 }) [hW0, hW1, dm_fn, dm_fd, dm_x, dm_L0, dm_la, dm_t1, dm_sw, List.headD, dm_ic, dm_mk, dm_s1, dm_s2, dm_clr, dm_cs, dm_cc, dm_nb0, dm_nb1, Value.category, List.lookup, p_X2_lastRate, x_X2_lastRate, k_X2_lastRate, dm_cm, upd, vp_updL, dm_ui_1, dm_ui_2, dm_ul_1, dm_ul_2, sp_X2_lastPart, sC_0, sC_1, sC_2, sC_3, sC_4, sC_5, sC_6, sC_7, sC_8, sC_9, sC_10, sC_11, sC_12, sC_13, sC_14, sC_15, sC_16, sC_17, sC_18, sC_19, sC_20, sC_21, sC_22, sC_23, sC_24, sC_25, sC_26, sC_27, sC_28, sC_29, sC_30, sC_31, sC_32, sC_33, sC_34, sC_35, sC_36, sC_37, sC_38, sC_39, sC_40, sC_41, sC_42, sC_43, sC_44, sC_45, sC_46, sC_47, sC_48, sC_49, sC_50, sC_51]
    exact h
  · exact h.elim
set_option maxRecDepth 100000 in
theorem t_X2_lastRate (l : Launch) (D : va_G) (cA : Nat → ClassId) (ad : Nat → Nat) : dm_Met l D dm_cl cA ad shC yX2_lastRate (Cond.code yX2_lastRate cX2_lastRate 2 (dm_rt 2) :: dm_tt) ({ frames := 1, cells := 0, slots := 0, locals := 21 } : Room) sp_X2_lastRate := dm_meth (own := RX2) (X := x_X2_lastRate) (Sp := k_X2_lastRate) (prog := p_X2_lastRate) (by decide +kernel) rfl rfl (dm_FO_s ffX2 [(35, 2, 7)] rfl dm_hT (by decide +kernel)) (dm_IO_s ifX2 jfX2 [] [] rfl rfl dm_hT (by decide +kernel) (by decide +kernel)) soC (dm_MO_of (List.forall_mem_cons.mpr ⟨dm_M1_of (t_X2_lastPart l D cA ad) dm_hT (dm_mem [511, 67, 508] (by decide +kernel) (by decide +kernel)) (by decide) (by decide +kernel) (Or.inr ⟨by decide, dm_mem [510, 1] (by decide +kernel) (by decide +kernel), rfl⟩), fun _ h => absurd h List.not_mem_nil⟩)) v_X2_lastRate u_X2_lastRate
def sp_X2_endOf (As : List Value) (u : dm_S) (Q : Option Value → dm_S → Prop) : Prop := match As with
  | [.ref 1, .int a, .int b] => vp_in a 80 ∧ (b + 1 < u.1 16 a.toNatClampNeg → vp_in (a * 4 + b + 1) 320) ∧ Q (some (.long (if b + 1 < u.1 16 a.toNatClampNeg then u.2 17 (a * 4 + b + 1).toNatClampNeg else u.2 15 a.toNatClampNeg))) u
  | _ => False
def p_X2_endOf : List dm_I := [(0, .iload_n 2, 1, [2]), (1, .iconst 1, 1, []), (2, .iadd, 1, []), (3, .aload_n 0, 1, [0]), (4, .getfield 29, 3, []), (7, .iload_n 1, 1, [1]), (8, .iaload, 1, []), (9, .if_icmp .ge 18, 3, [27]), (12, .aload_n 0, 1, [0]), (13, .getfield 32, 3, []), (16, .iload_n 1, 1, [1]), (17, .iconst 4, 1, []), (18, .imul, 1, []), (19, .iload_n 2, 1, [2]), (20, .iadd, 1, []), (21, .iconst 1, 1, []), (22, .iadd, 1, []), (23, .laload, 1, []), (24, .goto 9, 3, [33]), (27, .aload_n 0, 1, [0]), (28, .getfield 26, 3, []), (31, .iload_n 1, 1, [1]), (32, .laload, 1, []), (33, .lreturn, 1, [])]
set_option maxRecDepth 100000 in
theorem v_X2_endOf : p_X2_endOf.all (dm_vb cX2_endOf) = true := by decide +kernel
def k_X2_endOf : dm_Sp := fun a => match a with
  | _ => fun _ _ _ => False
def x_X2_endOf : dm_X := dm_mk [(26, 2, 4), (29, 2, 5), (32, 2, 6)] [] [] [] 2
set_option maxRecDepth 100000 in
set_option maxHeartbeats 400000 in
theorem u_X2_endOf : dm_Pure shC x_X2_endOf k_X2_endOf p_X2_endOf 3 sp_X2_endOf := by
  intro As u Qp h
  unfold sp_X2_endOf at h
  split at h
  · refine ⟨Nat.le_of_ble_eq_true rfl, fun G Wp hW0 hW1 hG => ?_⟩
    apply hG (fun _ => false) 25
    simp (config := { maxSteps := 2000000 }) [hW0, hW1, dm_fn, dm_fd, dm_x, dm_L0, dm_la, dm_t1, dm_sw, List.headD, dm_ic, dm_mk, dm_s1, dm_s2, dm_clr, dm_cs, dm_cc, dm_nb0, dm_nb1, Value.category, List.lookup, p_X2_endOf, x_X2_endOf, k_X2_endOf, dm_cm, upd, vp_updL, dm_ui_1, dm_ui_2, dm_ul_1, dm_ul_2, sC_0, sC_1, sC_2, sC_3, sC_4, sC_5, sC_6, sC_7, sC_8, sC_9, sC_10, sC_11, sC_12, sC_13, sC_14, sC_15, sC_16, sC_17, sC_18, sC_19, sC_20, sC_21, sC_22, sC_23, sC_24, sC_25, sC_26, sC_27, sC_28, sC_29, sC_30, sC_31, sC_32, sC_33, sC_34, sC_35, sC_36, sC_37, sC_38, sC_39, sC_40, sC_41, sC_42, sC_43, sC_44, sC_45, sC_46, sC_47, sC_48, sC_49, sC_50, sC_51]
    refine ⟨h.1, fun q => ⟨h.1, ?_⟩, fun q => ⟨h.2.1 q, ?_⟩⟩
    · have := h.2.2; rw [if_neg (dm_i_lt.mpr q)] at this; exact this
    · have := h.2.2; rw [if_pos q] at this; exact this
  · exact h.elim
set_option maxRecDepth 100000 in
theorem t_X2_endOf (l : Launch) (D : va_G) (cA : Nat → ClassId) (ad : Nat → Nat) : dm_Met l D dm_cl cA ad shC yX2_endOf (Cond.code yX2_endOf cX2_endOf 3 (dm_rt 2) :: dm_tt) ({ frames := 0, cells := 0, slots := 0, locals := 0 } : Room) sp_X2_endOf := dm_meth (own := RX2) (X := x_X2_endOf) (Sp := k_X2_endOf) (prog := p_X2_endOf) (by decide +kernel) rfl rfl (dm_FO_s ffX2 [(26, 2, 4), (29, 2, 5), (32, 2, 6)] rfl dm_hT (by decide +kernel)) (dm_IO_s ifX2 jfX2 [] [] rfl rfl dm_hT (by decide +kernel) (by decide +kernel)) soC (dm_MO_of (fun _ h => absurd h List.not_mem_nil)) v_X2_endOf u_X2_endOf
def sp_X2_empty (As : List Value) (u : dm_S) (Q : Option Value → dm_S → Prop) : Prop := match As with
  | [.ref 1] => Q none (dm_ui (dm_ui (dm_ui u 1 8 0) 1 9 0) 1 10 0)
  | _ => False
def p_X2_empty : List dm_I := [(0, .aload_n 0, 1, [0]), (1, .iconst 0, 1, []), (2, .putfield 38, 3, []), (5, .aload_n 0, 1, [0]), (6, .iconst 0, 1, []), (7, .putfield 42, 3, []), (10, .aload_n 0, 1, [0]), (11, .iconst 0, 1, []), (12, .putfield 59, 3, []), (15, .return_, 1, [])]
set_option maxRecDepth 100000 in
theorem v_X2_empty : p_X2_empty.all (dm_vb cX2_empty) = true := by decide +kernel
def k_X2_empty : dm_Sp := fun a => match a with
  | _ => fun _ _ _ => False
def x_X2_empty : dm_X := dm_mk [(38, 2, 8), (42, 2, 9), (59, 2, 10)] [] [] [] 0
set_option maxRecDepth 100000 in
set_option maxHeartbeats 400000 in
theorem u_X2_empty : dm_Pure shC x_X2_empty k_X2_empty p_X2_empty 1 sp_X2_empty := by
  intro As u Qp h
  unfold sp_X2_empty at h
  split at h
  · refine ⟨Nat.le_of_ble_eq_true rfl, fun G Wp hW0 hW1 hG => ?_⟩
    apply hG (fun _ => false) 11
    simp (config := { maxSteps := 2000000 }) [hW0, hW1, dm_fn, dm_fd, dm_x, dm_L0, dm_la, dm_t1, dm_sw, List.headD, dm_ic, dm_mk, dm_s1, dm_s2, dm_clr, dm_cs, dm_cc, dm_nb0, dm_nb1, Value.category, List.lookup, p_X2_empty, x_X2_empty, k_X2_empty, dm_cm, upd, vp_updL, dm_ui_1, dm_ui_2, dm_ul_1, dm_ul_2, sC_0, sC_1, sC_2, sC_3, sC_4, sC_5, sC_6, sC_7, sC_8, sC_9, sC_10, sC_11, sC_12, sC_13, sC_14, sC_15, sC_16, sC_17, sC_18, sC_19, sC_20, sC_21, sC_22, sC_23, sC_24, sC_25, sC_26, sC_27, sC_28, sC_29, sC_30, sC_31, sC_32, sC_33, sC_34, sC_35, sC_36, sC_37, sC_38, sC_39, sC_40, sC_41, sC_42, sC_43, sC_44, sC_45, sC_46, sC_47, sC_48, sC_49, sC_50, sC_51]
    exact h
  · exact h.elim
set_option maxRecDepth 100000 in
theorem t_X2_empty (l : Launch) (D : va_G) (cA : Nat → ClassId) (ad : Nat → Nat) : dm_Met l D dm_cl cA ad shC yX2_empty (Cond.code yX2_empty cX2_empty 1 (dm_rt 0) :: dm_tt) ({ frames := 0, cells := 0, slots := 0, locals := 0 } : Room) sp_X2_empty := dm_meth (own := RX2) (X := x_X2_empty) (Sp := k_X2_empty) (prog := p_X2_empty) (by decide +kernel) rfl rfl (dm_FO_s ffX2 [(38, 2, 8), (42, 2, 9), (59, 2, 10)] rfl dm_hT (by decide +kernel)) (dm_IO_s ifX2 jfX2 [] [] rfl rfl dm_hT (by decide +kernel) (by decide +kernel)) soC (dm_MO_of (fun _ h => absurd h List.not_mem_nil)) v_X2_empty u_X2_empty
def sp_X3_has (As : List Value) (u : dm_S) (Q : Option Value → dm_S → Prop) : Prop := match As with
  | [.ref 10, .int x] => Q (some (.int (if 0 ≤ x ∧ x < u.1 10 3 then 1 else 0))) u
  | _ => False
def p_X3_has : List dm_I := [(0, .iload_n 1, 1, [1]), (1, .ifCond .lt 15, 3, [16]), (4, .iload_n 1, 1, [1]), (5, .aload_n 0, 1, [0]), (6, .getfield 22, 3, []), (9, .if_icmp .ge 7, 3, [16]), (12, .iconst 1, 1, []), (13, .goto 4, 3, [17]), (16, .iconst 0, 1, []), (17, .ireturn, 1, [])]
set_option maxRecDepth 100000 in
theorem v_X3_has : p_X3_has.all (dm_vb cX3_has) = true := by decide +kernel
def k_X3_has : dm_Sp := fun a => match a with
  | _ => fun _ _ _ => False
def x_X3_has : dm_X := dm_mk [(22, 3, 3)] [] [] [] 3
set_option maxRecDepth 100000 in
set_option maxHeartbeats 400000 in
theorem u_X3_has : dm_Pure shC x_X3_has k_X3_has p_X3_has 2 sp_X3_has := by
  intro As u Qp h
  unfold sp_X3_has at h
  split at h
  · refine ⟨Nat.le_of_ble_eq_true rfl, fun G Wp hW0 hW1 hG => ?_⟩
    apply hG (fun _ => false) 11
    simp (config := { maxSteps := 2000000 }) [hW0, hW1, dm_fn, dm_fd, dm_x, dm_L0, dm_la, dm_t1, dm_sw, List.headD, dm_ic, dm_mk, dm_s1, dm_s2, dm_clr, dm_cs, dm_cc, dm_nb0, dm_nb1, Value.category, List.lookup, p_X3_has, x_X3_has, k_X3_has, dm_cm, upd, vp_updL, dm_ui_1, dm_ui_2, dm_ul_1, dm_ul_2, sC_0, sC_1, sC_2, sC_3, sC_4, sC_5, sC_6, sC_7, sC_8, sC_9, sC_10, sC_11, sC_12, sC_13, sC_14, sC_15, sC_16, sC_17, sC_18, sC_19, sC_20, sC_21, sC_22, sC_23, sC_24, sC_25, sC_26, sC_27, sC_28, sC_29, sC_30, sC_31, sC_32, sC_33, sC_34, sC_35, sC_36, sC_37, sC_38, sC_39, sC_40, sC_41, sC_42, sC_43, sC_44, sC_45, sC_46, sC_47, sC_48, sC_49, sC_50, sC_51]
    refine ⟨fun q => ?_, fun q => ⟨fun q2 => ?_, fun q2 => ?_⟩⟩
    · rw [if_neg (fun z => dm_i_le.mpr q z.1)] at h; exact h
    · rw [if_neg (fun z => dm_i_lt.mpr q2 z.2)] at h; exact h
    · rw [if_pos ⟨q, q2⟩] at h; exact h
  · exact h.elim
set_option maxRecDepth 100000 in
theorem t_X3_has (l : Launch) (D : va_G) (cA : Nat → ClassId) (ad : Nat → Nat) : dm_Met l D dm_cl cA ad shC yX3_has (Cond.code yX3_has cX3_has 2 (dm_rt 3) :: dm_tt) ({ frames := 0, cells := 0, slots := 0, locals := 0 } : Room) sp_X3_has := dm_meth (own := RX3) (X := x_X3_has) (Sp := k_X3_has) (prog := p_X3_has) (by decide +kernel) rfl rfl (dm_FO_s ffX3 [(22, 3, 3)] rfl dm_hT (by decide +kernel)) (dm_IO_s ifX3 jfX3 [] [] rfl rfl dm_hT (by decide +kernel) (by decide +kernel)) soC (dm_MO_of (fun _ h => absurd h List.not_mem_nil)) v_X3_has u_X3_has
def sp_X3_allow (As : List Value) (u : dm_S) (Q : Option Value → dm_S → Prop) : Prop := match As with
  | [.ref 10, .int a, .int b, .long d] => vp_in (a * 8 + b) 64 ∧ Q none (dm_ui (dm_ul u 49 (a * 8 + b).toNatClampNeg d) 10 4 0)
  | _ => False
def p_X3_allow : List dm_I := [(0, .aload_n 0, 1, [0]), (1, .getfield 9, 3, []), (4, .iload_n 1, 1, [1]), (5, .bipush 8, 2, []), (7, .imul, 1, []), (8, .iload_n 2, 1, [2]), (9, .iadd, 1, []), (10, .lload_n 3, 1, [3]), (11, .lastore, 1, []), (12, .aload_n 0, 1, [0]), (13, .iconst 0, 1, []), (14, .putfield 26, 3, []), (17, .return_, 1, [])]
set_option maxRecDepth 100000 in
theorem v_X3_allow : p_X3_allow.all (dm_vb cX3_allow) = true := by decide +kernel
def k_X3_allow : dm_Sp := fun a => match a with
  | _ => fun _ _ _ => False
def x_X3_allow : dm_X := dm_mk [(9, 3, 0), (26, 3, 4)] [] [] [] 0
set_option maxRecDepth 100000 in
set_option maxHeartbeats 400000 in
theorem u_X3_allow : dm_Pure shC x_X3_allow k_X3_allow p_X3_allow 5 sp_X3_allow := by
  intro As u Qp h
  unfold sp_X3_allow at h
  split at h
  · refine ⟨Nat.le_of_ble_eq_true rfl, fun G Wp hW0 hW1 hG => ?_⟩
    apply hG (fun _ => false) 14
    simp (config := { maxSteps := 2000000 }) [hW0, hW1, dm_fn, dm_fd, dm_x, dm_L0, dm_la, dm_t1, dm_sw, List.headD, dm_ic, dm_mk, dm_s1, dm_s2, dm_clr, dm_cs, dm_cc, dm_nb0, dm_nb1, Value.category, List.lookup, p_X3_allow, x_X3_allow, k_X3_allow, dm_cm, upd, vp_updL, dm_ui_1, dm_ui_2, dm_ul_1, dm_ul_2, sC_0, sC_1, sC_2, sC_3, sC_4, sC_5, sC_6, sC_7, sC_8, sC_9, sC_10, sC_11, sC_12, sC_13, sC_14, sC_15, sC_16, sC_17, sC_18, sC_19, sC_20, sC_21, sC_22, sC_23, sC_24, sC_25, sC_26, sC_27, sC_28, sC_29, sC_30, sC_31, sC_32, sC_33, sC_34, sC_35, sC_36, sC_37, sC_38, sC_39, sC_40, sC_41, sC_42, sC_43, sC_44, sC_45, sC_46, sC_47, sC_48, sC_49, sC_50, sC_51]
    exact h
  · exact h.elim
set_option maxRecDepth 100000 in
theorem t_X3_allow (l : Launch) (D : va_G) (cA : Nat → ClassId) (ad : Nat → Nat) : dm_Met l D dm_cl cA ad shC yX3_allow (Cond.code yX3_allow cX3_allow 5 (dm_rt 0) :: dm_tt) ({ frames := 0, cells := 0, slots := 0, locals := 0 } : Room) sp_X3_allow := dm_meth (own := RX3) (X := x_X3_allow) (Sp := k_X3_allow) (prog := p_X3_allow) (by decide +kernel) rfl rfl (dm_FO_s ffX3 [(9, 3, 0), (26, 3, 4)] rfl dm_hT (by decide +kernel)) (dm_IO_s ifX3 jfX3 [] [] rfl rfl dm_hT (by decide +kernel) (by decide +kernel)) soC (dm_MO_of (fun _ h => absurd h List.not_mem_nil)) v_X3_allow u_X3_allow
/-! ways by their numbers: 2 * lane along, 2 * lane + 1 against -/
theorem dm_w1 {w : Nat} (h : w < 640) : (nI w &&& 1 = 0) ↔ w % 2 = 0 := by
  rw [pk_andN (m := 1) (by omega) 1 (by decide), show (0 : Int32) = nI 0 from rfl, nI_eq (by omega) (by omega)]
theorem dm_w2 {w : Nat} (h : w < 640) : nI w >>> ((1 : Int32) &&& 31) = nI (w / 2) := pk_shrN (by omega) _ 1 (by decide)
theorem dm_w3 {w : Nat} (h : w < 640) : vp_in (nI (w / 2)) 320 := vp_in_nI (by omega) (by omega)
theorem dm_w4 {w : Nat} (h : w < 640) : (nI (w / 2)).toNatClampNeg = w / 2 := nI_clamp (by omega)
def lw_b (u : dm_S) (w : Nat) : Int32 := if w % 2 = 0 then u.1 20 (w / 2) else u.1 21 (w / 2)
def lw_e (u : dm_S) (w : Nat) : Int32 := if w % 2 = 0 then u.1 21 (w / 2) else u.1 20 (w / 2)
def lw_r (u : dm_S) (w : Nat) : Int64 := if w % 2 = 0 then u.2 23 (w / 2) else -u.2 23 (w / 2)
def lw_m (u : dm_S) (w : Nat) : Int64 := if w % 2 = 0 then u.2 22 (w / 2) - u.2 24 (w / 2) else u.2 24 (w / 2)
def sp_X1_beginOf (As : List Value) (u : dm_S) (Q : Option Value → dm_S → Prop) : Prop := match As with
  | [.ref 2, .int x] => ∃ w : Nat, w < 640 ∧ x = nI w ∧ Q (some (.int (lw_b u w))) u
  | _ => False
def p_X1_beginOf : List dm_I := [(0, .iload_n 1, 1, [1]), (1, .iconst 1, 1, []), (2, .iand, 1, []), (3, .ifCond .ne 14, 3, [17]), (6, .aload_n 0, 1, [0]), (7, .getfield 15, 3, []), (10, .iload_n 1, 1, [1]), (11, .iconst 1, 1, []), (12, .ishr, 1, []), (13, .iaload, 1, []), (14, .goto 11, 3, [25]), (17, .aload_n 0, 1, [0]), (18, .getfield 18, 3, []), (21, .iload_n 1, 1, [1]), (22, .iconst 1, 1, []), (23, .ishr, 1, []), (24, .iaload, 1, []), (25, .ireturn, 1, [])]
set_option maxRecDepth 100000 in
theorem v_X1_beginOf : p_X1_beginOf.all (dm_vb cX1_beginOf) = true := by decide +kernel
def k_X1_beginOf : dm_Sp := fun a => match a with
  | _ => fun _ _ _ => False
def x_X1_beginOf : dm_X := dm_mk [(15, 1, 2), (18, 1, 3)] [] [] [] 1
set_option maxRecDepth 100000 in
set_option maxHeartbeats 400000 in
theorem u_X1_beginOf : dm_Pure shC x_X1_beginOf k_X1_beginOf p_X1_beginOf 2 sp_X1_beginOf := by
  intro As u Qp h
  unfold sp_X1_beginOf at h
  split at h
  · refine ⟨Nat.le_of_ble_eq_true rfl, fun G Wp hW0 hW1 hG => ?_⟩
    apply hG (fun _ => false) 19
    simp (config := { maxSteps := 2000000 }) [hW0, hW1, dm_fn, dm_fd, dm_x, dm_L0, dm_la, dm_t1, dm_sw, List.headD, dm_ic, dm_mk, dm_s1, dm_s2, dm_clr, dm_cs, dm_cc, dm_nb0, dm_nb1, Value.category, List.lookup, p_X1_beginOf, x_X1_beginOf, k_X1_beginOf, dm_cm, upd, vp_updL, dm_ui_1, dm_ui_2, dm_ul_1, dm_ul_2, sC_0, sC_1, sC_2, sC_3, sC_4, sC_5, sC_6, sC_7, sC_8, sC_9, sC_10, sC_11, sC_12, sC_13, sC_14, sC_15, sC_16, sC_17, sC_18, sC_19, sC_20, sC_21, sC_22, sC_23, sC_24, sC_25, sC_26, sC_27, sC_28, sC_29, sC_30, sC_31, sC_32, sC_33, sC_34, sC_35, sC_36, sC_37, sC_38, sC_39, sC_40, sC_41, sC_42, sC_43, sC_44, sC_45, sC_46, sC_47, sC_48, sC_49, sC_50, sC_51]
    obtain ⟨w, hw, rfl, h⟩ := h
    simp only [dm_w1 hw, dm_w2 hw, dm_w4 hw]
    refine ⟨fun q => ⟨dm_w3 hw, ?_⟩, fun q => ⟨dm_w3 hw, ?_⟩⟩
    · rw [lw_b, if_neg q] at h; exact h
    · rw [lw_b, if_pos q] at h; exact h
  · exact h.elim
set_option maxRecDepth 100000 in
theorem t_X1_beginOf (l : Launch) (D : va_G) (cA : Nat → ClassId) (ad : Nat → Nat) : dm_Met l D dm_cl cA ad shC yX1_beginOf (Cond.code yX1_beginOf cX1_beginOf 2 (dm_rt 1) :: dm_tt) ({ frames := 0, cells := 0, slots := 0, locals := 0 } : Room) sp_X1_beginOf := dm_meth (own := RX1) (X := x_X1_beginOf) (Sp := k_X1_beginOf) (prog := p_X1_beginOf) (by decide +kernel) rfl rfl (dm_FO_s ffX1 [(15, 1, 2), (18, 1, 3)] rfl dm_hT (by decide +kernel)) (dm_IO_s ifX1 jfX1 [] [] rfl rfl dm_hT (by decide +kernel) (by decide +kernel)) soC (dm_MO_of (fun _ h => absurd h List.not_mem_nil)) v_X1_beginOf u_X1_beginOf
def sp_X1_endOf (As : List Value) (u : dm_S) (Q : Option Value → dm_S → Prop) : Prop := match As with
  | [.ref 2, .int x] => ∃ w : Nat, w < 640 ∧ x = nI w ∧ Q (some (.int (lw_e u w))) u
  | _ => False
def p_X1_endOf : List dm_I := [(0, .iload_n 1, 1, [1]), (1, .iconst 1, 1, []), (2, .iand, 1, []), (3, .ifCond .ne 14, 3, [17]), (6, .aload_n 0, 1, [0]), (7, .getfield 18, 3, []), (10, .iload_n 1, 1, [1]), (11, .iconst 1, 1, []), (12, .ishr, 1, []), (13, .iaload, 1, []), (14, .goto 11, 3, [25]), (17, .aload_n 0, 1, [0]), (18, .getfield 15, 3, []), (21, .iload_n 1, 1, [1]), (22, .iconst 1, 1, []), (23, .ishr, 1, []), (24, .iaload, 1, []), (25, .ireturn, 1, [])]
set_option maxRecDepth 100000 in
theorem v_X1_endOf : p_X1_endOf.all (dm_vb cX1_endOf) = true := by decide +kernel
def k_X1_endOf : dm_Sp := fun a => match a with
  | _ => fun _ _ _ => False
def x_X1_endOf : dm_X := dm_mk [(15, 1, 2), (18, 1, 3)] [] [] [] 1
set_option maxRecDepth 100000 in
set_option maxHeartbeats 400000 in
theorem u_X1_endOf : dm_Pure shC x_X1_endOf k_X1_endOf p_X1_endOf 2 sp_X1_endOf := by
  intro As u Qp h
  unfold sp_X1_endOf at h
  split at h
  · refine ⟨Nat.le_of_ble_eq_true rfl, fun G Wp hW0 hW1 hG => ?_⟩
    apply hG (fun _ => false) 19
    simp (config := { maxSteps := 2000000 }) [hW0, hW1, dm_fn, dm_fd, dm_x, dm_L0, dm_la, dm_t1, dm_sw, List.headD, dm_ic, dm_mk, dm_s1, dm_s2, dm_clr, dm_cs, dm_cc, dm_nb0, dm_nb1, Value.category, List.lookup, p_X1_endOf, x_X1_endOf, k_X1_endOf, dm_cm, upd, vp_updL, dm_ui_1, dm_ui_2, dm_ul_1, dm_ul_2, sC_0, sC_1, sC_2, sC_3, sC_4, sC_5, sC_6, sC_7, sC_8, sC_9, sC_10, sC_11, sC_12, sC_13, sC_14, sC_15, sC_16, sC_17, sC_18, sC_19, sC_20, sC_21, sC_22, sC_23, sC_24, sC_25, sC_26, sC_27, sC_28, sC_29, sC_30, sC_31, sC_32, sC_33, sC_34, sC_35, sC_36, sC_37, sC_38, sC_39, sC_40, sC_41, sC_42, sC_43, sC_44, sC_45, sC_46, sC_47, sC_48, sC_49, sC_50, sC_51]
    obtain ⟨w, hw, rfl, h⟩ := h
    simp only [dm_w1 hw, dm_w2 hw, dm_w4 hw]
    refine ⟨fun q => ⟨dm_w3 hw, ?_⟩, fun q => ⟨dm_w3 hw, ?_⟩⟩
    · rw [lw_e, if_neg q] at h; exact h
    · rw [lw_e, if_pos q] at h; exact h
  · exact h.elim
set_option maxRecDepth 100000 in
theorem t_X1_endOf (l : Launch) (D : va_G) (cA : Nat → ClassId) (ad : Nat → Nat) : dm_Met l D dm_cl cA ad shC yX1_endOf (Cond.code yX1_endOf cX1_endOf 2 (dm_rt 1) :: dm_tt) ({ frames := 0, cells := 0, slots := 0, locals := 0 } : Room) sp_X1_endOf := dm_meth (own := RX1) (X := x_X1_endOf) (Sp := k_X1_endOf) (prog := p_X1_endOf) (by decide +kernel) rfl rfl (dm_FO_s ffX1 [(15, 1, 2), (18, 1, 3)] rfl dm_hT (by decide +kernel)) (dm_IO_s ifX1 jfX1 [] [] rfl rfl dm_hT (by decide +kernel) (by decide +kernel)) soC (dm_MO_of (fun _ h => absurd h List.not_mem_nil)) v_X1_endOf u_X1_endOf
def sp_X1_rateOf (As : List Value) (u : dm_S) (Q : Option Value → dm_S → Prop) : Prop := match As with
  | [.ref 2, .int x] => ∃ w : Nat, w < 640 ∧ x = nI w ∧ Q (some (.long (lw_r u w))) u
  | _ => False
def p_X1_rateOf : List dm_I := [(0, .iload_n 1, 1, [1]), (1, .iconst 1, 1, []), (2, .iand, 1, []), (3, .ifCond .ne 14, 3, [17]), (6, .aload_n 0, 1, [0]), (7, .getfield 25, 3, []), (10, .iload_n 1, 1, [1]), (11, .iconst 1, 1, []), (12, .ishr, 1, []), (13, .laload, 1, []), (14, .goto 12, 3, [26]), (17, .aload_n 0, 1, [0]), (18, .getfield 25, 3, []), (21, .iload_n 1, 1, [1]), (22, .iconst 1, 1, []), (23, .ishr, 1, []), (24, .laload, 1, []), (25, .lneg, 1, []), (26, .lreturn, 1, [])]
set_option maxRecDepth 100000 in
theorem v_X1_rateOf : p_X1_rateOf.all (dm_vb cX1_rateOf) = true := by decide +kernel
def k_X1_rateOf : dm_Sp := fun a => match a with
  | _ => fun _ _ _ => False
def x_X1_rateOf : dm_X := dm_mk [(25, 1, 5)] [] [] [] 2
set_option maxRecDepth 100000 in
set_option maxHeartbeats 400000 in
theorem u_X1_rateOf : dm_Pure shC x_X1_rateOf k_X1_rateOf p_X1_rateOf 2 sp_X1_rateOf := by
  intro As u Qp h
  unfold sp_X1_rateOf at h
  split at h
  · refine ⟨Nat.le_of_ble_eq_true rfl, fun G Wp hW0 hW1 hG => ?_⟩
    apply hG (fun _ => false) 20
    simp (config := { maxSteps := 2000000 }) [hW0, hW1, dm_fn, dm_fd, dm_x, dm_L0, dm_la, dm_t1, dm_sw, List.headD, dm_ic, dm_mk, dm_s1, dm_s2, dm_clr, dm_cs, dm_cc, dm_nb0, dm_nb1, Value.category, List.lookup, p_X1_rateOf, x_X1_rateOf, k_X1_rateOf, dm_cm, upd, vp_updL, dm_ui_1, dm_ui_2, dm_ul_1, dm_ul_2, sC_0, sC_1, sC_2, sC_3, sC_4, sC_5, sC_6, sC_7, sC_8, sC_9, sC_10, sC_11, sC_12, sC_13, sC_14, sC_15, sC_16, sC_17, sC_18, sC_19, sC_20, sC_21, sC_22, sC_23, sC_24, sC_25, sC_26, sC_27, sC_28, sC_29, sC_30, sC_31, sC_32, sC_33, sC_34, sC_35, sC_36, sC_37, sC_38, sC_39, sC_40, sC_41, sC_42, sC_43, sC_44, sC_45, sC_46, sC_47, sC_48, sC_49, sC_50, sC_51]
    obtain ⟨w, hw, rfl, h⟩ := h
    simp only [dm_w1 hw, dm_w2 hw, dm_w4 hw]
    refine ⟨fun q => ⟨dm_w3 hw, ?_⟩, fun q => ⟨dm_w3 hw, ?_⟩⟩
    · rw [lw_r, if_neg q] at h; exact h
    · rw [lw_r, if_pos q] at h; exact h
  · exact h.elim
set_option maxRecDepth 100000 in
theorem t_X1_rateOf (l : Launch) (D : va_G) (cA : Nat → ClassId) (ad : Nat → Nat) : dm_Met l D dm_cl cA ad shC yX1_rateOf (Cond.code yX1_rateOf cX1_rateOf 2 (dm_rt 2) :: dm_tt) ({ frames := 0, cells := 0, slots := 0, locals := 0 } : Room) sp_X1_rateOf := dm_meth (own := RX1) (X := x_X1_rateOf) (Sp := k_X1_rateOf) (prog := p_X1_rateOf) (by decide +kernel) rfl rfl (dm_FO_s ffX1 [(25, 1, 5)] rfl dm_hT (by decide +kernel)) (dm_IO_s ifX1 jfX1 [] [] rfl rfl dm_hT (by decide +kernel) (by decide +kernel)) soC (dm_MO_of (fun _ h => absurd h List.not_mem_nil)) v_X1_rateOf u_X1_rateOf
def sp_X1_roomOf (As : List Value) (u : dm_S) (Q : Option Value → dm_S → Prop) : Prop := match As with
  | [.ref 2, .int x] => ∃ w : Nat, w < 640 ∧ x = nI w ∧ Q (some (.long (lw_m u w))) u
  | _ => False
def p_X1_roomOf : List dm_I := [(0, .iload_n 1, 1, [1]), (1, .iconst 1, 1, []), (2, .ishr, 1, []), (3, .istore_n 2, 1, [2]), (4, .iload_n 1, 1, [1]), (5, .iconst 1, 1, []), (6, .iand, 1, []), (7, .ifCond .ne 19, 3, [26]), (10, .aload_n 0, 1, [0]), (11, .getfield 21, 3, []), (14, .iload_n 2, 1, [2]), (15, .laload, 1, []), (16, .aload_n 0, 1, [0]), (17, .getfield 28, 3, []), (20, .iload_n 2, 1, [2]), (21, .laload, 1, []), (22, .lsub, 1, []), (23, .goto 9, 3, [32]), (26, .aload_n 0, 1, [0]), (27, .getfield 28, 3, []), (30, .iload_n 2, 1, [2]), (31, .laload, 1, []), (32, .lreturn, 1, [])]
set_option maxRecDepth 100000 in
theorem v_X1_roomOf : p_X1_roomOf.all (dm_vb cX1_roomOf) = true := by decide +kernel
def k_X1_roomOf : dm_Sp := fun a => match a with
  | _ => fun _ _ _ => False
def x_X1_roomOf : dm_X := dm_mk [(21, 1, 4), (28, 1, 6)] [] [] [] 2
set_option maxRecDepth 100000 in
set_option maxHeartbeats 400000 in
theorem u_X1_roomOf : dm_Pure shC x_X1_roomOf k_X1_roomOf p_X1_roomOf 3 sp_X1_roomOf := by
  intro As u Qp h
  unfold sp_X1_roomOf at h
  split at h
  · refine ⟨Nat.le_of_ble_eq_true rfl, fun G Wp hW0 hW1 hG => ?_⟩
    apply hG (fun _ => false) 24
    simp (config := { maxSteps := 2000000 }) [hW0, hW1, dm_fn, dm_fd, dm_x, dm_L0, dm_la, dm_t1, dm_sw, List.headD, dm_ic, dm_mk, dm_s1, dm_s2, dm_clr, dm_cs, dm_cc, dm_nb0, dm_nb1, Value.category, List.lookup, p_X1_roomOf, x_X1_roomOf, k_X1_roomOf, dm_cm, upd, vp_updL, dm_ui_1, dm_ui_2, dm_ul_1, dm_ul_2, sC_0, sC_1, sC_2, sC_3, sC_4, sC_5, sC_6, sC_7, sC_8, sC_9, sC_10, sC_11, sC_12, sC_13, sC_14, sC_15, sC_16, sC_17, sC_18, sC_19, sC_20, sC_21, sC_22, sC_23, sC_24, sC_25, sC_26, sC_27, sC_28, sC_29, sC_30, sC_31, sC_32, sC_33, sC_34, sC_35, sC_36, sC_37, sC_38, sC_39, sC_40, sC_41, sC_42, sC_43, sC_44, sC_45, sC_46, sC_47, sC_48, sC_49, sC_50, sC_51]
    obtain ⟨w, hw, rfl, h⟩ := h
    simp only [dm_w1 hw, dm_w2 hw, dm_w4 hw]
    refine ⟨fun q => ⟨dm_w3 hw, ?_⟩, fun q => ⟨dm_w3 hw, ?_⟩⟩
    · rw [lw_m, if_neg q] at h; exact h
    · rw [lw_m, if_pos q] at h; exact h
  · exact h.elim
set_option maxRecDepth 100000 in
theorem t_X1_roomOf (l : Launch) (D : va_G) (cA : Nat → ClassId) (ad : Nat → Nat) : dm_Met l D dm_cl cA ad shC yX1_roomOf (Cond.code yX1_roomOf cX1_roomOf 3 (dm_rt 2) :: dm_tt) ({ frames := 0, cells := 0, slots := 0, locals := 0 } : Room) sp_X1_roomOf := dm_meth (own := RX1) (X := x_X1_roomOf) (Sp := k_X1_roomOf) (prog := p_X1_roomOf) (by decide +kernel) rfl rfl (dm_FO_s ffX1 [(21, 1, 4), (28, 1, 6)] rfl dm_hT (by decide +kernel)) (dm_IO_s ifX1 jfX1 [] [] rfl rfl dm_hT (by decide +kernel) (by decide +kernel)) soC (dm_MO_of (fun _ h => absurd h List.not_mem_nil)) v_X1_roomOf u_X1_roomOf
end
section
/-! ===== the class's calls that only tell or ask ===== -/
def sp_X10_isUsual (As : List Value) (u : dm_S) (Q : Option Value → dm_S → Prop) : Prop := match As with
  | [.long a] => Q (some (.int (if -1000000 ≤ a ∧ a ≤ 1000000 then 1 else 0))) u
  | _ => False
def p_X10_isUsual : List dm_I := [(0, .lload_n 0, 1, [0]), (1, .ldc2_w 220, 3, []), (4, .lcmp, 1, []), (5, .ifCond .lt 15, 3, [20]), (8, .lload_n 0, 1, [0]), (9, .ldc2_w 116, 3, []), (12, .lcmp, 1, []), (13, .ifCond .gt 7, 3, [20]), (16, .iconst 1, 1, []), (17, .goto 4, 3, [21]), (20, .iconst 0, 1, []), (21, .ireturn, 1, [])]
set_option maxRecDepth 100000 in
theorem v_X10_isUsual : p_X10_isUsual.all (dm_vb cX10_isUsual) = true := by decide +kernel
def k_X10_isUsual : dm_Sp := fun a => match a with
  | _ => fun _ _ _ => False
def x_X10_isUsual : dm_X := dm_mk [] [] [(116, 1000000), (220, -1000000)] [] 3
set_option maxRecDepth 100000 in
set_option maxHeartbeats 400000 in
theorem u_X10_isUsual : dm_Pure shC x_X10_isUsual k_X10_isUsual p_X10_isUsual 2 sp_X10_isUsual := by
  intro As u Qp h
  unfold sp_X10_isUsual at h
  split at h
  · refine ⟨Nat.le_of_ble_eq_true rfl, fun G Wp hW0 hW1 hG => ?_⟩
    apply hG (fun _ => false) 13
    simp (config := { maxSteps := 2000000 }) [hW0, hW1, dm_fn, dm_fd, dm_x, dm_L0, dm_la, dm_t1, dm_sw, List.headD, dm_ic, dm_mk, dm_s1, dm_s2, dm_clr, dm_cs, dm_cc, dm_nb0, dm_nb1, Value.category, List.lookup, p_X10_isUsual, x_X10_isUsual, k_X10_isUsual, dm_cm, upd, vp_updL, dm_ui_1, dm_ui_2, dm_ul_1, dm_ul_2, sC_0, sC_1, sC_2, sC_3, sC_4, sC_5, sC_6, sC_7, sC_8, sC_9, sC_10, sC_11, sC_12, sC_13, sC_14, sC_15, sC_16, sC_17, sC_18, sC_19, sC_20, sC_21, sC_22, sC_23, sC_24, sC_25, sC_26, sC_27, sC_28, sC_29, sC_30, sC_31, sC_32, sC_33, sC_34, sC_35, sC_36, sC_37, sC_38, sC_39, sC_40, sC_41, sC_42, sC_43, sC_44, sC_45, sC_46, sC_47, sC_48, sC_49, sC_50, sC_51]
    refine ⟨fun q => ?_, fun q => ⟨fun q2 => ?_, fun q2 => ?_⟩⟩
    · rw [if_neg (fun z => dm_l_le.mpr q z.1)] at h; exact h
    · rw [if_neg (fun z => dm_l_le.mpr q2 z.2)] at h; exact h
    · rw [if_pos ⟨q, q2⟩] at h; exact h
  · exact h.elim
set_option maxRecDepth 100000 in
theorem t_X10_isUsual (l : Launch) (D : va_G) (cA : Nat → ClassId) (ad : Nat → Nat) : dm_Met l D dm_cl cA ad shC yX10_isUsual (Cond.code yX10_isUsual cX10_isUsual 2 (dm_rt 3) :: dm_tt) ({ frames := 0, cells := 0, slots := 0, locals := 0 } : Room) sp_X10_isUsual := dm_meth (own := RX10) (X := x_X10_isUsual) (Sp := k_X10_isUsual) (prog := p_X10_isUsual) (by decide +kernel) rfl rfl (dm_FO_s ffX10 [] rfl dm_hT (by decide +kernel)) (dm_IO_s ifX10 jfX10 [] [(116, 1000000), (220, -1000000)] rfl rfl dm_hT (by decide +kernel) (by decide +kernel)) soC (dm_MO_of (fun _ h => absurd h List.not_mem_nil)) v_X10_isUsual u_X10_isUsual
/-- what is told of a run is gone: answer, ring, set -/
abbrev dm_fg (u : dm_S) : dm_S := dm_ui (dm_ui (dm_ui u 0 10 (-1)) 8 3 0) 9 2 0
def sp_X10_forget (As : List Value) (u : dm_S) (Q : Option Value → dm_S → Prop) : Prop := match As with
  | [.ref 0] => Q none (dm_fg u)
  | _ => False
def p_X10_forget : List dm_I := [(0, .aload_n 0, 1, [0]), (1, .iconst (-1), 1, []), (2, .putfield 91, 3, []), (5, .aload_n 0, 1, [0]), (6, .getfield 73, 3, []), (9, .iconst 0, 1, []), (10, .putfield 167, 3, []), (13, .aload_n 0, 1, [0]), (14, .getfield 80, 3, []), (17, .iconst 0, 1, []), (18, .putfield 173, 3, []), (21, .return_, 1, [])]
set_option maxRecDepth 100000 in
theorem v_X10_forget : p_X10_forget.all (dm_vb cX10_forget) = true := by decide +kernel
def k_X10_forget : dm_Sp := fun a => match a with
  | _ => fun _ _ _ => False
def x_X10_forget : dm_X := dm_mk [(73, 10, 7), (80, 10, 8), (91, 10, 10), (167, 0, 3), (173, 8, 2)] [] [] [] 0
set_option maxRecDepth 100000 in
set_option maxHeartbeats 400000 in
theorem u_X10_forget : dm_Pure shC x_X10_forget k_X10_forget p_X10_forget 1 sp_X10_forget := by
  intro As u Qp h
  unfold sp_X10_forget at h
  split at h
  · refine ⟨Nat.le_of_ble_eq_true rfl, fun G Wp hW0 hW1 hG => ?_⟩
    apply hG (fun _ => false) 13
    simp (config := { maxSteps := 2000000 }) [hW0, hW1, dm_fn, dm_fd, dm_x, dm_L0, dm_la, dm_t1, dm_sw, List.headD, dm_ic, dm_mk, dm_s1, dm_s2, dm_clr, dm_cs, dm_cc, dm_nb0, dm_nb1, Value.category, List.lookup, p_X10_forget, x_X10_forget, k_X10_forget, dm_cm, upd, vp_updL, dm_ui_1, dm_ui_2, dm_ul_1, dm_ul_2, sC_0, sC_1, sC_2, sC_3, sC_4, sC_5, sC_6, sC_7, sC_8, sC_9, sC_10, sC_11, sC_12, sC_13, sC_14, sC_15, sC_16, sC_17, sC_18, sC_19, sC_20, sC_21, sC_22, sC_23, sC_24, sC_25, sC_26, sC_27, sC_28, sC_29, sC_30, sC_31, sC_32, sC_33, sC_34, sC_35, sC_36, sC_37, sC_38, sC_39, sC_40, sC_41, sC_42, sC_43, sC_44, sC_45, sC_46, sC_47, sC_48, sC_49, sC_50, sC_51]
    exact h
  · exact h.elim
set_option maxRecDepth 100000 in
theorem t_X10_forget (l : Launch) (D : va_G) (cA : Nat → ClassId) (ad : Nat → Nat) : dm_Met l D dm_cl cA ad shC yX10_forget (Cond.code yX10_forget cX10_forget 1 (dm_rt 0) :: dm_tt) ({ frames := 0, cells := 0, slots := 0, locals := 0 } : Room) sp_X10_forget := dm_meth (own := RX10) (X := x_X10_forget) (Sp := k_X10_forget) (prog := p_X10_forget) (by decide +kernel) rfl rfl (dm_FO_s ffX10 [(73, 10, 7), (80, 10, 8), (91, 10, 10), (167, 0, 3), (173, 8, 2)] rfl dm_hT (by decide +kernel)) (dm_IO_s ifX10 jfX10 [] [] rfl rfl dm_hT (by decide +kernel) (by decide +kernel)) soC (dm_MO_of (fun _ h => absurd h List.not_mem_nil)) v_X10_forget u_X10_forget
end
section
/-! ===== the class's calls that tell ===== -/
def sp_X10_node (As : List Value) (u : dm_S) (Q : Option Value → dm_S → Prop) : Prop := match As with
  | [.ref 0, .long a] => (u.1 1 8 < 24 ∧ -1000000 ≤ a ∧ a ≤ 1000000 → vp_in (u.1 1 8) 24 ∧ Q (some (.int (u.1 1 8))) (dm_ui (dm_ul (dm_fg u) 11 (u.1 1 8).toNatClampNeg a) 1 8 (u.1 1 8 + 1))) ∧ (¬ (u.1 1 8 < 24 ∧ -1000000 ≤ a ∧ a ≤ 1000000) → Q (some (.int (-1))) u)
  | _ => False
def p_X10_node : List dm_I := [(0, .aload_n 0, 1, [0]), (1, .getfield 12, 3, []), (4, .getfield 95, 3, []), (7, .bipush 24, 2, []), (9, .if_icmp .ge 10, 3, [19]), (12, .lload_n 1, 1, [1]), (13, .invokestatic 98, 3, []), (16, .ifCond .ne 5, 3, [21]), (19, .iconst (-1), 1, []), (20, .ireturn, 1, []), (21, .aload_n 0, 1, [0]), (22, .invokevirtual 102, 3, []), (25, .aload_n 0, 1, [0]), (26, .getfield 12, 3, []), (29, .lload_n 1, 1, [1]), (30, .invokevirtual 105, 3, []), (33, .ireturn, 1, [])]
set_option maxRecDepth 100000 in
theorem v_X10_node : p_X10_node.all (dm_vb cX10_node) = true := by decide +kernel
def k_X10_node : dm_Sp := fun a => match a with
  | 0 => sp_X10_isUsual
  | 1 => sp_X10_forget
  | 2 => sp_X2_addNode
  | _ => fun _ _ _ => False
def x_X10_node : dm_X := dm_mk [(12, 10, 0), (95, 2, 8)] [] [] [(98, 0, 1, 1000), (102, 1, 0, 10), (105, 2, 1, 2)] 1
set_option maxRecDepth 100000 in
set_option maxHeartbeats 400000 in
theorem u_X10_node : dm_Pure shC x_X10_node k_X10_node p_X10_node 3 sp_X10_node := by
  intro As u Qp h
  unfold sp_X10_node at h
  split at h
  · refine ⟨Nat.le_of_ble_eq_true rfl, fun G Wp hW0 hW1 hG => ?_⟩
    apply hG (fun _ => false) 18
    simp (config := { maxSteps := 2000000 }) [hW0, hW1, dm_fn, dm_fd, dm_x, dm_L0, dm_la, dm_t1, dm_sw, List.headD, dm_ic, dm_mk, dm_s1, dm_s2, dm_clr, dm_cs, dm_cc, dm_nb0, dm_nb1, Value.category, List.lookup, p_X10_node, x_X10_node, k_X10_node, dm_cm, upd, vp_updL, dm_ui_1, dm_ui_2, dm_ul_1, dm_ul_2, sp_X10_isUsual, sp_X10_forget, sp_X2_addNode, sC_0, sC_1, sC_2, sC_3, sC_4, sC_5, sC_6, sC_7, sC_8, sC_9, sC_10, sC_11, sC_12, sC_13, sC_14, sC_15, sC_16, sC_17, sC_18, sC_19, sC_20, sC_21, sC_22, sC_23, sC_24, sC_25, sC_26, sC_27, sC_28, sC_29, sC_30, sC_31, sC_32, sC_33, sC_34, sC_35, sC_36, sC_37, sC_38, sC_39, sC_40, sC_41, sC_42, sC_43, sC_44, sC_45, sC_46, sC_47, sC_48, sC_49, sC_50, sC_51]
    exact ⟨fun q => h.2 (fun z => dm_i_lt.mpr q z.1), fun q => ⟨fun q1 q2 => h.1 ⟨q, q1, q2⟩, fun q1 => h.2 (fun z => dm_l_le.mpr (q1 z.2.1) z.2.2)⟩⟩
  · exact h.elim
set_option maxRecDepth 100000 in
theorem t_X10_node (l : Launch) (D : va_G) (cA : Nat → ClassId) (ad : Nat → Nat) : dm_Met l D dm_cl cA ad shC yX10_node (Cond.code yX10_node cX10_node 3 (dm_rt 1) :: dm_tt) ({ frames := 1, cells := 0, slots := 0, locals := 22 } : Room) sp_X10_node := dm_meth (own := RX10) (X := x_X10_node) (Sp := k_X10_node) (prog := p_X10_node) (by decide +kernel) rfl rfl (dm_FO_s ffX10 [(12, 10, 0), (95, 2, 8)] rfl dm_hT (by decide +kernel)) (dm_IO_s ifX10 jfX10 [] [] rfl rfl dm_hT (by decide +kernel) (by decide +kernel)) soC (dm_MO_of (List.forall_mem_cons.mpr ⟨dm_M1_of (t_X10_isUsual l D cA ad) dm_hT (dm_mem [470, 66, 468] (by decide +kernel) (by decide +kernel)) (by decide) (by decide +kernel) (Or.inl ⟨rfl, dm_mem (ws := [.static yX10_isUsual]) [469] (by decide +kernel) (by decide +kernel) _ List.mem_cons_self⟩), List.forall_mem_cons.mpr ⟨dm_M1_of (t_X10_forget l D cA ad) dm_hT (dm_mem [476, 66, 473] (by decide +kernel) (by decide +kernel)) (by decide) (by decide +kernel) (Or.inr ⟨by decide, dm_mem [475, 0] (by decide +kernel) (by decide +kernel), rfl⟩), List.forall_mem_cons.mpr ⟨dm_M1_of (t_X2_addNode l D cA ad) dm_hT (dm_mem [480, 67, 477] (by decide +kernel) (by decide +kernel)) (by decide) (by decide +kernel) (Or.inr ⟨by decide, dm_mem [478, 479] (by decide +kernel) (by decide +kernel), rfl⟩), fun _ h => absurd h List.not_mem_nil⟩⟩⟩)) v_X10_node u_X10_node
/-- an ARC may be told so -/
def dm_ac (u : dm_S) (a b : Int32) (lo mo co : Int64) : Prop := (0 ≤ a ∧ a < u.1 1 8) ∧ (0 ≤ b ∧ b < u.1 1 8) ∧ ¬ a = b ∧ u.1 1 9 < 80 ∧ (0 ≤ lo ∧ lo ≤ 1000000) ∧ (-1000000 ≤ co ∧ co ≤ 1000000) ∧ (mo = -2 ∨ lo ≤ mo ∧ mo ≤ 1000000)
def sp_X10_arc (As : List Value) (u : dm_S) (Q : Option Value → dm_S → Prop) : Prop := match As with
  | [.ref 0, .int a, .int b, .long lo, .long mo, .long co] => (dm_ac u a b lo mo co → sp_X2_addArc [.ref 1, .int a, .int b, .long lo, .long mo, .long co] (dm_fg u) Q) ∧ (¬ dm_ac u a b lo mo co → Q (some (.int (-1))) u)
  | _ => False
def p_X10_arc : List dm_I := [(0, .aload_n 0, 1, [0]), (1, .getfield 12, 3, []), (4, .iload_n 1, 1, [1]), (5, .invokevirtual 109, 3, []), (8, .ifCond .eq 31, 3, [39]), (11, .aload_n 0, 1, [0]), (12, .getfield 12, 3, []), (15, .iload_n 2, 1, [2]), (16, .invokevirtual 109, 3, []), (19, .ifCond .eq 20, 3, [39]), (22, .iload_n 1, 1, [1]), (23, .iload_n 2, 1, [2]), (24, .if_icmp .eq 15, 3, [39]), (27, .aload_n 0, 1, [0]), (28, .getfield 12, 3, []), (31, .getfield 113, 3, []), (34, .bipush 80, 2, []), (36, .if_icmp .lt 5, 3, [41]), (39, .iconst (-1), 1, []), (40, .ireturn, 1, []), (41, .lload_n 3, 1, [3]), (42, .lconst 0, 1, []), (43, .lcmp, 1, []), (44, .ifCond .lt 19, 3, [63]), (47, .lload_n 3, 1, [3]), (48, .ldc2_w 116, 3, []), (51, .lcmp, 1, []), (52, .ifCond .gt 11, 3, [63]), (55, .lload 7, 2, []), (57, .invokestatic 98, 3, []), (60, .ifCond .ne 5, 3, [65]), (63, .iconst (-1), 1, []), (64, .ireturn, 1, []), (65, .lload 5, 2, []), (67, .ldc2_w 118, 3, []), (70, .lcmp, 1, []), (71, .ifCond .eq 21, 3, [92]), (74, .lload 5, 2, []), (76, .lload_n 3, 1, [3]), (77, .lcmp, 1, []), (78, .ifCond .lt 12, 3, [90]), (81, .lload 5, 2, []), (83, .ldc2_w 116, 3, []), (86, .lcmp, 1, []), (87, .ifCond .le 5, 3, [92]), (90, .iconst (-1), 1, []), (91, .ireturn, 1, []), (92, .aload_n 0, 1, [0]), (93, .invokevirtual 102, 3, []), (96, .aload_n 0, 1, [0]), (97, .getfield 12, 3, []), (100, .iload_n 1, 1, [1]), (101, .iload_n 2, 1, [2]), (102, .lload_n 3, 1, [3]), (103, .lload 5, 2, []), (105, .lload 7, 2, []), (107, .invokevirtual 120, 3, []), (110, .ireturn, 1, [])]
set_option maxRecDepth 100000 in
theorem v_X10_arc : p_X10_arc.all (dm_vb cX10_arc) = true := by decide +kernel
def k_X10_arc : dm_Sp := fun a => match a with
  | 0 => sp_X2_hasNode
  | 1 => sp_X10_isUsual
  | 2 => sp_X10_forget
  | 3 => sp_X2_addArc
  | _ => fun _ _ _ => False
def x_X10_arc : dm_X := dm_mk [(12, 10, 0), (113, 2, 9)] [] [(116, 1000000), (118, -2)] [(109, 0, 1, 2), (98, 1, 1, 1000), (102, 2, 0, 10), (120, 3, 5, 2)] 1
set_option maxRecDepth 100000 in
set_option maxHeartbeats 400000 in
theorem u_X10_arc : dm_Pure shC x_X10_arc k_X10_arc p_X10_arc 9 sp_X10_arc := by
  intro As u Qp h
  unfold sp_X10_arc at h
  split at h
  · refine ⟨Nat.le_of_ble_eq_true rfl, fun G Wp hW0 hW1 hG => ?_⟩
    apply hG (fun _ => false) 59
    simp (config := { maxSteps := 2000000 }) [hW0, hW1, dm_fn, dm_fd, dm_x, dm_L0, dm_la, dm_t1, dm_sw, List.headD, dm_ic, dm_mk, dm_s1, dm_s2, dm_clr, dm_cs, dm_cc, dm_nb0, dm_nb1, Value.category, List.lookup, p_X10_arc, x_X10_arc, k_X10_arc, dm_cm, upd, vp_updL, dm_ui_1, dm_ui_2, dm_ul_1, dm_ul_2, sp_X2_hasNode, sp_X10_isUsual, sp_X10_forget, sp_X2_addArc, sC_0, sC_1, sC_2, sC_3, sC_4, sC_5, sC_6, sC_7, sC_8, sC_9, sC_10, sC_11, sC_12, sC_13, sC_14, sC_15, sC_16, sC_17, sC_18, sC_19, sC_20, sC_21, sC_22, sC_23, sC_24, sC_25, sC_26, sC_27, sC_28, sC_29, sC_30, sC_31, sC_32, sC_33, sC_34, sC_35, sC_36, sC_37, sC_38, sC_39, sC_40, sC_41, sC_42, sC_43, sC_44, sC_45, sC_46, sC_47, sC_48, sC_49, sC_50, sC_51]
    rename_i a b lo mo co
    obtain ⟨h1, h2⟩ := h
    simp only [sp_X2_addArc, dm_ui_1, dm_ui_2] at h1
    simp at h1
    refine ⟨fun q => h2 (fun z => dm_i_lt.mpr (q z.1.1) z.1.2), fun a1 a2 => ⟨fun q => h2 (fun z => dm_i_lt.mpr (q z.2.1.1) z.2.1.2), fun b1 b2 => ⟨fun q => h2 (fun z => z.2.2.1 q), fun ne => ⟨fun m1 => ⟨fun q => h2 (fun z => dm_l_le.mpr q z.2.2.2.2.1.1), fun l1 => ⟨fun q => h2 (fun z => dm_l_le.mpr q z.2.2.2.2.1.2), fun l2 => ⟨fun c1 c2 => ?_, fun q => h2 (fun z => dm_l_le.mpr (q z.2.2.2.2.2.1.1) z.2.2.2.2.2.1.2)⟩⟩⟩, fun q => h2 (fun z => dm_i_lt.mpr q z.2.2.2.1)⟩⟩⟩⟩
    have key : (mo = -2 ∨ lo ≤ mo ∧ mo ≤ 1000000) → dm_ac u a b lo mo co := fun z => ⟨⟨a1, a2⟩, ⟨b1, b2⟩, ne, m1, ⟨l1, l2⟩, ⟨c1, c2⟩, z⟩
    exact ⟨fun q => h1 (key (Or.inl q)), fun q => ⟨fun q1 => h2 (fun z => z.2.2.2.2.2.2.elim q (fun y => dm_l_le.mpr q1 y.1)), fun q1 => ⟨fun q2 => h1 (key (Or.inr ⟨q1, q2⟩)), fun q2 => h2 (fun z => z.2.2.2.2.2.2.elim q (fun y => dm_l_le.mpr q2 y.2))⟩⟩⟩
  · exact h.elim
set_option maxRecDepth 100000 in
theorem t_X10_arc (l : Launch) (D : va_G) (cA : Nat → ClassId) (ad : Nat → Nat) : dm_Met l D dm_cl cA ad shC yX10_arc (Cond.code yX10_arc cX10_arc 9 (dm_rt 1) :: dm_tt) ({ frames := 1, cells := 0, slots := 0, locals := 28 } : Room) sp_X10_arc := dm_meth (own := RX10) (X := x_X10_arc) (Sp := k_X10_arc) (prog := p_X10_arc) (by decide +kernel) rfl rfl (dm_FO_s ffX10 [(12, 10, 0), (113, 2, 9)] rfl dm_hT (by decide +kernel)) (dm_IO_s ifX10 jfX10 [] [(116, 1000000), (118, -2)] rfl rfl dm_hT (by decide +kernel) (by decide +kernel)) soC (dm_MO_of (List.forall_mem_cons.mpr ⟨dm_M1_of (t_X2_hasNode l D cA ad) dm_hT (dm_mem [488, 67, 485] (by decide +kernel) (by decide +kernel)) (by decide) (by decide +kernel) (Or.inr ⟨by decide, dm_mem [486, 487] (by decide +kernel) (by decide +kernel), rfl⟩), List.forall_mem_cons.mpr ⟨dm_M1_of (t_X10_isUsual l D cA ad) dm_hT (dm_mem [470, 66, 468] (by decide +kernel) (by decide +kernel)) (by decide) (by decide +kernel) (Or.inl ⟨rfl, dm_mem (ws := [.static yX10_isUsual]) [469] (by decide +kernel) (by decide +kernel) _ List.mem_cons_self⟩), List.forall_mem_cons.mpr ⟨dm_M1_of (t_X10_forget l D cA ad) dm_hT (dm_mem [476, 66, 473] (by decide +kernel) (by decide +kernel)) (by decide) (by decide +kernel) (Or.inr ⟨by decide, dm_mem [475, 0] (by decide +kernel) (by decide +kernel), rfl⟩), List.forall_mem_cons.mpr ⟨dm_M1_of (t_X2_addArc l D cA ad) dm_hT (dm_mem [493, 67, 490] (by decide +kernel) (by decide +kernel)) (by decide) (by decide +kernel) (Or.inr ⟨by decide, dm_mem [491, 492] (by decide +kernel) (by decide +kernel), rfl⟩), fun _ h => absurd h List.not_mem_nil⟩⟩⟩⟩)) v_X10_arc u_X10_arc
/-- a PIECE may be told so -/
def dm_pc (u : dm_S) (a : Int32) (mq co : Int64) : Prop := (0 ≤ a ∧ a < u.1 1 9) ∧ u.1 16 a.toNatClampNeg < 4 ∧ u.2 17 (a * 4 + u.1 16 a.toNatClampNeg - 1).toNatClampNeg < mq ∧ mq < u.2 15 a.toNatClampNeg ∧ mq ≤ 1000000 ∧ u.2 18 (a * 4 + u.1 16 a.toNatClampNeg - 1).toNatClampNeg ≤ co ∧ co ≤ 1000000
def sp_X10_piece (As : List Value) (u : dm_S) (Q : Option Value → dm_S → Prop) : Prop := match As with
  | [.ref 0, .int a, .long mq, .long co] => (0 ≤ a ∧ a < u.1 1 9 → vp_in a 80 ∧ (u.1 16 a.toNatClampNeg < 4 → vp_in (a * 4 + u.1 16 a.toNatClampNeg - 1) 320)) ∧ (dm_pc u a mq co → vp_in (a * 4 + u.1 16 a.toNatClampNeg) 320 ∧ Q (some (.int (u.1 16 a.toNatClampNeg))) (dm_ui (dm_ui (dm_ul (dm_ul (dm_fg u) 17 (a * 4 + u.1 16 a.toNatClampNeg).toNatClampNeg mq) 18 (a * 4 + u.1 16 a.toNatClampNeg).toNatClampNeg co) 16 a.toNatClampNeg (u.1 16 a.toNatClampNeg + 1)) 1 10 (u.1 1 10 + 1))) ∧ (¬ dm_pc u a mq co → Q (some (.int (-1))) u)
  | _ => False
def p_X10_piece : List dm_I := [(0, .aload_n 0, 1, [0]), (1, .getfield 12, 3, []), (4, .iload_n 1, 1, [1]), (5, .invokevirtual 124, 3, []), (8, .ifCond .eq 17, 3, [25]), (11, .aload_n 0, 1, [0]), (12, .getfield 12, 3, []), (15, .iload_n 1, 1, [1]), (16, .lload_n 2, 1, [2]), (17, .lload 4, 2, []), (19, .invokevirtual 127, 3, []), (22, .ifCond .ne 5, 3, [27]), (25, .iconst (-1), 1, []), (26, .ireturn, 1, []), (27, .aload_n 0, 1, [0]), (28, .invokevirtual 102, 3, []), (31, .aload_n 0, 1, [0]), (32, .getfield 12, 3, []), (35, .iload_n 1, 1, [1]), (36, .lload_n 2, 1, [2]), (37, .lload 4, 2, []), (39, .invokevirtual 131, 3, []), (42, .ireturn, 1, [])]
set_option maxRecDepth 100000 in
theorem v_X10_piece : p_X10_piece.all (dm_vb cX10_piece) = true := by decide +kernel
def k_X10_piece : dm_Sp := fun a => match a with
  | 0 => sp_X2_hasArc
  | 1 => sp_X2_takesPiece
  | 2 => sp_X10_forget
  | 3 => sp_X2_addPiece
  | _ => fun _ _ _ => False
def x_X10_piece : dm_X := dm_mk [(12, 10, 0)] [] [] [(124, 0, 1, 2), (127, 1, 3, 2), (102, 2, 0, 10), (131, 3, 3, 2)] 1
set_option maxRecDepth 100000 in
set_option maxHeartbeats 400000 in
theorem u_X10_piece : dm_Pure shC x_X10_piece k_X10_piece p_X10_piece 6 sp_X10_piece := by
  intro As u Qp h
  unfold sp_X10_piece at h
  split at h
  · refine ⟨Nat.le_of_ble_eq_true rfl, fun G Wp hW0 hW1 hG => ?_⟩
    apply hG (fun _ => false) 24
    simp (config := { maxSteps := 2000000 }) [hW0, hW1, dm_fn, dm_fd, dm_x, dm_L0, dm_la, dm_t1, dm_sw, List.headD, dm_ic, dm_mk, dm_s1, dm_s2, dm_clr, dm_cs, dm_cc, dm_nb0, dm_nb1, Value.category, List.lookup, p_X10_piece, x_X10_piece, k_X10_piece, dm_cm, upd, vp_updL, dm_ui_1, dm_ui_2, dm_ul_1, dm_ul_2, sp_X2_hasArc, sp_X2_takesPiece, sp_X10_forget, sp_X2_addPiece, sC_0, sC_1, sC_2, sC_3, sC_4, sC_5, sC_6, sC_7, sC_8, sC_9, sC_10, sC_11, sC_12, sC_13, sC_14, sC_15, sC_16, sC_17, sC_18, sC_19, sC_20, sC_21, sC_22, sC_23, sC_24, sC_25, sC_26, sC_27, sC_28, sC_29, sC_30, sC_31, sC_32, sC_33, sC_34, sC_35, sC_36, sC_37, sC_38, sC_39, sC_40, sC_41, sC_42, sC_43, sC_44, sC_45, sC_46, sC_47, sC_48, sC_49, sC_50, sC_51]
    rename_i a mq co
    obtain ⟨h0, h1, h2⟩ := h
    refine ⟨fun q => h2 (fun z => dm_i_lt.mpr (q z.1.1) z.1.2), fun a1 a2 => ⟨(h0 ⟨a1, a2⟩).1, (h0 ⟨a1, a2⟩).2, fun q1 q2 q3 q4 q5 q6 => ⟨(h0 ⟨a1, a2⟩).1, h1 ⟨⟨a1, a2⟩, q1, q2, q3, q4, q5, q6⟩⟩, fun q => h2 (fun z => ?_)⟩⟩
    obtain ⟨z1, z2, z3, z4, z5, z6, z7⟩ := z
    exact dm_l_le.mpr (q z2 z3 z4 z5 z6) z7
  · exact h.elim
set_option maxRecDepth 100000 in
theorem t_X10_piece (l : Launch) (D : va_G) (cA : Nat → ClassId) (ad : Nat → Nat) : dm_Met l D dm_cl cA ad shC yX10_piece (Cond.code yX10_piece cX10_piece 6 (dm_rt 1) :: dm_tt) ({ frames := 2, cells := 0, slots := 0, locals := 47 } : Room) sp_X10_piece := dm_meth (own := RX10) (X := x_X10_piece) (Sp := k_X10_piece) (prog := p_X10_piece) (by decide +kernel) rfl rfl (dm_FO_s ffX10 [(12, 10, 0)] rfl dm_hT (by decide +kernel)) (dm_IO_s ifX10 jfX10 [] [] rfl rfl dm_hT (by decide +kernel) (by decide +kernel)) soC (dm_MO_of (List.forall_mem_cons.mpr ⟨dm_M1_of (t_X2_hasArc l D cA ad) dm_hT (dm_mem [503, 67, 500] (by decide +kernel) (by decide +kernel)) (by decide) (by decide +kernel) (Or.inr ⟨by decide, dm_mem [501, 502] (by decide +kernel) (by decide +kernel), rfl⟩), List.forall_mem_cons.mpr ⟨dm_M1_of (t_X2_takesPiece l D cA ad) dm_hT (dm_mem [507, 67, 504] (by decide +kernel) (by decide +kernel)) (by decide) (by decide +kernel) (Or.inr ⟨by decide, dm_mem [505, 506] (by decide +kernel) (by decide +kernel), rfl⟩), List.forall_mem_cons.mpr ⟨dm_M1_of (t_X10_forget l D cA ad) dm_hT (dm_mem [476, 66, 473] (by decide +kernel) (by decide +kernel)) (by decide) (by decide +kernel) (Or.inr ⟨by decide, dm_mem [475, 0] (by decide +kernel) (by decide +kernel), rfl⟩), List.forall_mem_cons.mpr ⟨dm_M1_of (t_X2_addPiece l D cA ad) dm_hT (dm_mem [516, 67, 513] (by decide +kernel) (by decide +kernel)) (by decide) (by decide +kernel) (Or.inr ⟨by decide, dm_mem [514, 515] (by decide +kernel) (by decide +kernel), rfl⟩), fun _ h => absurd h List.not_mem_nil⟩⟩⟩⟩)) v_X10_piece u_X10_piece
def sp_X10_supply (As : List Value) (u : dm_S) (Q : Option Value → dm_S → Prop) : Prop := match As with
  | [.ref 0, .int a, .long d] => ((0 ≤ a ∧ a < u.1 1 8) ∧ -1000000 ≤ d ∧ d ≤ 1000000 → vp_in a 24 ∧ Q (some (.long (u.2 11 a.toNatClampNeg))) (dm_ul (dm_fg u) 11 a.toNatClampNeg d)) ∧ (¬ ((0 ≤ a ∧ a < u.1 1 8) ∧ -1000000 ≤ d ∧ d ≤ 1000000) → Q (some (.long (-1000001))) u)
  | _ => False
def p_X10_supply : List dm_I := [(0, .aload_n 0, 1, [0]), (1, .getfield 12, 3, []), (4, .iload_n 1, 1, [1]), (5, .invokevirtual 109, 3, []), (8, .ifCond .eq 10, 3, [18]), (11, .lload_n 2, 1, [2]), (12, .invokestatic 98, 3, []), (15, .ifCond .ne 7, 3, [22]), (18, .ldc2_w 135, 3, []), (21, .lreturn, 1, []), (22, .aload_n 0, 1, [0]), (23, .invokevirtual 102, 3, []), (26, .aload_n 0, 1, [0]), (27, .getfield 12, 3, []), (30, .getfield 137, 3, []), (33, .iload_n 1, 1, [1]), (34, .laload, 1, []), (35, .lstore 4, 2, []), (37, .aload_n 0, 1, [0]), (38, .getfield 12, 3, []), (41, .getfield 137, 3, []), (44, .iload_n 1, 1, [1]), (45, .lload_n 2, 1, [2]), (46, .lastore, 1, []), (47, .lload 4, 2, []), (49, .lreturn, 1, [])]
set_option maxRecDepth 100000 in
theorem v_X10_supply : p_X10_supply.all (dm_vb cX10_supply) = true := by decide +kernel
def k_X10_supply : dm_Sp := fun a => match a with
  | 0 => sp_X2_hasNode
  | 1 => sp_X10_isUsual
  | 2 => sp_X10_forget
  | _ => fun _ _ _ => False
def x_X10_supply : dm_X := dm_mk [(12, 10, 0), (137, 2, 0)] [] [(135, -1000001)] [(109, 0, 1, 2), (98, 1, 1, 1000), (102, 2, 0, 10)] 2
set_option maxRecDepth 100000 in
set_option maxHeartbeats 400000 in
theorem u_X10_supply : dm_Pure shC x_X10_supply k_X10_supply p_X10_supply 6 sp_X10_supply := by
  intro As u Qp h
  unfold sp_X10_supply at h
  split at h
  · refine ⟨Nat.le_of_ble_eq_true rfl, fun G Wp hW0 hW1 hG => ?_⟩
    apply hG (fun _ => false) 27
    simp (config := { maxSteps := 2000000 }) [hW0, hW1, dm_fn, dm_fd, dm_x, dm_L0, dm_la, dm_t1, dm_sw, List.headD, dm_ic, dm_mk, dm_s1, dm_s2, dm_clr, dm_cs, dm_cc, dm_nb0, dm_nb1, Value.category, List.lookup, p_X10_supply, x_X10_supply, k_X10_supply, dm_cm, upd, vp_updL, dm_ui_1, dm_ui_2, dm_ul_1, dm_ul_2, sp_X2_hasNode, sp_X10_isUsual, sp_X10_forget, sC_0, sC_1, sC_2, sC_3, sC_4, sC_5, sC_6, sC_7, sC_8, sC_9, sC_10, sC_11, sC_12, sC_13, sC_14, sC_15, sC_16, sC_17, sC_18, sC_19, sC_20, sC_21, sC_22, sC_23, sC_24, sC_25, sC_26, sC_27, sC_28, sC_29, sC_30, sC_31, sC_32, sC_33, sC_34, sC_35, sC_36, sC_37, sC_38, sC_39, sC_40, sC_41, sC_42, sC_43, sC_44, sC_45, sC_46, sC_47, sC_48, sC_49, sC_50, sC_51]
    obtain ⟨h1, h2⟩ := h
    exact ⟨fun q => h2 (fun z => dm_i_lt.mpr (q z.1.1) z.1.2), fun a1 a2 => ⟨fun d1 d2 => h1 ⟨⟨a1, a2⟩, d1, d2⟩, fun q => h2 (fun z => dm_l_le.mpr (q z.2.1) z.2.2)⟩⟩
  · exact h.elim
set_option maxRecDepth 100000 in
theorem t_X10_supply (l : Launch) (D : va_G) (cA : Nat → ClassId) (ad : Nat → Nat) : dm_Met l D dm_cl cA ad shC yX10_supply (Cond.code yX10_supply cX10_supply 6 (dm_rt 2) :: dm_tt) ({ frames := 1, cells := 0, slots := 0, locals := 21 } : Room) sp_X10_supply := dm_meth (own := RX10) (X := x_X10_supply) (Sp := k_X10_supply) (prog := p_X10_supply) (by decide +kernel) rfl rfl (dm_FO_s ffX10 [(12, 10, 0), (137, 2, 0)] rfl dm_hT (by decide +kernel)) (dm_IO_s ifX10 jfX10 [] [(135, -1000001)] rfl rfl dm_hT (by decide +kernel) (by decide +kernel)) soC (dm_MO_of (List.forall_mem_cons.mpr ⟨dm_M1_of (t_X2_hasNode l D cA ad) dm_hT (dm_mem [488, 67, 485] (by decide +kernel) (by decide +kernel)) (by decide) (by decide +kernel) (Or.inr ⟨by decide, dm_mem [486, 487] (by decide +kernel) (by decide +kernel), rfl⟩), List.forall_mem_cons.mpr ⟨dm_M1_of (t_X10_isUsual l D cA ad) dm_hT (dm_mem [470, 66, 468] (by decide +kernel) (by decide +kernel)) (by decide) (by decide +kernel) (Or.inl ⟨rfl, dm_mem (ws := [.static yX10_isUsual]) [469] (by decide +kernel) (by decide +kernel) _ List.mem_cons_self⟩), List.forall_mem_cons.mpr ⟨dm_M1_of (t_X10_forget l D cA ad) dm_hT (dm_mem [476, 66, 473] (by decide +kernel) (by decide +kernel)) (by decide) (by decide +kernel) (Or.inr ⟨by decide, dm_mem [475, 0] (by decide +kernel) (by decide +kernel), rfl⟩), fun _ h => absurd h List.not_mem_nil⟩⟩⟩)) v_X10_supply u_X10_supply
def sp_X10_price (As : List Value) (u : dm_S) (Q : Option Value → dm_S → Prop) : Prop := match As with
  | [.ref 0, .int a, .long d] => (0 ≤ a ∧ a < u.1 1 9 → vp_in a 80 ∧ vp_in (a * 4) 320) ∧ ((0 ≤ a ∧ a < u.1 1 9) ∧ u.1 16 a.toNatClampNeg = 1 ∧ -1000000 ≤ d ∧ d ≤ 1000000 → Q (some (.int 1)) (dm_ul (dm_fg u) 18 (a * 4).toNatClampNeg d)) ∧ (¬ ((0 ≤ a ∧ a < u.1 1 9) ∧ u.1 16 a.toNatClampNeg = 1 ∧ -1000000 ≤ d ∧ d ≤ 1000000) → Q (some (.int 0)) u)
  | _ => False
def p_X10_price : List dm_I := [(0, .aload_n 0, 1, [0]), (1, .getfield 12, 3, []), (4, .iload_n 1, 1, [1]), (5, .invokevirtual 140, 3, []), (8, .ifCond .eq 10, 3, [18]), (11, .lload_n 2, 1, [2]), (12, .invokestatic 98, 3, []), (15, .ifCond .ne 5, 3, [20]), (18, .iconst 0, 1, []), (19, .ireturn, 1, []), (20, .aload_n 0, 1, [0]), (21, .invokevirtual 102, 3, []), (24, .aload_n 0, 1, [0]), (25, .getfield 12, 3, []), (28, .getfield 143, 3, []), (31, .iload_n 1, 1, [1]), (32, .iconst 4, 1, []), (33, .imul, 1, []), (34, .lload_n 2, 1, [2]), (35, .lastore, 1, []), (36, .iconst 1, 1, []), (37, .ireturn, 1, [])]
set_option maxRecDepth 100000 in
theorem v_X10_price : p_X10_price.all (dm_vb cX10_price) = true := by decide +kernel
def k_X10_price : dm_Sp := fun a => match a with
  | 0 => sp_X2_isPlain
  | 1 => sp_X10_isUsual
  | 2 => sp_X10_forget
  | _ => fun _ _ _ => False
def x_X10_price : dm_X := dm_mk [(12, 10, 0), (143, 2, 7)] [] [] [(140, 0, 1, 2), (98, 1, 1, 1000), (102, 2, 0, 10)] 3
set_option maxRecDepth 100000 in
set_option maxHeartbeats 400000 in
theorem u_X10_price : dm_Pure shC x_X10_price k_X10_price p_X10_price 4 sp_X10_price := by
  intro As u Qp h
  unfold sp_X10_price at h
  split at h
  · refine ⟨Nat.le_of_ble_eq_true rfl, fun G Wp hW0 hW1 hG => ?_⟩
    apply hG (fun _ => false) 23
    simp (config := { maxSteps := 2000000 }) [hW0, hW1, dm_fn, dm_fd, dm_x, dm_L0, dm_la, dm_t1, dm_sw, List.headD, dm_ic, dm_mk, dm_s1, dm_s2, dm_clr, dm_cs, dm_cc, dm_nb0, dm_nb1, Value.category, List.lookup, p_X10_price, x_X10_price, k_X10_price, dm_cm, upd, vp_updL, dm_ui_1, dm_ui_2, dm_ul_1, dm_ul_2, sp_X2_isPlain, sp_X10_isUsual, sp_X10_forget, sC_0, sC_1, sC_2, sC_3, sC_4, sC_5, sC_6, sC_7, sC_8, sC_9, sC_10, sC_11, sC_12, sC_13, sC_14, sC_15, sC_16, sC_17, sC_18, sC_19, sC_20, sC_21, sC_22, sC_23, sC_24, sC_25, sC_26, sC_27, sC_28, sC_29, sC_30, sC_31, sC_32, sC_33, sC_34, sC_35, sC_36, sC_37, sC_38, sC_39, sC_40, sC_41, sC_42, sC_43, sC_44, sC_45, sC_46, sC_47, sC_48, sC_49, sC_50, sC_51]
    obtain ⟨h0, h1, h2⟩ := h
    exact ⟨fun a1 a2 => (h0 ⟨a1, a2⟩).1, fun q => h2 (fun z => q z.1.1 z.1.2 z.2.1), fun a1 a2 a3 => ⟨fun d1 d2 => ⟨(h0 ⟨a1, a2⟩).2, h1 ⟨⟨a1, a2⟩, a3, d1, d2⟩⟩, fun q => h2 (fun z => dm_l_le.mpr (q z.2.2.1) z.2.2.2)⟩⟩
  · exact h.elim
set_option maxRecDepth 100000 in
theorem t_X10_price (l : Launch) (D : va_G) (cA : Nat → ClassId) (ad : Nat → Nat) : dm_Met l D dm_cl cA ad shC yX10_price (Cond.code yX10_price cX10_price 4 (dm_rt 3) :: dm_tt) ({ frames := 2, cells := 0, slots := 0, locals := 42 } : Room) sp_X10_price := dm_meth (own := RX10) (X := x_X10_price) (Sp := k_X10_price) (prog := p_X10_price) (by decide +kernel) rfl rfl (dm_FO_s ffX10 [(12, 10, 0), (143, 2, 7)] rfl dm_hT (by decide +kernel)) (dm_IO_s ifX10 jfX10 [] [] rfl rfl dm_hT (by decide +kernel) (by decide +kernel)) soC (dm_MO_of (List.forall_mem_cons.mpr ⟨dm_M1_of (t_X2_isPlain l D cA ad) dm_hT (dm_mem [529, 67, 526] (by decide +kernel) (by decide +kernel)) (by decide) (by decide +kernel) (Or.inr ⟨by decide, dm_mem [527, 528] (by decide +kernel) (by decide +kernel), rfl⟩), List.forall_mem_cons.mpr ⟨dm_M1_of (t_X10_isUsual l D cA ad) dm_hT (dm_mem [470, 66, 468] (by decide +kernel) (by decide +kernel)) (by decide) (by decide +kernel) (Or.inl ⟨rfl, dm_mem (ws := [.static yX10_isUsual]) [469] (by decide +kernel) (by decide +kernel) _ List.mem_cons_self⟩), List.forall_mem_cons.mpr ⟨dm_M1_of (t_X10_forget l D cA ad) dm_hT (dm_mem [476, 66, 473] (by decide +kernel) (by decide +kernel)) (by decide) (by decide +kernel) (Or.inr ⟨by decide, dm_mem [475, 0] (by decide +kernel) (by decide +kernel), rfl⟩), fun _ h => absurd h List.not_mem_nil⟩⟩⟩)) v_X10_price u_X10_price
def sp_X10_told (As : List Value) (u : dm_S) (Q : Option Value → dm_S → Prop) : Prop := match As with
  | [.ref 0, .int a] => Q (some (.int (if a.toInt = 0 then u.1 1 8 else if a.toInt = 1 then u.1 1 9 else if a.toInt = 2 then u.1 1 10 else if a.toInt = 3 then u.1 8 3 else if a.toInt = 4 then u.1 9 2 else if a.toInt = 5 then u.1 10 3 else if a.toInt = 6 then u.1 0 10 else -1))) u
  | _ => False
def p_X10_told : List dm_I := [(0, .iload_n 1, 1, [1]), (1, .tableswitch 96 0 6 #[43, 51, 59, 67, 75, 83, 91], 43, [97, 44, 52, 60, 68, 76, 84, 92]), (44, .aload_n 0, 1, [0]), (45, .getfield 12, 3, []), (48, .getfield 95, 3, []), (51, .ireturn, 1, []), (52, .aload_n 0, 1, [0]), (53, .getfield 12, 3, []), (56, .getfield 113, 3, []), (59, .ireturn, 1, []), (60, .aload_n 0, 1, [0]), (61, .getfield 12, 3, []), (64, .getfield 211, 3, []), (67, .ireturn, 1, []), (68, .aload_n 0, 1, [0]), (69, .getfield 73, 3, []), (72, .getfield 167, 3, []), (75, .ireturn, 1, []), (76, .aload_n 0, 1, [0]), (77, .getfield 80, 3, []), (80, .getfield 173, 3, []), (83, .ireturn, 1, []), (84, .aload_n 0, 1, [0]), (85, .getfield 87, 3, []), (88, .getfield 214, 3, []), (91, .ireturn, 1, []), (92, .aload_n 0, 1, [0]), (93, .getfield 91, 3, []), (96, .ireturn, 1, []), (97, .iconst (-1), 1, []), (98, .ireturn, 1, [])]
set_option maxRecDepth 100000 in
theorem v_X10_told : p_X10_told.all (dm_vb cX10_told) = true := by decide +kernel
def k_X10_told : dm_Sp := fun a => match a with
  | _ => fun _ _ _ => False
def x_X10_told : dm_X := dm_mk [(12, 10, 0), (73, 10, 7), (80, 10, 8), (87, 10, 9), (91, 10, 10), (95, 2, 8), (113, 2, 9), (167, 0, 3), (173, 8, 2), (211, 2, 10), (214, 3, 3)] [] [] [] 1
set_option maxRecDepth 100000 in
set_option maxHeartbeats 400000 in
theorem u_X10_told : dm_Pure shC x_X10_told k_X10_told p_X10_told 2 sp_X10_told := by
  intro As u Qp h
  unfold sp_X10_told at h
  split at h
  · refine ⟨Nat.le_of_ble_eq_true rfl, fun G Wp hW0 hW1 hG => ?_⟩
    apply hG (fun _ => false) 32
    simp (config := { maxSteps := 2000000 }) [hW0, hW1, dm_fn, dm_fd, dm_x, dm_L0, dm_la, dm_t1, dm_sw, List.headD, dm_ic, dm_mk, dm_s1, dm_s2, dm_clr, dm_cs, dm_cc, dm_nb0, dm_nb1, Value.category, List.lookup, p_X10_told, x_X10_told, k_X10_told, dm_cm, upd, vp_updL, dm_ui_1, dm_ui_2, dm_ul_1, dm_ul_2, sC_0, sC_1, sC_2, sC_3, sC_4, sC_5, sC_6, sC_7, sC_8, sC_9, sC_10, sC_11, sC_12, sC_13, sC_14, sC_15, sC_16, sC_17, sC_18, sC_19, sC_20, sC_21, sC_22, sC_23, sC_24, sC_25, sC_26, sC_27, sC_28, sC_29, sC_30, sC_31, sC_32, sC_33, sC_34, sC_35, sC_36, sC_37, sC_38, sC_39, sC_40, sC_41, sC_42, sC_43, sC_44, sC_45, sC_46, sC_47, sC_48, sC_49, sC_50, sC_51]
    refine ⟨fun q => ?_, fun q => ?_, fun q => ?_, fun q => ?_, fun q => ?_, fun q => ?_, fun q => ?_, fun q => ?_⟩
    · rw [if_neg (by omega), if_neg (by omega), if_neg (by omega), if_neg (by omega), if_neg (by omega), if_neg (by omega), if_neg (by omega)] at h; exact h
    all_goals (simp [q] at h; exact h)
  · exact h.elim
set_option maxRecDepth 100000 in
theorem t_X10_told (l : Launch) (D : va_G) (cA : Nat → ClassId) (ad : Nat → Nat) : dm_Met l D dm_cl cA ad shC yX10_told (Cond.code yX10_told cX10_told 2 (dm_rt 1) :: dm_tt) ({ frames := 0, cells := 0, slots := 0, locals := 0 } : Room) sp_X10_told := dm_meth (own := RX10) (X := x_X10_told) (Sp := k_X10_told) (prog := p_X10_told) (by decide +kernel) rfl rfl (dm_FO_s ffX10 [(12, 10, 0), (73, 10, 7), (80, 10, 8), (87, 10, 9), (91, 10, 10), (95, 2, 8), (113, 2, 9), (167, 0, 3), (173, 8, 2), (211, 2, 10), (214, 3, 3)] rfl dm_hT (by decide +kernel)) (dm_IO_s ifX10 jfX10 [] [] rfl rfl dm_hT (by decide +kernel) (by decide +kernel)) soC (dm_MO_of (fun _ h => absurd h List.not_mem_nil)) v_X10_told u_X10_told
def sp_X10_ring (As : List Value) (u : dm_S) (Q : Option Value → dm_S → Prop) : Prop := match As with
  | [.ref 0, .int a] => (0 ≤ a ∧ a < u.1 8 3 → vp_in a 24) ∧ Q (some (.int (if 0 ≤ a ∧ a < u.1 8 3 then u.1 46 a.toNatClampNeg else -1))) u
  | _ => False
def p_X10_ring : List dm_I := [(0, .iload_n 1, 1, [1]), (1, .ifCond .lt 26, 3, [27]), (4, .iload_n 1, 1, [1]), (5, .aload_n 0, 1, [0]), (6, .getfield 73, 3, []), (9, .getfield 167, 3, []), (12, .if_icmp .ge 15, 3, [27]), (15, .aload_n 0, 1, [0]), (16, .getfield 73, 3, []), (19, .getfield 170, 3, []), (22, .iload_n 1, 1, [1]), (23, .iaload, 1, []), (24, .goto 4, 3, [28]), (27, .iconst (-1), 1, []), (28, .ireturn, 1, [])]
set_option maxRecDepth 100000 in
theorem v_X10_ring : p_X10_ring.all (dm_vb cX10_ring) = true := by decide +kernel
def k_X10_ring : dm_Sp := fun a => match a with
  | _ => fun _ _ _ => False
def x_X10_ring : dm_X := dm_mk [(73, 10, 7), (167, 0, 3), (170, 0, 1)] [] [] [] 1
set_option maxRecDepth 100000 in
set_option maxHeartbeats 400000 in
theorem u_X10_ring : dm_Pure shC x_X10_ring k_X10_ring p_X10_ring 2 sp_X10_ring := by
  intro As u Qp h
  unfold sp_X10_ring at h
  split at h
  · refine ⟨Nat.le_of_ble_eq_true rfl, fun G Wp hW0 hW1 hG => ?_⟩
    apply hG (fun _ => false) 16
    simp (config := { maxSteps := 2000000 }) [hW0, hW1, dm_fn, dm_fd, dm_x, dm_L0, dm_la, dm_t1, dm_sw, List.headD, dm_ic, dm_mk, dm_s1, dm_s2, dm_clr, dm_cs, dm_cc, dm_nb0, dm_nb1, Value.category, List.lookup, p_X10_ring, x_X10_ring, k_X10_ring, dm_cm, upd, vp_updL, dm_ui_1, dm_ui_2, dm_ul_1, dm_ul_2, sC_0, sC_1, sC_2, sC_3, sC_4, sC_5, sC_6, sC_7, sC_8, sC_9, sC_10, sC_11, sC_12, sC_13, sC_14, sC_15, sC_16, sC_17, sC_18, sC_19, sC_20, sC_21, sC_22, sC_23, sC_24, sC_25, sC_26, sC_27, sC_28, sC_29, sC_30, sC_31, sC_32, sC_33, sC_34, sC_35, sC_36, sC_37, sC_38, sC_39, sC_40, sC_41, sC_42, sC_43, sC_44, sC_45, sC_46, sC_47, sC_48, sC_49, sC_50, sC_51]
    obtain ⟨h1, h2⟩ := h
    refine ⟨fun q => ?_, fun q => ⟨fun q2 => ?_, fun q2 => ⟨h1 ⟨q, q2⟩, ?_⟩⟩⟩
    · rw [if_neg (fun z => dm_i_le.mpr q z.1)] at h2; exact h2
    · rw [if_neg (fun z => dm_i_lt.mpr q2 z.2)] at h2; exact h2
    · rw [if_pos ⟨q, q2⟩] at h2; exact h2
  · exact h.elim
set_option maxRecDepth 100000 in
theorem t_X10_ring (l : Launch) (D : va_G) (cA : Nat → ClassId) (ad : Nat → Nat) : dm_Met l D dm_cl cA ad shC yX10_ring (Cond.code yX10_ring cX10_ring 2 (dm_rt 1) :: dm_tt) ({ frames := 0, cells := 0, slots := 0, locals := 0 } : Room) sp_X10_ring := dm_meth (own := RX10) (X := x_X10_ring) (Sp := k_X10_ring) (prog := p_X10_ring) (by decide +kernel) rfl rfl (dm_FO_s ffX10 [(73, 10, 7), (167, 0, 3), (170, 0, 1)] rfl dm_hT (by decide +kernel)) (dm_IO_s ifX10 jfX10 [] [] rfl rfl dm_hT (by decide +kernel) (by decide +kernel)) soC (dm_MO_of (fun _ h => absurd h List.not_mem_nil)) v_X10_ring u_X10_ring
def sp_X10_set (As : List Value) (u : dm_S) (Q : Option Value → dm_S → Prop) : Prop := match As with
  | [.ref 0, .int a] => (0 ≤ a ∧ a < u.1 9 2 → vp_in a 24) ∧ Q (some (.int (if 0 ≤ a ∧ a < u.1 9 2 then u.1 48 a.toNatClampNeg else -1))) u
  | _ => False
def p_X10_set : List dm_I := [(0, .iload_n 1, 1, [1]), (1, .ifCond .lt 26, 3, [27]), (4, .iload_n 1, 1, [1]), (5, .aload_n 0, 1, [0]), (6, .getfield 80, 3, []), (9, .getfield 173, 3, []), (12, .if_icmp .ge 15, 3, [27]), (15, .aload_n 0, 1, [0]), (16, .getfield 80, 3, []), (19, .getfield 176, 3, []), (22, .iload_n 1, 1, [1]), (23, .iaload, 1, []), (24, .goto 4, 3, [28]), (27, .iconst (-1), 1, []), (28, .ireturn, 1, [])]
set_option maxRecDepth 100000 in
theorem v_X10_set : p_X10_set.all (dm_vb cX10_set) = true := by decide +kernel
def k_X10_set : dm_Sp := fun a => match a with
  | _ => fun _ _ _ => False
def x_X10_set : dm_X := dm_mk [(80, 10, 8), (173, 8, 2), (176, 8, 1)] [] [] [] 1
set_option maxRecDepth 100000 in
set_option maxHeartbeats 400000 in
theorem u_X10_set : dm_Pure shC x_X10_set k_X10_set p_X10_set 2 sp_X10_set := by
  intro As u Qp h
  unfold sp_X10_set at h
  split at h
  · refine ⟨Nat.le_of_ble_eq_true rfl, fun G Wp hW0 hW1 hG => ?_⟩
    apply hG (fun _ => false) 16
    simp (config := { maxSteps := 2000000 }) [hW0, hW1, dm_fn, dm_fd, dm_x, dm_L0, dm_la, dm_t1, dm_sw, List.headD, dm_ic, dm_mk, dm_s1, dm_s2, dm_clr, dm_cs, dm_cc, dm_nb0, dm_nb1, Value.category, List.lookup, p_X10_set, x_X10_set, k_X10_set, dm_cm, upd, vp_updL, dm_ui_1, dm_ui_2, dm_ul_1, dm_ul_2, sC_0, sC_1, sC_2, sC_3, sC_4, sC_5, sC_6, sC_7, sC_8, sC_9, sC_10, sC_11, sC_12, sC_13, sC_14, sC_15, sC_16, sC_17, sC_18, sC_19, sC_20, sC_21, sC_22, sC_23, sC_24, sC_25, sC_26, sC_27, sC_28, sC_29, sC_30, sC_31, sC_32, sC_33, sC_34, sC_35, sC_36, sC_37, sC_38, sC_39, sC_40, sC_41, sC_42, sC_43, sC_44, sC_45, sC_46, sC_47, sC_48, sC_49, sC_50, sC_51]
    obtain ⟨h1, h2⟩ := h
    refine ⟨fun q => ?_, fun q => ⟨fun q2 => ?_, fun q2 => ⟨h1 ⟨q, q2⟩, ?_⟩⟩⟩
    · rw [if_neg (fun z => dm_i_le.mpr q z.1)] at h2; exact h2
    · rw [if_neg (fun z => dm_i_lt.mpr q2 z.2)] at h2; exact h2
    · rw [if_pos ⟨q, q2⟩] at h2; exact h2
  · exact h.elim
set_option maxRecDepth 100000 in
theorem t_X10_set (l : Launch) (D : va_G) (cA : Nat → ClassId) (ad : Nat → Nat) : dm_Met l D dm_cl cA ad shC yX10_set (Cond.code yX10_set cX10_set 2 (dm_rt 1) :: dm_tt) ({ frames := 0, cells := 0, slots := 0, locals := 0 } : Room) sp_X10_set := dm_meth (own := RX10) (X := x_X10_set) (Sp := k_X10_set) (prog := p_X10_set) (by decide +kernel) rfl rfl (dm_FO_s ffX10 [(80, 10, 8), (173, 8, 2), (176, 8, 1)] rfl dm_hT (by decide +kernel)) (dm_IO_s ifX10 jfX10 [] [] rfl rfl dm_hT (by decide +kernel) (by decide +kernel)) soC (dm_MO_of (fun _ h => absurd h List.not_mem_nil)) v_X10_set u_X10_set
def sp_X10_put (As : List Value) (u : dm_S) (Q : Option Value → dm_S → Prop) : Prop := match As with
  | [.ref 0, .int a, .int b, .long d] => ((0 ≤ a ∧ a < u.1 10 3) ∧ (0 ≤ b ∧ b < u.1 10 3) ∧ -1000000 ≤ d ∧ d ≤ 1000000 → vp_in (a * 8 + b) 64 ∧ Q (some (.int 1)) (dm_ui (dm_ul u 49 (a * 8 + b).toNatClampNeg d) 10 4 0)) ∧ (¬ ((0 ≤ a ∧ a < u.1 10 3) ∧ (0 ≤ b ∧ b < u.1 10 3) ∧ -1000000 ≤ d ∧ d ≤ 1000000) → Q (some (.int 0)) u)
  | _ => False
def p_X10_put : List dm_I := [(0, .aload_n 0, 1, [0]), (1, .getfield 87, 3, []), (4, .iload_n 1, 1, [1]), (5, .invokevirtual 193, 3, []), (8, .ifCond .eq 21, 3, [29]), (11, .aload_n 0, 1, [0]), (12, .getfield 87, 3, []), (15, .iload_n 2, 1, [2]), (16, .invokevirtual 193, 3, []), (19, .ifCond .eq 10, 3, [29]), (22, .lload_n 3, 1, [3]), (23, .invokestatic 98, 3, []), (26, .ifCond .ne 5, 3, [31]), (29, .iconst 0, 1, []), (30, .ireturn, 1, []), (31, .aload_n 0, 1, [0]), (32, .getfield 87, 3, []), (35, .iload_n 1, 1, [1]), (36, .iload_n 2, 1, [2]), (37, .lload_n 3, 1, [3]), (38, .invokevirtual 196, 3, []), (41, .iconst 1, 1, []), (42, .ireturn, 1, [])]
set_option maxRecDepth 100000 in
theorem v_X10_put : p_X10_put.all (dm_vb cX10_put) = true := by decide +kernel
def k_X10_put : dm_Sp := fun a => match a with
  | 0 => sp_X3_has
  | 1 => sp_X10_isUsual
  | 2 => sp_X3_allow
  | _ => fun _ _ _ => False
def x_X10_put : dm_X := dm_mk [(87, 10, 9)] [] [] [(193, 0, 1, 3), (98, 1, 1, 1000), (196, 2, 3, 3)] 3
set_option maxRecDepth 100000 in
set_option maxHeartbeats 400000 in
theorem u_X10_put : dm_Pure shC x_X10_put k_X10_put p_X10_put 5 sp_X10_put := by
  intro As u Qp h
  unfold sp_X10_put at h
  split at h
  · refine ⟨Nat.le_of_ble_eq_true rfl, fun G Wp hW0 hW1 hG => ?_⟩
    apply hG (fun _ => false) 24
    simp (config := { maxSteps := 2000000 }) [hW0, hW1, dm_fn, dm_fd, dm_x, dm_L0, dm_la, dm_t1, dm_sw, List.headD, dm_ic, dm_mk, dm_s1, dm_s2, dm_clr, dm_cs, dm_cc, dm_nb0, dm_nb1, Value.category, List.lookup, p_X10_put, x_X10_put, k_X10_put, dm_cm, upd, vp_updL, dm_ui_1, dm_ui_2, dm_ul_1, dm_ul_2, sp_X3_has, sp_X10_isUsual, sp_X3_allow, sC_0, sC_1, sC_2, sC_3, sC_4, sC_5, sC_6, sC_7, sC_8, sC_9, sC_10, sC_11, sC_12, sC_13, sC_14, sC_15, sC_16, sC_17, sC_18, sC_19, sC_20, sC_21, sC_22, sC_23, sC_24, sC_25, sC_26, sC_27, sC_28, sC_29, sC_30, sC_31, sC_32, sC_33, sC_34, sC_35, sC_36, sC_37, sC_38, sC_39, sC_40, sC_41, sC_42, sC_43, sC_44, sC_45, sC_46, sC_47, sC_48, sC_49, sC_50, sC_51]
    obtain ⟨h1, h2⟩ := h
    exact ⟨fun q => h2 (fun z => dm_i_lt.mpr (q z.1.1) z.1.2), fun a1 a2 => ⟨fun q => h2 (fun z => dm_i_lt.mpr (q z.2.1.1) z.2.1.2), fun b1 b2 => ⟨fun d1 d2 => h1 ⟨⟨a1, a2⟩, ⟨b1, b2⟩, d1, d2⟩, fun q => h2 (fun z => dm_l_le.mpr (q z.2.2.1) z.2.2.2)⟩⟩⟩
  · exact h.elim
set_option maxRecDepth 100000 in
theorem t_X10_put (l : Launch) (D : va_G) (cA : Nat → ClassId) (ad : Nat → Nat) : dm_Met l D dm_cl cA ad shC yX10_put (Cond.code yX10_put cX10_put 5 (dm_rt 3) :: dm_tt) ({ frames := 1, cells := 0, slots := 0, locals := 24 } : Room) sp_X10_put := dm_meth (own := RX10) (X := x_X10_put) (Sp := k_X10_put) (prog := p_X10_put) (by decide +kernel) rfl rfl (dm_FO_s ffX10 [(87, 10, 9)] rfl dm_hT (by decide +kernel)) (dm_IO_s ifX10 jfX10 [] [] rfl rfl dm_hT (by decide +kernel) (by decide +kernel)) soC (dm_MO_of (List.forall_mem_cons.mpr ⟨dm_M1_of (t_X3_has l D cA ad) dm_hT (dm_mem [897, 76, 894] (by decide +kernel) (by decide +kernel)) (by decide) (by decide +kernel) (Or.inr ⟨by decide, dm_mem [895, 896] (by decide +kernel) (by decide +kernel), rfl⟩), List.forall_mem_cons.mpr ⟨dm_M1_of (t_X10_isUsual l D cA ad) dm_hT (dm_mem [470, 66, 468] (by decide +kernel) (by decide +kernel)) (by decide) (by decide +kernel) (Or.inl ⟨rfl, dm_mem (ws := [.static yX10_isUsual]) [469] (by decide +kernel) (by decide +kernel) _ List.mem_cons_self⟩), List.forall_mem_cons.mpr ⟨dm_M1_of (t_X3_allow l D cA ad) dm_hT (dm_mem [901, 76, 898] (by decide +kernel) (by decide +kernel)) (by decide) (by decide +kernel) (Or.inr ⟨by decide, dm_mem [899, 900] (by decide +kernel) (by decide +kernel), rfl⟩), fun _ h => absurd h List.not_mem_nil⟩⟩⟩)) v_X10_put u_X10_put
end
section
/-! ===== the reference's leaves ===== -/
def sp_X11_within (As : List Value) (u : dm_S) (Q : Option Value → dm_S → Prop) : Prop := match As with
  | [.long v, .long a, .long b] => Q (some (.int (if a ≤ v ∧ v ≤ b then 1 else 0))) u
  | _ => False
def p_X11_within : List dm_I := [(0, .lload_n 0, 1, [0]), (1, .lload_n 2, 1, [2]), (2, .lcmp, 1, []), (3, .ifCond .lt 14, 3, [17]), (6, .lload_n 0, 1, [0]), (7, .lload 4, 2, []), (9, .lcmp, 1, []), (10, .ifCond .gt 7, 3, [17]), (13, .iconst 1, 1, []), (14, .goto 4, 3, [18]), (17, .iconst 0, 1, []), (18, .ireturn, 1, [])]
set_option maxRecDepth 100000 in
theorem v_X11_within : p_X11_within.all (dm_vb cX11_within) = true := by decide +kernel
def k_X11_within : dm_Sp := fun a => match a with
  | _ => fun _ _ _ => False
def x_X11_within : dm_X := dm_mk [] [] [] [] 3
set_option maxRecDepth 100000 in
set_option maxHeartbeats 400000 in
theorem u_X11_within : dm_Pure shM x_X11_within k_X11_within p_X11_within 6 sp_X11_within := by
  intro As u Qp h
  unfold sp_X11_within at h
  split at h
  · refine ⟨Nat.le_of_ble_eq_true rfl, fun G Wp hW0 hW1 hG => ?_⟩
    apply hG (fun _ => false) 13
    simp (config := { maxSteps := 2000000 }) [hW0, hW1, dm_fn, dm_fd, dm_x, dm_L0, dm_la, dm_t1, dm_sw, List.headD, dm_ic, dm_mk, dm_s1, dm_s2, dm_clr, dm_cs, dm_cc, dm_nb0, dm_nb1, Value.category, List.lookup, p_X11_within, x_X11_within, k_X11_within, dm_cm, upd, vp_updL, dm_ui_1, dm_ui_2, dm_ul_1, dm_ul_2, sM_0, sM_1, sM_2, sM_3, sM_4, sM_5, sM_6, sM_7, sM_8, sM_9, sM_10, sM_11, sM_12, sM_13, sM_14, sM_15, sM_16, sM_17, sM_18, sM_19, sM_20, sM_21, sM_22, sM_23, sM_24, sM_25, sM_26, sM_27, sM_28, sM_29]
    refine ⟨fun q => ?_, fun q => ⟨fun q2 => ?_, fun q2 => ?_⟩⟩
    · rw [if_neg (fun z => dm_l_le.mpr q z.1)] at h; exact h
    · rw [if_neg (fun z => dm_l_le.mpr q2 z.2)] at h; exact h
    · rw [if_pos ⟨q, q2⟩] at h; exact h
  · exact h.elim
set_option maxRecDepth 100000 in
theorem t_X11_within (l : Launch) (D : va_G) (cA : Nat → ClassId) (ad : Nat → Nat) : dm_Met l D dm_cl cA ad shM yX11_within (Cond.code yX11_within cX11_within 6 (dm_rt 3) :: dm_tt) ({ frames := 0, cells := 0, slots := 0, locals := 0 } : Room) sp_X11_within := dm_meth (own := RX11) (X := x_X11_within) (Sp := k_X11_within) (prog := p_X11_within) (by decide +kernel) rfl rfl (dm_FO_s ffX11 [] rfl dm_hT (by decide +kernel)) (dm_IO_s ifX11 jfX11 [] [] rfl rfl dm_hT (by decide +kernel) (by decide +kernel)) soM (dm_MO_of (fun _ h => absurd h List.not_mem_nil)) v_X11_within u_X11_within
abbrev dm_mg (u : dm_S) : dm_S := dm_ui (dm_ui (dm_ui u 0 10 (-1)) 0 13 0) 0 15 0
def sp_X11_gone (As : List Value) (u : dm_S) (Q : Option Value → dm_S → Prop) : Prop := match As with
  | [.ref 0] => Q none (dm_mg u)
  | _ => False
def p_X11_gone : List dm_I := [(0, .aload_n 0, 1, [0]), (1, .iconst (-1), 1, []), (2, .putfield 99, 3, []), (5, .aload_n 0, 1, [0]), (6, .iconst 0, 1, []), (7, .putfield 103, 3, []), (10, .aload_n 0, 1, [0]), (11, .iconst 0, 1, []), (12, .putfield 106, 3, []), (15, .return_, 1, [])]
set_option maxRecDepth 100000 in
theorem v_X11_gone : p_X11_gone.all (dm_vb cX11_gone) = true := by decide +kernel
def k_X11_gone : dm_Sp := fun a => match a with
  | _ => fun _ _ _ => False
def x_X11_gone : dm_X := dm_mk [(99, 11, 10), (103, 11, 13), (106, 11, 15)] [] [] [] 0
set_option maxRecDepth 100000 in
set_option maxHeartbeats 400000 in
theorem u_X11_gone : dm_Pure shM x_X11_gone k_X11_gone p_X11_gone 1 sp_X11_gone := by
  intro As u Qp h
  unfold sp_X11_gone at h
  split at h
  · refine ⟨Nat.le_of_ble_eq_true rfl, fun G Wp hW0 hW1 hG => ?_⟩
    apply hG (fun _ => false) 11
    simp (config := { maxSteps := 2000000 }) [hW0, hW1, dm_fn, dm_fd, dm_x, dm_L0, dm_la, dm_t1, dm_sw, List.headD, dm_ic, dm_mk, dm_s1, dm_s2, dm_clr, dm_cs, dm_cc, dm_nb0, dm_nb1, Value.category, List.lookup, p_X11_gone, x_X11_gone, k_X11_gone, dm_cm, upd, vp_updL, dm_ui_1, dm_ui_2, dm_ul_1, dm_ul_2, sM_0, sM_1, sM_2, sM_3, sM_4, sM_5, sM_6, sM_7, sM_8, sM_9, sM_10, sM_11, sM_12, sM_13, sM_14, sM_15, sM_16, sM_17, sM_18, sM_19, sM_20, sM_21, sM_22, sM_23, sM_24, sM_25, sM_26, sM_27, sM_28, sM_29]
    exact h
  · exact h.elim
set_option maxRecDepth 100000 in
theorem t_X11_gone (l : Launch) (D : va_G) (cA : Nat → ClassId) (ad : Nat → Nat) : dm_Met l D dm_cl cA ad shM yX11_gone (Cond.code yX11_gone cX11_gone 1 (dm_rt 0) :: dm_tt) ({ frames := 0, cells := 0, slots := 0, locals := 0 } : Room) sp_X11_gone := dm_meth (own := RX11) (X := x_X11_gone) (Sp := k_X11_gone) (prog := p_X11_gone) (by decide +kernel) rfl rfl (dm_FO_s ffX11 [(99, 11, 10), (103, 11, 13), (106, 11, 15)] rfl dm_hT (by decide +kernel)) (dm_IO_s ifX11 jfX11 [] [] rfl rfl dm_hT (by decide +kernel) (by decide +kernel)) soM (dm_MO_of (fun _ h => absurd h List.not_mem_nil)) v_X11_gone u_X11_gone
def sp_X11_isNode (As : List Value) (u : dm_S) (Q : Option Value → dm_S → Prop) : Prop := match As with
  | [.ref 0, .int x] => Q (some (.int (if 0 ≤ x ∧ x < u.1 0 0 then 1 else 0))) u
  | _ => False
def p_X11_isNode : List dm_I := [(0, .iload_n 1, 1, [1]), (1, .ifCond .lt 15, 3, [16]), (4, .iload_n 1, 1, [1]), (5, .aload_n 0, 1, [0]), (6, .getfield 109, 3, []), (9, .if_icmp .ge 7, 3, [16]), (12, .iconst 1, 1, []), (13, .goto 4, 3, [17]), (16, .iconst 0, 1, []), (17, .ireturn, 1, [])]
set_option maxRecDepth 100000 in
theorem v_X11_isNode : p_X11_isNode.all (dm_vb cX11_isNode) = true := by decide +kernel
def k_X11_isNode : dm_Sp := fun a => match a with
  | _ => fun _ _ _ => False
def x_X11_isNode : dm_X := dm_mk [(109, 11, 0)] [] [] [] 3
set_option maxRecDepth 100000 in
set_option maxHeartbeats 400000 in
theorem u_X11_isNode : dm_Pure shM x_X11_isNode k_X11_isNode p_X11_isNode 2 sp_X11_isNode := by
  intro As u Qp h
  unfold sp_X11_isNode at h
  split at h
  · refine ⟨Nat.le_of_ble_eq_true rfl, fun G Wp hW0 hW1 hG => ?_⟩
    apply hG (fun _ => false) 11
    simp (config := { maxSteps := 2000000 }) [hW0, hW1, dm_fn, dm_fd, dm_x, dm_L0, dm_la, dm_t1, dm_sw, List.headD, dm_ic, dm_mk, dm_s1, dm_s2, dm_clr, dm_cs, dm_cc, dm_nb0, dm_nb1, Value.category, List.lookup, p_X11_isNode, x_X11_isNode, k_X11_isNode, dm_cm, upd, vp_updL, dm_ui_1, dm_ui_2, dm_ul_1, dm_ul_2, sM_0, sM_1, sM_2, sM_3, sM_4, sM_5, sM_6, sM_7, sM_8, sM_9, sM_10, sM_11, sM_12, sM_13, sM_14, sM_15, sM_16, sM_17, sM_18, sM_19, sM_20, sM_21, sM_22, sM_23, sM_24, sM_25, sM_26, sM_27, sM_28, sM_29]
    refine ⟨fun q => ?_, fun q => ⟨fun q2 => ?_, fun q2 => ?_⟩⟩
    · rw [if_neg (fun z => dm_i_le.mpr q z.1)] at h; exact h
    · rw [if_neg (fun z => dm_i_lt.mpr q2 z.2)] at h; exact h
    · rw [if_pos ⟨q, q2⟩] at h; exact h
  · exact h.elim
set_option maxRecDepth 100000 in
theorem t_X11_isNode (l : Launch) (D : va_G) (cA : Nat → ClassId) (ad : Nat → Nat) : dm_Met l D dm_cl cA ad shM yX11_isNode (Cond.code yX11_isNode cX11_isNode 2 (dm_rt 3) :: dm_tt) ({ frames := 0, cells := 0, slots := 0, locals := 0 } : Room) sp_X11_isNode := dm_meth (own := RX11) (X := x_X11_isNode) (Sp := k_X11_isNode) (prog := p_X11_isNode) (by decide +kernel) rfl rfl (dm_FO_s ffX11 [(109, 11, 0)] rfl dm_hT (by decide +kernel)) (dm_IO_s ifX11 jfX11 [] [] rfl rfl dm_hT (by decide +kernel) (by decide +kernel)) soM (dm_MO_of (fun _ h => absurd h List.not_mem_nil)) v_X11_isNode u_X11_isNode
def sp_X11_isArc (As : List Value) (u : dm_S) (Q : Option Value → dm_S → Prop) : Prop := match As with
  | [.ref 0, .int x] => Q (some (.int (if 0 ≤ x ∧ x < u.1 0 1 then 1 else 0))) u
  | _ => False
def p_X11_isArc : List dm_I := [(0, .iload_n 1, 1, [1]), (1, .ifCond .lt 15, 3, [16]), (4, .iload_n 1, 1, [1]), (5, .aload_n 0, 1, [0]), (6, .getfield 123, 3, []), (9, .if_icmp .ge 7, 3, [16]), (12, .iconst 1, 1, []), (13, .goto 4, 3, [17]), (16, .iconst 0, 1, []), (17, .ireturn, 1, [])]
set_option maxRecDepth 100000 in
theorem v_X11_isArc : p_X11_isArc.all (dm_vb cX11_isArc) = true := by decide +kernel
def k_X11_isArc : dm_Sp := fun a => match a with
  | _ => fun _ _ _ => False
def x_X11_isArc : dm_X := dm_mk [(123, 11, 1)] [] [] [] 3
set_option maxRecDepth 100000 in
set_option maxHeartbeats 400000 in
theorem u_X11_isArc : dm_Pure shM x_X11_isArc k_X11_isArc p_X11_isArc 2 sp_X11_isArc := by
  intro As u Qp h
  unfold sp_X11_isArc at h
  split at h
  · refine ⟨Nat.le_of_ble_eq_true rfl, fun G Wp hW0 hW1 hG => ?_⟩
    apply hG (fun _ => false) 11
    simp (config := { maxSteps := 2000000 }) [hW0, hW1, dm_fn, dm_fd, dm_x, dm_L0, dm_la, dm_t1, dm_sw, List.headD, dm_ic, dm_mk, dm_s1, dm_s2, dm_clr, dm_cs, dm_cc, dm_nb0, dm_nb1, Value.category, List.lookup, p_X11_isArc, x_X11_isArc, k_X11_isArc, dm_cm, upd, vp_updL, dm_ui_1, dm_ui_2, dm_ul_1, dm_ul_2, sM_0, sM_1, sM_2, sM_3, sM_4, sM_5, sM_6, sM_7, sM_8, sM_9, sM_10, sM_11, sM_12, sM_13, sM_14, sM_15, sM_16, sM_17, sM_18, sM_19, sM_20, sM_21, sM_22, sM_23, sM_24, sM_25, sM_26, sM_27, sM_28, sM_29]
    refine ⟨fun q => ?_, fun q => ⟨fun q2 => ?_, fun q2 => ?_⟩⟩
    · rw [if_neg (fun z => dm_i_le.mpr q z.1)] at h; exact h
    · rw [if_neg (fun z => dm_i_lt.mpr q2 z.2)] at h; exact h
    · rw [if_pos ⟨q, q2⟩] at h; exact h
  · exact h.elim
set_option maxRecDepth 100000 in
theorem t_X11_isArc (l : Launch) (D : va_G) (cA : Nat → ClassId) (ad : Nat → Nat) : dm_Met l D dm_cl cA ad shM yX11_isArc (Cond.code yX11_isArc cX11_isArc 2 (dm_rt 3) :: dm_tt) ({ frames := 0, cells := 0, slots := 0, locals := 0 } : Room) sp_X11_isArc := dm_meth (own := RX11) (X := x_X11_isArc) (Sp := k_X11_isArc) (prog := p_X11_isArc) (by decide +kernel) rfl rfl (dm_FO_s ffX11 [(123, 11, 1)] rfl dm_hT (by decide +kernel)) (dm_IO_s ifX11 jfX11 [] [] rfl rfl dm_hT (by decide +kernel) (by decide +kernel)) soM (dm_MO_of (fun _ h => absurd h List.not_mem_nil)) v_X11_isArc u_X11_isArc
def sp_X11_lesser (As : List Value) (u : dm_S) (Q : Option Value → dm_S → Prop) : Prop := match As with
  | [.long a, .long b] => Q (some (.long (if a < b then a else b))) u
  | _ => False
def p_X11_lesser : List dm_I := [(0, .lload_n 0, 1, [0]), (1, .lload_n 2, 1, [2]), (2, .lcmp, 1, []), (3, .ifCond .ge 7, 3, [10]), (6, .lload_n 0, 1, [0]), (7, .goto 4, 3, [11]), (10, .lload_n 2, 1, [2]), (11, .lreturn, 1, [])]
set_option maxRecDepth 100000 in
theorem v_X11_lesser : p_X11_lesser.all (dm_vb cX11_lesser) = true := by decide +kernel
def k_X11_lesser : dm_Sp := fun a => match a with
  | _ => fun _ _ _ => False
def x_X11_lesser : dm_X := dm_mk [] [] [] [] 2
set_option maxRecDepth 100000 in
set_option maxHeartbeats 400000 in
theorem u_X11_lesser : dm_Pure shM x_X11_lesser k_X11_lesser p_X11_lesser 4 sp_X11_lesser := by
  intro As u Qp h
  unfold sp_X11_lesser at h
  split at h
  · refine ⟨Nat.le_of_ble_eq_true rfl, fun G Wp hW0 hW1 hG => ?_⟩
    apply hG (fun _ => false) 9
    simp (config := { maxSteps := 2000000 }) [hW0, hW1, dm_fn, dm_fd, dm_x, dm_L0, dm_la, dm_t1, dm_sw, List.headD, dm_ic, dm_mk, dm_s1, dm_s2, dm_clr, dm_cs, dm_cc, dm_nb0, dm_nb1, Value.category, List.lookup, p_X11_lesser, x_X11_lesser, k_X11_lesser, dm_cm, upd, vp_updL, dm_ui_1, dm_ui_2, dm_ul_1, dm_ul_2, sM_0, sM_1, sM_2, sM_3, sM_4, sM_5, sM_6, sM_7, sM_8, sM_9, sM_10, sM_11, sM_12, sM_13, sM_14, sM_15, sM_16, sM_17, sM_18, sM_19, sM_20, sM_21, sM_22, sM_23, sM_24, sM_25, sM_26, sM_27, sM_28, sM_29]
    refine ⟨fun q => ?_, fun q => ?_⟩
    · rw [if_neg (dm_l_lt.mpr q)] at h; exact h
    · rw [if_pos q] at h; exact h
  · exact h.elim
set_option maxRecDepth 100000 in
theorem t_X11_lesser (l : Launch) (D : va_G) (cA : Nat → ClassId) (ad : Nat → Nat) : dm_Met l D dm_cl cA ad shM yX11_lesser (Cond.code yX11_lesser cX11_lesser 4 (dm_rt 2) :: dm_tt) ({ frames := 0, cells := 0, slots := 0, locals := 0 } : Room) sp_X11_lesser := dm_meth (own := RX11) (X := x_X11_lesser) (Sp := k_X11_lesser) (prog := p_X11_lesser) (by decide +kernel) rfl rfl (dm_FO_s ffX11 [] rfl dm_hT (by decide +kernel)) (dm_IO_s ifX11 jfX11 [] [] rfl rfl dm_hT (by decide +kernel) (by decide +kernel)) soM (dm_MO_of (fun _ h => absurd h List.not_mem_nil)) v_X11_lesser u_X11_lesser
def sp_X11_lastCost (As : List Value) (u : dm_S) (Q : Option Value → dm_S → Prop) : Prop := match As with
  | [.ref 0, .int a] => vp_in a 80 ∧ vp_in (4 * a + u.1 6 a.toNatClampNeg) 320 ∧ Q (some (.long (u.2 7 (4 * a + u.1 6 a.toNatClampNeg).toNatClampNeg))) u
  | _ => False
def p_X11_lastCost : List dm_I := [(0, .aload_n 0, 1, [0]), (1, .getfield 29, 3, []), (4, .iconst 4, 1, []), (5, .iload_n 1, 1, [1]), (6, .imul, 1, []), (7, .aload_n 0, 1, [0]), (8, .getfield 26, 3, []), (11, .iload_n 1, 1, [1]), (12, .iaload, 1, []), (13, .iadd, 1, []), (14, .laload, 1, []), (15, .lreturn, 1, [])]
set_option maxRecDepth 100000 in
theorem v_X11_lastCost : p_X11_lastCost.all (dm_vb cX11_lastCost) = true := by decide +kernel
def k_X11_lastCost : dm_Sp := fun a => match a with
  | _ => fun _ _ _ => False
def x_X11_lastCost : dm_X := dm_mk [(26, 11, 7), (29, 11, 8)] [] [] [] 2
set_option maxRecDepth 100000 in
set_option maxHeartbeats 400000 in
theorem u_X11_lastCost : dm_Pure shM x_X11_lastCost k_X11_lastCost p_X11_lastCost 2 sp_X11_lastCost := by
  intro As u Qp h
  unfold sp_X11_lastCost at h
  split at h
  · refine ⟨Nat.le_of_ble_eq_true rfl, fun G Wp hW0 hW1 hG => ?_⟩
    apply hG (fun _ => false) 13
    simp (config := { maxSteps := 2000000 }) [hW0, hW1, dm_fn, dm_fd, dm_x, dm_L0, dm_la, dm_t1, dm_sw, List.headD, dm_ic, dm_mk, dm_s1, dm_s2, dm_clr, dm_cs, dm_cc, dm_nb0, dm_nb1, Value.category, List.lookup, p_X11_lastCost, x_X11_lastCost, k_X11_lastCost, dm_cm, upd, vp_updL, dm_ui_1, dm_ui_2, dm_ul_1, dm_ul_2, sM_0, sM_1, sM_2, sM_3, sM_4, sM_5, sM_6, sM_7, sM_8, sM_9, sM_10, sM_11, sM_12, sM_13, sM_14, sM_15, sM_16, sM_17, sM_18, sM_19, sM_20, sM_21, sM_22, sM_23, sM_24, sM_25, sM_26, sM_27, sM_28, sM_29]
    exact h
  · exact h.elim
set_option maxRecDepth 100000 in
theorem t_X11_lastCost (l : Launch) (D : va_G) (cA : Nat → ClassId) (ad : Nat → Nat) : dm_Met l D dm_cl cA ad shM yX11_lastCost (Cond.code yX11_lastCost cX11_lastCost 2 (dm_rt 2) :: dm_tt) ({ frames := 0, cells := 0, slots := 0, locals := 0 } : Room) sp_X11_lastCost := dm_meth (own := RX11) (X := x_X11_lastCost) (Sp := k_X11_lastCost) (prog := p_X11_lastCost) (by decide +kernel) rfl rfl (dm_FO_s ffX11 [(26, 11, 7), (29, 11, 8)] rfl dm_hT (by decide +kernel)) (dm_IO_s ifX11 jfX11 [] [] rfl rfl dm_hT (by decide +kernel) (by decide +kernel)) soM (dm_MO_of (fun _ h => absurd h List.not_mem_nil)) v_X11_lastCost u_X11_lastCost
def sp_X11_room (As : List Value) (u : dm_S) (Q : Option Value → dm_S → Prop) : Prop := match As with
  | [.ref 0, .int p, .int b] => vp_in p 400 ∧ Q (some (.long (if b = 0 then u.2 17 p.toNatClampNeg else u.2 15 p.toNatClampNeg - u.2 17 p.toNatClampNeg))) u
  | _ => False
def p_X11_room : List dm_I := [(0, .iload_n 2, 1, [2]), (1, .ifCond .eq 19, 3, [20]), (4, .aload_n 0, 1, [0]), (5, .getfield 53, 3, []), (8, .iload_n 1, 1, [1]), (9, .laload, 1, []), (10, .aload_n 0, 1, [0]), (11, .getfield 59, 3, []), (14, .iload_n 1, 1, [1]), (15, .laload, 1, []), (16, .lsub, 1, []), (17, .goto 9, 3, [26]), (20, .aload_n 0, 1, [0]), (21, .getfield 59, 3, []), (24, .iload_n 1, 1, [1]), (25, .laload, 1, []), (26, .lreturn, 1, [])]
set_option maxRecDepth 100000 in
theorem v_X11_room : p_X11_room.all (dm_vb cX11_room) = true := by decide +kernel
def k_X11_room : dm_Sp := fun a => match a with
  | _ => fun _ _ _ => False
def x_X11_room : dm_X := dm_mk [(53, 11, 21), (59, 11, 23)] [] [] [] 2
set_option maxRecDepth 100000 in
set_option maxHeartbeats 400000 in
theorem u_X11_room : dm_Pure shM x_X11_room k_X11_room p_X11_room 3 sp_X11_room := by
  intro As u Qp h
  unfold sp_X11_room at h
  split at h
  · refine ⟨Nat.le_of_ble_eq_true rfl, fun G Wp hW0 hW1 hG => ?_⟩
    apply hG (fun _ => false) 18
    simp (config := { maxSteps := 2000000 }) [hW0, hW1, dm_fn, dm_fd, dm_x, dm_L0, dm_la, dm_t1, dm_sw, List.headD, dm_ic, dm_mk, dm_s1, dm_s2, dm_clr, dm_cs, dm_cc, dm_nb0, dm_nb1, Value.category, List.lookup, p_X11_room, x_X11_room, k_X11_room, dm_cm, upd, vp_updL, dm_ui_1, dm_ui_2, dm_ul_1, dm_ul_2, sM_0, sM_1, sM_2, sM_3, sM_4, sM_5, sM_6, sM_7, sM_8, sM_9, sM_10, sM_11, sM_12, sM_13, sM_14, sM_15, sM_16, sM_17, sM_18, sM_19, sM_20, sM_21, sM_22, sM_23, sM_24, sM_25, sM_26, sM_27, sM_28, sM_29]
    refine ⟨fun q => ⟨h.1, ?_⟩, fun q => ⟨h.1, ?_⟩⟩
    · have := h.2; rw [if_pos q] at this; exact this
    · have := h.2; rw [if_neg q] at this; exact this
  · exact h.elim
set_option maxRecDepth 100000 in
theorem t_X11_room (l : Launch) (D : va_G) (cA : Nat → ClassId) (ad : Nat → Nat) : dm_Met l D dm_cl cA ad shM yX11_room (Cond.code yX11_room cX11_room 3 (dm_rt 2) :: dm_tt) ({ frames := 0, cells := 0, slots := 0, locals := 0 } : Room) sp_X11_room := dm_meth (own := RX11) (X := x_X11_room) (Sp := k_X11_room) (prog := p_X11_room) (by decide +kernel) rfl rfl (dm_FO_s ffX11 [(53, 11, 21), (59, 11, 23)] rfl dm_hT (by decide +kernel)) (dm_IO_s ifX11 jfX11 [] [] rfl rfl dm_hT (by decide +kernel) (by decide +kernel)) soM (dm_MO_of (fun _ h => absurd h List.not_mem_nil)) v_X11_room u_X11_room
def sp_X11_tail (As : List Value) (u : dm_S) (Q : Option Value → dm_S → Prop) : Prop := match As with
  | [.ref 0, .int p, .int b] => vp_in p 400 ∧ Q (some (.int (if b = 0 then u.1 13 p.toNatClampNeg else u.1 12 p.toNatClampNeg))) u
  | _ => False
def p_X11_tail : List dm_I := [(0, .iload_n 2, 1, [2]), (1, .ifCond .eq 12, 3, [13]), (4, .aload_n 0, 1, [0]), (5, .getfield 44, 3, []), (8, .iload_n 1, 1, [1]), (9, .iaload, 1, []), (10, .goto 9, 3, [19]), (13, .aload_n 0, 1, [0]), (14, .getfield 47, 3, []), (17, .iload_n 1, 1, [1]), (18, .iaload, 1, []), (19, .ireturn, 1, [])]
set_option maxRecDepth 100000 in
theorem v_X11_tail : p_X11_tail.all (dm_vb cX11_tail) = true := by decide +kernel
def k_X11_tail : dm_Sp := fun a => match a with
  | _ => fun _ _ _ => False
def x_X11_tail : dm_X := dm_mk [(44, 11, 18), (47, 11, 19)] [] [] [] 1
set_option maxRecDepth 100000 in
set_option maxHeartbeats 400000 in
theorem u_X11_tail : dm_Pure shM x_X11_tail k_X11_tail p_X11_tail 3 sp_X11_tail := by
  intro As u Qp h
  unfold sp_X11_tail at h
  split at h
  · refine ⟨Nat.le_of_ble_eq_true rfl, fun G Wp hW0 hW1 hG => ?_⟩
    apply hG (fun _ => false) 13
    simp (config := { maxSteps := 2000000 }) [hW0, hW1, dm_fn, dm_fd, dm_x, dm_L0, dm_la, dm_t1, dm_sw, List.headD, dm_ic, dm_mk, dm_s1, dm_s2, dm_clr, dm_cs, dm_cc, dm_nb0, dm_nb1, Value.category, List.lookup, p_X11_tail, x_X11_tail, k_X11_tail, dm_cm, upd, vp_updL, dm_ui_1, dm_ui_2, dm_ul_1, dm_ul_2, sM_0, sM_1, sM_2, sM_3, sM_4, sM_5, sM_6, sM_7, sM_8, sM_9, sM_10, sM_11, sM_12, sM_13, sM_14, sM_15, sM_16, sM_17, sM_18, sM_19, sM_20, sM_21, sM_22, sM_23, sM_24, sM_25, sM_26, sM_27, sM_28, sM_29]
    refine ⟨fun q => ⟨h.1, ?_⟩, fun q => ⟨h.1, ?_⟩⟩
    · have := h.2; rw [if_pos q] at this; exact this
    · have := h.2; rw [if_neg q] at this; exact this
  · exact h.elim
set_option maxRecDepth 100000 in
theorem t_X11_tail (l : Launch) (D : va_G) (cA : Nat → ClassId) (ad : Nat → Nat) : dm_Met l D dm_cl cA ad shM yX11_tail (Cond.code yX11_tail cX11_tail 3 (dm_rt 1) :: dm_tt) ({ frames := 0, cells := 0, slots := 0, locals := 0 } : Room) sp_X11_tail := dm_meth (own := RX11) (X := x_X11_tail) (Sp := k_X11_tail) (prog := p_X11_tail) (by decide +kernel) rfl rfl (dm_FO_s ffX11 [(44, 11, 18), (47, 11, 19)] rfl dm_hT (by decide +kernel)) (dm_IO_s ifX11 jfX11 [] [] rfl rfl dm_hT (by decide +kernel) (by decide +kernel)) soM (dm_MO_of (fun _ h => absurd h List.not_mem_nil)) v_X11_tail u_X11_tail
def sp_X11_head (As : List Value) (u : dm_S) (Q : Option Value → dm_S → Prop) : Prop := match As with
  | [.ref 0, .int p, .int b] => vp_in p 400 ∧ Q (some (.int (if b = 0 then u.1 12 p.toNatClampNeg else u.1 13 p.toNatClampNeg))) u
  | _ => False
def p_X11_head : List dm_I := [(0, .iload_n 2, 1, [2]), (1, .ifCond .eq 12, 3, [13]), (4, .aload_n 0, 1, [0]), (5, .getfield 47, 3, []), (8, .iload_n 1, 1, [1]), (9, .iaload, 1, []), (10, .goto 9, 3, [19]), (13, .aload_n 0, 1, [0]), (14, .getfield 44, 3, []), (17, .iload_n 1, 1, [1]), (18, .iaload, 1, []), (19, .ireturn, 1, [])]
set_option maxRecDepth 100000 in
theorem v_X11_head : p_X11_head.all (dm_vb cX11_head) = true := by decide +kernel
def k_X11_head : dm_Sp := fun a => match a with
  | _ => fun _ _ _ => False
def x_X11_head : dm_X := dm_mk [(44, 11, 18), (47, 11, 19)] [] [] [] 1
set_option maxRecDepth 100000 in
set_option maxHeartbeats 400000 in
theorem u_X11_head : dm_Pure shM x_X11_head k_X11_head p_X11_head 3 sp_X11_head := by
  intro As u Qp h
  unfold sp_X11_head at h
  split at h
  · refine ⟨Nat.le_of_ble_eq_true rfl, fun G Wp hW0 hW1 hG => ?_⟩
    apply hG (fun _ => false) 13
    simp (config := { maxSteps := 2000000 }) [hW0, hW1, dm_fn, dm_fd, dm_x, dm_L0, dm_la, dm_t1, dm_sw, List.headD, dm_ic, dm_mk, dm_s1, dm_s2, dm_clr, dm_cs, dm_cc, dm_nb0, dm_nb1, Value.category, List.lookup, p_X11_head, x_X11_head, k_X11_head, dm_cm, upd, vp_updL, dm_ui_1, dm_ui_2, dm_ul_1, dm_ul_2, sM_0, sM_1, sM_2, sM_3, sM_4, sM_5, sM_6, sM_7, sM_8, sM_9, sM_10, sM_11, sM_12, sM_13, sM_14, sM_15, sM_16, sM_17, sM_18, sM_19, sM_20, sM_21, sM_22, sM_23, sM_24, sM_25, sM_26, sM_27, sM_28, sM_29]
    refine ⟨fun q => ⟨h.1, ?_⟩, fun q => ⟨h.1, ?_⟩⟩
    · have := h.2; rw [if_pos q] at this; exact this
    · have := h.2; rw [if_neg q] at this; exact this
  · exact h.elim
set_option maxRecDepth 100000 in
theorem t_X11_head (l : Launch) (D : va_G) (cA : Nat → ClassId) (ad : Nat → Nat) : dm_Met l D dm_cl cA ad shM yX11_head (Cond.code yX11_head cX11_head 3 (dm_rt 1) :: dm_tt) ({ frames := 0, cells := 0, slots := 0, locals := 0 } : Room) sp_X11_head := dm_meth (own := RX11) (X := x_X11_head) (Sp := k_X11_head) (prog := p_X11_head) (by decide +kernel) rfl rfl (dm_FO_s ffX11 [(44, 11, 18), (47, 11, 19)] rfl dm_hT (by decide +kernel)) (dm_IO_s ifX11 jfX11 [] [] rfl rfl dm_hT (by decide +kernel) (by decide +kernel)) soM (dm_MO_of (fun _ h => absurd h List.not_mem_nil)) v_X11_head u_X11_head
def sp_X11_canGrow (As : List Value) (u : dm_S) (Q : Option Value → dm_S → Prop) : Prop := match As with
  | [.ref 0, .int a] => vp_in a 80 ∧ Q (some (.int (if u.2 5 a.toNatClampNeg = -2 ∨ u.2 9 a.toNatClampNeg < u.2 5 a.toNatClampNeg then 1 else 0))) u
  | _ => False
def p_X11_canGrow : List dm_I := [(0, .aload_n 0, 1, [0]), (1, .getfield 23, 3, []), (4, .iload_n 1, 1, [1]), (5, .laload, 1, []), (6, .ldc2_w 130, 3, []), (9, .lcmp, 1, []), (10, .ifCond .eq 19, 3, [29]), (13, .aload_n 0, 1, [0]), (14, .getfield 35, 3, []), (17, .iload_n 1, 1, [1]), (18, .laload, 1, []), (19, .aload_n 0, 1, [0]), (20, .getfield 23, 3, []), (23, .iload_n 1, 1, [1]), (24, .laload, 1, []), (25, .lcmp, 1, []), (26, .ifCond .ge 7, 3, [33]), (29, .iconst 1, 1, []), (30, .goto 4, 3, [34]), (33, .iconst 0, 1, []), (34, .ireturn, 1, [])]
set_option maxRecDepth 100000 in
theorem v_X11_canGrow : p_X11_canGrow.all (dm_vb cX11_canGrow) = true := by decide +kernel
def k_X11_canGrow : dm_Sp := fun a => match a with
  | _ => fun _ _ _ => False
def x_X11_canGrow : dm_X := dm_mk [(23, 11, 6), (35, 11, 11)] [] [(130, -2)] [] 3
set_option maxRecDepth 100000 in
set_option maxHeartbeats 400000 in
theorem u_X11_canGrow : dm_Pure shM x_X11_canGrow k_X11_canGrow p_X11_canGrow 2 sp_X11_canGrow := by
  intro As u Qp h
  unfold sp_X11_canGrow at h
  split at h
  · refine ⟨Nat.le_of_ble_eq_true rfl, fun G Wp hW0 hW1 hG => ?_⟩
    apply hG (fun _ => false) 22
    simp (config := { maxSteps := 2000000 }) [hW0, hW1, dm_fn, dm_fd, dm_x, dm_L0, dm_la, dm_t1, dm_sw, List.headD, dm_ic, dm_mk, dm_s1, dm_s2, dm_clr, dm_cs, dm_cc, dm_nb0, dm_nb1, Value.category, List.lookup, p_X11_canGrow, x_X11_canGrow, k_X11_canGrow, dm_cm, upd, vp_updL, dm_ui_1, dm_ui_2, dm_ul_1, dm_ul_2, sM_0, sM_1, sM_2, sM_3, sM_4, sM_5, sM_6, sM_7, sM_8, sM_9, sM_10, sM_11, sM_12, sM_13, sM_14, sM_15, sM_16, sM_17, sM_18, sM_19, sM_20, sM_21, sM_22, sM_23, sM_24, sM_25, sM_26, sM_27, sM_28, sM_29]
    obtain ⟨h1, h2⟩ := h
    refine ⟨h1, fun q => ?_, fun q => ⟨h1, fun q2 => ?_, fun q2 => ?_⟩⟩
    · rw [if_pos (Or.inl q)] at h2; exact h2
    · rw [if_neg (fun z => z.elim q (dm_l_lt.mpr q2))] at h2; exact h2
    · rw [if_pos (Or.inr q2)] at h2; exact h2
  · exact h.elim
set_option maxRecDepth 100000 in
theorem t_X11_canGrow (l : Launch) (D : va_G) (cA : Nat → ClassId) (ad : Nat → Nat) : dm_Met l D dm_cl cA ad shM yX11_canGrow (Cond.code yX11_canGrow cX11_canGrow 2 (dm_rt 3) :: dm_tt) ({ frames := 0, cells := 0, slots := 0, locals := 0 } : Room) sp_X11_canGrow := dm_meth (own := RX11) (X := x_X11_canGrow) (Sp := k_X11_canGrow) (prog := p_X11_canGrow) (by decide +kernel) rfl rfl (dm_FO_s ffX11 [(23, 11, 6), (35, 11, 11)] rfl dm_hT (by decide +kernel)) (dm_IO_s ifX11 jfX11 [] [(130, -2)] rfl rfl dm_hT (by decide +kernel) (by decide +kernel)) soM (dm_MO_of (fun _ h => absurd h List.not_mem_nil)) v_X11_canGrow u_X11_canGrow
def sp_X11_addPart (As : List Value) (u : dm_S) (Q : Option Value → dm_S → Prop) : Prop := match As with
  | [.ref 0, .int a, .int b, .int d, .long r, .long k] => vp_in (u.1 0 17) 400 ∧ Q none (dm_ui (dm_ul (dm_ul (dm_ul (dm_ui (dm_ui (dm_ui u 12 (u.1 0 17).toNatClampNeg a) 13 (u.1 0 17).toNatClampNeg b) 14 (u.1 0 17).toNatClampNeg d) 15 (u.1 0 17).toNatClampNeg r) 16 (u.1 0 17).toNatClampNeg k) 17 (u.1 0 17).toNatClampNeg 0) 0 17 (u.1 0 17 + 1))
  | _ => False
def p_X11_addPart : List dm_I := [(0, .aload_n 0, 1, [0]), (1, .getfield 44, 3, []), (4, .aload_n 0, 1, [0]), (5, .getfield 139, 3, []), (8, .iload_n 1, 1, [1]), (9, .iastore, 1, []), (10, .aload_n 0, 1, [0]), (11, .getfield 47, 3, []), (14, .aload_n 0, 1, [0]), (15, .getfield 139, 3, []), (18, .iload_n 2, 1, [2]), (19, .iastore, 1, []), (20, .aload_n 0, 1, [0]), (21, .getfield 50, 3, []), (24, .aload_n 0, 1, [0]), (25, .getfield 139, 3, []), (28, .iload_n 3, 1, [3]), (29, .iastore, 1, []), (30, .aload_n 0, 1, [0]), (31, .getfield 53, 3, []), (34, .aload_n 0, 1, [0]), (35, .getfield 139, 3, []), (38, .lload 4, 2, []), (40, .lastore, 1, []), (41, .aload_n 0, 1, [0]), (42, .getfield 56, 3, []), (45, .aload_n 0, 1, [0]), (46, .getfield 139, 3, []), (49, .lload 6, 2, []), (51, .lastore, 1, []), (52, .aload_n 0, 1, [0]), (53, .getfield 59, 3, []), (56, .aload_n 0, 1, [0]), (57, .getfield 139, 3, []), (60, .lconst 0, 1, []), (61, .lastore, 1, []), (62, .aload_n 0, 1, [0]), (63, .dup, 1, []), (64, .getfield 139, 3, []), (67, .iconst 1, 1, []), (68, .iadd, 1, []), (69, .putfield 139, 3, []), (72, .return_, 1, [])]
set_option maxRecDepth 100000 in
theorem v_X11_addPart : p_X11_addPart.all (dm_vb cX11_addPart) = true := by decide +kernel
def k_X11_addPart : dm_Sp := fun a => match a with
  | _ => fun _ _ _ => False
def x_X11_addPart : dm_X := dm_mk [(44, 11, 18), (47, 11, 19), (50, 11, 20), (53, 11, 21), (56, 11, 22), (59, 11, 23), (139, 11, 17)] [] [] [] 0
set_option maxRecDepth 100000 in
set_option maxHeartbeats 400000 in
theorem u_X11_addPart : dm_Pure shM x_X11_addPart k_X11_addPart p_X11_addPart 8 sp_X11_addPart := by
  intro As u Qp h
  unfold sp_X11_addPart at h
  split at h
  · refine ⟨Nat.le_of_ble_eq_true rfl, fun G Wp hW0 hW1 hG => ?_⟩
    apply hG (fun _ => false) 44
    simp (config := { maxSteps := 2000000 }) [hW0, hW1, dm_fn, dm_fd, dm_x, dm_L0, dm_la, dm_t1, dm_sw, List.headD, dm_ic, dm_mk, dm_s1, dm_s2, dm_clr, dm_cs, dm_cc, dm_nb0, dm_nb1, Value.category, List.lookup, p_X11_addPart, x_X11_addPart, k_X11_addPart, dm_cm, upd, vp_updL, dm_ui_1, dm_ui_2, dm_ul_1, dm_ul_2, sM_0, sM_1, sM_2, sM_3, sM_4, sM_5, sM_6, sM_7, sM_8, sM_9, sM_10, sM_11, sM_12, sM_13, sM_14, sM_15, sM_16, sM_17, sM_18, sM_19, sM_20, sM_21, sM_22, sM_23, sM_24, sM_25, sM_26, sM_27, sM_28, sM_29]
    exact h
  · exact h.elim
set_option maxRecDepth 100000 in
theorem t_X11_addPart (l : Launch) (D : va_G) (cA : Nat → ClassId) (ad : Nat → Nat) : dm_Met l D dm_cl cA ad shM yX11_addPart (Cond.code yX11_addPart cX11_addPart 8 (dm_rt 0) :: dm_tt) ({ frames := 0, cells := 0, slots := 0, locals := 0 } : Room) sp_X11_addPart := dm_meth (own := RX11) (X := x_X11_addPart) (Sp := k_X11_addPart) (prog := p_X11_addPart) (by decide +kernel) rfl rfl (dm_FO_s ffX11 [(44, 11, 18), (47, 11, 19), (50, 11, 20), (53, 11, 21), (56, 11, 22), (59, 11, 23), (139, 11, 17)] rfl dm_hT (by decide +kernel)) (dm_IO_s ifX11 jfX11 [] [] rfl rfl dm_hT (by decide +kernel) (by decide +kernel)) soM (dm_MO_of (fun _ h => absurd h List.not_mem_nil)) v_X11_addPart u_X11_addPart
def sp_X11_node (As : List Value) (u : dm_S) (Q : Option Value → dm_S → Prop) : Prop := match As with
  | [.ref 0, .long a] => (¬ u.1 0 0 = 24 ∧ -1000000 ≤ a ∧ a ≤ 1000000 → vp_in (u.1 0 0) 24 ∧ Q (some (.int (u.1 0 0))) (dm_mg (dm_ui (dm_ul u 1 (u.1 0 0).toNatClampNeg a) 0 0 (u.1 0 0 + 1)))) ∧ (¬ (¬ u.1 0 0 = 24 ∧ -1000000 ≤ a ∧ a ≤ 1000000) → Q (some (.int (-1))) u)
  | _ => False
def p_X11_node : List dm_I := [(0, .aload_n 0, 1, [0]), (1, .getfield 109, 3, []), (4, .bipush 24, 2, []), (6, .if_icmp .eq 16, 3, [22]), (9, .lload_n 1, 1, [1]), (10, .ldc2_w 112, 3, []), (13, .ldc2_w 114, 3, []), (16, .invokestatic 116, 3, []), (19, .ifCond .ne 5, 3, [24]), (22, .iconst (-1), 1, []), (23, .ireturn, 1, []), (24, .aload_n 0, 1, [0]), (25, .getfield 7, 3, []), (28, .aload_n 0, 1, [0]), (29, .getfield 109, 3, []), (32, .lload_n 1, 1, [1]), (33, .lastore, 1, []), (34, .aload_n 0, 1, [0]), (35, .dup, 1, []), (36, .getfield 109, 3, []), (39, .iconst 1, 1, []), (40, .iadd, 1, []), (41, .putfield 109, 3, []), (44, .aload_n 0, 1, [0]), (45, .invokevirtual 120, 3, []), (48, .aload_n 0, 1, [0]), (49, .getfield 109, 3, []), (52, .iconst 1, 1, []), (53, .isub, 1, []), (54, .ireturn, 1, [])]
set_option maxRecDepth 100000 in
theorem v_X11_node : p_X11_node.all (dm_vb cX11_node) = true := by decide +kernel
def k_X11_node : dm_Sp := fun a => match a with
  | 0 => sp_X11_within
  | 1 => sp_X11_gone
  | _ => fun _ _ _ => False
def x_X11_node : dm_X := dm_mk [(7, 11, 2), (109, 11, 0)] [] [(112, -1000000), (114, 1000000)] [(116, 0, 3, 1000), (120, 1, 0, 11)] 1
set_option maxRecDepth 100000 in
set_option maxHeartbeats 400000 in
theorem u_X11_node : dm_Pure shM x_X11_node k_X11_node p_X11_node 3 sp_X11_node := by
  intro As u Qp h
  unfold sp_X11_node at h
  split at h
  · refine ⟨Nat.le_of_ble_eq_true rfl, fun G Wp hW0 hW1 hG => ?_⟩
    apply hG (fun _ => false) 31
    simp (config := { maxSteps := 2000000 }) [hW0, hW1, dm_fn, dm_fd, dm_x, dm_L0, dm_la, dm_t1, dm_sw, List.headD, dm_ic, dm_mk, dm_s1, dm_s2, dm_clr, dm_cs, dm_cc, dm_nb0, dm_nb1, Value.category, List.lookup, p_X11_node, x_X11_node, k_X11_node, dm_cm, upd, vp_updL, dm_ui_1, dm_ui_2, dm_ul_1, dm_ul_2, sp_X11_within, sp_X11_gone, sM_0, sM_1, sM_2, sM_3, sM_4, sM_5, sM_6, sM_7, sM_8, sM_9, sM_10, sM_11, sM_12, sM_13, sM_14, sM_15, sM_16, sM_17, sM_18, sM_19, sM_20, sM_21, sM_22, sM_23, sM_24, sM_25, sM_26, sM_27, sM_28, sM_29]
    exact ⟨fun q => h.2 (fun z => z.1 q), fun q => ⟨fun q1 q2 => h.1 ⟨q, q1, q2⟩, fun q1 => h.2 (fun z => dm_l_le.mpr (q1 z.2.1) z.2.2)⟩⟩
  · exact h.elim
set_option maxRecDepth 100000 in
theorem t_X11_node (l : Launch) (D : va_G) (cA : Nat → ClassId) (ad : Nat → Nat) : dm_Met l D dm_cl cA ad shM yX11_node (Cond.code yX11_node cX11_node 3 (dm_rt 1) :: dm_tt) ({ frames := 1, cells := 0, slots := 0, locals := 25 } : Room) sp_X11_node := dm_meth (own := RX11) (X := x_X11_node) (Sp := k_X11_node) (prog := p_X11_node) (by decide +kernel) rfl rfl (dm_FO_s ffX11 [(7, 11, 2), (109, 11, 0)] rfl dm_hT (by decide +kernel)) (dm_IO_s ifX11 jfX11 [] [(112, -1000000), (114, 1000000)] rfl rfl dm_hT (by decide +kernel) (by decide +kernel)) soM (dm_MO_of (List.forall_mem_cons.mpr ⟨dm_M1_of (t_X11_within l D cA ad) dm_hT (dm_mem [1072, 77, 1070] (by decide +kernel) (by decide +kernel)) (by decide) (by decide +kernel) (Or.inl ⟨rfl, dm_mem (ws := [.static yX11_within]) [1071] (by decide +kernel) (by decide +kernel) _ List.mem_cons_self⟩), List.forall_mem_cons.mpr ⟨dm_M1_of (t_X11_gone l D cA ad) dm_hT (dm_mem [1076, 77, 1073] (by decide +kernel) (by decide +kernel)) (by decide) (by decide +kernel) (Or.inr ⟨by decide, dm_mem [1075, 40] (by decide +kernel) (by decide +kernel), rfl⟩), fun _ h => absurd h List.not_mem_nil⟩⟩)) v_X11_node u_X11_node
def dm_am (u : dm_S) (a b : Int32) (lo mo co : Int64) : Prop := (0 ≤ a ∧ a < u.1 0 0) ∧ (0 ≤ b ∧ b < u.1 0 0) ∧ ¬ a = b ∧ ¬ u.1 0 1 = 80 ∧ (0 ≤ lo ∧ lo ≤ 1000000) ∧ (-1000000 ≤ co ∧ co ≤ 1000000) ∧ (mo = -2 ∨ lo ≤ mo ∧ mo ≤ 1000000)
def sp_X11_arc (As : List Value) (u : dm_S) (Q : Option Value → dm_S → Prop) : Prop := match As with
  | [.ref 0, .int a, .int b, .long lo, .long mo, .long co] => (dm_am u a b lo mo co → vp_in (u.1 0 1) 80 ∧ vp_in (4 * u.1 0 1) 320 ∧ Q (some (.int (u.1 0 1))) (dm_mg (dm_ui (dm_ul (dm_ui (dm_ul (dm_ul (dm_ui (dm_ui u 2 (u.1 0 1).toNatClampNeg a) 3 (u.1 0 1).toNatClampNeg b) 4 (u.1 0 1).toNatClampNeg lo) 5 (u.1 0 1).toNatClampNeg mo) 6 (u.1 0 1).toNatClampNeg 0) 7 (4 * u.1 0 1).toNatClampNeg co) 0 1 (u.1 0 1 + 1)))) ∧ (¬ dm_am u a b lo mo co → Q (some (.int (-1))) u)
  | _ => False
def p_X11_arc : List dm_I := [(0, .aload_n 0, 1, [0]), (1, .iload_n 1, 1, [1]), (2, .invokevirtual 126, 3, []), (5, .ifCond .eq 50, 3, [55]), (8, .aload_n 0, 1, [0]), (9, .iload_n 2, 1, [2]), (10, .invokevirtual 126, 3, []), (13, .ifCond .eq 42, 3, [55]), (16, .iload_n 1, 1, [1]), (17, .iload_n 2, 1, [2]), (18, .if_icmp .eq 37, 3, [55]), (21, .aload_n 0, 1, [0]), (22, .getfield 123, 3, []), (25, .bipush 80, 2, []), (27, .if_icmp .eq 28, 3, [55]), (30, .lload_n 3, 1, [3]), (31, .lconst 0, 1, []), (32, .ldc2_w 114, 3, []), (35, .invokestatic 116, 3, []), (38, .ifCond .eq 17, 3, [55]), (41, .lload 7, 2, []), (43, .ldc2_w 112, 3, []), (46, .ldc2_w 114, 3, []), (49, .invokestatic 116, 3, []), (52, .ifCond .ne 7, 3, [59]), (55, .iconst 1, 1, []), (56, .goto 4, 3, [60]), (59, .iconst 0, 1, []), (60, .istore 9, 2, []), (62, .iload 9, 2, []), (64, .ifCond .ne 24, 3, [88]), (67, .lload 5, 2, []), (69, .ldc2_w 130, 3, []), (72, .lcmp, 1, []), (73, .ifCond .eq 17, 3, [90]), (76, .lload 5, 2, []), (78, .lload_n 3, 1, [3]), (79, .ldc2_w 114, 3, []), (82, .invokestatic 116, 3, []), (85, .ifCond .ne 5, 3, [90]), (88, .iconst (-1), 1, []), (89, .ireturn, 1, []), (90, .aload_n 0, 1, [0]), (91, .getfield 13, 3, []), (94, .aload_n 0, 1, [0]), (95, .getfield 123, 3, []), (98, .iload_n 1, 1, [1]), (99, .iastore, 1, []), (100, .aload_n 0, 1, [0]), (101, .getfield 17, 3, []), (104, .aload_n 0, 1, [0]), (105, .getfield 123, 3, []), (108, .iload_n 2, 1, [2]), (109, .iastore, 1, []), (110, .aload_n 0, 1, [0]), (111, .getfield 20, 3, []), (114, .aload_n 0, 1, [0]), (115, .getfield 123, 3, []), (118, .lload_n 3, 1, [3]), (119, .lastore, 1, []), (120, .aload_n 0, 1, [0]), (121, .getfield 23, 3, []), (124, .aload_n 0, 1, [0]), (125, .getfield 123, 3, []), (128, .lload 5, 2, []), (130, .lastore, 1, []), (131, .aload_n 0, 1, [0]), (132, .getfield 26, 3, []), (135, .aload_n 0, 1, [0]), (136, .getfield 123, 3, []), (139, .iconst 0, 1, []), (140, .iastore, 1, []), (141, .aload_n 0, 1, [0]), (142, .getfield 29, 3, []), (145, .iconst 4, 1, []), (146, .aload_n 0, 1, [0]), (147, .getfield 123, 3, []), (150, .imul, 1, []), (151, .lload 7, 2, []), (153, .lastore, 1, []), (154, .aload_n 0, 1, [0]), (155, .dup, 1, []), (156, .getfield 123, 3, []), (159, .iconst 1, 1, []), (160, .iadd, 1, []), (161, .putfield 123, 3, []), (164, .aload_n 0, 1, [0]), (165, .invokevirtual 120, 3, []), (168, .aload_n 0, 1, [0]), (169, .getfield 123, 3, []), (172, .iconst 1, 1, []), (173, .isub, 1, []), (174, .ireturn, 1, [])]
set_option maxRecDepth 100000 in
theorem v_X11_arc : p_X11_arc.all (dm_vb cX11_arc) = true := by decide +kernel
def k_X11_arc : dm_Sp := fun a => match a with
  | 0 => sp_X11_isNode
  | 1 => sp_X11_within
  | 2 => sp_X11_gone
  | _ => fun _ _ _ => False
def x_X11_arc : dm_X := dm_mk [(13, 11, 3), (17, 11, 4), (20, 11, 5), (23, 11, 6), (26, 11, 7), (29, 11, 8), (123, 11, 1)] [] [(112, -1000000), (114, 1000000), (130, -2)] [(126, 0, 1, 11), (116, 1, 3, 1000), (120, 2, 0, 11)] 1
set_option maxRecDepth 100000 in
set_option maxHeartbeats 400000 in
theorem u_X11_arc : dm_Pure shM x_X11_arc k_X11_arc p_X11_arc 10 sp_X11_arc := by
  intro As u Qp h
  unfold sp_X11_arc at h
  split at h
  · refine ⟨Nat.le_of_ble_eq_true rfl, fun G Wp hW0 hW1 hG => ?_⟩
    apply hG (fun _ => false) 94
    simp (config := { maxSteps := 2000000 }) [hW0, hW1, dm_fn, dm_fd, dm_x, dm_L0, dm_la, dm_t1, dm_sw, List.headD, dm_ic, dm_mk, dm_s1, dm_s2, dm_clr, dm_cs, dm_cc, dm_nb0, dm_nb1, Value.category, List.lookup, p_X11_arc, x_X11_arc, k_X11_arc, dm_cm, upd, vp_updL, dm_ui_1, dm_ui_2, dm_ul_1, dm_ul_2, sp_X11_isNode, sp_X11_within, sp_X11_gone, sM_0, sM_1, sM_2, sM_3, sM_4, sM_5, sM_6, sM_7, sM_8, sM_9, sM_10, sM_11, sM_12, sM_13, sM_14, sM_15, sM_16, sM_17, sM_18, sM_19, sM_20, sM_21, sM_22, sM_23, sM_24, sM_25, sM_26, sM_27, sM_28, sM_29]
    rename_i a b lo mo co
    obtain ⟨h1, h2⟩ := h
    refine ⟨fun q => h2 (fun z => dm_i_lt.mpr (q z.1.1) z.1.2), fun a1 a2 => ⟨fun q => h2 (fun z => dm_i_lt.mpr (q z.2.1.1) z.2.1.2), fun b1 b2 => ⟨fun q => h2 (fun z => z.2.2.1 q), fun ne => ⟨fun q => h2 (fun z => z.2.2.2.1 q), fun m1 => ⟨fun q => h2 (fun z => dm_l_le.mpr (q z.2.2.2.2.1.1) z.2.2.2.2.1.2), fun l1 l2 => ⟨fun c1 c2 => ?_, fun q => h2 (fun z => dm_l_le.mpr (q z.2.2.2.2.2.1.1) z.2.2.2.2.2.1.2)⟩⟩⟩⟩⟩⟩
    have key : (mo = -2 ∨ lo ≤ mo ∧ mo ≤ 1000000) → dm_am u a b lo mo co := fun z => ⟨⟨a1, a2⟩, ⟨b1, b2⟩, ne, m1, ⟨l1, l2⟩, ⟨c1, c2⟩, z⟩
    exact ⟨fun q => h1 (key (Or.inl q)), fun q => ⟨fun q1 q2 => h1 (key (Or.inr ⟨q1, q2⟩)), fun q1 => h2 (fun z => z.2.2.2.2.2.2.elim q (fun y => dm_l_le.mpr (q1 y.1) y.2))⟩⟩
  · exact h.elim
set_option maxRecDepth 100000 in
theorem t_X11_arc (l : Launch) (D : va_G) (cA : Nat → ClassId) (ad : Nat → Nat) : dm_Met l D dm_cl cA ad shM yX11_arc (Cond.code yX11_arc cX11_arc 10 (dm_rt 1) :: dm_tt) ({ frames := 1, cells := 0, slots := 0, locals := 25 } : Room) sp_X11_arc := dm_meth (own := RX11) (X := x_X11_arc) (Sp := k_X11_arc) (prog := p_X11_arc) (by decide +kernel) rfl rfl (dm_FO_s ffX11 [(13, 11, 3), (17, 11, 4), (20, 11, 5), (23, 11, 6), (26, 11, 7), (29, 11, 8), (123, 11, 1)] rfl dm_hT (by decide +kernel)) (dm_IO_s ifX11 jfX11 [] [(112, -1000000), (114, 1000000), (130, -2)] rfl rfl dm_hT (by decide +kernel) (by decide +kernel)) soM (dm_MO_of (List.forall_mem_cons.mpr ⟨dm_M1_of (t_X11_isNode l D cA ad) dm_hT (dm_mem [1084, 77, 1081] (by decide +kernel) (by decide +kernel)) (by decide) (by decide +kernel) (Or.inr ⟨by decide, dm_mem [1083, 41] (by decide +kernel) (by decide +kernel), rfl⟩), List.forall_mem_cons.mpr ⟨dm_M1_of (t_X11_within l D cA ad) dm_hT (dm_mem [1072, 77, 1070] (by decide +kernel) (by decide +kernel)) (by decide) (by decide +kernel) (Or.inl ⟨rfl, dm_mem (ws := [.static yX11_within]) [1071] (by decide +kernel) (by decide +kernel) _ List.mem_cons_self⟩), List.forall_mem_cons.mpr ⟨dm_M1_of (t_X11_gone l D cA ad) dm_hT (dm_mem [1076, 77, 1073] (by decide +kernel) (by decide +kernel)) (by decide) (by decide +kernel) (Or.inr ⟨by decide, dm_mem [1075, 40] (by decide +kernel) (by decide +kernel), rfl⟩), fun _ h => absurd h List.not_mem_nil⟩⟩⟩)) v_X11_arc u_X11_arc
def sp_X11_supply (As : List Value) (u : dm_S) (Q : Option Value → dm_S → Prop) : Prop := match As with
  | [.ref 0, .int a, .long d] => ((0 ≤ a ∧ a < u.1 0 0) ∧ -1000000 ≤ d ∧ d ≤ 1000000 → vp_in a 24 ∧ Q (some (.long (u.2 1 a.toNatClampNeg))) (dm_mg (dm_ul u 1 a.toNatClampNeg d))) ∧ (¬ ((0 ≤ a ∧ a < u.1 0 0) ∧ -1000000 ≤ d ∧ d ≤ 1000000) → Q (some (.long (-1000001))) u)
  | _ => False
def p_X11_supply : List dm_I := [(0, .aload_n 0, 1, [0]), (1, .iload_n 1, 1, [1]), (2, .invokevirtual 126, 3, []), (5, .ifCond .eq 16, 3, [21]), (8, .lload_n 2, 1, [2]), (9, .ldc2_w 112, 3, []), (12, .ldc2_w 114, 3, []), (15, .invokestatic 116, 3, []), (18, .ifCond .ne 7, 3, [25]), (21, .ldc2_w 137, 3, []), (24, .lreturn, 1, []), (25, .aload_n 0, 1, [0]), (26, .getfield 7, 3, []), (29, .iload_n 1, 1, [1]), (30, .laload, 1, []), (31, .lstore 4, 2, []), (33, .aload_n 0, 1, [0]), (34, .getfield 7, 3, []), (37, .iload_n 1, 1, [1]), (38, .lload_n 2, 1, [2]), (39, .lastore, 1, []), (40, .aload_n 0, 1, [0]), (41, .invokevirtual 120, 3, []), (44, .lload 4, 2, []), (46, .lreturn, 1, [])]
set_option maxRecDepth 100000 in
theorem v_X11_supply : p_X11_supply.all (dm_vb cX11_supply) = true := by decide +kernel
def k_X11_supply : dm_Sp := fun a => match a with
  | 0 => sp_X11_isNode
  | 1 => sp_X11_within
  | 2 => sp_X11_gone
  | _ => fun _ _ _ => False
def x_X11_supply : dm_X := dm_mk [(7, 11, 2)] [] [(112, -1000000), (114, 1000000), (137, -1000001)] [(126, 0, 1, 11), (116, 1, 3, 1000), (120, 2, 0, 11)] 2
set_option maxRecDepth 100000 in
set_option maxHeartbeats 400000 in
theorem u_X11_supply : dm_Pure shM x_X11_supply k_X11_supply p_X11_supply 6 sp_X11_supply := by
  intro As u Qp h
  unfold sp_X11_supply at h
  split at h
  · refine ⟨Nat.le_of_ble_eq_true rfl, fun G Wp hW0 hW1 hG => ?_⟩
    apply hG (fun _ => false) 26
    simp (config := { maxSteps := 2000000 }) [hW0, hW1, dm_fn, dm_fd, dm_x, dm_L0, dm_la, dm_t1, dm_sw, List.headD, dm_ic, dm_mk, dm_s1, dm_s2, dm_clr, dm_cs, dm_cc, dm_nb0, dm_nb1, Value.category, List.lookup, p_X11_supply, x_X11_supply, k_X11_supply, dm_cm, upd, vp_updL, dm_ui_1, dm_ui_2, dm_ul_1, dm_ul_2, sp_X11_isNode, sp_X11_within, sp_X11_gone, sM_0, sM_1, sM_2, sM_3, sM_4, sM_5, sM_6, sM_7, sM_8, sM_9, sM_10, sM_11, sM_12, sM_13, sM_14, sM_15, sM_16, sM_17, sM_18, sM_19, sM_20, sM_21, sM_22, sM_23, sM_24, sM_25, sM_26, sM_27, sM_28, sM_29]
    obtain ⟨h1, h2⟩ := h
    exact ⟨fun q => h2 (fun z => dm_i_lt.mpr (q z.1.1) z.1.2), fun a1 a2 => ⟨fun d1 d2 => h1 ⟨⟨a1, a2⟩, d1, d2⟩, fun q => h2 (fun z => dm_l_le.mpr (q z.2.1) z.2.2)⟩⟩
  · exact h.elim
set_option maxRecDepth 100000 in
theorem t_X11_supply (l : Launch) (D : va_G) (cA : Nat → ClassId) (ad : Nat → Nat) : dm_Met l D dm_cl cA ad shM yX11_supply (Cond.code yX11_supply cX11_supply 6 (dm_rt 2) :: dm_tt) ({ frames := 1, cells := 0, slots := 0, locals := 25 } : Room) sp_X11_supply := dm_meth (own := RX11) (X := x_X11_supply) (Sp := k_X11_supply) (prog := p_X11_supply) (by decide +kernel) rfl rfl (dm_FO_s ffX11 [(7, 11, 2)] rfl dm_hT (by decide +kernel)) (dm_IO_s ifX11 jfX11 [] [(112, -1000000), (114, 1000000), (137, -1000001)] rfl rfl dm_hT (by decide +kernel) (by decide +kernel)) soM (dm_MO_of (List.forall_mem_cons.mpr ⟨dm_M1_of (t_X11_isNode l D cA ad) dm_hT (dm_mem [1084, 77, 1081] (by decide +kernel) (by decide +kernel)) (by decide) (by decide +kernel) (Or.inr ⟨by decide, dm_mem [1083, 41] (by decide +kernel) (by decide +kernel), rfl⟩), List.forall_mem_cons.mpr ⟨dm_M1_of (t_X11_within l D cA ad) dm_hT (dm_mem [1072, 77, 1070] (by decide +kernel) (by decide +kernel)) (by decide) (by decide +kernel) (Or.inl ⟨rfl, dm_mem (ws := [.static yX11_within]) [1071] (by decide +kernel) (by decide +kernel) _ List.mem_cons_self⟩), List.forall_mem_cons.mpr ⟨dm_M1_of (t_X11_gone l D cA ad) dm_hT (dm_mem [1076, 77, 1073] (by decide +kernel) (by decide +kernel)) (by decide) (by decide +kernel) (Or.inr ⟨by decide, dm_mem [1075, 40] (by decide +kernel) (by decide +kernel), rfl⟩), fun _ h => absurd h List.not_mem_nil⟩⟩⟩)) v_X11_supply u_X11_supply
def sp_X11_price (As : List Value) (u : dm_S) (Q : Option Value → dm_S → Prop) : Prop := match As with
  | [.ref 0, .int a, .long d] => (0 ≤ a ∧ a < u.1 0 1 → vp_in a 80 ∧ vp_in (4 * a) 320) ∧ ((0 ≤ a ∧ a < u.1 0 1) ∧ u.1 6 a.toNatClampNeg ≤ 0 ∧ -1000000 ≤ d ∧ d ≤ 1000000 → Q (some (.int 1)) (dm_mg (dm_ul u 7 (4 * a).toNatClampNeg d))) ∧ (¬ ((0 ≤ a ∧ a < u.1 0 1) ∧ u.1 6 a.toNatClampNeg ≤ 0 ∧ -1000000 ≤ d ∧ d ≤ 1000000) → Q (some (.int 0)) u)
  | _ => False
def p_X11_price : List dm_I := [(0, .aload_n 0, 1, [0]), (1, .iload_n 1, 1, [1]), (2, .invokevirtual 132, 3, []), (5, .ifCond .eq 25, 3, [30]), (8, .aload_n 0, 1, [0]), (9, .getfield 26, 3, []), (12, .iload_n 1, 1, [1]), (13, .iaload, 1, []), (14, .ifCond .gt 16, 3, [30]), (17, .lload_n 2, 1, [2]), (18, .ldc2_w 112, 3, []), (21, .ldc2_w 114, 3, []), (24, .invokestatic 116, 3, []), (27, .ifCond .ne 5, 3, [32]), (30, .iconst 0, 1, []), (31, .ireturn, 1, []), (32, .aload_n 0, 1, [0]), (33, .getfield 29, 3, []), (36, .iconst 4, 1, []), (37, .iload_n 1, 1, [1]), (38, .imul, 1, []), (39, .lload_n 2, 1, [2]), (40, .lastore, 1, []), (41, .aload_n 0, 1, [0]), (42, .invokevirtual 120, 3, []), (45, .iconst 1, 1, []), (46, .ireturn, 1, [])]
set_option maxRecDepth 100000 in
theorem v_X11_price : p_X11_price.all (dm_vb cX11_price) = true := by decide +kernel
def k_X11_price : dm_Sp := fun a => match a with
  | 0 => sp_X11_isArc
  | 1 => sp_X11_within
  | 2 => sp_X11_gone
  | _ => fun _ _ _ => False
def x_X11_price : dm_X := dm_mk [(26, 11, 7), (29, 11, 8)] [] [(112, -1000000), (114, 1000000)] [(132, 0, 1, 11), (116, 1, 3, 1000), (120, 2, 0, 11)] 3
set_option maxRecDepth 100000 in
set_option maxHeartbeats 400000 in
theorem u_X11_price : dm_Pure shM x_X11_price k_X11_price p_X11_price 4 sp_X11_price := by
  intro As u Qp h
  unfold sp_X11_price at h
  split at h
  · refine ⟨Nat.le_of_ble_eq_true rfl, fun G Wp hW0 hW1 hG => ?_⟩
    apply hG (fun _ => false) 28
    simp (config := { maxSteps := 2000000 }) [hW0, hW1, dm_fn, dm_fd, dm_x, dm_L0, dm_la, dm_t1, dm_sw, List.headD, dm_ic, dm_mk, dm_s1, dm_s2, dm_clr, dm_cs, dm_cc, dm_nb0, dm_nb1, Value.category, List.lookup, p_X11_price, x_X11_price, k_X11_price, dm_cm, upd, vp_updL, dm_ui_1, dm_ui_2, dm_ul_1, dm_ul_2, sp_X11_isArc, sp_X11_within, sp_X11_gone, sM_0, sM_1, sM_2, sM_3, sM_4, sM_5, sM_6, sM_7, sM_8, sM_9, sM_10, sM_11, sM_12, sM_13, sM_14, sM_15, sM_16, sM_17, sM_18, sM_19, sM_20, sM_21, sM_22, sM_23, sM_24, sM_25, sM_26, sM_27, sM_28, sM_29]
    obtain ⟨h0, h1, h2⟩ := h
    exact ⟨fun q => h2 (fun z => dm_i_lt.mpr (q z.1.1) z.1.2), fun a1 a2 => ⟨(h0 ⟨a1, a2⟩).1, fun q => h2 (fun z => dm_i_le.mpr q z.2.1), fun a3 => ⟨fun d1 d2 => ⟨(h0 ⟨a1, a2⟩).2, h1 ⟨⟨a1, a2⟩, a3, d1, d2⟩⟩, fun q => h2 (fun z => dm_l_le.mpr (q z.2.2.1) z.2.2.2)⟩⟩⟩
  · exact h.elim
set_option maxRecDepth 100000 in
theorem t_X11_price (l : Launch) (D : va_G) (cA : Nat → ClassId) (ad : Nat → Nat) : dm_Met l D dm_cl cA ad shM yX11_price (Cond.code yX11_price cX11_price 4 (dm_rt 3) :: dm_tt) ({ frames := 1, cells := 0, slots := 0, locals := 25 } : Room) sp_X11_price := dm_meth (own := RX11) (X := x_X11_price) (Sp := k_X11_price) (prog := p_X11_price) (by decide +kernel) rfl rfl (dm_FO_s ffX11 [(26, 11, 7), (29, 11, 8)] rfl dm_hT (by decide +kernel)) (dm_IO_s ifX11 jfX11 [] [(112, -1000000), (114, 1000000)] rfl rfl dm_hT (by decide +kernel) (by decide +kernel)) soM (dm_MO_of (List.forall_mem_cons.mpr ⟨dm_M1_of (t_X11_isArc l D cA ad) dm_hT (dm_mem [1093, 77, 1090] (by decide +kernel) (by decide +kernel)) (by decide) (by decide +kernel) (Or.inr ⟨by decide, dm_mem [1092, 42] (by decide +kernel) (by decide +kernel), rfl⟩), List.forall_mem_cons.mpr ⟨dm_M1_of (t_X11_within l D cA ad) dm_hT (dm_mem [1072, 77, 1070] (by decide +kernel) (by decide +kernel)) (by decide) (by decide +kernel) (Or.inl ⟨rfl, dm_mem (ws := [.static yX11_within]) [1071] (by decide +kernel) (by decide +kernel) _ List.mem_cons_self⟩), List.forall_mem_cons.mpr ⟨dm_M1_of (t_X11_gone l D cA ad) dm_hT (dm_mem [1076, 77, 1073] (by decide +kernel) (by decide +kernel)) (by decide) (by decide +kernel) (Or.inr ⟨by decide, dm_mem [1075, 40] (by decide +kernel) (by decide +kernel), rfl⟩), fun _ h => absurd h List.not_mem_nil⟩⟩⟩)) v_X11_price u_X11_price
end
section
/-! ===== loops: the pattern ===== -/
def dm_sum (f : Nat → Int64) : Nat → Int64
  | 0 => 0
  | n + 1 => dm_sum f n + f n
def sp_X2_sumOfSupplies (As : List Value) (u : dm_S) (Q : Option Value → dm_S → Prop) : Prop := match As with
  | [.ref 1] => ∃ n : Nat, n ≤ 24 ∧ u.1 1 8 = nI n ∧ Q (some (.long (dm_sum (u.2 11) n))) u
  | _ => False
def p_X2_sumOfSupplies : List dm_I := [(0, .lconst 0, 1, []), (1, .lstore_n 1, 1, [1]), (2, .iconst 0, 1, []), (3, .istore_n 3, 1, [3]), (4, .iload_n 3, 1, [3]), (5, .aload_n 0, 1, [0]), (6, .getfield 38, 3, []), (9, .if_icmp .ge 18, 3, [27]), (12, .lload_n 1, 1, [1]), (13, .aload_n 0, 1, [0]), (14, .getfield 9, 3, []), (17, .iload_n 3, 1, [3]), (18, .laload, 1, []), (19, .ladd, 1, []), (20, .lstore_n 1, 1, [1]), (21, .iinc 3 1, 3, []), (24, .goto (-20), 3, [4]), (27, .lload_n 1, 1, [1]), (28, .lreturn, 1, [])]
set_option maxRecDepth 100000 in
theorem v_X2_sumOfSupplies : p_X2_sumOfSupplies.all (dm_vb cX2_sumOfSupplies) = true := by decide +kernel
def k_X2_sumOfSupplies : dm_Sp := fun a => match a with
  | _ => fun _ _ _ => False
def x_X2_sumOfSupplies : dm_X := dm_mk [(9, 2, 0), (38, 2, 8)] [] [] [] 2
set_option maxRecDepth 100000 in
set_option maxHeartbeats 400000 in
theorem u_X2_sumOfSupplies : dm_Pure shC x_X2_sumOfSupplies k_X2_sumOfSupplies p_X2_sumOfSupplies 4 sp_X2_sumOfSupplies := by
  intro As u Qp h
  unfold sp_X2_sumOfSupplies at h
  split at h
  · obtain ⟨n, hn, en, h⟩ := h
    refine ⟨Nat.le_of_ble_eq_true rfl, fun G Wp hW0 hW1 hG => ?_⟩
    have loop : ∀ k i : Nat, i + k = n → G 4 [some (.ref 1), some (.long (dm_sum (u.2 11) i)), none, some (.int (nI i))] [] u := by
      intro k
      induction k with
      | zero =>
        intro i hi
        apply hG (fun pc => pc == 4) 30
        simp (config := { maxSteps := 2000000 }) [hW0, hW1, dm_fn, dm_fd, dm_x, dm_L0, dm_la, dm_t1, dm_sw, List.headD, dm_ic, dm_mk, dm_s1, dm_s2, dm_clr, dm_cs, dm_cc, dm_nb0, dm_nb1, Value.category, List.lookup, p_X2_sumOfSupplies, x_X2_sumOfSupplies, k_X2_sumOfSupplies, dm_cm, upd, vp_updL, dm_ui_1, dm_ui_2, dm_ul_1, dm_ul_2, sC_0, sC_1, sC_2, sC_3, sC_4, sC_5, sC_6, sC_7, sC_8, sC_9, sC_10, sC_11, sC_12, sC_13, sC_14, sC_15, sC_16, sC_17, sC_18, sC_19, sC_20, sC_21, sC_22, sC_23, sC_24, sC_25, sC_26, sC_27, sC_28, sC_29, sC_30, sC_31, sC_32, sC_33, sC_34, sC_35, sC_36, sC_37, sC_38, sC_39, sC_40, sC_41, sC_42, sC_43, sC_44, sC_45, sC_46, sC_47, sC_48, sC_49, sC_50, sC_51]
        have e : i = n := by omega
        subst e
        exact ⟨fun _ => h, fun q => absurd (en ▸ q) (nI_nlt (Nat.le_refl i) (by omega))⟩
      | succ k ih =>
        intro i hi
        apply hG (fun pc => pc == 4) 30
        simp (config := { maxSteps := 2000000 }) [hW0, hW1, dm_fn, dm_fd, dm_x, dm_L0, dm_la, dm_t1, dm_sw, List.headD, dm_ic, dm_mk, dm_s1, dm_s2, dm_clr, dm_cs, dm_cc, dm_nb0, dm_nb1, Value.category, List.lookup, p_X2_sumOfSupplies, x_X2_sumOfSupplies, k_X2_sumOfSupplies, dm_cm, upd, vp_updL, dm_ui_1, dm_ui_2, dm_ul_1, dm_ul_2, sC_0, sC_1, sC_2, sC_3, sC_4, sC_5, sC_6, sC_7, sC_8, sC_9, sC_10, sC_11, sC_12, sC_13, sC_14, sC_15, sC_16, sC_17, sC_18, sC_19, sC_20, sC_21, sC_22, sC_23, sC_24, sC_25, sC_26, sC_27, sC_28, sC_29, sC_30, sC_31, sC_32, sC_33, sC_34, sC_35, sC_36, sC_37, sC_38, sC_39, sC_40, sC_41, sC_42, sC_43, sC_44, sC_45, sC_46, sC_47, sC_48, sC_49, sC_50, sC_51]
        have e := ih (i + 1) (by omega)
        rw [nI_succ] at e
        refine ⟨fun q => absurd (en ▸ q) (nI_ge (by omega) (by omega)), fun q => ⟨vp_in_nI (by omega) (by omega), ?_⟩⟩
        rw [nI_clamp (by omega)]
        exact e
    apply hG (fun pc => pc == 4) 30
    simp (config := { maxSteps := 2000000 }) [hW0, hW1, dm_fn, dm_fd, dm_x, dm_L0, dm_la, dm_t1, dm_sw, List.headD, dm_ic, dm_mk, dm_s1, dm_s2, dm_clr, dm_cs, dm_cc, dm_nb0, dm_nb1, Value.category, List.lookup, p_X2_sumOfSupplies, x_X2_sumOfSupplies, k_X2_sumOfSupplies, dm_cm, upd, vp_updL, dm_ui_1, dm_ui_2, dm_ul_1, dm_ul_2, sC_0, sC_1, sC_2, sC_3, sC_4, sC_5, sC_6, sC_7, sC_8, sC_9, sC_10, sC_11, sC_12, sC_13, sC_14, sC_15, sC_16, sC_17, sC_18, sC_19, sC_20, sC_21, sC_22, sC_23, sC_24, sC_25, sC_26, sC_27, sC_28, sC_29, sC_30, sC_31, sC_32, sC_33, sC_34, sC_35, sC_36, sC_37, sC_38, sC_39, sC_40, sC_41, sC_42, sC_43, sC_44, sC_45, sC_46, sC_47, sC_48, sC_49, sC_50, sC_51]
    exact loop n 0 (by omega)
  · exact h.elim
set_option maxRecDepth 100000 in
theorem t_X2_sumOfSupplies (l : Launch) (D : va_G) (cA : Nat → ClassId) (ad : Nat → Nat) : dm_Met l D dm_cl cA ad shC yX2_sumOfSupplies (Cond.code yX2_sumOfSupplies cX2_sumOfSupplies 4 (dm_rt 2) :: dm_tt) ({ frames := 0, cells := 0, slots := 0, locals := 0 } : Room) sp_X2_sumOfSupplies := dm_meth (own := RX2) (X := x_X2_sumOfSupplies) (Sp := k_X2_sumOfSupplies) (prog := p_X2_sumOfSupplies) (by decide +kernel) rfl rfl (dm_FO_s ffX2 [(9, 2, 0), (38, 2, 8)] rfl dm_hT (by decide +kernel)) (dm_IO_s ifX2 jfX2 [] [] rfl rfl dm_hT (by decide +kernel) (by decide +kernel)) soC (dm_MO_of (fun _ h => absurd h List.not_mem_nil)) v_X2_sumOfSupplies u_X2_sumOfSupplies
/-- an array of longs filled -/
def dm_fj (u : dm_S) (c n : Nat) (x : Int64) : dm_S := (u.1, fun c' => if c' = c then (fun j => if j < n then x else u.2 c j) else u.2 c')
def dm_fi (u : dm_S) (c n : Nat) (x : Int32) : dm_S := (fun c' => if c' = c then (fun j => if j < n then x else u.1 c j) else u.1 c', u.2)
theorem dm_fj_0 {u : dm_S} {c : Nat} {x : Int64} : dm_fj u c 0 x = u := by
  unfold dm_fj
  refine Prod.ext rfl ?_
  funext c' j
  simp only [Nat.not_lt_zero, if_false]
  split
  · rename_i e; rw [e]
  · rfl
theorem dm_fj_s {u : dm_S} {c i : Nat} {x : Int64} : dm_ul (dm_fj u c i x) c i x = dm_fj u c (i + 1) x := by
  unfold dm_fj dm_ul
  refine Prod.ext rfl ?_
  funext c' j
  by_cases e : c' = c
  · simp only [e, if_true, vp_updL]
    by_cases h : j = i
    · simp [h]
    · by_cases h2 : j < i
      · rw [if_neg h, if_pos h2, if_pos (by omega)]
      · rw [if_neg h, if_neg h2, if_neg (by omega)]
  · simp only [e, if_false]
theorem dm_fi_0 {u : dm_S} {c : Nat} {x : Int32} : dm_fi u c 0 x = u := by
  unfold dm_fi
  refine Prod.ext ?_ rfl
  funext c' j
  simp only [Nat.not_lt_zero, if_false]
  split
  · rename_i e; rw [e]
  · rfl
theorem dm_fi_s {u : dm_S} {c i : Nat} {x : Int32} : dm_ui (dm_fi u c i x) c i x = dm_fi u c (i + 1) x := by
  unfold dm_fi dm_ui
  refine Prod.ext ?_ rfl
  funext c' j
  by_cases e : c' = c
  · simp only [e, if_true, upd]
    by_cases h : j = i
    · simp [h]
    · by_cases h2 : j < i
      · rw [if_neg h, if_pos h2, if_pos (by omega)]
      · rw [if_neg h, if_neg h2, if_neg (by omega)]
  · simp only [e, if_false]
def sp_J7_fill_d0a16 (As : List Value) (u : dm_S) (Q : Option Value → dm_S → Prop) : Prop := match As with
  | [.ref c, .long x] => ∃ n : Nat, n ≤ 1000 ∧ shC[c]? = some (.inl (1, n)) ∧ Q none (dm_fj u c n x)
  | _ => False
def p_J7_fill_d0a16 : List dm_I := [(0, .iconst 0, 1, []), (1, .istore_n 3, 1, [3]), (2, .aload_n 0, 1, [0]), (3, .arraylength, 1, []), (4, .istore 4, 2, []), (6, .iload_n 3, 1, [3]), (7, .iload 4, 2, []), (9, .if_icmp .ge 13, 3, [22]), (12, .aload_n 0, 1, [0]), (13, .iload_n 3, 1, [3]), (14, .lload_n 1, 1, [1]), (15, .lastore, 1, []), (16, .iinc 3 1, 3, []), (19, .goto (-13), 3, [6]), (22, .return_, 1, [])]
set_option maxRecDepth 100000 in
theorem v_J7_fill_d0a16 : p_J7_fill_d0a16.all (dm_vb cJ7_fill_d0a16) = true := by decide +kernel
def k_J7_fill_d0a16 : dm_Sp := fun a => match a with
  | _ => fun _ _ _ => False
def x_J7_fill_d0a16 : dm_X := dm_mk [] [] [] [] 0
set_option maxRecDepth 100000 in
set_option maxHeartbeats 400000 in
theorem u_J7_fill_d0a16 : dm_Pure shC x_J7_fill_d0a16 k_J7_fill_d0a16 p_J7_fill_d0a16 5 sp_J7_fill_d0a16 := by
  intro As u Qp h
  unfold sp_J7_fill_d0a16 at h
  split at h
  · rename_i c x
    obtain ⟨n, hn, hc, h⟩ := h
    refine ⟨Nat.le_of_ble_eq_true rfl, fun G Wp hW0 hW1 hG => ?_⟩
    have loop : ∀ k i : Nat, i + k = n → G 6 [some (.ref c), some (.long x), none, some (.int (nI i)), some (.int (nI n))] [] (dm_fj u c i x) := by
      intro k
      induction k with
      | zero =>
        intro i hi
        apply hG (fun pc => pc == 6) 30
        simp (config := { maxSteps := 2000000 }) [hW0, hW1, dm_fn, dm_fd, dm_x, dm_L0, dm_la, dm_t1, dm_sw, List.headD, dm_ic, dm_mk, dm_s1, dm_s2, dm_clr, dm_cs, dm_cc, dm_nb0, dm_nb1, Value.category, List.lookup, p_J7_fill_d0a16, x_J7_fill_d0a16, k_J7_fill_d0a16, dm_cm, upd, vp_updL, dm_ui_1, dm_ui_2, dm_ul_1, dm_ul_2, sC_0, sC_1, sC_2, sC_3, sC_4, sC_5, sC_6, sC_7, sC_8, sC_9, sC_10, sC_11, sC_12, sC_13, sC_14, sC_15, sC_16, sC_17, sC_18, sC_19, sC_20, sC_21, sC_22, sC_23, sC_24, sC_25, sC_26, sC_27, sC_28, sC_29, sC_30, sC_31, sC_32, sC_33, sC_34, sC_35, sC_36, sC_37, sC_38, sC_39, sC_40, sC_41, sC_42, sC_43, sC_44, sC_45, sC_46, sC_47, sC_48, sC_49, sC_50, sC_51]
        have e : i = n := by omega
        subst e
        exact ⟨fun _ => h, fun q => absurd q (nI_nlt (Nat.le_refl i) (by omega))⟩
      | succ k ih =>
        intro i hi
        apply hG (fun pc => pc == 6) 30
        simp (config := { maxSteps := 2000000 }) [hW0, hW1, dm_fn, dm_fd, dm_x, dm_L0, dm_la, dm_t1, dm_sw, List.headD, dm_ic, dm_mk, dm_s1, dm_s2, dm_clr, dm_cs, dm_cc, dm_nb0, dm_nb1, Value.category, List.lookup, p_J7_fill_d0a16, x_J7_fill_d0a16, k_J7_fill_d0a16, dm_cm, upd, vp_updL, dm_ui_1, dm_ui_2, dm_ul_1, dm_ul_2, sC_0, sC_1, sC_2, sC_3, sC_4, sC_5, sC_6, sC_7, sC_8, sC_9, sC_10, sC_11, sC_12, sC_13, sC_14, sC_15, sC_16, sC_17, sC_18, sC_19, sC_20, sC_21, sC_22, sC_23, sC_24, sC_25, sC_26, sC_27, sC_28, sC_29, sC_30, sC_31, sC_32, sC_33, sC_34, sC_35, sC_36, sC_37, sC_38, sC_39, sC_40, sC_41, sC_42, sC_43, sC_44, sC_45, sC_46, sC_47, sC_48, sC_49, sC_50, sC_51]
        simp [hc]
        have e := ih (i + 1) (by omega)
        rw [nI_succ] at e
        refine ⟨fun q => absurd q (nI_ge (by omega) (by omega)), fun q => ⟨vp_in_nI (by omega) (by omega), ?_⟩⟩
        rw [nI_clamp (by omega), dm_fj_s]
        exact e
    apply hG (fun pc => pc == 6) 30
    simp (config := { maxSteps := 2000000 }) [hW0, hW1, dm_fn, dm_fd, dm_x, dm_L0, dm_la, dm_t1, dm_sw, List.headD, dm_ic, dm_mk, dm_s1, dm_s2, dm_clr, dm_cs, dm_cc, dm_nb0, dm_nb1, Value.category, List.lookup, p_J7_fill_d0a16, x_J7_fill_d0a16, k_J7_fill_d0a16, dm_cm, upd, vp_updL, dm_ui_1, dm_ui_2, dm_ul_1, dm_ul_2, sC_0, sC_1, sC_2, sC_3, sC_4, sC_5, sC_6, sC_7, sC_8, sC_9, sC_10, sC_11, sC_12, sC_13, sC_14, sC_15, sC_16, sC_17, sC_18, sC_19, sC_20, sC_21, sC_22, sC_23, sC_24, sC_25, sC_26, sC_27, sC_28, sC_29, sC_30, sC_31, sC_32, sC_33, sC_34, sC_35, sC_36, sC_37, sC_38, sC_39, sC_40, sC_41, sC_42, sC_43, sC_44, sC_45, sC_46, sC_47, sC_48, sC_49, sC_50, sC_51]
    simp [hc]
    have e := loop n 0 (by omega)
    rw [dm_fj_0] at e
    exact e
  · exact h.elim
set_option maxRecDepth 100000 in
theorem t_J7_fill_d0a16 (l : Launch) (D : va_G) (cA : Nat → ClassId) (ad : Nat → Nat) : dm_Met l D dm_cl cA ad shC yJ7_fill_d0a16 (Cond.code yJ7_fill_d0a16 cJ7_fill_d0a16 5 (dm_rt 0) :: dm_tt) ({ frames := 0, cells := 0, slots := 0, locals := 0 } : Room) sp_J7_fill_d0a16 := dm_meth (own := RJ7) (X := x_J7_fill_d0a16) (Sp := k_J7_fill_d0a16) (prog := p_J7_fill_d0a16) (by decide +kernel) rfl rfl (dm_FO_s ffJ7 [] rfl dm_hT (by decide +kernel)) (dm_IO_s ifJ7 jfJ7 [] [] rfl rfl dm_hT (by decide +kernel) (by decide +kernel)) soC (dm_MO_of (fun _ h => absurd h List.not_mem_nil)) v_J7_fill_d0a16 u_J7_fill_d0a16
def sp_J7_fill_53178 (As : List Value) (u : dm_S) (Q : Option Value → dm_S → Prop) : Prop := match As with
  | [.ref c, .int x] => ∃ n : Nat, n ≤ 1000 ∧ shC[c]? = some (.inl (0, n)) ∧ Q none (dm_fi u c n x)
  | _ => False
def p_J7_fill_53178 : List dm_I := [(0, .iconst 0, 1, []), (1, .istore_n 2, 1, [2]), (2, .aload_n 0, 1, [0]), (3, .arraylength, 1, []), (4, .istore_n 3, 1, [3]), (5, .iload_n 2, 1, [2]), (6, .iload_n 3, 1, [3]), (7, .if_icmp .ge 13, 3, [20]), (10, .aload_n 0, 1, [0]), (11, .iload_n 2, 1, [2]), (12, .iload_n 1, 1, [1]), (13, .iastore, 1, []), (14, .iinc 2 1, 3, []), (17, .goto (-12), 3, [5]), (20, .return_, 1, [])]
set_option maxRecDepth 100000 in
theorem v_J7_fill_53178 : p_J7_fill_53178.all (dm_vb cJ7_fill_53178) = true := by decide +kernel
def k_J7_fill_53178 : dm_Sp := fun a => match a with
  | _ => fun _ _ _ => False
def x_J7_fill_53178 : dm_X := dm_mk [] [] [] [] 0
set_option maxRecDepth 100000 in
set_option maxHeartbeats 400000 in
theorem u_J7_fill_53178 : dm_Pure shC x_J7_fill_53178 k_J7_fill_53178 p_J7_fill_53178 4 sp_J7_fill_53178 := by
  intro As u Qp h
  unfold sp_J7_fill_53178 at h
  split at h
  · rename_i c x
    obtain ⟨n, hn, hc, h⟩ := h
    refine ⟨Nat.le_of_ble_eq_true rfl, fun G Wp hW0 hW1 hG => ?_⟩
    have loop : ∀ k i : Nat, i + k = n → G 5 [some (.ref c), some (.int x), some (.int (nI i)), some (.int (nI n))] [] (dm_fi u c i x) := by
      intro k
      induction k with
      | zero =>
        intro i hi
        apply hG (fun pc => pc == 5) 30
        simp (config := { maxSteps := 2000000 }) [hW0, hW1, dm_fn, dm_fd, dm_x, dm_L0, dm_la, dm_t1, dm_sw, List.headD, dm_ic, dm_mk, dm_s1, dm_s2, dm_clr, dm_cs, dm_cc, dm_nb0, dm_nb1, Value.category, List.lookup, p_J7_fill_53178, x_J7_fill_53178, k_J7_fill_53178, dm_cm, upd, vp_updL, dm_ui_1, dm_ui_2, dm_ul_1, dm_ul_2, sC_0, sC_1, sC_2, sC_3, sC_4, sC_5, sC_6, sC_7, sC_8, sC_9, sC_10, sC_11, sC_12, sC_13, sC_14, sC_15, sC_16, sC_17, sC_18, sC_19, sC_20, sC_21, sC_22, sC_23, sC_24, sC_25, sC_26, sC_27, sC_28, sC_29, sC_30, sC_31, sC_32, sC_33, sC_34, sC_35, sC_36, sC_37, sC_38, sC_39, sC_40, sC_41, sC_42, sC_43, sC_44, sC_45, sC_46, sC_47, sC_48, sC_49, sC_50, sC_51]
        have e : i = n := by omega
        subst e
        exact ⟨fun _ => h, fun q => absurd q (nI_nlt (Nat.le_refl i) (by omega))⟩
      | succ k ih =>
        intro i hi
        apply hG (fun pc => pc == 5) 30
        simp (config := { maxSteps := 2000000 }) [hW0, hW1, dm_fn, dm_fd, dm_x, dm_L0, dm_la, dm_t1, dm_sw, List.headD, dm_ic, dm_mk, dm_s1, dm_s2, dm_clr, dm_cs, dm_cc, dm_nb0, dm_nb1, Value.category, List.lookup, p_J7_fill_53178, x_J7_fill_53178, k_J7_fill_53178, dm_cm, upd, vp_updL, dm_ui_1, dm_ui_2, dm_ul_1, dm_ul_2, sC_0, sC_1, sC_2, sC_3, sC_4, sC_5, sC_6, sC_7, sC_8, sC_9, sC_10, sC_11, sC_12, sC_13, sC_14, sC_15, sC_16, sC_17, sC_18, sC_19, sC_20, sC_21, sC_22, sC_23, sC_24, sC_25, sC_26, sC_27, sC_28, sC_29, sC_30, sC_31, sC_32, sC_33, sC_34, sC_35, sC_36, sC_37, sC_38, sC_39, sC_40, sC_41, sC_42, sC_43, sC_44, sC_45, sC_46, sC_47, sC_48, sC_49, sC_50, sC_51]
        simp [hc]
        have e := ih (i + 1) (by omega)
        rw [nI_succ] at e
        refine ⟨fun q => absurd q (nI_ge (by omega) (by omega)), fun q => ⟨vp_in_nI (by omega) (by omega), ?_⟩⟩
        rw [nI_clamp (by omega), dm_fi_s]
        exact e
    apply hG (fun pc => pc == 5) 30
    simp (config := { maxSteps := 2000000 }) [hW0, hW1, dm_fn, dm_fd, dm_x, dm_L0, dm_la, dm_t1, dm_sw, List.headD, dm_ic, dm_mk, dm_s1, dm_s2, dm_clr, dm_cs, dm_cc, dm_nb0, dm_nb1, Value.category, List.lookup, p_J7_fill_53178, x_J7_fill_53178, k_J7_fill_53178, dm_cm, upd, vp_updL, dm_ui_1, dm_ui_2, dm_ul_1, dm_ul_2, sC_0, sC_1, sC_2, sC_3, sC_4, sC_5, sC_6, sC_7, sC_8, sC_9, sC_10, sC_11, sC_12, sC_13, sC_14, sC_15, sC_16, sC_17, sC_18, sC_19, sC_20, sC_21, sC_22, sC_23, sC_24, sC_25, sC_26, sC_27, sC_28, sC_29, sC_30, sC_31, sC_32, sC_33, sC_34, sC_35, sC_36, sC_37, sC_38, sC_39, sC_40, sC_41, sC_42, sC_43, sC_44, sC_45, sC_46, sC_47, sC_48, sC_49, sC_50, sC_51]
    simp [hc]
    have e := loop n 0 (by omega)
    rw [dm_fi_0] at e
    exact e
  · exact h.elim
set_option maxRecDepth 100000 in
theorem t_J7_fill_53178 (l : Launch) (D : va_G) (cA : Nat → ClassId) (ad : Nat → Nat) : dm_Met l D dm_cl cA ad shC yJ7_fill_53178 (Cond.code yJ7_fill_53178 cJ7_fill_53178 4 (dm_rt 0) :: dm_tt) ({ frames := 0, cells := 0, slots := 0, locals := 0 } : Room) sp_J7_fill_53178 := dm_meth (own := RJ7) (X := x_J7_fill_53178) (Sp := k_J7_fill_53178) (prog := p_J7_fill_53178) (by decide +kernel) rfl rfl (dm_FO_s ffJ7 [] rfl dm_hT (by decide +kernel)) (dm_IO_s ifJ7 jfJ7 [] [] rfl rfl dm_hT (by decide +kernel) (by decide +kernel)) soC (dm_MO_of (fun _ h => absurd h List.not_mem_nil)) v_J7_fill_53178 u_J7_fill_53178
end
section
/-! ===== Lanes: changing what goes on them ===== -/
/-- the state behind push -/
def dm_pu (u : dm_S) (w : Nat) (d : Int64) : dm_S := dm_ul (dm_ul (dm_ul u 24 (w / 2) (u.2 24 (w / 2) + if w % 2 = 0 then d else -d)) 25 (lw_b u w).toNatClampNeg (u.2 25 (lw_b u w).toNatClampNeg - d)) 25 (lw_e u w).toNatClampNeg ((if (lw_e u w).toNatClampNeg = (lw_b u w).toNatClampNeg then u.2 25 (lw_b u w).toNatClampNeg - d else u.2 25 (lw_e u w).toNatClampNeg) + d)
def sp_X1_push (As : List Value) (u : dm_S) (Q : Option Value → dm_S → Prop) : Prop := match As with
  | [.ref 2, .int x, .long d] => ∃ w : Nat, w < 640 ∧ x = nI w ∧ vp_in (lw_b u w) 24 ∧ vp_in (lw_e u w) 24 ∧ Q none (dm_pu u w d)
  | _ => False
def p_X1_push : List dm_I := [(0, .aload_n 0, 1, [0]), (1, .getfield 28, 3, []), (4, .iload_n 1, 1, [1]), (5, .iconst 1, 1, []), (6, .ishr, 1, []), (7, .dup2, 1, []), (8, .laload, 1, []), (9, .iload_n 1, 1, [1]), (10, .iconst 1, 1, []), (11, .iand, 1, []), (12, .ifCond .ne 7, 3, [19]), (15, .lload_n 2, 1, [2]), (16, .goto 5, 3, [21]), (19, .lload_n 2, 1, [2]), (20, .lneg, 1, []), (21, .ladd, 1, []), (22, .lastore, 1, []), (23, .aload_n 0, 1, [0]), (24, .getfield 31, 3, []), (27, .aload_n 0, 1, [0]), (28, .iload_n 1, 1, [1]), (29, .invokevirtual 79, 3, []), (32, .dup2, 1, []), (33, .laload, 1, []), (34, .lload_n 2, 1, [2]), (35, .lsub, 1, []), (36, .lastore, 1, []), (37, .aload_n 0, 1, [0]), (38, .getfield 31, 3, []), (41, .aload_n 0, 1, [0]), (42, .iload_n 1, 1, [1]), (43, .invokevirtual 99, 3, []), (46, .dup2, 1, []), (47, .laload, 1, []), (48, .lload_n 2, 1, [2]), (49, .ladd, 1, []), (50, .lastore, 1, []), (51, .return_, 1, [])]
set_option maxRecDepth 100000 in
theorem v_X1_push : p_X1_push.all (dm_vb cX1_push) = true := by decide +kernel
def k_X1_push : dm_Sp := fun a => match a with
  | 0 => sp_X1_beginOf
  | 1 => sp_X1_endOf
  | _ => fun _ _ _ => False
def x_X1_push : dm_X := dm_mk [(28, 1, 6), (31, 1, 7)] [] [] [(79, 0, 1, 1), (99, 1, 1, 1)] 0
set_option maxRecDepth 100000 in
set_option maxHeartbeats 400000 in
theorem u_X1_push : dm_Pure shC x_X1_push k_X1_push p_X1_push 4 sp_X1_push := by
  intro As u Qp h
  unfold sp_X1_push at h
  split at h
  · refine ⟨Nat.le_of_ble_eq_true rfl, fun G Wp hW0 hW1 hG => ?_⟩
    apply hG (fun _ => false) 39
    simp (config := { maxSteps := 2000000 }) [hW0, hW1, dm_fn, dm_fd, dm_x, dm_L0, dm_la, dm_t1, dm_sw, List.headD, dm_ic, dm_mk, dm_s1, dm_s2, dm_clr, dm_cs, dm_cc, dm_nb0, dm_nb1, Value.category, List.lookup, p_X1_push, x_X1_push, k_X1_push, dm_cm, upd, vp_updL, dm_ui_1, dm_ui_2, dm_ul_1, dm_ul_2, sp_X1_beginOf, sp_X1_endOf, sC_0, sC_1, sC_2, sC_3, sC_4, sC_5, sC_6, sC_7, sC_8, sC_9, sC_10, sC_11, sC_12, sC_13, sC_14, sC_15, sC_16, sC_17, sC_18, sC_19, sC_20, sC_21, sC_22, sC_23, sC_24, sC_25, sC_26, sC_27, sC_28, sC_29, sC_30, sC_31, sC_32, sC_33, sC_34, sC_35, sC_36, sC_37, sC_38, sC_39, sC_40, sC_41, sC_42, sC_43, sC_44, sC_45, sC_46, sC_47, sC_48, sC_49, sC_50, sC_51]
    obtain ⟨w, hw, rfl, h1, h2, h⟩ := h
    simp only [dm_w1 hw, dm_w2 hw, dm_w4 hw]
    refine ⟨dm_w3 hw, fun q => ⟨dm_w3 hw, w, hw, rfl, h1, w, hw, rfl, h2, ?_⟩, fun q => ⟨dm_w3 hw, w, hw, rfl, h1, w, hw, rfl, h2, ?_⟩⟩
    · rw [dm_pu, if_neg q] at h; exact h
    · rw [dm_pu, if_pos q] at h; exact h
  · exact h.elim
set_option maxRecDepth 100000 in
theorem t_X1_push (l : Launch) (D : va_G) (cA : Nat → ClassId) (ad : Nat → Nat) : dm_Met l D dm_cl cA ad shC yX1_push (Cond.code yX1_push cX1_push 4 (dm_rt 0) :: dm_tt) ({ frames := 1, cells := 0, slots := 0, locals := 21 } : Room) sp_X1_push := dm_meth (own := RX1) (X := x_X1_push) (Sp := k_X1_push) (prog := p_X1_push) (by decide +kernel) rfl rfl (dm_FO_s ffX1 [(28, 1, 6), (31, 1, 7)] rfl dm_hT (by decide +kernel)) (dm_IO_s ifX1 jfX1 [] [] rfl rfl dm_hT (by decide +kernel) (by decide +kernel)) soC (dm_MO_of (List.forall_mem_cons.mpr ⟨dm_M1_of (t_X1_beginOf l D cA ad) dm_hT (dm_mem [553, 68, 550] (by decide +kernel) (by decide +kernel)) (by decide) (by decide +kernel) (Or.inr ⟨by decide, dm_mem [551, 552] (by decide +kernel) (by decide +kernel), rfl⟩), List.forall_mem_cons.mpr ⟨dm_M1_of (t_X1_endOf l D cA ad) dm_hT (dm_mem [614, 68, 630] (by decide +kernel) (by decide +kernel)) (by decide) (by decide +kernel) (Or.inr ⟨by decide, dm_mem [612, 613] (by decide +kernel) (by decide +kernel), rfl⟩), fun _ h => absurd h List.not_mem_nil⟩⟩)) v_X1_push u_X1_push
def sp_X7_enqueue (As : List Value) (u : dm_S) (Q : Option Value → dm_S → Prop) : Prop := match As with
  | [.ref 4, .int a, .int b, .long d] => vp_in a 24 ∧ vp_in (u.1 4 6) 24 ∧ Q none (dm_ui (dm_ui (dm_ul (dm_ui u 33 a.toNatClampNeg b) 34 a.toNatClampNeg d) 35 (u.1 4 6).toNatClampNeg a) 4 6 (u.1 4 6 + 1))
  | _ => False
def p_X7_enqueue : List dm_I := [(0, .aload_n 0, 1, [0]), (1, .getfield 15, 3, []), (4, .iload_n 1, 1, [1]), (5, .iload_n 2, 1, [2]), (6, .iastore, 1, []), (7, .aload_n 0, 1, [0]), (8, .getfield 19, 3, []), (11, .iload_n 1, 1, [1]), (12, .lload_n 3, 1, [3]), (13, .lastore, 1, []), (14, .aload_n 0, 1, [0]), (15, .getfield 23, 3, []), (18, .aload_n 0, 1, [0]), (19, .getfield 113, 3, []), (22, .iload_n 1, 1, [1]), (23, .iastore, 1, []), (24, .aload_n 0, 1, [0]), (25, .dup, 1, []), (26, .getfield 113, 3, []), (29, .iconst 1, 1, []), (30, .iadd, 1, []), (31, .putfield 113, 3, []), (34, .return_, 1, [])]
set_option maxRecDepth 100000 in
theorem v_X7_enqueue : p_X7_enqueue.all (dm_vb cX7_enqueue) = true := by decide +kernel
def k_X7_enqueue : dm_Sp := fun a => match a with
  | _ => fun _ _ _ => False
def x_X7_enqueue : dm_X := dm_mk [(15, 7, 3), (19, 7, 4), (23, 7, 5), (113, 7, 6)] [] [] [] 0
set_option maxRecDepth 100000 in
set_option maxHeartbeats 400000 in
theorem u_X7_enqueue : dm_Pure shC x_X7_enqueue k_X7_enqueue p_X7_enqueue 5 sp_X7_enqueue := by
  intro As u Qp h
  unfold sp_X7_enqueue at h
  split at h
  · refine ⟨Nat.le_of_ble_eq_true rfl, fun G Wp hW0 hW1 hG => ?_⟩
    apply hG (fun _ => false) 24
    simp (config := { maxSteps := 2000000 }) [hW0, hW1, dm_fn, dm_fd, dm_x, dm_L0, dm_la, dm_t1, dm_sw, List.headD, dm_ic, dm_mk, dm_s1, dm_s2, dm_clr, dm_cs, dm_cc, dm_nb0, dm_nb1, Value.category, List.lookup, p_X7_enqueue, x_X7_enqueue, k_X7_enqueue, dm_cm, upd, vp_updL, dm_ui_1, dm_ui_2, dm_ul_1, dm_ul_2, sC_0, sC_1, sC_2, sC_3, sC_4, sC_5, sC_6, sC_7, sC_8, sC_9, sC_10, sC_11, sC_12, sC_13, sC_14, sC_15, sC_16, sC_17, sC_18, sC_19, sC_20, sC_21, sC_22, sC_23, sC_24, sC_25, sC_26, sC_27, sC_28, sC_29, sC_30, sC_31, sC_32, sC_33, sC_34, sC_35, sC_36, sC_37, sC_38, sC_39, sC_40, sC_41, sC_42, sC_43, sC_44, sC_45, sC_46, sC_47, sC_48, sC_49, sC_50, sC_51]
    exact h
  · exact h.elim
set_option maxRecDepth 100000 in
theorem t_X7_enqueue (l : Launch) (D : va_G) (cA : Nat → ClassId) (ad : Nat → Nat) : dm_Met l D dm_cl cA ad shC yX7_enqueue (Cond.code yX7_enqueue cX7_enqueue 5 (dm_rt 0) :: dm_tt) ({ frames := 0, cells := 0, slots := 0, locals := 0 } : Room) sp_X7_enqueue := dm_meth (own := RX7) (X := x_X7_enqueue) (Sp := k_X7_enqueue) (prog := p_X7_enqueue) (by decide +kernel) rfl rfl (dm_FO_s ffX7 [(15, 7, 3), (19, 7, 4), (23, 7, 5), (113, 7, 6)] rfl dm_hT (by decide +kernel)) (dm_IO_s ifX7 jfX7 [] [] rfl rfl dm_hT (by decide +kernel) (by decide +kernel)) soC (dm_MO_of (fun _ h => absurd h List.not_mem_nil)) v_X7_enqueue u_X7_enqueue
def sp_X9_add (As : List Value) (u : dm_S) (Q : Option Value → dm_S → Prop) : Prop := match As with
  | [.ref 3, .int x] => ∃ w : Nat, w < 640 ∧ x = nI w ∧ vp_in (u.1 3 6) 160 ∧ Q none (dm_ui (dm_ul (dm_ui (dm_ui (dm_ui u 28 (u.1 3 6).toNatClampNeg (nI w)) 29 (u.1 3 6).toNatClampNeg (lw_b u w)) 30 (u.1 3 6).toNatClampNeg (lw_e u w)) 31 (u.1 3 6).toNatClampNeg (lw_r u w)) 3 6 (u.1 3 6 + 1))
  | _ => False
def p_X9_add : List dm_I := [(0, .aload_n 0, 1, [0]), (1, .getfield 9, 3, []), (4, .aload_n 0, 1, [0]), (5, .getfield 33, 3, []), (8, .iload_n 1, 1, [1]), (9, .iastore, 1, []), (10, .aload_n 0, 1, [0]), (11, .getfield 15, 3, []), (14, .aload_n 0, 1, [0]), (15, .getfield 33, 3, []), (18, .aload_n 0, 1, [0]), (19, .getfield 29, 3, []), (22, .iload_n 1, 1, [1]), (23, .invokevirtual 63, 3, []), (26, .iastore, 1, []), (27, .aload_n 0, 1, [0]), (28, .getfield 18, 3, []), (31, .aload_n 0, 1, [0]), (32, .getfield 33, 3, []), (35, .aload_n 0, 1, [0]), (36, .getfield 29, 3, []), (39, .iload_n 1, 1, [1]), (40, .invokevirtual 67, 3, []), (43, .iastore, 1, []), (44, .aload_n 0, 1, [0]), (45, .getfield 21, 3, []), (48, .aload_n 0, 1, [0]), (49, .getfield 33, 3, []), (52, .aload_n 0, 1, [0]), (53, .getfield 29, 3, []), (56, .iload_n 1, 1, [1]), (57, .invokevirtual 70, 3, []), (60, .lastore, 1, []), (61, .aload_n 0, 1, [0]), (62, .dup, 1, []), (63, .getfield 33, 3, []), (66, .iconst 1, 1, []), (67, .iadd, 1, []), (68, .putfield 33, 3, []), (71, .return_, 1, [])]
set_option maxRecDepth 100000 in
theorem v_X9_add : p_X9_add.all (dm_vb cX9_add) = true := by decide +kernel
def k_X9_add : dm_Sp := fun a => match a with
  | 0 => sp_X1_beginOf
  | 1 => sp_X1_endOf
  | 2 => sp_X1_rateOf
  | _ => fun _ _ _ => False
def x_X9_add : dm_X := dm_mk [(9, 9, 2), (15, 9, 3), (18, 9, 4), (21, 9, 5), (29, 9, 1), (33, 9, 6)] [] [] [(63, 0, 1, 1), (67, 1, 1, 1), (70, 2, 1, 1)] 0
set_option maxRecDepth 100000 in
set_option maxHeartbeats 400000 in
theorem u_X9_add : dm_Pure shC x_X9_add k_X9_add p_X9_add 2 sp_X9_add := by
  intro As u Qp h
  unfold sp_X9_add at h
  split at h
  · refine ⟨Nat.le_of_ble_eq_true rfl, fun G Wp hW0 hW1 hG => ?_⟩
    apply hG (fun _ => false) 41
    simp (config := { maxSteps := 2000000 }) [hW0, hW1, dm_fn, dm_fd, dm_x, dm_L0, dm_la, dm_t1, dm_sw, List.headD, dm_ic, dm_mk, dm_s1, dm_s2, dm_clr, dm_cs, dm_cc, dm_nb0, dm_nb1, Value.category, List.lookup, p_X9_add, x_X9_add, k_X9_add, dm_cm, upd, vp_updL, dm_ui_1, dm_ui_2, dm_ul_1, dm_ul_2, sp_X1_beginOf, sp_X1_endOf, sp_X1_rateOf, sC_0, sC_1, sC_2, sC_3, sC_4, sC_5, sC_6, sC_7, sC_8, sC_9, sC_10, sC_11, sC_12, sC_13, sC_14, sC_15, sC_16, sC_17, sC_18, sC_19, sC_20, sC_21, sC_22, sC_23, sC_24, sC_25, sC_26, sC_27, sC_28, sC_29, sC_30, sC_31, sC_32, sC_33, sC_34, sC_35, sC_36, sC_37, sC_38, sC_39, sC_40, sC_41, sC_42, sC_43, sC_44, sC_45, sC_46, sC_47, sC_48, sC_49, sC_50, sC_51]
    obtain ⟨w, hw, rfl, h1, h⟩ := h
    exact ⟨h1, w, hw, rfl, h1, w, hw, rfl, h1, w, hw, rfl, h1, h⟩
  · exact h.elim
set_option maxRecDepth 100000 in
theorem t_X9_add (l : Launch) (D : va_G) (cA : Nat → ClassId) (ad : Nat → Nat) : dm_Met l D dm_cl cA ad shC yX9_add (Cond.code yX9_add cX9_add 2 (dm_rt 0) :: dm_tt) ({ frames := 1, cells := 0, slots := 0, locals := 21 } : Room) sp_X9_add := dm_meth (own := RX9) (X := x_X9_add) (Sp := k_X9_add) (prog := p_X9_add) (by decide +kernel) rfl rfl (dm_FO_s ffX9 [(9, 9, 2), (15, 9, 3), (18, 9, 4), (21, 9, 5), (29, 9, 1), (33, 9, 6)] rfl dm_hT (by decide +kernel)) (dm_IO_s ifX9 jfX9 [] [] rfl rfl dm_hT (by decide +kernel) (by decide +kernel)) soC (dm_MO_of (List.forall_mem_cons.mpr ⟨dm_M1_of (t_X1_beginOf l D cA ad) dm_hT (dm_mem [553, 68, 700] (by decide +kernel) (by decide +kernel)) (by decide) (by decide +kernel) (Or.inr ⟨by decide, dm_mem [551, 552] (by decide +kernel) (by decide +kernel), rfl⟩), List.forall_mem_cons.mpr ⟨dm_M1_of (t_X1_endOf l D cA ad) dm_hT (dm_mem [614, 68, 701] (by decide +kernel) (by decide +kernel)) (by decide) (by decide +kernel) (Or.inr ⟨by decide, dm_mem [612, 613] (by decide +kernel) (by decide +kernel), rfl⟩), List.forall_mem_cons.mpr ⟨dm_M1_of (t_X1_rateOf l D cA ad) dm_hT (dm_mem [705, 68, 702] (by decide +kernel) (by decide +kernel)) (by decide) (by decide +kernel) (Or.inr ⟨by decide, dm_mem [703, 704] (by decide +kernel) (by decide +kernel), rfl⟩), fun _ h => absurd h List.not_mem_nil⟩⟩⟩)) v_X9_add u_X9_add
def sp_X0_endsBelow (As : List Value) (u : dm_S) (Q : Option Value → dm_S → Prop) : Prop := match As with
  | [.ref 8, .int a, .int b, .long d] => vp_in a 80 ∧ vp_in (a * 4 + u.1 16 a.toNatClampNeg - 1) 320 ∧ vp_in (b * 24 + u.1 13 a.toNatClampNeg) 600 ∧ Q (some (.int (if d + u.2 18 (a * 4 + u.1 16 a.toNatClampNeg - 1).toNatClampNeg + u.2 47 (b * 24 + u.1 13 a.toNatClampNeg).toNatClampNeg < 0 then 1 else 0))) u
  | _ => False
def p_X0_endsBelow : List dm_I := [(0, .lload_n 3, 1, [3]), (1, .aload_n 0, 1, [0]), (2, .getfield 19, 3, []), (5, .iload_n 1, 1, [1]), (6, .invokevirtual 44, 3, []), (9, .ladd, 1, []), (10, .aload_n 0, 1, [0]), (11, .getfield 15, 3, []), (14, .iload_n 2, 1, [2]), (15, .bipush 24, 2, []), (17, .imul, 1, []), (18, .aload_n 0, 1, [0]), (19, .getfield 19, 3, []), (22, .getfield 48, 3, []), (25, .iload_n 1, 1, [1]), (26, .iaload, 1, []), (27, .iadd, 1, []), (28, .laload, 1, []), (29, .ladd, 1, []), (30, .lconst 0, 1, []), (31, .lcmp, 1, []), (32, .ifCond .ge 7, 3, [39]), (35, .iconst 1, 1, []), (36, .goto 4, 3, [40]), (39, .iconst 0, 1, []), (40, .ireturn, 1, [])]
set_option maxRecDepth 100000 in
theorem v_X0_endsBelow : p_X0_endsBelow.all (dm_vb cX0_endsBelow) = true := by decide +kernel
def k_X0_endsBelow : dm_Sp := fun a => match a with
  | 0 => sp_X2_lastRate
  | _ => fun _ _ _ => False
def x_X0_endsBelow : dm_X := dm_mk [(15, 0, 2), (19, 0, 0), (48, 2, 2)] [] [] [(44, 0, 1, 2)] 3
set_option maxRecDepth 100000 in
set_option maxHeartbeats 400000 in
theorem u_X0_endsBelow : dm_Pure shC x_X0_endsBelow k_X0_endsBelow p_X0_endsBelow 5 sp_X0_endsBelow := by
  intro As u Qp h
  unfold sp_X0_endsBelow at h
  split at h
  · refine ⟨Nat.le_of_ble_eq_true rfl, fun G Wp hW0 hW1 hG => ?_⟩
    apply hG (fun _ => false) 27
    simp (config := { maxSteps := 2000000 }) [hW0, hW1, dm_fn, dm_fd, dm_x, dm_L0, dm_la, dm_t1, dm_sw, List.headD, dm_ic, dm_mk, dm_s1, dm_s2, dm_clr, dm_cs, dm_cc, dm_nb0, dm_nb1, Value.category, List.lookup, p_X0_endsBelow, x_X0_endsBelow, k_X0_endsBelow, dm_cm, upd, vp_updL, dm_ui_1, dm_ui_2, dm_ul_1, dm_ul_2, sp_X2_lastRate, sC_0, sC_1, sC_2, sC_3, sC_4, sC_5, sC_6, sC_7, sC_8, sC_9, sC_10, sC_11, sC_12, sC_13, sC_14, sC_15, sC_16, sC_17, sC_18, sC_19, sC_20, sC_21, sC_22, sC_23, sC_24, sC_25, sC_26, sC_27, sC_28, sC_29, sC_30, sC_31, sC_32, sC_33, sC_34, sC_35, sC_36, sC_37, sC_38, sC_39, sC_40, sC_41, sC_42, sC_43, sC_44, sC_45, sC_46, sC_47, sC_48, sC_49, sC_50, sC_51]
    obtain ⟨h1, h2, h3, h4⟩ := h
    refine ⟨h1, h2, h1, h3, fun q => ?_, fun q => ?_⟩
    · rw [if_neg (dm_l_lt.mpr q)] at h4; exact h4
    · rw [if_pos q] at h4; exact h4
  · exact h.elim
set_option maxRecDepth 100000 in
theorem t_X0_endsBelow (l : Launch) (D : va_G) (cA : Nat → ClassId) (ad : Nat → Nat) : dm_Met l D dm_cl cA ad shC yX0_endsBelow (Cond.code yX0_endsBelow cX0_endsBelow 5 (dm_rt 3) :: dm_tt) ({ frames := 2, cells := 0, slots := 0, locals := 42 } : Room) sp_X0_endsBelow := dm_meth (own := RX0) (X := x_X0_endsBelow) (Sp := k_X0_endsBelow) (prog := p_X0_endsBelow) (by decide +kernel) rfl rfl (dm_FO_s ffX0 [(15, 0, 2), (19, 0, 0), (48, 2, 2)] rfl dm_hT (by decide +kernel)) (dm_IO_s ifX0 jfX0 [] [] rfl rfl dm_hT (by decide +kernel) (by decide +kernel)) soC (dm_MO_of (List.forall_mem_cons.mpr ⟨dm_M1_of (t_X2_lastRate l D cA ad) dm_hT (dm_mem [651, 67, 665] (by decide +kernel) (by decide +kernel)) (by decide) (by decide +kernel) (Or.inr ⟨by decide, dm_mem [649, 650] (by decide +kernel) (by decide +kernel), rfl⟩), fun _ h => absurd h List.not_mem_nil⟩)) v_X0_endsBelow u_X0_endsBelow
def sp_X6_costOfRest (As : List Value) (u : dm_S) (Q : Option Value → dm_S → Prop) : Prop := match As with
  | [.ref 7, .int a, .int b] => vp_in (u.1 1 8 * 24 + a) 600 ∧ vp_in (b * 24 + a) 600 ∧ Q (some (.long (u.2 42 (u.1 1 8 * 24 + a).toNatClampNeg - u.2 42 (b * 24 + a).toNatClampNeg))) u
  | _ => False
def p_X6_costOfRest : List dm_I := [(0, .aload_n 0, 1, [0]), (1, .getfield 9, 3, []), (4, .aload_n 0, 1, [0]), (5, .getfield 25, 3, []), (8, .getfield 59, 3, []), (11, .bipush 24, 2, []), (13, .imul, 1, []), (14, .iload_n 1, 1, [1]), (15, .iadd, 1, []), (16, .laload, 1, []), (17, .aload_n 0, 1, [0]), (18, .getfield 9, 3, []), (21, .iload_n 2, 1, [2]), (22, .bipush 24, 2, []), (24, .imul, 1, []), (25, .iload_n 1, 1, [1]), (26, .iadd, 1, []), (27, .laload, 1, []), (28, .lsub, 1, []), (29, .lreturn, 1, [])]
set_option maxRecDepth 100000 in
theorem v_X6_costOfRest : p_X6_costOfRest.all (dm_vb cX6_costOfRest) = true := by decide +kernel
def k_X6_costOfRest : dm_Sp := fun a => match a with
  | _ => fun _ _ _ => False
def x_X6_costOfRest : dm_X := dm_mk [(9, 6, 3), (25, 6, 0), (59, 2, 8)] [] [] [] 2
set_option maxRecDepth 100000 in
set_option maxHeartbeats 400000 in
theorem u_X6_costOfRest : dm_Pure shC x_X6_costOfRest k_X6_costOfRest p_X6_costOfRest 3 sp_X6_costOfRest := by
  intro As u Qp h
  unfold sp_X6_costOfRest at h
  split at h
  · refine ⟨Nat.le_of_ble_eq_true rfl, fun G Wp hW0 hW1 hG => ?_⟩
    apply hG (fun _ => false) 21
    simp (config := { maxSteps := 2000000 }) [hW0, hW1, dm_fn, dm_fd, dm_x, dm_L0, dm_la, dm_t1, dm_sw, List.headD, dm_ic, dm_mk, dm_s1, dm_s2, dm_clr, dm_cs, dm_cc, dm_nb0, dm_nb1, Value.category, List.lookup, p_X6_costOfRest, x_X6_costOfRest, k_X6_costOfRest, dm_cm, upd, vp_updL, dm_ui_1, dm_ui_2, dm_ul_1, dm_ul_2, sC_0, sC_1, sC_2, sC_3, sC_4, sC_5, sC_6, sC_7, sC_8, sC_9, sC_10, sC_11, sC_12, sC_13, sC_14, sC_15, sC_16, sC_17, sC_18, sC_19, sC_20, sC_21, sC_22, sC_23, sC_24, sC_25, sC_26, sC_27, sC_28, sC_29, sC_30, sC_31, sC_32, sC_33, sC_34, sC_35, sC_36, sC_37, sC_38, sC_39, sC_40, sC_41, sC_42, sC_43, sC_44, sC_45, sC_46, sC_47, sC_48, sC_49, sC_50, sC_51]
    exact h
  · exact h.elim
set_option maxRecDepth 100000 in
theorem t_X6_costOfRest (l : Launch) (D : va_G) (cA : Nat → ClassId) (ad : Nat → Nat) : dm_Met l D dm_cl cA ad shC yX6_costOfRest (Cond.code yX6_costOfRest cX6_costOfRest 3 (dm_rt 2) :: dm_tt) ({ frames := 0, cells := 0, slots := 0, locals := 0 } : Room) sp_X6_costOfRest := dm_meth (own := RX6) (X := x_X6_costOfRest) (Sp := k_X6_costOfRest) (prog := p_X6_costOfRest) (by decide +kernel) rfl rfl (dm_FO_s ffX6 [(9, 6, 3), (25, 6, 0), (59, 2, 8)] rfl dm_hT (by decide +kernel)) (dm_IO_s ifX6 jfX6 [] [] rfl rfl dm_hT (by decide +kernel) (by decide +kernel)) soC (dm_MO_of (fun _ h => absurd h List.not_mem_nil)) v_X6_costOfRest u_X6_costOfRest
/-- a way (of Ways, by its place) lowers the cost of its end -/
def dm_lb (u : dm_S) (c a : Nat) : Prop := ¬ u.2 c (u.1 29 a).toNatClampNeg = 1152921504606846976 ∧ u.2 c (u.1 29 a).toNatClampNeg + u.2 31 a < u.2 c (u.1 30 a).toNatClampNeg
def sp_X5_lowerBy (As : List Value) (u : dm_S) (Q : Option Value → dm_S → Prop) : Prop := match As with
  | [.ref 5, .int x, .ref c] => ∃ a : Nat, a < 160 ∧ x = nI a ∧ shC[c]? = some (.inl (1, 24)) ∧ vp_in (u.1 29 a) 24 ∧ vp_in (u.1 30 a) 24 ∧ (dm_lb u c a → Q (some (.int 1)) (dm_ul u c (u.1 30 a).toNatClampNeg (u.2 c (u.1 29 a).toNatClampNeg + u.2 31 a))) ∧ (¬ dm_lb u c a → Q (some (.int 0)) u)
  | _ => False
def p_X5_lowerBy : List dm_I := [(0, .aload_n 2, 1, [2]), (1, .aload_n 0, 1, [0]), (2, .getfield 26, 3, []), (5, .getfield 76, 3, []), (8, .iload_n 1, 1, [1]), (9, .iaload, 1, []), (10, .laload, 1, []), (11, .lstore_n 3, 1, [3]), (12, .lload_n 3, 1, [3]), (13, .ldc2_w 102, 3, []), (16, .lcmp, 1, []), (17, .ifCond .eq 29, 3, [46]), (20, .lload_n 3, 1, [3]), (21, .aload_n 0, 1, [0]), (22, .getfield 26, 3, []), (25, .getfield 79, 3, []), (28, .iload_n 1, 1, [1]), (29, .laload, 1, []), (30, .ladd, 1, []), (31, .aload_n 2, 1, [2]), (32, .aload_n 0, 1, [0]), (33, .getfield 26, 3, []), (36, .getfield 73, 3, []), (39, .iload_n 1, 1, [1]), (40, .iaload, 1, []), (41, .laload, 1, []), (42, .lcmp, 1, []), (43, .ifCond .lt 5, 3, [48]), (46, .iconst 0, 1, []), (47, .ireturn, 1, []), (48, .aload_n 2, 1, [2]), (49, .aload_n 0, 1, [0]), (50, .getfield 26, 3, []), (53, .getfield 73, 3, []), (56, .iload_n 1, 1, [1]), (57, .iaload, 1, []), (58, .lload_n 3, 1, [3]), (59, .aload_n 0, 1, [0]), (60, .getfield 26, 3, []), (63, .getfield 79, 3, []), (66, .iload_n 1, 1, [1]), (67, .laload, 1, []), (68, .ladd, 1, []), (69, .lastore, 1, []), (70, .iconst 1, 1, []), (71, .ireturn, 1, [])]
set_option maxRecDepth 100000 in
theorem v_X5_lowerBy : p_X5_lowerBy.all (dm_vb cX5_lowerBy) = true := by decide +kernel
def k_X5_lowerBy : dm_Sp := fun a => match a with
  | _ => fun _ _ _ => False
def x_X5_lowerBy : dm_X := dm_mk [(26, 5, 2), (73, 9, 4), (76, 9, 3), (79, 9, 5)] [] [(102, 1152921504606846976)] [] 3
set_option maxRecDepth 100000 in
set_option maxHeartbeats 400000 in
theorem u_X5_lowerBy : dm_Pure shC x_X5_lowerBy k_X5_lowerBy p_X5_lowerBy 5 sp_X5_lowerBy := by
  intro As u Qp h
  unfold sp_X5_lowerBy at h
  split at h
  · refine ⟨Nat.le_of_ble_eq_true rfl, fun G Wp hW0 hW1 hG => ?_⟩
    apply hG (fun _ => false) 47
    simp (config := { maxSteps := 2000000 }) [hW0, hW1, dm_fn, dm_fd, dm_x, dm_L0, dm_la, dm_t1, dm_sw, List.headD, dm_ic, dm_mk, dm_s1, dm_s2, dm_clr, dm_cs, dm_cc, dm_nb0, dm_nb1, Value.category, List.lookup, p_X5_lowerBy, x_X5_lowerBy, k_X5_lowerBy, dm_cm, upd, vp_updL, dm_ui_1, dm_ui_2, dm_ul_1, dm_ul_2, sC_0, sC_1, sC_2, sC_3, sC_4, sC_5, sC_6, sC_7, sC_8, sC_9, sC_10, sC_11, sC_12, sC_13, sC_14, sC_15, sC_16, sC_17, sC_18, sC_19, sC_20, sC_21, sC_22, sC_23, sC_24, sC_25, sC_26, sC_27, sC_28, sC_29, sC_30, sC_31, sC_32, sC_33, sC_34, sC_35, sC_36, sC_37, sC_38, sC_39, sC_40, sC_41, sC_42, sC_43, sC_44, sC_45, sC_46, sC_47, sC_48, sC_49, sC_50, sC_51]
    obtain ⟨a, ha, rfl, h0, h2, h3, h4, h5⟩ := h
    have e : (nI a).toNatClampNeg = a := nI_clamp (by omega)
    have hi : vp_in (nI a) 160 := vp_in_nI ha (by omega)
    simp [h0, e]
    exact ⟨hi, h2, fun q => h5 (fun z => z.1 q), fun q => ⟨hi, h3, fun q2 => ⟨hi, h3, h4 ⟨q, q2⟩⟩, fun q2 => h5 (fun z => dm_l_lt.mpr q2 z.2)⟩⟩
  · exact h.elim
set_option maxRecDepth 100000 in
theorem t_X5_lowerBy (l : Launch) (D : va_G) (cA : Nat → ClassId) (ad : Nat → Nat) : dm_Met l D dm_cl cA ad shC yX5_lowerBy (Cond.code yX5_lowerBy cX5_lowerBy 5 (dm_rt 3) :: dm_tt) ({ frames := 0, cells := 0, slots := 0, locals := 0 } : Room) sp_X5_lowerBy := dm_meth (own := RX5) (X := x_X5_lowerBy) (Sp := k_X5_lowerBy) (prog := p_X5_lowerBy) (by decide +kernel) rfl rfl (dm_FO_s ffX5 [(26, 5, 2), (73, 9, 4), (76, 9, 3), (79, 9, 5)] rfl dm_hT (by decide +kernel)) (dm_IO_s ifX5 jfX5 [] [(102, 1152921504606846976)] rfl rfl dm_hT (by decide +kernel) (by decide +kernel)) soC (dm_MO_of (fun _ h => absurd h List.not_mem_nil)) v_X5_lowerBy u_X5_lowerBy
end
section
/-! ===== sums and collections ===== -/
def dm_sg (f : Nat → Int64) (p : Nat) : Nat → Int64
  | 0 => 0
  | n + 1 => dm_sg f p n + f (p + n)
theorem dm_l4 {a : Nat} (h : a < 80) : nI a * 4 = nI (4 * a) := by
  rw [show (4 : Int32) = nI 4 from rfl, pk_mul, Nat.mul_comm]
def sp_X1_amountOn (As : List Value) (u : dm_S) (Q : Option Value → dm_S → Prop) : Prop := match As with
  | [.ref 2, .int x] => ∃ a p n : Nat, a < 80 ∧ x = nI a ∧ u.1 19 a = nI p ∧ u.1 19 (a + 1) = nI (p + n) ∧ p + n ≤ 320 ∧ Q (some (.long (u.2 17 (4 * a) + dm_sg (u.2 24) p n))) u
  | _ => False
def p_X1_amountOn : List dm_I := [(0, .aload_n 0, 1, [0]), (1, .getfield 40, 3, []), (4, .iload_n 1, 1, [1]), (5, .invokevirtual 105, 3, []), (8, .lstore_n 2, 1, [2]), (9, .aload_n 0, 1, [0]), (10, .getfield 9, 3, []), (13, .iload_n 1, 1, [1]), (14, .iaload, 1, []), (15, .istore 4, 2, []), (17, .iload 4, 2, []), (19, .aload_n 0, 1, [0]), (20, .getfield 9, 3, []), (23, .iload_n 1, 1, [1]), (24, .iconst 1, 1, []), (25, .iadd, 1, []), (26, .iaload, 1, []), (27, .if_icmp .ge 19, 3, [46]), (30, .lload_n 2, 1, [2]), (31, .aload_n 0, 1, [0]), (32, .getfield 28, 3, []), (35, .iload 4, 2, []), (37, .laload, 1, []), (38, .ladd, 1, []), (39, .lstore_n 2, 1, [2]), (40, .iinc 4 1, 3, []), (43, .goto (-26), 3, [17]), (46, .lload_n 2, 1, [2]), (47, .lreturn, 1, [])]
set_option maxRecDepth 100000 in
theorem v_X1_amountOn : p_X1_amountOn.all (dm_vb cX1_amountOn) = true := by decide +kernel
def k_X1_amountOn : dm_Sp := fun a => match a with
  | 0 => sp_X2_lowOf
  | _ => fun _ _ _ => False
def x_X1_amountOn : dm_X := dm_mk [(9, 1, 1), (28, 1, 6), (40, 1, 0)] [] [] [(105, 0, 1, 2)] 2
set_option maxRecDepth 100000 in
set_option maxHeartbeats 400000 in
theorem u_X1_amountOn : dm_Pure shC x_X1_amountOn k_X1_amountOn p_X1_amountOn 5 sp_X1_amountOn := by
  intro As u Qp h
  unfold sp_X1_amountOn at h
  split at h
  · obtain ⟨a, p, n, ha, rfl, e1, e2, hn, h⟩ := h
    refine ⟨Nat.le_of_ble_eq_true rfl, fun G Wp hW0 hW1 hG => ?_⟩
    have ca : (nI a).toNatClampNeg = a := nI_clamp (by omega)
    have cb : (nI (a + 1)).toNatClampNeg = a + 1 := nI_clamp (by omega)
    have c4 : (nI (4 * a)).toNatClampNeg = 4 * a := nI_clamp (by omega)
    have i1 : vp_in (nI a) 81 := vp_in_nI (by omega) (by omega)
    have i2 : vp_in (nI (a + 1)) 81 := vp_in_nI (by omega) (by omega)
    have i3 : vp_in (nI (4 * a)) 320 := vp_in_nI (by omega) (by omega)
    have loop : ∀ k i : Nat, i + k = n → G 17 [some (.ref 2), some (.int (nI a)), some (.long (u.2 17 (4 * a) + dm_sg (u.2 24) p i)), none, some (.int (nI (p + i)))] [] u := by
      intro k
      induction k with
      | zero =>
        intro i hi
        apply hG (fun pc => pc == 17) 30
        simp (config := { maxSteps := 2000000 }) [hW0, hW1, dm_fn, dm_fd, dm_x, dm_L0, dm_la, dm_t1, dm_sw, List.headD, dm_ic, dm_mk, dm_s1, dm_s2, dm_clr, dm_cs, dm_cc, dm_nb0, dm_nb1, Value.category, List.lookup, p_X1_amountOn, x_X1_amountOn, k_X1_amountOn, dm_cm, upd, vp_updL, dm_ui_1, dm_ui_2, dm_ul_1, dm_ul_2, sp_X2_lowOf, sC_0, sC_1, sC_2, sC_3, sC_4, sC_5, sC_6, sC_7, sC_8, sC_9, sC_10, sC_11, sC_12, sC_13, sC_14, sC_15, sC_16, sC_17, sC_18, sC_19, sC_20, sC_21, sC_22, sC_23, sC_24, sC_25, sC_26, sC_27, sC_28, sC_29, sC_30, sC_31, sC_32, sC_33, sC_34, sC_35, sC_36, sC_37, sC_38, sC_39, sC_40, sC_41, sC_42, sC_43, sC_44, sC_45, sC_46, sC_47, sC_48, sC_49, sC_50, sC_51]
        rw [nI_1, cb, e2]
        have e : i = n := by omega
        subst e
        exact ⟨i2, fun _ => h, fun q => absurd q (nI_nlt (Nat.le_refl _) (by omega))⟩
      | succ k ih =>
        intro i hi
        apply hG (fun pc => pc == 17) 30
        simp (config := { maxSteps := 2000000 }) [hW0, hW1, dm_fn, dm_fd, dm_x, dm_L0, dm_la, dm_t1, dm_sw, List.headD, dm_ic, dm_mk, dm_s1, dm_s2, dm_clr, dm_cs, dm_cc, dm_nb0, dm_nb1, Value.category, List.lookup, p_X1_amountOn, x_X1_amountOn, k_X1_amountOn, dm_cm, upd, vp_updL, dm_ui_1, dm_ui_2, dm_ul_1, dm_ul_2, sp_X2_lowOf, sC_0, sC_1, sC_2, sC_3, sC_4, sC_5, sC_6, sC_7, sC_8, sC_9, sC_10, sC_11, sC_12, sC_13, sC_14, sC_15, sC_16, sC_17, sC_18, sC_19, sC_20, sC_21, sC_22, sC_23, sC_24, sC_25, sC_26, sC_27, sC_28, sC_29, sC_30, sC_31, sC_32, sC_33, sC_34, sC_35, sC_36, sC_37, sC_38, sC_39, sC_40, sC_41, sC_42, sC_43, sC_44, sC_45, sC_46, sC_47, sC_48, sC_49, sC_50, sC_51]
        rw [nI_1, cb, e2]
        have e := ih (i + 1) (by omega)
        refine ⟨i2, fun q => absurd q (nI_ge (by omega) (by omega)), fun q => ⟨vp_in_nI (by omega) (by omega), ?_⟩⟩
        rw [nI_clamp (by omega), nI_1, Int64.add_assoc]
        exact e
    apply hG (fun pc => pc == 17) 30
    simp (config := { maxSteps := 2000000 }) [hW0, hW1, dm_fn, dm_fd, dm_x, dm_L0, dm_la, dm_t1, dm_sw, List.headD, dm_ic, dm_mk, dm_s1, dm_s2, dm_clr, dm_cs, dm_cc, dm_nb0, dm_nb1, Value.category, List.lookup, p_X1_amountOn, x_X1_amountOn, k_X1_amountOn, dm_cm, upd, vp_updL, dm_ui_1, dm_ui_2, dm_ul_1, dm_ul_2, sp_X2_lowOf, sC_0, sC_1, sC_2, sC_3, sC_4, sC_5, sC_6, sC_7, sC_8, sC_9, sC_10, sC_11, sC_12, sC_13, sC_14, sC_15, sC_16, sC_17, sC_18, sC_19, sC_20, sC_21, sC_22, sC_23, sC_24, sC_25, sC_26, sC_27, sC_28, sC_29, sC_30, sC_31, sC_32, sC_33, sC_34, sC_35, sC_36, sC_37, sC_38, sC_39, sC_40, sC_41, sC_42, sC_43, sC_44, sC_45, sC_46, sC_47, sC_48, sC_49, sC_50, sC_51]
    rw [dm_l4 ha, c4, ca, e1]
    have e := loop n 0 (by omega)
    simp only [dm_sg, Int64.add_zero] at e
    exact ⟨i3, i1, e⟩
  · exact h.elim
set_option maxRecDepth 100000 in
theorem t_X1_amountOn (l : Launch) (D : va_G) (cA : Nat → ClassId) (ad : Nat → Nat) : dm_Met l D dm_cl cA ad shC yX1_amountOn (Cond.code yX1_amountOn cX1_amountOn 5 (dm_rt 2) :: dm_tt) ({ frames := 1, cells := 0, slots := 0, locals := 21 } : Room) sp_X1_amountOn := dm_meth (own := RX1) (X := x_X1_amountOn) (Sp := k_X1_amountOn) (prog := p_X1_amountOn) (by decide +kernel) rfl rfl (dm_FO_s ffX1 [(9, 1, 1), (28, 1, 6), (40, 1, 0)] rfl dm_hT (by decide +kernel)) (dm_IO_s ifX1 jfX1 [] [] rfl rfl dm_hT (by decide +kernel) (by decide +kernel)) soC (dm_MO_of (List.forall_mem_cons.mpr ⟨dm_M1_of (t_X2_lowOf l D cA ad) dm_hT (dm_mem [588, 67, 585] (by decide +kernel) (by decide +kernel)) (by decide) (by decide +kernel) (Or.inr ⟨by decide, dm_mem [586, 587] (by decide +kernel) (by decide +kernel), rfl⟩), fun _ h => absurd h List.not_mem_nil⟩)) v_X1_amountOn u_X1_amountOn
def sp_X1_isBalanced (As : List Value) (u : dm_S) (Q : Option Value → dm_S → Prop) : Prop := match As with
  | [.ref 2] => ∃ n : Nat, n ≤ 24 ∧ u.1 1 8 = nI n ∧ ((∀ j, j < n → u.2 25 j = 0) → Q (some (.int 1)) u) ∧ ((∃ j, j < n ∧ ¬ u.2 25 j = 0) → Q (some (.int 0)) u)
  | _ => False
def p_X1_isBalanced : List dm_I := [(0, .iconst 0, 1, []), (1, .istore_n 1, 1, [1]), (2, .iload_n 1, 1, [1]), (3, .aload_n 0, 1, [0]), (4, .getfield 40, 3, []), (7, .getfield 89, 3, []), (10, .if_icmp .ge 22, 3, [32]), (13, .aload_n 0, 1, [0]), (14, .getfield 31, 3, []), (17, .iload_n 1, 1, [1]), (18, .laload, 1, []), (19, .lconst 0, 1, []), (20, .lcmp, 1, []), (21, .ifCond .eq 5, 3, [26]), (24, .iconst 0, 1, []), (25, .ireturn, 1, []), (26, .iinc 1 1, 3, []), (29, .goto (-27), 3, [2]), (32, .iconst 1, 1, []), (33, .ireturn, 1, [])]
set_option maxRecDepth 100000 in
theorem v_X1_isBalanced : p_X1_isBalanced.all (dm_vb cX1_isBalanced) = true := by decide +kernel
def k_X1_isBalanced : dm_Sp := fun a => match a with
  | _ => fun _ _ _ => False
def x_X1_isBalanced : dm_X := dm_mk [(31, 1, 7), (40, 1, 0), (89, 2, 8)] [] [] [] 3
set_option maxRecDepth 100000 in
set_option maxHeartbeats 400000 in
theorem u_X1_isBalanced : dm_Pure shC x_X1_isBalanced k_X1_isBalanced p_X1_isBalanced 2 sp_X1_isBalanced := by
  intro As u Qp h
  unfold sp_X1_isBalanced at h
  split at h
  · obtain ⟨n, hn, en, h1, h2⟩ := h
    refine ⟨Nat.le_of_ble_eq_true rfl, fun G Wp hW0 hW1 hG => ?_⟩
    have loop : ∀ k i : Nat, i + k = n → (∀ j, j < i → u.2 25 j = 0) → G 2 [some (.ref 2), some (.int (nI i))] [] u := by
      intro k
      induction k with
      | zero =>
        intro i hi hz
        apply hG (fun pc => pc == 2) 30
        simp (config := { maxSteps := 2000000 }) [hW0, hW1, dm_fn, dm_fd, dm_x, dm_L0, dm_la, dm_t1, dm_sw, List.headD, dm_ic, dm_mk, dm_s1, dm_s2, dm_clr, dm_cs, dm_cc, dm_nb0, dm_nb1, Value.category, List.lookup, p_X1_isBalanced, x_X1_isBalanced, k_X1_isBalanced, dm_cm, upd, vp_updL, dm_ui_1, dm_ui_2, dm_ul_1, dm_ul_2, sC_0, sC_1, sC_2, sC_3, sC_4, sC_5, sC_6, sC_7, sC_8, sC_9, sC_10, sC_11, sC_12, sC_13, sC_14, sC_15, sC_16, sC_17, sC_18, sC_19, sC_20, sC_21, sC_22, sC_23, sC_24, sC_25, sC_26, sC_27, sC_28, sC_29, sC_30, sC_31, sC_32, sC_33, sC_34, sC_35, sC_36, sC_37, sC_38, sC_39, sC_40, sC_41, sC_42, sC_43, sC_44, sC_45, sC_46, sC_47, sC_48, sC_49, sC_50, sC_51]
        have e : i = n := by omega
        subst e
        rw [en]
        exact ⟨fun _ => h1 hz, fun q => absurd q (nI_nlt (Nat.le_refl _) (by omega))⟩
      | succ k ih =>
        intro i hi hz
        apply hG (fun pc => pc == 2) 30
        simp (config := { maxSteps := 2000000 }) [hW0, hW1, dm_fn, dm_fd, dm_x, dm_L0, dm_la, dm_t1, dm_sw, List.headD, dm_ic, dm_mk, dm_s1, dm_s2, dm_clr, dm_cs, dm_cc, dm_nb0, dm_nb1, Value.category, List.lookup, p_X1_isBalanced, x_X1_isBalanced, k_X1_isBalanced, dm_cm, upd, vp_updL, dm_ui_1, dm_ui_2, dm_ul_1, dm_ul_2, sC_0, sC_1, sC_2, sC_3, sC_4, sC_5, sC_6, sC_7, sC_8, sC_9, sC_10, sC_11, sC_12, sC_13, sC_14, sC_15, sC_16, sC_17, sC_18, sC_19, sC_20, sC_21, sC_22, sC_23, sC_24, sC_25, sC_26, sC_27, sC_28, sC_29, sC_30, sC_31, sC_32, sC_33, sC_34, sC_35, sC_36, sC_37, sC_38, sC_39, sC_40, sC_41, sC_42, sC_43, sC_44, sC_45, sC_46, sC_47, sC_48, sC_49, sC_50, sC_51]
        rw [en, nI_clamp (by omega), nI_1]
        refine ⟨fun q => absurd q (nI_ge (by omega) (by omega)), fun q => ⟨vp_in_nI (by omega) (by omega), fun z => ih (i + 1) (by omega) (fun j hj => ?_), fun z => h2 ⟨i, by omega, z⟩⟩⟩
        rcases Nat.lt_or_ge j i with y | y
        · exact hz j y
        · rw [show j = i by omega]; exact z
    apply hG (fun pc => pc == 2) 30
    simp (config := { maxSteps := 2000000 }) [hW0, hW1, dm_fn, dm_fd, dm_x, dm_L0, dm_la, dm_t1, dm_sw, List.headD, dm_ic, dm_mk, dm_s1, dm_s2, dm_clr, dm_cs, dm_cc, dm_nb0, dm_nb1, Value.category, List.lookup, p_X1_isBalanced, x_X1_isBalanced, k_X1_isBalanced, dm_cm, upd, vp_updL, dm_ui_1, dm_ui_2, dm_ul_1, dm_ul_2, sC_0, sC_1, sC_2, sC_3, sC_4, sC_5, sC_6, sC_7, sC_8, sC_9, sC_10, sC_11, sC_12, sC_13, sC_14, sC_15, sC_16, sC_17, sC_18, sC_19, sC_20, sC_21, sC_22, sC_23, sC_24, sC_25, sC_26, sC_27, sC_28, sC_29, sC_30, sC_31, sC_32, sC_33, sC_34, sC_35, sC_36, sC_37, sC_38, sC_39, sC_40, sC_41, sC_42, sC_43, sC_44, sC_45, sC_46, sC_47, sC_48, sC_49, sC_50, sC_51]
    exact loop n 0 (by omega) (fun j hj => by omega)
  · exact h.elim
set_option maxRecDepth 100000 in
theorem t_X1_isBalanced (l : Launch) (D : va_G) (cA : Nat → ClassId) (ad : Nat → Nat) : dm_Met l D dm_cl cA ad shC yX1_isBalanced (Cond.code yX1_isBalanced cX1_isBalanced 2 (dm_rt 3) :: dm_tt) ({ frames := 0, cells := 0, slots := 0, locals := 0 } : Room) sp_X1_isBalanced := dm_meth (own := RX1) (X := x_X1_isBalanced) (Sp := k_X1_isBalanced) (prog := p_X1_isBalanced) (by decide +kernel) rfl rfl (dm_FO_s ffX1 [(31, 1, 7), (40, 1, 0), (89, 2, 8)] rfl dm_hT (by decide +kernel)) (dm_IO_s ifX1 jfX1 [] [] rfl rfl dm_hT (by decide +kernel) (by decide +kernel)) soC (dm_MO_of (fun _ h => absurd h List.not_mem_nil)) v_X1_isBalanced u_X1_isBalanced
/-- THE SET's members: those of which b tells -/
def dm_ct (b : Nat → Bool) : Nat → Nat
  | 0 => 0
  | n + 1 => dm_ct b n + (if b n then 1 else 0)
theorem dm_ct_le (b : Nat → Bool) : ∀ n, dm_ct b n ≤ n
  | 0 => Nat.le_refl _
  | n + 1 => by
    have := dm_ct_le b n
    unfold dm_ct
    split <;> omega
def dm_co (u : dm_S) (b : Nat → Bool) : Nat → dm_S
  | 0 => dm_ui u 9 2 0
  | n + 1 => if b n then dm_ui (dm_ui (dm_co u b n) 48 (dm_ct b n) (nI n)) 9 2 (nI (dm_ct b n + 1)) else dm_co u b n
theorem dm_co_at (u : dm_S) (b : Nat → Bool) : ∀ n, (dm_co u b n).1 9 2 = nI (dm_ct b n) ∧ (∀ c, c ≠ 9 → c ≠ 48 → (dm_co u b n).1 c = u.1 c) ∧ (dm_co u b n).2 = u.2
  | 0 => ⟨rfl, fun c h1 _ => if_neg h1, rfl⟩
  | n + 1 => by
    obtain ⟨h1, h2, h3⟩ := dm_co_at u b n
    rw [show dm_co u b (n + 1) = if b n then dm_ui (dm_ui (dm_co u b n) 48 (dm_ct b n) (nI n)) 9 2 (nI (dm_ct b n + 1)) else dm_co u b n from rfl, show dm_ct b (n + 1) = dm_ct b n + (if b n then 1 else 0) from rfl]
    by_cases e : b n = true
    · rw [if_pos e, if_pos e]
      refine ⟨rfl, fun c q1 q2 => ?_, h3⟩
      rw [dm_ui_1, if_neg q1, dm_ui_1, if_neg q2]
      exact h2 c q1 q2
    · rw [if_neg e, if_neg e]
      exact ⟨h1, h2, h3⟩
def sp_X8_takeAll (As : List Value) (u : dm_S) (Q : Option Value → dm_S → Prop) : Prop := match As with
  | [.ref 9] => ∃ n : Nat, n ≤ 24 ∧ u.1 1 8 = nI n ∧ Q none (dm_co u (fun _ => true) n)
  | _ => False
def p_X8_takeAll : List dm_I := [(0, .aload_n 0, 1, [0]), (1, .iconst 0, 1, []), (2, .putfield 19, 3, []), (5, .iconst 0, 1, []), (6, .istore_n 1, 1, [1]), (7, .iload_n 1, 1, [1]), (8, .aload_n 0, 1, [0]), (9, .getfield 15, 3, []), (12, .getfield 23, 3, []), (15, .if_icmp .ge 29, 3, [44]), (18, .aload_n 0, 1, [0]), (19, .getfield 9, 3, []), (22, .aload_n 0, 1, [0]), (23, .getfield 19, 3, []), (26, .iload_n 1, 1, [1]), (27, .iastore, 1, []), (28, .aload_n 0, 1, [0]), (29, .dup, 1, []), (30, .getfield 19, 3, []), (33, .iconst 1, 1, []), (34, .iadd, 1, []), (35, .putfield 19, 3, []), (38, .iinc 1 1, 3, []), (41, .goto (-34), 3, [7]), (44, .return_, 1, [])]
set_option maxRecDepth 100000 in
theorem v_X8_takeAll : p_X8_takeAll.all (dm_vb cX8_takeAll) = true := by decide +kernel
def k_X8_takeAll : dm_Sp := fun a => match a with
  | _ => fun _ _ _ => False
def x_X8_takeAll : dm_X := dm_mk [(9, 8, 1), (15, 8, 0), (19, 8, 2), (23, 2, 8)] [] [] [] 0
set_option maxRecDepth 100000 in
set_option maxHeartbeats 400000 in
theorem u_X8_takeAll : dm_Pure shC x_X8_takeAll k_X8_takeAll p_X8_takeAll 2 sp_X8_takeAll := by
  intro As u Qp h
  unfold sp_X8_takeAll at h
  split at h
  · obtain ⟨n, hn, en, h⟩ := h
    refine ⟨Nat.le_of_ble_eq_true rfl, fun G Wp hW0 hW1 hG => ?_⟩
    have loop : ∀ k i : Nat, i + k = n → G 7 [some (.ref 9), some (.int (nI i))] [] (dm_co u (fun _ => true) i) := by
      intro k
      induction k with
      | zero =>
        intro i hi
        obtain ⟨a1, a2, a3⟩ := dm_co_at u (fun _ => true) i
        apply hG (fun pc => pc == 7) 30
        simp (config := { maxSteps := 2000000 }) [hW0, hW1, dm_fn, dm_fd, dm_x, dm_L0, dm_la, dm_t1, dm_sw, List.headD, dm_ic, dm_mk, dm_s1, dm_s2, dm_clr, dm_cs, dm_cc, dm_nb0, dm_nb1, Value.category, List.lookup, p_X8_takeAll, x_X8_takeAll, k_X8_takeAll, dm_cm, upd, vp_updL, dm_ui_1, dm_ui_2, dm_ul_1, dm_ul_2, sC_0, sC_1, sC_2, sC_3, sC_4, sC_5, sC_6, sC_7, sC_8, sC_9, sC_10, sC_11, sC_12, sC_13, sC_14, sC_15, sC_16, sC_17, sC_18, sC_19, sC_20, sC_21, sC_22, sC_23, sC_24, sC_25, sC_26, sC_27, sC_28, sC_29, sC_30, sC_31, sC_32, sC_33, sC_34, sC_35, sC_36, sC_37, sC_38, sC_39, sC_40, sC_41, sC_42, sC_43, sC_44, sC_45, sC_46, sC_47, sC_48, sC_49, sC_50, sC_51]
        have e : i = n := by omega
        subst e
        rw [a2 1 (by decide) (by decide), en]
        exact ⟨fun _ => h, fun q => absurd q (nI_nlt (Nat.le_refl _) (by omega))⟩
      | succ k ih =>
        intro i hi
        obtain ⟨a1, a2, a3⟩ := dm_co_at u (fun _ => true) i
        have hc := dm_ct_le (fun _ => true) i
        apply hG (fun pc => pc == 7) 30
        simp (config := { maxSteps := 2000000 }) [hW0, hW1, dm_fn, dm_fd, dm_x, dm_L0, dm_la, dm_t1, dm_sw, List.headD, dm_ic, dm_mk, dm_s1, dm_s2, dm_clr, dm_cs, dm_cc, dm_nb0, dm_nb1, Value.category, List.lookup, p_X8_takeAll, x_X8_takeAll, k_X8_takeAll, dm_cm, upd, vp_updL, dm_ui_1, dm_ui_2, dm_ul_1, dm_ul_2, sC_0, sC_1, sC_2, sC_3, sC_4, sC_5, sC_6, sC_7, sC_8, sC_9, sC_10, sC_11, sC_12, sC_13, sC_14, sC_15, sC_16, sC_17, sC_18, sC_19, sC_20, sC_21, sC_22, sC_23, sC_24, sC_25, sC_26, sC_27, sC_28, sC_29, sC_30, sC_31, sC_32, sC_33, sC_34, sC_35, sC_36, sC_37, sC_38, sC_39, sC_40, sC_41, sC_42, sC_43, sC_44, sC_45, sC_46, sC_47, sC_48, sC_49, sC_50, sC_51]
        rw [a2 1 (by decide) (by decide), en, a1, nI_1, nI_1, nI_clamp (by omega)]
        exact ⟨fun q => absurd q (nI_ge (by omega) (by omega)), fun q => ⟨vp_in_nI (by omega) (by omega), ih (i + 1) (by omega)⟩⟩
    apply hG (fun pc => pc == 7) 30
    simp (config := { maxSteps := 2000000 }) [hW0, hW1, dm_fn, dm_fd, dm_x, dm_L0, dm_la, dm_t1, dm_sw, List.headD, dm_ic, dm_mk, dm_s1, dm_s2, dm_clr, dm_cs, dm_cc, dm_nb0, dm_nb1, Value.category, List.lookup, p_X8_takeAll, x_X8_takeAll, k_X8_takeAll, dm_cm, upd, vp_updL, dm_ui_1, dm_ui_2, dm_ul_1, dm_ul_2, sC_0, sC_1, sC_2, sC_3, sC_4, sC_5, sC_6, sC_7, sC_8, sC_9, sC_10, sC_11, sC_12, sC_13, sC_14, sC_15, sC_16, sC_17, sC_18, sC_19, sC_20, sC_21, sC_22, sC_23, sC_24, sC_25, sC_26, sC_27, sC_28, sC_29, sC_30, sC_31, sC_32, sC_33, sC_34, sC_35, sC_36, sC_37, sC_38, sC_39, sC_40, sC_41, sC_42, sC_43, sC_44, sC_45, sC_46, sC_47, sC_48, sC_49, sC_50, sC_51]
    exact loop n 0 (by omega)
  · exact h.elim
set_option maxRecDepth 100000 in
theorem t_X8_takeAll (l : Launch) (D : va_G) (cA : Nat → ClassId) (ad : Nat → Nat) : dm_Met l D dm_cl cA ad shC yX8_takeAll (Cond.code yX8_takeAll cX8_takeAll 2 (dm_rt 0) :: dm_tt) ({ frames := 0, cells := 0, slots := 0, locals := 0 } : Room) sp_X8_takeAll := dm_meth (own := RX8) (X := x_X8_takeAll) (Sp := k_X8_takeAll) (prog := p_X8_takeAll) (by decide +kernel) rfl rfl (dm_FO_s ffX8 [(9, 8, 1), (15, 8, 0), (19, 8, 2), (23, 2, 8)] rfl dm_hT (by decide +kernel)) (dm_IO_s ifX8 jfX8 [] [] rfl rfl dm_hT (by decide +kernel) (by decide +kernel)) soC (dm_MO_of (fun _ h => absurd h List.not_mem_nil)) v_X8_takeAll u_X8_takeAll
def sp_X8_takeSeen (As : List Value) (u : dm_S) (Q : Option Value → dm_S → Prop) : Prop := match As with
  | [.ref 9, .ref 33] => ∃ n : Nat, n ≤ 24 ∧ u.1 1 8 = nI n ∧ Q none (dm_co u (fun j => !decide (u.1 33 j = -2)) n)
  | _ => False
def p_X8_takeSeen : List dm_I := [(0, .aload_n 0, 1, [0]), (1, .iconst 0, 1, []), (2, .putfield 19, 3, []), (5, .iconst 0, 1, []), (6, .istore_n 2, 1, [2]), (7, .iload_n 2, 1, [2]), (8, .aload_n 0, 1, [0]), (9, .getfield 15, 3, []), (12, .getfield 23, 3, []), (15, .if_icmp .ge 37, 3, [52]), (18, .aload_n 1, 1, [1]), (19, .iload_n 2, 1, [2]), (20, .iaload, 1, []), (21, .bipush (-2), 2, []), (23, .if_icmp .eq 23, 3, [46]), (26, .aload_n 0, 1, [0]), (27, .getfield 9, 3, []), (30, .aload_n 0, 1, [0]), (31, .getfield 19, 3, []), (34, .iload_n 2, 1, [2]), (35, .iastore, 1, []), (36, .aload_n 0, 1, [0]), (37, .dup, 1, []), (38, .getfield 19, 3, []), (41, .iconst 1, 1, []), (42, .iadd, 1, []), (43, .putfield 19, 3, []), (46, .iinc 2 1, 3, []), (49, .goto (-42), 3, [7]), (52, .return_, 1, [])]
set_option maxRecDepth 100000 in
theorem v_X8_takeSeen : p_X8_takeSeen.all (dm_vb cX8_takeSeen) = true := by decide +kernel
def k_X8_takeSeen : dm_Sp := fun a => match a with
  | _ => fun _ _ _ => False
def x_X8_takeSeen : dm_X := dm_mk [(9, 8, 1), (15, 8, 0), (19, 8, 2), (23, 2, 8)] [] [] [] 0
set_option maxRecDepth 100000 in
set_option maxHeartbeats 400000 in
theorem u_X8_takeSeen : dm_Pure shC x_X8_takeSeen k_X8_takeSeen p_X8_takeSeen 3 sp_X8_takeSeen := by
  intro As u Qp h
  unfold sp_X8_takeSeen at h
  split at h
  · obtain ⟨n, hn, en, h⟩ := h
    refine ⟨Nat.le_of_ble_eq_true rfl, fun G Wp hW0 hW1 hG => ?_⟩
    generalize hb : (fun j => !decide (u.1 33 j = -2)) = b at h
    have loop : ∀ k i : Nat, i + k = n → G 7 [some (.ref 9), some (.ref 33), some (.int (nI i))] [] (dm_co u b i) := by
      intro k
      induction k with
      | zero =>
        intro i hi
        obtain ⟨a1, a2, a3⟩ := dm_co_at u b i
        apply hG (fun pc => pc == 7) 30
        simp (config := { maxSteps := 2000000 }) [hW0, hW1, dm_fn, dm_fd, dm_x, dm_L0, dm_la, dm_t1, dm_sw, List.headD, dm_ic, dm_mk, dm_s1, dm_s2, dm_clr, dm_cs, dm_cc, dm_nb0, dm_nb1, Value.category, List.lookup, p_X8_takeSeen, x_X8_takeSeen, k_X8_takeSeen, dm_cm, upd, vp_updL, dm_ui_1, dm_ui_2, dm_ul_1, dm_ul_2, sC_0, sC_1, sC_2, sC_3, sC_4, sC_5, sC_6, sC_7, sC_8, sC_9, sC_10, sC_11, sC_12, sC_13, sC_14, sC_15, sC_16, sC_17, sC_18, sC_19, sC_20, sC_21, sC_22, sC_23, sC_24, sC_25, sC_26, sC_27, sC_28, sC_29, sC_30, sC_31, sC_32, sC_33, sC_34, sC_35, sC_36, sC_37, sC_38, sC_39, sC_40, sC_41, sC_42, sC_43, sC_44, sC_45, sC_46, sC_47, sC_48, sC_49, sC_50, sC_51]
        have e : i = n := by omega
        subst e
        rw [a2 1 (by decide) (by decide), en]
        exact ⟨fun _ => h, fun q => absurd q (nI_nlt (Nat.le_refl _) (by omega))⟩
      | succ k ih =>
        intro i hi
        obtain ⟨a1, a2, a3⟩ := dm_co_at u b i
        have hc := dm_ct_le b i
        have e := ih (i + 1) (by omega)
        apply hG (fun pc => pc == 7) 30
        simp (config := { maxSteps := 2000000 }) [hW0, hW1, dm_fn, dm_fd, dm_x, dm_L0, dm_la, dm_t1, dm_sw, List.headD, dm_ic, dm_mk, dm_s1, dm_s2, dm_clr, dm_cs, dm_cc, dm_nb0, dm_nb1, Value.category, List.lookup, p_X8_takeSeen, x_X8_takeSeen, k_X8_takeSeen, dm_cm, upd, vp_updL, dm_ui_1, dm_ui_2, dm_ul_1, dm_ul_2, sC_0, sC_1, sC_2, sC_3, sC_4, sC_5, sC_6, sC_7, sC_8, sC_9, sC_10, sC_11, sC_12, sC_13, sC_14, sC_15, sC_16, sC_17, sC_18, sC_19, sC_20, sC_21, sC_22, sC_23, sC_24, sC_25, sC_26, sC_27, sC_28, sC_29, sC_30, sC_31, sC_32, sC_33, sC_34, sC_35, sC_36, sC_37, sC_38, sC_39, sC_40, sC_41, sC_42, sC_43, sC_44, sC_45, sC_46, sC_47, sC_48, sC_49, sC_50, sC_51]
        rw [a2 1 (by decide) (by decide), a2 33 (by decide) (by decide), en, a1, nI_1, nI_1, nI_clamp (n := i) (by omega), nI_clamp (by omega)]
        rw [show dm_co u b (i + 1) = if b i then dm_ui (dm_ui (dm_co u b i) 48 (dm_ct b i) (nI i)) 9 2 (nI (dm_ct b i + 1)) else dm_co u b i from rfl] at e
        refine ⟨fun q => absurd q (nI_ge (by omega) (by omega)), fun q => ⟨vp_in_nI (by omega) (by omega), fun z => ?_, fun z => ⟨vp_in_nI (by omega) (by omega), ?_⟩⟩⟩
        · rw [if_neg (by rw [← hb]; simp [z])] at e; exact e
        · rw [if_pos (by rw [← hb]; simp [z])] at e; exact e
    apply hG (fun pc => pc == 7) 30
    simp (config := { maxSteps := 2000000 }) [hW0, hW1, dm_fn, dm_fd, dm_x, dm_L0, dm_la, dm_t1, dm_sw, List.headD, dm_ic, dm_mk, dm_s1, dm_s2, dm_clr, dm_cs, dm_cc, dm_nb0, dm_nb1, Value.category, List.lookup, p_X8_takeSeen, x_X8_takeSeen, k_X8_takeSeen, dm_cm, upd, vp_updL, dm_ui_1, dm_ui_2, dm_ul_1, dm_ul_2, sC_0, sC_1, sC_2, sC_3, sC_4, sC_5, sC_6, sC_7, sC_8, sC_9, sC_10, sC_11, sC_12, sC_13, sC_14, sC_15, sC_16, sC_17, sC_18, sC_19, sC_20, sC_21, sC_22, sC_23, sC_24, sC_25, sC_26, sC_27, sC_28, sC_29, sC_30, sC_31, sC_32, sC_33, sC_34, sC_35, sC_36, sC_37, sC_38, sC_39, sC_40, sC_41, sC_42, sC_43, sC_44, sC_45, sC_46, sC_47, sC_48, sC_49, sC_50, sC_51]
    exact loop n 0 (by omega)
  · exact h.elim
set_option maxRecDepth 100000 in
theorem t_X8_takeSeen (l : Launch) (D : va_G) (cA : Nat → ClassId) (ad : Nat → Nat) : dm_Met l D dm_cl cA ad shC yX8_takeSeen (Cond.code yX8_takeSeen cX8_takeSeen 3 (dm_rt 0) :: dm_tt) ({ frames := 0, cells := 0, slots := 0, locals := 0 } : Room) sp_X8_takeSeen := dm_meth (own := RX8) (X := x_X8_takeSeen) (Sp := k_X8_takeSeen) (prog := p_X8_takeSeen) (by decide +kernel) rfl rfl (dm_FO_s ffX8 [(9, 8, 1), (15, 8, 0), (19, 8, 2), (23, 2, 8)] rfl dm_hT (by decide +kernel)) (dm_IO_s ifX8 jfX8 [] [] rfl rfl dm_hT (by decide +kernel) (by decide +kernel)) soC (dm_MO_of (fun _ h => absurd h List.not_mem_nil)) v_X8_takeSeen u_X8_takeSeen
end
section
/-! ===== the class's net as it stands in the cells; what lacks or is too much ===== -/
/-- N NODES, M ARCS from fr to tr with pt parts: the numbers as the cells hold them -/
def cn_ok (u : dm_S) (N M : Nat) (fr tr pt : Nat → Nat) : Prop := (N ≤ 24 ∧ M ≤ 80 ∧ u.1 1 8 = nI N ∧ u.1 1 9 = nI M) ∧ ∀ a, a < M → (u.1 12 a = nI (fr a) ∧ fr a < N) ∧ (u.1 13 a = nI (tr a) ∧ tr a < N) ∧ (u.1 16 a = nI (pt a) ∧ 1 ≤ pt a ∧ pt a ≤ 4)
/-- the first lane of an ARC -/
def cn_fs (pt : Nat → Nat) : Nat → Nat
  | 0 => 0
  | a + 1 => cn_fs pt a + pt a
theorem cn_fs_le {pt : Nat → Nat} {M : Nat} (h : ∀ a, a < M → pt a ≤ 4) : ∀ a, a ≤ M → cn_fs pt a ≤ 4 * a
  | 0, _ => Nat.le_refl _
  | a + 1, ha => by
    have h1 := cn_fs_le h a (by omega)
    have h2 := h a (by omega)
    show cn_fs pt a + pt a ≤ _
    omega
/-- the lanes are laid: where each ARC's begin -/
def cn_ln (u : dm_S) (M : Nat) (pt : Nat → Nat) : Prop := ∀ a, a ≤ M → u.1 19 a = nI (cn_fs pt a)
/-- what goes on an ARC -/
def cn_am (u : dm_S) (pt : Nat → Nat) (a : Nat) : Int64 := u.2 17 (4 * a) + dm_sg (u.2 24) (cn_fs pt a) (pt a)
/-- excess behind weigh, a ARCS counted -/
def cn_ex (u : dm_S) (N : Nat) (fr tr pt : Nat → Nat) : Nat → Nat → Int64
  | 0 => fun j => if j < N then u.2 11 j else u.2 25 j
  | a + 1 => vp_updL (vp_updL (cn_ex u N fr tr pt a) (fr a) (cn_ex u N fr tr pt a (fr a) - cn_am u pt a)) (tr a) (vp_updL (cn_ex u N fr tr pt a) (fr a) (cn_ex u N fr tr pt a (fr a) - cn_am u pt a) (tr a) + cn_am u pt a)
/-- a state with another array of longs -/
def dm_sj (u : dm_S) (c : Nat) (f : Nat → Int64) : dm_S := (u.1, fun c' => if c' = c then f else u.2 c')
theorem dm_sj_1 {u : dm_S} {c : Nat} {f : Nat → Int64} : (dm_sj u c f).1 = u.1 := rfl
theorem dm_sj_2 {u : dm_S} {c c' : Nat} {f : Nat → Int64} : (dm_sj u c f).2 c' = if c' = c then f else u.2 c' := rfl
theorem dm_sj_u {u : dm_S} {c j : Nat} {f : Nat → Int64} {x : Int64} : dm_ul (dm_sj u c f) c j x = dm_sj u c (vp_updL f j x) := by
  unfold dm_ul dm_sj
  refine Prod.ext rfl ?_
  funext c'
  by_cases e : c' = c
  · simp [e]
  · simp [e]
theorem dm_sj_self {u : dm_S} {c : Nat} : dm_sj u c (u.2 c) = u := by
  unfold dm_sj
  refine Prod.ext rfl ?_
  funext c'
  by_cases e : c' = c
  · simp [e]
  · simp [e]
def sp_X1_weigh (As : List Value) (u : dm_S) (Q : Option Value → dm_S → Prop) : Prop := match As with
  | [.ref 2] => ∃ (N M : Nat) (fr tr pt : Nat → Nat), cn_ok u N M fr tr pt ∧ cn_ln u M pt ∧ Q none (dm_sj u 25 (cn_ex u N fr tr pt M))
  | _ => False
def p_X1_weigh : List dm_I := [(0, .iconst 0, 1, []), (1, .istore_n 1, 1, [1]), (2, .iload_n 1, 1, [1]), (3, .aload_n 0, 1, [0]), (4, .getfield 40, 3, []), (7, .getfield 89, 3, []), (10, .if_icmp .ge 24, 3, [34]), (13, .aload_n 0, 1, [0]), (14, .getfield 31, 3, []), (17, .iload_n 1, 1, [1]), (18, .aload_n 0, 1, [0]), (19, .getfield 40, 3, []), (22, .getfield 92, 3, []), (25, .iload_n 1, 1, [1]), (26, .laload, 1, []), (27, .lastore, 1, []), (28, .iinc 1 1, 3, []), (31, .goto (-29), 3, [2]), (34, .iconst 0, 1, []), (35, .istore_n 1, 1, [1]), (36, .iload_n 1, 1, [1]), (37, .aload_n 0, 1, [0]), (38, .getfield 40, 3, []), (41, .getfield 48, 3, []), (44, .if_icmp .ge 51, 3, [95]), (47, .aload_n 0, 1, [0]), (48, .iload_n 1, 1, [1]), (49, .invokevirtual 95, 3, []), (52, .lstore_n 2, 1, [2]), (53, .aload_n 0, 1, [0]), (54, .getfield 31, 3, []), (57, .aload_n 0, 1, [0]), (58, .getfield 40, 3, []), (61, .getfield 56, 3, []), (64, .iload_n 1, 1, [1]), (65, .iaload, 1, []), (66, .dup2, 1, []), (67, .laload, 1, []), (68, .lload_n 2, 1, [2]), (69, .lsub, 1, []), (70, .lastore, 1, []), (71, .aload_n 0, 1, [0]), (72, .getfield 31, 3, []), (75, .aload_n 0, 1, [0]), (76, .getfield 40, 3, []), (79, .getfield 59, 3, []), (82, .iload_n 1, 1, [1]), (83, .iaload, 1, []), (84, .dup2, 1, []), (85, .laload, 1, []), (86, .lload_n 2, 1, [2]), (87, .ladd, 1, []), (88, .lastore, 1, []), (89, .iinc 1 1, 3, []), (92, .goto (-56), 3, [36]), (95, .return_, 1, [])]
set_option maxRecDepth 100000 in
theorem v_X1_weigh : p_X1_weigh.all (dm_vb cX1_weigh) = true := by decide +kernel
def k_X1_weigh : dm_Sp := fun a => match a with
  | 0 => sp_X1_amountOn
  | _ => fun _ _ _ => False
def x_X1_weigh : dm_X := dm_mk [(31, 1, 7), (40, 1, 0), (48, 2, 9), (56, 2, 1), (59, 2, 2), (89, 2, 8), (92, 2, 0)] [] [] [(95, 0, 1, 1)] 0
set_option maxRecDepth 100000 in
set_option maxHeartbeats 400000 in
theorem u_X1_weigh : dm_Pure shC x_X1_weigh k_X1_weigh p_X1_weigh 4 sp_X1_weigh := by
  intro As u Qp h
  unfold sp_X1_weigh at h
  split at h
  · obtain ⟨N, M, fr, tr, pt, ⟨⟨hN, hM, eN, eM⟩, ho⟩, hln, h⟩ := h
    refine ⟨Nat.le_of_ble_eq_true rfl, fun G Wp hW0 hW1 hG => ?_⟩
    have hf := cn_fs_le (pt := pt) (M := M) (fun a ha => (ho a ha).2.2.2.2)
    have loop2 : ∀ k a : Nat, a + k = M → ∀ (o2 o3 : Option Value), G 36 [some (.ref 2), some (.int (nI a)), o2, o3] [] (dm_sj u 25 (cn_ex u N fr tr pt a)) := by
      intro k
      induction k with
      | zero =>
        intro a ha o2 o3
        apply hG (fun pc => pc == 36) 60
        simp (config := { maxSteps := 2000000 }) [hW0, hW1, dm_fn, dm_fd, dm_x, dm_L0, dm_la, dm_t1, dm_sw, List.headD, dm_ic, dm_mk, dm_s1, dm_s2, dm_clr, dm_cs, dm_cc, dm_nb0, dm_nb1, Value.category, List.lookup, p_X1_weigh, x_X1_weigh, k_X1_weigh, dm_cm, upd, vp_updL, dm_ui_1, dm_ui_2, dm_ul_1, dm_ul_2, sp_X1_amountOn, sC_0, sC_1, sC_2, sC_3, sC_4, sC_5, sC_6, sC_7, sC_8, sC_9, sC_10, sC_11, sC_12, sC_13, sC_14, sC_15, sC_16, sC_17, sC_18, sC_19, sC_20, sC_21, sC_22, sC_23, sC_24, sC_25, sC_26, sC_27, sC_28, sC_29, sC_30, sC_31, sC_32, sC_33, sC_34, sC_35, sC_36, sC_37, sC_38, sC_39, sC_40, sC_41, sC_42, sC_43, sC_44, sC_45, sC_46, sC_47, sC_48, sC_49, sC_50, sC_51]
        have e : a = M := by omega
        subst e
        simp only [dm_sj_1, eM]
        exact ⟨fun _ => h, fun q => absurd q (nI_nlt (Nat.le_refl _) (by omega))⟩
      | succ k ih =>
        intro a ha o2 o3
        apply hG (fun pc => pc == 36) 60
        simp (config := { maxSteps := 2000000 }) [hW0, hW1, dm_fn, dm_fd, dm_x, dm_L0, dm_la, dm_t1, dm_sw, List.headD, dm_ic, dm_mk, dm_s1, dm_s2, dm_clr, dm_cs, dm_cc, dm_nb0, dm_nb1, Value.category, List.lookup, p_X1_weigh, x_X1_weigh, k_X1_weigh, dm_cm, upd, vp_updL, dm_ui_1, dm_ui_2, dm_ul_1, dm_ul_2, sp_X1_amountOn, sC_0, sC_1, sC_2, sC_3, sC_4, sC_5, sC_6, sC_7, sC_8, sC_9, sC_10, sC_11, sC_12, sC_13, sC_14, sC_15, sC_16, sC_17, sC_18, sC_19, sC_20, sC_21, sC_22, sC_23, sC_24, sC_25, sC_26, sC_27, sC_28, sC_29, sC_30, sC_31, sC_32, sC_33, sC_34, sC_35, sC_36, sC_37, sC_38, sC_39, sC_40, sC_41, sC_42, sC_43, sC_44, sC_45, sC_46, sC_47, sC_48, sC_49, sC_50, sC_51]
        obtain ⟨⟨e1, l1⟩, ⟨e2, l2⟩, ⟨e3, l3, l4⟩⟩ := ho a (by omega)
        have e := ih (a + 1) (by omega)
        have c1 : (nI a).toNatClampNeg = a := nI_clamp (by omega)
        have c2 : (nI (fr a)).toNatClampNeg = fr a := nI_clamp (by omega)
        have c3 : (nI (tr a)).toNatClampNeg = tr a := nI_clamp (by omega)
        have hq : cn_fs pt a + pt a ≤ 320 := by
          have h9 : cn_fs pt a + pt a ≤ 4 * (a + 1) := hf (a + 1) (by omega)
          omega
        simp only [dm_sj_1, eM, c1, e1, e2, c2, c3, dm_sj_u, nI_1]
        exact ⟨fun q => absurd q (nI_ge (by omega) (by omega)), fun q => ⟨a, by omega, rfl, cn_fs pt a, hln a (by omega), pt a, hln (a + 1) (by omega), hq, vp_in_nI (by omega) (by omega), vp_in_nI (by omega) (by omega), vp_in_nI (by omega) (by omega), vp_in_nI (by omega) (by omega), e _ _⟩⟩
    have loop1 : ∀ k i : Nat, i + k = N → G 2 [some (.ref 2), some (.int (nI i)), none, none] [] (dm_sj u 25 (fun j => if j < i then u.2 11 j else u.2 25 j)) := by
      intro k
      induction k with
      | zero =>
        intro i hi
        apply hG (fun pc => pc == 2 || pc == 36) 60
        simp (config := { maxSteps := 2000000 }) [hW0, hW1, dm_fn, dm_fd, dm_x, dm_L0, dm_la, dm_t1, dm_sw, List.headD, dm_ic, dm_mk, dm_s1, dm_s2, dm_clr, dm_cs, dm_cc, dm_nb0, dm_nb1, Value.category, List.lookup, p_X1_weigh, x_X1_weigh, k_X1_weigh, dm_cm, upd, vp_updL, dm_ui_1, dm_ui_2, dm_ul_1, dm_ul_2, sp_X1_amountOn, sC_0, sC_1, sC_2, sC_3, sC_4, sC_5, sC_6, sC_7, sC_8, sC_9, sC_10, sC_11, sC_12, sC_13, sC_14, sC_15, sC_16, sC_17, sC_18, sC_19, sC_20, sC_21, sC_22, sC_23, sC_24, sC_25, sC_26, sC_27, sC_28, sC_29, sC_30, sC_31, sC_32, sC_33, sC_34, sC_35, sC_36, sC_37, sC_38, sC_39, sC_40, sC_41, sC_42, sC_43, sC_44, sC_45, sC_46, sC_47, sC_48, sC_49, sC_50, sC_51]
        have e : i = N := by omega
        subst e
        simp only [dm_sj_1, eN]
        exact ⟨fun _ => loop2 M 0 (by omega) none none, fun q => absurd q (nI_nlt (Nat.le_refl _) (by omega))⟩
      | succ k ih =>
        intro i hi
        apply hG (fun pc => pc == 2 || pc == 36) 60
        simp (config := { maxSteps := 2000000 }) [hW0, hW1, dm_fn, dm_fd, dm_x, dm_L0, dm_la, dm_t1, dm_sw, List.headD, dm_ic, dm_mk, dm_s1, dm_s2, dm_clr, dm_cs, dm_cc, dm_nb0, dm_nb1, Value.category, List.lookup, p_X1_weigh, x_X1_weigh, k_X1_weigh, dm_cm, upd, vp_updL, dm_ui_1, dm_ui_2, dm_ul_1, dm_ul_2, sp_X1_amountOn, sC_0, sC_1, sC_2, sC_3, sC_4, sC_5, sC_6, sC_7, sC_8, sC_9, sC_10, sC_11, sC_12, sC_13, sC_14, sC_15, sC_16, sC_17, sC_18, sC_19, sC_20, sC_21, sC_22, sC_23, sC_24, sC_25, sC_26, sC_27, sC_28, sC_29, sC_30, sC_31, sC_32, sC_33, sC_34, sC_35, sC_36, sC_37, sC_38, sC_39, sC_40, sC_41, sC_42, sC_43, sC_44, sC_45, sC_46, sC_47, sC_48, sC_49, sC_50, sC_51]
        have e := ih (i + 1) (by omega)
        have c1 : (nI i).toNatClampNeg = i := nI_clamp (by omega)
        simp only [dm_sj_1, eN, c1, dm_sj_u, nI_1]
        refine ⟨fun q => absurd q (nI_ge (by omega) (by omega)), fun q => ⟨vp_in_nI (by omega) (by omega), ?_⟩⟩
        have ef : vp_updL (fun j => if j < i then u.2 11 j else u.2 25 j) i (u.2 11 i) = fun j => if j < i + 1 then u.2 11 j else u.2 25 j := by
          funext j
          unfold vp_updL
          by_cases z : j = i
          · rw [if_pos z, if_pos (by omega), z]
          · rw [if_neg z]
            dsimp only
            by_cases y : j < i
            · rw [if_pos y, if_pos (by omega)]
            · rw [if_neg y, if_neg (by omega)]
        rw [← ef] at e
        exact e
    apply hG (fun pc => pc == 2 || pc == 36) 60
    simp (config := { maxSteps := 2000000 }) [hW0, hW1, dm_fn, dm_fd, dm_x, dm_L0, dm_la, dm_t1, dm_sw, List.headD, dm_ic, dm_mk, dm_s1, dm_s2, dm_clr, dm_cs, dm_cc, dm_nb0, dm_nb1, Value.category, List.lookup, p_X1_weigh, x_X1_weigh, k_X1_weigh, dm_cm, upd, vp_updL, dm_ui_1, dm_ui_2, dm_ul_1, dm_ul_2, sp_X1_amountOn, sC_0, sC_1, sC_2, sC_3, sC_4, sC_5, sC_6, sC_7, sC_8, sC_9, sC_10, sC_11, sC_12, sC_13, sC_14, sC_15, sC_16, sC_17, sC_18, sC_19, sC_20, sC_21, sC_22, sC_23, sC_24, sC_25, sC_26, sC_27, sC_28, sC_29, sC_30, sC_31, sC_32, sC_33, sC_34, sC_35, sC_36, sC_37, sC_38, sC_39, sC_40, sC_41, sC_42, sC_43, sC_44, sC_45, sC_46, sC_47, sC_48, sC_49, sC_50, sC_51]
    have e := loop1 N 0 (by omega)
    simp only [Nat.not_lt_zero, if_false] at e
    rw [show (fun j => u.2 25 j) = u.2 25 from rfl, dm_sj_self] at e
    exact e
  · exact h.elim
set_option maxRecDepth 100000 in
theorem t_X1_weigh (l : Launch) (D : va_G) (cA : Nat → ClassId) (ad : Nat → Nat) : dm_Met l D dm_cl cA ad shC yX1_weigh (Cond.code yX1_weigh cX1_weigh 4 (dm_rt 0) :: dm_tt) ({ frames := 2, cells := 0, slots := 0, locals := 45 } : Room) sp_X1_weigh := dm_meth (own := RX1) (X := x_X1_weigh) (Sp := k_X1_weigh) (prog := p_X1_weigh) (by decide +kernel) rfl rfl (dm_FO_s ffX1 [(31, 1, 7), (40, 1, 0), (48, 2, 9), (56, 2, 1), (59, 2, 2), (89, 2, 8), (92, 2, 0)] rfl dm_hT (by decide +kernel)) (dm_IO_s ifX1 jfX1 [] [] rfl rfl dm_hT (by decide +kernel) (by decide +kernel)) soC (dm_MO_of (List.forall_mem_cons.mpr ⟨dm_M1_of (t_X1_amountOn l D cA ad) dm_hT (dm_mem [584, 68, 581] (by decide +kernel) (by decide +kernel)) (by decide) (by decide +kernel) (Or.inr ⟨by decide, dm_mem [582, 583] (by decide +kernel) (by decide +kernel), rfl⟩), fun _ h => absurd h List.not_mem_nil⟩)) v_X1_weigh u_X1_weigh
def sp_X1_unload (As : List Value) (u : dm_S) (Q : Option Value → dm_S → Prop) : Prop := match As with
  | [.ref 2] => ∃ (N M : Nat) (fr tr pt : Nat → Nat), cn_ok u N M fr tr pt ∧ cn_ln u M pt ∧ Q none (dm_sj (dm_fj u 24 320 0) 25 (cn_ex (dm_fj u 24 320 0) N fr tr pt M))
  | _ => False
def p_X1_unload : List dm_I := [(0, .aload_n 0, 1, [0]), (1, .getfield 28, 3, []), (4, .lconst 0, 1, []), (5, .invokestatic 83, 3, []), (8, .aload_n 0, 1, [0]), (9, .invokevirtual 86, 3, []), (12, .return_, 1, [])]
set_option maxRecDepth 100000 in
theorem v_X1_unload : p_X1_unload.all (dm_vb cX1_unload) = true := by decide +kernel
def k_X1_unload : dm_Sp := fun a => match a with
  | 0 => sp_J7_fill_d0a16
  | 1 => sp_X1_weigh
  | _ => fun _ _ _ => False
def x_X1_unload : dm_X := dm_mk [(28, 1, 6)] [] [] [(83, 0, 2, 1000), (86, 1, 0, 1)] 0
set_option maxRecDepth 100000 in
set_option maxHeartbeats 400000 in
theorem u_X1_unload : dm_Pure shC x_X1_unload k_X1_unload p_X1_unload 1 sp_X1_unload := by
  intro As u Qp h
  unfold sp_X1_unload at h
  split at h
  · refine ⟨Nat.le_of_ble_eq_true rfl, fun G Wp hW0 hW1 hG => ?_⟩
    apply hG (fun _ => false) 8
    simp (config := { maxSteps := 2000000 }) [hW0, hW1, dm_fn, dm_fd, dm_x, dm_L0, dm_la, dm_t1, dm_sw, List.headD, dm_ic, dm_mk, dm_s1, dm_s2, dm_clr, dm_cs, dm_cc, dm_nb0, dm_nb1, Value.category, List.lookup, p_X1_unload, x_X1_unload, k_X1_unload, dm_cm, upd, vp_updL, dm_ui_1, dm_ui_2, dm_ul_1, dm_ul_2, sp_J7_fill_d0a16, sp_X1_weigh, sC_0, sC_1, sC_2, sC_3, sC_4, sC_5, sC_6, sC_7, sC_8, sC_9, sC_10, sC_11, sC_12, sC_13, sC_14, sC_15, sC_16, sC_17, sC_18, sC_19, sC_20, sC_21, sC_22, sC_23, sC_24, sC_25, sC_26, sC_27, sC_28, sC_29, sC_30, sC_31, sC_32, sC_33, sC_34, sC_35, sC_36, sC_37, sC_38, sC_39, sC_40, sC_41, sC_42, sC_43, sC_44, sC_45, sC_46, sC_47, sC_48, sC_49, sC_50, sC_51]
    obtain ⟨N, M, fr, tr, pt, h1, h2, h3⟩ := h
    exact ⟨320, by omega, rfl, N, M, fr, tr, pt, h1, h2, h3⟩
  · exact h.elim
set_option maxRecDepth 100000 in
theorem t_X1_unload (l : Launch) (D : va_G) (cA : Nat → ClassId) (ad : Nat → Nat) : dm_Met l D dm_cl cA ad shC yX1_unload (Cond.code yX1_unload cX1_unload 1 (dm_rt 0) :: dm_tt) ({ frames := 3, cells := 0, slots := 0, locals := 68 } : Room) sp_X1_unload := dm_meth (own := RX1) (X := x_X1_unload) (Sp := k_X1_unload) (prog := p_X1_unload) (by decide +kernel) rfl rfl (dm_FO_s ffX1 [(28, 1, 6)] rfl dm_hT (by decide +kernel)) (dm_IO_s ifX1 jfX1 [] [] rfl rfl dm_hT (by decide +kernel) (by decide +kernel)) soC (dm_MO_of (List.forall_mem_cons.mpr ⟨dm_M1_of (t_J7_fill_d0a16 l D cA ad) dm_hT (dm_mem [576, 78, 574] (by decide +kernel) (by decide +kernel)) (by decide) (by decide +kernel) (Or.inl ⟨rfl, dm_mem (ws := [.static yJ7_fill_d0a16]) [575] (by decide +kernel) (by decide +kernel) _ List.mem_cons_self⟩), List.forall_mem_cons.mpr ⟨dm_M1_of (t_X1_weigh l D cA ad) dm_hT (dm_mem [580, 68, 577] (by decide +kernel) (by decide +kernel)) (by decide) (by decide +kernel) (Or.inr ⟨by decide, dm_mem [578, 579] (by decide +kernel) (by decide +kernel), rfl⟩), fun _ h => absurd h List.not_mem_nil⟩⟩)) v_X1_unload u_X1_unload
end
section
/-! ===== Ways: the WAYS are gathered ===== -/
/-- the first of n places from p on of which b tells; the last one -/
def dm_fst (b : Nat → Bool) : Nat → Nat → Option Nat
  | _, 0 => none
  | p, n + 1 => if b p then some p else dm_fst b (p + 1) n
def dm_lst (b : Nat → Bool) (p : Nat) : Nat → Option Nat
  | 0 => none
  | n + 1 => if b (p + n) then some (p + n) else dm_lst b p n
/-- a way is added -/
def dm_ad (u : dm_S) (w : Nat) : dm_S := dm_ui (dm_ul (dm_ui (dm_ui (dm_ui u 28 (u.1 3 6).toNatClampNeg (nI w)) 29 (u.1 3 6).toNatClampNeg (lw_b u w)) 30 (u.1 3 6).toNatClampNeg (lw_e u w)) 31 (u.1 3 6).toNatClampNeg (lw_r u w)) 3 6 (u.1 3 6 + 1)
def dm_ao (u : dm_S) (o : Option Nat) : dm_S := match o with
  | some w => dm_ad u w
  | none => u
def wy_al (u : dm_S) (p n : Nat) : Option Nat := (dm_fst (fun l => decide (u.2 24 l < u.2 22 l)) p n).map (fun l => 2 * l)
def wy_ag (u : dm_S) (p n : Nat) : Option Nat := (dm_lst (fun l => decide (0 < u.2 24 l)) p n).map (fun l => 2 * l + 1)
def sp_X9_gatherAlong (As : List Value) (u : dm_S) (Q : Option Value → dm_S → Prop) : Prop := match As with
  | [.ref 3, .int x] => ∃ a p n : Nat, a < 80 ∧ x = nI a ∧ u.1 19 a = nI p ∧ u.1 19 (a + 1) = nI (p + n) ∧ p + n ≤ 320 ∧ vp_in (u.1 3 6) 160 ∧ Q none (dm_ao u (wy_al u p n))
  | _ => False
def p_X9_gatherAlong : List dm_I := [(0, .aload_n 0, 1, [0]), (1, .getfield 29, 3, []), (4, .getfield 49, 3, []), (7, .iload_n 1, 1, [1]), (8, .iaload, 1, []), (9, .istore_n 2, 1, [2]), (10, .iload_n 2, 1, [2]), (11, .aload_n 0, 1, [0]), (12, .getfield 29, 3, []), (15, .getfield 49, 3, []), (18, .iload_n 1, 1, [1]), (19, .iconst 1, 1, []), (20, .iadd, 1, []), (21, .iaload, 1, []), (22, .if_icmp .ge 39, 3, [61]), (25, .aload_n 0, 1, [0]), (26, .getfield 29, 3, []), (29, .getfield 54, 3, []), (32, .iload_n 2, 1, [2]), (33, .laload, 1, []), (34, .aload_n 0, 1, [0]), (35, .getfield 29, 3, []), (38, .getfield 57, 3, []), (41, .iload_n 2, 1, [2]), (42, .laload, 1, []), (43, .lcmp, 1, []), (44, .ifCond .ge 11, 3, [55]), (47, .aload_n 0, 1, [0]), (48, .iconst 2, 1, []), (49, .iload_n 2, 1, [2]), (50, .imul, 1, []), (51, .invokevirtual 60, 3, []), (54, .return_, 1, []), (55, .iinc 2 1, 3, []), (58, .goto (-48), 3, [10]), (61, .return_, 1, [])]
set_option maxRecDepth 100000 in
theorem v_X9_gatherAlong : p_X9_gatherAlong.all (dm_vb cX9_gatherAlong) = true := by decide +kernel
def k_X9_gatherAlong : dm_Sp := fun a => match a with
  | 0 => sp_X9_add
  | _ => fun _ _ _ => False
def x_X9_gatherAlong : dm_X := dm_mk [(29, 9, 1), (49, 1, 1), (54, 1, 6), (57, 1, 4)] [] [] [(60, 0, 1, 9)] 0
set_option maxRecDepth 100000 in
set_option maxHeartbeats 400000 in
theorem u_X9_gatherAlong : dm_Pure shC x_X9_gatherAlong k_X9_gatherAlong p_X9_gatherAlong 3 sp_X9_gatherAlong := by
  intro As u Qp h
  unfold sp_X9_gatherAlong at h
  split at h
  · obtain ⟨a, p, n, ha, rfl, e1, e2, hn, hc, h⟩ := h
    refine ⟨Nat.le_of_ble_eq_true rfl, fun G Wp hW0 hW1 hG => ?_⟩
    have ca : (nI a).toNatClampNeg = a := nI_clamp (by omega)
    have cb : (nI (a + 1)).toNatClampNeg = a + 1 := nI_clamp (by omega)
    have i1 : vp_in (nI a) 81 := vp_in_nI (by omega) (by omega)
    have i2 : vp_in (nI (a + 1)) 81 := vp_in_nI (by omega) (by omega)
    have loop : ∀ k i : Nat, i + k = n → dm_fst (fun l => decide (u.2 24 l < u.2 22 l)) p n = dm_fst (fun l => decide (u.2 24 l < u.2 22 l)) (p + i) k → G 10 [some (.ref 3), some (.int (nI a)), some (.int (nI (p + i)))] [] u := by
      intro k
      induction k with
      | zero =>
        intro i hi hf
        apply hG (fun pc => pc == 10) 40
        simp (config := { maxSteps := 2000000 }) [hW0, hW1, dm_fn, dm_fd, dm_x, dm_L0, dm_la, dm_t1, dm_sw, List.headD, dm_ic, dm_mk, dm_s1, dm_s2, dm_clr, dm_cs, dm_cc, dm_nb0, dm_nb1, Value.category, List.lookup, p_X9_gatherAlong, x_X9_gatherAlong, k_X9_gatherAlong, dm_cm, upd, vp_updL, dm_ui_1, dm_ui_2, dm_ul_1, dm_ul_2, sp_X9_add, sC_0, sC_1, sC_2, sC_3, sC_4, sC_5, sC_6, sC_7, sC_8, sC_9, sC_10, sC_11, sC_12, sC_13, sC_14, sC_15, sC_16, sC_17, sC_18, sC_19, sC_20, sC_21, sC_22, sC_23, sC_24, sC_25, sC_26, sC_27, sC_28, sC_29, sC_30, sC_31, sC_32, sC_33, sC_34, sC_35, sC_36, sC_37, sC_38, sC_39, sC_40, sC_41, sC_42, sC_43, sC_44, sC_45, sC_46, sC_47, sC_48, sC_49, sC_50, sC_51]
        rw [nI_1, cb, e2]
        have e : i = n := by omega
        subst e
        refine ⟨i2, fun _ => ?_, fun q => absurd q (nI_nlt (Nat.le_refl _) (by omega))⟩
        rw [wy_al, hf] at h
        exact h
      | succ k ih =>
        intro i hi hf
        have e := ih (i + 1) (by omega)
        have c1 : (nI (p + i)).toNatClampNeg = p + i := nI_clamp (by omega)
        have i3 : vp_in (nI (p + i)) 320 := vp_in_nI (by omega) (by omega)
        apply hG (fun pc => pc == 10) 40
        simp (config := { maxSteps := 2000000 }) [hW0, hW1, dm_fn, dm_fd, dm_x, dm_L0, dm_la, dm_t1, dm_sw, List.headD, dm_ic, dm_mk, dm_s1, dm_s2, dm_clr, dm_cs, dm_cc, dm_nb0, dm_nb1, Value.category, List.lookup, p_X9_gatherAlong, x_X9_gatherAlong, k_X9_gatherAlong, dm_cm, upd, vp_updL, dm_ui_1, dm_ui_2, dm_ul_1, dm_ul_2, sp_X9_add, sC_0, sC_1, sC_2, sC_3, sC_4, sC_5, sC_6, sC_7, sC_8, sC_9, sC_10, sC_11, sC_12, sC_13, sC_14, sC_15, sC_16, sC_17, sC_18, sC_19, sC_20, sC_21, sC_22, sC_23, sC_24, sC_25, sC_26, sC_27, sC_28, sC_29, sC_30, sC_31, sC_32, sC_33, sC_34, sC_35, sC_36, sC_37, sC_38, sC_39, sC_40, sC_41, sC_42, sC_43, sC_44, sC_45, sC_46, sC_47, sC_48, sC_49, sC_50, sC_51]
        rw [nI_1, nI_1, cb, e2, c1, show (2 : Int32) = nI 2 from rfl, pk_mul]
        rw [show dm_fst (fun l => decide (u.2 24 l < u.2 22 l)) (p + i) (k + 1) = if decide (u.2 24 (p + i) < u.2 22 (p + i)) then some (p + i) else dm_fst (fun l => decide (u.2 24 l < u.2 22 l)) (p + i + 1) k from rfl] at hf
        refine ⟨i2, fun q => absurd q (nI_ge (by omega) (by omega)), fun q => ⟨i3, fun z => e ?_, fun z => ⟨2 * (p + i), by omega, rfl, hc, ?_⟩⟩⟩
        · rw [hf, if_neg (by simpa using dm_l_lt.mpr z)]; rfl
        · rw [wy_al, hf, if_pos (by simpa using z)] at h
          exact h
    apply hG (fun pc => pc == 10) 40
    simp (config := { maxSteps := 2000000 }) [hW0, hW1, dm_fn, dm_fd, dm_x, dm_L0, dm_la, dm_t1, dm_sw, List.headD, dm_ic, dm_mk, dm_s1, dm_s2, dm_clr, dm_cs, dm_cc, dm_nb0, dm_nb1, Value.category, List.lookup, p_X9_gatherAlong, x_X9_gatherAlong, k_X9_gatherAlong, dm_cm, upd, vp_updL, dm_ui_1, dm_ui_2, dm_ul_1, dm_ul_2, sp_X9_add, sC_0, sC_1, sC_2, sC_3, sC_4, sC_5, sC_6, sC_7, sC_8, sC_9, sC_10, sC_11, sC_12, sC_13, sC_14, sC_15, sC_16, sC_17, sC_18, sC_19, sC_20, sC_21, sC_22, sC_23, sC_24, sC_25, sC_26, sC_27, sC_28, sC_29, sC_30, sC_31, sC_32, sC_33, sC_34, sC_35, sC_36, sC_37, sC_38, sC_39, sC_40, sC_41, sC_42, sC_43, sC_44, sC_45, sC_46, sC_47, sC_48, sC_49, sC_50, sC_51]
    rw [ca, e1]
    exact ⟨i1, loop n 0 (by omega) rfl⟩
  · exact h.elim
set_option maxRecDepth 100000 in
theorem t_X9_gatherAlong (l : Launch) (D : va_G) (cA : Nat → ClassId) (ad : Nat → Nat) : dm_Met l D dm_cl cA ad shC yX9_gatherAlong (Cond.code yX9_gatherAlong cX9_gatherAlong 3 (dm_rt 0) :: dm_tt) ({ frames := 2, cells := 0, slots := 0, locals := 42 } : Room) sp_X9_gatherAlong := dm_meth (own := RX9) (X := x_X9_gatherAlong) (Sp := k_X9_gatherAlong) (prog := p_X9_gatherAlong) (by decide +kernel) rfl rfl (dm_FO_s ffX9 [(29, 9, 1), (49, 1, 1), (54, 1, 6), (57, 1, 4)] rfl dm_hT (by decide +kernel)) (dm_IO_s ifX9 jfX9 [] [] rfl rfl dm_hT (by decide +kernel) (by decide +kernel)) soC (dm_MO_of (List.forall_mem_cons.mpr ⟨dm_M1_of (t_X9_add l D cA ad) dm_hT (dm_mem [699, 69, 696] (by decide +kernel) (by decide +kernel)) (by decide) (by decide +kernel) (Or.inr ⟨by decide, dm_mem [698, 16] (by decide +kernel) (by decide +kernel), rfl⟩), fun _ h => absurd h List.not_mem_nil⟩)) v_X9_gatherAlong u_X9_gatherAlong
theorem dm_pm {p : Nat} (h : p ≤ 640) : nI p - 1 < nI p := by
  rw [Int32.lt_iff_toInt_lt, show (1 : Int32) = nI 1 from rfl, pk_sub_toInt (by omega) (by omega), nI_toInt (by omega)]
  omega
theorem dm_m1 (x : Int32) : x + -1 = x - 1 := by rw [Int32.sub_eq_add_neg]
def sp_X9_gatherAgainst (As : List Value) (u : dm_S) (Q : Option Value → dm_S → Prop) : Prop := match As with
  | [.ref 3, .int x] => ∃ a p n : Nat, a < 80 ∧ x = nI a ∧ u.1 19 a = nI p ∧ u.1 19 (a + 1) = nI (p + n) ∧ p + n ≤ 320 ∧ vp_in (u.1 3 6) 160 ∧ Q none (dm_ao u (wy_ag u p n))
  | _ => False
def p_X9_gatherAgainst : List dm_I := [(0, .aload_n 0, 1, [0]), (1, .getfield 29, 3, []), (4, .getfield 49, 3, []), (7, .iload_n 1, 1, [1]), (8, .iconst 1, 1, []), (9, .iadd, 1, []), (10, .iaload, 1, []), (11, .iconst 1, 1, []), (12, .isub, 1, []), (13, .istore_n 2, 1, [2]), (14, .iload_n 2, 1, [2]), (15, .aload_n 0, 1, [0]), (16, .getfield 29, 3, []), (19, .getfield 49, 3, []), (22, .iload_n 1, 1, [1]), (23, .iaload, 1, []), (24, .if_icmp .lt 33, 3, [57]), (27, .aload_n 0, 1, [0]), (28, .getfield 29, 3, []), (31, .getfield 54, 3, []), (34, .iload_n 2, 1, [2]), (35, .laload, 1, []), (36, .lconst 0, 1, []), (37, .lcmp, 1, []), (38, .ifCond .le 13, 3, [51]), (41, .aload_n 0, 1, [0]), (42, .iconst 2, 1, []), (43, .iload_n 2, 1, [2]), (44, .imul, 1, []), (45, .iconst 1, 1, []), (46, .iadd, 1, []), (47, .invokevirtual 60, 3, []), (50, .return_, 1, []), (51, .iinc 2 (-1), 3, []), (54, .goto (-40), 3, [14]), (57, .return_, 1, [])]
set_option maxRecDepth 100000 in
theorem v_X9_gatherAgainst : p_X9_gatherAgainst.all (dm_vb cX9_gatherAgainst) = true := by decide +kernel
def k_X9_gatherAgainst : dm_Sp := fun a => match a with
  | 0 => sp_X9_add
  | _ => fun _ _ _ => False
def x_X9_gatherAgainst : dm_X := dm_mk [(29, 9, 1), (49, 1, 1), (54, 1, 6)] [] [] [(60, 0, 1, 9)] 0
set_option maxRecDepth 100000 in
set_option maxHeartbeats 400000 in
theorem u_X9_gatherAgainst : dm_Pure shC x_X9_gatherAgainst k_X9_gatherAgainst p_X9_gatherAgainst 3 sp_X9_gatherAgainst := by
  intro As u Qp h
  unfold sp_X9_gatherAgainst at h
  split at h
  · obtain ⟨a, p, n, ha, rfl, e1, e2, hn, hc, h⟩ := h
    refine ⟨Nat.le_of_ble_eq_true rfl, fun G Wp hW0 hW1 hG => ?_⟩
    have ca : (nI a).toNatClampNeg = a := nI_clamp (by omega)
    have cb : (nI (a + 1)).toNatClampNeg = a + 1 := nI_clamp (by omega)
    have i1 : vp_in (nI a) 81 := vp_in_nI (by omega) (by omega)
    have i2 : vp_in (nI (a + 1)) 81 := vp_in_nI (by omega) (by omega)
    have loop : ∀ k : Nat, k ≤ n → dm_lst (fun l => decide (0 < u.2 24 l)) p n = dm_lst (fun l => decide (0 < u.2 24 l)) p k → G 14 [some (.ref 3), some (.int (nI a)), some (.int (nI (p + k) - 1))] [] u := by
      intro k
      induction k with
      | zero =>
        intro hi hf
        apply hG (fun pc => pc == 14) 40
        simp (config := { maxSteps := 2000000 }) [hW0, hW1, dm_fn, dm_fd, dm_x, dm_L0, dm_la, dm_t1, dm_sw, List.headD, dm_ic, dm_mk, dm_s1, dm_s2, dm_clr, dm_cs, dm_cc, dm_nb0, dm_nb1, Value.category, List.lookup, p_X9_gatherAgainst, x_X9_gatherAgainst, k_X9_gatherAgainst, dm_cm, upd, vp_updL, dm_ui_1, dm_ui_2, dm_ul_1, dm_ul_2, sp_X9_add, sC_0, sC_1, sC_2, sC_3, sC_4, sC_5, sC_6, sC_7, sC_8, sC_9, sC_10, sC_11, sC_12, sC_13, sC_14, sC_15, sC_16, sC_17, sC_18, sC_19, sC_20, sC_21, sC_22, sC_23, sC_24, sC_25, sC_26, sC_27, sC_28, sC_29, sC_30, sC_31, sC_32, sC_33, sC_34, sC_35, sC_36, sC_37, sC_38, sC_39, sC_40, sC_41, sC_42, sC_43, sC_44, sC_45, sC_46, sC_47, sC_48, sC_49, sC_50, sC_51]
        rw [ca, e1]
        refine ⟨i1, fun _ => ?_, fun q => absurd q (dm_i_le.mpr (dm_pm (by omega)))⟩
        rw [wy_ag, hf] at h
        exact h
      | succ k ih =>
        intro hi hf
        have c1 : (nI (p + k)).toNatClampNeg = p + k := nI_clamp (by omega)
        have i3 : vp_in (nI (p + k)) 320 := vp_in_nI (by omega) (by omega)
        rw [show p + (k + 1) = p + k + 1 from rfl, nI_pred]
        apply hG (fun pc => pc == 14) 40
        simp (config := { maxSteps := 2000000 }) [hW0, hW1, dm_fn, dm_fd, dm_x, dm_L0, dm_la, dm_t1, dm_sw, List.headD, dm_ic, dm_mk, dm_s1, dm_s2, dm_clr, dm_cs, dm_cc, dm_nb0, dm_nb1, Value.category, List.lookup, p_X9_gatherAgainst, x_X9_gatherAgainst, k_X9_gatherAgainst, dm_cm, upd, vp_updL, dm_ui_1, dm_ui_2, dm_ul_1, dm_ul_2, sp_X9_add, sC_0, sC_1, sC_2, sC_3, sC_4, sC_5, sC_6, sC_7, sC_8, sC_9, sC_10, sC_11, sC_12, sC_13, sC_14, sC_15, sC_16, sC_17, sC_18, sC_19, sC_20, sC_21, sC_22, sC_23, sC_24, sC_25, sC_26, sC_27, sC_28, sC_29, sC_30, sC_31, sC_32, sC_33, sC_34, sC_35, sC_36, sC_37, sC_38, sC_39, sC_40, sC_41, sC_42, sC_43, sC_44, sC_45, sC_46, sC_47, sC_48, sC_49, sC_50, sC_51]
        rw [ca, e1, c1, show (2 : Int32) = nI 2 from rfl, pk_mul, nI_1, dm_m1]
        rw [show dm_lst (fun l => decide (0 < u.2 24 l)) p (k + 1) = if decide (0 < u.2 24 (p + k)) then some (p + k) else dm_lst (fun l => decide (0 < u.2 24 l)) p k from rfl] at hf
        refine ⟨i1, fun q => absurd q (nI_nlt (by omega) (by omega)), fun q => ⟨i3, fun z => ih (by omega) ?_, fun z => ⟨2 * (p + k) + 1, by omega, rfl, hc, ?_⟩⟩⟩
        · rw [hf, if_neg (by simpa using dm_l_lt.mpr z)]
        · rw [wy_ag, hf, if_pos (by simpa using z)] at h
          exact h
    apply hG (fun pc => pc == 14) 40
    simp (config := { maxSteps := 2000000 }) [hW0, hW1, dm_fn, dm_fd, dm_x, dm_L0, dm_la, dm_t1, dm_sw, List.headD, dm_ic, dm_mk, dm_s1, dm_s2, dm_clr, dm_cs, dm_cc, dm_nb0, dm_nb1, Value.category, List.lookup, p_X9_gatherAgainst, x_X9_gatherAgainst, k_X9_gatherAgainst, dm_cm, upd, vp_updL, dm_ui_1, dm_ui_2, dm_ul_1, dm_ul_2, sp_X9_add, sC_0, sC_1, sC_2, sC_3, sC_4, sC_5, sC_6, sC_7, sC_8, sC_9, sC_10, sC_11, sC_12, sC_13, sC_14, sC_15, sC_16, sC_17, sC_18, sC_19, sC_20, sC_21, sC_22, sC_23, sC_24, sC_25, sC_26, sC_27, sC_28, sC_29, sC_30, sC_31, sC_32, sC_33, sC_34, sC_35, sC_36, sC_37, sC_38, sC_39, sC_40, sC_41, sC_42, sC_43, sC_44, sC_45, sC_46, sC_47, sC_48, sC_49, sC_50, sC_51]
    rw [nI_1, cb, e2]
    exact ⟨i2, loop n (Nat.le_refl n) rfl⟩
  · exact h.elim
set_option maxRecDepth 100000 in
theorem t_X9_gatherAgainst (l : Launch) (D : va_G) (cA : Nat → ClassId) (ad : Nat → Nat) : dm_Met l D dm_cl cA ad shC yX9_gatherAgainst (Cond.code yX9_gatherAgainst cX9_gatherAgainst 3 (dm_rt 0) :: dm_tt) ({ frames := 2, cells := 0, slots := 0, locals := 42 } : Room) sp_X9_gatherAgainst := dm_meth (own := RX9) (X := x_X9_gatherAgainst) (Sp := k_X9_gatherAgainst) (prog := p_X9_gatherAgainst) (by decide +kernel) rfl rfl (dm_FO_s ffX9 [(29, 9, 1), (49, 1, 1), (54, 1, 6)] rfl dm_hT (by decide +kernel)) (dm_IO_s ifX9 jfX9 [] [] rfl rfl dm_hT (by decide +kernel) (by decide +kernel)) soC (dm_MO_of (List.forall_mem_cons.mpr ⟨dm_M1_of (t_X9_add l D cA ad) dm_hT (dm_mem [699, 69, 696] (by decide +kernel) (by decide +kernel)) (by decide) (by decide +kernel) (Or.inr ⟨by decide, dm_mem [698, 16] (by decide +kernel) (by decide +kernel), rfl⟩), fun _ h => absurd h List.not_mem_nil⟩)) v_X9_gatherAgainst u_X9_gatherAgainst
/-- all ARCS up to a gathered -/
def wy_ga (u : dm_S) (pt : Nat → Nat) : Nat → dm_S
  | 0 => dm_ui u 3 6 0
  | a + 1 => dm_ao (dm_ao (wy_ga u pt a) (wy_al u (cn_fs pt a) (pt a))) (wy_ag u (cn_fs pt a) (pt a))
theorem dm_ao_c {u : dm_S} {o : Option Nat} {n : Nat} (h : u.1 3 6 = nI n) : ∃ m, m ≤ n + 1 ∧ (dm_ao u o).1 3 6 = nI m := by
  cases o with
  | none => exact ⟨n, by omega, h⟩
  | some w => exact ⟨n + 1, by omega, by rw [← nI_1, ← h]; rfl⟩
theorem dm_ao_k {u : dm_S} {o : Option Nat} : (∀ c, c ≠ 3 → c ≠ 28 → c ≠ 29 → c ≠ 30 → (dm_ao u o).1 c = u.1 c) ∧ ∀ c, c ≠ 31 → (dm_ao u o).2 c = u.2 c := by
  cases o with
  | none => exact ⟨fun _ _ _ _ _ => rfl, fun _ _ => rfl⟩
  | some w =>
    refine ⟨fun c h1 h2 h3 h4 => ?_, fun c h1 => ?_⟩
    · simp only [dm_ao, dm_ad, dm_ui_1, dm_ul_1, if_neg h1, if_neg h2, if_neg h3, if_neg h4]
    · simp only [dm_ao, dm_ad, dm_ui_2, dm_ul_2, if_neg h1]
theorem wy_ga_k {u : dm_S} {pt : Nat → Nat} : ∀ a, (∃ n, n ≤ 2 * a ∧ (wy_ga u pt a).1 3 6 = nI n) ∧ (∀ c, c ≠ 3 → c ≠ 28 → c ≠ 29 → c ≠ 30 → (wy_ga u pt a).1 c = u.1 c) ∧ ∀ c, c ≠ 31 → (wy_ga u pt a).2 c = u.2 c
  | 0 => ⟨⟨0, Nat.le_refl _, rfl⟩, fun c h1 _ _ _ => if_neg h1, fun _ _ => rfl⟩
  | a + 1 => by
    obtain ⟨⟨n, hn, e⟩, h1, h2⟩ := wy_ga_k (u := u) (pt := pt) a
    obtain ⟨m, hm, e2⟩ := dm_ao_c (o := wy_al u (cn_fs pt a) (pt a)) e
    obtain ⟨q, hq, e3⟩ := dm_ao_c (o := wy_ag u (cn_fs pt a) (pt a)) e2
    refine ⟨⟨q, by omega, e3⟩, fun c q1 q2 q3 q4 => ?_, fun c q1 => ?_⟩
    · show (dm_ao (dm_ao (wy_ga u pt a) _) _).1 c = _
      rw [dm_ao_k.1 c q1 q2 q3 q4, dm_ao_k.1 c q1 q2 q3 q4, h1 c q1 q2 q3 q4]
    · show (dm_ao (dm_ao (wy_ga u pt a) _) _).2 c = _
      rw [dm_ao_k.2 c q1, dm_ao_k.2 c q1, h2 c q1]
end
section
theorem wy_al_c {u v : dm_S} {p n : Nat} (h1 : v.2 24 = u.2 24) (h2 : v.2 22 = u.2 22) : wy_al v p n = wy_al u p n := by
  unfold wy_al
  rw [h1, h2]
theorem wy_ag_c {u v : dm_S} {p n : Nat} (h1 : v.2 24 = u.2 24) : wy_ag v p n = wy_ag u p n := by
  unfold wy_ag
  rw [h1]
def sp_X9_gather (As : List Value) (u : dm_S) (Q : Option Value → dm_S → Prop) : Prop := match As with
  | [.ref 3] => ∃ (N M : Nat) (fr tr pt : Nat → Nat), cn_ok u N M fr tr pt ∧ cn_ln u M pt ∧ Q none (wy_ga u pt M)
  | _ => False
def p_X9_gather : List dm_I := [(0, .aload_n 0, 1, [0]), (1, .iconst 0, 1, []), (2, .putfield 33, 3, []), (5, .iconst 0, 1, []), (6, .istore_n 1, 1, [1]), (7, .iload_n 1, 1, [1]), (8, .aload_n 0, 1, [0]), (9, .getfield 25, 3, []), (12, .getfield 37, 3, []), (15, .if_icmp .ge 19, 3, [34]), (18, .aload_n 0, 1, [0]), (19, .iload_n 1, 1, [1]), (20, .invokevirtual 42, 3, []), (23, .aload_n 0, 1, [0]), (24, .iload_n 1, 1, [1]), (25, .invokevirtual 46, 3, []), (28, .iinc 1 1, 3, []), (31, .goto (-24), 3, [7]), (34, .return_, 1, [])]
set_option maxRecDepth 100000 in
theorem v_X9_gather : p_X9_gather.all (dm_vb cX9_gather) = true := by decide +kernel
def k_X9_gather : dm_Sp := fun a => match a with
  | 0 => sp_X9_gatherAlong
  | 1 => sp_X9_gatherAgainst
  | _ => fun _ _ _ => False
def x_X9_gather : dm_X := dm_mk [(25, 9, 0), (33, 9, 6), (37, 2, 9)] [] [] [(42, 0, 1, 9), (46, 1, 1, 9)] 0
set_option maxRecDepth 100000 in
set_option maxHeartbeats 400000 in
theorem u_X9_gather : dm_Pure shC x_X9_gather k_X9_gather p_X9_gather 2 sp_X9_gather := by
  intro As u Qp h
  unfold sp_X9_gather at h
  split at h
  · obtain ⟨N, M, fr, tr, pt, ⟨⟨hN, hM, eN, eM⟩, ho⟩, hln, h⟩ := h
    refine ⟨Nat.le_of_ble_eq_true rfl, fun G Wp hW0 hW1 hG => ?_⟩
    have hf := cn_fs_le (pt := pt) (M := M) (fun a ha => (ho a ha).2.2.2.2)
    have loop : ∀ k a : Nat, a + k = M → G 7 [some (.ref 3), some (.int (nI a))] [] (wy_ga u pt a) := by
      intro k
      induction k with
      | zero =>
        intro a ha
        obtain ⟨⟨n, hn, e0⟩, k1, k2⟩ := wy_ga_k (u := u) (pt := pt) a
        apply hG (fun pc => pc == 7) 40
        simp (config := { maxSteps := 2000000 }) [hW0, hW1, dm_fn, dm_fd, dm_x, dm_L0, dm_la, dm_t1, dm_sw, List.headD, dm_ic, dm_mk, dm_s1, dm_s2, dm_clr, dm_cs, dm_cc, dm_nb0, dm_nb1, Value.category, List.lookup, p_X9_gather, x_X9_gather, k_X9_gather, dm_cm, upd, vp_updL, dm_ui_1, dm_ui_2, dm_ul_1, dm_ul_2, sp_X9_gatherAlong, sp_X9_gatherAgainst, sC_0, sC_1, sC_2, sC_3, sC_4, sC_5, sC_6, sC_7, sC_8, sC_9, sC_10, sC_11, sC_12, sC_13, sC_14, sC_15, sC_16, sC_17, sC_18, sC_19, sC_20, sC_21, sC_22, sC_23, sC_24, sC_25, sC_26, sC_27, sC_28, sC_29, sC_30, sC_31, sC_32, sC_33, sC_34, sC_35, sC_36, sC_37, sC_38, sC_39, sC_40, sC_41, sC_42, sC_43, sC_44, sC_45, sC_46, sC_47, sC_48, sC_49, sC_50, sC_51]
        have e : a = M := by omega
        subst e
        rw [k1 1 (by decide) (by decide) (by decide) (by decide), eM]
        exact ⟨fun _ => h, fun q => absurd q (nI_nlt (Nat.le_refl _) (by omega))⟩
      | succ k ih =>
        intro a ha
        obtain ⟨⟨n, hn, e0⟩, k1, k2⟩ := wy_ga_k (u := u) (pt := pt) a
        have e := ih (a + 1) (by omega)
        have hq : cn_fs pt a + pt a ≤ 320 := by
          have h9 : cn_fs pt a + pt a ≤ 4 * (a + 1) := hf (a + 1) (by omega)
          omega
        have g1 : (wy_ga u pt a).1 19 = u.1 19 := k1 19 (by decide) (by decide) (by decide) (by decide)
        have g2 : (wy_ga u pt a).2 24 = u.2 24 := k2 24 (by decide)
        have g3 : (wy_ga u pt a).2 22 = u.2 22 := k2 22 (by decide)
        obtain ⟨m, hm, e2⟩ := dm_ao_c (o := wy_al u (cn_fs pt a) (pt a)) e0
        have j1 : (dm_ao (wy_ga u pt a) (wy_al u (cn_fs pt a) (pt a))).1 19 = u.1 19 := by rw [dm_ao_k.1 19 (by decide) (by decide) (by decide) (by decide), g1]
        have j2 : (dm_ao (wy_ga u pt a) (wy_al u (cn_fs pt a) (pt a))).2 24 = u.2 24 := by rw [dm_ao_k.2 24 (by decide), g2]
        apply hG (fun pc => pc == 7) 40
        simp (config := { maxSteps := 2000000 }) [hW0, hW1, dm_fn, dm_fd, dm_x, dm_L0, dm_la, dm_t1, dm_sw, List.headD, dm_ic, dm_mk, dm_s1, dm_s2, dm_clr, dm_cs, dm_cc, dm_nb0, dm_nb1, Value.category, List.lookup, p_X9_gather, x_X9_gather, k_X9_gather, dm_cm, upd, vp_updL, dm_ui_1, dm_ui_2, dm_ul_1, dm_ul_2, sp_X9_gatherAlong, sp_X9_gatherAgainst, sC_0, sC_1, sC_2, sC_3, sC_4, sC_5, sC_6, sC_7, sC_8, sC_9, sC_10, sC_11, sC_12, sC_13, sC_14, sC_15, sC_16, sC_17, sC_18, sC_19, sC_20, sC_21, sC_22, sC_23, sC_24, sC_25, sC_26, sC_27, sC_28, sC_29, sC_30, sC_31, sC_32, sC_33, sC_34, sC_35, sC_36, sC_37, sC_38, sC_39, sC_40, sC_41, sC_42, sC_43, sC_44, sC_45, sC_46, sC_47, sC_48, sC_49, sC_50, sC_51]
        rw [k1 1 (by decide) (by decide) (by decide) (by decide), eM]
        refine ⟨fun q => absurd q (nI_ge (by omega) (by omega)), fun q => ⟨a, by omega, rfl, cn_fs pt a, by rw [g1]; exact hln a (by omega), pt a, by rw [g1]; exact hln (a + 1) (by omega), hq, by rw [e0]; exact vp_in_nI (by omega) (by omega), a, by omega, rfl, cn_fs pt a, ?_, pt a, ?_, hq, ?_, ?_⟩⟩
        · rw [wy_al_c g2 g3, j1]; exact hln a (by omega)
        · rw [wy_al_c g2 g3, j1]; exact hln (a + 1) (by omega)
        · rw [wy_al_c g2 g3, e2]; exact vp_in_nI (by omega) (by omega)
        · rw [wy_al_c g2 g3, wy_ag_c j2, nI_1]
          exact e
    apply hG (fun pc => pc == 7) 40
    simp (config := { maxSteps := 2000000 }) [hW0, hW1, dm_fn, dm_fd, dm_x, dm_L0, dm_la, dm_t1, dm_sw, List.headD, dm_ic, dm_mk, dm_s1, dm_s2, dm_clr, dm_cs, dm_cc, dm_nb0, dm_nb1, Value.category, List.lookup, p_X9_gather, x_X9_gather, k_X9_gather, dm_cm, upd, vp_updL, dm_ui_1, dm_ui_2, dm_ul_1, dm_ul_2, sp_X9_gatherAlong, sp_X9_gatherAgainst, sC_0, sC_1, sC_2, sC_3, sC_4, sC_5, sC_6, sC_7, sC_8, sC_9, sC_10, sC_11, sC_12, sC_13, sC_14, sC_15, sC_16, sC_17, sC_18, sC_19, sC_20, sC_21, sC_22, sC_23, sC_24, sC_25, sC_26, sC_27, sC_28, sC_29, sC_30, sC_31, sC_32, sC_33, sC_34, sC_35, sC_36, sC_37, sC_38, sC_39, sC_40, sC_41, sC_42, sC_43, sC_44, sC_45, sC_46, sC_47, sC_48, sC_49, sC_50, sC_51]
    exact loop M 0 (by omega)
  · exact h.elim
set_option maxRecDepth 100000 in
theorem t_X9_gather (l : Launch) (D : va_G) (cA : Nat → ClassId) (ad : Nat → Nat) : dm_Met l D dm_cl cA ad shC yX9_gather (Cond.code yX9_gather cX9_gather 2 (dm_rt 0) :: dm_tt) ({ frames := 3, cells := 0, slots := 0, locals := 64 } : Room) sp_X9_gather := dm_meth (own := RX9) (X := x_X9_gather) (Sp := k_X9_gather) (prog := p_X9_gather) (by decide +kernel) rfl rfl (dm_FO_s ffX9 [(25, 9, 0), (33, 9, 6), (37, 2, 9)] rfl dm_hT (by decide +kernel)) (dm_IO_s ifX9 jfX9 [] [] rfl rfl dm_hT (by decide +kernel) (by decide +kernel)) soC (dm_MO_of (List.forall_mem_cons.mpr ⟨dm_M1_of (t_X9_gatherAlong l D cA ad) dm_hT (dm_mem [695, 69, 692] (by decide +kernel) (by decide +kernel)) (by decide) (by decide +kernel) (Or.inr ⟨by decide, dm_mem [694, 15] (by decide +kernel) (by decide +kernel), rfl⟩), List.forall_mem_cons.mpr ⟨dm_M1_of (t_X9_gatherAgainst l D cA ad) dm_hT (dm_mem [709, 69, 706] (by decide +kernel) (by decide +kernel)) (by decide) (by decide +kernel) (Or.inr ⟨by decide, dm_mem [708, 17] (by decide +kernel) (by decide +kernel), rfl⟩), fun _ h => absurd h List.not_mem_nil⟩⟩)) v_X9_gather u_X9_gather
end
section
/-! ===== prices that fall along ENDLESS ARCS: the same passes in both ===== -/
/-- one pass over a ARCS: what each value is then, and whether one fell -/
def rx_go (fr tr : Nat → Nat) (w : Nat → Int64) (on : Nat → Bool) (V : Nat → Int64) : Nat → (Nat → Int64) × Bool
  | 0 => (V, false)
  | a + 1 => if on a = true ∧ (rx_go fr tr w on V a).1 (fr a) + w a < (rx_go fr tr w on V a).1 (tr a) then (vp_updL (rx_go fr tr w on V a).1 (tr a) ((rx_go fr tr w on V a).1 (fr a) + w a), true) else rx_go fr tr w on V a
/-- passes until none falls: r of them at most; whether it came to rest -/
def rx_it (M : Nat) (fr tr : Nat → Nat) (w : Nat → Int64) (on : Nat → Bool) : Nat → (Nat → Int64) → (Nat → Int64) × Bool
  | 0, V => (V, false)
  | r + 1, V => if (rx_go fr tr w on V M).2 then rx_it M fr tr w on r (rx_go fr tr w on V M).1 else ((rx_go fr tr w on V M).1, true)
def cn_lw (u : dm_S) (pt : Nat → Nat) (a : Nat) : Int64 := u.2 18 (4 * a + pt a - 1)
def cn_en (u : dm_S) (a : Nat) : Bool := !decide (u.1 14 a = 0)
theorem dm_lp {a q : Nat} (h : 1 ≤ q) : nI a * 4 + nI q - 1 = nI (4 * a + q - 1) := by
  rw [show (4 : Int32) = nI 4 from rfl, pk_mul, nI_add, show a * 4 + q = (4 * a + q - 1) + 1 by omega, nI_pred]
theorem dm_nz (b : Bool) : narrow .boolean (.int (if b then 1 else 0)) = .int (if b then 1 else 0) := by cases b <;> rfl
def sp_X5_lowerByEndless (As : List Value) (u : dm_S) (Q : Option Value → dm_S → Prop) : Prop := match As with
  | [.ref 5] => ∃ (N M : Nat) (fr tr pt : Nat → Nat), cn_ok u N M fr tr pt ∧ Q (some (.int (if (rx_go fr tr (cn_lw u pt) (cn_en u) (u.2 36) M).2 then 1 else 0))) (dm_sj u 36 (rx_go fr tr (cn_lw u pt) (cn_en u) (u.2 36) M).1)
  | _ => False
def p_X5_lowerByEndless : List dm_I := [(0, .iconst 0, 1, []), (1, .istore_n 1, 1, [1]), (2, .iconst 0, 1, []), (3, .istore_n 2, 1, [2]), (4, .iload_n 2, 1, [2]), (5, .aload_n 0, 1, [0]), (6, .getfield 18, 3, []), (9, .getfield 46, 3, []), (12, .if_icmp .ge 81, 3, [93]), (15, .aload_n 0, 1, [0]), (16, .getfield 9, 3, []), (19, .aload_n 0, 1, [0]), (20, .getfield 18, 3, []), (23, .getfield 49, 3, []), (26, .iload_n 2, 1, [2]), (27, .iaload, 1, []), (28, .laload, 1, []), (29, .aload_n 0, 1, [0]), (30, .getfield 18, 3, []), (33, .iload_n 2, 1, [2]), (34, .invokevirtual 53, 3, []), (37, .ladd, 1, []), (38, .lstore_n 3, 1, [3]), (39, .aload_n 0, 1, [0]), (40, .getfield 18, 3, []), (43, .getfield 57, 3, []), (46, .iload_n 2, 1, [2]), (47, .baload, 1, []), (48, .ifCond .eq 39, 3, [87]), (51, .lload_n 3, 1, [3]), (52, .aload_n 0, 1, [0]), (53, .getfield 9, 3, []), (56, .aload_n 0, 1, [0]), (57, .getfield 18, 3, []), (60, .getfield 61, 3, []), (63, .iload_n 2, 1, [2]), (64, .iaload, 1, []), (65, .laload, 1, []), (66, .lcmp, 1, []), (67, .ifCond .ge 20, 3, [87]), (70, .aload_n 0, 1, [0]), (71, .getfield 9, 3, []), (74, .aload_n 0, 1, [0]), (75, .getfield 18, 3, []), (78, .getfield 61, 3, []), (81, .iload_n 2, 1, [2]), (82, .iaload, 1, []), (83, .lload_n 3, 1, [3]), (84, .lastore, 1, []), (85, .iconst 1, 1, []), (86, .istore_n 1, 1, [1]), (87, .iinc 2 1, 3, []), (90, .goto (-86), 3, [4]), (93, .iload_n 1, 1, [1]), (94, .ireturn, 1, [])]
set_option maxRecDepth 100000 in
theorem v_X5_lowerByEndless : p_X5_lowerByEndless.all (dm_vb cX5_lowerByEndless) = true := by decide +kernel
def k_X5_lowerByEndless : dm_Sp := fun a => match a with
  | 0 => sp_X2_lastRate
  | _ => fun _ _ _ => False
def x_X5_lowerByEndless : dm_X := dm_mk [(9, 5, 3), (18, 5, 0), (46, 2, 9), (49, 2, 1), (57, 2, 3), (61, 2, 2)] [] [] [(53, 0, 1, 2)] 3
set_option maxRecDepth 100000 in
set_option maxHeartbeats 400000 in
theorem u_X5_lowerByEndless : dm_Pure shC x_X5_lowerByEndless k_X5_lowerByEndless p_X5_lowerByEndless 5 sp_X5_lowerByEndless := by
  intro As u Qp h
  unfold sp_X5_lowerByEndless at h
  split at h
  · obtain ⟨N, M, fr, tr, pt, ⟨⟨hN, hM, eN, eM⟩, ho⟩, h⟩ := h
    refine ⟨Nat.le_of_ble_eq_true rfl, fun G Wp hW0 hW1 hG => ?_⟩
    generalize hR : rx_go fr tr (cn_lw u pt) (cn_en u) (u.2 36) = R at h
    have hRs : ∀ a, R (a + 1) = if cn_en u a = true ∧ (R a).1 (fr a) + cn_lw u pt a < (R a).1 (tr a) then (vp_updL (R a).1 (tr a) ((R a).1 (fr a) + cn_lw u pt a), true) else R a := fun a => by rw [← hR]; rfl
    have loop : ∀ k a : Nat, a + k = M → ∀ (o3 o4 : Option Value), G 4 [some (.ref 5), some (.int (if (R a).2 then 1 else 0)), some (.int (nI a)), o3, o4] [] (dm_sj u 36 (R a).1) := by
      intro k
      induction k with
      | zero =>
        intro a ha o3 o4
        apply hG (fun pc => pc == 4) 60
        simp (config := { maxSteps := 2000000 }) [hW0, hW1, dm_fn, dm_fd, dm_x, dm_L0, dm_la, dm_t1, dm_sw, List.headD, dm_ic, dm_mk, dm_s1, dm_s2, dm_clr, dm_cs, dm_cc, dm_nb0, dm_nb1, Value.category, List.lookup, p_X5_lowerByEndless, x_X5_lowerByEndless, k_X5_lowerByEndless, dm_cm, upd, vp_updL, dm_ui_1, dm_ui_2, dm_ul_1, dm_ul_2, sp_X2_lastRate, sC_0, sC_1, sC_2, sC_3, sC_4, sC_5, sC_6, sC_7, sC_8, sC_9, sC_10, sC_11, sC_12, sC_13, sC_14, sC_15, sC_16, sC_17, sC_18, sC_19, sC_20, sC_21, sC_22, sC_23, sC_24, sC_25, sC_26, sC_27, sC_28, sC_29, sC_30, sC_31, sC_32, sC_33, sC_34, sC_35, sC_36, sC_37, sC_38, sC_39, sC_40, sC_41, sC_42, sC_43, sC_44, sC_45, sC_46, sC_47, sC_48, sC_49, sC_50, sC_51]
        have e : a = M := by omega
        subst e
        simp only [dm_sj_1, eM]
        exact ⟨fun _ => ⟨dm_nz _, h⟩, fun q => absurd q (nI_nlt (Nat.le_refl _) (by omega))⟩
      | succ k ih =>
        intro a ha o3 o4
        obtain ⟨⟨e1, l1⟩, ⟨e2, l2⟩, ⟨e3, l3, l4⟩⟩ := ho a (by omega)
        have e := ih (a + 1) (by omega)
        have c1 : (nI a).toNatClampNeg = a := nI_clamp (by omega)
        have c2 : (nI (fr a)).toNatClampNeg = fr a := nI_clamp (by omega)
        have c3 : (nI (tr a)).toNatClampNeg = tr a := nI_clamp (by omega)
        have c4 : (nI (4 * a + pt a - 1)).toNatClampNeg = 4 * a + pt a - 1 := nI_clamp (by omega)
        apply hG (fun pc => pc == 4) 60
        simp (config := { maxSteps := 2000000 }) [hW0, hW1, dm_fn, dm_fd, dm_x, dm_L0, dm_la, dm_t1, dm_sw, List.headD, dm_ic, dm_mk, dm_s1, dm_s2, dm_clr, dm_cs, dm_cc, dm_nb0, dm_nb1, Value.category, List.lookup, p_X5_lowerByEndless, x_X5_lowerByEndless, k_X5_lowerByEndless, dm_cm, upd, vp_updL, dm_ui_1, dm_ui_2, dm_ul_1, dm_ul_2, sp_X2_lastRate, sC_0, sC_1, sC_2, sC_3, sC_4, sC_5, sC_6, sC_7, sC_8, sC_9, sC_10, sC_11, sC_12, sC_13, sC_14, sC_15, sC_16, sC_17, sC_18, sC_19, sC_20, sC_21, sC_22, sC_23, sC_24, sC_25, sC_26, sC_27, sC_28, sC_29, sC_30, sC_31, sC_32, sC_33, sC_34, sC_35, sC_36, sC_37, sC_38, sC_39, sC_40, sC_41, sC_42, sC_43, sC_44, sC_45, sC_46, sC_47, sC_48, sC_49, sC_50, sC_51]
        simp only [dm_sj_1, eM, c1, e1, e2, c2, c3, e3, dm_lp l3, c4, dm_sj_u, nI_1]
        have i1 : vp_in (nI a) 80 := vp_in_nI (by omega) (by omega)
        have i2 : vp_in (nI (tr a)) 24 := vp_in_nI (by omega) (by omega)
        refine ⟨fun q => absurd q (nI_ge (by omega) (by omega)), fun q => ⟨i1, vp_in_nI (by omega) (by omega), i1, vp_in_nI (by omega) (by omega), i1, fun z => ?_, fun z => ⟨i1, i2, fun y => ?_, fun y => ⟨i1, i2, ?_⟩⟩⟩⟩
        · have e4 : R (a + 1) = R a := by rw [hRs a, if_neg (fun x => by have := x.1; simp [cn_en, z] at this)]
          rw [e4] at e
          exact e _ _
        · have e4 : R (a + 1) = R a := by rw [hRs a, if_neg (fun x => dm_l_lt.mpr y x.2)]
          rw [e4] at e
          exact e _ _
        · have e4 : R (a + 1) = (vp_updL (R a).1 (tr a) ((R a).1 (fr a) + cn_lw u pt a), true) := by rw [hRs a, if_pos ⟨by simp [cn_en, z], y⟩]
          rw [e4] at e
          exact e _ _
    apply hG (fun pc => pc == 4) 60
    simp (config := { maxSteps := 2000000 }) [hW0, hW1, dm_fn, dm_fd, dm_x, dm_L0, dm_la, dm_t1, dm_sw, List.headD, dm_ic, dm_mk, dm_s1, dm_s2, dm_clr, dm_cs, dm_cc, dm_nb0, dm_nb1, Value.category, List.lookup, p_X5_lowerByEndless, x_X5_lowerByEndless, k_X5_lowerByEndless, dm_cm, upd, vp_updL, dm_ui_1, dm_ui_2, dm_ul_1, dm_ul_2, sp_X2_lastRate, sC_0, sC_1, sC_2, sC_3, sC_4, sC_5, sC_6, sC_7, sC_8, sC_9, sC_10, sC_11, sC_12, sC_13, sC_14, sC_15, sC_16, sC_17, sC_18, sC_19, sC_20, sC_21, sC_22, sC_23, sC_24, sC_25, sC_26, sC_27, sC_28, sC_29, sC_30, sC_31, sC_32, sC_33, sC_34, sC_35, sC_36, sC_37, sC_38, sC_39, sC_40, sC_41, sC_42, sC_43, sC_44, sC_45, sC_46, sC_47, sC_48, sC_49, sC_50, sC_51]
    have e := loop M 0 (by omega) none none
    rw [show R 0 = (u.2 36, false) from by rw [← hR]; rfl, dm_sj_self] at e
    exact e
  · exact h.elim
set_option maxRecDepth 100000 in
theorem t_X5_lowerByEndless (l : Launch) (D : va_G) (cA : Nat → ClassId) (ad : Nat → Nat) : dm_Met l D dm_cl cA ad shC yX5_lowerByEndless (Cond.code yX5_lowerByEndless cX5_lowerByEndless 5 (dm_rt 3) :: dm_tt) ({ frames := 2, cells := 0, slots := 0, locals := 42 } : Room) sp_X5_lowerByEndless := dm_meth (own := RX5) (X := x_X5_lowerByEndless) (Sp := k_X5_lowerByEndless) (prog := p_X5_lowerByEndless) (by decide +kernel) rfl rfl (dm_FO_s ffX5 [(9, 5, 3), (18, 5, 0), (46, 2, 9), (49, 2, 1), (57, 2, 3), (61, 2, 2)] rfl dm_hT (by decide +kernel)) (dm_IO_s ifX5 jfX5 [] [] rfl rfl dm_hT (by decide +kernel) (by decide +kernel)) soC (dm_MO_of (List.forall_mem_cons.mpr ⟨dm_M1_of (t_X2_lastRate l D cA ad) dm_hT (dm_mem [651, 67, 648] (by decide +kernel) (by decide +kernel)) (by decide) (by decide +kernel) (Or.inr ⟨by decide, dm_mem [649, 650] (by decide +kernel) (by decide +kernel), rfl⟩), fun _ h => absurd h List.not_mem_nil⟩)) v_X5_lowerByEndless u_X5_lowerByEndless
theorem cn_ok_sj {u : dm_S} {c : Nat} {f : Nat → Int64} {N M : Nat} {fr tr pt : Nat → Nat} (h : cn_ok u N M fr tr pt) : cn_ok (dm_sj u c f) N M fr tr pt := h
theorem dm_sj_sj {u : dm_S} {c : Nat} {f g : Nat → Int64} : dm_sj (dm_sj u c f) c g = dm_sj u c g := by
  unfold dm_sj
  refine Prod.ext rfl ?_
  funext c'
  by_cases e : c' = c
  · simp [e]
  · simp [e]
/-- the row of values at first -/
def dm_z0 (u : dm_S) : Nat → Int64 := fun j => if j < 24 then 0 else u.2 36 j
theorem dm_fj_sj {u : dm_S} {c n : Nat} {x : Int64} : dm_fj u c n x = dm_sj u c (fun j => if j < n then x else u.2 c j) := rfl
def sp_X5_settleEndless (As : List Value) (u : dm_S) (Q : Option Value → dm_S → Prop) : Prop := match As with
  | [.ref 5] => ∃ (N M : Nat) (fr tr pt : Nat → Nat), cn_ok u N M fr tr pt ∧ Q (some (.int (if (rx_it M fr tr (cn_lw u pt) (cn_en u) (N + 1) (dm_z0 u)).2 then 1 else 0))) (dm_sj u 36 (rx_it M fr tr (cn_lw u pt) (cn_en u) (N + 1) (dm_z0 u)).1)
  | _ => False
def p_X5_settleEndless : List dm_I := [(0, .aload_n 0, 1, [0]), (1, .getfield 9, 3, []), (4, .lconst 0, 1, []), (5, .invokestatic 30, 3, []), (8, .iconst 0, 1, []), (9, .istore_n 1, 1, [1]), (10, .iload_n 1, 1, [1]), (11, .aload_n 0, 1, [0]), (12, .getfield 18, 3, []), (15, .getfield 36, 3, []), (18, .if_icmp .gt 18, 3, [36]), (21, .aload_n 0, 1, [0]), (22, .invokevirtual 42, 3, []), (25, .ifCond .ne 5, 3, [30]), (28, .iconst 1, 1, []), (29, .ireturn, 1, []), (30, .iinc 1 1, 3, []), (33, .goto (-23), 3, [10]), (36, .iconst 0, 1, []), (37, .ireturn, 1, [])]
set_option maxRecDepth 100000 in
theorem v_X5_settleEndless : p_X5_settleEndless.all (dm_vb cX5_settleEndless) = true := by decide +kernel
def k_X5_settleEndless : dm_Sp := fun a => match a with
  | 0 => sp_J7_fill_d0a16
  | 1 => sp_X5_lowerByEndless
  | _ => fun _ _ _ => False
def x_X5_settleEndless : dm_X := dm_mk [(9, 5, 3), (18, 5, 0), (36, 2, 8)] [] [] [(30, 0, 2, 1000), (42, 1, 0, 5)] 3
set_option maxRecDepth 100000 in
set_option maxHeartbeats 400000 in
theorem u_X5_settleEndless : dm_Pure shC x_X5_settleEndless k_X5_settleEndless p_X5_settleEndless 2 sp_X5_settleEndless := by
  intro As u Qp h
  unfold sp_X5_settleEndless at h
  split at h
  · obtain ⟨N, M, fr, tr, pt, hok, h⟩ := h
    have hok0 := hok
    obtain ⟨⟨hN, hM, eN, eM⟩, ho⟩ := hok0
    refine ⟨Nat.le_of_ble_eq_true rfl, fun G Wp hW0 hW1 hG => ?_⟩
    have loop : ∀ (k i : Nat) (V : Nat → Int64), i + k = N + 1 → rx_it M fr tr (cn_lw u pt) (cn_en u) (N + 1) (dm_z0 u) = rx_it M fr tr (cn_lw u pt) (cn_en u) k V → G 10 [some (.ref 5), some (.int (nI i))] [] (dm_sj u 36 V) := by
      intro k
      induction k with
      | zero =>
        intro i V hi hf
        apply hG (fun pc => pc == 10) 40
        simp (config := { maxSteps := 2000000 }) [hW0, hW1, dm_fn, dm_fd, dm_x, dm_L0, dm_la, dm_t1, dm_sw, List.headD, dm_ic, dm_mk, dm_s1, dm_s2, dm_clr, dm_cs, dm_cc, dm_nb0, dm_nb1, Value.category, List.lookup, p_X5_settleEndless, x_X5_settleEndless, k_X5_settleEndless, dm_cm, upd, vp_updL, dm_ui_1, dm_ui_2, dm_ul_1, dm_ul_2, sp_J7_fill_d0a16, sp_X5_lowerByEndless, sC_0, sC_1, sC_2, sC_3, sC_4, sC_5, sC_6, sC_7, sC_8, sC_9, sC_10, sC_11, sC_12, sC_13, sC_14, sC_15, sC_16, sC_17, sC_18, sC_19, sC_20, sC_21, sC_22, sC_23, sC_24, sC_25, sC_26, sC_27, sC_28, sC_29, sC_30, sC_31, sC_32, sC_33, sC_34, sC_35, sC_36, sC_37, sC_38, sC_39, sC_40, sC_41, sC_42, sC_43, sC_44, sC_45, sC_46, sC_47, sC_48, sC_49, sC_50, sC_51]
        simp only [dm_sj_1, eN]
        rw [hf] at h
        exact ⟨fun _ => h, fun q => absurd q (nI_ge (by omega) (by omega))⟩
      | succ k ih =>
        intro i V hi hf
        apply hG (fun pc => pc == 10) 40
        simp (config := { maxSteps := 2000000 }) [hW0, hW1, dm_fn, dm_fd, dm_x, dm_L0, dm_la, dm_t1, dm_sw, List.headD, dm_ic, dm_mk, dm_s1, dm_s2, dm_clr, dm_cs, dm_cc, dm_nb0, dm_nb1, Value.category, List.lookup, p_X5_settleEndless, x_X5_settleEndless, k_X5_settleEndless, dm_cm, upd, vp_updL, dm_ui_1, dm_ui_2, dm_ul_1, dm_ul_2, sp_J7_fill_d0a16, sp_X5_lowerByEndless, sC_0, sC_1, sC_2, sC_3, sC_4, sC_5, sC_6, sC_7, sC_8, sC_9, sC_10, sC_11, sC_12, sC_13, sC_14, sC_15, sC_16, sC_17, sC_18, sC_19, sC_20, sC_21, sC_22, sC_23, sC_24, sC_25, sC_26, sC_27, sC_28, sC_29, sC_30, sC_31, sC_32, sC_33, sC_34, sC_35, sC_36, sC_37, sC_38, sC_39, sC_40, sC_41, sC_42, sC_43, sC_44, sC_45, sC_46, sC_47, sC_48, sC_49, sC_50, sC_51]
        simp only [dm_sj_1, eN]
        have hs : rx_it M fr tr (cn_lw u pt) (cn_en u) (k + 1) V = if (rx_go fr tr (cn_lw u pt) (cn_en u) V M).2 then rx_it M fr tr (cn_lw u pt) (cn_en u) k (rx_go fr tr (cn_lw u pt) (cn_en u) V M).1 else ((rx_go fr tr (cn_lw u pt) (cn_en u) V M).1, true) := rfl
        refine ⟨fun q => absurd q (nI_nlt (by omega) (by omega)), fun _ => ⟨N, M, fr, tr, pt, hok, fun z => ?_, fun z => ?_⟩⟩
        · have z' : (rx_go fr tr (cn_lw u pt) (cn_en u) V M).2 = true := z
          rw [dm_sj_sj, nI_1]
          exact ih (i + 1) _ (by omega) (by rw [hf, hs, if_pos z']; rfl)
        · have z' : (rx_go fr tr (cn_lw u pt) (cn_en u) V M).2 = false := z
          have hs2 : rx_it M fr tr (cn_lw u pt) (cn_en u) (k + 1) V = ((rx_go fr tr (cn_lw u pt) (cn_en u) V M).1, true) := by rw [hs, if_neg (by rw [z']; decide)]
          rw [hf, hs2] at h
          rw [dm_sj_sj]
          exact h
    apply hG (fun pc => pc == 10) 40
    simp (config := { maxSteps := 2000000 }) [hW0, hW1, dm_fn, dm_fd, dm_x, dm_L0, dm_la, dm_t1, dm_sw, List.headD, dm_ic, dm_mk, dm_s1, dm_s2, dm_clr, dm_cs, dm_cc, dm_nb0, dm_nb1, Value.category, List.lookup, p_X5_settleEndless, x_X5_settleEndless, k_X5_settleEndless, dm_cm, upd, vp_updL, dm_ui_1, dm_ui_2, dm_ul_1, dm_ul_2, sp_J7_fill_d0a16, sp_X5_lowerByEndless, sC_0, sC_1, sC_2, sC_3, sC_4, sC_5, sC_6, sC_7, sC_8, sC_9, sC_10, sC_11, sC_12, sC_13, sC_14, sC_15, sC_16, sC_17, sC_18, sC_19, sC_20, sC_21, sC_22, sC_23, sC_24, sC_25, sC_26, sC_27, sC_28, sC_29, sC_30, sC_31, sC_32, sC_33, sC_34, sC_35, sC_36, sC_37, sC_38, sC_39, sC_40, sC_41, sC_42, sC_43, sC_44, sC_45, sC_46, sC_47, sC_48, sC_49, sC_50, sC_51]
    exact ⟨24, by omega, rfl, loop (N + 1) 0 (dm_z0 u) (by omega) rfl⟩
  · exact h.elim
set_option maxRecDepth 100000 in
theorem t_X5_settleEndless (l : Launch) (D : va_G) (cA : Nat → ClassId) (ad : Nat → Nat) : dm_Met l D dm_cl cA ad shC yX5_settleEndless (Cond.code yX5_settleEndless cX5_settleEndless 2 (dm_rt 3) :: dm_tt) ({ frames := 3, cells := 0, slots := 0, locals := 66 } : Room) sp_X5_settleEndless := dm_meth (own := RX5) (X := x_X5_settleEndless) (Sp := k_X5_settleEndless) (prog := p_X5_settleEndless) (by decide +kernel) rfl rfl (dm_FO_s ffX5 [(9, 5, 3), (18, 5, 0), (36, 2, 8)] rfl dm_hT (by decide +kernel)) (dm_IO_s ifX5 jfX5 [] [] rfl rfl dm_hT (by decide +kernel) (by decide +kernel)) soC (dm_MO_of (List.forall_mem_cons.mpr ⟨dm_M1_of (t_J7_fill_d0a16 l D cA ad) dm_hT (dm_mem [576, 78, 643] (by decide +kernel) (by decide +kernel)) (by decide) (by decide +kernel) (Or.inl ⟨rfl, dm_mem (ws := [.static yJ7_fill_d0a16]) [575] (by decide +kernel) (by decide +kernel) _ List.mem_cons_self⟩), List.forall_mem_cons.mpr ⟨dm_M1_of (t_X5_lowerByEndless l D cA ad) dm_hT (dm_mem [647, 71, 644] (by decide +kernel) (by decide +kernel)) (by decide) (by decide +kernel) (Or.inr ⟨by decide, dm_mem [646, 9] (by decide +kernel) (by decide +kernel), rfl⟩), fun _ h => absurd h List.not_mem_nil⟩⟩)) v_X5_settleEndless u_X5_settleEndless
end
section
/-! ===== least costs along the WAYS that were gathered ===== -/
def wg_ok (u : dm_S) (C : Nat) (nb bg en : Nat → Nat) : Prop := u.1 3 6 = nI C ∧ C ≤ 160 ∧ ∀ j, j < C → (u.1 28 j = nI (nb j) ∧ nb j < 640) ∧ (u.1 29 j = nI (bg j) ∧ bg j < 24) ∧ (u.1 30 j = nI (en j) ∧ en j < 24)
/-- one pass over the WAYS, but those left out; FAR stands for 'not reached' -/
def rf_go (bg en : Nat → Nat) (w : Nat → Int64) (on : Nat → Bool) (V : Nat → Int64) : Nat → (Nat → Int64) × Bool
  | 0 => (V, false)
  | j + 1 => if on j = true ∧ ¬ (rf_go bg en w on V j).1 (bg j) = 1152921504606846976 ∧ (rf_go bg en w on V j).1 (bg j) + w j < (rf_go bg en w on V j).1 (en j) then (vp_updL (rf_go bg en w on V j).1 (en j) ((rf_go bg en w on V j).1 (bg j) + w j), true) else rf_go bg en w on V j
def rf_it (C : Nat) (bg en : Nat → Nat) (w : Nat → Int64) (on : Nat → Bool) : Nat → (Nat → Int64) → Nat → Int64
  | 0, V => V
  | r + 1, V => if (rf_go bg en w on V C).2 then rf_it C bg en w on r (rf_go bg en w on V C).1 else (rf_go bg en w on V C).1
def wg_on (nb : Nat → Nat) (x : Int32) (j : Nat) : Bool := !decide (nI (nb j / 2) = x)
def sp_X5_lowerAll (As : List Value) (u : dm_S) (Q : Option Value → dm_S → Prop) : Prop := match As with
  | [.ref 5, .ref c, .int x] => ∃ (N C : Nat) (nb bg en : Nat → Nat), (N ≤ 24 ∧ u.1 1 8 = nI N) ∧ wg_ok u C nb bg en ∧ shC[c]? = some (.inl (1, 24)) ∧ c ≠ 31 ∧ Q none (dm_sj u c (rf_it C bg en (u.2 31) (wg_on nb x) N (u.2 c)))
  | _ => False
def p_X5_lowerAll : List dm_I := [(0, .iconst 1, 1, []), (1, .istore_n 3, 1, [3]), (2, .iconst 0, 1, []), (3, .istore 4, 2, []), (5, .iload_n 3, 1, [3]), (6, .ifCond .eq 72, 3, [78]), (9, .iload 4, 2, []), (11, .aload_n 0, 1, [0]), (12, .getfield 18, 3, []), (15, .getfield 36, 3, []), (18, .if_icmp .ge 60, 3, [78]), (21, .iconst 0, 1, []), (22, .istore_n 3, 1, [3]), (23, .iconst 0, 1, []), (24, .istore 5, 2, []), (26, .iload 5, 2, []), (28, .aload_n 0, 1, [0]), (29, .getfield 26, 3, []), (32, .getfield 68, 3, []), (35, .if_icmp .ge 37, 3, [72]), (38, .aload_n 0, 1, [0]), (39, .getfield 26, 3, []), (42, .getfield 104, 3, []), (45, .iload 5, 2, []), (47, .iaload, 1, []), (48, .iconst 1, 1, []), (49, .ishr, 1, []), (50, .iload_n 2, 1, [2]), (51, .if_icmp .eq 15, 3, [66]), (54, .aload_n 0, 1, [0]), (55, .iload 5, 2, []), (57, .aload_n 1, 1, [1]), (58, .invokevirtual 107, 3, []), (61, .ifCond .eq 5, 3, [66]), (64, .iconst 1, 1, []), (65, .istore_n 3, 1, [3]), (66, .iinc 5 1, 3, []), (69, .goto (-43), 3, [26]), (72, .iinc 4 1, 3, []), (75, .goto (-70), 3, [5]), (78, .return_, 1, [])]
set_option maxRecDepth 100000 in
theorem v_X5_lowerAll : p_X5_lowerAll.all (dm_vb cX5_lowerAll) = true := by decide +kernel
def k_X5_lowerAll : dm_Sp := fun a => match a with
  | 0 => sp_X5_lowerBy
  | _ => fun _ _ _ => False
def x_X5_lowerAll : dm_X := dm_mk [(18, 5, 0), (26, 5, 2), (36, 2, 8), (68, 9, 6), (104, 9, 2)] [] [] [(107, 0, 2, 5)] 0
set_option maxRecDepth 100000 in
set_option maxHeartbeats 800000 in
theorem u_X5_lowerAll : dm_Pure shC x_X5_lowerAll k_X5_lowerAll p_X5_lowerAll 6 sp_X5_lowerAll := by
  intro As u Qp h
  unfold sp_X5_lowerAll at h
  split at h
  · rename_i c x
    obtain ⟨N, C, nb, bg, en, ⟨hN, eN⟩, ⟨eC, hC, ho⟩, hs, hc, h⟩ := h
    refine ⟨Nat.le_of_ble_eq_true rfl, fun G Wp hW0 hW1 hG => ?_⟩
    have inner : ∀ (V : Nat → Int64) (i : Nat), (∀ o5, G 72 [some (.ref 5), some (.ref c), some (.int x), some (.int (if (rf_go bg en (u.2 31) (wg_on nb x) V C).2 then 1 else 0)), some (.int (nI i)), o5] [] (dm_sj u c (rf_go bg en (u.2 31) (wg_on nb x) V C).1)) → ∀ k j : Nat, j + k = C → G 26 [some (.ref 5), some (.ref c), some (.int x), some (.int (if (rf_go bg en (u.2 31) (wg_on nb x) V j).2 then 1 else 0)), some (.int (nI i)), some (.int (nI j))] [] (dm_sj u c (rf_go bg en (u.2 31) (wg_on nb x) V j).1) := by
      intro V i hx
      generalize hR : rf_go bg en (u.2 31) (wg_on nb x) V = R at hx
      have hRs : ∀ j, R (j + 1) = if wg_on nb x j = true ∧ ¬ (R j).1 (bg j) = 1152921504606846976 ∧ (R j).1 (bg j) + u.2 31 j < (R j).1 (en j) then (vp_updL (R j).1 (en j) ((R j).1 (bg j) + u.2 31 j), true) else R j := fun j => by rw [← hR]; rfl
      intro k
      induction k with
      | zero =>
        intro j hj
        apply hG (fun pc => pc == 26 || pc == 72) 40
        simp (config := { maxSteps := 2000000 }) [hW0, hW1, dm_fn, dm_fd, dm_x, dm_L0, dm_la, dm_t1, dm_sw, List.headD, dm_ic, dm_mk, dm_s1, dm_s2, dm_clr, dm_cs, dm_cc, dm_nb0, dm_nb1, Value.category, List.lookup, p_X5_lowerAll, x_X5_lowerAll, k_X5_lowerAll, dm_cm, upd, vp_updL, dm_ui_1, dm_ui_2, dm_ul_1, dm_ul_2, sp_X5_lowerBy, sC_0, sC_1, sC_2, sC_3, sC_4, sC_5, sC_6, sC_7, sC_8, sC_9, sC_10, sC_11, sC_12, sC_13, sC_14, sC_15, sC_16, sC_17, sC_18, sC_19, sC_20, sC_21, sC_22, sC_23, sC_24, sC_25, sC_26, sC_27, sC_28, sC_29, sC_30, sC_31, sC_32, sC_33, sC_34, sC_35, sC_36, sC_37, sC_38, sC_39, sC_40, sC_41, sC_42, sC_43, sC_44, sC_45, sC_46, sC_47, sC_48, sC_49, sC_50, sC_51]
        have e : j = C := by omega
        subst e
        simp only [dm_sj_1, eC]
        exact ⟨fun _ => hx _, fun q => absurd q (nI_nlt (Nat.le_refl _) (by omega))⟩
      | succ k ih =>
        intro j hj
        obtain ⟨⟨e1, l1⟩, ⟨e2, l2⟩, ⟨e3, l3⟩⟩ := ho j (by omega)
        have e := ih (j + 1) (by omega)
        have c1 : (nI j).toNatClampNeg = j := nI_clamp (by omega)
        have c2 : (nI (bg j)).toNatClampNeg = bg j := nI_clamp (by omega)
        have c3 : (nI (en j)).toNatClampNeg = en j := nI_clamp (by omega)
        have i1 : vp_in (nI j) 160 := vp_in_nI (by omega) (by omega)
        have hlb : dm_lb (dm_sj u c (R j).1) c j ↔ (¬ (R j).1 (bg j) = 1152921504606846976 ∧ (R j).1 (bg j) + u.2 31 j < (R j).1 (en j)) := by
          unfold dm_lb
          rw [dm_sj_1, e2, e3, c2, c3, dm_sj_2, if_pos rfl, dm_sj_2, if_neg (fun q => hc q.symm)]
        apply hG (fun pc => pc == 26 || pc == 72) 40
        simp (config := { maxSteps := 2000000 }) [hW0, hW1, dm_fn, dm_fd, dm_x, dm_L0, dm_la, dm_t1, dm_sw, List.headD, dm_ic, dm_mk, dm_s1, dm_s2, dm_clr, dm_cs, dm_cc, dm_nb0, dm_nb1, Value.category, List.lookup, p_X5_lowerAll, x_X5_lowerAll, k_X5_lowerAll, dm_cm, upd, vp_updL, dm_ui_1, dm_ui_2, dm_ul_1, dm_ul_2, sp_X5_lowerBy, sC_0, sC_1, sC_2, sC_3, sC_4, sC_5, sC_6, sC_7, sC_8, sC_9, sC_10, sC_11, sC_12, sC_13, sC_14, sC_15, sC_16, sC_17, sC_18, sC_19, sC_20, sC_21, sC_22, sC_23, sC_24, sC_25, sC_26, sC_27, sC_28, sC_29, sC_30, sC_31, sC_32, sC_33, sC_34, sC_35, sC_36, sC_37, sC_38, sC_39, sC_40, sC_41, sC_42, sC_43, sC_44, sC_45, sC_46, sC_47, sC_48, sC_49, sC_50, sC_51]
        simp only [dm_sj_1, eC, c1, e1, dm_w2 l1, nI_1]
        refine ⟨fun q => absurd q (nI_ge (by omega) (by omega)), fun q => ⟨i1, fun z => ?_, fun z => ⟨j, by omega, rfl, hs, by rw [e2]; exact vp_in_nI (by omega) (by omega), by rw [e3]; exact vp_in_nI (by omega) (by omega), fun y => ?_, fun y => ?_⟩⟩⟩
        · have e4 : R (j + 1) = R j := by rw [hRs j, if_neg (fun t => by have := t.1; simp [wg_on, z] at this)]
          rw [e4] at e
          exact e
        · rw [hlb] at y
          have e4 : R (j + 1) = (vp_updL (R j).1 (en j) ((R j).1 (bg j) + u.2 31 j), true) := by rw [hRs j, if_pos ⟨by simp [wg_on, z], y⟩]
          rw [e4] at e
          rw [e2, e3, c2, c3, dm_sj_u, dm_sj_2, if_pos rfl, dm_sj_2, if_neg (fun q => hc q.symm)]
          exact e
        · rw [hlb] at y
          have e4 : R (j + 1) = R j := by rw [hRs j, if_neg (fun t => y t.2)]
          rw [e4] at e
          exact e
    have outer : ∀ (k i : Nat) (b : Bool) (V : Nat → Int64), i + k = N → (b = true → rf_it C bg en (u.2 31) (wg_on nb x) N (u.2 c) = rf_it C bg en (u.2 31) (wg_on nb x) k V) → (b = false → rf_it C bg en (u.2 31) (wg_on nb x) N (u.2 c) = V) → ∀ o5, G 5 [some (.ref 5), some (.ref c), some (.int x), some (.int (if b then 1 else 0)), some (.int (nI i)), o5] [] (dm_sj u c V) := by
      intro k
      induction k with
      | zero =>
        intro i b V hi h1 h2 o5
        have e : rf_it C bg en (u.2 31) (wg_on nb x) N (u.2 c) = V := by
          cases b with
          | true => exact h1 rfl
          | false => exact h2 rfl
        rw [e] at h
        apply hG (fun pc => pc == 5 || pc == 26 || pc == 72) 40
        simp (config := { maxSteps := 2000000 }) [hW0, hW1, dm_fn, dm_fd, dm_x, dm_L0, dm_la, dm_t1, dm_sw, List.headD, dm_ic, dm_mk, dm_s1, dm_s2, dm_clr, dm_cs, dm_cc, dm_nb0, dm_nb1, Value.category, List.lookup, p_X5_lowerAll, x_X5_lowerAll, k_X5_lowerAll, dm_cm, upd, vp_updL, dm_ui_1, dm_ui_2, dm_ul_1, dm_ul_2, sp_X5_lowerBy, sC_0, sC_1, sC_2, sC_3, sC_4, sC_5, sC_6, sC_7, sC_8, sC_9, sC_10, sC_11, sC_12, sC_13, sC_14, sC_15, sC_16, sC_17, sC_18, sC_19, sC_20, sC_21, sC_22, sC_23, sC_24, sC_25, sC_26, sC_27, sC_28, sC_29, sC_30, sC_31, sC_32, sC_33, sC_34, sC_35, sC_36, sC_37, sC_38, sC_39, sC_40, sC_41, sC_42, sC_43, sC_44, sC_45, sC_46, sC_47, sC_48, sC_49, sC_50, sC_51]
        simp only [dm_sj_1, eN]
        exact ⟨fun _ => h, fun _ => ⟨fun _ => h, fun q => absurd q (nI_nlt (by omega) (by omega))⟩⟩
      | succ k ih =>
        intro i b V hi h1 h2 o5
        apply hG (fun pc => pc == 5 || pc == 26 || pc == 72) 40
        simp (config := { maxSteps := 2000000 }) [hW0, hW1, dm_fn, dm_fd, dm_x, dm_L0, dm_la, dm_t1, dm_sw, List.headD, dm_ic, dm_mk, dm_s1, dm_s2, dm_clr, dm_cs, dm_cc, dm_nb0, dm_nb1, Value.category, List.lookup, p_X5_lowerAll, x_X5_lowerAll, k_X5_lowerAll, dm_cm, upd, vp_updL, dm_ui_1, dm_ui_2, dm_ul_1, dm_ul_2, sp_X5_lowerBy, sC_0, sC_1, sC_2, sC_3, sC_4, sC_5, sC_6, sC_7, sC_8, sC_9, sC_10, sC_11, sC_12, sC_13, sC_14, sC_15, sC_16, sC_17, sC_18, sC_19, sC_20, sC_21, sC_22, sC_23, sC_24, sC_25, sC_26, sC_27, sC_28, sC_29, sC_30, sC_31, sC_32, sC_33, sC_34, sC_35, sC_36, sC_37, sC_38, sC_39, sC_40, sC_41, sC_42, sC_43, sC_44, sC_45, sC_46, sC_47, sC_48, sC_49, sC_50, sC_51]
        simp only [dm_sj_1, eN]
        have hs2 : rf_it C bg en (u.2 31) (wg_on nb x) (k + 1) V = if (rf_go bg en (u.2 31) (wg_on nb x) V C).2 then rf_it C bg en (u.2 31) (wg_on nb x) k (rf_go bg en (u.2 31) (wg_on nb x) V C).1 else (rf_go bg en (u.2 31) (wg_on nb x) V C).1 := rfl
        refine ⟨fun q => ?_, fun q => ⟨fun y => absurd y (nI_ge (by omega) (by omega)), fun _ => ?_⟩⟩
        · rw [h2 q] at h
          exact h
        · refine inner V i (fun o5 => ?_) C 0 (by omega)
          apply hG (fun pc => pc == 5 || pc == 26 || pc == 72) 40
          simp (config := { maxSteps := 2000000 }) [hW0, hW1, dm_fn, dm_fd, dm_x, dm_L0, dm_la, dm_t1, dm_sw, List.headD, dm_ic, dm_mk, dm_s1, dm_s2, dm_clr, dm_cs, dm_cc, dm_nb0, dm_nb1, Value.category, List.lookup, p_X5_lowerAll, x_X5_lowerAll, k_X5_lowerAll, dm_cm, upd, vp_updL, dm_ui_1, dm_ui_2, dm_ul_1, dm_ul_2, sp_X5_lowerBy, sC_0, sC_1, sC_2, sC_3, sC_4, sC_5, sC_6, sC_7, sC_8, sC_9, sC_10, sC_11, sC_12, sC_13, sC_14, sC_15, sC_16, sC_17, sC_18, sC_19, sC_20, sC_21, sC_22, sC_23, sC_24, sC_25, sC_26, sC_27, sC_28, sC_29, sC_30, sC_31, sC_32, sC_33, sC_34, sC_35, sC_36, sC_37, sC_38, sC_39, sC_40, sC_41, sC_42, sC_43, sC_44, sC_45, sC_46, sC_47, sC_48, sC_49, sC_50, sC_51]
          rw [nI_1]
          exact ih (i + 1) _ _ (by omega) (fun t => by rw [h1 q, hs2, if_pos t]) (fun t => by rw [h1 q, hs2, if_neg (by rw [t]; decide)]) o5
    apply hG (fun pc => pc == 5 || pc == 26 || pc == 72) 40
    simp (config := { maxSteps := 2000000 }) [hW0, hW1, dm_fn, dm_fd, dm_x, dm_L0, dm_la, dm_t1, dm_sw, List.headD, dm_ic, dm_mk, dm_s1, dm_s2, dm_clr, dm_cs, dm_cc, dm_nb0, dm_nb1, Value.category, List.lookup, p_X5_lowerAll, x_X5_lowerAll, k_X5_lowerAll, dm_cm, upd, vp_updL, dm_ui_1, dm_ui_2, dm_ul_1, dm_ul_2, sp_X5_lowerBy, sC_0, sC_1, sC_2, sC_3, sC_4, sC_5, sC_6, sC_7, sC_8, sC_9, sC_10, sC_11, sC_12, sC_13, sC_14, sC_15, sC_16, sC_17, sC_18, sC_19, sC_20, sC_21, sC_22, sC_23, sC_24, sC_25, sC_26, sC_27, sC_28, sC_29, sC_30, sC_31, sC_32, sC_33, sC_34, sC_35, sC_36, sC_37, sC_38, sC_39, sC_40, sC_41, sC_42, sC_43, sC_44, sC_45, sC_46, sC_47, sC_48, sC_49, sC_50, sC_51]
    have e := outer N 0 true (u.2 c) (by omega) (fun _ => rfl) (fun q => by cases q) none
    rw [dm_sj_self] at e
    exact e
  · exact h.elim
set_option maxRecDepth 100000 in
theorem t_X5_lowerAll (l : Launch) (D : va_G) (cA : Nat → ClassId) (ad : Nat → Nat) : dm_Met l D dm_cl cA ad shC yX5_lowerAll (Cond.code yX5_lowerAll cX5_lowerAll 6 (dm_rt 0) :: dm_tt) ({ frames := 1, cells := 0, slots := 0, locals := 24 } : Room) sp_X5_lowerAll := dm_meth (own := RX5) (X := x_X5_lowerAll) (Sp := k_X5_lowerAll) (prog := p_X5_lowerAll) (by decide +kernel) rfl rfl (dm_FO_s ffX5 [(18, 5, 0), (26, 5, 2), (36, 2, 8), (68, 9, 6), (104, 9, 2)] rfl dm_hT (by decide +kernel)) (dm_IO_s ifX5 jfX5 [] [] rfl rfl dm_hT (by decide +kernel) (by decide +kernel)) soC (dm_MO_of (List.forall_mem_cons.mpr ⟨dm_M1_of (t_X5_lowerBy l D cA ad) dm_hT (dm_mem [805, 71, 802] (by decide +kernel) (by decide +kernel)) (by decide) (by decide +kernel) (Or.inr ⟨by decide, dm_mem [804, 33] (by decide +kernel) (by decide +kernel), rfl⟩), fun _ h => absurd h List.not_mem_nil⟩)) v_X5_lowerAll u_X5_lowerAll
def sp_X5_measure (As : List Value) (u : dm_S) (Q : Option Value → dm_S → Prop) : Prop := match As with
  | [.ref 5] => ∃ (N C : Nat) (nb bg en : Nat → Nat), (N ≤ 24 ∧ u.1 1 8 = nI N) ∧ wg_ok u C nb bg en ∧ Q none (dm_sj u 36 (rf_it C bg en (u.2 31) (wg_on nb (-1)) N (dm_z0 u)))
  | _ => False
def p_X5_measure : List dm_I := [(0, .aload_n 0, 1, [0]), (1, .getfield 9, 3, []), (4, .lconst 0, 1, []), (5, .invokestatic 30, 3, []), (8, .aload_n 0, 1, [0]), (9, .aload_n 0, 1, [0]), (10, .getfield 9, 3, []), (13, .iconst (-1), 1, []), (14, .invokevirtual 64, 3, []), (17, .return_, 1, [])]
set_option maxRecDepth 100000 in
theorem v_X5_measure : p_X5_measure.all (dm_vb cX5_measure) = true := by decide +kernel
def k_X5_measure : dm_Sp := fun a => match a with
  | 0 => sp_J7_fill_d0a16
  | 1 => sp_X5_lowerAll
  | _ => fun _ _ _ => False
def x_X5_measure : dm_X := dm_mk [(9, 5, 3)] [] [] [(30, 0, 2, 1000), (64, 1, 2, 5)] 0
set_option maxRecDepth 100000 in
set_option maxHeartbeats 400000 in
theorem u_X5_measure : dm_Pure shC x_X5_measure k_X5_measure p_X5_measure 1 sp_X5_measure := by
  intro As u Qp h
  unfold sp_X5_measure at h
  split at h
  · refine ⟨Nat.le_of_ble_eq_true rfl, fun G Wp hW0 hW1 hG => ?_⟩
    apply hG (fun _ => false) 11
    simp (config := { maxSteps := 2000000 }) [hW0, hW1, dm_fn, dm_fd, dm_x, dm_L0, dm_la, dm_t1, dm_sw, List.headD, dm_ic, dm_mk, dm_s1, dm_s2, dm_clr, dm_cs, dm_cc, dm_nb0, dm_nb1, Value.category, List.lookup, p_X5_measure, x_X5_measure, k_X5_measure, dm_cm, upd, vp_updL, dm_ui_1, dm_ui_2, dm_ul_1, dm_ul_2, sp_J7_fill_d0a16, sp_X5_lowerAll, sC_0, sC_1, sC_2, sC_3, sC_4, sC_5, sC_6, sC_7, sC_8, sC_9, sC_10, sC_11, sC_12, sC_13, sC_14, sC_15, sC_16, sC_17, sC_18, sC_19, sC_20, sC_21, sC_22, sC_23, sC_24, sC_25, sC_26, sC_27, sC_28, sC_29, sC_30, sC_31, sC_32, sC_33, sC_34, sC_35, sC_36, sC_37, sC_38, sC_39, sC_40, sC_41, sC_42, sC_43, sC_44, sC_45, sC_46, sC_47, sC_48, sC_49, sC_50, sC_51]
    obtain ⟨N, C, nb, bg, en, h1, h2, h⟩ := h
    exact ⟨24, by omega, rfl, N, h1, C, nb, bg, en, h2, by rw [dm_fj_sj, dm_sj_sj]; exact h⟩
  · exact h.elim
set_option maxRecDepth 100000 in
theorem t_X5_measure (l : Launch) (D : va_G) (cA : Nat → ClassId) (ad : Nat → Nat) : dm_Met l D dm_cl cA ad shC yX5_measure (Cond.code yX5_measure cX5_measure 1 (dm_rt 0) :: dm_tt) ({ frames := 2, cells := 0, slots := 0, locals := 49 } : Room) sp_X5_measure := dm_meth (own := RX5) (X := x_X5_measure) (Sp := k_X5_measure) (prog := p_X5_measure) (by decide +kernel) rfl rfl (dm_FO_s ffX5 [(9, 5, 3)] rfl dm_hT (by decide +kernel)) (dm_IO_s ifX5 jfX5 [] [] rfl rfl dm_hT (by decide +kernel) (by decide +kernel)) soC (dm_MO_of (List.forall_mem_cons.mpr ⟨dm_M1_of (t_J7_fill_d0a16 l D cA ad) dm_hT (dm_mem [576, 78, 643] (by decide +kernel) (by decide +kernel)) (by decide) (by decide +kernel) (Or.inl ⟨rfl, dm_mem (ws := [.static yJ7_fill_d0a16]) [575] (by decide +kernel) (by decide +kernel) _ List.mem_cons_self⟩), List.forall_mem_cons.mpr ⟨dm_M1_of (t_X5_lowerAll l D cA ad) dm_hT (dm_mem [801, 71, 798] (by decide +kernel) (by decide +kernel)) (by decide) (by decide +kernel) (Or.inr ⟨by decide, dm_mem [800, 32] (by decide +kernel) (by decide +kernel), rfl⟩), fun _ h => absurd h List.not_mem_nil⟩⟩)) v_X5_measure u_X5_measure
/-- least costs from a NODE by the WAYS, without those of a lane -/
def wg_ds (u : dm_S) (N C : Nat) (nb bg en : Nat → Nat) (l : Int32) (f : Nat) : Nat → Int64 := rf_it C bg en (u.2 31) (wg_on nb l) N (vp_updL (fun j => if j < 24 then 1152921504606846976 else u.2 37 j) f 0)
def sp_X5_distanceWithout (As : List Value) (u : dm_S) (Q : Option Value → dm_S → Prop) : Prop := match As with
  | [.ref 5, .int l, .int a, .int b] => ∃ (N C : Nat) (nb bg en : Nat → Nat) (f t : Nat), (N ≤ 24 ∧ u.1 1 8 = nI N) ∧ wg_ok u C nb bg en ∧ (f < 24 ∧ a = nI f) ∧ (t < 24 ∧ b = nI t) ∧ Q (some (.long (wg_ds u N C nb bg en l f t))) (dm_sj u 37 (wg_ds u N C nb bg en l f))
  | _ => False
def p_X5_distanceWithout : List dm_I := [(0, .aload_n 0, 1, [0]), (1, .getfield 15, 3, []), (4, .ldc2_w 102, 3, []), (7, .invokestatic 30, 3, []), (10, .aload_n 0, 1, [0]), (11, .getfield 15, 3, []), (14, .iload_n 2, 1, [2]), (15, .lconst 0, 1, []), (16, .lastore, 1, []), (17, .aload_n 0, 1, [0]), (18, .aload_n 0, 1, [0]), (19, .getfield 15, 3, []), (22, .iload_n 1, 1, [1]), (23, .invokevirtual 64, 3, []), (26, .aload_n 0, 1, [0]), (27, .getfield 15, 3, []), (30, .iload_n 3, 1, [3]), (31, .laload, 1, []), (32, .lreturn, 1, [])]
set_option maxRecDepth 100000 in
theorem v_X5_distanceWithout : p_X5_distanceWithout.all (dm_vb cX5_distanceWithout) = true := by decide +kernel
def k_X5_distanceWithout : dm_Sp := fun a => match a with
  | 0 => sp_J7_fill_d0a16
  | 1 => sp_X5_lowerAll
  | _ => fun _ _ _ => False
def x_X5_distanceWithout : dm_X := dm_mk [(15, 5, 4)] [] [(102, 1152921504606846976)] [(30, 0, 2, 1000), (64, 1, 2, 5)] 2
set_option maxRecDepth 100000 in
set_option maxHeartbeats 400000 in
theorem u_X5_distanceWithout : dm_Pure shC x_X5_distanceWithout k_X5_distanceWithout p_X5_distanceWithout 4 sp_X5_distanceWithout := by
  intro As u Qp h
  unfold sp_X5_distanceWithout at h
  split at h
  · refine ⟨Nat.le_of_ble_eq_true rfl, fun G Wp hW0 hW1 hG => ?_⟩
    apply hG (fun _ => false) 20
    simp (config := { maxSteps := 2000000 }) [hW0, hW1, dm_fn, dm_fd, dm_x, dm_L0, dm_la, dm_t1, dm_sw, List.headD, dm_ic, dm_mk, dm_s1, dm_s2, dm_clr, dm_cs, dm_cc, dm_nb0, dm_nb1, Value.category, List.lookup, p_X5_distanceWithout, x_X5_distanceWithout, k_X5_distanceWithout, dm_cm, upd, vp_updL, dm_ui_1, dm_ui_2, dm_ul_1, dm_ul_2, sp_J7_fill_d0a16, sp_X5_lowerAll, sC_0, sC_1, sC_2, sC_3, sC_4, sC_5, sC_6, sC_7, sC_8, sC_9, sC_10, sC_11, sC_12, sC_13, sC_14, sC_15, sC_16, sC_17, sC_18, sC_19, sC_20, sC_21, sC_22, sC_23, sC_24, sC_25, sC_26, sC_27, sC_28, sC_29, sC_30, sC_31, sC_32, sC_33, sC_34, sC_35, sC_36, sC_37, sC_38, sC_39, sC_40, sC_41, sC_42, sC_43, sC_44, sC_45, sC_46, sC_47, sC_48, sC_49, sC_50, sC_51]
    obtain ⟨N, C, nb, bg, en, f, t, h1, h2, ⟨hf, rfl⟩, ⟨ht, rfl⟩, h⟩ := h
    have c1 : (nI f).toNatClampNeg = f := nI_clamp (by omega)
    have c2 : (nI t).toNatClampNeg = t := nI_clamp (by omega)
    have i1 : vp_in (nI f) 24 := vp_in_nI (by omega) (by omega)
    have i2 : vp_in (nI t) 24 := vp_in_nI (by omega) (by omega)
    simp only [c1, c2]
    refine ⟨24, by omega, rfl, i1, N, h1, C, nb, bg, en, h2, i2, ?_⟩
    rw [dm_fj_sj, dm_sj_u, dm_sj_sj]
    exact h
  · exact h.elim
set_option maxRecDepth 100000 in
theorem t_X5_distanceWithout (l : Launch) (D : va_G) (cA : Nat → ClassId) (ad : Nat → Nat) : dm_Met l D dm_cl cA ad shC yX5_distanceWithout (Cond.code yX5_distanceWithout cX5_distanceWithout 4 (dm_rt 2) :: dm_tt) ({ frames := 2, cells := 0, slots := 0, locals := 49 } : Room) sp_X5_distanceWithout := dm_meth (own := RX5) (X := x_X5_distanceWithout) (Sp := k_X5_distanceWithout) (prog := p_X5_distanceWithout) (by decide +kernel) rfl rfl (dm_FO_s ffX5 [(15, 5, 4)] rfl dm_hT (by decide +kernel)) (dm_IO_s ifX5 jfX5 [] [(102, 1152921504606846976)] rfl rfl dm_hT (by decide +kernel) (by decide +kernel)) soC (dm_MO_of (List.forall_mem_cons.mpr ⟨dm_M1_of (t_J7_fill_d0a16 l D cA ad) dm_hT (dm_mem [576, 78, 643] (by decide +kernel) (by decide +kernel)) (by decide) (by decide +kernel) (Or.inl ⟨rfl, dm_mem (ws := [.static yJ7_fill_d0a16]) [575] (by decide +kernel) (by decide +kernel) _ List.mem_cons_self⟩), List.forall_mem_cons.mpr ⟨dm_M1_of (t_X5_lowerAll l D cA ad) dm_hT (dm_mem [801, 71, 798] (by decide +kernel) (by decide +kernel)) (by decide) (by decide +kernel) (Or.inr ⟨by decide, dm_mem [800, 32] (by decide +kernel) (by decide +kernel), rfl⟩), fun _ h => absurd h List.not_mem_nil⟩⟩)) v_X5_distanceWithout u_X5_distanceWithout
def sp_X5_leastRate (As : List Value) (u : dm_S) (Q : Option Value → dm_S → Prop) : Prop := match As with
  | [.ref 5, .int x] => ∃ (N M : Nat) (fr tr pt : Nat → Nat) (C : Nat) (nb bg en : Nat → Nat) (a p : Nat), cn_ok u N M fr tr pt ∧ wg_ok u C nb bg en ∧ (a < M ∧ x = nI a) ∧ (p < 320 ∧ u.1 19 a = nI p) ∧ (lw_m u (2 * p) = 0 → Q (some (.long (-1000000002))) u) ∧ (¬ lw_m u (2 * p) = 0 → Q (some (.long (if wg_ds u N C nb bg en (nI p) (tr a) (fr a) = 1152921504606846976 then -1000000002 else -wg_ds u N C nb bg en (nI p) (tr a) (fr a)))) (dm_sj u 37 (wg_ds u N C nb bg en (nI p) (tr a))))
  | _ => False
def p_X5_leastRate : List dm_I := [(0, .aload_n 0, 1, [0]), (1, .getfield 22, 3, []), (4, .getfield 90, 3, []), (7, .iload_n 1, 1, [1]), (8, .iaload, 1, []), (9, .istore_n 2, 1, [2]), (10, .aload_n 0, 1, [0]), (11, .getfield 22, 3, []), (14, .iconst 2, 1, []), (15, .iload_n 2, 1, [2]), (16, .imul, 1, []), (17, .invokevirtual 93, 3, []), (20, .lconst 0, 1, []), (21, .lcmp, 1, []), (22, .ifCond .ne 7, 3, [29]), (25, .ldc2_w 96, 3, []), (28, .lreturn, 1, []), (29, .aload_n 0, 1, [0]), (30, .iload_n 2, 1, [2]), (31, .aload_n 0, 1, [0]), (32, .getfield 18, 3, []), (35, .getfield 61, 3, []), (38, .iload_n 1, 1, [1]), (39, .iaload, 1, []), (40, .aload_n 0, 1, [0]), (41, .getfield 18, 3, []), (44, .getfield 49, 3, []), (47, .iload_n 1, 1, [1]), (48, .iaload, 1, []), (49, .invokevirtual 98, 3, []), (52, .lstore_n 3, 1, [3]), (53, .lload_n 3, 1, [3]), (54, .ldc2_w 102, 3, []), (57, .lcmp, 1, []), (58, .ifCond .ne 9, 3, [67]), (61, .ldc2_w 96, 3, []), (64, .goto 5, 3, [69]), (67, .lload_n 3, 1, [3]), (68, .lneg, 1, []), (69, .lreturn, 1, [])]
set_option maxRecDepth 100000 in
theorem v_X5_leastRate : p_X5_leastRate.all (dm_vb cX5_leastRate) = true := by decide +kernel
def k_X5_leastRate : dm_Sp := fun a => match a with
  | 0 => sp_X1_roomOf
  | 1 => sp_X5_distanceWithout
  | _ => fun _ _ _ => False
def x_X5_leastRate : dm_X := dm_mk [(18, 5, 0), (22, 5, 1), (49, 2, 1), (61, 2, 2), (90, 1, 1)] [] [(96, -1000000002), (102, 1152921504606846976)] [(93, 0, 1, 1), (98, 1, 3, 5)] 2
set_option maxRecDepth 100000 in
set_option maxHeartbeats 400000 in
theorem u_X5_leastRate : dm_Pure shC x_X5_leastRate k_X5_leastRate p_X5_leastRate 5 sp_X5_leastRate := by
  intro As u Qp h
  unfold sp_X5_leastRate at h
  split at h
  · refine ⟨Nat.le_of_ble_eq_true rfl, fun G Wp hW0 hW1 hG => ?_⟩
    apply hG (fun _ => false) 41
    simp (config := { maxSteps := 2000000 }) [hW0, hW1, dm_fn, dm_fd, dm_x, dm_L0, dm_la, dm_t1, dm_sw, List.headD, dm_ic, dm_mk, dm_s1, dm_s2, dm_clr, dm_cs, dm_cc, dm_nb0, dm_nb1, Value.category, List.lookup, p_X5_leastRate, x_X5_leastRate, k_X5_leastRate, dm_cm, upd, vp_updL, dm_ui_1, dm_ui_2, dm_ul_1, dm_ul_2, sp_X1_roomOf, sp_X5_distanceWithout, sC_0, sC_1, sC_2, sC_3, sC_4, sC_5, sC_6, sC_7, sC_8, sC_9, sC_10, sC_11, sC_12, sC_13, sC_14, sC_15, sC_16, sC_17, sC_18, sC_19, sC_20, sC_21, sC_22, sC_23, sC_24, sC_25, sC_26, sC_27, sC_28, sC_29, sC_30, sC_31, sC_32, sC_33, sC_34, sC_35, sC_36, sC_37, sC_38, sC_39, sC_40, sC_41, sC_42, sC_43, sC_44, sC_45, sC_46, sC_47, sC_48, sC_49, sC_50, sC_51]
    obtain ⟨N, M, fr, tr, pt, C, nb, bg, en, a, p, ⟨⟨hN, hM, eN, eM⟩, ho⟩, hw, ⟨ha, rfl⟩, ⟨hp, e5⟩, h1, h2⟩ := h
    have c1 : (nI a).toNatClampNeg = a := nI_clamp (by omega)
    have f1 := (ho a ha).2.1
    have f2 := (ho a ha).1
    refine ⟨vp_in_nI (by omega) (by omega), 2 * p, by omega, by rw [c1, e5, show (2 : Int32) = nI 2 from rfl, pk_mul], fun z => ⟨vp_in_nI (by omega) (by omega), N, ⟨hN, eN⟩, C, nb, bg, en, hw, tr a, ⟨by omega, by rw [c1]; exact f1.1⟩, fr a, ⟨by omega, by rw [c1]; exact f2.1⟩, ?_⟩, h1⟩
    have h3 := h2 z
    rw [c1, e5]
    refine ⟨fun y => ?_, fun y => ?_⟩
    · rw [if_neg y] at h3; exact h3
    · rw [if_pos y] at h3; exact h3
  · exact h.elim
set_option maxRecDepth 100000 in
theorem t_X5_leastRate (l : Launch) (D : va_G) (cA : Nat → ClassId) (ad : Nat → Nat) : dm_Met l D dm_cl cA ad shC yX5_leastRate (Cond.code yX5_leastRate cX5_leastRate 5 (dm_rt 2) :: dm_tt) ({ frames := 3, cells := 0, slots := 0, locals := 72 } : Room) sp_X5_leastRate := dm_meth (own := RX5) (X := x_X5_leastRate) (Sp := k_X5_leastRate) (prog := p_X5_leastRate) (by decide +kernel) rfl rfl (dm_FO_s ffX5 [(18, 5, 0), (22, 5, 1), (49, 2, 1), (61, 2, 2), (90, 1, 1)] rfl dm_hT (by decide +kernel)) (dm_IO_s ifX5 jfX5 [] [(96, -1000000002), (102, 1152921504606846976)] rfl rfl dm_hT (by decide +kernel) (by decide +kernel)) soC (dm_MO_of (List.forall_mem_cons.mpr ⟨dm_M1_of (t_X1_roomOf l D cA ad) dm_hT (dm_mem [618, 68, 865] (by decide +kernel) (by decide +kernel)) (by decide) (by decide +kernel) (Or.inr ⟨by decide, dm_mem [616, 617] (by decide +kernel) (by decide +kernel), rfl⟩), List.forall_mem_cons.mpr ⟨dm_M1_of (t_X5_distanceWithout l D cA ad) dm_hT (dm_mem [870, 71, 867] (by decide +kernel) (by decide +kernel)) (by decide) (by decide +kernel) (Or.inr ⟨by decide, dm_mem [869, 36] (by decide +kernel) (by decide +kernel), rfl⟩), fun _ h => absurd h List.not_mem_nil⟩⟩)) v_X5_leastRate u_X5_leastRate
def sp_X5_greatestRate (As : List Value) (u : dm_S) (Q : Option Value → dm_S → Prop) : Prop := match As with
  | [.ref 5, .int x] => ∃ (N M : Nat) (fr tr pt : Nat → Nat) (C : Nat) (nb bg en : Nat → Nat) (a p : Nat), cn_ok u N M fr tr pt ∧ wg_ok u C nb bg en ∧ (a < M ∧ x = nI a) ∧ (p < 320 ∧ u.1 19 a = nI p) ∧ (lw_m u (2 * p + 1) = 0 → Q (some (.long (-1000000002))) u) ∧ (¬ lw_m u (2 * p + 1) = 0 → Q (some (.long (if wg_ds u N C nb bg en (nI p) (fr a) (tr a) = 1152921504606846976 then -1000000002 else wg_ds u N C nb bg en (nI p) (fr a) (tr a)))) (dm_sj u 37 (wg_ds u N C nb bg en (nI p) (fr a))))
  | _ => False
def p_X5_greatestRate : List dm_I := [(0, .aload_n 0, 1, [0]), (1, .getfield 22, 3, []), (4, .getfield 90, 3, []), (7, .iload_n 1, 1, [1]), (8, .iaload, 1, []), (9, .istore_n 2, 1, [2]), (10, .aload_n 0, 1, [0]), (11, .getfield 22, 3, []), (14, .iconst 2, 1, []), (15, .iload_n 2, 1, [2]), (16, .imul, 1, []), (17, .iconst 1, 1, []), (18, .iadd, 1, []), (19, .invokevirtual 93, 3, []), (22, .lconst 0, 1, []), (23, .lcmp, 1, []), (24, .ifCond .ne 7, 3, [31]), (27, .ldc2_w 96, 3, []), (30, .lreturn, 1, []), (31, .aload_n 0, 1, [0]), (32, .iload_n 2, 1, [2]), (33, .aload_n 0, 1, [0]), (34, .getfield 18, 3, []), (37, .getfield 49, 3, []), (40, .iload_n 1, 1, [1]), (41, .iaload, 1, []), (42, .aload_n 0, 1, [0]), (43, .getfield 18, 3, []), (46, .getfield 61, 3, []), (49, .iload_n 1, 1, [1]), (50, .iaload, 1, []), (51, .invokevirtual 98, 3, []), (54, .lstore_n 3, 1, [3]), (55, .lload_n 3, 1, [3]), (56, .ldc2_w 102, 3, []), (59, .lcmp, 1, []), (60, .ifCond .ne 9, 3, [69]), (63, .ldc2_w 96, 3, []), (66, .goto 4, 3, [70]), (69, .lload_n 3, 1, [3]), (70, .lreturn, 1, [])]
set_option maxRecDepth 100000 in
theorem v_X5_greatestRate : p_X5_greatestRate.all (dm_vb cX5_greatestRate) = true := by decide +kernel
def k_X5_greatestRate : dm_Sp := fun a => match a with
  | 0 => sp_X1_roomOf
  | 1 => sp_X5_distanceWithout
  | _ => fun _ _ _ => False
def x_X5_greatestRate : dm_X := dm_mk [(18, 5, 0), (22, 5, 1), (49, 2, 1), (61, 2, 2), (90, 1, 1)] [] [(96, -1000000002), (102, 1152921504606846976)] [(93, 0, 1, 1), (98, 1, 3, 5)] 2
set_option maxRecDepth 100000 in
set_option maxHeartbeats 400000 in
theorem u_X5_greatestRate : dm_Pure shC x_X5_greatestRate k_X5_greatestRate p_X5_greatestRate 5 sp_X5_greatestRate := by
  intro As u Qp h
  unfold sp_X5_greatestRate at h
  split at h
  · refine ⟨Nat.le_of_ble_eq_true rfl, fun G Wp hW0 hW1 hG => ?_⟩
    apply hG (fun _ => false) 42
    simp (config := { maxSteps := 2000000 }) [hW0, hW1, dm_fn, dm_fd, dm_x, dm_L0, dm_la, dm_t1, dm_sw, List.headD, dm_ic, dm_mk, dm_s1, dm_s2, dm_clr, dm_cs, dm_cc, dm_nb0, dm_nb1, Value.category, List.lookup, p_X5_greatestRate, x_X5_greatestRate, k_X5_greatestRate, dm_cm, upd, vp_updL, dm_ui_1, dm_ui_2, dm_ul_1, dm_ul_2, sp_X1_roomOf, sp_X5_distanceWithout, sC_0, sC_1, sC_2, sC_3, sC_4, sC_5, sC_6, sC_7, sC_8, sC_9, sC_10, sC_11, sC_12, sC_13, sC_14, sC_15, sC_16, sC_17, sC_18, sC_19, sC_20, sC_21, sC_22, sC_23, sC_24, sC_25, sC_26, sC_27, sC_28, sC_29, sC_30, sC_31, sC_32, sC_33, sC_34, sC_35, sC_36, sC_37, sC_38, sC_39, sC_40, sC_41, sC_42, sC_43, sC_44, sC_45, sC_46, sC_47, sC_48, sC_49, sC_50, sC_51]
    obtain ⟨N, M, fr, tr, pt, C, nb, bg, en, a, p, ⟨⟨hN, hM, eN, eM⟩, ho⟩, hw, ⟨ha, rfl⟩, ⟨hp, e5⟩, h1, h2⟩ := h
    have c1 : (nI a).toNatClampNeg = a := nI_clamp (by omega)
    have f1 := (ho a ha).1
    have f2 := (ho a ha).2.1
    refine ⟨vp_in_nI (by omega) (by omega), 2 * p + 1, by omega, by rw [c1, e5, show (2 : Int32) = nI 2 from rfl, pk_mul, nI_1], fun z => ⟨vp_in_nI (by omega) (by omega), N, ⟨hN, eN⟩, C, nb, bg, en, hw, fr a, ⟨by omega, by rw [c1]; exact f1.1⟩, tr a, ⟨by omega, by rw [c1]; exact f2.1⟩, ?_⟩, h1⟩
    have h3 := h2 z
    rw [c1, e5]
    refine ⟨fun y => ?_, fun y => ?_⟩
    · rw [if_neg y] at h3; exact h3
    · rw [if_pos y] at h3; exact h3
  · exact h.elim
set_option maxRecDepth 100000 in
theorem t_X5_greatestRate (l : Launch) (D : va_G) (cA : Nat → ClassId) (ad : Nat → Nat) : dm_Met l D dm_cl cA ad shC yX5_greatestRate (Cond.code yX5_greatestRate cX5_greatestRate 5 (dm_rt 2) :: dm_tt) ({ frames := 3, cells := 0, slots := 0, locals := 72 } : Room) sp_X5_greatestRate := dm_meth (own := RX5) (X := x_X5_greatestRate) (Sp := k_X5_greatestRate) (prog := p_X5_greatestRate) (by decide +kernel) rfl rfl (dm_FO_s ffX5 [(18, 5, 0), (22, 5, 1), (49, 2, 1), (61, 2, 2), (90, 1, 1)] rfl dm_hT (by decide +kernel)) (dm_IO_s ifX5 jfX5 [] [(96, -1000000002), (102, 1152921504606846976)] rfl rfl dm_hT (by decide +kernel) (by decide +kernel)) soC (dm_MO_of (List.forall_mem_cons.mpr ⟨dm_M1_of (t_X1_roomOf l D cA ad) dm_hT (dm_mem [618, 68, 865] (by decide +kernel) (by decide +kernel)) (by decide) (by decide +kernel) (Or.inr ⟨by decide, dm_mem [616, 617] (by decide +kernel) (by decide +kernel), rfl⟩), List.forall_mem_cons.mpr ⟨dm_M1_of (t_X5_distanceWithout l D cA ad) dm_hT (dm_mem [870, 71, 867] (by decide +kernel) (by decide +kernel)) (by decide) (by decide +kernel) (Or.inr ⟨by decide, dm_mem [869, 36] (by decide +kernel) (by decide +kernel), rfl⟩), fun _ h => absurd h List.not_mem_nil⟩⟩)) v_X5_greatestRate u_X5_greatestRate
end
section
/-! ===== the proof by PRICES; the cost ===== -/
def sp_X5_areProof (As : List Value) (u : dm_S) (Q : Option Value → dm_S → Prop) : Prop := match As with
  | [.ref 5] => ∃ (N M : Nat) (fr tr pt : Nat → Nat) (C : Nat) (nb bg en : Nat → Nat), cn_ok u N M fr tr pt ∧ cn_ln u M pt ∧ wg_ok u C nb bg en ∧ ((∃ j, j < C ∧ u.2 36 (bg j) + u.2 31 j < u.2 36 (en j)) → Q (some (.int 0)) u) ∧ ((∀ j, j < C → u.2 36 (en j) ≤ u.2 36 (bg j) + u.2 31 j) → ((∀ j, j < N → cn_ex u N fr tr pt M j = 0) → Q (some (.int 1)) (dm_sj u 25 (cn_ex u N fr tr pt M))) ∧ ((∃ j, j < N ∧ ¬ cn_ex u N fr tr pt M j = 0) → Q (some (.int 0)) (dm_sj u 25 (cn_ex u N fr tr pt M))))
  | _ => False
def p_X5_areProof : List dm_I := [(0, .iconst 0, 1, []), (1, .istore_n 1, 1, [1]), (2, .iload_n 1, 1, [1]), (3, .aload_n 0, 1, [0]), (4, .getfield 26, 3, []), (7, .getfield 68, 3, []), (10, .if_icmp .ge 53, 3, [63]), (13, .aload_n 0, 1, [0]), (14, .getfield 9, 3, []), (17, .aload_n 0, 1, [0]), (18, .getfield 26, 3, []), (21, .getfield 73, 3, []), (24, .iload_n 1, 1, [1]), (25, .iaload, 1, []), (26, .laload, 1, []), (27, .aload_n 0, 1, [0]), (28, .getfield 9, 3, []), (31, .aload_n 0, 1, [0]), (32, .getfield 26, 3, []), (35, .getfield 76, 3, []), (38, .iload_n 1, 1, [1]), (39, .iaload, 1, []), (40, .laload, 1, []), (41, .aload_n 0, 1, [0]), (42, .getfield 26, 3, []), (45, .getfield 79, 3, []), (48, .iload_n 1, 1, [1]), (49, .laload, 1, []), (50, .ladd, 1, []), (51, .lcmp, 1, []), (52, .ifCond .le 5, 3, [57]), (55, .iconst 0, 1, []), (56, .ireturn, 1, []), (57, .iinc 1 1, 3, []), (60, .goto (-58), 3, [2]), (63, .aload_n 0, 1, [0]), (64, .getfield 22, 3, []), (67, .invokevirtual 82, 3, []), (70, .aload_n 0, 1, [0]), (71, .getfield 22, 3, []), (74, .invokevirtual 87, 3, []), (77, .ireturn, 1, [])]
set_option maxRecDepth 100000 in
theorem v_X5_areProof : p_X5_areProof.all (dm_vb cX5_areProof) = true := by decide +kernel
def k_X5_areProof : dm_Sp := fun a => match a with
  | 0 => sp_X1_weigh
  | 1 => sp_X1_isBalanced
  | _ => fun _ _ _ => False
def x_X5_areProof : dm_X := dm_mk [(9, 5, 3), (22, 5, 1), (26, 5, 2), (68, 9, 6), (73, 9, 4), (76, 9, 3), (79, 9, 5)] [] [] [(82, 0, 0, 1), (87, 1, 0, 1)] 3
set_option maxRecDepth 100000 in
set_option maxHeartbeats 400000 in
theorem u_X5_areProof : dm_Pure shC x_X5_areProof k_X5_areProof p_X5_areProof 2 sp_X5_areProof := by
  intro As u Qp h
  unfold sp_X5_areProof at h
  split at h
  · obtain ⟨N, M, fr, tr, pt, C, nb, bg, en, hok, hln, ⟨eC, hC, ho⟩, h1, h2⟩ := h
    refine ⟨Nat.le_of_ble_eq_true rfl, fun G Wp hW0 hW1 hG => ?_⟩
    have loop : ∀ k j : Nat, j + k = C → (∀ i, i < j → u.2 36 (en i) ≤ u.2 36 (bg i) + u.2 31 i) → G 2 [some (.ref 5), some (.int (nI j))] [] u := by
      intro k
      induction k with
      | zero =>
        intro j hj hz
        apply hG (fun pc => pc == 2) 50
        simp (config := { maxSteps := 2000000 }) [hW0, hW1, dm_fn, dm_fd, dm_x, dm_L0, dm_la, dm_t1, dm_sw, List.headD, dm_ic, dm_mk, dm_s1, dm_s2, dm_clr, dm_cs, dm_cc, dm_nb0, dm_nb1, Value.category, List.lookup, p_X5_areProof, x_X5_areProof, k_X5_areProof, dm_cm, upd, vp_updL, dm_ui_1, dm_ui_2, dm_ul_1, dm_ul_2, sp_X1_weigh, sp_X1_isBalanced, sC_0, sC_1, sC_2, sC_3, sC_4, sC_5, sC_6, sC_7, sC_8, sC_9, sC_10, sC_11, sC_12, sC_13, sC_14, sC_15, sC_16, sC_17, sC_18, sC_19, sC_20, sC_21, sC_22, sC_23, sC_24, sC_25, sC_26, sC_27, sC_28, sC_29, sC_30, sC_31, sC_32, sC_33, sC_34, sC_35, sC_36, sC_37, sC_38, sC_39, sC_40, sC_41, sC_42, sC_43, sC_44, sC_45, sC_46, sC_47, sC_48, sC_49, sC_50, sC_51]
        have e : j = C := by omega
        subst e
        rw [eC]
        refine ⟨fun _ => ⟨N, M, fr, tr, pt, hok, hln, N, hok.1.1, hok.1.2.2.1, ?_, ?_⟩, fun q => absurd q (nI_nlt (Nat.le_refl _) (by omega))⟩
        · intro z; exact (h2 hz).1 z
        · intro z1 z2 z3; exact (h2 hz).2 ⟨z1, z2, z3⟩
      | succ k ih =>
        intro j hj hz
        obtain ⟨⟨e1, l1⟩, ⟨e2, l2⟩, ⟨e3, l3⟩⟩ := ho j (by omega)
        have c1 : (nI j).toNatClampNeg = j := nI_clamp (by omega)
        have c2 : (nI (bg j)).toNatClampNeg = bg j := nI_clamp (by omega)
        have c3 : (nI (en j)).toNatClampNeg = en j := nI_clamp (by omega)
        have i1 : vp_in (nI j) 160 := vp_in_nI (by omega) (by omega)
        apply hG (fun pc => pc == 2) 50
        simp (config := { maxSteps := 2000000 }) [hW0, hW1, dm_fn, dm_fd, dm_x, dm_L0, dm_la, dm_t1, dm_sw, List.headD, dm_ic, dm_mk, dm_s1, dm_s2, dm_clr, dm_cs, dm_cc, dm_nb0, dm_nb1, Value.category, List.lookup, p_X5_areProof, x_X5_areProof, k_X5_areProof, dm_cm, upd, vp_updL, dm_ui_1, dm_ui_2, dm_ul_1, dm_ul_2, sp_X1_weigh, sp_X1_isBalanced, sC_0, sC_1, sC_2, sC_3, sC_4, sC_5, sC_6, sC_7, sC_8, sC_9, sC_10, sC_11, sC_12, sC_13, sC_14, sC_15, sC_16, sC_17, sC_18, sC_19, sC_20, sC_21, sC_22, sC_23, sC_24, sC_25, sC_26, sC_27, sC_28, sC_29, sC_30, sC_31, sC_32, sC_33, sC_34, sC_35, sC_36, sC_37, sC_38, sC_39, sC_40, sC_41, sC_42, sC_43, sC_44, sC_45, sC_46, sC_47, sC_48, sC_49, sC_50, sC_51]
        simp only [eC, c1, e2, e3, c2, c3, nI_1]
        refine ⟨fun q => absurd q (nI_ge (by omega) (by omega)), fun q => ⟨i1, vp_in_nI (by omega) (by omega), i1, vp_in_nI (by omega) (by omega), i1, fun z => ih (j + 1) (by omega) (fun i hi => ?_), fun z => h1 ⟨j, by omega, z⟩⟩⟩
        rcases Nat.lt_or_ge i j with y | y
        · exact hz i y
        · rw [show i = j by omega]; exact z
    apply hG (fun pc => pc == 2) 50
    simp (config := { maxSteps := 2000000 }) [hW0, hW1, dm_fn, dm_fd, dm_x, dm_L0, dm_la, dm_t1, dm_sw, List.headD, dm_ic, dm_mk, dm_s1, dm_s2, dm_clr, dm_cs, dm_cc, dm_nb0, dm_nb1, Value.category, List.lookup, p_X5_areProof, x_X5_areProof, k_X5_areProof, dm_cm, upd, vp_updL, dm_ui_1, dm_ui_2, dm_ul_1, dm_ul_2, sp_X1_weigh, sp_X1_isBalanced, sC_0, sC_1, sC_2, sC_3, sC_4, sC_5, sC_6, sC_7, sC_8, sC_9, sC_10, sC_11, sC_12, sC_13, sC_14, sC_15, sC_16, sC_17, sC_18, sC_19, sC_20, sC_21, sC_22, sC_23, sC_24, sC_25, sC_26, sC_27, sC_28, sC_29, sC_30, sC_31, sC_32, sC_33, sC_34, sC_35, sC_36, sC_37, sC_38, sC_39, sC_40, sC_41, sC_42, sC_43, sC_44, sC_45, sC_46, sC_47, sC_48, sC_49, sC_50, sC_51]
    exact loop C 0 (by omega) (fun i hi => by omega)
  · exact h.elim
set_option maxRecDepth 100000 in
theorem t_X5_areProof (l : Launch) (D : va_G) (cA : Nat → ClassId) (ad : Nat → Nat) : dm_Met l D dm_cl cA ad shC yX5_areProof (Cond.code yX5_areProof cX5_areProof 2 (dm_rt 3) :: dm_tt) ({ frames := 3, cells := 0, slots := 0, locals := 68 } : Room) sp_X5_areProof := dm_meth (own := RX5) (X := x_X5_areProof) (Sp := k_X5_areProof) (prog := p_X5_areProof) (by decide +kernel) rfl rfl (dm_FO_s ffX5 [(9, 5, 3), (22, 5, 1), (26, 5, 2), (68, 9, 6), (73, 9, 4), (76, 9, 3), (79, 9, 5)] rfl dm_hT (by decide +kernel)) (dm_IO_s ifX5 jfX5 [] [] rfl rfl dm_hT (by decide +kernel) (by decide +kernel)) soC (dm_MO_of (List.forall_mem_cons.mpr ⟨dm_M1_of (t_X1_weigh l D cA ad) dm_hT (dm_mem [580, 68, 846] (by decide +kernel) (by decide +kernel)) (by decide) (by decide +kernel) (Or.inr ⟨by decide, dm_mem [578, 579] (by decide +kernel) (by decide +kernel), rfl⟩), List.forall_mem_cons.mpr ⟨dm_M1_of (t_X1_isBalanced l D cA ad) dm_hT (dm_mem [634, 68, 847] (by decide +kernel) (by decide +kernel)) (by decide) (by decide +kernel) (Or.inr ⟨by decide, dm_mem [632, 633] (by decide +kernel) (by decide +kernel), rfl⟩), fun _ h => absurd h List.not_mem_nil⟩⟩)) v_X5_areProof u_X5_areProof
/-- the sum of costs: LOWS at the first lane's rate, then the lanes -/
def cn_c1 (u : dm_S) (pt : Nat → Nat) : Nat → Int64
  | 0 => 0
  | a + 1 => cn_c1 u pt a + u.2 17 (4 * a) * u.2 23 (cn_fs pt a)
def cn_c2 (u : dm_S) (s : Int64) : Nat → Int64
  | 0 => s
  | l + 1 => cn_c2 u s l + u.2 24 l * u.2 23 l
def sp_X1_sumOfCosts (As : List Value) (u : dm_S) (Q : Option Value → dm_S → Prop) : Prop := match As with
  | [.ref 2] => ∃ (N M : Nat) (fr tr pt : Nat → Nat), cn_ok u N M fr tr pt ∧ cn_ln u M pt ∧ u.1 2 10 = nI (cn_fs pt M) ∧ Q (some (.long (cn_c2 u (cn_c1 u pt M) (cn_fs pt M)))) u
  | _ => False
def p_X1_sumOfCosts : List dm_I := [(0, .lconst 0, 1, []), (1, .lstore_n 1, 1, [1]), (2, .iconst 0, 1, []), (3, .istore_n 3, 1, [3]), (4, .iload_n 3, 1, [3]), (5, .aload_n 0, 1, [0]), (6, .getfield 40, 3, []), (9, .getfield 48, 3, []), (12, .if_icmp .ge 32, 3, [44]), (15, .lload_n 1, 1, [1]), (16, .aload_n 0, 1, [0]), (17, .getfield 40, 3, []), (20, .iload_n 3, 1, [3]), (21, .invokevirtual 105, 3, []), (24, .aload_n 0, 1, [0]), (25, .getfield 25, 3, []), (28, .aload_n 0, 1, [0]), (29, .getfield 9, 3, []), (32, .iload_n 3, 1, [3]), (33, .iaload, 1, []), (34, .laload, 1, []), (35, .lmul, 1, []), (36, .ladd, 1, []), (37, .lstore_n 1, 1, [1]), (38, .iinc 3 1, 3, []), (41, .goto (-37), 3, [4]), (44, .iconst 0, 1, []), (45, .istore_n 3, 1, [3]), (46, .iload_n 3, 1, [3]), (47, .aload_n 0, 1, [0]), (48, .getfield 44, 3, []), (51, .if_icmp .ge 25, 3, [76]), (54, .lload_n 1, 1, [1]), (55, .aload_n 0, 1, [0]), (56, .getfield 28, 3, []), (59, .iload_n 3, 1, [3]), (60, .laload, 1, []), (61, .aload_n 0, 1, [0]), (62, .getfield 25, 3, []), (65, .iload_n 3, 1, [3]), (66, .laload, 1, []), (67, .lmul, 1, []), (68, .ladd, 1, []), (69, .lstore_n 1, 1, [1]), (70, .iinc 3 1, 3, []), (73, .goto (-27), 3, [46]), (76, .lload_n 1, 1, [1]), (77, .lreturn, 1, [])]
set_option maxRecDepth 100000 in
theorem v_X1_sumOfCosts : p_X1_sumOfCosts.all (dm_vb cX1_sumOfCosts) = true := by decide +kernel
def k_X1_sumOfCosts : dm_Sp := fun a => match a with
  | 0 => sp_X2_lowOf
  | _ => fun _ _ _ => False
def x_X1_sumOfCosts : dm_X := dm_mk [(9, 1, 1), (25, 1, 5), (28, 1, 6), (40, 1, 0), (44, 1, 10), (48, 2, 9)] [] [] [(105, 0, 1, 2)] 2
set_option maxRecDepth 100000 in
set_option maxHeartbeats 400000 in
theorem u_X1_sumOfCosts : dm_Pure shC x_X1_sumOfCosts k_X1_sumOfCosts p_X1_sumOfCosts 4 sp_X1_sumOfCosts := by
  intro As u Qp h
  unfold sp_X1_sumOfCosts at h
  split at h
  · obtain ⟨N, M, fr, tr, pt, ⟨⟨hN, hM, eN, eM⟩, ho⟩, hln, eL, h⟩ := h
    refine ⟨Nat.le_of_ble_eq_true rfl, fun G Wp hW0 hW1 hG => ?_⟩
    have hf := cn_fs_le (pt := pt) (M := M) (fun a ha => (ho a ha).2.2.2.2)
    have hL := hf M (Nat.le_refl _)
    have loop2 : ∀ k l : Nat, l + k = cn_fs pt M → G 46 [some (.ref 2), some (.long (cn_c2 u (cn_c1 u pt M) l)), none, some (.int (nI l))] [] u := by
      intro k
      induction k with
      | zero =>
        intro l hl
        apply hG (fun pc => pc == 46) 40
        simp (config := { maxSteps := 2000000 }) [hW0, hW1, dm_fn, dm_fd, dm_x, dm_L0, dm_la, dm_t1, dm_sw, List.headD, dm_ic, dm_mk, dm_s1, dm_s2, dm_clr, dm_cs, dm_cc, dm_nb0, dm_nb1, Value.category, List.lookup, p_X1_sumOfCosts, x_X1_sumOfCosts, k_X1_sumOfCosts, dm_cm, upd, vp_updL, dm_ui_1, dm_ui_2, dm_ul_1, dm_ul_2, sp_X2_lowOf, sC_0, sC_1, sC_2, sC_3, sC_4, sC_5, sC_6, sC_7, sC_8, sC_9, sC_10, sC_11, sC_12, sC_13, sC_14, sC_15, sC_16, sC_17, sC_18, sC_19, sC_20, sC_21, sC_22, sC_23, sC_24, sC_25, sC_26, sC_27, sC_28, sC_29, sC_30, sC_31, sC_32, sC_33, sC_34, sC_35, sC_36, sC_37, sC_38, sC_39, sC_40, sC_41, sC_42, sC_43, sC_44, sC_45, sC_46, sC_47, sC_48, sC_49, sC_50, sC_51]
        have e : l = cn_fs pt M := by omega
        subst e
        rw [eL]
        exact ⟨fun _ => h, fun q => absurd q (nI_nlt (Nat.le_refl _) (by omega))⟩
      | succ k ih =>
        intro l hl
        have e := ih (l + 1) (by omega)
        apply hG (fun pc => pc == 46) 40
        simp (config := { maxSteps := 2000000 }) [hW0, hW1, dm_fn, dm_fd, dm_x, dm_L0, dm_la, dm_t1, dm_sw, List.headD, dm_ic, dm_mk, dm_s1, dm_s2, dm_clr, dm_cs, dm_cc, dm_nb0, dm_nb1, Value.category, List.lookup, p_X1_sumOfCosts, x_X1_sumOfCosts, k_X1_sumOfCosts, dm_cm, upd, vp_updL, dm_ui_1, dm_ui_2, dm_ul_1, dm_ul_2, sp_X2_lowOf, sC_0, sC_1, sC_2, sC_3, sC_4, sC_5, sC_6, sC_7, sC_8, sC_9, sC_10, sC_11, sC_12, sC_13, sC_14, sC_15, sC_16, sC_17, sC_18, sC_19, sC_20, sC_21, sC_22, sC_23, sC_24, sC_25, sC_26, sC_27, sC_28, sC_29, sC_30, sC_31, sC_32, sC_33, sC_34, sC_35, sC_36, sC_37, sC_38, sC_39, sC_40, sC_41, sC_42, sC_43, sC_44, sC_45, sC_46, sC_47, sC_48, sC_49, sC_50, sC_51]
        rw [eL, nI_clamp (by omega), nI_1]
        exact ⟨fun q => absurd q (nI_ge (by omega) (by omega)), fun q => ⟨vp_in_nI (by omega) (by omega), e⟩⟩
    have loop1 : ∀ k a : Nat, a + k = M → G 4 [some (.ref 2), some (.long (cn_c1 u pt a)), none, some (.int (nI a))] [] u := by
      intro k
      induction k with
      | zero =>
        intro a ha
        apply hG (fun pc => pc == 4 || pc == 46) 40
        simp (config := { maxSteps := 2000000 }) [hW0, hW1, dm_fn, dm_fd, dm_x, dm_L0, dm_la, dm_t1, dm_sw, List.headD, dm_ic, dm_mk, dm_s1, dm_s2, dm_clr, dm_cs, dm_cc, dm_nb0, dm_nb1, Value.category, List.lookup, p_X1_sumOfCosts, x_X1_sumOfCosts, k_X1_sumOfCosts, dm_cm, upd, vp_updL, dm_ui_1, dm_ui_2, dm_ul_1, dm_ul_2, sp_X2_lowOf, sC_0, sC_1, sC_2, sC_3, sC_4, sC_5, sC_6, sC_7, sC_8, sC_9, sC_10, sC_11, sC_12, sC_13, sC_14, sC_15, sC_16, sC_17, sC_18, sC_19, sC_20, sC_21, sC_22, sC_23, sC_24, sC_25, sC_26, sC_27, sC_28, sC_29, sC_30, sC_31, sC_32, sC_33, sC_34, sC_35, sC_36, sC_37, sC_38, sC_39, sC_40, sC_41, sC_42, sC_43, sC_44, sC_45, sC_46, sC_47, sC_48, sC_49, sC_50, sC_51]
        have e : a = M := by omega
        subst e
        rw [eM]
        exact ⟨fun _ => loop2 (cn_fs pt a) 0 (by omega), fun q => absurd q (nI_nlt (Nat.le_refl _) (by omega))⟩
      | succ k ih =>
        intro a ha
        have e := ih (a + 1) (by omega)
        have h9 := hf a (by omega)
        have c1 : (nI a).toNatClampNeg = a := nI_clamp (by omega)
        have c4 : (nI (4 * a)).toNatClampNeg = 4 * a := nI_clamp (by omega)
        have c5 : (nI (cn_fs pt a)).toNatClampNeg = cn_fs pt a := nI_clamp (by omega)
        apply hG (fun pc => pc == 4 || pc == 46) 40
        simp (config := { maxSteps := 2000000 }) [hW0, hW1, dm_fn, dm_fd, dm_x, dm_L0, dm_la, dm_t1, dm_sw, List.headD, dm_ic, dm_mk, dm_s1, dm_s2, dm_clr, dm_cs, dm_cc, dm_nb0, dm_nb1, Value.category, List.lookup, p_X1_sumOfCosts, x_X1_sumOfCosts, k_X1_sumOfCosts, dm_cm, upd, vp_updL, dm_ui_1, dm_ui_2, dm_ul_1, dm_ul_2, sp_X2_lowOf, sC_0, sC_1, sC_2, sC_3, sC_4, sC_5, sC_6, sC_7, sC_8, sC_9, sC_10, sC_11, sC_12, sC_13, sC_14, sC_15, sC_16, sC_17, sC_18, sC_19, sC_20, sC_21, sC_22, sC_23, sC_24, sC_25, sC_26, sC_27, sC_28, sC_29, sC_30, sC_31, sC_32, sC_33, sC_34, sC_35, sC_36, sC_37, sC_38, sC_39, sC_40, sC_41, sC_42, sC_43, sC_44, sC_45, sC_46, sC_47, sC_48, sC_49, sC_50, sC_51]
        rw [eM, dm_l4 (by omega), c4, c1, hln a (by omega), c5, nI_1]
        exact ⟨fun q => absurd q (nI_ge (by omega) (by omega)), fun q => ⟨vp_in_nI (by omega) (by omega), vp_in_nI (by omega) (by omega), vp_in_nI (by omega) (by omega), e⟩⟩
    apply hG (fun pc => pc == 4 || pc == 46) 40
    simp (config := { maxSteps := 2000000 }) [hW0, hW1, dm_fn, dm_fd, dm_x, dm_L0, dm_la, dm_t1, dm_sw, List.headD, dm_ic, dm_mk, dm_s1, dm_s2, dm_clr, dm_cs, dm_cc, dm_nb0, dm_nb1, Value.category, List.lookup, p_X1_sumOfCosts, x_X1_sumOfCosts, k_X1_sumOfCosts, dm_cm, upd, vp_updL, dm_ui_1, dm_ui_2, dm_ul_1, dm_ul_2, sp_X2_lowOf, sC_0, sC_1, sC_2, sC_3, sC_4, sC_5, sC_6, sC_7, sC_8, sC_9, sC_10, sC_11, sC_12, sC_13, sC_14, sC_15, sC_16, sC_17, sC_18, sC_19, sC_20, sC_21, sC_22, sC_23, sC_24, sC_25, sC_26, sC_27, sC_28, sC_29, sC_30, sC_31, sC_32, sC_33, sC_34, sC_35, sC_36, sC_37, sC_38, sC_39, sC_40, sC_41, sC_42, sC_43, sC_44, sC_45, sC_46, sC_47, sC_48, sC_49, sC_50, sC_51]
    exact loop1 M 0 (by omega)
  · exact h.elim
set_option maxRecDepth 100000 in
theorem t_X1_sumOfCosts (l : Launch) (D : va_G) (cA : Nat → ClassId) (ad : Nat → Nat) : dm_Met l D dm_cl cA ad shC yX1_sumOfCosts (Cond.code yX1_sumOfCosts cX1_sumOfCosts 4 (dm_rt 2) :: dm_tt) ({ frames := 1, cells := 0, slots := 0, locals := 21 } : Room) sp_X1_sumOfCosts := dm_meth (own := RX1) (X := x_X1_sumOfCosts) (Sp := k_X1_sumOfCosts) (prog := p_X1_sumOfCosts) (by decide +kernel) rfl rfl (dm_FO_s ffX1 [(9, 1, 1), (25, 1, 5), (28, 1, 6), (40, 1, 0), (44, 1, 10), (48, 2, 9)] rfl dm_hT (by decide +kernel)) (dm_IO_s ifX1 jfX1 [] [] rfl rfl dm_hT (by decide +kernel) (by decide +kernel)) soC (dm_MO_of (List.forall_mem_cons.mpr ⟨dm_M1_of (t_X2_lowOf l D cA ad) dm_hT (dm_mem [588, 67, 585] (by decide +kernel) (by decide +kernel)) (by decide) (by decide +kernel) (Or.inr ⟨by decide, dm_mem [586, 587] (by decide +kernel) (by decide +kernel), rfl⟩), fun _ h => absurd h List.not_mem_nil⟩)) v_X1_sumOfCosts u_X1_sumOfCosts
end
section
/-! ===== the class's calls that ask ===== -/
def sp_X3_begin (As : List Value) (u : dm_S) (Q : Option Value → dm_S → Prop) : Prop := match As with
  | [.ref 10, .int n] => Q none (dm_fj (dm_ui (dm_ui u 10 3 n) 10 4 0) 49 64 1152921504606846976)
  | _ => False
def p_X3_begin : List dm_I := [(0, .aload_n 0, 1, [0]), (1, .iload_n 1, 1, [1]), (2, .putfield 22, 3, []), (5, .aload_n 0, 1, [0]), (6, .iconst 0, 1, []), (7, .putfield 26, 3, []), (10, .aload_n 0, 1, [0]), (11, .getfield 9, 3, []), (14, .ldc2_w 30, 3, []), (17, .invokestatic 32, 3, []), (20, .return_, 1, [])]
set_option maxRecDepth 100000 in
theorem v_X3_begin : p_X3_begin.all (dm_vb cX3_begin) = true := by decide +kernel
def k_X3_begin : dm_Sp := fun a => match a with
  | 0 => sp_J7_fill_d0a16
  | _ => fun _ _ _ => False
def x_X3_begin : dm_X := dm_mk [(9, 3, 0), (22, 3, 3), (26, 3, 4)] [] [(30, 1152921504606846976)] [(32, 0, 2, 1000)] 0
set_option maxRecDepth 100000 in
set_option maxHeartbeats 400000 in
theorem u_X3_begin : dm_Pure shC x_X3_begin k_X3_begin p_X3_begin 2 sp_X3_begin := by
  intro As u Qp h
  unfold sp_X3_begin at h
  split at h
  · refine ⟨Nat.le_of_ble_eq_true rfl, fun G Wp hW0 hW1 hG => ?_⟩
    apply hG (fun _ => false) 12
    simp (config := { maxSteps := 2000000 }) [hW0, hW1, dm_fn, dm_fd, dm_x, dm_L0, dm_la, dm_t1, dm_sw, List.headD, dm_ic, dm_mk, dm_s1, dm_s2, dm_clr, dm_cs, dm_cc, dm_nb0, dm_nb1, Value.category, List.lookup, p_X3_begin, x_X3_begin, k_X3_begin, dm_cm, upd, vp_updL, dm_ui_1, dm_ui_2, dm_ul_1, dm_ul_2, sp_J7_fill_d0a16, sC_0, sC_1, sC_2, sC_3, sC_4, sC_5, sC_6, sC_7, sC_8, sC_9, sC_10, sC_11, sC_12, sC_13, sC_14, sC_15, sC_16, sC_17, sC_18, sC_19, sC_20, sC_21, sC_22, sC_23, sC_24, sC_25, sC_26, sC_27, sC_28, sC_29, sC_30, sC_31, sC_32, sC_33, sC_34, sC_35, sC_36, sC_37, sC_38, sC_39, sC_40, sC_41, sC_42, sC_43, sC_44, sC_45, sC_46, sC_47, sC_48, sC_49, sC_50, sC_51]
    exact ⟨64, by omega, rfl, h⟩
  · exact h.elim
set_option maxRecDepth 100000 in
theorem t_X3_begin (l : Launch) (D : va_G) (cA : Nat → ClassId) (ad : Nat → Nat) : dm_Met l D dm_cl cA ad shC yX3_begin (Cond.code yX3_begin cX3_begin 2 (dm_rt 0) :: dm_tt) ({ frames := 1, cells := 0, slots := 0, locals := 24 } : Room) sp_X3_begin := dm_meth (own := RX3) (X := x_X3_begin) (Sp := k_X3_begin) (prog := p_X3_begin) (by decide +kernel) rfl rfl (dm_FO_s ffX3 [(9, 3, 0), (22, 3, 3), (26, 3, 4)] rfl dm_hT (by decide +kernel)) (dm_IO_s ifX3 jfX3 [] [(30, 1152921504606846976)] rfl rfl dm_hT (by decide +kernel) (by decide +kernel)) soC (dm_MO_of (List.forall_mem_cons.mpr ⟨dm_M1_of (t_J7_fill_d0a16 l D cA ad) dm_hT (dm_mem [576, 78, 889] (by decide +kernel) (by decide +kernel)) (by decide) (by decide +kernel) (Or.inl ⟨rfl, dm_mem (ws := [.static yJ7_fill_d0a16]) [575] (by decide +kernel) (by decide +kernel) _ List.mem_cons_self⟩), fun _ h => absurd h List.not_mem_nil⟩)) v_X3_begin u_X3_begin
def sp_X10_assign (As : List Value) (u : dm_S) (Q : Option Value → dm_S → Prop) : Prop := match As with
  | [.ref 0, .int n] => (1 ≤ n ∧ n ≤ 8 → Q (some (.int 1)) (dm_fj (dm_ui (dm_ui u 10 3 n) 10 4 0) 49 64 1152921504606846976)) ∧ (¬ (1 ≤ n ∧ n ≤ 8) → Q (some (.int 0)) u)
  | _ => False
def p_X10_assign : List dm_I := [(0, .iload_n 1, 1, [1]), (1, .iconst 1, 1, []), (2, .if_icmp .lt 9, 3, [11]), (5, .iload_n 1, 1, [1]), (6, .bipush 8, 2, []), (8, .if_icmp .le 5, 3, [13]), (11, .iconst 0, 1, []), (12, .ireturn, 1, []), (13, .aload_n 0, 1, [0]), (14, .getfield 87, 3, []), (17, .iload_n 1, 1, [1]), (18, .invokevirtual 189, 3, []), (21, .iconst 1, 1, []), (22, .ireturn, 1, [])]
set_option maxRecDepth 100000 in
theorem v_X10_assign : p_X10_assign.all (dm_vb cX10_assign) = true := by decide +kernel
def k_X10_assign : dm_Sp := fun a => match a with
  | 0 => sp_X3_begin
  | _ => fun _ _ _ => False
def x_X10_assign : dm_X := dm_mk [(87, 10, 9)] [] [] [(189, 0, 1, 3)] 3
set_option maxRecDepth 100000 in
set_option maxHeartbeats 400000 in
theorem u_X10_assign : dm_Pure shC x_X10_assign k_X10_assign p_X10_assign 2 sp_X10_assign := by
  intro As u Qp h
  unfold sp_X10_assign at h
  split at h
  · refine ⟨Nat.le_of_ble_eq_true rfl, fun G Wp hW0 hW1 hG => ?_⟩
    apply hG (fun _ => false) 15
    simp (config := { maxSteps := 2000000 }) [hW0, hW1, dm_fn, dm_fd, dm_x, dm_L0, dm_la, dm_t1, dm_sw, List.headD, dm_ic, dm_mk, dm_s1, dm_s2, dm_clr, dm_cs, dm_cc, dm_nb0, dm_nb1, Value.category, List.lookup, p_X10_assign, x_X10_assign, k_X10_assign, dm_cm, upd, vp_updL, dm_ui_1, dm_ui_2, dm_ul_1, dm_ul_2, sp_X3_begin, sC_0, sC_1, sC_2, sC_3, sC_4, sC_5, sC_6, sC_7, sC_8, sC_9, sC_10, sC_11, sC_12, sC_13, sC_14, sC_15, sC_16, sC_17, sC_18, sC_19, sC_20, sC_21, sC_22, sC_23, sC_24, sC_25, sC_26, sC_27, sC_28, sC_29, sC_30, sC_31, sC_32, sC_33, sC_34, sC_35, sC_36, sC_37, sC_38, sC_39, sC_40, sC_41, sC_42, sC_43, sC_44, sC_45, sC_46, sC_47, sC_48, sC_49, sC_50, sC_51]
    obtain ⟨h1, h2⟩ := h
    exact ⟨fun q => h2 (fun z => dm_i_le.mpr q z.1), fun q => ⟨fun q2 => h1 ⟨q, q2⟩, fun q2 => h2 (fun z => dm_i_le.mpr q2 z.2)⟩⟩
  · exact h.elim
set_option maxRecDepth 100000 in
theorem t_X10_assign (l : Launch) (D : va_G) (cA : Nat → ClassId) (ad : Nat → Nat) : dm_Met l D dm_cl cA ad shC yX10_assign (Cond.code yX10_assign cX10_assign 2 (dm_rt 3) :: dm_tt) ({ frames := 2, cells := 0, slots := 0, locals := 45 } : Room) sp_X10_assign := dm_meth (own := RX10) (X := x_X10_assign) (Sp := k_X10_assign) (prog := p_X10_assign) (by decide +kernel) rfl rfl (dm_FO_s ffX10 [(87, 10, 9)] rfl dm_hT (by decide +kernel)) (dm_IO_s ifX10 jfX10 [] [] rfl rfl dm_hT (by decide +kernel) (by decide +kernel)) soC (dm_MO_of (List.forall_mem_cons.mpr ⟨dm_M1_of (t_X3_begin l D cA ad) dm_hT (dm_mem [887, 76, 884] (by decide +kernel) (by decide +kernel)) (by decide) (by decide +kernel) (Or.inr ⟨by decide, dm_mem [885, 886] (by decide +kernel) (by decide +kernel), rfl⟩), fun _ h => absurd h List.not_mem_nil⟩)) v_X10_assign u_X10_assign
def sp_X10_clear (As : List Value) (u : dm_S) (Q : Option Value → dm_S → Prop) : Prop := match As with
  | [.ref 0] => Q none (dm_fj (dm_ui (dm_ui (dm_ui (dm_ui (dm_ui (dm_fg u) 1 8 0) 1 9 0) 1 10 0) 10 3 0) 10 4 0) 49 64 1152921504606846976)
  | _ => False
def p_X10_clear : List dm_I := [(0, .aload_n 0, 1, [0]), (1, .invokevirtual 102, 3, []), (4, .aload_n 0, 1, [0]), (5, .getfield 12, 3, []), (8, .invokevirtual 217, 3, []), (11, .aload_n 0, 1, [0]), (12, .getfield 87, 3, []), (15, .iconst 0, 1, []), (16, .invokevirtual 189, 3, []), (19, .return_, 1, [])]
set_option maxRecDepth 100000 in
theorem v_X10_clear : p_X10_clear.all (dm_vb cX10_clear) = true := by decide +kernel
def k_X10_clear : dm_Sp := fun a => match a with
  | 0 => sp_X10_forget
  | 1 => sp_X2_empty
  | 2 => sp_X3_begin
  | _ => fun _ _ _ => False
def x_X10_clear : dm_X := dm_mk [(12, 10, 0), (87, 10, 9)] [] [] [(102, 0, 0, 10), (217, 1, 0, 2), (189, 2, 1, 3)] 0
set_option maxRecDepth 100000 in
set_option maxHeartbeats 400000 in
theorem u_X10_clear : dm_Pure shC x_X10_clear k_X10_clear p_X10_clear 1 sp_X10_clear := by
  intro As u Qp h
  unfold sp_X10_clear at h
  split at h
  · refine ⟨Nat.le_of_ble_eq_true rfl, fun G Wp hW0 hW1 hG => ?_⟩
    apply hG (fun _ => false) 11
    simp (config := { maxSteps := 2000000 }) [hW0, hW1, dm_fn, dm_fd, dm_x, dm_L0, dm_la, dm_t1, dm_sw, List.headD, dm_ic, dm_mk, dm_s1, dm_s2, dm_clr, dm_cs, dm_cc, dm_nb0, dm_nb1, Value.category, List.lookup, p_X10_clear, x_X10_clear, k_X10_clear, dm_cm, upd, vp_updL, dm_ui_1, dm_ui_2, dm_ul_1, dm_ul_2, sp_X10_forget, sp_X2_empty, sp_X3_begin, sC_0, sC_1, sC_2, sC_3, sC_4, sC_5, sC_6, sC_7, sC_8, sC_9, sC_10, sC_11, sC_12, sC_13, sC_14, sC_15, sC_16, sC_17, sC_18, sC_19, sC_20, sC_21, sC_22, sC_23, sC_24, sC_25, sC_26, sC_27, sC_28, sC_29, sC_30, sC_31, sC_32, sC_33, sC_34, sC_35, sC_36, sC_37, sC_38, sC_39, sC_40, sC_41, sC_42, sC_43, sC_44, sC_45, sC_46, sC_47, sC_48, sC_49, sC_50, sC_51]
    exact h
  · exact h.elim
set_option maxRecDepth 100000 in
theorem t_X10_clear (l : Launch) (D : va_G) (cA : Nat → ClassId) (ad : Nat → Nat) : dm_Met l D dm_cl cA ad shC yX10_clear (Cond.code yX10_clear cX10_clear 1 (dm_rt 0) :: dm_tt) ({ frames := 2, cells := 0, slots := 0, locals := 45 } : Room) sp_X10_clear := dm_meth (own := RX10) (X := x_X10_clear) (Sp := k_X10_clear) (prog := p_X10_clear) (by decide +kernel) rfl rfl (dm_FO_s ffX10 [(12, 10, 0), (87, 10, 9)] rfl dm_hT (by decide +kernel)) (dm_IO_s ifX10 jfX10 [] [] rfl rfl dm_hT (by decide +kernel) (by decide +kernel)) soC (dm_MO_of (List.forall_mem_cons.mpr ⟨dm_M1_of (t_X10_forget l D cA ad) dm_hT (dm_mem [476, 66, 473] (by decide +kernel) (by decide +kernel)) (by decide) (by decide +kernel) (Or.inr ⟨by decide, dm_mem [475, 0] (by decide +kernel) (by decide +kernel), rfl⟩), List.forall_mem_cons.mpr ⟨dm_M1_of (t_X2_empty l D cA ad) dm_hT (dm_mem [945, 67, 942] (by decide +kernel) (by decide +kernel)) (by decide) (by decide +kernel) (Or.inr ⟨by decide, dm_mem [943, 944] (by decide +kernel) (by decide +kernel), rfl⟩), List.forall_mem_cons.mpr ⟨dm_M1_of (t_X3_begin l D cA ad) dm_hT (dm_mem [887, 76, 884] (by decide +kernel) (by decide +kernel)) (by decide) (by decide +kernel) (Or.inr ⟨by decide, dm_mem [885, 886] (by decide +kernel) (by decide +kernel), rfl⟩), fun _ h => absurd h List.not_mem_nil⟩⟩⟩)) v_X10_clear u_X10_clear
def sp_X10_cost (As : List Value) (u : dm_S) (Q : Option Value → dm_S → Prop) : Prop := match As with
  | [.ref 0] => (u.1 0 10 = 0 → ∃ (N M : Nat) (fr tr pt : Nat → Nat), cn_ok u N M fr tr pt ∧ cn_ln u M pt ∧ u.1 2 10 = nI (cn_fs pt M) ∧ Q (some (.long (cn_c2 u (cn_c1 u pt M) (cn_fs pt M)))) u) ∧ (¬ u.1 0 10 = 0 → Q (some (.long 0)) u)
  | _ => False
def p_X10_cost : List dm_I := [(0, .aload_n 0, 1, [0]), (1, .getfield 91, 3, []), (4, .ifCond .ne 13, 3, [17]), (7, .aload_n 0, 1, [0]), (8, .getfield 21, 3, []), (11, .invokevirtual 153, 3, []), (14, .goto 4, 3, [18]), (17, .lconst 0, 1, []), (18, .lreturn, 1, [])]
set_option maxRecDepth 100000 in
theorem v_X10_cost : p_X10_cost.all (dm_vb cX10_cost) = true := by decide +kernel
def k_X10_cost : dm_Sp := fun a => match a with
  | 0 => sp_X1_sumOfCosts
  | _ => fun _ _ _ => False
def x_X10_cost : dm_X := dm_mk [(21, 10, 1), (91, 10, 10)] [] [] [(153, 0, 0, 1)] 2
set_option maxRecDepth 100000 in
set_option maxHeartbeats 400000 in
theorem u_X10_cost : dm_Pure shC x_X10_cost k_X10_cost p_X10_cost 1 sp_X10_cost := by
  intro As u Qp h
  unfold sp_X10_cost at h
  split at h
  · refine ⟨Nat.le_of_ble_eq_true rfl, fun G Wp hW0 hW1 hG => ?_⟩
    apply hG (fun _ => false) 10
    simp (config := { maxSteps := 2000000 }) [hW0, hW1, dm_fn, dm_fd, dm_x, dm_L0, dm_la, dm_t1, dm_sw, List.headD, dm_ic, dm_mk, dm_s1, dm_s2, dm_clr, dm_cs, dm_cc, dm_nb0, dm_nb1, Value.category, List.lookup, p_X10_cost, x_X10_cost, k_X10_cost, dm_cm, upd, vp_updL, dm_ui_1, dm_ui_2, dm_ul_1, dm_ul_2, sp_X1_sumOfCosts, sC_0, sC_1, sC_2, sC_3, sC_4, sC_5, sC_6, sC_7, sC_8, sC_9, sC_10, sC_11, sC_12, sC_13, sC_14, sC_15, sC_16, sC_17, sC_18, sC_19, sC_20, sC_21, sC_22, sC_23, sC_24, sC_25, sC_26, sC_27, sC_28, sC_29, sC_30, sC_31, sC_32, sC_33, sC_34, sC_35, sC_36, sC_37, sC_38, sC_39, sC_40, sC_41, sC_42, sC_43, sC_44, sC_45, sC_46, sC_47, sC_48, sC_49, sC_50, sC_51]
    exact ⟨h.2, h.1⟩
  · exact h.elim
set_option maxRecDepth 100000 in
theorem t_X10_cost (l : Launch) (D : va_G) (cA : Nat → ClassId) (ad : Nat → Nat) : dm_Met l D dm_cl cA ad shC yX10_cost (Cond.code yX10_cost cX10_cost 1 (dm_rt 2) :: dm_tt) ({ frames := 2, cells := 0, slots := 0, locals := 44 } : Room) sp_X10_cost := dm_meth (own := RX10) (X := x_X10_cost) (Sp := k_X10_cost) (prog := p_X10_cost) (by decide +kernel) rfl rfl (dm_FO_s ffX10 [(21, 10, 1), (91, 10, 10)] rfl dm_hT (by decide +kernel)) (dm_IO_s ifX10 jfX10 [] [] rfl rfl dm_hT (by decide +kernel) (by decide +kernel)) soC (dm_MO_of (List.forall_mem_cons.mpr ⟨dm_M1_of (t_X1_sumOfCosts l D cA ad) dm_hT (dm_mem [827, 68, 824] (by decide +kernel) (by decide +kernel)) (by decide) (by decide +kernel) (Or.inr ⟨by decide, dm_mem [825, 826] (by decide +kernel) (by decide +kernel), rfl⟩), fun _ h => absurd h List.not_mem_nil⟩)) v_X10_cost u_X10_cost
def sp_X10_on (As : List Value) (u : dm_S) (Q : Option Value → dm_S → Prop) : Prop := match As with
  | [.ref 0, .int x] => (u.1 0 10 = 0 ∧ 0 ≤ x ∧ x < u.1 1 9 → ∃ (N M : Nat) (fr tr pt : Nat → Nat) (a : Nat), cn_ok u N M fr tr pt ∧ cn_ln u M pt ∧ a < M ∧ x = nI a ∧ Q (some (.long (cn_am u pt a))) u) ∧ (¬ (u.1 0 10 = 0 ∧ 0 ≤ x ∧ x < u.1 1 9) → Q (some (.long (-1))) u)
  | _ => False
def p_X10_on : List dm_I := [(0, .aload_n 0, 1, [0]), (1, .getfield 91, 3, []), (4, .ifCond .ne 25, 3, [29]), (7, .aload_n 0, 1, [0]), (8, .getfield 12, 3, []), (11, .iload_n 1, 1, [1]), (12, .invokevirtual 124, 3, []), (15, .ifCond .eq 14, 3, [29]), (18, .aload_n 0, 1, [0]), (19, .getfield 21, 3, []), (22, .iload_n 1, 1, [1]), (23, .invokevirtual 157, 3, []), (26, .goto 6, 3, [32]), (29, .ldc2_w 161, 3, []), (32, .lreturn, 1, [])]
set_option maxRecDepth 100000 in
theorem v_X10_on : p_X10_on.all (dm_vb cX10_on) = true := by decide +kernel
def k_X10_on : dm_Sp := fun a => match a with
  | 0 => sp_X2_hasArc
  | 1 => sp_X1_amountOn
  | _ => fun _ _ _ => False
def x_X10_on : dm_X := dm_mk [(12, 10, 0), (21, 10, 1), (91, 10, 10)] [] [(161, -1)] [(124, 0, 1, 2), (157, 1, 1, 1)] 2
set_option maxRecDepth 100000 in
set_option maxHeartbeats 400000 in
theorem u_X10_on : dm_Pure shC x_X10_on k_X10_on p_X10_on 2 sp_X10_on := by
  intro As u Qp h
  unfold sp_X10_on at h
  split at h
  · refine ⟨Nat.le_of_ble_eq_true rfl, fun G Wp hW0 hW1 hG => ?_⟩
    apply hG (fun _ => false) 16
    simp (config := { maxSteps := 2000000 }) [hW0, hW1, dm_fn, dm_fd, dm_x, dm_L0, dm_la, dm_t1, dm_sw, List.headD, dm_ic, dm_mk, dm_s1, dm_s2, dm_clr, dm_cs, dm_cc, dm_nb0, dm_nb1, Value.category, List.lookup, p_X10_on, x_X10_on, k_X10_on, dm_cm, upd, vp_updL, dm_ui_1, dm_ui_2, dm_ul_1, dm_ul_2, sp_X2_hasArc, sp_X1_amountOn, sC_0, sC_1, sC_2, sC_3, sC_4, sC_5, sC_6, sC_7, sC_8, sC_9, sC_10, sC_11, sC_12, sC_13, sC_14, sC_15, sC_16, sC_17, sC_18, sC_19, sC_20, sC_21, sC_22, sC_23, sC_24, sC_25, sC_26, sC_27, sC_28, sC_29, sC_30, sC_31, sC_32, sC_33, sC_34, sC_35, sC_36, sC_37, sC_38, sC_39, sC_40, sC_41, sC_42, sC_43, sC_44, sC_45, sC_46, sC_47, sC_48, sC_49, sC_50, sC_51]
    obtain ⟨h1, h2⟩ := h
    refine ⟨fun q => h2 (fun z => q z.1), fun q => ⟨fun q1 => h2 (fun z => dm_i_lt.mpr (q1 z.2.1) z.2.2), fun q1 q2 => ?_⟩⟩
    obtain ⟨N, M, fr, tr, pt, a, ⟨⟨hN, hM, eN, eM⟩, ho⟩, hln, ha, rfl, h⟩ := h1 ⟨q, q1, q2⟩
    have h9 : cn_fs pt a + pt a ≤ 4 * (a + 1) := cn_fs_le (pt := pt) (M := M) (fun a ha => (ho a ha).2.2.2.2) (a + 1) (by omega)
    exact ⟨a, by omega, rfl, cn_fs pt a, hln a (by omega), pt a, hln (a + 1) (by omega), by omega, h⟩
  · exact h.elim
set_option maxRecDepth 100000 in
theorem t_X10_on (l : Launch) (D : va_G) (cA : Nat → ClassId) (ad : Nat → Nat) : dm_Met l D dm_cl cA ad shC yX10_on (Cond.code yX10_on cX10_on 2 (dm_rt 2) :: dm_tt) ({ frames := 2, cells := 0, slots := 0, locals := 45 } : Room) sp_X10_on := dm_meth (own := RX10) (X := x_X10_on) (Sp := k_X10_on) (prog := p_X10_on) (by decide +kernel) rfl rfl (dm_FO_s ffX10 [(12, 10, 0), (21, 10, 1), (91, 10, 10)] rfl dm_hT (by decide +kernel)) (dm_IO_s ifX10 jfX10 [] [(161, -1)] rfl rfl dm_hT (by decide +kernel) (by decide +kernel)) soC (dm_MO_of (List.forall_mem_cons.mpr ⟨dm_M1_of (t_X2_hasArc l D cA ad) dm_hT (dm_mem [503, 67, 500] (by decide +kernel) (by decide +kernel)) (by decide) (by decide +kernel) (Or.inr ⟨by decide, dm_mem [501, 502] (by decide +kernel) (by decide +kernel), rfl⟩), List.forall_mem_cons.mpr ⟨dm_M1_of (t_X1_amountOn l D cA ad) dm_hT (dm_mem [584, 68, 832] (by decide +kernel) (by decide +kernel)) (by decide) (by decide +kernel) (Or.inr ⟨by decide, dm_mem [582, 583] (by decide +kernel) (by decide +kernel), rfl⟩), fun _ h => absurd h List.not_mem_nil⟩⟩)) v_X10_on u_X10_on
def sp_X10_potential (As : List Value) (u : dm_S) (Q : Option Value → dm_S → Prop) : Prop := match As with
  | [.ref 0, .int x] => (u.1 0 10 = 0 ∧ 0 ≤ x ∧ x < u.1 1 8 → vp_in x 24 ∧ Q (some (.long (u.2 36 x.toNatClampNeg))) u) ∧ (¬ (u.1 0 10 = 0 ∧ 0 ≤ x ∧ x < u.1 1 8) → Q (some (.long 1)) u)
  | _ => False
def p_X10_potential : List dm_I := [(0, .aload_n 0, 1, [0]), (1, .getfield 91, 3, []), (4, .ifCond .ne 26, 3, [30]), (7, .aload_n 0, 1, [0]), (8, .getfield 12, 3, []), (11, .iload_n 1, 1, [1]), (12, .invokevirtual 109, 3, []), (15, .ifCond .eq 15, 3, [30]), (18, .aload_n 0, 1, [0]), (19, .getfield 46, 3, []), (22, .getfield 52, 3, []), (25, .iload_n 1, 1, [1]), (26, .laload, 1, []), (27, .goto 4, 3, [31]), (30, .lconst 1, 1, []), (31, .lreturn, 1, [])]
set_option maxRecDepth 100000 in
theorem v_X10_potential : p_X10_potential.all (dm_vb cX10_potential) = true := by decide +kernel
def k_X10_potential : dm_Sp := fun a => match a with
  | 0 => sp_X2_hasNode
  | _ => fun _ _ _ => False
def x_X10_potential : dm_X := dm_mk [(12, 10, 0), (46, 10, 4), (52, 5, 3), (91, 10, 10)] [] [] [(109, 0, 1, 2)] 2
set_option maxRecDepth 100000 in
set_option maxHeartbeats 400000 in
theorem u_X10_potential : dm_Pure shC x_X10_potential k_X10_potential p_X10_potential 2 sp_X10_potential := by
  intro As u Qp h
  unfold sp_X10_potential at h
  split at h
  · refine ⟨Nat.le_of_ble_eq_true rfl, fun G Wp hW0 hW1 hG => ?_⟩
    apply hG (fun _ => false) 17
    simp (config := { maxSteps := 2000000 }) [hW0, hW1, dm_fn, dm_fd, dm_x, dm_L0, dm_la, dm_t1, dm_sw, List.headD, dm_ic, dm_mk, dm_s1, dm_s2, dm_clr, dm_cs, dm_cc, dm_nb0, dm_nb1, Value.category, List.lookup, p_X10_potential, x_X10_potential, k_X10_potential, dm_cm, upd, vp_updL, dm_ui_1, dm_ui_2, dm_ul_1, dm_ul_2, sp_X2_hasNode, sC_0, sC_1, sC_2, sC_3, sC_4, sC_5, sC_6, sC_7, sC_8, sC_9, sC_10, sC_11, sC_12, sC_13, sC_14, sC_15, sC_16, sC_17, sC_18, sC_19, sC_20, sC_21, sC_22, sC_23, sC_24, sC_25, sC_26, sC_27, sC_28, sC_29, sC_30, sC_31, sC_32, sC_33, sC_34, sC_35, sC_36, sC_37, sC_38, sC_39, sC_40, sC_41, sC_42, sC_43, sC_44, sC_45, sC_46, sC_47, sC_48, sC_49, sC_50, sC_51]
    obtain ⟨h1, h2⟩ := h
    exact ⟨fun q => h2 (fun z => q z.1), fun q => ⟨fun q1 => h2 (fun z => dm_i_lt.mpr (q1 z.2.1) z.2.2), fun q1 q2 => h1 ⟨q, q1, q2⟩⟩⟩
  · exact h.elim
set_option maxRecDepth 100000 in
theorem t_X10_potential (l : Launch) (D : va_G) (cA : Nat → ClassId) (ad : Nat → Nat) : dm_Met l D dm_cl cA ad shC yX10_potential (Cond.code yX10_potential cX10_potential 2 (dm_rt 2) :: dm_tt) ({ frames := 1, cells := 0, slots := 0, locals := 21 } : Room) sp_X10_potential := dm_meth (own := RX10) (X := x_X10_potential) (Sp := k_X10_potential) (prog := p_X10_potential) (by decide +kernel) rfl rfl (dm_FO_s ffX10 [(12, 10, 0), (46, 10, 4), (52, 5, 3), (91, 10, 10)] rfl dm_hT (by decide +kernel)) (dm_IO_s ifX10 jfX10 [] [] rfl rfl dm_hT (by decide +kernel) (by decide +kernel)) soC (dm_MO_of (List.forall_mem_cons.mpr ⟨dm_M1_of (t_X2_hasNode l D cA ad) dm_hT (dm_mem [488, 67, 485] (by decide +kernel) (by decide +kernel)) (by decide) (by decide +kernel) (Or.inr ⟨by decide, dm_mem [486, 487] (by decide +kernel) (by decide +kernel), rfl⟩), fun _ h => absurd h List.not_mem_nil⟩)) v_X10_potential u_X10_potential
def sp_X10_check (As : List Value) (u : dm_S) (Q : Option Value → dm_S → Prop) : Prop := match As with
  | [.ref 0] => (u.1 0 10 = 0 → ∃ (N M : Nat) (fr tr pt : Nat → Nat) (C : Nat) (nb bg en : Nat → Nat), cn_ok u N M fr tr pt ∧ cn_ln u M pt ∧ wg_ok u C nb bg en ∧ (∀ j, j < C → u.2 36 (en j) ≤ u.2 36 (bg j) + u.2 31 j) ∧ (∀ j, j < N → cn_ex u N fr tr pt M j = 0) ∧ Q (some (.int 1)) (dm_sj u 25 (cn_ex u N fr tr pt M))) ∧ (¬ u.1 0 10 = 0 → Q (some (.int (-1))) u)
  | _ => False
def p_X10_check : List dm_I := [(0, .aload_n 0, 1, [0]), (1, .getfield 91, 3, []), (4, .ifCond .eq 5, 3, [9]), (7, .iconst (-1), 1, []), (8, .ireturn, 1, []), (9, .aload_n 0, 1, [0]), (10, .getfield 46, 3, []), (13, .invokevirtual 163, 3, []), (16, .ifCond .eq 7, 3, [23]), (19, .iconst 1, 1, []), (20, .goto 4, 3, [24]), (23, .iconst 0, 1, []), (24, .ireturn, 1, [])]
set_option maxRecDepth 100000 in
theorem v_X10_check : p_X10_check.all (dm_vb cX10_check) = true := by decide +kernel
def k_X10_check : dm_Sp := fun a => match a with
  | 0 => sp_X5_areProof
  | _ => fun _ _ _ => False
def x_X10_check : dm_X := dm_mk [(46, 10, 4), (91, 10, 10)] [] [] [(163, 0, 0, 5)] 1
set_option maxRecDepth 100000 in
set_option maxHeartbeats 400000 in
theorem u_X10_check : dm_Pure shC x_X10_check k_X10_check p_X10_check 1 sp_X10_check := by
  intro As u Qp h
  unfold sp_X10_check at h
  split at h
  · refine ⟨Nat.le_of_ble_eq_true rfl, fun G Wp hW0 hW1 hG => ?_⟩
    apply hG (fun _ => false) 14
    simp (config := { maxSteps := 2000000 }) [hW0, hW1, dm_fn, dm_fd, dm_x, dm_L0, dm_la, dm_t1, dm_sw, List.headD, dm_ic, dm_mk, dm_s1, dm_s2, dm_clr, dm_cs, dm_cc, dm_nb0, dm_nb1, Value.category, List.lookup, p_X10_check, x_X10_check, k_X10_check, dm_cm, upd, vp_updL, dm_ui_1, dm_ui_2, dm_ul_1, dm_ul_2, sp_X5_areProof, sC_0, sC_1, sC_2, sC_3, sC_4, sC_5, sC_6, sC_7, sC_8, sC_9, sC_10, sC_11, sC_12, sC_13, sC_14, sC_15, sC_16, sC_17, sC_18, sC_19, sC_20, sC_21, sC_22, sC_23, sC_24, sC_25, sC_26, sC_27, sC_28, sC_29, sC_30, sC_31, sC_32, sC_33, sC_34, sC_35, sC_36, sC_37, sC_38, sC_39, sC_40, sC_41, sC_42, sC_43, sC_44, sC_45, sC_46, sC_47, sC_48, sC_49, sC_50, sC_51]
    obtain ⟨h1, h2⟩ := h
    refine ⟨fun q => ?_, h2⟩
    obtain ⟨N, M, fr, tr, pt, C, nb, bg, en, a1, a2, a3, a4, a5, h⟩ := h1 q
    exact ⟨N, M, fr, tr, pt, a1, a2, C, nb, bg, en, a3, fun j hj y => absurd (a4 j hj) (dm_l_le.mpr y), fun _ => ⟨fun _ => h, fun j hj y => absurd (a5 j hj) y⟩⟩
  · exact h.elim
set_option maxRecDepth 100000 in
theorem t_X10_check (l : Launch) (D : va_G) (cA : Nat → ClassId) (ad : Nat → Nat) : dm_Met l D dm_cl cA ad shC yX10_check (Cond.code yX10_check cX10_check 1 (dm_rt 1) :: dm_tt) ({ frames := 4, cells := 0, slots := 0, locals := 89 } : Room) sp_X10_check := dm_meth (own := RX10) (X := x_X10_check) (Sp := k_X10_check) (prog := p_X10_check) (by decide +kernel) rfl rfl (dm_FO_s ffX10 [(46, 10, 4), (91, 10, 10)] rfl dm_hT (by decide +kernel)) (dm_IO_s ifX10 jfX10 [] [] rfl rfl dm_hT (by decide +kernel) (by decide +kernel)) soC (dm_MO_of (List.forall_mem_cons.mpr ⟨dm_M1_of (t_X5_areProof l D cA ad) dm_hT (dm_mem [845, 71, 842] (by decide +kernel) (by decide +kernel)) (by decide) (by decide +kernel) (Or.inr ⟨by decide, dm_mem [843, 844] (by decide +kernel) (by decide +kernel), rfl⟩), fun _ h => absurd h List.not_mem_nil⟩)) v_X10_check u_X10_check
end
section
/-! ===== pairs ===== -/
def pr_pc (k : Nat) : Nat := k % 2 + k / 2 % 2 + k / 4 % 2 + k / 8 % 2 + k / 16 % 2 + k / 32 % 2 + k / 64 % 2 + k / 128 % 2
def sp_J6_bitCount_0f7a4 (As : List Value) (u : dm_S) (Q : Option Value → dm_S → Prop) : Prop := match As with
  | [.int x] => ∃ k : Nat, k < 256 ∧ x = nI k ∧ Q (some (.int (nI (pr_pc k)))) u
  | _ => False
def p_J6_bitCount_0f7a4 : List dm_I := [(0, .iload_n 0, 1, [0]), (1, .iload_n 0, 1, [0]), (2, .iconst 1, 1, []), (3, .iushr, 1, []), (4, .ldc_w 265, 3, []), (7, .iand, 1, []), (8, .isub, 1, []), (9, .istore_n 0, 1, [0]), (10, .iload_n 0, 1, [0]), (11, .ldc_w 266, 3, []), (14, .iand, 1, []), (15, .iload_n 0, 1, [0]), (16, .iconst 2, 1, []), (17, .iushr, 1, []), (18, .ldc_w 266, 3, []), (21, .iand, 1, []), (22, .iadd, 1, []), (23, .istore_n 0, 1, [0]), (24, .iload_n 0, 1, [0]), (25, .iload_n 0, 1, [0]), (26, .iconst 4, 1, []), (27, .iushr, 1, []), (28, .iadd, 1, []), (29, .ldc_w 267, 3, []), (32, .iand, 1, []), (33, .istore_n 0, 1, [0]), (34, .iload_n 0, 1, [0]), (35, .iload_n 0, 1, [0]), (36, .bipush 8, 2, []), (38, .iushr, 1, []), (39, .iadd, 1, []), (40, .istore_n 0, 1, [0]), (41, .iload_n 0, 1, [0]), (42, .iload_n 0, 1, [0]), (43, .bipush 16, 2, []), (45, .iushr, 1, []), (46, .iadd, 1, []), (47, .istore_n 0, 1, [0]), (48, .iload_n 0, 1, [0]), (49, .bipush 63, 2, []), (51, .iand, 1, []), (52, .ireturn, 1, [])]
set_option maxRecDepth 100000 in
theorem v_J6_bitCount_0f7a4 : p_J6_bitCount_0f7a4.all (dm_vb cJ6_bitCount_0f7a4) = true := by decide +kernel
def k_J6_bitCount_0f7a4 : dm_Sp := fun a => match a with
  | _ => fun _ _ _ => False
def x_J6_bitCount_0f7a4 : dm_X := dm_mk [] [(265, 1431655765), (266, 858993459), (267, 252645135)] [] [] 1
set_option maxRecDepth 100000 in
set_option maxHeartbeats 400000 in
theorem u_J6_bitCount_0f7a4 : dm_Pure shC x_J6_bitCount_0f7a4 k_J6_bitCount_0f7a4 p_J6_bitCount_0f7a4 1 sp_J6_bitCount_0f7a4 := by
  intro As u Qp h
  unfold sp_J6_bitCount_0f7a4 at h
  split at h
  · refine ⟨Nat.le_of_ble_eq_true rfl, fun G Wp hW0 hW1 hG => ?_⟩
    apply hG (fun _ => false) 43
    simp (config := { maxSteps := 2000000 }) [hW0, hW1, dm_fn, dm_fd, dm_x, dm_L0, dm_la, dm_t1, dm_sw, List.headD, dm_ic, dm_mk, dm_s1, dm_s2, dm_clr, dm_cs, dm_cc, dm_nb0, dm_nb1, Value.category, List.lookup, p_J6_bitCount_0f7a4, x_J6_bitCount_0f7a4, k_J6_bitCount_0f7a4, dm_cm, upd, vp_updL, dm_ui_1, dm_ui_2, dm_ul_1, dm_ul_2, sC_0, sC_1, sC_2, sC_3, sC_4, sC_5, sC_6, sC_7, sC_8, sC_9, sC_10, sC_11, sC_12, sC_13, sC_14, sC_15, sC_16, sC_17, sC_18, sC_19, sC_20, sC_21, sC_22, sC_23, sC_24, sC_25, sC_26, sC_27, sC_28, sC_29, sC_30, sC_31, sC_32, sC_33, sC_34, sC_35, sC_36, sC_37, sC_38, sC_39, sC_40, sC_41, sC_42, sC_43, sC_44, sC_45, sC_46, sC_47, sC_48, sC_49, sC_50, sC_51]
    obtain ⟨k, hk, rfl, h⟩ := h
    refine (congrArg (fun e => Qp (some (.int e)) u) ?_).mpr h
    clear h hG hW0 hW1
    revert hk
    revert k
    decide +kernel
  · exact h.elim
set_option maxRecDepth 100000 in
theorem t_J6_bitCount_0f7a4 (l : Launch) (D : va_G) (cA : Nat → ClassId) (ad : Nat → Nat) : dm_Met l D dm_cl cA ad shC yJ6_bitCount_0f7a4 (Cond.code yJ6_bitCount_0f7a4 cJ6_bitCount_0f7a4 1 (dm_rt 1) :: dm_tt) ({ frames := 0, cells := 0, slots := 0, locals := 0 } : Room) sp_J6_bitCount_0f7a4 := dm_meth (own := RJ6) (X := x_J6_bitCount_0f7a4) (Sp := k_J6_bitCount_0f7a4) (prog := p_J6_bitCount_0f7a4) (by decide +kernel) rfl rfl (dm_FO_s ffJ6 [] rfl dm_hT (by decide +kernel)) (dm_IO_s ifJ6 jfJ6 [(265, 1431655765), (266, 858993459), (267, 252645135)] [] rfl rfl dm_hT (by decide +kernel) (by decide +kernel)) soC (dm_MO_of (fun _ h => absurd h List.not_mem_nil)) v_J6_bitCount_0f7a4 u_J6_bitCount_0f7a4
theorem pr_bit : ∀ g, g < 256 → ∀ j, j < 8 → (nI g >>> (nI j &&& 31)) &&& 1 = nI (g / 2 ^ j % 2) := by decide +kernel
theorem pr_or : ∀ g, g < 256 → ∀ j, j < 8 → nI g ||| ((1 : Int32) <<< (nI j &&& 31)) = nI (g ||| 2 ^ j) ∧ g ||| 2 ^ j < 256 := by decide +kernel
/-- with j given to the next of the first -/
def pr_sw (u : dm_S) (g j : Nat) : Int64 := if g / 2 ^ j % 2 = 1 ∨ u.2 49 (8 * pr_pc g + j) = 1152921504606846976 ∨ u.2 51 (g ||| 2 ^ j) = 1152921504606846976 then 1152921504606846976 else u.2 49 (8 * pr_pc g + j) + u.2 51 (g ||| 2 ^ j)
def sp_X3_sumWith (As : List Value) (u : dm_S) (Q : Option Value → dm_S → Prop) : Prop := match As with
  | [.ref 10, .int x, .int y] => ∃ g j : Nat, g < 256 ∧ j < 8 ∧ pr_pc g < 8 ∧ x = nI g ∧ y = nI j ∧ Q (some (.long (pr_sw u g j))) u
  | _ => False
def p_X3_sumWith : List dm_I := [(0, .iload_n 1, 1, [1]), (1, .invokestatic 54, 3, []), (4, .istore_n 3, 1, [3]), (5, .iload_n 1, 1, [1]), (6, .iload_n 2, 1, [2]), (7, .ishr, 1, []), (8, .iconst 1, 1, []), (9, .iand, 1, []), (10, .iconst 1, 1, []), (11, .if_icmp .eq 38, 3, [49]), (14, .aload_n 0, 1, [0]), (15, .getfield 9, 3, []), (18, .iload_n 3, 1, [3]), (19, .bipush 8, 2, []), (21, .imul, 1, []), (22, .iload_n 2, 1, [2]), (23, .iadd, 1, []), (24, .laload, 1, []), (25, .ldc2_w 30, 3, []), (28, .lcmp, 1, []), (29, .ifCond .eq 20, 3, [49]), (32, .aload_n 0, 1, [0]), (33, .getfield 19, 3, []), (36, .iload_n 1, 1, [1]), (37, .iconst 1, 1, []), (38, .iload_n 2, 1, [2]), (39, .ishl, 1, []), (40, .ior, 1, []), (41, .laload, 1, []), (42, .ldc2_w 30, 3, []), (45, .lcmp, 1, []), (46, .ifCond .ne 7, 3, [53]), (49, .ldc2_w 30, 3, []), (52, .lreturn, 1, []), (53, .aload_n 0, 1, [0]), (54, .getfield 9, 3, []), (57, .iload_n 3, 1, [3]), (58, .bipush 8, 2, []), (60, .imul, 1, []), (61, .iload_n 2, 1, [2]), (62, .iadd, 1, []), (63, .laload, 1, []), (64, .aload_n 0, 1, [0]), (65, .getfield 19, 3, []), (68, .iload_n 1, 1, [1]), (69, .iconst 1, 1, []), (70, .iload_n 2, 1, [2]), (71, .ishl, 1, []), (72, .ior, 1, []), (73, .laload, 1, []), (74, .ladd, 1, []), (75, .lreturn, 1, [])]
set_option maxRecDepth 100000 in
theorem v_X3_sumWith : p_X3_sumWith.all (dm_vb cX3_sumWith) = true := by decide +kernel
def k_X3_sumWith : dm_Sp := fun a => match a with
  | 0 => sp_J6_bitCount_0f7a4
  | _ => fun _ _ _ => False
def x_X3_sumWith : dm_X := dm_mk [(9, 3, 0), (19, 3, 2)] [] [(30, 1152921504606846976)] [(54, 0, 1, 1000)] 2
set_option maxRecDepth 100000 in
set_option maxHeartbeats 400000 in
theorem u_X3_sumWith : dm_Pure shC x_X3_sumWith k_X3_sumWith p_X3_sumWith 4 sp_X3_sumWith := by
  intro As u Qp h
  unfold sp_X3_sumWith at h
  split at h
  · refine ⟨Nat.le_of_ble_eq_true rfl, fun G Wp hW0 hW1 hG => ?_⟩
    apply hG (fun _ => false) 53
    simp (config := { maxSteps := 2000000 }) [hW0, hW1, dm_fn, dm_fd, dm_x, dm_L0, dm_la, dm_t1, dm_sw, List.headD, dm_ic, dm_mk, dm_s1, dm_s2, dm_clr, dm_cs, dm_cc, dm_nb0, dm_nb1, Value.category, List.lookup, p_X3_sumWith, x_X3_sumWith, k_X3_sumWith, dm_cm, upd, vp_updL, dm_ui_1, dm_ui_2, dm_ul_1, dm_ul_2, sp_J6_bitCount_0f7a4, sC_0, sC_1, sC_2, sC_3, sC_4, sC_5, sC_6, sC_7, sC_8, sC_9, sC_10, sC_11, sC_12, sC_13, sC_14, sC_15, sC_16, sC_17, sC_18, sC_19, sC_20, sC_21, sC_22, sC_23, sC_24, sC_25, sC_26, sC_27, sC_28, sC_29, sC_30, sC_31, sC_32, sC_33, sC_34, sC_35, sC_36, sC_37, sC_38, sC_39, sC_40, sC_41, sC_42, sC_43, sC_44, sC_45, sC_46, sC_47, sC_48, sC_49, sC_50, sC_51]
    obtain ⟨g, j, hg, hj, hp, rfl, rfl, h⟩ := h
    obtain ⟨o1, o2⟩ := pr_or g hg j hj
    have e8 : nI (pr_pc g) * 8 + nI j = nI (8 * pr_pc g + j) := by rw [show (8 : Int32) = nI 8 from rfl, pk_mul, nI_add, Nat.mul_comm]
    have c1 : (nI (8 * pr_pc g + j)).toNatClampNeg = 8 * pr_pc g + j := nI_clamp (by omega)
    have c2 : (nI (g ||| 2 ^ j)).toNatClampNeg = g ||| 2 ^ j := nI_clamp (by omega)
    have b1 : (nI g >>> (nI j &&& 31)) &&& 1 = 1 ↔ g / 2 ^ j % 2 = 1 := by
      rw [pr_bit g hg j hj, show (1 : Int32) = nI 1 from rfl, nI_eq (by omega) (by omega)]
    refine ⟨g, hg, rfl, ?_⟩
    simp only [b1, e8, c1, o1, c2]
    have i1 : vp_in (nI (8 * pr_pc g + j)) 64 := vp_in_nI (by omega) (by omega)
    have i2 : vp_in (nI (g ||| 2 ^ j)) 256 := vp_in_nI o2 (by omega)
    unfold pr_sw at h
    refine ⟨fun q => ?_, fun q => ⟨i1, fun q2 => ?_, fun q2 => ⟨i2, fun q3 => ?_, fun q3 => ?_⟩⟩⟩
    · rw [if_pos (Or.inl q)] at h; exact h
    · rw [if_pos (Or.inr (Or.inl q2))] at h; exact h
    · rw [if_neg (fun z => z.elim q (fun z => z.elim q2 q3))] at h
      first | exact h | exact ⟨i1, i2, h⟩ | exact ⟨i1, h⟩
    · rw [if_pos (Or.inr (Or.inr q3))] at h; exact h
  · exact h.elim
set_option maxRecDepth 100000 in
theorem t_X3_sumWith (l : Launch) (D : va_G) (cA : Nat → ClassId) (ad : Nat → Nat) : dm_Met l D dm_cl cA ad shC yX3_sumWith (Cond.code yX3_sumWith cX3_sumWith 4 (dm_rt 2) :: dm_tt) ({ frames := 1, cells := 0, slots := 0, locals := 20 } : Room) sp_X3_sumWith := dm_meth (own := RX3) (X := x_X3_sumWith) (Sp := k_X3_sumWith) (prog := p_X3_sumWith) (by decide +kernel) rfl rfl (dm_FO_s ffX3 [(9, 3, 0), (19, 3, 2)] rfl dm_hT (by decide +kernel)) (dm_IO_s ifX3 jfX3 [] [(30, 1152921504606846976)] rfl rfl dm_hT (by decide +kernel) (by decide +kernel)) soC (dm_MO_of (List.forall_mem_cons.mpr ⟨dm_M1_of (t_J6_bitCount_0f7a4 l D cA ad) dm_hT (dm_mem [920, 80, 918] (by decide +kernel) (by decide +kernel)) (by decide) (by decide +kernel) (Or.inl ⟨rfl, dm_mem (ws := [.static yJ6_bitCount_0f7a4]) [919] (by decide +kernel) (by decide +kernel) _ List.mem_cons_self⟩), fun _ h => absurd h List.not_mem_nil⟩)) v_X3_sumWith u_X3_sumWith
end
section
/-! ===== the reference's calls that ask ===== -/
def sp_X11_cost (As : List Value) (u : dm_S) (Q : Option Value → dm_S → Prop) : Prop := match As with
  | [.ref 0] => (u.1 0 10 = 0 → Q (some (.long (u.2 0 12))) u) ∧ (¬ u.1 0 10 = 0 → Q (some (.long 0)) u)
  | _ => False
def p_X11_cost : List dm_I := [(0, .aload_n 0, 1, [0]), (1, .getfield 99, 3, []), (4, .ifCond .ne 10, 3, [14]), (7, .aload_n 0, 1, [0]), (8, .getfield 201, 3, []), (11, .goto 4, 3, [15]), (14, .lconst 0, 1, []), (15, .lreturn, 1, [])]
set_option maxRecDepth 100000 in
theorem v_X11_cost : p_X11_cost.all (dm_vb cX11_cost) = true := by decide +kernel
def k_X11_cost : dm_Sp := fun a => match a with
  | _ => fun _ _ _ => False
def x_X11_cost : dm_X := dm_mk [(99, 11, 10), (201, 11, 12)] [] [] [] 2
set_option maxRecDepth 100000 in
set_option maxHeartbeats 400000 in
theorem u_X11_cost : dm_Pure shM x_X11_cost k_X11_cost p_X11_cost 1 sp_X11_cost := by
  intro As u Qp h
  unfold sp_X11_cost at h
  split at h
  · refine ⟨Nat.le_of_ble_eq_true rfl, fun G Wp hW0 hW1 hG => ?_⟩
    apply hG (fun _ => false) 9
    simp (config := { maxSteps := 2000000 }) [hW0, hW1, dm_fn, dm_fd, dm_x, dm_L0, dm_la, dm_t1, dm_sw, List.headD, dm_ic, dm_mk, dm_s1, dm_s2, dm_clr, dm_cs, dm_cc, dm_nb0, dm_nb1, Value.category, List.lookup, p_X11_cost, x_X11_cost, k_X11_cost, dm_cm, upd, vp_updL, dm_ui_1, dm_ui_2, dm_ul_1, dm_ul_2, sM_0, sM_1, sM_2, sM_3, sM_4, sM_5, sM_6, sM_7, sM_8, sM_9, sM_10, sM_11, sM_12, sM_13, sM_14, sM_15, sM_16, sM_17, sM_18, sM_19, sM_20, sM_21, sM_22, sM_23, sM_24, sM_25, sM_26, sM_27, sM_28, sM_29]
    exact ⟨h.2, h.1⟩
  · exact h.elim
set_option maxRecDepth 100000 in
theorem t_X11_cost (l : Launch) (D : va_G) (cA : Nat → ClassId) (ad : Nat → Nat) : dm_Met l D dm_cl cA ad shM yX11_cost (Cond.code yX11_cost cX11_cost 1 (dm_rt 2) :: dm_tt) ({ frames := 0, cells := 0, slots := 0, locals := 0 } : Room) sp_X11_cost := dm_meth (own := RX11) (X := x_X11_cost) (Sp := k_X11_cost) (prog := p_X11_cost) (by decide +kernel) rfl rfl (dm_FO_s ffX11 [(99, 11, 10), (201, 11, 12)] rfl dm_hT (by decide +kernel)) (dm_IO_s ifX11 jfX11 [] [] rfl rfl dm_hT (by decide +kernel) (by decide +kernel)) soM (dm_MO_of (fun _ h => absurd h List.not_mem_nil)) v_X11_cost u_X11_cost
def sp_X11_on (As : List Value) (u : dm_S) (Q : Option Value → dm_S → Prop) : Prop := match As with
  | [.ref 0, .int x] => (u.1 0 10 = 0 ∧ 0 ≤ x ∧ x < u.1 0 1 → vp_in x 80 ∧ Q (some (.long (u.2 9 x.toNatClampNeg))) u) ∧ (¬ (u.1 0 10 = 0 ∧ 0 ≤ x ∧ x < u.1 0 1) → Q (some (.long (-1))) u)
  | _ => False
def p_X11_on : List dm_I := [(0, .aload_n 0, 1, [0]), (1, .getfield 99, 3, []), (4, .ifCond .ne 20, 3, [24]), (7, .aload_n 0, 1, [0]), (8, .iload_n 1, 1, [1]), (9, .invokevirtual 132, 3, []), (12, .ifCond .eq 12, 3, [24]), (15, .aload_n 0, 1, [0]), (16, .getfield 35, 3, []), (19, .iload_n 1, 1, [1]), (20, .laload, 1, []), (21, .goto 6, 3, [27]), (24, .ldc2_w 229, 3, []), (27, .lreturn, 1, [])]
set_option maxRecDepth 100000 in
theorem v_X11_on : p_X11_on.all (dm_vb cX11_on) = true := by decide +kernel
def k_X11_on : dm_Sp := fun a => match a with
  | 0 => sp_X11_isArc
  | _ => fun _ _ _ => False
def x_X11_on : dm_X := dm_mk [(35, 11, 11), (99, 11, 10)] [] [(229, -1)] [(132, 0, 1, 11)] 2
set_option maxRecDepth 100000 in
set_option maxHeartbeats 400000 in
theorem u_X11_on : dm_Pure shM x_X11_on k_X11_on p_X11_on 2 sp_X11_on := by
  intro As u Qp h
  unfold sp_X11_on at h
  split at h
  · refine ⟨Nat.le_of_ble_eq_true rfl, fun G Wp hW0 hW1 hG => ?_⟩
    apply hG (fun _ => false) 15
    simp (config := { maxSteps := 2000000 }) [hW0, hW1, dm_fn, dm_fd, dm_x, dm_L0, dm_la, dm_t1, dm_sw, List.headD, dm_ic, dm_mk, dm_s1, dm_s2, dm_clr, dm_cs, dm_cc, dm_nb0, dm_nb1, Value.category, List.lookup, p_X11_on, x_X11_on, k_X11_on, dm_cm, upd, vp_updL, dm_ui_1, dm_ui_2, dm_ul_1, dm_ul_2, sp_X11_isArc, sM_0, sM_1, sM_2, sM_3, sM_4, sM_5, sM_6, sM_7, sM_8, sM_9, sM_10, sM_11, sM_12, sM_13, sM_14, sM_15, sM_16, sM_17, sM_18, sM_19, sM_20, sM_21, sM_22, sM_23, sM_24, sM_25, sM_26, sM_27, sM_28, sM_29]
    obtain ⟨h1, h2⟩ := h
    exact ⟨fun q => h2 (fun z => q z.1), fun q => ⟨fun q1 => h2 (fun z => dm_i_lt.mpr (q1 z.2.1) z.2.2), fun q1 q2 => h1 ⟨q, q1, q2⟩⟩⟩
  · exact h.elim
set_option maxRecDepth 100000 in
theorem t_X11_on (l : Launch) (D : va_G) (cA : Nat → ClassId) (ad : Nat → Nat) : dm_Met l D dm_cl cA ad shM yX11_on (Cond.code yX11_on cX11_on 2 (dm_rt 2) :: dm_tt) ({ frames := 1, cells := 0, slots := 0, locals := 21 } : Room) sp_X11_on := dm_meth (own := RX11) (X := x_X11_on) (Sp := k_X11_on) (prog := p_X11_on) (by decide +kernel) rfl rfl (dm_FO_s ffX11 [(35, 11, 11), (99, 11, 10)] rfl dm_hT (by decide +kernel)) (dm_IO_s ifX11 jfX11 [] [(229, -1)] rfl rfl dm_hT (by decide +kernel) (by decide +kernel)) soM (dm_MO_of (List.forall_mem_cons.mpr ⟨dm_M1_of (t_X11_isArc l D cA ad) dm_hT (dm_mem [1093, 77, 1090] (by decide +kernel) (by decide +kernel)) (by decide) (by decide +kernel) (Or.inr ⟨by decide, dm_mem [1092, 42] (by decide +kernel) (by decide +kernel), rfl⟩), fun _ h => absurd h List.not_mem_nil⟩)) v_X11_on u_X11_on
def sp_X11_check (As : List Value) (u : dm_S) (Q : Option Value → dm_S → Prop) : Prop := match As with
  | [.ref 0] => (u.1 0 10 = 0 → Q (some (.int 1)) u) ∧ (¬ u.1 0 10 = 0 → Q (some (.int (-1))) u)
  | _ => False
def p_X11_check : List dm_I := [(0, .aload_n 0, 1, [0]), (1, .getfield 99, 3, []), (4, .ifCond .ne 7, 3, [11]), (7, .iconst 1, 1, []), (8, .goto 4, 3, [12]), (11, .iconst (-1), 1, []), (12, .ireturn, 1, [])]
set_option maxRecDepth 100000 in
theorem v_X11_check : p_X11_check.all (dm_vb cX11_check) = true := by decide +kernel
def k_X11_check : dm_Sp := fun a => match a with
  | _ => fun _ _ _ => False
def x_X11_check : dm_X := dm_mk [(99, 11, 10)] [] [] [] 1
set_option maxRecDepth 100000 in
set_option maxHeartbeats 400000 in
theorem u_X11_check : dm_Pure shM x_X11_check k_X11_check p_X11_check 1 sp_X11_check := by
  intro As u Qp h
  unfold sp_X11_check at h
  split at h
  · refine ⟨Nat.le_of_ble_eq_true rfl, fun G Wp hW0 hW1 hG => ?_⟩
    apply hG (fun _ => false) 8
    simp (config := { maxSteps := 2000000 }) [hW0, hW1, dm_fn, dm_fd, dm_x, dm_L0, dm_la, dm_t1, dm_sw, List.headD, dm_ic, dm_mk, dm_s1, dm_s2, dm_clr, dm_cs, dm_cc, dm_nb0, dm_nb1, Value.category, List.lookup, p_X11_check, x_X11_check, k_X11_check, dm_cm, upd, vp_updL, dm_ui_1, dm_ui_2, dm_ul_1, dm_ul_2, sM_0, sM_1, sM_2, sM_3, sM_4, sM_5, sM_6, sM_7, sM_8, sM_9, sM_10, sM_11, sM_12, sM_13, sM_14, sM_15, sM_16, sM_17, sM_18, sM_19, sM_20, sM_21, sM_22, sM_23, sM_24, sM_25, sM_26, sM_27, sM_28, sM_29]
    exact ⟨h.2, h.1⟩
  · exact h.elim
set_option maxRecDepth 100000 in
theorem t_X11_check (l : Launch) (D : va_G) (cA : Nat → ClassId) (ad : Nat → Nat) : dm_Met l D dm_cl cA ad shM yX11_check (Cond.code yX11_check cX11_check 1 (dm_rt 1) :: dm_tt) ({ frames := 0, cells := 0, slots := 0, locals := 0 } : Room) sp_X11_check := dm_meth (own := RX11) (X := x_X11_check) (Sp := k_X11_check) (prog := p_X11_check) (by decide +kernel) rfl rfl (dm_FO_s ffX11 [(99, 11, 10)] rfl dm_hT (by decide +kernel)) (dm_IO_s ifX11 jfX11 [] [] rfl rfl dm_hT (by decide +kernel) (by decide +kernel)) soM (dm_MO_of (fun _ h => absurd h List.not_mem_nil)) v_X11_check u_X11_check
def sp_X11_ring (As : List Value) (u : dm_S) (Q : Option Value → dm_S → Prop) : Prop := match As with
  | [.ref 0, .int a] => (0 ≤ a ∧ a < u.1 0 13 → vp_in a 24) ∧ Q (some (.int (if 0 ≤ a ∧ a < u.1 0 13 then u.1 10 a.toNatClampNeg else -1))) u
  | _ => False
def p_X11_ring : List dm_I := [(0, .iload_n 1, 1, [1]), (1, .ifCond .lt 20, 3, [21]), (4, .iload_n 1, 1, [1]), (5, .aload_n 0, 1, [0]), (6, .getfield 103, 3, []), (9, .if_icmp .ge 12, 3, [21]), (12, .aload_n 0, 1, [0]), (13, .getfield 38, 3, []), (16, .iload_n 1, 1, [1]), (17, .iaload, 1, []), (18, .goto 4, 3, [22]), (21, .iconst (-1), 1, []), (22, .ireturn, 1, [])]
set_option maxRecDepth 100000 in
theorem v_X11_ring : p_X11_ring.all (dm_vb cX11_ring) = true := by decide +kernel
def k_X11_ring : dm_Sp := fun a => match a with
  | _ => fun _ _ _ => False
def x_X11_ring : dm_X := dm_mk [(38, 11, 14), (103, 11, 13)] [] [] [] 1
set_option maxRecDepth 100000 in
set_option maxHeartbeats 400000 in
theorem u_X11_ring : dm_Pure shM x_X11_ring k_X11_ring p_X11_ring 2 sp_X11_ring := by
  intro As u Qp h
  unfold sp_X11_ring at h
  split at h
  · refine ⟨Nat.le_of_ble_eq_true rfl, fun G Wp hW0 hW1 hG => ?_⟩
    apply hG (fun _ => false) 14
    simp (config := { maxSteps := 2000000 }) [hW0, hW1, dm_fn, dm_fd, dm_x, dm_L0, dm_la, dm_t1, dm_sw, List.headD, dm_ic, dm_mk, dm_s1, dm_s2, dm_clr, dm_cs, dm_cc, dm_nb0, dm_nb1, Value.category, List.lookup, p_X11_ring, x_X11_ring, k_X11_ring, dm_cm, upd, vp_updL, dm_ui_1, dm_ui_2, dm_ul_1, dm_ul_2, sM_0, sM_1, sM_2, sM_3, sM_4, sM_5, sM_6, sM_7, sM_8, sM_9, sM_10, sM_11, sM_12, sM_13, sM_14, sM_15, sM_16, sM_17, sM_18, sM_19, sM_20, sM_21, sM_22, sM_23, sM_24, sM_25, sM_26, sM_27, sM_28, sM_29]
    obtain ⟨h1, h2⟩ := h
    refine ⟨fun q => ?_, fun q => ⟨fun q2 => ?_, fun q2 => ⟨h1 ⟨q, q2⟩, ?_⟩⟩⟩
    · rw [if_neg (fun z => dm_i_le.mpr q z.1)] at h2; exact h2
    · rw [if_neg (fun z => dm_i_lt.mpr q2 z.2)] at h2; exact h2
    · rw [if_pos ⟨q, q2⟩] at h2; exact h2
  · exact h.elim
set_option maxRecDepth 100000 in
theorem t_X11_ring (l : Launch) (D : va_G) (cA : Nat → ClassId) (ad : Nat → Nat) : dm_Met l D dm_cl cA ad shM yX11_ring (Cond.code yX11_ring cX11_ring 2 (dm_rt 1) :: dm_tt) ({ frames := 0, cells := 0, slots := 0, locals := 0 } : Room) sp_X11_ring := dm_meth (own := RX11) (X := x_X11_ring) (Sp := k_X11_ring) (prog := p_X11_ring) (by decide +kernel) rfl rfl (dm_FO_s ffX11 [(38, 11, 14), (103, 11, 13)] rfl dm_hT (by decide +kernel)) (dm_IO_s ifX11 jfX11 [] [] rfl rfl dm_hT (by decide +kernel) (by decide +kernel)) soM (dm_MO_of (fun _ h => absurd h List.not_mem_nil)) v_X11_ring u_X11_ring
def sp_X11_set (As : List Value) (u : dm_S) (Q : Option Value → dm_S → Prop) : Prop := match As with
  | [.ref 0, .int a] => (0 ≤ a ∧ a < u.1 0 15 → vp_in a 24) ∧ Q (some (.int (if 0 ≤ a ∧ a < u.1 0 15 then u.1 11 a.toNatClampNeg else -1))) u
  | _ => False
def p_X11_set : List dm_I := [(0, .iload_n 1, 1, [1]), (1, .ifCond .lt 20, 3, [21]), (4, .iload_n 1, 1, [1]), (5, .aload_n 0, 1, [0]), (6, .getfield 106, 3, []), (9, .if_icmp .ge 12, 3, [21]), (12, .aload_n 0, 1, [0]), (13, .getfield 41, 3, []), (16, .iload_n 1, 1, [1]), (17, .iaload, 1, []), (18, .goto 4, 3, [22]), (21, .iconst (-1), 1, []), (22, .ireturn, 1, [])]
set_option maxRecDepth 100000 in
theorem v_X11_set : p_X11_set.all (dm_vb cX11_set) = true := by decide +kernel
def k_X11_set : dm_Sp := fun a => match a with
  | _ => fun _ _ _ => False
def x_X11_set : dm_X := dm_mk [(41, 11, 16), (106, 11, 15)] [] [] [] 1
set_option maxRecDepth 100000 in
set_option maxHeartbeats 400000 in
theorem u_X11_set : dm_Pure shM x_X11_set k_X11_set p_X11_set 2 sp_X11_set := by
  intro As u Qp h
  unfold sp_X11_set at h
  split at h
  · refine ⟨Nat.le_of_ble_eq_true rfl, fun G Wp hW0 hW1 hG => ?_⟩
    apply hG (fun _ => false) 14
    simp (config := { maxSteps := 2000000 }) [hW0, hW1, dm_fn, dm_fd, dm_x, dm_L0, dm_la, dm_t1, dm_sw, List.headD, dm_ic, dm_mk, dm_s1, dm_s2, dm_clr, dm_cs, dm_cc, dm_nb0, dm_nb1, Value.category, List.lookup, p_X11_set, x_X11_set, k_X11_set, dm_cm, upd, vp_updL, dm_ui_1, dm_ui_2, dm_ul_1, dm_ul_2, sM_0, sM_1, sM_2, sM_3, sM_4, sM_5, sM_6, sM_7, sM_8, sM_9, sM_10, sM_11, sM_12, sM_13, sM_14, sM_15, sM_16, sM_17, sM_18, sM_19, sM_20, sM_21, sM_22, sM_23, sM_24, sM_25, sM_26, sM_27, sM_28, sM_29]
    obtain ⟨h1, h2⟩ := h
    refine ⟨fun q => ?_, fun q => ⟨fun q2 => ?_, fun q2 => ⟨h1 ⟨q, q2⟩, ?_⟩⟩⟩
    · rw [if_neg (fun z => dm_i_le.mpr q z.1)] at h2; exact h2
    · rw [if_neg (fun z => dm_i_lt.mpr q2 z.2)] at h2; exact h2
    · rw [if_pos ⟨q, q2⟩] at h2; exact h2
  · exact h.elim
set_option maxRecDepth 100000 in
theorem t_X11_set (l : Launch) (D : va_G) (cA : Nat → ClassId) (ad : Nat → Nat) : dm_Met l D dm_cl cA ad shM yX11_set (Cond.code yX11_set cX11_set 2 (dm_rt 1) :: dm_tt) ({ frames := 0, cells := 0, slots := 0, locals := 0 } : Room) sp_X11_set := dm_meth (own := RX11) (X := x_X11_set) (Sp := k_X11_set) (prog := p_X11_set) (by decide +kernel) rfl rfl (dm_FO_s ffX11 [(41, 11, 16), (106, 11, 15)] rfl dm_hT (by decide +kernel)) (dm_IO_s ifX11 jfX11 [] [] rfl rfl dm_hT (by decide +kernel) (by decide +kernel)) soM (dm_MO_of (fun _ h => absurd h List.not_mem_nil)) v_X11_set u_X11_set
def sp_X11_clear (As : List Value) (u : dm_S) (Q : Option Value → dm_S → Prop) : Prop := match As with
  | [.ref 0] => Q none (dm_mg (dm_ui (dm_ui (dm_ui u 0 0 0) 0 1 0) 0 27 0))
  | _ => False
def p_X11_clear : List dm_I := [(0, .aload_n 0, 1, [0]), (1, .iconst 0, 1, []), (2, .putfield 109, 3, []), (5, .aload_n 0, 1, [0]), (6, .iconst 0, 1, []), (7, .putfield 123, 3, []), (10, .aload_n 0, 1, [0]), (11, .iconst 0, 1, []), (12, .putfield 239, 3, []), (15, .aload_n 0, 1, [0]), (16, .invokevirtual 120, 3, []), (19, .return_, 1, [])]
set_option maxRecDepth 100000 in
theorem v_X11_clear : p_X11_clear.all (dm_vb cX11_clear) = true := by decide +kernel
def k_X11_clear : dm_Sp := fun a => match a with
  | 0 => sp_X11_gone
  | _ => fun _ _ _ => False
def x_X11_clear : dm_X := dm_mk [(109, 11, 0), (123, 11, 1), (239, 11, 27)] [] [] [(120, 0, 0, 11)] 0
set_option maxRecDepth 100000 in
set_option maxHeartbeats 400000 in
theorem u_X11_clear : dm_Pure shM x_X11_clear k_X11_clear p_X11_clear 1 sp_X11_clear := by
  intro As u Qp h
  unfold sp_X11_clear at h
  split at h
  · refine ⟨Nat.le_of_ble_eq_true rfl, fun G Wp hW0 hW1 hG => ?_⟩
    apply hG (fun _ => false) 13
    simp (config := { maxSteps := 2000000 }) [hW0, hW1, dm_fn, dm_fd, dm_x, dm_L0, dm_la, dm_t1, dm_sw, List.headD, dm_ic, dm_mk, dm_s1, dm_s2, dm_clr, dm_cs, dm_cc, dm_nb0, dm_nb1, Value.category, List.lookup, p_X11_clear, x_X11_clear, k_X11_clear, dm_cm, upd, vp_updL, dm_ui_1, dm_ui_2, dm_ul_1, dm_ul_2, sp_X11_gone, sM_0, sM_1, sM_2, sM_3, sM_4, sM_5, sM_6, sM_7, sM_8, sM_9, sM_10, sM_11, sM_12, sM_13, sM_14, sM_15, sM_16, sM_17, sM_18, sM_19, sM_20, sM_21, sM_22, sM_23, sM_24, sM_25, sM_26, sM_27, sM_28, sM_29]
    exact h
  · exact h.elim
set_option maxRecDepth 100000 in
theorem t_X11_clear (l : Launch) (D : va_G) (cA : Nat → ClassId) (ad : Nat → Nat) : dm_Met l D dm_cl cA ad shM yX11_clear (Cond.code yX11_clear cX11_clear 1 (dm_rt 0) :: dm_tt) ({ frames := 1, cells := 0, slots := 0, locals := 20 } : Room) sp_X11_clear := dm_meth (own := RX11) (X := x_X11_clear) (Sp := k_X11_clear) (prog := p_X11_clear) (by decide +kernel) rfl rfl (dm_FO_s ffX11 [(109, 11, 0), (123, 11, 1), (239, 11, 27)] rfl dm_hT (by decide +kernel)) (dm_IO_s ifX11 jfX11 [] [] rfl rfl dm_hT (by decide +kernel) (by decide +kernel)) soM (dm_MO_of (List.forall_mem_cons.mpr ⟨dm_M1_of (t_X11_gone l D cA ad) dm_hT (dm_mem [1076, 77, 1073] (by decide +kernel) (by decide +kernel)) (by decide) (by decide +kernel) (Or.inr ⟨by decide, dm_mem [1075, 40] (by decide +kernel) (by decide +kernel), rfl⟩), fun _ h => absurd h List.not_mem_nil⟩)) v_X11_clear u_X11_clear
def sp_X11_put (As : List Value) (u : dm_S) (Q : Option Value → dm_S → Prop) : Prop := match As with
  | [.ref 0, .int a, .int b, .long d] => ((0 ≤ a ∧ a < u.1 0 27) ∧ (0 ≤ b ∧ b < u.1 0 27) ∧ -1000000 ≤ d ∧ d ≤ 1000000 → vp_in (8 * a + b) 64 ∧ Q (some (.int 1)) (dm_ui (dm_ul u 21 (8 * a + b).toNatClampNeg d) 22 (8 * a + b).toNatClampNeg 1)) ∧ (¬ ((0 ≤ a ∧ a < u.1 0 27) ∧ (0 ≤ b ∧ b < u.1 0 27) ∧ -1000000 ≤ d ∧ d ≤ 1000000) → Q (some (.int 0)) u)
  | _ => False
def p_X11_put : List dm_I := [(0, .iload_n 1, 1, [1]), (1, .ifCond .lt 36, 3, [37]), (4, .iload_n 1, 1, [1]), (5, .aload_n 0, 1, [0]), (6, .getfield 239, 3, []), (9, .if_icmp .ge 28, 3, [37]), (12, .iload_n 2, 1, [2]), (13, .ifCond .lt 24, 3, [37]), (16, .iload_n 2, 1, [2]), (17, .aload_n 0, 1, [0]), (18, .getfield 239, 3, []), (21, .if_icmp .ge 16, 3, [37]), (24, .lload_n 3, 1, [3]), (25, .ldc2_w 112, 3, []), (28, .ldc2_w 114, 3, []), (31, .invokestatic 116, 3, []), (34, .ifCond .ne 5, 3, [39]), (37, .iconst 0, 1, []), (38, .ireturn, 1, []), (39, .aload_n 0, 1, [0]), (40, .getfield 71, 3, []), (43, .bipush 8, 2, []), (45, .iload_n 1, 1, [1]), (46, .imul, 1, []), (47, .iload_n 2, 1, [2]), (48, .iadd, 1, []), (49, .lload_n 3, 1, [3]), (50, .lastore, 1, []), (51, .aload_n 0, 1, [0]), (52, .getfield 74, 3, []), (55, .bipush 8, 2, []), (57, .iload_n 1, 1, [1]), (58, .imul, 1, []), (59, .iload_n 2, 1, [2]), (60, .iadd, 1, []), (61, .iconst 1, 1, []), (62, .bastore, 1, []), (63, .iconst 1, 1, []), (64, .ireturn, 1, [])]
set_option maxRecDepth 100000 in
theorem v_X11_put : p_X11_put.all (dm_vb cX11_put) = true := by decide +kernel
def k_X11_put : dm_Sp := fun a => match a with
  | 0 => sp_X11_within
  | _ => fun _ _ _ => False
def x_X11_put : dm_X := dm_mk [(71, 11, 28), (74, 11, 29), (239, 11, 27)] [] [(112, -1000000), (114, 1000000)] [(116, 0, 3, 1000)] 3
set_option maxRecDepth 100000 in
set_option maxHeartbeats 400000 in
theorem u_X11_put : dm_Pure shM x_X11_put k_X11_put p_X11_put 5 sp_X11_put := by
  intro As u Qp h
  unfold sp_X11_put at h
  split at h
  · refine ⟨Nat.le_of_ble_eq_true rfl, fun G Wp hW0 hW1 hG => ?_⟩
    apply hG (fun _ => false) 40
    simp (config := { maxSteps := 2000000 }) [hW0, hW1, dm_fn, dm_fd, dm_x, dm_L0, dm_la, dm_t1, dm_sw, List.headD, dm_ic, dm_mk, dm_s1, dm_s2, dm_clr, dm_cs, dm_cc, dm_nb0, dm_nb1, Value.category, List.lookup, p_X11_put, x_X11_put, k_X11_put, dm_cm, upd, vp_updL, dm_ui_1, dm_ui_2, dm_ul_1, dm_ul_2, sp_X11_within, sM_0, sM_1, sM_2, sM_3, sM_4, sM_5, sM_6, sM_7, sM_8, sM_9, sM_10, sM_11, sM_12, sM_13, sM_14, sM_15, sM_16, sM_17, sM_18, sM_19, sM_20, sM_21, sM_22, sM_23, sM_24, sM_25, sM_26, sM_27, sM_28, sM_29]
    obtain ⟨h1, h2⟩ := h
    exact ⟨fun q => h2 (fun z => dm_i_le.mpr q z.1.1), fun a1 => ⟨fun q => h2 (fun z => dm_i_lt.mpr q z.1.2), fun a2 => ⟨fun q => h2 (fun z => dm_i_le.mpr q z.2.1.1), fun b1 => ⟨fun q => h2 (fun z => dm_i_lt.mpr q z.2.1.2), fun b2 => ⟨fun d1 d2 => h1 ⟨⟨a1, a2⟩, ⟨b1, b2⟩, d1, d2⟩, fun q => h2 (fun z => dm_l_le.mpr (q z.2.2.1) z.2.2.2)⟩⟩⟩⟩⟩
  · exact h.elim
set_option maxRecDepth 100000 in
theorem t_X11_put (l : Launch) (D : va_G) (cA : Nat → ClassId) (ad : Nat → Nat) : dm_Met l D dm_cl cA ad shM yX11_put (Cond.code yX11_put cX11_put 5 (dm_rt 3) :: dm_tt) ({ frames := 1, cells := 0, slots := 0, locals := 25 } : Room) sp_X11_put := dm_meth (own := RX11) (X := x_X11_put) (Sp := k_X11_put) (prog := p_X11_put) (by decide +kernel) rfl rfl (dm_FO_s ffX11 [(71, 11, 28), (74, 11, 29), (239, 11, 27)] rfl dm_hT (by decide +kernel)) (dm_IO_s ifX11 jfX11 [] [(112, -1000000), (114, 1000000)] rfl rfl dm_hT (by decide +kernel) (by decide +kernel)) soM (dm_MO_of (List.forall_mem_cons.mpr ⟨dm_M1_of (t_X11_within l D cA ad) dm_hT (dm_mem [1072, 77, 1070] (by decide +kernel) (by decide +kernel)) (by decide) (by decide +kernel) (Or.inl ⟨rfl, dm_mem (ws := [.static yX11_within]) [1071] (by decide +kernel) (by decide +kernel) _ List.mem_cons_self⟩), fun _ h => absurd h List.not_mem_nil⟩)) v_X11_put u_X11_put
def sp_X11_isServed (As : List Value) (u : dm_S) (Q : Option Value → dm_S → Prop) : Prop := match As with
  | [.ref 0] => ∃ n : Nat, n ≤ 24 ∧ u.1 0 0 = nI n ∧ ((∀ j, j < n → u.2 18 j = 0) → Q (some (.int 1)) u) ∧ ((∃ j, j < n ∧ ¬ u.2 18 j = 0) → Q (some (.int 0)) u)
  | _ => False
def p_X11_isServed : List dm_I := [(0, .iconst 1, 1, []), (1, .istore_n 1, 1, [1]), (2, .iconst 0, 1, []), (3, .istore_n 2, 1, [2]), (4, .iload_n 2, 1, [2]), (5, .aload_n 0, 1, [0]), (6, .getfield 109, 3, []), (9, .if_icmp .ge 30, 3, [39]), (12, .iload_n 1, 1, [1]), (13, .ifCond .eq 18, 3, [31]), (16, .aload_n 0, 1, [0]), (17, .getfield 62, 3, []), (20, .iload_n 2, 1, [2]), (21, .laload, 1, []), (22, .lconst 0, 1, []), (23, .lcmp, 1, []), (24, .ifCond .ne 7, 3, [31]), (27, .iconst 1, 1, []), (28, .goto 4, 3, [32]), (31, .iconst 0, 1, []), (32, .istore_n 1, 1, [1]), (33, .iinc 2 1, 3, []), (36, .goto (-32), 3, [4]), (39, .iload_n 1, 1, [1]), (40, .ireturn, 1, [])]
set_option maxRecDepth 100000 in
theorem v_X11_isServed : p_X11_isServed.all (dm_vb cX11_isServed) = true := by decide +kernel
def k_X11_isServed : dm_Sp := fun a => match a with
  | _ => fun _ _ _ => False
def x_X11_isServed : dm_X := dm_mk [(62, 11, 24), (109, 11, 0)] [] [] [] 3
set_option maxRecDepth 100000 in
set_option maxHeartbeats 400000 in
theorem u_X11_isServed : dm_Pure shM x_X11_isServed k_X11_isServed p_X11_isServed 3 sp_X11_isServed := by
  intro As u Qp h
  unfold sp_X11_isServed at h
  split at h
  · obtain ⟨n, hn, en, h1, h2⟩ := h
    refine ⟨Nat.le_of_ble_eq_true rfl, fun G Wp hW0 hW1 hG => ?_⟩
    have loop : ∀ (k i : Nat) (b : Bool), i + k = n → (b = true ↔ ∀ j, j < i → u.2 18 j = 0) → G 4 [some (.ref 0), some (.int (if b then 1 else 0)), some (.int (nI i))] [] u := by
      intro k
      induction k with
      | zero =>
        intro i b hi hz
        apply hG (fun pc => pc == 4) 30
        simp (config := { maxSteps := 2000000 }) [hW0, hW1, dm_fn, dm_fd, dm_x, dm_L0, dm_la, dm_t1, dm_sw, List.headD, dm_ic, dm_mk, dm_s1, dm_s2, dm_clr, dm_cs, dm_cc, dm_nb0, dm_nb1, Value.category, List.lookup, p_X11_isServed, x_X11_isServed, k_X11_isServed, dm_cm, upd, vp_updL, dm_ui_1, dm_ui_2, dm_ul_1, dm_ul_2, sM_0, sM_1, sM_2, sM_3, sM_4, sM_5, sM_6, sM_7, sM_8, sM_9, sM_10, sM_11, sM_12, sM_13, sM_14, sM_15, sM_16, sM_17, sM_18, sM_19, sM_20, sM_21, sM_22, sM_23, sM_24, sM_25, sM_26, sM_27, sM_28, sM_29]
        have e : i = n := by omega
        subst e
        rw [en]
        refine ⟨fun _ => ⟨dm_nz b, ?_⟩, fun q => absurd q (nI_nlt (Nat.le_refl _) (by omega))⟩
        cases b with
        | true => exact h1 (hz.mp rfl)
        | false =>
          refine h2 ?_
          by_cases y : ∃ j, j < i ∧ ¬ u.2 18 j = 0
          · exact y
          · have := hz.mpr (fun j hj => Classical.byContradiction (fun t => y ⟨j, hj, t⟩))
            cases this
      | succ k ih =>
        intro i b hi hz
        apply hG (fun pc => pc == 4) 30
        simp (config := { maxSteps := 2000000 }) [hW0, hW1, dm_fn, dm_fd, dm_x, dm_L0, dm_la, dm_t1, dm_sw, List.headD, dm_ic, dm_mk, dm_s1, dm_s2, dm_clr, dm_cs, dm_cc, dm_nb0, dm_nb1, Value.category, List.lookup, p_X11_isServed, x_X11_isServed, k_X11_isServed, dm_cm, upd, vp_updL, dm_ui_1, dm_ui_2, dm_ul_1, dm_ul_2, sM_0, sM_1, sM_2, sM_3, sM_4, sM_5, sM_6, sM_7, sM_8, sM_9, sM_10, sM_11, sM_12, sM_13, sM_14, sM_15, sM_16, sM_17, sM_18, sM_19, sM_20, sM_21, sM_22, sM_23, sM_24, sM_25, sM_26, sM_27, sM_28, sM_29]
        rw [en, nI_clamp (by omega), nI_1]
        refine ⟨fun q => absurd q (nI_ge (by omega) (by omega)), fun q => ⟨fun y => ih (i + 1) false (by omega) ⟨fun t => (by cases t), fun t => ?_⟩, fun y => ⟨vp_in_nI (by omega) (by omega), fun t => ih (i + 1) false (by omega) ⟨fun t2 => (by cases t2), fun t2 => absurd (t2 i (by omega)) t⟩, fun t => ih (i + 1) true (by omega) ⟨fun _ j hj => ?_, fun _ => rfl⟩⟩⟩⟩
        · have := hz.mpr (fun j hj => t j (by omega))
          rw [y] at this
          cases this
        · rcases Nat.lt_or_ge j i with z | z
          · exact hz.mp y j z
          · rw [show j = i by omega]; exact t
    apply hG (fun pc => pc == 4) 30
    simp (config := { maxSteps := 2000000 }) [hW0, hW1, dm_fn, dm_fd, dm_x, dm_L0, dm_la, dm_t1, dm_sw, List.headD, dm_ic, dm_mk, dm_s1, dm_s2, dm_clr, dm_cs, dm_cc, dm_nb0, dm_nb1, Value.category, List.lookup, p_X11_isServed, x_X11_isServed, k_X11_isServed, dm_cm, upd, vp_updL, dm_ui_1, dm_ui_2, dm_ul_1, dm_ul_2, sM_0, sM_1, sM_2, sM_3, sM_4, sM_5, sM_6, sM_7, sM_8, sM_9, sM_10, sM_11, sM_12, sM_13, sM_14, sM_15, sM_16, sM_17, sM_18, sM_19, sM_20, sM_21, sM_22, sM_23, sM_24, sM_25, sM_26, sM_27, sM_28, sM_29]
    exact loop n 0 true (by omega) ⟨fun _ j hj => by omega, fun _ => rfl⟩
  · exact h.elim
set_option maxRecDepth 100000 in
theorem t_X11_isServed (l : Launch) (D : va_G) (cA : Nat → ClassId) (ad : Nat → Nat) : dm_Met l D dm_cl cA ad shM yX11_isServed (Cond.code yX11_isServed cX11_isServed 3 (dm_rt 3) :: dm_tt) ({ frames := 0, cells := 0, slots := 0, locals := 0 } : Room) sp_X11_isServed := dm_meth (own := RX11) (X := x_X11_isServed) (Sp := k_X11_isServed) (prog := p_X11_isServed) (by decide +kernel) rfl rfl (dm_FO_s ffX11 [(62, 11, 24), (109, 11, 0)] rfl dm_hT (by decide +kernel)) (dm_IO_s ifX11 jfX11 [] [] rfl rfl dm_hT (by decide +kernel) (by decide +kernel)) soM (dm_MO_of (fun _ h => absurd h List.not_mem_nil)) v_X11_isServed u_X11_isServed
end
section
/-! ===== the reference: prices along ENDLESS ARCS ===== -/
def mn_ok (u : dm_S) (N M : Nat) (fr tr pc : Nat → Nat) : Prop := (N ≤ 24 ∧ M ≤ 80 ∧ u.1 0 0 = nI N ∧ u.1 0 1 = nI M) ∧ ∀ a, a < M → (u.1 2 a = nI (fr a) ∧ fr a < N) ∧ (u.1 3 a = nI (tr a) ∧ tr a < N) ∧ (u.1 6 a = nI (pc a) ∧ pc a ≤ 3)
def mn_lw (u : dm_S) (pc : Nat → Nat) (a : Nat) : Int64 := u.2 7 (4 * a + pc a)
def mn_en (u : dm_S) (a : Nat) : Bool := decide (u.2 5 a = -2)
def mn_z0 (u : dm_S) (n : Nat) : Nat → Int64 := fun j => if j < n then 0 else u.2 19 j
theorem dm_4p {a q : Nat} : (4 : Int32) * nI a + nI q = nI (4 * a + q) := by rw [show (4 : Int32) = nI 4 from rfl, pk_mul, nI_add]
def sp_X11_endless (As : List Value) (u : dm_S) (Q : Option Value → dm_S → Prop) : Prop := match As with
  | [.ref 0] => ∃ (N M : Nat) (fr tr pc : Nat → Nat), mn_ok u N M fr tr pc ∧ Q (some (.int (if (rx_it M fr tr (mn_lw u pc) (mn_en u) (N + 1) (mn_z0 u N)).2 then 1 else 0))) (dm_sj u 19 (rx_it M fr tr (mn_lw u pc) (mn_en u) (N + 1) (mn_z0 u N)).1)
  | _ => False
def p_X11_endless : List dm_I := [(0, .iconst 0, 1, []), (1, .istore_n 1, 1, [1]), (2, .iload_n 1, 1, [1]), (3, .aload_n 0, 1, [0]), (4, .getfield 109, 3, []), (7, .if_icmp .ge 16, 3, [23]), (10, .aload_n 0, 1, [0]), (11, .getfield 65, 3, []), (14, .iload_n 1, 1, [1]), (15, .lconst 0, 1, []), (16, .lastore, 1, []), (17, .iinc 1 1, 3, []), (20, .goto (-18), 3, [2]), (23, .iconst 1, 1, []), (24, .istore_n 1, 1, [1]), (25, .iconst 0, 1, []), (26, .istore_n 2, 1, [2]), (27, .iload_n 2, 1, [2]), (28, .aload_n 0, 1, [0]), (29, .getfield 109, 3, []), (32, .if_icmp .gt 106, 3, [138]), (35, .iload_n 1, 1, [1]), (36, .ifCond .eq 102, 3, [138]), (39, .iconst 0, 1, []), (40, .istore_n 1, 1, [1]), (41, .iconst 0, 1, []), (42, .istore_n 3, 1, [3]), (43, .iload_n 3, 1, [3]), (44, .aload_n 0, 1, [0]), (45, .getfield 123, 3, []), (48, .if_icmp .ge 84, 3, [132]), (51, .aload_n 0, 1, [0]), (52, .getfield 23, 3, []), (55, .iload_n 3, 1, [3]), (56, .laload, 1, []), (57, .ldc2_w 130, 3, []), (60, .lcmp, 1, []), (61, .ifCond .ne 65, 3, [126]), (64, .aload_n 0, 1, [0]), (65, .getfield 65, 3, []), (68, .aload_n 0, 1, [0]), (69, .getfield 13, 3, []), (72, .iload_n 3, 1, [3]), (73, .iaload, 1, []), (74, .laload, 1, []), (75, .aload_n 0, 1, [0]), (76, .iload_n 3, 1, [3]), (77, .invokevirtual 148, 3, []), (80, .ladd, 1, []), (81, .aload_n 0, 1, [0]), (82, .getfield 65, 3, []), (85, .aload_n 0, 1, [0]), (86, .getfield 17, 3, []), (89, .iload_n 3, 1, [3]), (90, .iaload, 1, []), (91, .laload, 1, []), (92, .lcmp, 1, []), (93, .ifCond .ge 33, 3, [126]), (96, .aload_n 0, 1, [0]), (97, .getfield 65, 3, []), (100, .aload_n 0, 1, [0]), (101, .getfield 17, 3, []), (104, .iload_n 3, 1, [3]), (105, .iaload, 1, []), (106, .aload_n 0, 1, [0]), (107, .getfield 65, 3, []), (110, .aload_n 0, 1, [0]), (111, .getfield 13, 3, []), (114, .iload_n 3, 1, [3]), (115, .iaload, 1, []), (116, .laload, 1, []), (117, .aload_n 0, 1, [0]), (118, .iload_n 3, 1, [3]), (119, .invokevirtual 148, 3, []), (122, .ladd, 1, []), (123, .lastore, 1, []), (124, .iconst 1, 1, []), (125, .istore_n 1, 1, [1]), (126, .iinc 3 1, 3, []), (129, .goto (-86), 3, [43]), (132, .iinc 2 1, 3, []), (135, .goto (-108), 3, [27]), (138, .iload_n 1, 1, [1]), (139, .ifCond .ne 7, 3, [146]), (142, .iconst 1, 1, []), (143, .goto 4, 3, [147]), (146, .iconst 0, 1, []), (147, .ireturn, 1, [])]
set_option maxRecDepth 100000 in
theorem v_X11_endless : p_X11_endless.all (dm_vb cX11_endless) = true := by decide +kernel
def k_X11_endless : dm_Sp := fun a => match a with
  | 0 => sp_X11_lastCost
  | _ => fun _ _ _ => False
def x_X11_endless : dm_X := dm_mk [(13, 11, 3), (17, 11, 4), (23, 11, 6), (65, 11, 25), (109, 11, 0), (123, 11, 1)] [] [(130, -2)] [(148, 0, 1, 11)] 3
set_option maxRecDepth 100000 in
set_option maxHeartbeats 800000 in
theorem u_X11_endless : dm_Pure shM x_X11_endless k_X11_endless p_X11_endless 4 sp_X11_endless := by
  intro As u Qp h
  unfold sp_X11_endless at h
  split at h
  · obtain ⟨N, M, fr, tr, pc, ⟨⟨hN, hM, eN, eM⟩, ho⟩, h⟩ := h
    refine ⟨Nat.le_of_ble_eq_true rfl, fun G Wp hW0 hW1 hG => ?_⟩
    have inner : ∀ (V : Nat → Int64) (i : Nat), (∀ o3, G 132 [some (.ref 0), some (.int (if (rx_go fr tr (mn_lw u pc) (mn_en u) V M).2 then 1 else 0)), some (.int (nI i)), o3] [] (dm_sj u 19 (rx_go fr tr (mn_lw u pc) (mn_en u) V M).1)) → ∀ k a : Nat, a + k = M → G 43 [some (.ref 0), some (.int (if (rx_go fr tr (mn_lw u pc) (mn_en u) V a).2 then 1 else 0)), some (.int (nI i)), some (.int (nI a))] [] (dm_sj u 19 (rx_go fr tr (mn_lw u pc) (mn_en u) V a).1) := by
      intro V i hx
      generalize hR : rx_go fr tr (mn_lw u pc) (mn_en u) V = R at hx
      have hRs : ∀ a, R (a + 1) = if mn_en u a = true ∧ (R a).1 (fr a) + mn_lw u pc a < (R a).1 (tr a) then (vp_updL (R a).1 (tr a) ((R a).1 (fr a) + mn_lw u pc a), true) else R a := fun a => by rw [← hR]; rfl
      intro k
      induction k with
      | zero =>
        intro a ha
        apply hG (fun pc => pc == 43 || pc == 132) 60
        simp (config := { maxSteps := 2000000 }) [hW0, hW1, dm_fn, dm_fd, dm_x, dm_L0, dm_la, dm_t1, dm_sw, List.headD, dm_ic, dm_mk, dm_s1, dm_s2, dm_clr, dm_cs, dm_cc, dm_nb0, dm_nb1, Value.category, List.lookup, p_X11_endless, x_X11_endless, k_X11_endless, dm_cm, upd, vp_updL, dm_ui_1, dm_ui_2, dm_ul_1, dm_ul_2, sp_X11_lastCost, sM_0, sM_1, sM_2, sM_3, sM_4, sM_5, sM_6, sM_7, sM_8, sM_9, sM_10, sM_11, sM_12, sM_13, sM_14, sM_15, sM_16, sM_17, sM_18, sM_19, sM_20, sM_21, sM_22, sM_23, sM_24, sM_25, sM_26, sM_27, sM_28, sM_29]
        have e : a = M := by omega
        subst e
        simp only [dm_sj_1, eM]
        exact ⟨fun _ => hx _, fun q => absurd q (nI_nlt (Nat.le_refl _) (by omega))⟩
      | succ k ih =>
        intro a ha
        obtain ⟨⟨e1, l1⟩, ⟨e2, l2⟩, ⟨e3, l3⟩⟩ := ho a (by omega)
        have e := ih (a + 1) (by omega)
        have c1 : (nI a).toNatClampNeg = a := nI_clamp (by omega)
        have c2 : (nI (fr a)).toNatClampNeg = fr a := nI_clamp (by omega)
        have c3 : (nI (tr a)).toNatClampNeg = tr a := nI_clamp (by omega)
        have c4 : (nI (4 * a + pc a)).toNatClampNeg = 4 * a + pc a := nI_clamp (by omega)
        have i1 : vp_in (nI a) 80 := vp_in_nI (by omega) (by omega)
        have i2 : vp_in (nI (fr a)) 26 := vp_in_nI (by omega) (by omega)
        have i3 : vp_in (nI (tr a)) 26 := vp_in_nI (by omega) (by omega)
        have i4 : vp_in (nI (4 * a + pc a)) 320 := vp_in_nI (by omega) (by omega)
        apply hG (fun pc => pc == 43 || pc == 132) 60
        simp (config := { maxSteps := 2000000 }) [hW0, hW1, dm_fn, dm_fd, dm_x, dm_L0, dm_la, dm_t1, dm_sw, List.headD, dm_ic, dm_mk, dm_s1, dm_s2, dm_clr, dm_cs, dm_cc, dm_nb0, dm_nb1, Value.category, List.lookup, p_X11_endless, x_X11_endless, k_X11_endless, dm_cm, upd, vp_updL, dm_ui_1, dm_ui_2, dm_ul_1, dm_ul_2, sp_X11_lastCost, sM_0, sM_1, sM_2, sM_3, sM_4, sM_5, sM_6, sM_7, sM_8, sM_9, sM_10, sM_11, sM_12, sM_13, sM_14, sM_15, sM_16, sM_17, sM_18, sM_19, sM_20, sM_21, sM_22, sM_23, sM_24, sM_25, sM_26, sM_27, sM_28, sM_29]
        simp only [dm_sj_1, eM, c1, e1, e2, c2, c3, e3, dm_4p, c4, dm_sj_u, nI_1]
        refine ⟨fun q => absurd q (nI_ge (by omega) (by omega)), fun q => ⟨i1, fun z => ?_, fun z => ⟨i1, i2, i1, i4, i1, i3, fun y => ?_, fun y => ?_⟩⟩⟩
        · have z' : ¬ u.2 5 a = -2 := z
          have e4 : R (a + 1) = R a := by rw [hRs a, if_neg (fun x => z' (by have := x.1; simpa [mn_en] using this))]
          rw [e4] at e
          exact e
        · have e4 : R (a + 1) = R a := by rw [hRs a, if_neg (fun x => dm_l_lt.mpr y x.2)]
          rw [e4] at e
          exact e
        · have z' : u.2 5 a = -2 := z
          have e4 : R (a + 1) = (vp_updL (R a).1 (tr a) ((R a).1 (fr a) + mn_lw u pc a), true) := by rw [hRs a, if_pos ⟨by simpa [mn_en] using z', y⟩]
          rw [e4] at e
          first | exact ⟨i1, i2, i1, i4, i3, e⟩ | exact ⟨i1, i1, i2, i1, i4, i3, e⟩
    have outer : ∀ (k i : Nat) (b : Bool) (V : Nat → Int64), i + k = N + 1 → (b = true → rx_it M fr tr (mn_lw u pc) (mn_en u) (N + 1) (mn_z0 u N) = rx_it M fr tr (mn_lw u pc) (mn_en u) k V) → (b = false → rx_it M fr tr (mn_lw u pc) (mn_en u) (N + 1) (mn_z0 u N) = (V, true)) → ∀ o3, G 27 [some (.ref 0), some (.int (if b then 1 else 0)), some (.int (nI i)), o3] [] (dm_sj u 19 V) := by
      intro k
      induction k with
      | zero =>
        intro i b V hi h1 h2 o3
        apply hG (fun pc => pc == 27 || pc == 43 || pc == 132) 60
        simp (config := { maxSteps := 2000000 }) [hW0, hW1, dm_fn, dm_fd, dm_x, dm_L0, dm_la, dm_t1, dm_sw, List.headD, dm_ic, dm_mk, dm_s1, dm_s2, dm_clr, dm_cs, dm_cc, dm_nb0, dm_nb1, Value.category, List.lookup, p_X11_endless, x_X11_endless, k_X11_endless, dm_cm, upd, vp_updL, dm_ui_1, dm_ui_2, dm_ul_1, dm_ul_2, sp_X11_lastCost, sM_0, sM_1, sM_2, sM_3, sM_4, sM_5, sM_6, sM_7, sM_8, sM_9, sM_10, sM_11, sM_12, sM_13, sM_14, sM_15, sM_16, sM_17, sM_18, sM_19, sM_20, sM_21, sM_22, sM_23, sM_24, sM_25, sM_26, sM_27, sM_28, sM_29]
        simp only [dm_sj_1, eN]
        refine ⟨fun _ => ⟨fun t => ?_, fun t => ?_⟩, fun q => absurd q (nI_ge (by omega) (by omega))⟩
        · rw [h1 t] at h; exact h
        · rw [h2 t] at h; exact h
      | succ k ih =>
        intro i b V hi h1 h2 o3
        apply hG (fun pc => pc == 27 || pc == 43 || pc == 132) 60
        simp (config := { maxSteps := 2000000 }) [hW0, hW1, dm_fn, dm_fd, dm_x, dm_L0, dm_la, dm_t1, dm_sw, List.headD, dm_ic, dm_mk, dm_s1, dm_s2, dm_clr, dm_cs, dm_cc, dm_nb0, dm_nb1, Value.category, List.lookup, p_X11_endless, x_X11_endless, k_X11_endless, dm_cm, upd, vp_updL, dm_ui_1, dm_ui_2, dm_ul_1, dm_ul_2, sp_X11_lastCost, sM_0, sM_1, sM_2, sM_3, sM_4, sM_5, sM_6, sM_7, sM_8, sM_9, sM_10, sM_11, sM_12, sM_13, sM_14, sM_15, sM_16, sM_17, sM_18, sM_19, sM_20, sM_21, sM_22, sM_23, sM_24, sM_25, sM_26, sM_27, sM_28, sM_29]
        simp only [dm_sj_1, eN]
        have hs2 : rx_it M fr tr (mn_lw u pc) (mn_en u) (k + 1) V = if (rx_go fr tr (mn_lw u pc) (mn_en u) V M).2 then rx_it M fr tr (mn_lw u pc) (mn_en u) k (rx_go fr tr (mn_lw u pc) (mn_en u) V M).1 else ((rx_go fr tr (mn_lw u pc) (mn_en u) V M).1, true) := rfl
        refine ⟨fun q => absurd q (nI_nlt (by omega) (by omega)), fun _ => ⟨fun t => ⟨fun t2 => absurd (t.symm.trans t2) (by decide), fun _ => ?_⟩, fun t => inner V i (fun o5 => ?_) M 0 (by omega)⟩⟩
        · rw [h2 t] at h; exact h
        · apply hG (fun pc => pc == 27 || pc == 43 || pc == 132) 60
          simp (config := { maxSteps := 2000000 }) [hW0, hW1, dm_fn, dm_fd, dm_x, dm_L0, dm_la, dm_t1, dm_sw, List.headD, dm_ic, dm_mk, dm_s1, dm_s2, dm_clr, dm_cs, dm_cc, dm_nb0, dm_nb1, Value.category, List.lookup, p_X11_endless, x_X11_endless, k_X11_endless, dm_cm, upd, vp_updL, dm_ui_1, dm_ui_2, dm_ul_1, dm_ul_2, sp_X11_lastCost, sM_0, sM_1, sM_2, sM_3, sM_4, sM_5, sM_6, sM_7, sM_8, sM_9, sM_10, sM_11, sM_12, sM_13, sM_14, sM_15, sM_16, sM_17, sM_18, sM_19, sM_20, sM_21, sM_22, sM_23, sM_24, sM_25, sM_26, sM_27, sM_28, sM_29]
          rw [nI_1]
          exact ih (i + 1) _ _ (by omega) (fun y => by rw [h1 t, hs2, if_pos y]) (fun y => by rw [h1 t, hs2, if_neg (by rw [y]; decide)]) o5
    have fill : ∀ k i : Nat, i + k = N → G 2 [some (.ref 0), some (.int (nI i)), none, none] [] (dm_sj u 19 (mn_z0 u i)) := by
      intro k
      induction k with
      | zero =>
        intro i hi
        apply hG (fun pc => pc == 2 || pc == 27) 60
        simp (config := { maxSteps := 2000000 }) [hW0, hW1, dm_fn, dm_fd, dm_x, dm_L0, dm_la, dm_t1, dm_sw, List.headD, dm_ic, dm_mk, dm_s1, dm_s2, dm_clr, dm_cs, dm_cc, dm_nb0, dm_nb1, Value.category, List.lookup, p_X11_endless, x_X11_endless, k_X11_endless, dm_cm, upd, vp_updL, dm_ui_1, dm_ui_2, dm_ul_1, dm_ul_2, sp_X11_lastCost, sM_0, sM_1, sM_2, sM_3, sM_4, sM_5, sM_6, sM_7, sM_8, sM_9, sM_10, sM_11, sM_12, sM_13, sM_14, sM_15, sM_16, sM_17, sM_18, sM_19, sM_20, sM_21, sM_22, sM_23, sM_24, sM_25, sM_26, sM_27, sM_28, sM_29]
        have e : i = N := by omega
        subst e
        simp only [dm_sj_1, eN]
        exact ⟨fun _ => outer (i + 1) 0 true (mn_z0 u i) (by omega) (fun _ => rfl) (fun t => by cases t) none, fun q => absurd q (nI_nlt (Nat.le_refl _) (by omega))⟩
      | succ k ih =>
        intro i hi
        have e := ih (i + 1) (by omega)
        have c1 : (nI i).toNatClampNeg = i := nI_clamp (by omega)
        apply hG (fun pc => pc == 2 || pc == 27) 60
        simp (config := { maxSteps := 2000000 }) [hW0, hW1, dm_fn, dm_fd, dm_x, dm_L0, dm_la, dm_t1, dm_sw, List.headD, dm_ic, dm_mk, dm_s1, dm_s2, dm_clr, dm_cs, dm_cc, dm_nb0, dm_nb1, Value.category, List.lookup, p_X11_endless, x_X11_endless, k_X11_endless, dm_cm, upd, vp_updL, dm_ui_1, dm_ui_2, dm_ul_1, dm_ul_2, sp_X11_lastCost, sM_0, sM_1, sM_2, sM_3, sM_4, sM_5, sM_6, sM_7, sM_8, sM_9, sM_10, sM_11, sM_12, sM_13, sM_14, sM_15, sM_16, sM_17, sM_18, sM_19, sM_20, sM_21, sM_22, sM_23, sM_24, sM_25, sM_26, sM_27, sM_28, sM_29]
        simp only [dm_sj_1, eN, c1, dm_sj_u, nI_1]
        have ef : vp_updL (mn_z0 u i) i 0 = mn_z0 u (i + 1) := by
          funext j
          unfold vp_updL mn_z0
          by_cases z : j = i
          · rw [if_pos z, if_pos (by omega)]
          · rw [if_neg z]
            by_cases y : j < i
            · rw [if_pos y, if_pos (by omega)]
            · rw [if_neg y, if_neg (by omega)]
        rw [ef]
        exact ⟨fun q => absurd q (nI_ge (by omega) (by omega)), fun q => ⟨vp_in_nI (by omega) (by omega), e⟩⟩
    apply hG (fun pc => pc == 2 || pc == 27) 60
    simp (config := { maxSteps := 2000000 }) [hW0, hW1, dm_fn, dm_fd, dm_x, dm_L0, dm_la, dm_t1, dm_sw, List.headD, dm_ic, dm_mk, dm_s1, dm_s2, dm_clr, dm_cs, dm_cc, dm_nb0, dm_nb1, Value.category, List.lookup, p_X11_endless, x_X11_endless, k_X11_endless, dm_cm, upd, vp_updL, dm_ui_1, dm_ui_2, dm_ul_1, dm_ul_2, sp_X11_lastCost, sM_0, sM_1, sM_2, sM_3, sM_4, sM_5, sM_6, sM_7, sM_8, sM_9, sM_10, sM_11, sM_12, sM_13, sM_14, sM_15, sM_16, sM_17, sM_18, sM_19, sM_20, sM_21, sM_22, sM_23, sM_24, sM_25, sM_26, sM_27, sM_28, sM_29]
    have e := fill N 0 (by omega)
    rw [show mn_z0 u 0 = u.2 19 from by funext j; simp [mn_z0], dm_sj_self] at e
    exact e
  · exact h.elim
set_option maxRecDepth 100000 in
theorem t_X11_endless (l : Launch) (D : va_G) (cA : Nat → ClassId) (ad : Nat → Nat) : dm_Met l D dm_cl cA ad shM yX11_endless (Cond.code yX11_endless cX11_endless 4 (dm_rt 3) :: dm_tt) ({ frames := 1, cells := 0, slots := 0, locals := 21 } : Room) sp_X11_endless := dm_meth (own := RX11) (X := x_X11_endless) (Sp := k_X11_endless) (prog := p_X11_endless) (by decide +kernel) rfl rfl (dm_FO_s ffX11 [(13, 11, 3), (17, 11, 4), (23, 11, 6), (65, 11, 25), (109, 11, 0), (123, 11, 1)] rfl dm_hT (by decide +kernel)) (dm_IO_s ifX11 jfX11 [] [(130, -2)] rfl rfl dm_hT (by decide +kernel) (by decide +kernel)) soM (dm_MO_of (List.forall_mem_cons.mpr ⟨dm_M1_of (t_X11_lastCost l D cA ad) dm_hT (dm_mem [1156, 77, 1153] (by decide +kernel) (by decide +kernel)) (by decide) (by decide +kernel) (Or.inr ⟨by decide, dm_mem [1155, 53] (by decide +kernel) (by decide +kernel), rfl⟩), fun _ h => absurd h List.not_mem_nil⟩)) v_X11_endless u_X11_endless
end
section
def sp_X11_assign (As : List Value) (u : dm_S) (Q : Option Value → dm_S → Prop) : Prop := match As with
  | [.ref 0, .int n] => (1 ≤ n ∧ n ≤ 8 → Q (some (.int 1)) (dm_fi (dm_ui u 0 27 n) 22 64 0)) ∧ (¬ (1 ≤ n ∧ n ≤ 8) → Q (some (.int 0)) u)
  | _ => False
def p_X11_assign : List dm_I := [(0, .iload_n 1, 1, [1]), (1, .iconst 1, 1, []), (2, .if_icmp .lt 9, 3, [11]), (5, .iload_n 1, 1, [1]), (6, .bipush 8, 2, []), (8, .if_icmp .le 5, 3, [13]), (11, .iconst 0, 1, []), (12, .ireturn, 1, []), (13, .aload_n 0, 1, [0]), (14, .iload_n 1, 1, [1]), (15, .putfield 239, 3, []), (18, .iconst 0, 1, []), (19, .istore_n 2, 1, [2]), (20, .iload_n 2, 1, [2]), (21, .bipush 64, 2, []), (23, .if_icmp .ge 16, 3, [39]), (26, .aload_n 0, 1, [0]), (27, .getfield 74, 3, []), (30, .iload_n 2, 1, [2]), (31, .iconst 0, 1, []), (32, .bastore, 1, []), (33, .iinc 2 1, 3, []), (36, .goto (-16), 3, [20]), (39, .iconst 1, 1, []), (40, .ireturn, 1, [])]
set_option maxRecDepth 100000 in
theorem v_X11_assign : p_X11_assign.all (dm_vb cX11_assign) = true := by decide +kernel
def k_X11_assign : dm_Sp := fun a => match a with
  | _ => fun _ _ _ => False
def x_X11_assign : dm_X := dm_mk [(74, 11, 29), (239, 11, 27)] [] [] [] 3
set_option maxRecDepth 100000 in
set_option maxHeartbeats 400000 in
theorem u_X11_assign : dm_Pure shM x_X11_assign k_X11_assign p_X11_assign 3 sp_X11_assign := by
  intro As u Qp h
  unfold sp_X11_assign at h
  split at h
  · rename_i n
    obtain ⟨h1, h2⟩ := h
    refine ⟨Nat.le_of_ble_eq_true rfl, fun G Wp hW0 hW1 hG => ?_⟩
    have loop : Qp (some (.int 1)) (dm_fi (dm_ui u 0 27 n) 22 64 0) → ∀ k i : Nat, i + k = 64 → G 20 [some (.ref 0), some (.int n), some (.int (nI i))] [] (dm_fi (dm_ui u 0 27 n) 22 i 0) := by
      intro h k
      induction k with
      | zero =>
        intro i hi
        apply hG (fun pc => pc == 20) 30
        simp (config := { maxSteps := 2000000 }) [hW0, hW1, dm_fn, dm_fd, dm_x, dm_L0, dm_la, dm_t1, dm_sw, List.headD, dm_ic, dm_mk, dm_s1, dm_s2, dm_clr, dm_cs, dm_cc, dm_nb0, dm_nb1, Value.category, List.lookup, p_X11_assign, x_X11_assign, k_X11_assign, dm_cm, upd, vp_updL, dm_ui_1, dm_ui_2, dm_ul_1, dm_ul_2, sM_0, sM_1, sM_2, sM_3, sM_4, sM_5, sM_6, sM_7, sM_8, sM_9, sM_10, sM_11, sM_12, sM_13, sM_14, sM_15, sM_16, sM_17, sM_18, sM_19, sM_20, sM_21, sM_22, sM_23, sM_24, sM_25, sM_26, sM_27, sM_28, sM_29]
        have e : i = 64 := by omega
        subst e
        exact ⟨fun _ => h, fun q => absurd q (nI_nlt (a := 64) (b := 64) (Nat.le_refl _) (by omega))⟩
      | succ k ih =>
        intro i hi
        have e := ih (i + 1) (by omega)
        apply hG (fun pc => pc == 20) 30
        simp (config := { maxSteps := 2000000 }) [hW0, hW1, dm_fn, dm_fd, dm_x, dm_L0, dm_la, dm_t1, dm_sw, List.headD, dm_ic, dm_mk, dm_s1, dm_s2, dm_clr, dm_cs, dm_cc, dm_nb0, dm_nb1, Value.category, List.lookup, p_X11_assign, x_X11_assign, k_X11_assign, dm_cm, upd, vp_updL, dm_ui_1, dm_ui_2, dm_ul_1, dm_ul_2, sM_0, sM_1, sM_2, sM_3, sM_4, sM_5, sM_6, sM_7, sM_8, sM_9, sM_10, sM_11, sM_12, sM_13, sM_14, sM_15, sM_16, sM_17, sM_18, sM_19, sM_20, sM_21, sM_22, sM_23, sM_24, sM_25, sM_26, sM_27, sM_28, sM_29]
        rw [nI_clamp (by omega), dm_fi_s, nI_1]
        exact ⟨fun q => absurd q (nI_ge (b := 64) (by omega) (by omega)), fun q => ⟨vp_in_nI (by omega) (by omega), e⟩⟩
    apply hG (fun pc => pc == 20) 30
    simp (config := { maxSteps := 2000000 }) [hW0, hW1, dm_fn, dm_fd, dm_x, dm_L0, dm_la, dm_t1, dm_sw, List.headD, dm_ic, dm_mk, dm_s1, dm_s2, dm_clr, dm_cs, dm_cc, dm_nb0, dm_nb1, Value.category, List.lookup, p_X11_assign, x_X11_assign, k_X11_assign, dm_cm, upd, vp_updL, dm_ui_1, dm_ui_2, dm_ul_1, dm_ul_2, sM_0, sM_1, sM_2, sM_3, sM_4, sM_5, sM_6, sM_7, sM_8, sM_9, sM_10, sM_11, sM_12, sM_13, sM_14, sM_15, sM_16, sM_17, sM_18, sM_19, sM_20, sM_21, sM_22, sM_23, sM_24, sM_25, sM_26, sM_27, sM_28, sM_29]
    have e := fun hh => loop hh 64 0 (by omega)
    rw [dm_fi_0] at e
    exact ⟨fun q => h2 (fun z => dm_i_le.mpr q z.1), fun q => ⟨fun q2 => e (h1 ⟨q, q2⟩), fun q2 => h2 (fun z => dm_i_le.mpr q2 z.2)⟩⟩
  · exact h.elim
set_option maxRecDepth 100000 in
theorem t_X11_assign (l : Launch) (D : va_G) (cA : Nat → ClassId) (ad : Nat → Nat) : dm_Met l D dm_cl cA ad shM yX11_assign (Cond.code yX11_assign cX11_assign 3 (dm_rt 3) :: dm_tt) ({ frames := 0, cells := 0, slots := 0, locals := 0 } : Room) sp_X11_assign := dm_meth (own := RX11) (X := x_X11_assign) (Sp := k_X11_assign) (prog := p_X11_assign) (by decide +kernel) rfl rfl (dm_FO_s ffX11 [(74, 11, 29), (239, 11, 27)] rfl dm_hT (by decide +kernel)) (dm_IO_s ifX11 jfX11 [] [] rfl rfl dm_hT (by decide +kernel) (by decide +kernel)) soM (dm_MO_of (fun _ h => absurd h List.not_mem_nil)) v_X11_assign u_X11_assign
end
section
/-- what span and keeps need of the state, an ARC a given -/
def sp_lim (u : dm_S) (x : Int32) (N M : Nat) (fr tr pt : Nat → Nat) (C : Nat) (nb bg en : Nat → Nat) (a p : Nat) : Prop := cn_ok u N M fr tr pt ∧ wg_ok u C nb bg en ∧ (a < M ∧ x = nI a) ∧ (p < 320 ∧ u.1 19 a = nI p)
def lm_lo (u : dm_S) (N : Nat) (fr tr : Nat → Nat) (C : Nat) (nb bg en : Nat → Nat) (a p : Nat) : Int64 := if wg_ds u N C nb bg en (nI p) (tr a) (fr a) = 1152921504606846976 then -1000000002 else -wg_ds u N C nb bg en (nI p) (tr a) (fr a)
def lm_hi (u : dm_S) (N : Nat) (fr tr : Nat → Nat) (C : Nat) (nb bg en : Nat → Nat) (a p : Nat) : Int64 := if wg_ds u N C nb bg en (nI p) (fr a) (tr a) = 1152921504606846976 then -1000000002 else wg_ds u N C nb bg en (nI p) (fr a) (tr a)
def sp_X10_span (As : List Value) (u : dm_S) (Q : Option Value → dm_S → Prop) : Prop := match As with
  | [.ref 0, .int x, .int y] => (0 ≤ x ∧ x < u.1 1 9 → vp_in x 80) ∧ ((u.1 0 10 = 0 ∧ (0 ≤ x ∧ x < u.1 1 9) ∧ u.1 16 x.toNatClampNeg = 1 ∧ 0 ≤ y ∧ y ≤ 1) → ∃ (N M : Nat) (fr tr pt : Nat → Nat) (C : Nat) (nb bg en : Nat → Nat) (a p : Nat), sp_lim u x N M fr tr pt C nb bg en a p ∧ (y = 0 → (lw_m u (2 * p) = 0 → Q (some (.long (-1000000002))) u) ∧ (¬ lw_m u (2 * p) = 0 → Q (some (.long (lm_lo u N fr tr C nb bg en a p))) (dm_sj u 37 (wg_ds u N C nb bg en (nI p) (tr a))))) ∧ (¬ y = 0 → (lw_m u (2 * p + 1) = 0 → Q (some (.long (-1000000002))) u) ∧ (¬ lw_m u (2 * p + 1) = 0 → Q (some (.long (lm_hi u N fr tr C nb bg en a p))) (dm_sj u 37 (wg_ds u N C nb bg en (nI p) (fr a)))))) ∧ (¬ (u.1 0 10 = 0 ∧ (0 ≤ x ∧ x < u.1 1 9) ∧ u.1 16 x.toNatClampNeg = 1 ∧ 0 ≤ y ∧ y ≤ 1) → Q (some (.long (-1000000001))) u)
  | _ => False
def p_X10_span : List dm_I := [(0, .aload_n 0, 1, [0]), (1, .getfield 91, 3, []), (4, .ifCond .ne 23, 3, [27]), (7, .aload_n 0, 1, [0]), (8, .getfield 12, 3, []), (11, .iload_n 1, 1, [1]), (12, .invokevirtual 140, 3, []), (15, .ifCond .eq 12, 3, [27]), (18, .iload_n 2, 1, [2]), (19, .ifCond .lt 8, 3, [27]), (22, .iload_n 2, 1, [2]), (23, .iconst 1, 1, []), (24, .if_icmp .le 7, 3, [31]), (27, .ldc2_w 179, 3, []), (30, .lreturn, 1, []), (31, .iload_n 2, 1, [2]), (32, .ifCond .ne 14, 3, [46]), (35, .aload_n 0, 1, [0]), (36, .getfield 46, 3, []), (39, .iload_n 1, 1, [1]), (40, .invokevirtual 181, 3, []), (43, .goto 11, 3, [54]), (46, .aload_n 0, 1, [0]), (47, .getfield 46, 3, []), (50, .iload_n 1, 1, [1]), (51, .invokevirtual 184, 3, []), (54, .lreturn, 1, [])]
set_option maxRecDepth 100000 in
theorem v_X10_span : p_X10_span.all (dm_vb cX10_span) = true := by decide +kernel
def k_X10_span : dm_Sp := fun a => match a with
  | 0 => sp_X2_isPlain
  | 1 => sp_X5_leastRate
  | 2 => sp_X5_greatestRate
  | _ => fun _ _ _ => False
def x_X10_span : dm_X := dm_mk [(12, 10, 0), (46, 10, 4), (91, 10, 10)] [] [(179, -1000000001)] [(140, 0, 1, 2), (181, 1, 1, 5), (184, 2, 1, 5)] 2
set_option maxRecDepth 100000 in
set_option maxHeartbeats 400000 in
theorem u_X10_span : dm_Pure shC x_X10_span k_X10_span p_X10_span 3 sp_X10_span := by
  intro As u Qp h
  unfold sp_X10_span at h
  split at h
  · refine ⟨Nat.le_of_ble_eq_true rfl, fun G Wp hW0 hW1 hG => ?_⟩
    apply hG (fun _ => false) 28
    simp (config := { maxSteps := 2000000 }) [hW0, hW1, dm_fn, dm_fd, dm_x, dm_L0, dm_la, dm_t1, dm_sw, List.headD, dm_ic, dm_mk, dm_s1, dm_s2, dm_clr, dm_cs, dm_cc, dm_nb0, dm_nb1, Value.category, List.lookup, p_X10_span, x_X10_span, k_X10_span, dm_cm, upd, vp_updL, dm_ui_1, dm_ui_2, dm_ul_1, dm_ul_2, sp_X2_isPlain, sp_X5_leastRate, sp_X5_greatestRate, sC_0, sC_1, sC_2, sC_3, sC_4, sC_5, sC_6, sC_7, sC_8, sC_9, sC_10, sC_11, sC_12, sC_13, sC_14, sC_15, sC_16, sC_17, sC_18, sC_19, sC_20, sC_21, sC_22, sC_23, sC_24, sC_25, sC_26, sC_27, sC_28, sC_29, sC_30, sC_31, sC_32, sC_33, sC_34, sC_35, sC_36, sC_37, sC_38, sC_39, sC_40, sC_41, sC_42, sC_43, sC_44, sC_45, sC_46, sC_47, sC_48, sC_49, sC_50, sC_51]
    obtain ⟨h0, h1, h2⟩ := h
    refine ⟨fun q => h2 (fun z => q z.1), fun q => ⟨fun a1 a2 => h0 ⟨a1, a2⟩, fun q1 => h2 (fun z => q1 z.2.1.1 z.2.1.2 z.2.2.1), fun a1 a2 a3 => ⟨fun q1 => h2 (fun z => dm_i_le.mpr q1 z.2.2.2.1), fun y1 => ⟨fun y2 => ?_, fun q1 => h2 (fun z => dm_i_le.mpr q1 z.2.2.2.2)⟩⟩⟩⟩
    obtain ⟨N, M, fr, tr, pt, C, nb, bg, en, a, p, ⟨g1, g2, g3, g4⟩, g5, g6⟩ := h1 ⟨q, ⟨a1, a2⟩, a3, y1, y2⟩
    clear h1 h2 h0 hG hW0 hW1
    refine ⟨fun z => ?_, fun z => ?_⟩
    · refine ⟨N, M, fr, tr, ⟨pt, g1⟩, C, nb, bg, en, g2, a, g3, p, g4, ?_⟩
      exact (g6 z)
    · refine ⟨N, M, fr, tr, ⟨pt, g1⟩, C, nb, bg, en, g2, a, g3, p, g4, ?_⟩
      exact (g5 z)
  · exact h.elim
set_option maxRecDepth 100000 in
theorem t_X10_span (l : Launch) (D : va_G) (cA : Nat → ClassId) (ad : Nat → Nat) : dm_Met l D dm_cl cA ad shC yX10_span (Cond.code yX10_span cX10_span 3 (dm_rt 2) :: dm_tt) ({ frames := 4, cells := 0, slots := 0, locals := 96 } : Room) sp_X10_span := dm_meth (own := RX10) (X := x_X10_span) (Sp := k_X10_span) (prog := p_X10_span) (by decide +kernel) rfl rfl (dm_FO_s ffX10 [(12, 10, 0), (46, 10, 4), (91, 10, 10)] rfl dm_hT (by decide +kernel)) (dm_IO_s ifX10 jfX10 [] [(179, -1000000001)] rfl rfl dm_hT (by decide +kernel) (by decide +kernel)) soC (dm_MO_of (List.forall_mem_cons.mpr ⟨dm_M1_of (t_X2_isPlain l D cA ad) dm_hT (dm_mem [529, 67, 526] (by decide +kernel) (by decide +kernel)) (by decide) (by decide +kernel) (Or.inr ⟨by decide, dm_mem [527, 528] (by decide +kernel) (by decide +kernel), rfl⟩), List.forall_mem_cons.mpr ⟨dm_M1_of (t_X5_leastRate l D cA ad) dm_hT (dm_mem [864, 71, 861] (by decide +kernel) (by decide +kernel)) (by decide) (by decide +kernel) (Or.inr ⟨by decide, dm_mem [862, 863] (by decide +kernel) (by decide +kernel), rfl⟩), List.forall_mem_cons.mpr ⟨dm_M1_of (t_X5_greatestRate l D cA ad) dm_hT (dm_mem [874, 71, 871] (by decide +kernel) (by decide +kernel)) (by decide) (by decide +kernel) (Or.inr ⟨by decide, dm_mem [872, 873] (by decide +kernel) (by decide +kernel), rfl⟩), fun _ h => absurd h List.not_mem_nil⟩⟩⟩)) v_X10_span u_X10_span
end
section
/-! ===== sums of whole numbers ===== -/
def sI (f : Nat → Int) : Nat → Int
  | 0 => 0
  | n + 1 => sI f n + f n
theorem sI_cg {f g : Nat → Int} : ∀ {n : Nat}, (∀ i, i < n → f i = g i) → sI f n = sI g n
  | 0, _ => rfl
  | n + 1, h => by
    show sI f n + f n = sI g n + g n
    rw [sI_cg (fun i hi => h i (by omega)), h n (by omega)]
theorem sI_le {f g : Nat → Int} : ∀ {n : Nat}, (∀ i, i < n → f i ≤ g i) → sI f n ≤ sI g n
  | 0, _ => Int.le_refl _
  | n + 1, h => by
    have h1 := sI_le (n := n) (fun i hi => h i (by omega))
    have h2 := h n (by omega)
    show sI f n + f n ≤ sI g n + g n
    omega
theorem sI_add {f g : Nat → Int} : ∀ {n : Nat}, sI (fun i => f i + g i) n = sI f n + sI g n
  | 0 => rfl
  | n + 1 => by
    have h1 := sI_add (f := f) (g := g) (n := n)
    show sI (fun i => f i + g i) n + (f n + g n) = sI f n + f n + (sI g n + g n)
    omega
theorem sI_sub {f g : Nat → Int} : ∀ {n : Nat}, sI (fun i => f i - g i) n = sI f n - sI g n
  | 0 => rfl
  | n + 1 => by
    have h1 := sI_sub (f := f) (g := g) (n := n)
    show sI (fun i => f i - g i) n + (f n - g n) = sI f n + f n - (sI g n + g n)
    omega
theorem sI_mul {a : Int} {f : Nat → Int} : ∀ {n : Nat}, sI (fun i => a * f i) n = a * sI f n
  | 0 => by simp [sI]
  | n + 1 => by
    have h1 := sI_mul (a := a) (f := f) (n := n)
    show sI (fun i => a * f i) n + a * f n = a * (sI f n + f n)
    rw [h1, Int.mul_add]
theorem sI_0 {f : Nat → Int} : ∀ {n : Nat}, (∀ i, i < n → f i = 0) → sI f n = 0
  | 0, _ => rfl
  | n + 1, h => by
    have h1 := sI_0 (n := n) (fun i hi => h i (by omega))
    have h2 := h n (by omega)
    show sI f n + f n = 0
    omega
theorem sI_ge0 {f : Nat → Int} : ∀ {n : Nat}, (∀ i, i < n → 0 ≤ f i) → 0 ≤ sI f n
  | 0, _ => Int.le_refl _
  | n + 1, h => by
    have h1 := sI_ge0 (n := n) (fun i hi => h i (by omega))
    have h2 := h n (by omega)
    show 0 ≤ sI f n + f n
    omega
/-- pointwise no greater, and the sums no less: pointwise the same -/
theorem sI_eq {f g : Nat → Int} : ∀ {n : Nat}, (∀ i, i < n → f i ≤ g i) → sI g n ≤ sI f n → ∀ i, i < n → f i = g i
  | 0, _, _ => fun i hi => absurd hi (Nat.not_lt_zero _)
  | n + 1, h, hs => by
    have h1 := sI_le (n := n) (fun i hi => h i (by omega))
    have h2 := h n (by omega)
    have h3 : sI g n + g n ≤ sI f n + f n := hs
    intro i hi
    rcases Nat.lt_or_ge i n with y | y
    · exact sI_eq (n := n) (fun i hi => h i (by omega)) (by omega) i y
    · rw [show i = n by omega]; omega
theorem sI_one {k : Nat} {a : Int} : ∀ {n : Nat}, sI (fun i => if i = k then a else 0) n = if k < n then a else 0
  | 0 => by simp [sI]
  | n + 1 => by
    have h1 := sI_one (k := k) (a := a) (n := n)
    show sI (fun i => if i = k then a else 0) n + (if n = k then a else 0) = _
    rw [h1]
    by_cases h : n = k
    · rw [if_neg (by omega), if_pos h, if_pos (by omega)]; omega
    · rw [if_neg h]
      by_cases h2 : k < n
      · rw [if_pos h2, if_pos (by omega)]; omega
      · rw [if_neg h2, if_neg (by omega)]; omega
theorem sI_swap {f : Nat → Nat → Int} {m : Nat} : ∀ {n : Nat}, sI (fun i => sI (fun j => f i j) m) n = sI (fun j => sI (fun i => f i j) n) m
  | 0 => (sI_0 (fun _ _ => rfl)).symm
  | n + 1 => by
    have h1 := sI_swap (f := f) (m := m) (n := n)
    show sI (fun i => sI (fun j => f i j) m) n + sI (fun j => f n j) m = sI (fun j => sI (fun i => f i j) n + f n j) m
    rw [sI_add, h1]
/-- the same, one place changed -/
def uI (f : Nat → Int) (k : Nat) (a : Int) : Nat → Int := fun i => if i = k then a else f i
theorem uI_at {f : Nat → Int} {k : Nat} {a : Int} : uI f k a k = a := if_pos rfl
theorem uI_ne {f : Nat → Int} {k i : Nat} {a : Int} (h : i ≠ k) : uI f k a i = f i := if_neg h
theorem sI_upd {f : Nat → Int} {k n : Nat} {a : Int} (h : k < n) : sI (uI f k a) n = sI f n + (a - f k) := by
  have e : sI (uI f k a) n = sI (fun i => f i + (if i = k then a - f k else 0)) n := sI_cg (fun i _ => by
    unfold uI
    by_cases h : i = k
    · rw [if_pos h, if_pos h, h]; omega
    · rw [if_neg h, if_neg h]; omega)
  rw [e, sI_add, sI_one, if_pos h]
/-- one term is no greater than the sum of terms not below 0 -/
theorem sI_term {f : Nat → Int} {n k : Nat} (h : ∀ i, i < n → 0 ≤ f i) (hk : k < n) : f k ≤ sI f n := by
  have h1 : sI (fun i => if i = k then f k else 0) n ≤ sI f n := sI_le (fun i hi => by
    show (if i = k then f k else 0) ≤ f i
    by_cases e : i = k
    · rw [if_pos e, e]; exact Int.le_refl _
    · rw [if_neg e]; exact h i hi)
  rw [sI_one, if_pos hk] at h1
  exact h1
theorem sI_const {a : Int} : ∀ {n : Nat}, sI (fun _ => a) n = n * a
  | 0 => by simp [sI]
  | n + 1 => by
    have h1 := sI_const (a := a) (n := n)
    show sI (fun _ => a) n + a = _
    rw [h1, Int.natCast_add, Int.add_mul]; omega
theorem sI_bd {f : Nat → Int} {n : Nat} {a : Int} (h : ∀ i, i < n → f i ≤ a) : sI f n ≤ n * a := by
  rw [← sI_const (a := a)]
  exact sI_le h

/-! ===== a net of lanes: what leaves a node, cuts, prices ===== -/
/-- what leaves v along the lanes, less what comes -/
def dv (K : Nat) (b e : Nat → Nat) (x : Nat → Int) (v : Nat) : Int := sI (fun l => (if b l = v then x l else 0) - (if e l = v then x l else 0)) K
theorem dv_sbp {n K : Nat} {b e : Nat → Nat} {x p : Nat → Int} (hb : ∀ l, l < K → b l < n ∧ e l < n) : sI (fun v => p v * dv K b e x v) n = sI (fun l => x l * (p (b l) - p (e l))) K := by
  have e1 : sI (fun v => p v * dv K b e x v) n = sI (fun v => sI (fun l => p v * ((if b l = v then x l else 0) - (if e l = v then x l else 0))) K) n := sI_cg (fun v _ => by
    unfold dv
    rw [sI_mul])
  rw [e1, sI_swap]
  refine sI_cg (fun l hl => ?_)
  obtain ⟨h1, h2⟩ := hb l hl
  have e2 : sI (fun v => p v * ((if b l = v then x l else 0) - (if e l = v then x l else 0))) n = sI (fun v => (if v = b l then p (b l) * x l else 0) - (if v = e l then p (e l) * x l else 0)) n := sI_cg (fun v _ => by
    show p v * ((if b l = v then x l else 0) - (if e l = v then x l else 0)) = (if v = b l then p (b l) * x l else 0) - (if v = e l then p (e l) * x l else 0)
    rw [Int.mul_sub]
    congr 1
    · by_cases h : b l = v
      · rw [if_pos h, if_pos h.symm, h]
      · rw [if_neg h, if_neg (Ne.symm h), Int.mul_zero]
    · by_cases h : e l = v
      · rw [if_pos h, if_pos h.symm, h]
      · rw [if_neg h, if_neg (Ne.symm h), Int.mul_zero])
  rw [e2, sI_sub, sI_one, sI_one, if_pos h1, if_pos h2, Int.mul_sub, Int.mul_comm (x l), Int.mul_comm (x l)]
theorem dv_add {K : Nat} {b e : Nat → Nat} {x y : Nat → Int} {v : Nat} : dv K b e (fun l => x l + y l) v = dv K b e x v + dv K b e y v := by
  unfold dv
  rw [← sI_add]
  refine sI_cg (fun l _ => ?_)
  show (if b l = v then x l + y l else 0) - (if e l = v then x l + y l else 0) = _
  split <;> split <;> omega
theorem dv_mul {K : Nat} {b e : Nat → Nat} {a : Int} {x : Nat → Int} {v : Nat} : dv K b e (fun l => a * x l) v = a * dv K b e x v := by
  unfold dv
  rw [← sI_mul]
  refine sI_cg (fun l _ => ?_)
  show (if b l = v then a * x l else 0) - (if e l = v then a * x l else 0) = _
  rw [Int.mul_sub]
  split <;> split <;> simp
theorem dv_cg {K : Nat} {b e : Nat → Nat} {x y : Nat → Int} {v : Nat} (h : ∀ l, l < K → x l = y l) : dv K b e x v = dv K b e y v := by
  unfold dv
  exact sI_cg (fun l hl => by show (if b l = v then x l else 0) - (if e l = v then x l else 0) = (if b l = v then y l else 0) - (if e l = v then y l else 0); rw [h l hl])
/-- one lane's load changed -/
theorem dv_upd {K : Nat} {b e : Nat → Nat} {x : Nat → Int} {v k : Nat} {a : Int} (h : k < K) : dv K b e (uI x k (x k + a)) v = dv K b e x v + ((if b k = v then a else 0) - (if e k = v then a else 0)) := by
  have h1 : dv K b e (uI x k (x k + a)) v = dv K b e (fun l => x l + (if l = k then a else 0)) v := dv_cg (fun l _ => by
    unfold uI
    by_cases h : l = k
    · rw [if_pos h, if_pos h, h]
    · rw [if_neg h, if_neg h]; omega)
  rw [h1, dv_add]
  congr 1
  have h2 : dv K b e (fun l => if l = k then a else 0) v = sI (fun l => if l = k then ((if b k = v then a else 0) - (if e k = v then a else 0)) else 0) K := sI_cg (fun l _ => by
    show (if b l = v then (if l = k then a else 0) else 0) - (if e l = v then (if l = k then a else 0) else 0) = if l = k then ((if b k = v then a else 0) - (if e k = v then a else 0)) else 0
    by_cases h : l = k
    · rw [h]; simp
    · rw [if_neg h, if_neg h]; simp)
  rw [h2, sI_one, if_pos h]
end
section
/-! ===== least cost: what prices prove ===== -/
def fits (K : Nat) (w x : Nat → Int) : Prop := ∀ l, l < K → 0 ≤ x l ∧ x l ≤ w l
def bal (n K : Nat) (b e : Nat → Nat) (s x : Nat → Int) : Prop := ∀ v, v < n → dv K b e x v = s v
def rc (b e : Nat → Nat) (c p : Nat → Int) (l : Nat) : Int := c l + p (b l) - p (e l)
/-- under the prices p no lane with room falls -/
def pf (K : Nat) (b e : Nat → Nat) (w c p x : Nat → Int) : Prop := ∀ l, l < K → (rc b e c p l < 0 → x l = w l) ∧ (0 < rc b e c p l → x l = 0)
def ct (K : Nat) (c x : Nat → Int) : Int := sI (fun l => c l * x l) K
def nd (n K : Nat) (b e : Nat → Nat) : Prop := ∀ l, l < K → b l < n ∧ e l < n
theorem rc_sum {n K : Nat} {b e : Nat → Nat} {c p x : Nat → Int} (hb : nd n K b e) : sI (fun l => rc b e c p l * x l) K = ct K c x + sI (fun v => p v * dv K b e x v) n := by
  rw [dv_sbp hb, ct, ← sI_add]
  refine sI_cg (fun l _ => ?_)
  show (c l + p (b l) - p (e l)) * x l = c l * x l + x l * (p (b l) - p (e l))
  rw [Int.mul_comm (x l), ← Int.add_mul]
  congr 1
  omega
theorem pf_le {K : Nat} {b e : Nat → Nat} {w c p x y : Nat → Int} (h : pf K b e w c p x) (hy : fits K w y) : ∀ l, l < K → rc b e c p l * x l ≤ rc b e c p l * y l := by
  intro l hl
  obtain ⟨h1, h2⟩ := h l hl
  obtain ⟨h3, h4⟩ := hy l hl
  rcases Int.lt_trichotomy (rc b e c p l) 0 with q | q | q
  · rw [h1 q]
    exact Int.mul_le_mul_of_nonpos_left (Int.le_of_lt q) h4
  · rw [q]; omega
  · rw [h2 q]
    exact Int.mul_le_mul_of_nonneg_left h3 (Int.le_of_lt q)
theorem bal_sum {n K : Nat} {b e : Nat → Nat} {s p x : Nat → Int} (h : bal n K b e s x) : sI (fun v => p v * dv K b e x v) n = sI (fun v => p v * s v) n := sI_cg (fun v hv => by show p v * dv K b e x v = p v * s v; rw [h v hv])
theorem pf_opt {n K : Nat} {b e : Nat → Nat} {w c p s x y : Nat → Int} (hb : nd n K b e) (h : pf K b e w c p x) (hx : bal n K b e s x) (hy : bal n K b e s y) (fy : fits K w y) : ct K c x ≤ ct K c y := by
  have h1 := rc_sum (c := c) (p := p) (x := x) hb
  have h2 := rc_sum (c := c) (p := p) (x := y) hb
  rw [bal_sum hx] at h1
  rw [bal_sum hy] at h2
  have h3 := sI_le (n := K) (pf_le h fy)
  omega
theorem pf_all {n K : Nat} {b e : Nat → Nat} {w c p s x y : Nat → Int} (hb : nd n K b e) (h : pf K b e w c p x) (hx : bal n K b e s x) (hy : bal n K b e s y) (fy : fits K w y) (hc : ct K c y ≤ ct K c x) : pf K b e w c p y := by
  have h1 := rc_sum (c := c) (p := p) (x := x) hb
  have h2 := rc_sum (c := c) (p := p) (x := y) hb
  rw [bal_sum hx] at h1
  rw [bal_sum hy] at h2
  have h3 := sI_eq (n := K) (pf_le h fy) (by omega)
  intro l hl
  obtain ⟨q1, q2⟩ := h l hl
  have h4 := h3 l hl
  refine ⟨fun q => ?_, fun q => ?_⟩
  · rw [← q1 q]; exact (Int.eq_of_mul_eq_mul_left (by omega) h4).symm
  · rw [← q2 q]; exact (Int.eq_of_mul_eq_mul_left (by omega) h4).symm
/-! ===== THE SET: two searches that can't go on have seen the same ===== -/
def ind (S : Nat → Bool) (v : Nat) : Int := if S v then 1 else 0
theorem ind_t {S : Nat → Bool} {v : Nat} (h : S v = true) : ind S v = 1 := by rw [ind, if_pos h]
theorem ind_f {S : Nat → Bool} {v : Nat} (h : S v = false) : ind S v = 0 := by rw [ind, if_neg (by rw [h]; decide)]
/-- a search from all that is too much can't go on: S is what it saw -/
def stk (n K : Nat) (b e : Nat → Nat) (en : Nat → Bool) (w s x : Nat → Int) (S : Nat → Bool) : Prop :=
  (∀ l, l < K → S (b l) = true → S (e l) = false → x l = w l ∧ en l = false) ∧ (∀ l, l < K → S (b l) = false → S (e l) = true → x l = 0) ∧
  (∀ v, v < n → 0 < s v - dv K b e x v → S v = true) ∧ (∀ v, v < n → s v - dv K b e x v < 0 → S v = false) ∧
  (∀ T : Nat → Bool, (∀ l, l < K → T (b l) = true → T (e l) = false → x l = w l) → (∀ l, l < K → T (b l) = false → T (e l) = true → x l = 0) → (∀ v, v < n → 0 < s v - dv K b e x v → T v = true) → ∀ v, v < n → S v = true → T v = true)
theorem cut_sum {n K : Nat} {b e : Nat → Nat} {s x : Nat → Int} (hb : nd n K b e) (S : Nat → Bool) : sI (fun v => ind S v * (s v - dv K b e x v)) n = sI (fun v => ind S v * s v) n - sI (fun l => x l * (ind S (b l) - ind S (e l))) K := by
  rw [← dv_sbp hb, ← sI_sub]
  exact sI_cg (fun v _ => Int.mul_sub _ _ _)
/-- lane by lane: what is left of the cut's sums -/
theorem stk_lane {K : Nat} {b e : Nat → Nat} {en : Nat → Bool} {w w' x y : Nat → Int} {S : Nat → Bool} (hw : ∀ l, l < K → en l = false → w l = w' l) (h1 : ∀ l, l < K → S (b l) = true → S (e l) = false → x l = w l ∧ en l = false) (h2 : ∀ l, l < K → S (b l) = false → S (e l) = true → x l = 0) (fy : fits K w' y) : ∀ l, l < K → y l * (ind S (b l) - ind S (e l)) ≤ x l * (ind S (b l) - ind S (e l)) := by
  intro l hl
  obtain ⟨q1, q2⟩ := fy l hl
  cases eb : S (b l) <;> cases ee : S (e l)
  · rw [ind_f eb, ind_f ee]; simp
  · rw [ind_f eb, ind_t ee, h2 l hl eb ee]; omega
  · obtain ⟨q3, q4⟩ := h1 l hl eb ee
    rw [ind_t eb, ind_f ee, q3, hw l hl q4]; omega
  · rw [ind_t eb, ind_t ee]; simp
theorem stk_one {n K : Nat} {b e : Nat → Nat} {en : Nat → Bool} {w w' s x y : Nat → Int} {S T : Nat → Bool} (hb : nd n K b e) (hw : ∀ l, l < K → en l = false → w l = w' l) (fx : fits K w x) (fy : fits K w' y) (hS : stk n K b e en w s x S) (hT : stk n K b e en w' s y T) : ∀ v, v < n → S v = true → T v = true := by
  obtain ⟨a1, a2, a3, a4, a5⟩ := hS
  obtain ⟨b1, b2, b3, b4, -⟩ := hT
  have p1 : ∀ v, v < n → ind T v * (s v - dv K b e x v) ≤ ind S v * (s v - dv K b e x v) := by
    intro v hv
    cases eS : S v <;> cases eT : T v
    · rw [ind_f eS, ind_f eT]; exact Int.le_refl _
    · have := a3 v hv
      rw [ind_f eS, ind_t eT]
      have h : ¬ 0 < s v - dv K b e x v := fun q => by rw [eS] at this; exact absurd (this q) (by decide)
      omega
    · have := a4 v hv
      rw [ind_t eS, ind_f eT]
      have h : ¬ s v - dv K b e x v < 0 := fun q => by rw [eS] at this; exact absurd (this q) (by decide)
      omega
    · rw [ind_t eS, ind_t eT]; exact Int.le_refl _
  have p2 : ∀ v, v < n → ind S v * (s v - dv K b e y v) ≤ ind T v * (s v - dv K b e y v) := by
    intro v hv
    cases eS : S v <;> cases eT : T v
    · rw [ind_f eS, ind_f eT]; exact Int.le_refl _
    · have := b4 v hv
      rw [ind_f eS, ind_t eT]
      have h : ¬ s v - dv K b e y v < 0 := fun q => by rw [eT] at this; exact absurd (this q) (by decide)
      omega
    · have := b3 v hv
      rw [ind_t eS, ind_f eT]
      have h : ¬ 0 < s v - dv K b e y v := fun q => by rw [eT] at this; exact absurd (this q) (by decide)
      omega
    · rw [ind_t eS, ind_t eT]; exact Int.le_refl _
  have q1 := stk_lane hw a1 a2 fy
  have q2 := stk_lane (w := w') (w' := w) (fun l hl h => (hw l hl h).symm) b1 b2 fx
  have r1 := sI_le p1
  have r2 := sI_le p2
  have r3 := sI_le q1
  have r4 := sI_le q2
  rw [cut_sum hb, cut_sum hb] at r1 r2
  have t1 := sI_eq p1 (by rw [cut_sum hb, cut_sum hb]; omega)
  have t2 := sI_eq q2 (by omega)
  refine a5 T (fun l hl e1 e2 => ?_) (fun l hl e1 e2 => ?_) (fun v hv hp => ?_)
  · obtain ⟨g1, g2⟩ := b1 l hl e1 e2
    have := t2 l hl
    rw [ind_t e1, ind_f e2, g1] at this
    have := hw l hl g2
    omega
  · have g1 := b2 l hl e1 e2
    have := t2 l hl
    rw [ind_f e1, ind_t e2, g1] at this
    omega
  · have g1 := a3 v hv hp
    have := t1 v hv
    cases eT : T v
    · rw [ind_t g1, ind_f eT] at this; omega
    · rfl
end
section
/-! ===== least costs along ways: what passes come to, whatever their order ===== -/
def fAR : Int := 1152921504606846976
/-- what stays true while values fall along ways: T is closed, U is no greater -/
def dI (n C : Nat) (bg en : Nat → Nat) (wt : Nat → Int) (on : Nat → Bool) (V0 V : Nat → Int) : Prop :=
  (∀ v, v < n → V v ≤ V0 v) ∧ ∀ (T : Nat → Prop) (U : Nat → Int), (∀ j, j < C → on j = true → T (bg j) → T (en j) ∧ U (en j) ≤ U (bg j) + wt j) → (∀ v, v < n → V0 v ≠ fAR → T v ∧ U v ≤ V0 v) → ∀ v, v < n → V v ≠ fAR → T v ∧ U v ≤ V v
/-- nothing falls any more -/
def dR (C : Nat) (bg en : Nat → Nat) (wt : Nat → Int) (on : Nat → Bool) (V : Nat → Int) : Prop := ∀ j, j < C → on j = true → V (bg j) ≠ fAR → V (en j) ≤ V (bg j) + wt j
def dF (n C : Nat) (bg en : Nat → Nat) (wt : Nat → Int) (on : Nat → Bool) : Prop := ∀ j, j < C → on j = true → (bg j < n ∧ en j < n) ∧ -1000000 ≤ wt j ∧ wt j ≤ 1000000
theorem dI_0 {n C : Nat} {bg en : Nat → Nat} {wt : Nat → Int} {on : Nat → Bool} {V0 : Nat → Int} : dI n C bg en wt on V0 V0 := ⟨fun v _ => Int.le_refl _, fun _ _ _ h v hv hn => h v hv hn⟩
theorem dI_s {n C : Nat} {bg en : Nat → Nat} {wt : Nat → Int} {on : Nat → Bool} {V0 V : Nat → Int} (h : dI n C bg en wt on V0 V) (hf : dF n C bg en wt on) {j : Nat} (hj : j < C) (ho : on j = true) (hb : V (bg j) ≠ fAR) (hl : V (bg j) + wt j < V (en j)) : dI n C bg en wt on V0 (uI V (en j) (V (bg j) + wt j)) := by
  obtain ⟨h1, h2⟩ := h
  obtain ⟨⟨f1, f2⟩, -⟩ := hf j hj ho
  refine ⟨fun v hv => ?_, fun T U hc h0 v hv hn => ?_⟩
  · by_cases e : v = en j
    · rw [e, uI_at]; have := h1 _ f2; omega
    · rw [uI_ne e]; exact h1 v hv
  · by_cases e : v = en j
    · obtain ⟨a1, a2⟩ := h2 T U hc h0 (bg j) f1 hb
      obtain ⟨b1, b2⟩ := hc j hj ho a1
      rw [e, uI_at]
      exact ⟨b1, by omega⟩
    · rw [uI_ne e] at hn ⊢
      exact h2 T U hc h0 v hv hn
/-- passes come to an end where values can't fall below a bound -/
theorem dI_ex {n C : Nat} {bg en : Nat → Nat} {wt : Nat → Int} {on : Nat → Bool} {V0 : Nat → Int} {L : Int} (hf : dF n C bg en wt on) (hL : ∀ V, dI n C bg en wt on V0 V → ∀ v, v < n → L ≤ V v) : ∃ V, dI n C bg en wt on V0 V ∧ dR C bg en wt on V := by
  suffices h : ∀ (k : Nat) (V : Nat → Int), dI n C bg en wt on V0 V → sI V n - n * L ≤ k → ∃ V, dI n C bg en wt on V0 V ∧ dR C bg en wt on V by
    exact h (sI V0 n - n * L).toNat V0 dI_0 (by omega)
  intro k
  induction k with
  | zero =>
    intro V hV hs
    refine ⟨V, hV, fun j hj ho hb => ?_⟩
    rcases Int.lt_or_le (V (bg j) + wt j) (V (en j)) with q | q
    · exfalso
      have h2 := dI_s hV hf hj ho hb q
      have h3 := hL _ h2
      have h4 : n * L ≤ sI (uI V (en j) (V (bg j) + wt j)) n := by rw [← sI_const (a := L)]; exact sI_le h3
      rw [sI_upd (hf j hj ho).1.2] at h4
      omega
    · exact q
  | succ k ih =>
    intro V hV hs
    rcases Classical.em (dR C bg en wt on V) with q | q
    · exact ⟨V, hV, q⟩
    · have q2 : ∃ j, j < C ∧ on j = true ∧ V (bg j) ≠ fAR ∧ V (bg j) + wt j < V (en j) := by
        refine Classical.byContradiction fun z => q fun j hj ho hb => ?_
        rcases Int.lt_or_le (V (bg j) + wt j) (V (en j)) with y | y
        · exact absurd ⟨j, hj, ho, hb, y⟩ z
        · exact y
      obtain ⟨j, hj, ho, hb, y⟩ := q2
      refine ih _ (dI_s hV hf hj ho hb y) ?_
      rw [sI_upd (hf j hj ho).1.2]
      omega
/-- how many below n -/
def cN (P : Nat → Bool) : Nat → Nat
  | 0 => 0
  | n + 1 => cN P n + (if P n then 1 else 0)
theorem cN_le {P : Nat → Bool} : ∀ {n : Nat}, cN P n ≤ n
  | 0 => Nat.le_refl _
  | n + 1 => by
    have := cN_le (P := P) (n := n)
    show cN P n + (if P n then 1 else 0) ≤ n + 1
    split <;> omega
theorem cN_mono {P Q : Nat → Bool} : ∀ {n : Nat}, (∀ v, v < n → P v = true → Q v = true) → cN P n ≤ cN Q n
  | 0, _ => Nat.le_refl _
  | n + 1, h => by
    have h1 := cN_mono (n := n) (fun v hv => h v (by omega))
    have h2 := h n (by omega)
    show cN P n + (if P n then 1 else 0) ≤ cN Q n + (if Q n then 1 else 0)
    by_cases e : P n = true
    · rw [if_pos e, if_pos (h2 e)]; omega
    · rw [if_neg e]; omega
theorem cN_lt {P Q : Nat → Bool} : ∀ {n : Nat} {k : Nat}, (∀ v, v < n → P v = true → Q v = true) → k < n → P k = false → Q k = true → cN P n + 1 ≤ cN Q n
  | 0, _, _, hk, _, _ => absurd hk (Nat.not_lt_zero _)
  | n + 1, k, h, hk, e1, e2 => by
    have h2 := h n (by omega)
    show cN P n + (if P n then 1 else 0) + 1 ≤ cN Q n + (if Q n then 1 else 0)
    rcases Nat.lt_or_ge k n with y | y
    · have h1 := cN_lt (n := n) (fun v hv => h v (by omega)) y e1 e2
      by_cases e : P n = true
      · rw [if_pos e, if_pos (h2 e)]; omega
      · rw [if_neg e]; omega
    · have h1 := cN_mono (n := n) (fun v hv => h v (by omega))
      have e : k = n := by omega
      subst e
      rw [e1, e2]; simp; omega
theorem cN_0 {P : Nat → Bool} {n : Nat} (h : cN P n = 0) : ∀ v, v < n → P v = false := by
  intro v hv
  cases e : P v
  · rfl
  · have := cN_lt (P := fun _ => false) (Q := P) (n := n) (k := v) (fun _ _ z => by cases z) hv rfl e
    omega
theorem cN_cg {P Q : Nat → Bool} {n : Nat} (h : ∀ v, v < n → P v = Q v) : cN P n = cN Q n := by
  have h1 := cN_mono (P := P) (Q := Q) (n := n) (fun v hv z => by rw [← h v hv]; exact z)
  have h2 := cN_mono (P := Q) (Q := P) (n := n) (fun v hv z => by rw [h v hv]; exact z)
  omega
/-- a chain of sets that shrink stands still somewhere -/
theorem cN_dn {Z : Nat → Nat → Bool} {n : Nat} (h : ∀ k v, v < n → Z (k + 1) v = true → Z k v = true) : ∃ k, k ≤ n ∧ ∀ v, v < n → Z k v = true → Z (k + 1) v = true := by
  refine Classical.byContradiction fun hc => ?_
  have hs : ∀ k, k ≤ n → cN (Z (k + 1)) n + 1 ≤ cN (Z k) n := by
    intro k hk
    have h1 : ∃ v, v < n ∧ Z k v = true ∧ Z (k + 1) v = false := by
      refine Classical.byContradiction fun z => hc ⟨k, hk, fun v hv e => ?_⟩
      cases e2 : Z (k + 1) v
      · exact absurd ⟨v, hv, e, e2⟩ z
      · rfl
    obtain ⟨v, hv, e1, e2⟩ := h1
    exact cN_lt (h k) hv e2 e1
  have h2 : ∀ k, k ≤ n + 1 → cN (Z k) n + k ≤ n := by
    intro k
    induction k with
    | zero => intro _; exact cN_le
    | succ k ih => intro hk; have := ih (by omega); have := hs k (by omega); omega
  have := h2 (n + 1) (Nat.le_refl _)
  omega
theorem cN_up {Z : Nat → Nat → Bool} {n : Nat} (h : ∀ k v, v < n → Z k v = true → Z (k + 1) v = true) : ∃ k, k ≤ n ∧ ∀ v, v < n → Z (k + 1) v = true → Z k v = true := by
  obtain ⟨k, hk, h1⟩ := cN_dn (Z := fun k v => !Z k v) (n := n) (fun k v hv e => by
    cases e2 : Z k v
    · rfl
    · rw [h k v hv e2] at e; exact e)
  refine ⟨k, hk, fun v hv e => ?_⟩
  cases e2 : Z k v
  · have := h1 v hv (by rw [e2]; rfl)
    rw [e] at this; cases this
  · rfl
def d0 (n : Nat) (V0 : Nat → Int) : Prop := ∀ v, v < n → V0 v = fAR ∨ V0 v = 0
theorem dB_up {n C : Nat} {bg en : Nat → Nat} {wt : Nat → Int} {on : Nat → Bool} {V0 V : Nat → Int} (hn : n ≤ 24) (hf : dF n C bg en wt on) (h0 : d0 n V0) (h : dI n C bg en wt on V0 V) (hr : dR C bg en wt on V) : ∀ v, v < n → V v = fAR ∨ V v ≤ 24000000 := by
  obtain ⟨k, hk, hz⟩ := cN_up (Z := fun k v => decide (V v ≤ k * 1000000)) (n := n) (fun k v hv e => by
    have := of_decide_eq_true e
    exact decide_eq_true (by omega))
  intro v hv
  by_cases e : V v = fAR
  · exact Or.inl e
  · have := (h.2 (fun v => v < n ∧ V v ≤ k * 1000000) V ?_ ?_ v hv e).1.2
    · exact Or.inr (by omega)
    · rintro j hj ho ⟨t1, t2⟩
      obtain ⟨⟨f1, f2⟩, f3, f4⟩ := hf j hj ho
      have hq := hr j hj ho (by unfold fAR; omega)
      have := of_decide_eq_true (hz (en j) f2 (decide_eq_true (by omega)))
      exact ⟨⟨f2, this⟩, hq⟩
    · intro u hu hne
      have h2 := h.1 u hu
      rcases h0 u hu with y | y
      · exact absurd y hne
      · exact ⟨⟨hu, by omega⟩, h2⟩
theorem dB_lo {n C : Nat} {bg en : Nat → Nat} {wt : Nat → Int} {on : Nat → Bool} {V0 V : Nat → Int} (hn : n ≤ 24) (hf : dF n C bg en wt on) (h0 : d0 n V0) (h : dI n C bg en wt on V0 V) (hr : dR C bg en wt on V) : ∀ v, v < n → -24000000 ≤ V v := by
  have hup := dB_up hn hf h0 h hr
  obtain ⟨k, hk, hz⟩ := cN_dn (Z := fun k v => decide (V v < -(k * 1000000))) (n := n) (fun k v hv e => by
    have := of_decide_eq_true e
    exact decide_eq_true (by omega))
  intro v hv
  rcases Int.lt_or_le (V v) (-24000000) with y | y
  · exfalso
    have hv0 : V v ≠ fAR := by unfold fAR; omega
    have hq := (h.2 (fun v => v < n ∧ V v ≠ fAR) (fun v => V v + (if V v < -(k * 1000000) then 1 else 0)) ?_ ?_ v hv hv0).2
    · rw [if_pos (by omega)] at hq; omega
    · rintro j hj ho ⟨t1, t2⟩
      obtain ⟨⟨f1, f2⟩, f3, f4⟩ := hf j hj ho
      have hq := hr j hj ho t2
      refine ⟨⟨f2, fun z => ?_⟩, ?_⟩
      · rcases hup _ f1 with y | y
        · exact t2 y
        · rw [z] at hq; unfold fAR at hq; omega
      · show V (en j) + (if V (en j) < -(k * 1000000) then 1 else 0) ≤ V (bg j) + (if V (bg j) < -(k * 1000000) then 1 else 0) + wt j
        by_cases z1 : V (en j) < -(k * 1000000)
        · rw [if_pos z1]
          by_cases z2 : V (bg j) < -(k * 1000000)
          · rw [if_pos z2]; omega
          · rw [if_neg z2]
            have := of_decide_eq_true (hz (en j) f2 (decide_eq_true z1))
            omega
        · rw [if_neg z1]
          split <;> omega
    · intro u hu hne
      have h2 := h.1 u hu
      rcases h0 u hu with y | y
      · exact absurd y hne
      · refine ⟨⟨hu, by unfold fAR; omega⟩, ?_⟩
        show V u + (if V u < -(k * 1000000) then 1 else 0) ≤ V0 u
        split <;> omega
  · exact y
/-- no ring of ways falls: there are prices for them -/
def dP (C : Nat) (bg en : Nat → Nat) (wt : Nat → Int) (on : Nat → Bool) (U : Nat → Int) : Prop := ∀ j, j < C → on j = true → U (en j) ≤ U (bg j) + wt j
/-- small prices then, too -/
theorem dP_small {n C : Nat} {bg en : Nat → Nat} {wt : Nat → Int} {on : Nat → Bool} {U : Nat → Int} (hn : n ≤ 24) (hf : dF n C bg en wt on) (hU : dP C bg en wt on U) : ∃ P, dP C bg en wt on P ∧ ∀ v, v < n → -24000000 ≤ P v ∧ P v ≤ 0 := by
  have hB : ∃ B, ∀ v, v < n → U v ≤ B := ⟨sI (fun v => if U v ≤ 0 then 0 else U v) n, fun v hv => by
    have := sI_term (f := fun v => if U v ≤ 0 then 0 else U v) (n := n) (fun i _ => by show 0 ≤ if U i ≤ 0 then 0 else U i; split <;> omega) hv
    have h2 : U v ≤ if U v ≤ 0 then 0 else U v := by split <;> omega
    exact Int.le_trans h2 this⟩
  obtain ⟨B, hB⟩ := hB
  have hL : ∃ L, L ≤ 0 ∧ ∀ v, v < n → L ≤ U v - B := ⟨-sI (fun v => B - U v) n, by
    have := sI_ge0 (f := fun v => B - U v) (n := n) (fun i hi => by show 0 ≤ B - U i; have := hB i hi; omega)
    omega, fun v hv => by
    have := sI_term (f := fun v => B - U v) (n := n) (fun i hi => by show 0 ≤ B - U i; have := hB i hi; omega) hv
    have h2 : B - U v ≤ sI (fun v => B - U v) n := this
    omega⟩
  obtain ⟨L, hL0, hL⟩ := hL
  have h0 : d0 n (fun _ => 0) := fun v _ => Or.inr rfl
  obtain ⟨V, h1, h2⟩ := dI_ex (V0 := fun _ => 0) (L := L) hf (fun V hV v hv => by
    by_cases e : V v = fAR
    · rw [e]; unfold fAR; omega
    · have := (hV.2 (fun _ => True) (fun v => U v - B) (fun j hj ho _ => ⟨trivial, by have := hU j hj ho; show U (en j) - B ≤ U (bg j) - B + wt j; omega⟩) (fun v hv _ => ⟨trivial, by have := hB v hv; show U v - B ≤ 0; omega⟩) v hv e).2
      have h3 : U v - B ≤ V v := this
      have := hL v hv
      omega)
  refine ⟨V, fun j hj ho => ?_, fun v hv => ⟨dB_lo hn hf h0 h1 h2 v hv, h1.1 v hv⟩⟩
  refine h2 j hj ho ?_
  have h3 : V (bg j) ≤ 0 := h1.1 _ (hf j hj ho).1.1
  unfold fAR; omega
/-- values never fall lower than that -/
theorem dI_lo {n C : Nat} {bg en : Nat → Nat} {wt : Nat → Int} {on : Nat → Bool} {U V0 V : Nat → Int} (hn : n ≤ 24) (hf : dF n C bg en wt on) (hU : dP C bg en wt on U) (h0 : d0 n V0) (h : dI n C bg en wt on V0 V) : ∀ v, v < n → -24000000 ≤ V v := by
  obtain ⟨P, p1, p2⟩ := dP_small hn hf hU
  intro v hv
  by_cases e : V v = fAR
  · rw [e]; unfold fAR; omega
  · have := (h.2 (fun _ => True) P (fun j hj ho _ => ⟨trivial, p1 j hj ho⟩) (fun v hv hne => ⟨trivial, by
      have := (p2 v hv).2
      rcases h0 v hv with y | y
      · exact absurd y hne
      · omega⟩) v hv e).2
    have := (p2 v hv).1
    omega
theorem dI_all {n C : Nat} {bg en : Nat → Nat} {wt : Nat → Int} {on : Nat → Bool} {U V0 : Nat → Int} (hn : n ≤ 24) (hf : dF n C bg en wt on) (hU : dP C bg en wt on U) (h0 : d0 n V0) : ∃ V, dI n C bg en wt on V0 V ∧ dR C bg en wt on V := dI_ex hf (fun _ hV => dI_lo hn hf hU h0 hV)
/-- two ends are one, also over other ways with the same begins, ends and costs -/
theorem dI_le {n C C' : Nat} {bg en bg' en' : Nat → Nat} {wt wt' : Nat → Int} {on on' : Nat → Bool} {V0 V V' : Nat → Int} (hn : n ≤ 24) (hf : dF n C bg en wt on) (hf' : dF n C' bg' en' wt' on') (hs : ∀ j, j < C → on j = true → ∃ i, i < C' ∧ on' i = true ∧ bg' i = bg j ∧ en' i = en j ∧ wt' i = wt j) (h0 : d0 n V0) (h : dI n C bg en wt on V0 V) (h' : dI n C' bg' en' wt' on' V0 V') (hr : dR C' bg' en' wt' on' V') : ∀ v, v < n → V v ≠ fAR → V' v ≠ fAR ∧ V' v ≤ V v := by
  have hB := dB_up hn hf' h0 h' hr
  refine fun v hv hne => ?_
  have hq := h.2 (fun v => v < n ∧ V' v ≠ fAR) V' ?_ ?_ v hv hne
  · exact ⟨hq.1.2, hq.2⟩
  · rintro j hj ho ⟨t1, t2⟩
    obtain ⟨i, hi, oi, e1, e2, e3⟩ := hs j hj ho
    have hr1 := hr i hi oi
    rw [e1, e2, e3] at hr1
    have hr2 := hr1 t2
    obtain ⟨⟨f1, f2⟩, f3, f4⟩ := hf j hj ho
    refine ⟨⟨f2, fun z => ?_⟩, hr2⟩
    rcases hB _ f1 with y | y
    · exact t2 y
    · rw [z] at hr2; unfold fAR at hr2; omega
  · intro v hv hne
    have := h'.1 v hv
    refine ⟨⟨hv, fun z => ?_⟩, this⟩
    rcases h0 v hv with y | y
    · exact hne y
    · rw [z] at this; unfold fAR at this; omega
theorem dI_fr {n C : Nat} {bg en : Nat → Nat} {wt : Nat → Int} {on : Nat → Bool} {V0 V : Nat → Int} (h0 : d0 n V0) (h : dI n C bg en wt on V0 V) : ∀ v, v < n → V v ≤ fAR := by
  intro v hv
  have := h.1 v hv
  rcases h0 v hv with y | y
  · omega
  · unfold fAR; omega
theorem dI_eq {n C C' : Nat} {bg en bg' en' : Nat → Nat} {wt wt' : Nat → Int} {on on' : Nat → Bool} {V0 V V' : Nat → Int} (hn : n ≤ 24) (hf : dF n C bg en wt on) (hf' : dF n C' bg' en' wt' on') (hs : ∀ j, j < C → on j = true → ∃ i, i < C' ∧ on' i = true ∧ bg' i = bg j ∧ en' i = en j ∧ wt' i = wt j) (hs' : ∀ i, i < C' → on' i = true → ∃ j, j < C ∧ on j = true ∧ bg j = bg' i ∧ en j = en' i ∧ wt j = wt' i) (h0 : d0 n V0) (h : dI n C bg en wt on V0 V) (hr : dR C bg en wt on V) (h' : dI n C' bg' en' wt' on' V0 V') (hr' : dR C' bg' en' wt' on' V') : ∀ v, v < n → V v = V' v := by
  intro v hv
  have a := dI_le hn hf hf' hs h0 h h' hr' v hv
  have b := dI_le hn hf' hf hs' h0 h' h hr v hv
  by_cases e : V v = fAR
  · by_cases e2 : V' v = fAR
    · rw [e, e2]
    · exact absurd e (b e2).1
  · obtain ⟨a1, a2⟩ := a e
    have := (b a1).2
    omega
end
section
/-! ===== passes over the ways: as many as nodes are enough ===== -/
def dG (bg en : Nat → Nat) (wt : Nat → Int) (on : Nat → Bool) (V : Nat → Int) : Nat → (Nat → Int) × Bool
  | 0 => (V, false)
  | j + 1 => if on j = true ∧ ¬ (dG bg en wt on V j).1 (bg j) = fAR ∧ (dG bg en wt on V j).1 (bg j) + wt j < (dG bg en wt on V j).1 (en j) then (uI (dG bg en wt on V j).1 (en j) ((dG bg en wt on V j).1 (bg j) + wt j), true) else dG bg en wt on V j
def dT (C : Nat) (bg en : Nat → Nat) (wt : Nat → Int) (on : Nat → Bool) : Nat → (Nat → Int) → Nat → Int
  | 0, V => V
  | r + 1, V => if (dG bg en wt on V C).2 then dT C bg en wt on r (dG bg en wt on V C).1 else (dG bg en wt on V C).1
theorem dG_s {bg en : Nat → Nat} {wt : Nat → Int} {on : Nat → Bool} {V : Nat → Int} {j : Nat} : dG bg en wt on V (j + 1) = if on j = true ∧ ¬ (dG bg en wt on V j).1 (bg j) = fAR ∧ (dG bg en wt on V j).1 (bg j) + wt j < (dG bg en wt on V j).1 (en j) then (uI (dG bg en wt on V j).1 (en j) ((dG bg en wt on V j).1 (bg j) + wt j), true) else dG bg en wt on V j := rfl
theorem dG_I {n C : Nat} {bg en : Nat → Nat} {wt : Nat → Int} {on : Nat → Bool} {V0 V : Nat → Int} (hf : dF n C bg en wt on) (h : dI n C bg en wt on V0 V) : ∀ j, j ≤ C → dI n C bg en wt on V0 (dG bg en wt on V j).1
  | 0, _ => h
  | j + 1, hj => by
    have ih := dG_I hf h j (by omega)
    rw [dG_s]
    split
    · rename_i q
      exact dI_s ih hf (by omega) q.1 q.2.1 q.2.2
    · exact ih
theorem dG_dn {bg en : Nat → Nat} {wt : Nat → Int} {on : Nat → Bool} {V : Nat → Int} {i : Nat} : ∀ k v, (dG bg en wt on V (i + k)).1 v ≤ (dG bg en wt on V i).1 v
  | 0, v => Int.le_refl _
  | k + 1, v => by
    have ih := dG_dn (bg := bg) (en := en) (wt := wt) (on := on) (V := V) (i := i) k v
    rw [show i + (k + 1) = i + k + 1 from rfl, dG_s]
    split
    · rename_i q
      show uI _ _ _ v ≤ _
      by_cases e : v = en (i + k)
      · have := q.2.2
        rw [e, uI_at]
        rw [e] at ih
        omega
      · rw [uI_ne e]; exact ih
    · exact ih
/-- behind a pass each way's end is no more than its begin was before, and its cost -/
theorem dG_way {n C : Nat} {bg en : Nat → Nat} {wt : Nat → Int} {on : Nat → Bool} {V0 V : Nat → Int} (hf : dF n C bg en wt on) (h0 : d0 n V0) (h : dI n C bg en wt on V0 V) {j : Nat} (hj : j < C) (ho : on j = true) (hb : V (bg j) ≠ fAR) : (dG bg en wt on V C).1 (en j) ≤ V (bg j) + wt j := by
  have h1 := dG_dn (bg := bg) (en := en) (wt := wt) (on := on) (V := V) (i := 0) j (bg j)
  rw [Nat.zero_add] at h1
  have h1' : (dG bg en wt on V j).1 (bg j) ≤ V (bg j) := h1
  have h2 := dG_dn (bg := bg) (en := en) (wt := wt) (on := on) (V := V) (i := j + 1) (C - (j + 1)) (en j)
  rw [show j + 1 + (C - (j + 1)) = C by omega] at h2
  have hB := dI_fr h0 h (bg j) (hf j hj ho).1.1
  have h3 : (dG bg en wt on V (j + 1)).1 (en j) ≤ (dG bg en wt on V j).1 (bg j) + wt j := by
    rw [dG_s]
    split
    · show uI _ _ _ _ ≤ _
      rw [uI_at]; exact Int.le_refl _
    · rename_i q
      rcases Int.lt_or_le ((dG bg en wt on V j).1 (bg j) + wt j) ((dG bg en wt on V j).1 (en j)) with y | y
      · exact absurd ⟨ho, fun z => hb (by omega), y⟩ q
      · exact y
  omega
theorem dG_no {n C : Nat} {bg en : Nat → Nat} {wt : Nat → Int} {on : Nat → Bool} {V : Nat → Int} : ∀ j, (dG bg en wt on V j).2 = false → (dG bg en wt on V j).1 = V ∧ ∀ i, i < j → on i = true → V (bg i) ≠ fAR → V (en i) ≤ V (bg i) + wt i
  | 0, _ => ⟨rfl, fun i hi => absurd hi (Nat.not_lt_zero _)⟩
  | j + 1, h => by
    rw [dG_s] at h ⊢
    by_cases q : on j = true ∧ ¬ (dG bg en wt on V j).1 (bg j) = fAR ∧ (dG bg en wt on V j).1 (bg j) + wt j < (dG bg en wt on V j).1 (en j)
    · rw [if_pos q] at h; cases h
    · rw [if_neg q] at h ⊢
      obtain ⟨h1, h2⟩ := dG_no (n := n) (C := C) j h
      refine ⟨h1, fun i hi ho hb => ?_⟩
      rcases Nat.lt_or_ge i j with y | y
      · exact h2 i y ho hb
      · have e : i = j := by omega
        subst e
        rw [h1] at q
        rcases Int.lt_or_le (V (bg i) + wt i) (V (en i)) with z | z
        · exact absurd ⟨ho, hb, z⟩ q
        · exact z
/-- where something has not come to its end, a way leads from what has to what hasn't, and has it in the next pass -/
theorem dI_next {n C : Nat} {bg en : Nat → Nat} {wt : Nat → Int} {on : Nat → Bool} {V0 V E : Nat → Int} (hn : n ≤ 24) (hf : dF n C bg en wt on) (h0 : d0 n V0) (hV : dI n C bg en wt on V0 V) (hE : dI n C bg en wt on V0 E) (hr : dR C bg en wt on E) {v : Nat} (hv : v < n) (hne : V v ≠ E v) : ∃ j, j < C ∧ on j = true ∧ E (bg j) ≠ fAR ∧ V (bg j) = E (bg j) ∧ V (en j) ≠ E (en j) ∧ E (en j) = E (bg j) + wt j := by
  have hB := dB_up hn hf h0 hE hr
  have hge := dI_le hn hf hf (fun j hj ho => ⟨j, hj, ho, rfl, rfl, rfl⟩) h0 hV hE hr
  have hVf := dI_fr h0 hV
  have hEf := dI_fr h0 hE
  have hlt : ∀ v, v < n → V v ≠ E v → E v ≠ fAR ∧ E v < V v := by
    intro v hv hne
    by_cases e : V v = fAR
    · have := hEf v hv
      exact ⟨fun z => hne (by rw [e, z]), by omega⟩
    · obtain ⟨a, b⟩ := hge v hv e
      exact ⟨a, by omega⟩
  refine Classical.byContradiction fun hc => ?_
  have hq := (hE.2 (fun v => v < n ∧ E v ≠ fAR) (fun v => E v + (if V v = E v then 0 else 1)) ?_ ?_ v hv (hlt v hv hne).1).2
  · rw [if_neg hne] at hq; omega
  · rintro j hj ho ⟨t1, t2⟩
    obtain ⟨⟨f1, f2⟩, f3, f4⟩ := hf j hj ho
    have hq := hr j hj ho t2
    refine ⟨⟨f2, fun z => ?_⟩, ?_⟩
    · rcases hB _ f1 with y | y
      · exact t2 y
      · rw [z] at hq; unfold fAR at hq; omega
    · show E (en j) + (if V (en j) = E (en j) then 0 else 1) ≤ E (bg j) + (if V (bg j) = E (bg j) then 0 else 1) + wt j
      by_cases z1 : V (en j) = E (en j)
      · rw [if_pos z1]
        split <;> omega
      · rw [if_neg z1]
        by_cases z2 : V (bg j) = E (bg j)
        · rw [if_pos z2]
          have : E (en j) ≠ E (bg j) + wt j := fun z => hc ⟨j, hj, ho, t2, z2, z1, z⟩
          omega
        · rw [if_neg z2]; omega
  · intro u hu hne2
    have h2 := hE.1 u hu
    refine ⟨⟨hu, fun z => ?_⟩, ?_⟩
    · rcases h0 u hu with y | y
      · exact hne2 y
      · rw [z] at h2; unfold fAR at h2; omega
    · show E u + (if V u = E u then 0 else 1) ≤ V0 u
      by_cases z1 : V u = E u
      · rw [if_pos z1]; omega
      · rw [if_neg z1]
        have := (hlt u hu z1).2
        have := hV.1 u hu
        omega
theorem dT_end {n C : Nat} {bg en : Nat → Nat} {wt : Nat → Int} {on : Nat → Bool} {V0 E : Nat → Int} (hn : n ≤ 24) (hf : dF n C bg en wt on) (h0 : d0 n V0) (hE : dI n C bg en wt on V0 E) (hr : dR C bg en wt on E) : ∀ (r : Nat) (V : Nat → Int), dI n C bg en wt on V0 V → cN (fun v => !decide (V v = E v)) n ≤ r → ∀ v, v < n → dT C bg en wt on r V v = E v
  | 0, V, hV, hc => fun v hv => by
    have := cN_0 (Nat.le_zero.mp hc) v hv
    simp at this
    exact this
  | r + 1, V, hV, hc => by
    show ∀ v, v < n → (if (dG bg en wt on V C).2 then dT C bg en wt on r (dG bg en wt on V C).1 else (dG bg en wt on V C).1) v = E v
    by_cases q : (dG bg en wt on V C).2 = true
    · rw [if_pos q]
      have hI := dG_I hf hV C (Nat.le_refl _)
      refine dT_end hn hf h0 hE hr r _ hI ?_
      have hge := dI_le hn hf hf (fun j hj ho => ⟨j, hj, ho, rfl, rfl, rfl⟩) h0 hI hE hr
      have hdn : ∀ v, (dG bg en wt on V C).1 v ≤ V v := fun v => by
        have := dG_dn (bg := bg) (en := en) (wt := wt) (on := on) (V := V) (i := 0) C v
        rw [Nat.zero_add] at this
        exact this
      have hEf := dI_fr h0 hE
      have hIf := dI_fr h0 hI
      have hm : ∀ v, v < n → V v = E v → (dG bg en wt on V C).1 v = E v := by
        intro v hv e
        have h1 := hdn v
        by_cases z : (dG bg en wt on V C).1 v = fAR
        · have := hEf v hv; omega
        · have := (hge v hv z).2; omega
      rcases Nat.eq_zero_or_pos (cN (fun v => !decide (V v = E v)) n) with z | z
      · have h1 := cN_0 z
        have : cN (fun v => !decide ((dG bg en wt on V C).1 v = E v)) n ≤ cN (fun v => !decide (V v = E v)) n := cN_mono (fun v hv e => by
          have := h1 v hv
          simp at this e
          exact absurd (hm v hv this) e)
        omega
      · have hex : ∃ v, v < n ∧ V v ≠ E v := by
          refine Classical.byContradiction fun y => ?_
          have : cN (fun v => !decide (V v = E v)) n ≤ cN (fun _ => false) n := cN_mono (fun v hv e => by
            simp at e
            exact absurd ⟨v, hv, e⟩ y)
          have h3 : ∀ n, cN (fun _ => false) n = 0 := by
            intro n
            induction n with
            | zero => rfl
            | succ n ih => show cN (fun _ => false) n + _ = 0; rw [ih]; rfl
          have := h3 n
          omega
        obtain ⟨v, hv, hne⟩ := hex
        obtain ⟨j, hj, ho, j1, j2, j3, j4⟩ := dI_next hn hf h0 hV hE hr hv hne
        obtain ⟨⟨f1, f2⟩, -⟩ := hf j hj ho
        have h4 := dG_way hf h0 hV hj ho (by rw [j2]; exact j1)
        have h5 : (dG bg en wt on V C).1 (en j) = E (en j) := by
          by_cases y : (dG bg en wt on V C).1 (en j) = fAR
          · have := hEf (en j) f2
            rw [j2] at h4; omega
          · have := (hge _ f2 y).2
            rw [j2] at h4; omega
        have := cN_lt (P := fun v => !decide ((dG bg en wt on V C).1 v = E v)) (Q := fun v => !decide (V v = E v)) (n := n) (k := en j) (fun v hv e => by
          simp at e ⊢
          exact fun y => e (hm v hv y)) f2 (by simp [h5]) (by simp [j3])
        omega
    · rw [if_neg q]
      obtain ⟨a, b⟩ := dG_no (n := n) (C := C) C (by simpa using q)
      rw [a]
      exact dI_eq hn hf hf (fun j hj ho => ⟨j, hj, ho, rfl, rfl, rfl⟩) (fun j hj ho => ⟨j, hj, ho, rfl, rfl, rfl⟩) h0 hV b hE hr
/-- n passes come to the end -/
theorem dT_all {n C : Nat} {bg en : Nat → Nat} {wt : Nat → Int} {on : Nat → Bool} {U V0 : Nat → Int} (hn : n ≤ 24) (hf : dF n C bg en wt on) (hU : dP C bg en wt on U) (h0 : d0 n V0) : ∃ E, dI n C bg en wt on V0 E ∧ dR C bg en wt on E ∧ ∀ v, v < n → dT C bg en wt on n V0 v = E v := by
  obtain ⟨E, hE, hr⟩ := dI_all hn hf hU h0
  exact ⟨E, hE, hr, dT_end hn hf h0 hE hr n V0 dI_0 cN_le⟩
end
section
/-! ===== ways 2 * lane and 2 * lane + 1; trees of ways, and what is sent along one ===== -/
def wb (b e : Nat → Nat) (w : Nat) : Nat := if w % 2 = 0 then b (w / 2) else e (w / 2)
def we (b e : Nat → Nat) (w : Nat) : Nat := if w % 2 = 0 then e (w / 2) else b (w / 2)
def wr (c : Nat → Int) (w : Nat) : Int := if w % 2 = 0 then c (w / 2) else -c (w / 2)
/-- the room of a way: m the widths, x the loads -/
def wm (m x : Nat → Int) (w : Nat) : Int := if w % 2 = 0 then m (w / 2) - x (w / 2) else x (w / 2)
def sg (w : Nat) : Int := if w % 2 = 0 then 1 else -1
def pth (b e : Nat → Nat) (via : Nat → Option Nat) : Nat → Nat → Nat → Int
  | 0, _ => fun _ => 0
  | k + 1, v => match via v with
    | none => fun _ => 0
    | some w => fun l => pth b e via k (wb b e w) l + (if l = w / 2 then sg w else 0)
def rot (b e : Nat → Nat) (via : Nat → Option Nat) : Nat → Nat → Nat
  | 0, v => v
  | k + 1, v => match via v with
    | none => v
    | some w => rot b e via k (wb b e w)
def tre (n K : Nat) (b e : Nat → Nat) (via : Nat → Option Nat) (rk : Nat → Nat) : Prop := ∀ v w, v < n → via v = some w → w < 2 * K ∧ we b e w = v ∧ wb b e w < n ∧ rk (wb b e w) < rk v
theorem pth_s {b e : Nat → Nat} {via : Nat → Option Nat} {k v w : Nat} (h : via v = some w) : pth b e via (k + 1) v = fun l => pth b e via k (wb b e w) l + (if l = w / 2 then sg w else 0) := by
  show (match via v with | none => fun _ => 0 | some w => fun l => pth b e via k (wb b e w) l + (if l = w / 2 then sg w else 0)) = _
  rw [h]
theorem pth_n {b e : Nat → Nat} {via : Nat → Option Nat} {k v : Nat} (h : via v = none) : pth b e via k v = fun _ => 0 := by
  cases k with
  | zero => rfl
  | succ k =>
    show (match via v with | none => fun _ => 0 | some w => fun l => pth b e via k (wb b e w) l + (if l = w / 2 then sg w else 0)) = _
    rw [h]
theorem rot_s {b e : Nat → Nat} {via : Nat → Option Nat} {k v w : Nat} (h : via v = some w) : rot b e via (k + 1) v = rot b e via k (wb b e w) := by
  show (match via v with | none => v | some w => rot b e via k (wb b e w)) = _
  rw [h]
theorem rot_n {b e : Nat → Nat} {via : Nat → Option Nat} {k v : Nat} (h : via v = none) : rot b e via k v = v := by
  cases k with
  | zero => rfl
  | succ k =>
    show (match via v with | none => v | some w => rot b e via k (wb b e w)) = _
    rw [h]
theorem dv_way {K : Nat} {b e : Nat → Nat} {w u : Nat} (hw : w < 2 * K) : dv K b e (fun l => if l = w / 2 then sg w else 0) u = (if wb b e w = u then 1 else 0) - (if we b e w = u then 1 else 0) := by
  have h1 := dv_upd (K := K) (b := b) (e := e) (x := fun _ => 0) (v := u) (k := w / 2) (a := sg w) (by omega)
  have h2 : dv K b e (fun _ => 0) u = 0 := sI_0 (fun l _ => by split <;> split <;> rfl)
  rw [h2] at h1
  have h3 : dv K b e (uI (fun _ => 0) (w / 2) (0 + sg w)) u = dv K b e (fun l => if l = w / 2 then sg w else 0) u := dv_cg (fun l _ => by
    unfold uI
    split
    · omega
    · rfl)
  rw [h3] at h1
  rw [h1]
  unfold wb we sg
  by_cases q : w % 2 = 0
  · simp only [if_pos q]; omega
  · simp only [if_neg q]
    split <;> split <;> omega
theorem pth_dv {n K : Nat} {b e : Nat → Nat} {via : Nat → Option Nat} {rk : Nat → Nat} (ht : tre n K b e via rk) {u : Nat} : ∀ k v, v < n → rk v ≤ k → dv K b e (pth b e via k v) u = (if rot b e via k v = u then 1 else 0) - (if v = u then 1 else 0)
  | k, v, hv, hk => by
    cases hq : via v with
    | none =>
      rw [pth_n hq, rot_n hq]
      have : dv K b e (fun _ => 0) u = 0 := sI_0 (fun l _ => by split <;> split <;> rfl)
      rw [this]; omega
    | some w =>
      obtain ⟨h1, h2, h3, h4⟩ := ht v w hv hq
      cases k with
      | zero => omega
      | succ k =>
        rw [pth_s hq, rot_s hq, dv_add, dv_way h1, h2, pth_dv ht k _ h3 (by omega)]
        omega
theorem rot_n2 {n K : Nat} {b e : Nat → Nat} {via : Nat → Option Nat} {rk : Nat → Nat} (ht : tre n K b e via rk) : ∀ k v, v < n → rk v ≤ k → via (rot b e via k v) = none ∧ rot b e via k v < n
  | k, v, hv, hk => by
    cases hq : via v with
    | none => rw [rot_n hq]; exact ⟨hq, hv⟩
    | some w =>
      obtain ⟨h1, h2, h3, h4⟩ := ht v w hv hq
      cases k with
      | zero => omega
      | succ k =>
        rw [rot_s hq]
        exact rot_n2 ht k _ h3 (by omega)
theorem we_ot {b e : Nat → Nat} {w w' : Nat} (h : w / 2 = w' / 2) (hn : w ≠ w') : we b e w = wb b e w' ∧ wb b e w = we b e w' := by
  unfold we wb
  by_cases q : w % 2 = 0
  · rw [if_pos q, if_pos q, if_neg (by omega), if_neg (by omega), h]; exact ⟨rfl, rfl⟩
  · rw [if_neg q, if_neg q, if_pos (by omega), if_pos (by omega), h]; exact ⟨rfl, rfl⟩
/-- what is sent along a lane: nothing, or by one way of the tree; car: what a node's ways let through -/
theorem pth_lane {n K : Nat} {b e : Nat → Nat} {via : Nat → Option Nat} {rk : Nat → Nat} (ht : tre n K b e via rk) {car : Nat → Int} (hc : ∀ v w, v < n → via v = some w → car v ≤ car (wb b e w)) {l : Nat} : ∀ k v, v < n → rk v ≤ k → pth b e via k v l = 0 ∨ ∃ u w, u < n ∧ via u = some w ∧ w / 2 = l ∧ pth b e via k v l = sg w ∧ rk u ≤ rk v ∧ car v ≤ car u
  | k, v, hv, hk => by
    cases hq : via v with
    | none => rw [pth_n hq]; exact Or.inl rfl
    | some w =>
      obtain ⟨h1, h2, h3, h4⟩ := ht v w hv hq
      cases k with
      | zero => omega
      | succ k =>
        have hs := hc v w hv hq
        rw [pth_s hq]
        show pth b e via k (wb b e w) l + (if l = w / 2 then sg w else 0) = 0 ∨ ∃ u w', u < n ∧ via u = some w' ∧ w' / 2 = l ∧ pth b e via k (wb b e w) l + (if l = w / 2 then sg w else 0) = sg w' ∧ rk u ≤ rk v ∧ car v ≤ car u
        by_cases hl : l = w / 2
        · rw [if_pos hl]
          rcases pth_lane ht hc (l := l) k _ h3 (by omega) with y | ⟨u, w', y1, y2, y3, y4, y5, y6⟩
          · rw [y]
            exact Or.inr ⟨v, w, hv, hq, hl.symm, by omega, Nat.le_refl _, Int.le_refl _⟩
          · exfalso
            obtain ⟨g1, g2, g3, g4⟩ := ht u w' y1 y2
            by_cases z : w' = w
            · rw [z, h2] at g2; rw [← g2] at y5; omega
            · obtain ⟨o1, o2⟩ := we_ot (b := b) (e := e) (w := w') (w' := w) (by omega) z
              rw [o2, h2] at g4; omega
        · rw [if_neg hl, Int.add_zero]
          rcases pth_lane ht hc (l := l) k _ h3 (by omega) with y | ⟨u, w', y1, y2, y3, y4, y5, y6⟩
          · exact Or.inl y
          · exact Or.inr ⟨u, w', y1, y2, y3, y4, by omega, by omega⟩
theorem rot_car {n K : Nat} {b e : Nat → Nat} {via : Nat → Option Nat} {rk : Nat → Nat} (ht : tre n K b e via rk) {car : Nat → Int} (hc : ∀ v w, v < n → via v = some w → car v ≤ car (wb b e w)) : ∀ k v, v < n → rk v ≤ k → car v ≤ car (rot b e via k v)
  | k, v, hv, hk => by
    cases hq : via v with
    | none => rw [rot_n hq]; exact Int.le_refl _
    | some w =>
      obtain ⟨h1, h2, h3, h4⟩ := ht v w hv hq
      cases k with
      | zero => omega
      | succ k =>
        rw [rot_s hq]
        have := rot_car ht hc k _ h3 (by omega)
        have := hc v w hv hq
        omega
/-- the loads behind sending a along the tree to v -/
def snd (b e : Nat → Nat) (via : Nat → Option Nat) (k v : Nat) (a : Int) (x : Nat → Int) : Nat → Int := fun l => x l + a * pth b e via k v l
theorem snd_fits {n K : Nat} {b e : Nat → Nat} {via : Nat → Option Nat} {rk : Nat → Nat} {m x car : Nat → Int} {a : Int} (ht : tre n K b e via rk) (hc : ∀ v w, v < n → via v = some w → car v ≤ car (wb b e w) ∧ car v ≤ wm m x w) (hx : fits K m x) {k v : Nat} (hv : v < n) (hk : rk v ≤ k) (ha : 0 ≤ a) (hav : a ≤ car v) : fits K m (snd b e via k v a x) := by
  intro l hl
  obtain ⟨x1, x2⟩ := hx l hl
  show 0 ≤ x l + a * pth b e via k v l ∧ x l + a * pth b e via k v l ≤ m l
  rcases pth_lane ht (fun v w hv h => (hc v w hv h).1) (l := l) k v hv hk with y | ⟨u, w, y1, y2, y3, y4, y5, y6⟩
  · rw [y, Int.mul_zero, Int.add_zero]; exact ⟨x1, x2⟩
  · have h1 := (hc u w y1 y2).2
    rw [y4]
    unfold wm at h1
    unfold sg
    rw [y3] at h1
    by_cases q : w % 2 = 0
    · rw [if_pos q] at h1 ⊢; omega
    · rw [if_neg q] at h1 ⊢; omega
theorem snd_dv {n K : Nat} {b e : Nat → Nat} {via : Nat → Option Nat} {rk : Nat → Nat} {x : Nat → Int} {a : Int} (ht : tre n K b e via rk) {k v u : Nat} (hv : v < n) (hk : rk v ≤ k) : dv K b e (snd b e via k v a x) u = dv K b e x u + ((if rot b e via k v = u then a else 0) - (if v = u then a else 0)) := by
  unfold snd
  rw [dv_add, dv_mul, pth_dv ht k v hv hk]
  congr 1
  split <;> split <;> omega
/-- the room of a way behind it: none that is new but against a way of the tree -/
theorem snd_room {n K : Nat} {b e : Nat → Nat} {via : Nat → Option Nat} {rk : Nat → Nat} {m x : Nat → Int} {a : Int} (ht : tre n K b e via rk) {k v w : Nat} (hv : v < n) (hk : rk v ≤ k) (ha : 0 ≤ a) (hw : w < 2 * K) : wm m (snd b e via k v a x) w ≤ wm m x w ∨ ∃ u w', u < n ∧ via u = some w' ∧ w' / 2 = w / 2 ∧ w' ≠ w := by
  rcases pth_lane ht (car := fun _ => 0) (fun _ _ _ _ => Int.le_refl _) (l := w / 2) k v hv hk with y | ⟨u, w', y1, y2, y3, y4, y5, y6⟩
  · refine Or.inl ?_
    unfold wm snd
    rw [y, Int.mul_zero, Int.add_zero]; exact Int.le_refl _
  · by_cases z : w' = w
    · refine Or.inl ?_
      unfold wm snd
      rw [y4, z]
      unfold sg
      by_cases q : w % 2 = 0
      · rw [if_pos q, if_pos q, if_pos q]; omega
      · rw [if_neg q, if_neg q, if_neg q]; omega
    · exact Or.inr ⟨u, w', y1, y2, y3, z⟩
end
section
/-! ===== longs as whole numbers ===== -/
def lI (z : Int) : Int64 := Int64.ofInt z
def lF (f : Nat → Int) : Nat → Int64 := fun i => lI (f i)
theorem lI_add {a b : Int} : lI a + lI b = lI (a + b) := (Int64.ofInt_add a b).symm
theorem lI_sub {a b : Int} : lI a - lI b = lI (a - b) := (Int64.ofInt_sub a b).symm
theorem lI_neg {a : Int} : -lI a = lI (-a) := (Int64.ofInt_neg a).symm
theorem lI_mul {a b : Int} : lI a * lI b = lI (a * b) := (Int64.ofInt_mul a b).symm
theorem lI_to (x : Int64) : lI x.toInt = x := Int64.ofInt_toInt x
theorem lI_ti {a : Int} (h : -4611686018427387904 ≤ a ∧ a ≤ 4611686018427387904) : (lI a).toInt = a := Int64.toInt_ofInt_of_le (by omega) (by omega)
def lB (a : Int) : Prop := -4611686018427387904 ≤ a ∧ a ≤ 4611686018427387904
theorem lI_lt {a b : Int} (ha : lB a) (hb : lB b) : lI a < lI b ↔ a < b := by rw [Int64.lt_iff_toInt_lt, lI_ti ha, lI_ti hb]
theorem lI_le {a b : Int} (ha : lB a) (hb : lB b) : lI a ≤ lI b ↔ a ≤ b := by rw [Int64.le_iff_toInt_le, lI_ti ha, lI_ti hb]
theorem lI_eq {a b : Int} (ha : lB a) (hb : lB b) : lI a = lI b ↔ a = b := by rw [← Int64.toInt_inj, lI_ti ha, lI_ti hb]
theorem lI_nat {k : Nat} [OfNat Int64 k] (h : (OfNat.ofNat k : Int64) = lI k) : (OfNat.ofNat k : Int64) = lI k := h
theorem lF_to (f : Nat → Int64) : lF (fun i => (f i).toInt) = f := funext fun i => lI_to (f i)
theorem lF_upd {f : Nat → Int} {k : Nat} {a : Int} : vp_updL (lF f) k (lI a) = lF (uI f k a) := by
  funext i
  unfold vp_updL lF uI
  split <;> rfl
theorem lF_at {f : Nat → Int} {k : Nat} : lF f k = lI (f k) := rfl
theorem lI_min {a b : Int} (ha : lB a) (hb : lB b) : (if lI a ≤ lI b then lI a else lI b) = lI (if a ≤ b then a else b) := by
  by_cases h : a ≤ b
  · rw [if_pos h, if_pos ((lI_le ha hb).mpr h)]
  · rw [if_neg h, if_neg (fun z => h ((lI_le ha hb).mp z))]
/-! two arrays of longs put in place -/
theorem dm_sj_sw {u : dm_S} {c d : Nat} {f g : Nat → Int64} (h : c ≠ d) : dm_sj (dm_sj u c f) d g = dm_sj (dm_sj u d g) c f := by
  unfold dm_sj
  refine Prod.ext rfl ?_
  funext c'
  by_cases e : c' = d
  · subst e; simp [Ne.symm h]
  · simp [e]
theorem dm_sj_2s {u : dm_S} {c : Nat} {f g : Nat → Int64} : dm_sj (dm_sj u c f) c g = dm_sj u c g := by
  unfold dm_sj
  refine Prod.ext rfl ?_
  funext c'
  by_cases e : c' = c
  · simp [e]
  · simp [e]
theorem dm_ul_sj {u : dm_S} {c j : Nat} {x : Int64} : dm_ul u c j x = dm_sj u c (vp_updL (u.2 c) j x) := by
  rw [← dm_sj_u, dm_sj_self]
/-- loads x and excess ex in place -/
def st_x (u : dm_S) (x ex : Nat → Int) : dm_S := dm_sj (dm_sj u 24 (lF x)) 25 (lF ex)
theorem st_x1 {u : dm_S} {x ex : Nat → Int} : (st_x u x ex).1 = u.1 := rfl
theorem st_x24 {u : dm_S} {x ex : Nat → Int} : (st_x u x ex).2 24 = lF x := rfl
theorem st_x25 {u : dm_S} {x ex : Nat → Int} : (st_x u x ex).2 25 = lF ex := rfl
theorem st_xo {u : dm_S} {x ex : Nat → Int} {c : Nat} (h : c ≠ 24) (h2 : c ≠ 25) : (st_x u x ex).2 c = u.2 c := by
  show (if c = 25 then lF ex else if c = 24 then lF x else u.2 c) = u.2 c
  rw [if_neg h2, if_neg h]
theorem st_xx {u : dm_S} {x ex y ey : Nat → Int} : st_x (st_x u x ex) y ey = st_x u y ey := by
  unfold st_x
  rw [dm_sj_sw (u := dm_sj u 24 (lF x)) (c := 25) (d := 24) (by decide), dm_sj_2s, dm_sj_2s]
theorem st_x0 (u : dm_S) : ∃ x ex, u = st_x u x ex ∧ u.2 24 = lF x ∧ u.2 25 = lF ex := by
  refine ⟨fun i => (u.2 24 i).toInt, fun i => (u.2 25 i).toInt, ?_, (lF_to _).symm, (lF_to _).symm⟩
  unfold st_x
  rw [lF_to, lF_to, dm_sj_self, dm_sj_self]
theorem st_xs {u : dm_S} {x ex : Nat → Int} (h1 : u.2 24 = lF x) (h2 : u.2 25 = lF ex) : st_x u x ex = u := by
  unfold st_x
  rw [← h1, ← h2, dm_sj_self, dm_sj_self]
theorem st_u24 {u : dm_S} {x ex : Nat → Int} {k : Nat} {z : Int} : dm_ul (st_x u x ex) 24 k (lI z) = st_x u (uI x k z) ex := by
  rw [dm_ul_sj, st_x24, lF_upd]
  unfold st_x
  rw [dm_sj_sw (u := dm_sj u 24 (lF x)) (c := 25) (d := 24) (by decide), dm_sj_2s]
theorem st_u25 {u : dm_S} {x ex : Nat → Int} {k : Nat} {z : Int} : dm_ul (st_x u x ex) 25 k (lI z) = st_x u x (uI ex k z) := by
  rw [dm_ul_sj, st_x25, lF_upd]
  unfold st_x
  rw [dm_sj_2s]
/-! the lanes as they are laid: n nodes, K lanes from b to e -/
def ln_ok (u : dm_S) (n K : Nat) (b e : Nat → Nat) : Prop := (n ≤ 24 ∧ K ≤ 320 ∧ u.1 1 8 = nI n ∧ u.1 2 10 = nI K) ∧ ∀ l, l < K → (u.1 20 l = nI (b l) ∧ b l < n) ∧ (u.1 21 l = nI (e l) ∧ e l < n)
theorem ln_b {u : dm_S} {n K w : Nat} {b e : Nat → Nat} (h : ln_ok u n K b e) (hw : w < 2 * K) : lw_b u w = nI (wb b e w) ∧ wb b e w < n := by
  obtain ⟨⟨h1, h2⟩, h3, h4⟩ := h.2 (w / 2) (by omega)
  unfold lw_b wb
  split
  · exact ⟨h1, h2⟩
  · exact ⟨h3, h4⟩
theorem ln_e {u : dm_S} {n K w : Nat} {b e : Nat → Nat} (h : ln_ok u n K b e) (hw : w < 2 * K) : lw_e u w = nI (we b e w) ∧ we b e w < n := by
  obtain ⟨⟨h1, h2⟩, h3, h4⟩ := h.2 (w / 2) (by omega)
  unfold lw_e we
  split
  · exact ⟨h3, h4⟩
  · exact ⟨h1, h2⟩
theorem ln_st {u : dm_S} {n K : Nat} {b e : Nat → Nat} {x ex : Nat → Int} (h : ln_ok u n K b e) : ln_ok (st_x u x ex) n K b e := h
/-- push, in whole numbers -/
def pX (w : Nat) (a : Int) (x : Nat → Int) : Nat → Int := uI x (w / 2) (x (w / 2) + sg w * a)
def pE (b e : Nat → Nat) (w : Nat) (a : Int) (ex : Nat → Int) : Nat → Int := fun v => ex v - (if wb b e w = v then a else 0) + (if we b e w = v then a else 0)
theorem ln_pu {u : dm_S} {n K w : Nat} {b e : Nat → Nat} {x ex : Nat → Int} {a : Int} (h : ln_ok u n K b e) (hw : w < 2 * K) : dm_pu (st_x u x ex) w (lI a) = st_x u (pX w a x) (pE b e w a ex) := by
  obtain ⟨e1, l1⟩ := ln_b h hw
  obtain ⟨e2, l2⟩ := ln_e h hw
  have hn : n ≤ 24 := h.1.1
  have c1 : (lw_b (st_x u x ex) w).toNatClampNeg = wb b e w := by
    show (lw_b u w).toNatClampNeg = _
    rw [e1, nI_clamp (by omega)]
  have c2 : (lw_e (st_x u x ex) w).toNatClampNeg = we b e w := by
    show (lw_e u w).toNatClampNeg = _
    rw [e2, nI_clamp (by omega)]
  unfold dm_pu
  rw [c1, c2, st_x24, st_x25]
  have s1 : (if w % 2 = 0 then lI a else -lI a) = lI (sg w * a) := by
    unfold sg
    split
    · rw [Int.one_mul]
    · rw [lI_neg]; congr 1; omega
  rw [s1, lF_at, lI_add, lF_at, lF_at, lI_sub]
  have s2 : (if we b e w = wb b e w then lI (ex (wb b e w) - a) else lI (ex (we b e w))) + lI a = lI ((if we b e w = wb b e w then ex (wb b e w) - a else ex (we b e w)) + a) := by
    split <;> rw [lI_add]
  rw [s2, st_u24, st_u25, st_u25]
  have s6 : uI (uI ex (wb b e w) (ex (wb b e w) - a)) (we b e w) ((if we b e w = wb b e w then ex (wb b e w) - a else ex (we b e w)) + a) = pE b e w a ex := by
    funext v
    unfold uI pE
    by_cases q1 : v = we b e w
    · subst q1
      rw [if_pos rfl, if_pos rfl]
      by_cases q2 : we b e w = wb b e w
      · rw [if_pos q2, if_pos q2.symm, q2]
      · rw [if_neg q2, if_neg (Ne.symm q2)]; omega
    · rw [if_neg q1, if_neg (Ne.symm q1)]
      by_cases q2 : v = wb b e w
      · rw [if_pos q2, if_pos q2.symm, q2]; omega
      · rw [if_neg q2, if_neg (Ne.symm q2)]; omega
  rw [s6]
  rfl
end
section
/-! ===== Lanes.sendTo: along a tree of ways ===== -/
/-- the tree as cell c holds it: a way's number, or below 0 -/
def vi_ok (u : dm_S) (c n : Nat) (via : Nat → Option Nat) : Prop := ∀ v, v < n → match via v with
  | some w => u.1 c v = nI w
  | none => u.1 c v < 0
theorem snd_s {b e : Nat → Nat} {via : Nat → Option Nat} {k v w : Nat} {a : Int} {x : Nat → Int} (h : via v = some w) : snd b e via (k + 1) v a x = snd b e via k (wb b e w) a (pX w a x) := by
  funext l
  unfold snd pX uI
  rw [pth_s h]
  show x l + a * (pth b e via k (wb b e w) l + (if l = w / 2 then sg w else 0)) = _
  by_cases q : l = w / 2
  · rw [if_pos q, if_pos q, q, Int.mul_add, Int.mul_comm (sg w)]; omega
  · rw [if_neg q, if_neg q, Int.add_zero]
theorem snd_n {b e : Nat → Nat} {via : Nat → Option Nat} {k v : Nat} {a : Int} {x : Nat → Int} (h : via v = none) : snd b e via k v a x = x := by
  funext l
  unfold snd
  rw [pth_n h, Int.mul_zero, Int.add_zero]
/-- the excess behind it -/
def sdE (b e : Nat → Nat) (via : Nat → Option Nat) (k v : Nat) (a : Int) (ex : Nat → Int) : Nat → Int := fun j => ex j + (if v = j then a else 0) - (if rot b e via k v = j then a else 0)
theorem sdE_s {b e : Nat → Nat} {via : Nat → Option Nat} {k v w : Nat} {a : Int} {ex : Nat → Int} (h : via v = some w) (hw : we b e w = v) : sdE b e via (k + 1) v a ex = sdE b e via k (wb b e w) a (pE b e w a ex) := by
  funext j
  unfold sdE pE
  rw [rot_s h, hw]
  show ex j + _ - _ = ex j - _ + _ + _ - _
  omega
theorem sdE_n {b e : Nat → Nat} {via : Nat → Option Nat} {k v : Nat} {a : Int} {ex : Nat → Int} (h : via v = none) : sdE b e via k v a ex = ex := by
  funext j
  unfold sdE
  rw [rot_n h]
  omega
def sp_X1_sendTo (As : List Value) (u : dm_S) (Q : Option Value → dm_S → Prop) : Prop := match As with
  | [.ref 2, .int x, .ref c, .long d] => ∃ (n K : Nat) (b e : Nat → Nat) (via : Nat → Option Nat) (rk : Nat → Nat) (lo ex : Nat → Int) (v : Nat) (a : Int), ln_ok u n K b e ∧ shC[c]? = some (.inl (0, 24)) ∧ vi_ok u c n via ∧ tre n K b e via rk ∧ rk v ≤ n ∧ v < n ∧ x = nI v ∧ d = lI a ∧ u.2 24 = lF lo ∧ u.2 25 = lF ex ∧ Q none (st_x u (snd b e via n v a lo) (sdE b e via n v a ex))
  | _ => False
def p_X1_sendTo : List dm_I := [(0, .iload_n 1, 1, [1]), (1, .istore 5, 2, []), (3, .iconst 0, 1, []), (4, .istore 6, 2, []), (6, .iload 6, 2, []), (8, .aload_n 0, 1, [0]), (9, .getfield 40, 3, []), (12, .getfield 89, 3, []), (15, .if_icmp .ge 37, 3, [52]), (18, .aload_n 2, 1, [2]), (19, .iload 5, 2, []), (21, .iaload, 1, []), (22, .ifCond .lt 30, 3, [52]), (25, .aload_n 2, 1, [2]), (26, .iload 5, 2, []), (28, .iaload, 1, []), (29, .istore 7, 2, []), (31, .aload_n 0, 1, [0]), (32, .iload 7, 2, []), (34, .lload_n 3, 1, [3]), (35, .invokevirtual 101, 3, []), (38, .aload_n 0, 1, [0]), (39, .iload 7, 2, []), (41, .invokevirtual 79, 3, []), (44, .istore 5, 2, []), (46, .iinc 6 1, 3, []), (49, .goto (-43), 3, [6]), (52, .return_, 1, [])]
set_option maxRecDepth 100000 in
theorem v_X1_sendTo : p_X1_sendTo.all (dm_vb cX1_sendTo) = true := by decide +kernel
def k_X1_sendTo : dm_Sp := fun a => match a with
  | 0 => sp_X1_push
  | 1 => sp_X1_beginOf
  | _ => fun _ _ _ => False
def x_X1_sendTo : dm_X := dm_mk [(40, 1, 0), (89, 2, 8)] [] [] [(101, 0, 2, 1), (79, 1, 1, 1)] 0
set_option maxRecDepth 100000 in
set_option maxHeartbeats 400000 in
theorem u_X1_sendTo : dm_Pure shC x_X1_sendTo k_X1_sendTo p_X1_sendTo 8 sp_X1_sendTo := by
  intro As u Qp h
  unfold sp_X1_sendTo at h
  split at h
  · rename_i x c d
    obtain ⟨n, K, b, e, via, rk, lo0, ex0, v0, a, hl, hc, hvi, ht, hrk, hv0, rfl, rfl, hlo, hex, h⟩ := h
    obtain ⟨hn, hK, en, eK⟩ := hl.1
    refine ⟨Nat.le_of_ble_eq_true rfl, fun G Wp hW0 hW1 hG => ?_⟩
    have loop : ∀ (k s v : Nat) (lo ex : Nat → Int) (o : Option Value), s + k = n → rk v ≤ k → v < n → Qp none (st_x u (snd b e via k v a lo) (sdE b e via k v a ex)) → G 6 [some (.ref 2), some (.int (nI v0)), some (.ref c), some (.long (lI a)), none, some (.int (nI v)), some (.int (nI s)), o] [] (st_x u lo ex) := by
      intro k
      induction k with
      | zero =>
        intro s v lo ex o hs hr hv h
        have hq : via v = none := by
          cases hq : via v with
          | none => rfl
          | some w => have := (ht v w hv hq).2.2.2; omega
        rw [snd_n hq, sdE_n hq] at h
        apply hG (fun pc => pc == 6) 40
        simp (config := { maxSteps := 2000000 }) [hW0, hW1, dm_fn, dm_fd, dm_x, dm_L0, dm_la, dm_t1, dm_sw, List.headD, dm_ic, dm_mk, dm_s1, dm_s2, dm_clr, dm_cs, dm_cc, dm_nb0, dm_nb1, Value.category, List.lookup, p_X1_sendTo, x_X1_sendTo, k_X1_sendTo, dm_cm, upd, vp_updL, dm_ui_1, dm_ui_2, dm_ul_1, dm_ul_2, sp_X1_push, sp_X1_beginOf, sC_0, sC_1, sC_2, sC_3, sC_4, sC_5, sC_6, sC_7, sC_8, sC_9, sC_10, sC_11, sC_12, sC_13, sC_14, sC_15, sC_16, sC_17, sC_18, sC_19, sC_20, sC_21, sC_22, sC_23, sC_24, sC_25, sC_26, sC_27, sC_28, sC_29, sC_30, sC_31, sC_32, sC_33, sC_34, sC_35, sC_36, sC_37, sC_38, sC_39, sC_40, sC_41, sC_42, sC_43, sC_44, sC_45, sC_46, sC_47, sC_48, sC_49, sC_50, sC_51]
        simp [hc, st_x1, en]
        have hvv := hvi v hv
        rw [hq] at hvv
        refine ⟨fun _ => h, fun q => absurd q (nI_nlt (by omega) (by omega))⟩
      | succ k ih =>
        intro s v lo ex o hs hr hv h
        have hvv := hvi v hv
        apply hG (fun pc => pc == 6) 40
        simp (config := { maxSteps := 2000000 }) [hW0, hW1, dm_fn, dm_fd, dm_x, dm_L0, dm_la, dm_t1, dm_sw, List.headD, dm_ic, dm_mk, dm_s1, dm_s2, dm_clr, dm_cs, dm_cc, dm_nb0, dm_nb1, Value.category, List.lookup, p_X1_sendTo, x_X1_sendTo, k_X1_sendTo, dm_cm, upd, vp_updL, dm_ui_1, dm_ui_2, dm_ul_1, dm_ul_2, sp_X1_push, sp_X1_beginOf, sC_0, sC_1, sC_2, sC_3, sC_4, sC_5, sC_6, sC_7, sC_8, sC_9, sC_10, sC_11, sC_12, sC_13, sC_14, sC_15, sC_16, sC_17, sC_18, sC_19, sC_20, sC_21, sC_22, sC_23, sC_24, sC_25, sC_26, sC_27, sC_28, sC_29, sC_30, sC_31, sC_32, sC_33, sC_34, sC_35, sC_36, sC_37, sC_38, sC_39, sC_40, sC_41, sC_42, sC_43, sC_44, sC_45, sC_46, sC_47, sC_48, sC_49, sC_50, sC_51]
        simp [hc, st_x1, en]
        have iv : vp_in (nI v) 24 := vp_in_nI (by omega) (by omega)
        rw [nI_clamp (by omega)]
        refine ⟨fun q => absurd q (nI_ge (by omega) (by omega)), fun q => ⟨iv, ?_⟩⟩
        cases hq : via v with
        | none =>
          rw [hq] at hvv
          rw [snd_n hq, sdE_n hq] at h
          exact ⟨fun _ => h, fun z => absurd hvv (dm_i_lt.mpr z)⟩
        | some w =>
          rw [hq] at hvv
          obtain ⟨g1, g2, g3, g4⟩ := ht v w hv hq
          rw [snd_s hq, sdE_s hq g2] at h
          obtain ⟨e1, l1⟩ := ln_b hl g1
          obtain ⟨e2, l2⟩ := ln_e hl g1
          refine ⟨fun z => absurd (hvv ▸ z) (nI_pos (by omega)), fun z => ⟨iv, w, by omega, hvv, ?_, ?_, w, by omega, hvv, ?_⟩⟩
          · show vp_in (lw_b u w) 24
            rw [e1]; exact vp_in_nI (by omega) (by omega)
          · show vp_in (lw_e u w) 24
            rw [e2]; exact vp_in_nI (by omega) (by omega)
          · rw [ln_pu hl g1, show lw_b (st_x u (pX w a lo) (pE b e w a ex)) w = lw_b u w from rfl, e1, nI_1]
            exact ih (s + 1) (wb b e w) _ _ _ (by omega) (by omega) g3 h
    apply hG (fun pc => pc == 6) 40
    simp (config := { maxSteps := 2000000 }) [hW0, hW1, dm_fn, dm_fd, dm_x, dm_L0, dm_la, dm_t1, dm_sw, List.headD, dm_ic, dm_mk, dm_s1, dm_s2, dm_clr, dm_cs, dm_cc, dm_nb0, dm_nb1, Value.category, List.lookup, p_X1_sendTo, x_X1_sendTo, k_X1_sendTo, dm_cm, upd, vp_updL, dm_ui_1, dm_ui_2, dm_ul_1, dm_ul_2, sp_X1_push, sp_X1_beginOf, sC_0, sC_1, sC_2, sC_3, sC_4, sC_5, sC_6, sC_7, sC_8, sC_9, sC_10, sC_11, sC_12, sC_13, sC_14, sC_15, sC_16, sC_17, sC_18, sC_19, sC_20, sC_21, sC_22, sC_23, sC_24, sC_25, sC_26, sC_27, sC_28, sC_29, sC_30, sC_31, sC_32, sC_33, sC_34, sC_35, sC_36, sC_37, sC_38, sC_39, sC_40, sC_41, sC_42, sC_43, sC_44, sC_45, sC_46, sC_47, sC_48, sC_49, sC_50, sC_51]
    have := loop n 0 v0 lo0 ex0 none (by omega) hrk hv0 h
    rw [st_xs hlo hex] at this
    exact this
  · exact h.elim
set_option maxRecDepth 100000 in
theorem t_X1_sendTo (l : Launch) (D : va_G) (cA : Nat → ClassId) (ad : Nat → Nat) : dm_Met l D dm_cl cA ad shC yX1_sendTo (Cond.code yX1_sendTo cX1_sendTo 8 (dm_rt 0) :: dm_tt) ({ frames := 2, cells := 0, slots := 0, locals := 44 } : Room) sp_X1_sendTo := dm_meth (own := RX1) (X := x_X1_sendTo) (Sp := k_X1_sendTo) (prog := p_X1_sendTo) (by decide +kernel) rfl rfl (dm_FO_s ffX1 [(40, 1, 0), (89, 2, 8)] rfl dm_hT (by decide +kernel)) (dm_IO_s ifX1 jfX1 [] [] rfl rfl dm_hT (by decide +kernel) (by decide +kernel)) soC (dm_MO_of (List.forall_mem_cons.mpr ⟨dm_M1_of (t_X1_push l D cA ad) dm_hT (dm_mem [629, 68, 626] (by decide +kernel) (by decide +kernel)) (by decide) (by decide +kernel) (Or.inr ⟨by decide, dm_mem [627, 628] (by decide +kernel) (by decide +kernel), rfl⟩), List.forall_mem_cons.mpr ⟨dm_M1_of (t_X1_beginOf l D cA ad) dm_hT (dm_mem [553, 68, 550] (by decide +kernel) (by decide +kernel)) (by decide) (by decide +kernel) (Or.inr ⟨by decide, dm_mem [551, 552] (by decide +kernel) (by decide +kernel), rfl⟩), fun _ h => absurd h List.not_mem_nil⟩⟩)) v_X1_sendTo u_X1_sendTo
end
section
/-! ===== the nodes on the tree's way to a node ===== -/
def onp (b e : Nat → Nat) (via : Nat → Option Nat) : Nat → Nat → Nat → Prop
  | 0, v, u => u = v
  | k + 1, v, u => u = v ∨ ∃ w, via v = some w ∧ onp b e via k (wb b e w) u
theorem onp_self {b e : Nat → Nat} {via : Nat → Option Nat} : ∀ {k v : Nat}, onp b e via k v v
  | 0, _ => rfl
  | _ + 1, _ => Or.inl rfl
theorem onp_ind {b e : Nat → Nat} {via : Nat → Option Nat} {P : Nat → Prop} (hs : ∀ v w, P v → via v = some w → P (wb b e w)) : ∀ {k v u : Nat}, P v → onp b e via k v u → P u
  | 0, v, u, hv, h => by rw [show u = v from h]; exact hv
  | k + 1, v, u, hv, h => by
    rcases h with h | ⟨w, h1, h2⟩
    · rw [h]; exact hv
    · exact onp_ind hs (hs v w hv h1) h2
theorem onp_tre {n K : Nat} {b e : Nat → Nat} {via : Nat → Option Nat} {rk : Nat → Nat} (ht : tre n K b e via rk) {k v u : Nat} (hv : v < n) (h : onp b e via k v u) : u < n ∧ rk u ≤ rk v := onp_ind (P := fun u => u < n ∧ rk u ≤ rk v) (fun u w hu hw => by
  obtain ⟨g1, g2, g3, g4⟩ := ht u w hu.1 hw
  exact ⟨g3, by omega⟩) ⟨hv, Nat.le_refl _⟩ h
theorem onp_dis {n K : Nat} {b e : Nat → Nat} {via : Nat → Option Nat} {rk : Nat → Nat} (ht : tre n K b e via rk) {k v w u w' : Nat} (hv : v < n) (hw : via v = some w) (hu : onp b e via k (wb b e w) u) (hw' : via u = some w') : w' / 2 ≠ w / 2 := by
  intro hq
  obtain ⟨h1, h2, h3, h4⟩ := ht v w hv hw
  obtain ⟨q1, q2⟩ := onp_tre ht h3 hu
  obtain ⟨g1, g2, g3, g4⟩ := ht u w' q1 hw'
  by_cases z : w' = w
  · rw [z, h2] at g2; rw [← g2] at q2; omega
  · obtain ⟨o1, o2⟩ := we_ot (b := b) (e := e) hq z
    rw [o2, h2] at g4; omega
theorem pth_lane2 {n K : Nat} {b e : Nat → Nat} {via : Nat → Option Nat} {rk : Nat → Nat} (ht : tre n K b e via rk) {l : Nat} : ∀ k v, v < n → rk v ≤ k → pth b e via k v l = 0 ∨ ∃ u w, onp b e via k v u ∧ via u = some w ∧ w / 2 = l ∧ pth b e via k v l = sg w
  | k, v, hv, hk => by
    cases hq : via v with
    | none => rw [pth_n hq]; exact Or.inl rfl
    | some w =>
      obtain ⟨h1, h2, h3, h4⟩ := ht v w hv hq
      cases k with
      | zero => omega
      | succ k =>
        rw [pth_s hq]
        show pth b e via k (wb b e w) l + (if l = w / 2 then sg w else 0) = 0 ∨ ∃ u w', onp b e via (k + 1) v u ∧ via u = some w' ∧ w' / 2 = l ∧ pth b e via k (wb b e w) l + (if l = w / 2 then sg w else 0) = sg w'
        rcases pth_lane2 ht (l := l) k _ h3 (by omega) with y | ⟨u, w', y1, y2, y3, y4⟩
        · rw [y]
          by_cases hl : l = w / 2
          · rw [if_pos hl]
            exact Or.inr ⟨v, w, Or.inl rfl, hq, hl.symm, by omega⟩
          · rw [if_neg hl]; exact Or.inl rfl
        · have := onp_dis ht hv hq y1 y2
          rw [if_neg (by omega), Int.add_zero]
          exact Or.inr ⟨u, w', Or.inr ⟨w, hq, y1⟩, y2, y3, y4⟩
theorem pth_on {n K : Nat} {b e : Nat → Nat} {via : Nat → Option Nat} {rk : Nat → Nat} (ht : tre n K b e via rk) : ∀ {k v u w' : Nat}, v < n → rk v ≤ k → onp b e via k v u → via u = some w' → pth b e via k v (w' / 2) = sg w'
  | 0, v, u, w', hv, hk, hu, hw' => by
    rw [show u = v from hu] at hw'
    have := (ht v w' hv hw').2.2.2
    omega
  | k + 1, v, u, w', hv, hk, hu, hw' => by
    cases hq : via v with
    | none =>
      rcases hu with hu | ⟨w, h1, h2⟩
      · rw [hu, hq] at hw'; cases hw'
      · rw [hq] at h1; cases h1
    | some w =>
      obtain ⟨h1, h2, h3, h4⟩ := ht v w hv hq
      rw [pth_s hq]
      show pth b e via k (wb b e w) (w' / 2) + (if w' / 2 = w / 2 then sg w else 0) = sg w'
      rcases hu with hu | ⟨w0, g1, g2⟩
      · rw [hu, hq] at hw'
        have e1 : w = w' := Option.some.inj hw'
        subst e1
        rw [if_pos rfl]
        rcases pth_lane2 ht (l := w / 2) k _ h3 (by omega) with y | ⟨u2, w2, y1, y2, y3, y4⟩
        · rw [y]; omega
        · exact absurd y3 (onp_dis ht hv hq y1 y2)
      · rw [hq] at g1
        cases g1
        rw [if_neg (onp_dis ht hv hq g2 hw'), Int.add_zero]
        exact pth_on ht h3 (by omega) g2 hw'
/-! ===== a search through open lanes, the nearest first ===== -/
def uF {α : Type} (f : Nat → α) (k : Nat) (a : α) : Nat → α := fun i => if i = k then a else f i
theorem uF_at {α : Type} {f : Nat → α} {k : Nat} {a : α} : uF f k a k = a := if_pos rfl
theorem uF_ne {α : Type} {f : Nat → α} {k i : Nat} {a : α} (h : i ≠ k) : uF f k a i = f i := if_neg h
def mn2 (a b : Int) : Int := if a ≤ b then a else b
theorem mn2_le {a b : Int} : mn2 a b ≤ a ∧ mn2 a b ≤ b ∧ (mn2 a b = a ∨ mn2 a b = b) := by
  unfold mn2
  split
  · exact ⟨Int.le_refl _, by omega, Or.inl rfl⟩
  · exact ⟨by omega, Int.le_refl _, Or.inr rfl⟩
/-- what holds of a node: not seen; too much of its own; or come to by a way -/
def bfN (n K : Nat) (b e : Nat → Nat) (op : Nat → Bool) (mm lo ex : Nat → Int) (vn : Nat → Option (Option Nat)) (lev : Nat → Nat) (car : Nat → Int) (v : Nat) : Prop := match vn v with
  | none => True
  | some none => 0 < ex v ∧ lev v = 0 ∧ car v = ex v
  | some (some w) => (w < 2 * K ∧ we b e w = v ∧ wb b e w < n) ∧ vn (wb b e w) ≠ none ∧ lev v = lev (wb b e w) + 1 ∧ (op (w / 2) = true ∧ 0 < wm mm lo w) ∧ car v = mn2 (car (wb b e w)) (wm mm lo w)
def bfI (n K : Nat) (b e : Nat → Nat) (op : Nat → Bool) (mm lo ex : Nat → Int) (vn : Nat → Option (Option Nat)) (lev : Nat → Nat) (car : Nat → Int) (q : Nat → Nat) (m : Nat) : Prop :=
  m = cN (fun v => (vn v).isSome) n ∧ (∀ j, j < m → q j < n ∧ vn (q j) ≠ none ∧ lev (q j) ≤ j) ∧ (∀ v, v < n → vn v ≠ none → 0 < car v ∧ ∃ j, j < m ∧ q j = v) ∧ (∀ i j, i ≤ j → j < m → lev (q i) ≤ lev (q j)) ∧ (∀ v, v < n → bfN n K b e op mm lo ex vn lev car v) ∧
  ∀ T : Nat → Prop, (∀ w, w < 2 * K → op (w / 2) = true → 0 < wm mm lo w → T (wb b e w) → T (we b e w)) → (∀ v, v < n → 0 < ex v → T v) → ∀ v, v < n → vn v ≠ none → T v
theorem bfI_0 {n K : Nat} {b e : Nat → Nat} {op : Nat → Bool} {mm lo ex : Nat → Int} {lev : Nat → Nat} {car : Nat → Int} {q : Nat → Nat} : bfI n K b e op mm lo ex (fun _ => none) lev car q 0 := by
  have h : ∀ n, cN (fun _ => false) n = 0 := by
    intro n
    induction n with
    | zero => rfl
    | succ n ih => show cN (fun _ => false) n + _ = 0; rw [ih]; rfl
  exact ⟨(h n).symm, fun j hj => absurd hj (Nat.not_lt_zero _), fun v _ h => absurd rfl h, fun i j _ hj => absurd hj (Nat.not_lt_zero _), fun v _ => trivial, fun T _ _ v _ h => absurd rfl h⟩
theorem bfI_add {n K : Nat} {b e : Nat → Nat} {op : Nat → Bool} {mm lo ex : Nat → Int} {vn : Nat → Option (Option Nat)} {lev : Nat → Nat} {car : Nat → Int} {q : Nat → Nat} {m v L : Nat} {x : Option Nat} {a : Int} (h : bfI n K b e op mm lo ex vn lev car q m) (hv : v < n) (h0 : vn v = none) (hL : ∀ j, j < m → lev (q j) ≤ L) (hx : (x = none ∧ 0 < ex v ∧ L = 0 ∧ a = ex v) ∨ ∃ w, x = some w ∧ (w < 2 * K ∧ we b e w = v ∧ wb b e w < n) ∧ vn (wb b e w) ≠ none ∧ L = lev (wb b e w) + 1 ∧ (op (w / 2) = true ∧ 0 < wm mm lo w) ∧ a = mn2 (car (wb b e w)) (wm mm lo w)) : bfI n K b e op mm lo ex (uF vn v (some x)) (uF lev v L) (uF car v a) (uF q m v) (m + 1) ∧ m < n := by
  obtain ⟨h1, h2, h3, h4, h5, h6⟩ := h
  have hne : ∀ u, vn u ≠ none → u ≠ v := fun u hu z => hu (by rw [z]; exact h0)
  have hc : cN (fun u => (uF vn v (some x) u).isSome) n = m + 1 := by
    have e1 : ∀ N, v < N → cN (fun u => (uF vn v (some x) u).isSome) N = cN (fun u => (vn u).isSome) N + 1 := by
      intro N
      induction N with
      | zero => intro z; omega
      | succ N ih =>
        intro z
        show cN (fun u => (uF vn v (some x) u).isSome) N + (if (uF vn v (some x) N).isSome then 1 else 0) = cN (fun u => (vn u).isSome) N + (if (vn N).isSome then 1 else 0) + 1
        rcases Nat.lt_or_ge v N with y | y
        · rw [ih y, uF_ne (by omega)]; omega
        · have e2 : v = N := by omega
          subst e2
          rw [uF_at, h0]
          have : cN (fun u => (uF vn v (some x) u).isSome) v = cN (fun u => (vn u).isSome) v := cN_cg (fun u hu => by rw [uF_ne (by omega)])
          rw [this]; rfl
    rw [e1 n hv, h1]
  have hm : m < n := by have := cN_le (P := fun u => (uF vn v (some x) u).isSome) (n := n); omega
  have hLm : L ≤ m := by
    rcases hx with ⟨_, _, z, _⟩ | ⟨w, _, ⟨_, _, w3⟩, w4, w5, _⟩
    · omega
    · obtain ⟨-, j, hj, e1⟩ := h3 _ w3 w4
      have := (h2 j hj).2.2
      rw [e1] at this
      omega
  have ha : 0 < a := by
    rcases hx with ⟨_, z1, _, z2⟩ | ⟨w, _, ⟨_, _, w3⟩, w4, w5, w6, w7⟩
    · omega
    · have := (h3 _ w3 w4).1
      rcases (mn2_le (a := car (wb b e w)) (b := wm mm lo w)).2.2 with y | y
      · rw [w7, y]; exact this
      · rw [w7, y]; exact w6.2
  refine ⟨⟨hc.symm, ?_, ?_, ?_, ?_, ?_⟩, hm⟩
  · intro j hj
    by_cases e1 : j = m
    · rw [e1, uF_at, uF_at, uF_at]; exact ⟨hv, by simp, hLm⟩
    · obtain ⟨a1, a2, a3⟩ := h2 j (by omega)
      rw [uF_ne e1, uF_ne (hne _ a2), uF_ne (hne _ a2)]
      exact ⟨a1, a2, a3⟩
  · intro u hu hs
    by_cases e1 : u = v
    · rw [e1, uF_at]; exact ⟨ha, m, by omega, uF_at⟩
    · rw [uF_ne e1] at hs
      obtain ⟨a1, j, hj, e2⟩ := h3 u hu hs
      rw [uF_ne e1]
      exact ⟨a1, j, by omega, by rw [uF_ne (by omega)]; exact e2⟩
  · intro i j hij hj
    by_cases e1 : j = m
    · by_cases e2 : i = m
      · rw [e1, e2]; exact Nat.le_refl _
      · rw [e1, uF_at, uF_at, uF_ne e2, uF_ne (hne _ (h2 i (by omega)).2.1)]
        exact hL i (by omega)
    · have i1 : uF q m v i = q i := uF_ne (by omega)
      have i2 : uF q m v j = q j := uF_ne (by omega)
      rw [i1, i2, uF_ne (hne _ (h2 i (by omega)).2.1), uF_ne (hne _ (h2 j (by omega)).2.1)]
      exact h4 i j hij (by omega)
  · intro u hu
    by_cases e1 : u = v
    · subst e1
      unfold bfN
      rw [uF_at]
      rcases hx with ⟨rfl, z1, z2, z3⟩ | ⟨w, rfl, w1, w4, w5, w6, w7⟩
      · show 0 < ex u ∧ uF lev u L u = 0 ∧ uF car u a u = ex u
        rw [uF_at, uF_at]; exact ⟨z1, z2, z3⟩
      · have e2 := hne _ w4
        show (w < 2 * K ∧ we b e w = u ∧ wb b e w < n) ∧ uF vn u _ (wb b e w) ≠ none ∧ uF lev u L u = uF lev u L (wb b e w) + 1 ∧ (op (w / 2) = true ∧ 0 < wm mm lo w) ∧ uF car u a u = mn2 (uF car u a (wb b e w)) (wm mm lo w)
        rw [uF_at, uF_at, uF_ne e2, uF_ne e2, uF_ne e2]
        exact ⟨w1, w4, w5, w6, w7⟩
    · have h7 := h5 u hu
      unfold bfN at h7 ⊢
      rw [uF_ne e1]
      cases hq : vn u with
      | none => trivial
      | some o =>
        rw [hq] at h7
        cases o with
        | none =>
          show 0 < ex u ∧ uF lev v L u = 0 ∧ uF car v a u = ex u
          rw [uF_ne e1, uF_ne e1]; exact h7
        | some w =>
          obtain ⟨w1, w4, w5, w6, w7⟩ := h7
          have e2 := hne _ w4
          show (w < 2 * K ∧ we b e w = u ∧ wb b e w < n) ∧ uF vn v _ (wb b e w) ≠ none ∧ uF lev v L u = uF lev v L (wb b e w) + 1 ∧ (op (w / 2) = true ∧ 0 < wm mm lo w) ∧ uF car v a u = mn2 (uF car v a (wb b e w)) (wm mm lo w)
          rw [uF_ne e1, uF_ne e1, uF_ne e2, uF_ne e2, uF_ne e2]
          exact ⟨w1, w4, w5, w6, w7⟩
  · intro T t1 t2 u hu hs
    by_cases e1 : u = v
    · rw [e1]
      rcases hx with ⟨_, z1, _, _⟩ | ⟨w, _, ⟨w1, w2, w3⟩, w4, w5, w6, w7⟩
      · exact t2 v hv z1
      · have := t1 w w1 w6.1 w6.2 (h6 T t1 t2 _ w3 w4)
        rw [w2] at this
        exact this
    · rw [uF_ne e1] at hs
      exact h6 T t1 t2 u hu hs
/-- the nodes of the first i places have been gone on from -/
def bfX (K : Nat) (b e : Nat → Nat) (op : Nat → Bool) (mm lo ex : Nat → Int) (vn : Nat → Option (Option Nat)) (lev : Nat → Nat) (q : Nat → Nat) (i : Nat) : Prop := ∀ j, j < i → 0 ≤ ex (q j) ∧ ∀ w, w < 2 * K → op (w / 2) = true → 0 < wm mm lo w → wb b e w = q j → vn (we b e w) ≠ none ∧ lev (we b e w) ≤ lev (q j) + 1
def bfS (n : Nat) (ex : Nat → Int) (vn : Nat → Option (Option Nat)) : Prop := ∀ v, v < n → 0 < ex v → vn v = some none
def bvi (vn : Nat → Option (Option Nat)) (v : Nat) : Option Nat := match vn v with
  | some (some w) => some w
  | _ => none
theorem bvi_s {vn : Nat → Option (Option Nat)} {v w : Nat} (h : bvi vn v = some w) : vn v = some (some w) := by
  unfold bvi at h
  split at h
  · rename_i w' e1
    rw [e1]
    cases h
    rfl
  · cases h
theorem bfI_tre {n K : Nat} {b e : Nat → Nat} {op : Nat → Bool} {mm lo ex : Nat → Int} {vn : Nat → Option (Option Nat)} {lev : Nat → Nat} {car : Nat → Int} {q : Nat → Nat} {m : Nat} (h : bfI n K b e op mm lo ex vn lev car q m) : tre n K b e (bvi vn) lev := by
  intro v w hv hw
  have := h.2.2.2.2.1 v hv
  unfold bfN at this
  rw [bvi_s hw] at this
  obtain ⟨⟨w1, w2, w3⟩, w4, w5, w6, w7⟩ := this
  exact ⟨w1, w2, w3, by omega⟩
end
section
/-! ===== Router: the search, in the cells ===== -/
def cvn : Option (Option Nat) → Int32
  | none => -2
  | some none => -1
  | some (some w) => nI w
def rq_ok (u : dm_S) (n : Nat) (vn : Nat → Option (Option Nat)) (car : Nat → Int) (q : Nat → Nat) (m : Nat) : Prop := (∀ v, v < 24 → u.1 33 v = cvn (vn v)) ∧ (∀ v, v < n → vn v ≠ none → u.2 34 v = lI (car v)) ∧ (∀ j, j < m → u.1 35 j = nI (q j)) ∧ u.1 4 6 = nI m
def rq_fr (u u' : dm_S) : Prop := (∀ c, c ≠ 33 → c ≠ 35 → c ≠ 4 → u'.1 c = u.1 c) ∧ (∀ k, k ≠ 6 → u'.1 4 k = u.1 4 k) ∧ ∀ c, c ≠ 34 → u'.2 c = u.2 c
theorem rq_fr0 (u : dm_S) : rq_fr u u := ⟨fun _ _ _ _ => rfl, fun _ _ => rfl, fun _ _ => rfl⟩
theorem rq_frt {u u' u'' : dm_S} (h : rq_fr u u') (h2 : rq_fr u' u'') : rq_fr u u'' := ⟨fun c a b d => (h2.1 c a b d).trans (h.1 c a b d), fun k a => (h2.2.1 k a).trans (h.2.1 k a), fun c a => (h2.2.2 c a).trans (h.2.2 c a)⟩
theorem rq_enq {u : dm_S} {n m v : Nat} {vn : Nat → Option (Option Nat)} {car : Nat → Int} {q : Nat → Nat} {x : Option Nat} {z : Int} (h : rq_ok u n vn car q m) (hn : n ≤ 24) (hv : v < n) (hm : m < 24) : rq_fr u (dm_ui (dm_ui (dm_ul (dm_ui u 33 v (cvn (some x))) 34 v (lI z)) 35 m (nI v)) 4 6 (nI m + 1)) ∧ rq_ok (dm_ui (dm_ui (dm_ul (dm_ui u 33 v (cvn (some x))) 34 v (lI z)) 35 m (nI v)) 4 6 (nI m + 1)) n (uF vn v (some x)) (uF car v z) (uF q m v) (m + 1) := by
  obtain ⟨h1, h2, h3, h4⟩ := h
  refine ⟨⟨fun c a b d => ?_, fun k a => ?_, fun c a => ?_⟩, fun w hw => ?_, fun w hw hs => ?_, fun j hj => ?_, ?_⟩
  · simp only [dm_ui_1, dm_ul_1, if_neg a, if_neg b, if_neg d]
  · simp only [dm_ui_1, dm_ul_1, upd]
    simp [a, upd]
  · simp only [dm_ui_2, dm_ul_2, if_neg a]
  · simp only [dm_ui_1, dm_ul_1, upd]
    by_cases e1 : w = v
    · simp [e1, uF_at, upd]
    · simp [e1, uF_ne e1, h1 w hw, upd]
  · simp only [dm_ui_2, dm_ul_2, vp_updL]
    by_cases e1 : w = v
    · simp [e1, uF_at, vp_updL]
    · rw [uF_ne e1] at hs
      simp [e1, uF_ne e1, h2 w hw hs, vp_updL]
  · simp only [dm_ui_1, dm_ul_1, upd]
    by_cases e1 : j = m
    · simp [e1, uF_at, upd]
    · simp [e1, uF_ne e1, h3 j (by omega), upd]
  · simp only [dm_ui_1, dm_ul_1, upd]
    simp [nI_1, upd]
def sp_X7_queueSources (As : List Value) (u : dm_S) (Q : Option Value → dm_S → Prop) : Prop := match As with
  | [.ref 4] => ∃ (n : Nat) (ex : Nat → Int), n ≤ 24 ∧ u.1 1 8 = nI n ∧ u.2 25 = lF ex ∧ (∀ v, v < n → lB (ex v)) ∧ ∀ (u' : dm_S) (vn : Nat → Option (Option Nat)) (lev : Nat → Nat) (car : Nat → Int) (q : Nat → Nat) (m : Nat), rq_fr u u' → rq_ok u' n vn car q m → (∀ (K : Nat) (b e : Nat → Nat) (op : Nat → Bool) (mm lo : Nat → Int), bfI n K b e op mm lo ex vn lev car q m) → (∀ j, j < m → lev (q j) = 0) → bfS n ex vn → (∀ v, n ≤ v → vn v = none) → Q none u'
  | _ => False
def p_X7_queueSources : List dm_I := [(0, .aload_n 0, 1, [0]), (1, .getfield 15, 3, []), (4, .bipush (-2), 2, []), (6, .invokestatic 119, 3, []), (9, .aload_n 0, 1, [0]), (10, .iconst 0, 1, []), (11, .putfield 113, 3, []), (14, .iconst 0, 1, []), (15, .istore_n 1, 1, [1]), (16, .iload_n 1, 1, [1]), (17, .aload_n 0, 1, [0]), (18, .getfield 26, 3, []), (21, .getfield 125, 3, []), (24, .if_icmp .ge 38, 3, [62]), (27, .aload_n 0, 1, [0]), (28, .getfield 30, 3, []), (31, .getfield 78, 3, []), (34, .iload_n 1, 1, [1]), (35, .laload, 1, []), (36, .lconst 0, 1, []), (37, .lcmp, 1, []), (38, .ifCond .le 18, 3, [56]), (41, .aload_n 0, 1, [0]), (42, .iload_n 1, 1, [1]), (43, .iconst (-1), 1, []), (44, .aload_n 0, 1, [0]), (45, .getfield 30, 3, []), (48, .getfield 78, 3, []), (51, .iload_n 1, 1, [1]), (52, .laload, 1, []), (53, .invokevirtual 128, 3, []), (56, .iinc 1 1, 3, []), (59, .goto (-43), 3, [16]), (62, .return_, 1, [])]
set_option maxRecDepth 100000 in
theorem v_X7_queueSources : p_X7_queueSources.all (dm_vb cX7_queueSources) = true := by decide +kernel
def k_X7_queueSources : dm_Sp := fun a => match a with
  | 0 => sp_J7_fill_53178
  | 1 => sp_X7_enqueue
  | _ => fun _ _ _ => False
def x_X7_queueSources : dm_X := dm_mk [(15, 7, 3), (26, 7, 0), (30, 7, 1), (78, 1, 7), (113, 7, 6), (125, 2, 8)] [] [] [(119, 0, 2, 1000), (128, 1, 3, 7)] 0
set_option maxRecDepth 100000 in
set_option maxHeartbeats 400000 in
theorem u_X7_queueSources : dm_Pure shC x_X7_queueSources k_X7_queueSources p_X7_queueSources 2 sp_X7_queueSources := by
  intro As u Qp h
  unfold sp_X7_queueSources at h
  split at h
  · obtain ⟨n, ex, hn, en, hex, hB, h⟩ := h
    refine ⟨Nat.le_of_ble_eq_true rfl, fun G Wp hW0 hW1 hG => ?_⟩
    have loop : ∀ k i : Nat, i + k = n → ∀ (u' : dm_S) (vn : Nat → Option (Option Nat)) (lev : Nat → Nat) (car : Nat → Int) (q : Nat → Nat) (m : Nat), rq_fr u u' → rq_ok u' n vn car q m → (∀ (K : Nat) (b e : Nat → Nat) (op : Nat → Bool) (mm lo : Nat → Int), bfI n K b e op mm lo ex vn lev car q m) → (∀ j, j < m → lev (q j) = 0) → (∀ v, v < i → 0 < ex v → vn v = some none) → (∀ v, i ≤ v → vn v = none) → G 16 [some (.ref 4), some (.int (nI i))] [] u' := by
      intro k
      induction k with
      | zero =>
        intro i hi u' vn lev car q m hf hr hb hz h1 h2
        have e1 := hf.1 1 (by decide) (by decide) (by decide)
        apply hG (fun pc => pc == 16) 40
        simp (config := { maxSteps := 2000000 }) [hW0, hW1, dm_fn, dm_fd, dm_x, dm_L0, dm_la, dm_t1, dm_sw, List.headD, dm_ic, dm_mk, dm_s1, dm_s2, dm_clr, dm_cs, dm_cc, dm_nb0, dm_nb1, Value.category, List.lookup, p_X7_queueSources, x_X7_queueSources, k_X7_queueSources, dm_cm, upd, vp_updL, dm_ui_1, dm_ui_2, dm_ul_1, dm_ul_2, sp_J7_fill_53178, sp_X7_enqueue, sC_0, sC_1, sC_2, sC_3, sC_4, sC_5, sC_6, sC_7, sC_8, sC_9, sC_10, sC_11, sC_12, sC_13, sC_14, sC_15, sC_16, sC_17, sC_18, sC_19, sC_20, sC_21, sC_22, sC_23, sC_24, sC_25, sC_26, sC_27, sC_28, sC_29, sC_30, sC_31, sC_32, sC_33, sC_34, sC_35, sC_36, sC_37, sC_38, sC_39, sC_40, sC_41, sC_42, sC_43, sC_44, sC_45, sC_46, sC_47, sC_48, sC_49, sC_50, sC_51]
        rw [e1, en]
        have e : i = n := by omega
        subst e
        exact ⟨fun _ => h u' vn lev car q m hf hr hb hz h1 h2, fun q => absurd q (nI_nlt (Nat.le_refl _) (by omega))⟩
      | succ k ih =>
        intro i hi u' vn lev car q m hf hr hb hz h1 h2
        have e1 := hf.1 1 (by decide) (by decide) (by decide)
        have e2 := hf.2.2 25 (by decide)
        have e3 := hr.2.2.2
        have ii : vp_in (nI i) 24 := vp_in_nI (by omega) (by omega)
        apply hG (fun pc => pc == 16) 40
        simp (config := { maxSteps := 2000000 }) [hW0, hW1, dm_fn, dm_fd, dm_x, dm_L0, dm_la, dm_t1, dm_sw, List.headD, dm_ic, dm_mk, dm_s1, dm_s2, dm_clr, dm_cs, dm_cc, dm_nb0, dm_nb1, Value.category, List.lookup, p_X7_queueSources, x_X7_queueSources, k_X7_queueSources, dm_cm, upd, vp_updL, dm_ui_1, dm_ui_2, dm_ul_1, dm_ul_2, sp_J7_fill_53178, sp_X7_enqueue, sC_0, sC_1, sC_2, sC_3, sC_4, sC_5, sC_6, sC_7, sC_8, sC_9, sC_10, sC_11, sC_12, sC_13, sC_14, sC_15, sC_16, sC_17, sC_18, sC_19, sC_20, sC_21, sC_22, sC_23, sC_24, sC_25, sC_26, sC_27, sC_28, sC_29, sC_30, sC_31, sC_32, sC_33, sC_34, sC_35, sC_36, sC_37, sC_38, sC_39, sC_40, sC_41, sC_42, sC_43, sC_44, sC_45, sC_46, sC_47, sC_48, sC_49, sC_50, sC_51]
        rw [e1, en, e2, hex, e3, nI_clamp (n := i) (by omega), lF_at, nI_1]
        have hB0 : lB 0 := by unfold lB; omega
        refine ⟨fun zq => absurd zq (nI_ge (by omega) (by omega)), fun zq => ⟨ii, fun y => ?_, fun y => ?_⟩⟩
        · have y2 : ¬ 0 < ex i := by
            have := (lI_le (hB i (by omega)) hB0).mp y
            omega
          exact ih (i + 1) (by omega) u' vn lev car _ m hf hr hb hz (fun v hv hp => by
            rcases Nat.lt_or_ge v i with z | z
            · exact h1 v z hp
            · rw [show v = i by omega] at hp; exact absurd hp y2) (fun v hv => h2 v (by omega))
        · have y2 : 0 < ex i := (lI_lt hB0 (hB i (by omega))).mp y
          have hadd := fun K b e op mm lo => bfI_add (x := none) (a := ex i) (L := 0) (hb K b e op mm lo) (show i < n by omega) (h2 i (Nat.le_refl _)) (fun j hj => by rw [hz j hj]; exact Nat.le_refl _) (Or.inl ⟨rfl, y2, rfl, rfl⟩)
          have hm := (hadd 0 (fun _ => 0) (fun _ => 0) (fun _ => false) (fun _ => 0) (fun _ => 0)).2
          obtain ⟨a1, a2⟩ := rq_enq (x := none) (z := ex i) hr hn (show i < n by omega) (by omega)
          refine ⟨ii, vp_in_nI (by omega) (by omega), ?_⟩
          rw [nI_clamp (by omega)]
          refine ih (i + 1) (by omega) _ _ _ _ _ _ (rq_frt hf a1) a2 (fun K b e op mm lo => (hadd K b e op mm lo).1) (fun j hj => ?_) (fun v hv hp => ?_) (fun v hv => ?_)
          · by_cases z : j = m
            · rw [z, uF_at, uF_at]
            · rw [uF_ne z]
              have hne : q j ≠ i := fun z2 => ((hb 0 (fun _ => 0) (fun _ => 0) (fun _ => false) (fun _ => 0) (fun _ => 0)).2.1 j (by omega)).2.1 (by rw [z2]; exact h2 i (Nat.le_refl _))
              rw [uF_ne hne]
              exact hz j (by omega)
          · by_cases z : v = i
            · rw [z, uF_at]
            · rw [uF_ne z]; exact h1 v (by omega) hp
          · rw [uF_ne (by omega)]; exact h2 v (by omega)
    apply hG (fun pc => pc == 16) 40
    simp (config := { maxSteps := 2000000 }) [hW0, hW1, dm_fn, dm_fd, dm_x, dm_L0, dm_la, dm_t1, dm_sw, List.headD, dm_ic, dm_mk, dm_s1, dm_s2, dm_clr, dm_cs, dm_cc, dm_nb0, dm_nb1, Value.category, List.lookup, p_X7_queueSources, x_X7_queueSources, k_X7_queueSources, dm_cm, upd, vp_updL, dm_ui_1, dm_ui_2, dm_ul_1, dm_ul_2, sp_J7_fill_53178, sp_X7_enqueue, sC_0, sC_1, sC_2, sC_3, sC_4, sC_5, sC_6, sC_7, sC_8, sC_9, sC_10, sC_11, sC_12, sC_13, sC_14, sC_15, sC_16, sC_17, sC_18, sC_19, sC_20, sC_21, sC_22, sC_23, sC_24, sC_25, sC_26, sC_27, sC_28, sC_29, sC_30, sC_31, sC_32, sC_33, sC_34, sC_35, sC_36, sC_37, sC_38, sC_39, sC_40, sC_41, sC_42, sC_43, sC_44, sC_45, sC_46, sC_47, sC_48, sC_49, sC_50, sC_51]
    refine ⟨24, by omega, rfl, ?_⟩
    refine loop n 0 (by omega) _ (fun _ => none) (fun _ => 0) (fun _ => 0) (fun _ => 0) 0 ?_ ?_ (fun K b e op mm lo => bfI_0) (fun j hj => by omega) (fun v hv => by omega) (fun _ _ => rfl)
    · refine ⟨fun c a b d => ?_, fun k a => ?_, fun c a => rfl⟩
      · simp only [dm_ui_1, if_neg d, dm_fi, if_neg a]
      · simp [dm_ui_1, dm_fi, upd, a]
    · refine ⟨fun v hv => ?_, fun v hv hs => absurd rfl hs, fun j hj => by omega, ?_⟩
      · simp [dm_ui_1, dm_fi, hv, cvn]
      · simp [dm_ui_1, upd]; rfl
  · exact h.elim
set_option maxRecDepth 100000 in
theorem t_X7_queueSources (l : Launch) (D : va_G) (cA : Nat → ClassId) (ad : Nat → Nat) : dm_Met l D dm_cl cA ad shC yX7_queueSources (Cond.code yX7_queueSources cX7_queueSources 2 (dm_rt 0) :: dm_tt) ({ frames := 1, cells := 0, slots := 0, locals := 24 } : Room) sp_X7_queueSources := dm_meth (own := RX7) (X := x_X7_queueSources) (Sp := k_X7_queueSources) (prog := p_X7_queueSources) (by decide +kernel) rfl rfl (dm_FO_s ffX7 [(15, 7, 3), (26, 7, 0), (30, 7, 1), (78, 1, 7), (113, 7, 6), (125, 2, 8)] rfl dm_hT (by decide +kernel)) (dm_IO_s ifX7 jfX7 [] [] rfl rfl dm_hT (by decide +kernel) (by decide +kernel)) soC (dm_MO_of (List.forall_mem_cons.mpr ⟨dm_M1_of (t_J7_fill_53178 l D cA ad) dm_hT (dm_mem [549, 78, 602] (by decide +kernel) (by decide +kernel)) (by decide) (by decide +kernel) (Or.inl ⟨rfl, dm_mem (ws := [.static yJ7_fill_53178]) [548] (by decide +kernel) (by decide +kernel) _ List.mem_cons_self⟩), List.forall_mem_cons.mpr ⟨dm_M1_of (t_X7_enqueue l D cA ad) dm_hT (dm_mem [606, 70, 603] (by decide +kernel) (by decide +kernel)) (by decide) (by decide +kernel) (Or.inr ⟨by decide, dm_mem [605, 7] (by decide +kernel) (by decide +kernel), rfl⟩), fun _ h => absurd h List.not_mem_nil⟩⟩)) v_X7_queueSources u_X7_queueSources
/-- loads lo in lanes of width mm, what is too much at the nodes: ex -/
def LA (u : dm_S) (n K : Nat) (b e : Nat → Nat) (mm lo ex : Nat → Int) : Prop := ln_ok u n K b e ∧ u.2 22 = lF mm ∧ u.2 24 = lF lo ∧ u.2 25 = lF ex
/-- numbers so small that no sum of theirs goes round -/
def LB (n K : Nat) (mm lo ex : Nat → Int) : Prop := fits K mm lo ∧ (∀ l, l < K → mm l ≤ 1152921504606846976) ∧ ∀ v, v < n → -1152921504606846976 ≤ ex v ∧ ex v ≤ 1152921504606846976
theorem LB_m {n K w : Nat} {mm lo ex : Nat → Int} (h : LB n K mm lo ex) (hw : w < 2 * K) : 0 ≤ wm mm lo w ∧ wm mm lo w ≤ 1152921504606846976 := by
  obtain ⟨h1, h2⟩ := h.1 (w / 2) (by omega)
  have h3 := h.2.1 (w / 2) (by omega)
  unfold wm
  split <;> omega
theorem LA_m {u : dm_S} {n K w : Nat} {b e : Nat → Nat} {mm lo ex : Nat → Int} (h : LA u n K b e mm lo ex) : lw_m u w = lI (wm mm lo w) := by
  obtain ⟨-, h2, h3, -⟩ := h
  unfold lw_m wm
  rw [h2, h3]
  split
  · rw [lF_at, lF_at, lI_sub]
  · rfl
def op_ok (u : dm_S) (K : Nat) (op : Nat → Bool) : Prop := ∀ l, l < K → u.1 32 l = if op l then 1 else 0
/-- the ways that begin at each node -/
def so_ok (u : dm_S) (n K : Nat) (b e hd sr : Nat → Nat) : Prop := (∀ v, v ≤ 24 → u.1 26 v = nI (hd v)) ∧ (∀ v, v < n → hd v ≤ hd (v + 1) ∧ hd (v + 1) ≤ 2 * K) ∧ (∀ v t, v < n → hd v ≤ t → t < hd (v + 1) → u.1 27 t = nI (sr t) ∧ sr t < 2 * K ∧ wb b e (sr t) = v) ∧ ∀ w, w < 2 * K → ∃ t, hd (wb b e w) ≤ t ∧ t < hd (wb b e w + 1) ∧ sr t = w
theorem LA_fr {u u' : dm_S} {n K : Nat} {b e : Nat → Nat} {mm lo ex : Nat → Int} (h : LA u n K b e mm lo ex) (hf : rq_fr u u') : LA u' n K b e mm lo ex := by
  obtain ⟨h1, h2, h3, h4⟩ := h
  obtain ⟨f1, f2, f3⟩ := hf
  refine ⟨⟨?_, fun l hl => ?_⟩, (f3 22 (by decide)).trans h2, (f3 24 (by decide)).trans h3, (f3 25 (by decide)).trans h4⟩
  · rw [f1 1 (by decide) (by decide) (by decide), f1 2 (by decide) (by decide) (by decide)]
    exact h1.1
  · rw [f1 20 (by decide) (by decide) (by decide), f1 21 (by decide) (by decide) (by decide)]
    exact h1.2 l hl
theorem cvn_ne {o : Option (Option Nat)} (h : ∀ w, o = some (some w) → w < 640) : cvn o = -2 ↔ o = none := by
  cases o with
  | none => simp [cvn]
  | some o =>
    cases o with
    | none => simp [cvn]
    | some w =>
      have := h w rfl
      simp only [cvn, reduceCtorEq, iff_false]
      intro z
      have h2 := nI_pos (n := w) (by omega)
      rw [z] at h2
      exact h2 (by decide)
theorem bfI_w {n K : Nat} {b e : Nat → Nat} {op : Nat → Bool} {mm lo ex : Nat → Int} {vn : Nat → Option (Option Nat)} {lev : Nat → Nat} {car : Nat → Int} {q : Nat → Nat} {m v w : Nat} (h : bfI n K b e op mm lo ex vn lev car q m) (hK : K ≤ 320) (hv : v < n) (hw : vn v = some (some w)) : w < 640 := by
  have := h.2.2.2.2.1 v hv
  unfold bfN at this
  rw [hw] at this
  have := this.1.1
  omega
def sp_X7_queueNeighbours (As : List Value) (u : dm_S) (Q : Option Value → dm_S → Prop) : Prop := match As with
  | [.ref 4, .int x] => ∃ (n K : Nat) (b e : Nat → Nat) (op : Nat → Bool) (mm lo ex : Nat → Int) (hd sr : Nat → Nat) (vn : Nat → Option (Option Nat)) (lev : Nat → Nat) (car : Nat → Int) (q : Nat → Nat) (m v : Nat), LA u n K b e mm lo ex ∧ LB n K mm lo ex ∧ so_ok u n K b e hd sr ∧ op_ok u K op ∧ rq_ok u n vn car q m ∧ bfI n K b e op mm lo ex vn lev car q m ∧ x = nI v ∧ v < n ∧ vn v ≠ none ∧ (∀ j, j < m → lev (q j) ≤ lev v + 1) ∧ (∀ y, n ≤ y → vn y = none) ∧ (∀ y, y < n → vn y ≠ none → lB (car y)) ∧
    ∀ (u' : dm_S) (vn' : Nat → Option (Option Nat)) (lev' : Nat → Nat) (car' : Nat → Int) (q' : Nat → Nat) (m' : Nat), rq_fr u u' → rq_ok u' n vn' car' q' m' → bfI n K b e op mm lo ex vn' lev' car' q' m' → (∀ j, j < m' → lev' (q' j) ≤ lev v + 1) → (∀ y, vn y ≠ none → vn' y = vn y ∧ lev' y = lev y) → (m ≤ m' ∧ ∀ j, j < m → q' j = q j) → (∀ y, n ≤ y → vn' y = none) → (∀ y, y < n → vn' y ≠ none → lB (car' y)) → (∀ w, w < 2 * K → op (w / 2) = true → 0 < wm mm lo w → wb b e w = v → vn' (we b e w) ≠ none ∧ lev' (we b e w) ≤ lev v + 1) → Q none u'
  | _ => False
def p_X7_queueNeighbours : List dm_I := [(0, .aload_n 0, 1, [0]), (1, .getfield 30, 3, []), (4, .getfield 132, 3, []), (7, .iload_n 1, 1, [1]), (8, .iaload, 1, []), (9, .istore_n 2, 1, [2]), (10, .iload_n 2, 1, [2]), (11, .aload_n 0, 1, [0]), (12, .getfield 30, 3, []), (15, .getfield 132, 3, []), (18, .iload_n 1, 1, [1]), (19, .iconst 1, 1, []), (20, .iadd, 1, []), (21, .iaload, 1, []), (22, .if_icmp .ge 91, 3, [113]), (25, .aload_n 0, 1, [0]), (26, .getfield 30, 3, []), (29, .getfield 135, 3, []), (32, .iload_n 2, 1, [2]), (33, .iaload, 1, []), (34, .istore_n 3, 1, [3]), (35, .aload_n 0, 1, [0]), (36, .getfield 30, 3, []), (39, .iload_n 3, 1, [3]), (40, .invokevirtual 138, 3, []), (43, .istore 4, 2, []), (45, .aload_n 0, 1, [0]), (46, .getfield 9, 3, []), (49, .iload_n 3, 1, [3]), (50, .iconst 1, 1, []), (51, .ishr, 1, []), (52, .baload, 1, []), (53, .ifCond .eq 14, 3, [67]), (56, .aload_n 0, 1, [0]), (57, .getfield 30, 3, []), (60, .iload_n 3, 1, [3]), (61, .invokevirtual 87, 3, []), (64, .goto 4, 3, [68]), (67, .lconst 0, 1, []), (68, .lstore 5, 2, []), (70, .lload 5, 2, []), (72, .lconst 0, 1, []), (73, .lcmp, 1, []), (74, .ifCond .le 33, 3, [107]), (77, .aload_n 0, 1, [0]), (78, .getfield 15, 3, []), (81, .iload 4, 2, []), (83, .iaload, 1, []), (84, .bipush (-2), 2, []), (86, .if_icmp .ne 21, 3, [107]), (89, .aload_n 0, 1, [0]), (90, .iload 4, 2, []), (92, .iload_n 3, 1, [3]), (93, .aload_n 0, 1, [0]), (94, .getfield 19, 3, []), (97, .iload_n 1, 1, [1]), (98, .laload, 1, []), (99, .lload 5, 2, []), (101, .invokestatic 91, 3, []), (104, .invokevirtual 128, 3, []), (107, .iinc 2 1, 3, []), (110, .goto (-100), 3, [10]), (113, .return_, 1, [])]
set_option maxRecDepth 100000 in
theorem v_X7_queueNeighbours : p_X7_queueNeighbours.all (dm_vb cX7_queueNeighbours) = true := by decide +kernel
def k_X7_queueNeighbours : dm_Sp := fun a => match a with
  | 0 => sp_X1_endOf
  | 1 => sp_X1_roomOf
  | 2 => sp_J9_min_f86c9
  | 3 => sp_X7_enqueue
  | _ => fun _ _ _ => False
def x_X7_queueNeighbours : dm_X := dm_mk [(9, 7, 2), (15, 7, 3), (19, 7, 4), (30, 7, 1), (132, 1, 8), (135, 1, 9)] [] [] [(138, 0, 1, 1), (87, 1, 1, 1), (91, 2, 2, 1000), (128, 3, 3, 7)] 0
set_option maxRecDepth 100000 in
set_option maxHeartbeats 800000 in
theorem u_X7_queueNeighbours : dm_Pure shC x_X7_queueNeighbours k_X7_queueNeighbours p_X7_queueNeighbours 7 sp_X7_queueNeighbours := by
  intro As u Qp h
  unfold sp_X7_queueNeighbours at h
  split at h
  · obtain ⟨n, K, b, e, op, mm, lo, ex, hd, sr, vn, lev, car, q, m, v, hA, hB, hS, hO, hr, hb, rfl, hv, hvs, hL, hN, hC, h⟩ := h
    obtain ⟨hn, hK, en, eK⟩ := hA.1.1
    obtain ⟨s1, s2, s3, s4⟩ := hS
    obtain ⟨s2a, s2b⟩ := s2 v hv
    refine ⟨Nat.le_of_ble_eq_true rfl, fun G Wp hW0 hW1 hG => ?_⟩
    have loop : ∀ k t : Nat, t + k = hd (v + 1) → hd v ≤ t → ∀ (u' : dm_S) (vn' : Nat → Option (Option Nat)) (lev' : Nat → Nat) (car' : Nat → Int) (q' : Nat → Nat) (m' : Nat) (o3 o4 o5 o6 : Option Value), rq_fr u u' → rq_ok u' n vn' car' q' m' → bfI n K b e op mm lo ex vn' lev' car' q' m' → (∀ j, j < m' → lev' (q' j) ≤ lev v + 1) → (∀ y, vn y ≠ none → vn' y = vn y ∧ lev' y = lev y) → (m ≤ m' ∧ ∀ j, j < m → q' j = q j) → (∀ y, n ≤ y → vn' y = none) → (∀ y, y < n → vn' y ≠ none → lB (car' y)) → (∀ t', hd v ≤ t' → t' < t → op (sr t' / 2) = true → 0 < wm mm lo (sr t') → vn' (we b e (sr t')) ≠ none ∧ lev' (we b e (sr t')) ≤ lev v + 1) → G 10 [some (.ref 4), some (.int (nI v)), some (.int (nI t)), o3, o4, o5, o6] [] u' := by
      intro k
      induction k with
      | zero =>
        intro t ht ht2 u' vn' lev' car' q' m' o3 o4 o5 o6 a1 a2 a3 a4 a5 a6 a7 a8 a9
        apply hG (fun pc => pc == 10) 60
        simp (config := { maxSteps := 2000000 }) [hW0, hW1, dm_fn, dm_fd, dm_x, dm_L0, dm_la, dm_t1, dm_sw, List.headD, dm_ic, dm_mk, dm_s1, dm_s2, dm_clr, dm_cs, dm_cc, dm_nb0, dm_nb1, Value.category, List.lookup, p_X7_queueNeighbours, x_X7_queueNeighbours, k_X7_queueNeighbours, dm_cm, upd, vp_updL, dm_ui_1, dm_ui_2, dm_ul_1, dm_ul_2, sp_X1_endOf, sp_X1_roomOf, sp_J9_min_f86c9, sp_X7_enqueue, sC_0, sC_1, sC_2, sC_3, sC_4, sC_5, sC_6, sC_7, sC_8, sC_9, sC_10, sC_11, sC_12, sC_13, sC_14, sC_15, sC_16, sC_17, sC_18, sC_19, sC_20, sC_21, sC_22, sC_23, sC_24, sC_25, sC_26, sC_27, sC_28, sC_29, sC_30, sC_31, sC_32, sC_33, sC_34, sC_35, sC_36, sC_37, sC_38, sC_39, sC_40, sC_41, sC_42, sC_43, sC_44, sC_45, sC_46, sC_47, sC_48, sC_49, sC_50, sC_51]
        have c1 : (nI (v + 1)).toNatClampNeg = v + 1 := nI_clamp (by omega)
        rw [a1.1 26 (by decide) (by decide) (by decide), nI_1, c1, s1 (v + 1) (by omega)]
        refine ⟨vp_in_nI (by omega) (by omega), fun _ => h u' vn' lev' car' q' m' a1 a2 a3 a4 a5 a6 a7 a8 (fun w hw ho hm hwb => ?_), fun zq => absurd zq (nI_nlt (by omega) (by omega))⟩
        obtain ⟨t', t1, t2, t3⟩ := s4 w hw
        rw [hwb] at t1 t2
        have := a9 t' t1 (by omega)
        rw [t3] at this
        exact this ho hm
      | succ k ih =>
        intro t ht ht2 u' vn' lev' car' q' m' o3 o4 o5 o6 a1 a2 a3 a4 a5 a6 a7 a8 a9
        obtain ⟨r1, r2, r3⟩ := s3 v t hv ht2 (by omega)
        have hA' := LA_fr hA a1
        apply hG (fun pc => pc == 10) 60
        simp (config := { maxSteps := 2000000 }) [hW0, hW1, dm_fn, dm_fd, dm_x, dm_L0, dm_la, dm_t1, dm_sw, List.headD, dm_ic, dm_mk, dm_s1, dm_s2, dm_clr, dm_cs, dm_cc, dm_nb0, dm_nb1, Value.category, List.lookup, p_X7_queueNeighbours, x_X7_queueNeighbours, k_X7_queueNeighbours, dm_cm, upd, vp_updL, dm_ui_1, dm_ui_2, dm_ul_1, dm_ul_2, sp_X1_endOf, sp_X1_roomOf, sp_J9_min_f86c9, sp_X7_enqueue, sC_0, sC_1, sC_2, sC_3, sC_4, sC_5, sC_6, sC_7, sC_8, sC_9, sC_10, sC_11, sC_12, sC_13, sC_14, sC_15, sC_16, sC_17, sC_18, sC_19, sC_20, sC_21, sC_22, sC_23, sC_24, sC_25, sC_26, sC_27, sC_28, sC_29, sC_30, sC_31, sC_32, sC_33, sC_34, sC_35, sC_36, sC_37, sC_38, sC_39, sC_40, sC_41, sC_42, sC_43, sC_44, sC_45, sC_46, sC_47, sC_48, sC_49, sC_50, sC_51]
        have c1 : (nI (v + 1)).toNatClampNeg = v + 1 := nI_clamp (by omega)
        have c2 : (nI t).toNatClampNeg = t := nI_clamp (by omega)
        have c3 : (nI v).toNatClampNeg = v := nI_clamp (by omega)
        rw [a1.1 26 (by decide) (by decide) (by decide), a1.1 27 (by decide) (by decide) (by decide), a1.1 32 (by decide) (by decide) (by decide), nI_1, nI_1, c1, c2, c3, s1 (v + 1) (by omega), r1, a2.2.2.2]
        have d1 : nI (sr t) >>> ((1 : Int32) &&& 31) = nI (sr t / 2) := dm_w2 (by omega)
        have d2 : (nI (sr t / 2)).toNatClampNeg = sr t / 2 := nI_clamp (by omega)
        rw [d1, d2, hO _ (by omega)]
        obtain ⟨e2, l2⟩ := ln_e hA'.1 r2
        have c4 : (nI (we b e (sr t))).toNatClampNeg = we b e (sr t) := nI_clamp (by omega)
        have ie : vp_in (nI (we b e (sr t))) 24 := vp_in_nI (by omega) (by omega)
        refine ⟨vp_in_nI (by omega) (by omega), fun zq => absurd zq (nI_ge (by omega) (by omega)), fun zq => ⟨vp_in_nI (by omega) (by omega), sr t, by omega, rfl, vp_in_nI (by omega) (by omega), fun y => ?_, fun y => ⟨sr t, by omega, rfl, ?_⟩⟩⟩
        · have y2 : ¬ op (sr t / 2) = true := fun z => by rw [if_pos z] at y; cases y
          refine ih (t + 1) (by omega) (by omega) u' vn' lev' car' q' m' _ _ _ _ a1 a2 a3 a4 a5 a6 a7 a8 (fun t' b1 b2 ho hm => ?_)
          rcases Nat.lt_or_ge t' t with z | z
          · exact a9 t' b1 z ho hm
          · rw [show t' = t by omega] at ho; exact absurd ho y2
        · have y2 : op (sr t / 2) = true := by
            cases z : op (sr t / 2)
            · rw [z] at y; exact absurd rfl y
            · rfl
          rw [LA_m hA', e2, c4, a2.1 _ (by omega)]
          obtain ⟨m1, m2⟩ := LB_m hB r2
          have hB0 : lB 0 := by unfold lB; omega
          have hBm : lB (wm mm lo (sr t)) := by unfold lB; omega
          have hq : ∀ w, vn' (we b e (sr t)) = some (some w) → w < 640 := fun w hw => bfI_w a3 hK l2 hw
          refine ⟨fun z => ?_, fun z => ⟨ie, fun z2 => ?_, fun z2 => ?_⟩⟩
          · have z1 : ¬ 0 < wm mm lo (sr t) := by have := (lI_le hBm hB0).mp z; omega
            refine ih (t + 1) (by omega) (by omega) u' vn' lev' car' q' m' _ _ _ _ a1 a2 a3 a4 a5 a6 a7 a8 (fun t' b1 b2 ho hm => ?_)
            rcases Nat.lt_or_ge t' t with x1 | x1
            · exact a9 t' b1 x1 ho hm
            · rw [show t' = t by omega] at hm; exact absurd hm z1
          · have z3 : vn' (we b e (sr t)) ≠ none := fun x1 => z2 ((cvn_ne hq).mpr x1)
            refine ih (t + 1) (by omega) (by omega) u' vn' lev' car' q' m' _ _ _ _ a1 a2 a3 a4 a5 a6 a7 a8 (fun t' b1 b2 ho hm => ?_)
            rcases Nat.lt_or_ge t' t with x1 | x1
            · exact a9 t' b1 x1 ho hm
            · rw [show t' = t by omega]
              obtain ⟨-, j, hj, ej⟩ := a3.2.2.1 _ l2 z3
              exact ⟨z3, by rw [← ej]; exact a4 j hj⟩
          · have z3 : vn' (we b e (sr t)) = none := (cvn_ne hq).mp z2
            have z4 : 0 < wm mm lo (sr t) := (lI_lt hB0 hBm).mp z
            obtain ⟨g1, g2⟩ := a5 v hvs
            have g3 : vn' v ≠ none := by rw [g1]; exact hvs
            have hbv := a8 v hv g3
            rw [a2.2.1 v hv g3, lI_min hbv hBm]
            obtain ⟨p1, p2⟩ := bfI_add (x := some (sr t)) (L := lev v + 1) (a := mn2 (car' v) (wm mm lo (sr t))) a3 l2 z3 a4 (Or.inr ⟨sr t, rfl, ⟨r2, rfl, by rw [r3]; exact hv⟩, by rw [r3]; exact g3, by rw [r3, g2], ⟨y2, z4⟩, by rw [r3]⟩)
            obtain ⟨f1, f2⟩ := rq_enq (x := some (sr t)) (z := mn2 (car' v) (wm mm lo (sr t))) a2 hn l2 (by omega)
            refine ⟨vp_in_nI (by omega) (by omega), ie, vp_in_nI (by omega) (by omega), ?_⟩
            rw [nI_clamp (by omega)]
            have hne : ∀ y, vn' y ≠ none → y ≠ we b e (sr t) := fun y hy x1 => hy (by rw [x1]; exact z3)
            refine ih (t + 1) (by omega) (by omega) _ _ _ _ _ _ _ _ _ _ (rq_frt a1 f1) f2 p1 (fun j hj => ?_) (fun y hy => ?_) ⟨by omega, fun j hj => ?_⟩ (fun y hy => ?_) (fun y hy hs => ?_) (fun t' b1 b2 ho hm => ?_)
            · by_cases x1 : j = m'
              · rw [x1, uF_at, uF_at]; exact Nat.le_refl _
              · rw [uF_ne x1, uF_ne (hne _ (a3.2.1 j (by omega)).2.1)]
                exact a4 j (by omega)
            · have x1 := a5 y hy
              have x2 : y ≠ we b e (sr t) := hne y (by rw [x1.1]; exact hy)
              rw [uF_ne x2, uF_ne x2]; exact x1
            · rw [uF_ne (by omega)]; exact a6.2 j hj
            · rw [uF_ne (by omega)]; exact a7 y hy
            · by_cases x1 : y = we b e (sr t)
              · rw [x1, uF_at]
                rcases (mn2_le (a := car' v) (b := wm mm lo (sr t))).2.2 with x2 | x2
                · rw [x2]; exact hbv
                · rw [x2]; exact hBm
              · rw [uF_ne x1] at hs
                rw [uF_ne x1]; exact a8 y hy hs
            · by_cases x1 : we b e (sr t') = we b e (sr t)
              · rw [x1, uF_at, uF_at]; exact ⟨by simp, Nat.le_refl _⟩
              · rw [uF_ne x1, uF_ne x1]
                rcases Nat.lt_or_ge t' t with x2 | x2
                · exact a9 t' b1 x2 ho hm
                · exact absurd (by rw [show t' = t by omega]) x1
    apply hG (fun pc => pc == 10) 60
    simp (config := { maxSteps := 2000000 }) [hW0, hW1, dm_fn, dm_fd, dm_x, dm_L0, dm_la, dm_t1, dm_sw, List.headD, dm_ic, dm_mk, dm_s1, dm_s2, dm_clr, dm_cs, dm_cc, dm_nb0, dm_nb1, Value.category, List.lookup, p_X7_queueNeighbours, x_X7_queueNeighbours, k_X7_queueNeighbours, dm_cm, upd, vp_updL, dm_ui_1, dm_ui_2, dm_ul_1, dm_ul_2, sp_X1_endOf, sp_X1_roomOf, sp_J9_min_f86c9, sp_X7_enqueue, sC_0, sC_1, sC_2, sC_3, sC_4, sC_5, sC_6, sC_7, sC_8, sC_9, sC_10, sC_11, sC_12, sC_13, sC_14, sC_15, sC_16, sC_17, sC_18, sC_19, sC_20, sC_21, sC_22, sC_23, sC_24, sC_25, sC_26, sC_27, sC_28, sC_29, sC_30, sC_31, sC_32, sC_33, sC_34, sC_35, sC_36, sC_37, sC_38, sC_39, sC_40, sC_41, sC_42, sC_43, sC_44, sC_45, sC_46, sC_47, sC_48, sC_49, sC_50, sC_51]
    rw [nI_clamp (by omega), s1 v (by omega)]
    exact ⟨vp_in_nI (by omega) (by omega), loop (hd (v + 1) - hd v) (hd v) (by omega) (Nat.le_refl _) u vn lev car q m _ _ _ _ (rq_fr0 u) hr hb hL (fun _ _ => ⟨rfl, rfl⟩) ⟨Nat.le_refl _, fun _ _ => rfl⟩ hN hC (fun t' _ _ => by omega)⟩
  · exact h.elim
set_option maxRecDepth 100000 in
theorem t_X7_queueNeighbours (l : Launch) (D : va_G) (cA : Nat → ClassId) (ad : Nat → Nat) : dm_Met l D dm_cl cA ad shC yX7_queueNeighbours (Cond.code yX7_queueNeighbours cX7_queueNeighbours 7 (dm_rt 0) :: dm_tt) ({ frames := 1, cells := 0, slots := 0, locals := 24 } : Room) sp_X7_queueNeighbours := dm_meth (own := RX7) (X := x_X7_queueNeighbours) (Sp := k_X7_queueNeighbours) (prog := p_X7_queueNeighbours) (by decide +kernel) rfl rfl (dm_FO_s ffX7 [(9, 7, 2), (15, 7, 3), (19, 7, 4), (30, 7, 1), (132, 1, 8), (135, 1, 9)] rfl dm_hT (by decide +kernel)) (dm_IO_s ifX7 jfX7 [] [] rfl rfl dm_hT (by decide +kernel) (by decide +kernel)) soC (dm_MO_of (List.forall_mem_cons.mpr ⟨dm_M1_of (t_X1_endOf l D cA ad) dm_hT (dm_mem [614, 68, 611] (by decide +kernel) (by decide +kernel)) (by decide) (by decide +kernel) (Or.inr ⟨by decide, dm_mem [612, 613] (by decide +kernel) (by decide +kernel), rfl⟩), List.forall_mem_cons.mpr ⟨dm_M1_of (t_X1_roomOf l D cA ad) dm_hT (dm_mem [618, 68, 615] (by decide +kernel) (by decide +kernel)) (by decide) (by decide +kernel) (Or.inr ⟨by decide, dm_mem [616, 617] (by decide +kernel) (by decide +kernel), rfl⟩), List.forall_mem_cons.mpr ⟨dm_M1_of (t_J9_min_f86c9 l D cA ad) dm_hT (dm_mem [621, 79, 619] (by decide +kernel) (by decide +kernel)) (by decide) (by decide +kernel) (Or.inl ⟨rfl, dm_mem (ws := [.static yJ9_min_f86c9]) [620] (by decide +kernel) (by decide +kernel) _ List.mem_cons_self⟩), List.forall_mem_cons.mpr ⟨dm_M1_of (t_X7_enqueue l D cA ad) dm_hT (dm_mem [606, 70, 603] (by decide +kernel) (by decide +kernel)) (by decide) (by decide +kernel) (Or.inr ⟨by decide, dm_mem [605, 7] (by decide +kernel) (by decide +kernel), rfl⟩), fun _ h => absurd h List.not_mem_nil⟩⟩⟩⟩)) v_X7_queueNeighbours u_X7_queueNeighbours
end
section
/-! ===== Router.nearestInNeed ===== -/
def sp_X7_nearestInNeed (As : List Value) (u : dm_S) (Q : Option Value → dm_S → Prop) : Prop := match As with
  | [.ref 4] => ∃ (n K : Nat) (b e : Nat → Nat) (op : Nat → Bool) (mm lo ex : Nat → Int) (hd sr : Nat → Nat), LA u n K b e mm lo ex ∧ LB n K mm lo ex ∧ so_ok u n K b e hd sr ∧ op_ok u K op ∧
    (∀ (u' : dm_S) (vn : Nat → Option (Option Nat)) (lev : Nat → Nat) (car : Nat → Int) (q : Nat → Nat) (m i : Nat), rq_fr u u' → rq_ok u' n vn car q m → bfI n K b e op mm lo ex vn lev car q m → bfX K b e op mm lo ex vn lev q i → bfS n ex vn → (∀ y, y < n → vn y ≠ none → lB (car y)) → i < m → ex (q i) < 0 → Q (some (.int (nI (q i)))) u') ∧
    ∀ (u' : dm_S) (vn : Nat → Option (Option Nat)) (lev : Nat → Nat) (car : Nat → Int) (q : Nat → Nat) (m : Nat), rq_fr u u' → rq_ok u' n vn car q m → bfI n K b e op mm lo ex vn lev car q m → bfX K b e op mm lo ex vn lev q m → bfS n ex vn → Q (some (.int (-1))) u'
  | _ => False
theorem so_fr {u u' : dm_S} {n K : Nat} {b e hd sr : Nat → Nat} (h : so_ok u n K b e hd sr) (hf : rq_fr u u') : so_ok u' n K b e hd sr := by
  obtain ⟨h1, h2, h3, h4⟩ := h
  refine ⟨fun v hv => ?_, h2, fun v t a b c => ?_, h4⟩
  · rw [hf.1 26 (by decide) (by decide) (by decide)]; exact h1 v hv
  · rw [hf.1 27 (by decide) (by decide) (by decide)]; exact h3 v t a b c
theorem op_fr {u u' : dm_S} {K : Nat} {op : Nat → Bool} (h : op_ok u K op) (hf : rq_fr u u') : op_ok u' K op := fun l hl => by
  rw [hf.1 32 (by decide) (by decide) (by decide)]; exact h l hl
def p_X7_nearestInNeed : List dm_I := [(0, .aload_n 0, 1, [0]), (1, .invokevirtual 110, 3, []), (4, .iconst 0, 1, []), (5, .istore_n 1, 1, [1]), (6, .iload_n 1, 1, [1]), (7, .aload_n 0, 1, [0]), (8, .getfield 113, 3, []), (11, .if_icmp .ge 37, 3, [48]), (14, .aload_n 0, 1, [0]), (15, .getfield 23, 3, []), (18, .iload_n 1, 1, [1]), (19, .iaload, 1, []), (20, .istore_n 2, 1, [2]), (21, .aload_n 0, 1, [0]), (22, .getfield 30, 3, []), (25, .getfield 78, 3, []), (28, .iload_n 2, 1, [2]), (29, .laload, 1, []), (30, .lconst 0, 1, []), (31, .lcmp, 1, []), (32, .ifCond .ge 5, 3, [37]), (35, .iload_n 2, 1, [2]), (36, .ireturn, 1, []), (37, .aload_n 0, 1, [0]), (38, .iload_n 2, 1, [2]), (39, .invokevirtual 116, 3, []), (42, .iinc 1 1, 3, []), (45, .goto (-39), 3, [6]), (48, .iconst (-1), 1, []), (49, .ireturn, 1, [])]
set_option maxRecDepth 100000 in
theorem v_X7_nearestInNeed : p_X7_nearestInNeed.all (dm_vb cX7_nearestInNeed) = true := by decide +kernel
def k_X7_nearestInNeed : dm_Sp := fun a => match a with
  | 0 => sp_X7_queueSources
  | 1 => sp_X7_queueNeighbours
  | _ => fun _ _ _ => False
def x_X7_nearestInNeed : dm_X := dm_mk [(23, 7, 5), (30, 7, 1), (78, 1, 7), (113, 7, 6)] [] [] [(110, 0, 0, 7), (116, 1, 1, 7)] 1
set_option maxRecDepth 100000 in
set_option maxHeartbeats 800000 in
theorem u_X7_nearestInNeed : dm_Pure shC x_X7_nearestInNeed k_X7_nearestInNeed p_X7_nearestInNeed 3 sp_X7_nearestInNeed := by
  intro As u Qp h
  unfold sp_X7_nearestInNeed at h
  split at h
  · obtain ⟨n, K, b, e, op, mm, lo, ex, hd, sr, hA, hB, hS, hO, hx, hy⟩ := h
    obtain ⟨hn, hK, en, eK⟩ := hA.1.1
    have hB0 : lB 0 := by unfold lB; omega
    have hBx : ∀ v, v < n → lB (ex v) := fun v hv => by have := hB.2.2 v hv; unfold lB; omega
    refine ⟨Nat.le_of_ble_eq_true rfl, fun G Wp hW0 hW1 hG => ?_⟩
    have loop : ∀ k i : Nat, i + k = n → ∀ (u' : dm_S) (vn : Nat → Option (Option Nat)) (lev : Nat → Nat) (car : Nat → Int) (q : Nat → Nat) (m : Nat) (o2 : Option Value), rq_fr u u' → rq_ok u' n vn car q m → bfI n K b e op mm lo ex vn lev car q m → bfX K b e op mm lo ex vn lev q i → bfS n ex vn → i ≤ m → (i < m → ∀ j, j < m → lev (q j) ≤ lev (q i) + 1) → (∀ y, n ≤ y → vn y = none) → (∀ y, y < n → vn y ≠ none → lB (car y)) → G 6 [some (.ref 4), some (.int (nI i)), o2] [] u' := by
      intro k
      induction k with
      | zero =>
        intro i hi u' vn lev car q m o2 a1 a2 a3 a4 a5 a6 a7 a8 a9
        have hm : m ≤ n := by rw [a3.1]; exact cN_le
        have e1 : i = m := by omega
        subst e1
        apply hG (fun pc => pc == 6) 40
        simp (config := { maxSteps := 2000000 }) [-Prod.forall, -Prod.exists, -exists_and_left, -exists_and_right, hW0, hW1, dm_fn, dm_fd, dm_x, dm_L0, dm_la, dm_t1, dm_sw, List.headD, dm_ic, dm_mk, dm_s1, dm_s2, dm_clr, dm_cs, dm_cc, dm_nb0, dm_nb1, Value.category, List.lookup, p_X7_nearestInNeed, x_X7_nearestInNeed, k_X7_nearestInNeed, dm_cm, upd, vp_updL, dm_ui_1, dm_ui_2, dm_ul_1, dm_ul_2, sp_X7_queueSources, sp_X7_queueNeighbours, sC_0, sC_1, sC_2, sC_3, sC_4, sC_5, sC_6, sC_7, sC_8, sC_9, sC_10, sC_11, sC_12, sC_13, sC_14, sC_15, sC_16, sC_17, sC_18, sC_19, sC_20, sC_21, sC_22, sC_23, sC_24, sC_25, sC_26, sC_27, sC_28, sC_29, sC_30, sC_31, sC_32, sC_33, sC_34, sC_35, sC_36, sC_37, sC_38, sC_39, sC_40, sC_41, sC_42, sC_43, sC_44, sC_45, sC_46, sC_47, sC_48, sC_49, sC_50, sC_51]
        rw [a2.2.2.2]
        exact ⟨fun _ => hy u' vn lev car q _ a1 a2 a3 a4 a5, fun zq => absurd zq (nI_nlt (by omega) (by omega))⟩
      | succ k ih =>
        intro i hi u' vn lev car q m o2 a1 a2 a3 a4 a5 a6 a7 a8 a9
        have hm : m ≤ n := by rw [a3.1]; exact cN_le
        apply hG (fun pc => pc == 6) 40
        simp (config := { maxSteps := 2000000 }) [-Prod.forall, -Prod.exists, -exists_and_left, -exists_and_right, hW0, hW1, dm_fn, dm_fd, dm_x, dm_L0, dm_la, dm_t1, dm_sw, List.headD, dm_ic, dm_mk, dm_s1, dm_s2, dm_clr, dm_cs, dm_cc, dm_nb0, dm_nb1, Value.category, List.lookup, p_X7_nearestInNeed, x_X7_nearestInNeed, k_X7_nearestInNeed, dm_cm, upd, vp_updL, dm_ui_1, dm_ui_2, dm_ul_1, dm_ul_2, sp_X7_queueSources, sp_X7_queueNeighbours, sC_0, sC_1, sC_2, sC_3, sC_4, sC_5, sC_6, sC_7, sC_8, sC_9, sC_10, sC_11, sC_12, sC_13, sC_14, sC_15, sC_16, sC_17, sC_18, sC_19, sC_20, sC_21, sC_22, sC_23, sC_24, sC_25, sC_26, sC_27, sC_28, sC_29, sC_30, sC_31, sC_32, sC_33, sC_34, sC_35, sC_36, sC_37, sC_38, sC_39, sC_40, sC_41, sC_42, sC_43, sC_44, sC_45, sC_46, sC_47, sC_48, sC_49, sC_50, sC_51]
        rw [a2.2.2.2, a1.2.2 25 (by decide), hA.2.2.2, nI_clamp (n := i) (by omega), nI_1]
        rcases Nat.lt_or_ge i m with hlt | hge
        · obtain ⟨q1, q2, q3⟩ := a3.2.1 i hlt
          rw [a2.2.2.1 i hlt, nI_clamp (n := q i) (by omega), lF_at]
          refine ⟨fun zq => absurd zq (nI_ge (by omega) (by omega)), fun zq => ⟨vp_in_nI (by omega) (by omega), vp_in_nI (by omega) (by omega), fun z => ?_, fun z => ?_⟩⟩
          · have z1 : 0 ≤ ex (q i) := (lI_le hB0 (hBx _ q1)).mp z
            refine ⟨n, K, b, e, op, mm, lo, ex, hd, sr, vn, lev, car, q, m, q i, LA_fr hA a1, hB, so_fr hS a1, op_fr hO a1, a2, a3, rfl, q1, q2, a7 hlt, a8, a9, fun u2 vn2 lev2 car2 q2' m2 b1 b2 b3 b4 b5 b6 b6' b7 b8 b9 => ?_⟩
            have b5i := b5 (q i) q2
            refine ih (i + 1) (by omega) u2 vn2 lev2 car2 q2' m2 _ (rq_frt a1 b1) b2 b3 (fun j hj => ?_) (fun v hv hp => ?_) (by omega) (fun hl j hj => ?_) b7 b8
            · rw [b6' j (by omega)]
              rcases Nat.lt_or_ge j i with y | y
              · obtain ⟨g1, g2⟩ := a4 j y
                have c1 := (a3.2.1 j (by omega)).2.1
                refine ⟨g1, fun w w1 w2 w3 w4 => ?_⟩
                obtain ⟨g3, g4⟩ := g2 w w1 w2 w3 w4
                rw [(b5 _ c1).2, (b5 _ g3).1, (b5 _ g3).2]
                exact ⟨g3, g4⟩
              · rw [show j = i by omega]
                refine ⟨z1, fun w w1 w2 w3 w4 => ?_⟩
                rw [b5i.2]
                exact b9 w w1 w2 w3 w4
            · have c1 := a5 v hv hp
              rw [(b5 v (by rw [c1]; simp)).1]; exact c1
            · have c1 := b4 j hj
              have c2 := b3.2.2.2.1 i (i + 1) (by omega) hl
              rw [b6' i hlt, b5i.2] at c2
              omega
          · exact hx u' vn lev car q m i a1 a2 a3 a4 a5 a9 hlt ((lI_lt (hBx _ q1) hB0).mp z)
        · have e1 : i = m := by omega
          subst e1
          exact ⟨fun _ => hy u' vn lev car q _ a1 a2 a3 a4 a5, fun zq => absurd zq (nI_nlt (by omega) (by omega))⟩
    apply hG (fun pc => pc == 6) 40
    simp (config := { maxSteps := 2000000 }) [-Prod.forall, -Prod.exists, -exists_and_left, -exists_and_right, hW0, hW1, dm_fn, dm_fd, dm_x, dm_L0, dm_la, dm_t1, dm_sw, List.headD, dm_ic, dm_mk, dm_s1, dm_s2, dm_clr, dm_cs, dm_cc, dm_nb0, dm_nb1, Value.category, List.lookup, p_X7_nearestInNeed, x_X7_nearestInNeed, k_X7_nearestInNeed, dm_cm, upd, vp_updL, dm_ui_1, dm_ui_2, dm_ul_1, dm_ul_2, sp_X7_queueSources, sp_X7_queueNeighbours, sC_0, sC_1, sC_2, sC_3, sC_4, sC_5, sC_6, sC_7, sC_8, sC_9, sC_10, sC_11, sC_12, sC_13, sC_14, sC_15, sC_16, sC_17, sC_18, sC_19, sC_20, sC_21, sC_22, sC_23, sC_24, sC_25, sC_26, sC_27, sC_28, sC_29, sC_30, sC_31, sC_32, sC_33, sC_34, sC_35, sC_36, sC_37, sC_38, sC_39, sC_40, sC_41, sC_42, sC_43, sC_44, sC_45, sC_46, sC_47, sC_48, sC_49, sC_50, sC_51]
    refine ⟨n, ex, hn, en, hA.2.2.2, hBx, fun u' vn lev car q m b1 b2 b3 b4 b5 b6 => ?_⟩
    refine loop n 0 (by omega) u' vn lev car q m _ b1 b2 (b3 K b e op mm lo) (fun j hj => by omega) b5 (by omega) (fun _ j hj => by rw [b4 j hj]; omega) b6 (fun y hy hs => ?_)
    obtain ⟨-, j, hj, ej⟩ := (b3 K b e op mm lo).2.2.1 y hy hs
    have := (b3 0 b e op mm lo).2.2.2.2.1 y hy
    unfold bfN at this
    cases hq : vn y with
    | none => exact absurd hq hs
    | some o =>
      rw [hq] at this
      cases o with
      | none => rw [this.2.2]; exact hBx y hy
      | some w => have := this.1.1; omega
  · exact h.elim
set_option maxRecDepth 100000 in
theorem t_X7_nearestInNeed (l : Launch) (D : va_G) (cA : Nat → ClassId) (ad : Nat → Nat) : dm_Met l D dm_cl cA ad shC yX7_nearestInNeed (Cond.code yX7_nearestInNeed cX7_nearestInNeed 3 (dm_rt 1) :: dm_tt) ({ frames := 2, cells := 0, slots := 0, locals := 50 } : Room) sp_X7_nearestInNeed := dm_meth (own := RX7) (X := x_X7_nearestInNeed) (Sp := k_X7_nearestInNeed) (prog := p_X7_nearestInNeed) (by decide +kernel) rfl rfl (dm_FO_s ffX7 [(23, 7, 5), (30, 7, 1), (78, 1, 7), (113, 7, 6)] rfl dm_hT (by decide +kernel)) (dm_IO_s ifX7 jfX7 [] [] rfl rfl dm_hT (by decide +kernel) (by decide +kernel)) soC (dm_MO_of (List.forall_mem_cons.mpr ⟨dm_M1_of (t_X7_queueSources l D cA ad) dm_hT (dm_mem [601, 70, 598] (by decide +kernel) (by decide +kernel)) (by decide) (by decide +kernel) (Or.inr ⟨by decide, dm_mem [600, 6] (by decide +kernel) (by decide +kernel), rfl⟩), List.forall_mem_cons.mpr ⟨dm_M1_of (t_X7_queueNeighbours l D cA ad) dm_hT (dm_mem [610, 70, 607] (by decide +kernel) (by decide +kernel)) (by decide) (by decide +kernel) (Or.inr ⟨by decide, dm_mem [609, 8] (by decide +kernel) (by decide +kernel), rfl⟩), fun _ h => absurd h List.not_mem_nil⟩⟩)) v_X7_nearestInNeed u_X7_nearestInNeed
end
section
/-! ===== how often a search can find a way: the nearest first ===== -/
def ekI (n K : Nat) (b e : Nat → Nat) (op : Nat → Bool) (mm lo ex : Nat → Int) (d : Nat → Nat) (D : Nat) : Prop := (∀ w, w < 2 * K → op (w / 2) = true → 0 < wm mm lo w → d (we b e w) ≤ d (wb b e w) + 1) ∧ (∀ v, v < n → 0 < ex v → d v = 0) ∧ ∀ v, v < n → ex v < 0 → D ≤ d v
def ekL (b e : Nat → Nat) (op : Nat → Bool) (mm lo : Nat → Int) (d : Nat → Nat) (w : Nat) : Bool := op (w / 2) && (decide (0 < wm mm lo w) && decide (d (we b e w) = d (wb b e w) + 1))
def ekC (n K : Nat) (b e : Nat → Nat) (op : Nat → Bool) (mm lo ex : Nat → Int) (d : Nat → Nat) : Nat := cN (ekL b e op mm lo d) (2 * K) + cN (fun v => !decide (ex v = 0)) n
theorem rot_on {n K : Nat} {b e : Nat → Nat} {via : Nat → Option Nat} {rk : Nat → Nat} (ht : tre n K b e via rk) : ∀ k v, v < n → rk v ≤ k → onp b e via k v (rot b e via k v)
  | k, v, hv, hk => by
    cases hq : via v with
    | none => rw [rot_n hq]; exact onp_self
    | some w =>
      obtain ⟨h1, h2, h3, h4⟩ := ht v w hv hq
      cases k with
      | zero => omega
      | succ k =>
        rw [rot_s hq]
        exact Or.inr ⟨w, hq, rot_on ht k _ h3 (by omega)⟩
theorem snd_room2 {n K : Nat} {b e : Nat → Nat} {via : Nat → Option Nat} {rk : Nat → Nat} {m x : Nat → Int} {a : Int} (ht : tre n K b e via rk) {k v w : Nat} (hv : v < n) (hk : rk v ≤ k) (ha : 0 ≤ a) : wm m (snd b e via k v a x) w ≤ wm m x w ∨ ∃ u w', onp b e via k v u ∧ via u = some w' ∧ w' / 2 = w / 2 ∧ w' ≠ w := by
  rcases pth_lane2 ht (l := w / 2) k v hv hk with y | ⟨u, w', y1, y2, y3, y4⟩
  · refine Or.inl ?_
    unfold wm snd
    rw [y, Int.mul_zero, Int.add_zero]; exact Int.le_refl _
  · by_cases z : w' = w
    · refine Or.inl ?_
      unfold wm snd
      rw [y4, z]
      unfold sg
      by_cases q : w % 2 = 0
      · rw [if_pos q, if_pos q, if_pos q]; omega
      · rw [if_neg q, if_neg q, if_neg q]; omega
    · exact Or.inr ⟨u, w', y1, y2, y3, z⟩
theorem snd_room3 {n K : Nat} {b e : Nat → Nat} {via : Nat → Option Nat} {rk : Nat → Nat} {m x : Nat → Int} {a : Int} (ht : tre n K b e via rk) {k v u w : Nat} (hv : v < n) (hk : rk v ≤ k) (hu : onp b e via k v u) (hw : via u = some w) : wm m (snd b e via k v a x) w = wm m x w - a := by
  have h := pth_on ht hv hk hu hw
  unfold wm snd
  rw [h]
  unfold sg
  by_cases q : w % 2 = 0
  · rw [if_pos q, if_pos q, if_pos q]; omega
  · rw [if_neg q, if_neg q, if_neg q]; omega
section
variable {n K : Nat} {b e : Nat → Nat} {op : Nat → Bool} {mm lo ex : Nat → Int} {vn : Nat → Option (Option Nat)} {lev : Nat → Nat} {car : Nat → Int} {q : Nat → Nat} {m : Nat}
theorem bfI_via (h : bfI n K b e op mm lo ex vn lev car q m) {v w : Nat} (hv : v < n) (hw : bvi vn v = some w) : (w < 2 * K ∧ we b e w = v ∧ wb b e w < n) ∧ vn (wb b e w) ≠ none ∧ lev v = lev (wb b e w) + 1 ∧ (op (w / 2) = true ∧ 0 < wm mm lo w) ∧ car v = mn2 (car (wb b e w)) (wm mm lo w) := by
  have := h.2.2.2.2.1 v hv
  unfold bfN at this
  rw [bvi_s hw] at this
  exact this
theorem bfI_src (h : bfI n K b e op mm lo ex vn lev car q m) {v : Nat} (hv : v < n) (hs : vn v ≠ none) (hw : bvi vn v = none) : 0 < ex v ∧ lev v = 0 ∧ car v = ex v := by
  have := h.2.2.2.2.1 v hv
  unfold bfN at this
  cases hq : vn v with
  | none => exact absurd hq hs
  | some o =>
    cases o with
    | none => rw [hq] at this; exact this
    | some w => unfold bvi at hw; rw [hq] at hw; cases hw
theorem bfI_car (h : bfI n K b e op mm lo ex vn lev car q m) : ∀ v w, v < n → bvi vn v = some w → car v ≤ car (wb b e w) ∧ car v ≤ wm mm lo w := by
  intro v w hv hw
  obtain ⟨-, -, -, -, h5⟩ := bfI_via h hv hw
  rw [h5]
  exact ⟨mn2_le.1, mn2_le.2.1⟩
theorem bfI_on (h : bfI n K b e op mm lo ex vn lev car q m) {k v u : Nat} (hv : v < n) (hs : vn v ≠ none) (hu : onp b e (bvi vn) k v u) : u < n ∧ vn u ≠ none := onp_ind (P := fun u => u < n ∧ vn u ≠ none) (fun u w hu hw => by
  obtain ⟨⟨_, _, a3⟩, a4, _⟩ := bfI_via h hu.1 hw
  exact ⟨a3, a4⟩) ⟨hv, hs⟩ hu
/-- the root: too much there -/
theorem bfI_rot (h : bfI n K b e op mm lo ex vn lev car q m) {k v : Nat} (hv : v < n) (hs : vn v ≠ none) (hk : lev v ≤ k) : rot b e (bvi vn) k v < n ∧ 0 < ex (rot b e (bvi vn) k v) ∧ car (rot b e (bvi vn) k v) = ex (rot b e (bvi vn) k v) ∧ car v ≤ car (rot b e (bvi vn) k v) := by
  have ht := bfI_tre h
  obtain ⟨r1, r2⟩ := rot_n2 ht k v hv hk
  have r3 := (bfI_on h hv hs (rot_on ht k v hv hk)).2
  obtain ⟨s1, s2, s3⟩ := bfI_src h r2 r3 r1
  exact ⟨r2, s1, s3, rot_car ht (fun v w hv hw => (bfI_car h v w hv hw).1) k v hv hk⟩
theorem bfI_bot (h : bfI n K b e op mm lo ex vn lev car q m) : ∀ k v, v < n → vn v ≠ none → lev v ≤ k → car v = car (rot b e (bvi vn) k v) ∨ ∃ u w, onp b e (bvi vn) k v u ∧ bvi vn u = some w ∧ wm mm lo w = car v
  | k, v, hv, hs, hk => by
    cases hq : bvi vn v with
    | none => rw [rot_n hq]; exact Or.inl rfl
    | some w =>
      obtain ⟨⟨a1, a2, a3⟩, a4, a5, a6, a7⟩ := bfI_via h hv hq
      cases k with
      | zero => omega
      | succ k =>
        rw [rot_s hq]
        rcases (mn2_le (a := car (wb b e w)) (b := wm mm lo w)).2.2 with y | y
        · rw [y] at a7
          rw [a7]
          rcases bfI_bot h k _ a3 a4 (by omega) with z | ⟨u, w', z1, z2, z3⟩
          · exact Or.inl z
          · exact Or.inr ⟨u, w', Or.inr ⟨w, hq, z1⟩, z2, z3⟩
        · rw [y] at a7
          exact Or.inr ⟨v, w, Or.inl rfl, hq, a7.symm⟩
theorem ek_le {d : Nat → Nat} {D : Nat} (h : bfI n K b e op mm lo ex vn lev car q m) (hk : ekI n K b e op mm lo ex d D) : ∀ k v, v < n → vn v ≠ none → lev v ≤ k → d v ≤ lev v
  | k, v, hv, hs, hl => by
    cases hq : bvi vn v with
    | none =>
      obtain ⟨s1, s2, s3⟩ := bfI_src h hv hs hq
      rw [hk.2.1 v hv s1]; omega
    | some w =>
      obtain ⟨⟨a1, a2, a3⟩, a4, a5, a6, a7⟩ := bfI_via h hv hq
      cases k with
      | zero => omega
      | succ k =>
        have h1 := ek_le h hk k _ a3 a4 (by omega)
        have h2 := hk.1 w a1 a6.1 a6.2
        rw [a2] at h2
        omega
/-- levels as the search saw them -/
def ekD (vn : Nat → Option (Option Nat)) (lev : Nat → Nat) (L : Nat) (v : Nat) : Nat := if vn v ≠ none ∧ lev v ≤ L then lev v else L
theorem ekD_ok {i : Nat} (hb : nd n K b e) (h : bfI n K b e op mm lo ex vn lev car q m) (hx : bfX K b e op mm lo ex vn lev q i) (hS : bfS n ex vn) (hi : i < m) : ekI n K b e op mm lo ex (ekD vn lev (lev (q i))) (lev (q i)) := by
  have hle : ∀ v, ekD vn lev (lev (q i)) v ≤ lev (q i) := by
    intro v
    unfold ekD
    by_cases y : vn v ≠ none ∧ lev v ≤ lev (q i)
    · rw [if_pos y]; exact y.2
    · rw [if_neg y]; exact Nat.le_refl _
  have hlt : ∀ v, v < n → ekD vn lev (lev (q i)) v < lev (q i) → vn v ≠ none ∧ ekD vn lev (lev (q i)) v = lev v ∧ ∃ j, j < i ∧ q j = v := by
    intro v hv hl
    by_cases y : vn v ≠ none ∧ lev v ≤ lev (q i)
    · have e1 : ekD vn lev (lev (q i)) v = lev v := if_pos y
      obtain ⟨-, j, hj, ej⟩ := h.2.2.1 v hv y.1
      refine ⟨y.1, e1, j, ?_, ej⟩
      rcases Nat.lt_or_ge j i with z | z
      · exact z
      · have := h.2.2.2.1 i j z hj
        rw [ej] at this
        omega
    · have e1 : ekD vn lev (lev (q i)) v = lev (q i) := if_neg y
      omega
  refine ⟨fun w hw ho hm => ?_, fun v hv hp => ?_, fun v hv hp => ?_⟩
  · obtain ⟨b1, b2⟩ : wb b e w < n ∧ we b e w < n := by
      obtain ⟨c1, c2⟩ := hb (w / 2) (by omega)
      unfold wb we
      split
      · exact ⟨c1, c2⟩
      · exact ⟨c2, c1⟩
    have h1 := hle (we b e w)
    rcases Nat.lt_or_ge (ekD vn lev (lev (q i)) (wb b e w)) (lev (q i)) with y | y
    · obtain ⟨z1, z2, j, hj, ej⟩ := hlt _ b1 y
      obtain ⟨g1, g2⟩ := (hx j hj).2 w hw ho hm ej.symm
      rw [ej] at g2
      rw [z2]
      unfold ekD
      by_cases y2 : lev (we b e w) ≤ lev (q i)
      · rw [if_pos ⟨g1, y2⟩]; exact g2
      · rw [if_neg (fun z => y2 z.2)]; omega
    · omega
  · have e1 := hS v hv hp
    have e2 := (bfI_src h hv (by rw [e1]; simp) (by unfold bvi; rw [e1])).2.1
    unfold ekD
    rw [if_pos ⟨by rw [e1]; simp, by omega⟩]
    exact e2
  · rcases Nat.lt_or_ge (ekD vn lev (lev (q i)) v) (lev (q i)) with y | y
    · obtain ⟨z1, z2, j, hj, ej⟩ := hlt _ hv y
      have := (hx j hj).1
      rw [ej] at this
      omega
    · exact y
/-- sending as much as goes: a level's way is full, or a node has what it wants -/
theorem ek_send {d : Nat → Nat} {v : Nat} (h : bfI n K b e op mm lo ex vn lev car q m) (hv : v < n) (hs : vn v ≠ none) (hne : ex v < 0) (hln : lev v ≤ n) (hk : ekI n K b e op mm lo ex d (lev v)) {a : Int} (ha : a = mn2 (car v) (-ex v)) {ex' : Nat → Int} (hex : ∀ j, ex' j = ex j + (if v = j then a else 0) - (if rot b e (bvi vn) n v = j then a else 0)) : ekI n K b e op mm (snd b e (bvi vn) n v a lo) ex' d (lev v) ∧ ekC n K b e op mm (snd b e (bvi vn) n v a lo) ex' d + 1 ≤ ekC n K b e op mm lo ex d := by
  have ht := bfI_tre h
  obtain ⟨r1, r2, r3, r4⟩ := bfI_rot h hv hs hln
  generalize hr : rot b e (bvi vn) n v = r at *
  have hrv : r ≠ v := fun z => by rw [z] at r2; omega
  have hcar := (h.2.2.1 v hv hs).1
  have ha0 : 0 < a := by
    rcases (mn2_le (a := car v) (b := -ex v)).2.2 with y | y
    · rw [ha, y]; exact hcar
    · rw [ha, y]; omega
  have ha1 : a ≤ car v := by rw [ha]; exact mn2_le.1
  have ha2 : a ≤ -ex v := by rw [ha]; exact mn2_le.2.1
  have hexv : ex' v = ex v + a := by rw [hex, if_pos rfl, if_neg hrv]; omega
  have hexr : ex' r = ex r - a := by rw [hex, if_neg (Ne.symm hrv), if_pos rfl]; omega
  have hexo : ∀ j, j ≠ v → j ≠ r → ex' j = ex j := fun j h1 h2 => by rw [hex, if_neg (Ne.symm h1), if_neg (Ne.symm h2)]; omega
  have hlev : ∀ u, onp b e (bvi vn) n v u → u < n ∧ vn u ≠ none ∧ d u = lev u := by
    intro u hu
    refine onp_ind (P := fun u => u < n ∧ vn u ≠ none ∧ d u = lev u) ?_ ?_ hu
    · rintro u w ⟨p1, p2, p3⟩ hw
      obtain ⟨⟨a1, a2, a3⟩, a4, a5, a6, a7⟩ := bfI_via h p1 hw
      have h1 := ek_le h hk (lev (wb b e w)) _ a3 a4 (Nat.le_refl _)
      have h2 := hk.1 w a1 a6.1 a6.2
      rw [a2] at h2
      exact ⟨a3, a4, by omega⟩
    · have h1 := ek_le h hk (lev v) v hv hs (Nat.le_refl _)
      have h2 := hk.2.2 v hv hne
      exact ⟨hv, hs, by omega⟩
  have hup : ∀ u w, onp b e (bvi vn) n v u → bvi vn u = some w → d (we b e w) = d (wb b e w) + 1 := by
    intro u w hu hw
    obtain ⟨p1, p2, p3⟩ := hlev u hu
    obtain ⟨⟨a1, a2, a3⟩, a4, a5, a6, a7⟩ := bfI_via h p1 hw
    have h1 := ek_le h hk (lev (wb b e w)) _ a3 a4 (Nat.le_refl _)
    have h2 := hk.1 w a1 a6.1 a6.2
    rw [a2] at h2 ⊢
    omega
  have hroom : ∀ w, wm mm (snd b e (bvi vn) n v a lo) w ≤ wm mm lo w ∨ d (we b e w) + 1 = d (wb b e w) := by
    intro w
    rcases snd_room2 ht (m := mm) (x := lo) (w := w) hv hln (Int.le_of_lt ha0) with y | ⟨u, w', y1, y2, y3, y4⟩
    · exact Or.inl y
    · obtain ⟨o1, o2⟩ := we_ot (b := b) (e := e) y3 y4
      have := hup u w' y1 y2
      rw [o1, o2] at this
      exact Or.inr this.symm
  have hpos : ∀ j, j < n → 0 < ex' j → 0 < ex j := by
    intro j hj hp
    by_cases e1 : j = v
    · rw [e1, hexv] at hp; omega
    · by_cases e2 : j = r
      · rw [e2]; exact r2
      · rw [hexo j e1 e2] at hp; exact hp
  have hneg : ∀ j, j < n → ex' j < 0 → ex j < 0 := by
    intro j hj hp
    by_cases e1 : j = v
    · rw [e1]; exact hne
    · by_cases e2 : j = r
      · rw [e2, hexr] at hp; omega
      · rw [hexo j e1 e2] at hp; exact hp
  refine ⟨⟨fun w hw ho hm => ?_, fun j hj hp => hk.2.1 j hj (hpos j hj hp), fun j hj hp => hk.2.2 j hj (hneg j hj hp)⟩, ?_⟩
  · rcases hroom w with y | y
    · exact hk.1 w hw ho (by omega)
    · omega
  · have m1 : ∀ w, w < 2 * K → ekL b e op mm (snd b e (bvi vn) n v a lo) d w = true → ekL b e op mm lo d w = true := by
      intro w hw hl
      unfold ekL at hl ⊢
      simp only [Bool.and_eq_true, decide_eq_true_eq] at hl ⊢
      obtain ⟨l1, l2, l3⟩ := hl
      rcases hroom w with y | y
      · exact ⟨l1, by omega, l3⟩
      · omega
    have m2 : ∀ j, j < n → (!decide (ex' j = 0)) = true → (!decide (ex j = 0)) = true := by
      intro j hj hl
      simp only [Bool.not_eq_true', decide_eq_false_iff_not] at hl ⊢
      intro z
      by_cases e1 : j = v
      · rw [e1] at z; omega
      · by_cases e2 : j = r
        · rw [e2] at z; omega
        · rw [hexo j e1 e2] at hl; exact hl z
    have n1 := cN_mono m1
    have n2 := cN_mono m2
    unfold ekC
    have hz : ∀ j, j < n → ex' j = 0 → ex j ≠ 0 → cN (fun v => !decide (ex' v = 0)) n + 1 ≤ cN (fun v => !decide (ex v = 0)) n := fun j hj z1 z2 => cN_lt m2 hj (by simp [z1]) (by simp [z2])
    rcases (mn2_le (a := car v) (b := -ex v)).2.2 with y | y
    · rcases bfI_bot h n v hv hs hln with z | ⟨u, w, z1, z2, z3⟩
      · rw [hr] at z
        have := hz r r1 (by rw [hexr, ha, y, z, r3]; omega) (by omega)
        omega
      · obtain ⟨p1, p2, p3⟩ := hlev u z1
        obtain ⟨⟨a1, a2, a3⟩, a4, a5, a6, a7⟩ := bfI_via h p1 z2
        have h0 : wm mm (snd b e (bvi vn) n v a lo) w = 0 := by rw [snd_room3 ht hv hln z1 z2, z3, ha, y]; omega
        have := cN_lt (k := w) m1 a1 (by unfold ekL; rw [h0]; simp) (by unfold ekL; simp only [Bool.and_eq_true, decide_eq_true_eq]; exact ⟨a6.1, a6.2, hup u w z1 z2⟩)
        omega
    · have := hz v hv (by rw [hexv, ha, y]; omega) (by omega)
      omega
end
def ekM (n K : Nat) (b e : Nat → Nat) (op : Nat → Bool) (mm lo ex : Nat → Int) (d : Nat → Nat) (D : Nat) : Nat := (24 - D) * 700 + ekC n K b e op mm lo ex d
theorem ekC_le {n K : Nat} {b e : Nat → Nat} {op : Nat → Bool} {mm lo ex : Nat → Int} {d : Nat → Nat} (hn : n ≤ 24) (hK : K ≤ 320) : ekC n K b e op mm lo ex d ≤ 664 := by
  have h1 := cN_le (P := ekL b e op mm lo d) (n := 2 * K)
  have h2 := cN_le (P := fun v => !decide (ex v = 0)) (n := n)
  unfold ekC
  omega
theorem ek_step {n K : Nat} {b e : Nat → Nat} {op : Nat → Bool} {mm lo ex : Nat → Int} {vn : Nat → Option (Option Nat)} {lev : Nat → Nat} {car : Nat → Int} {q : Nat → Nat} {m i D : Nat} {d : Nat → Nat} (hn : n ≤ 24) (hK : K ≤ 320) (hb : nd n K b e) (h : bfI n K b e op mm lo ex vn lev car q m) (hx : bfX K b e op mm lo ex vn lev q i) (hS : bfS n ex vn) (hi : i < m) (hne : ex (q i) < 0) (hk : ekI n K b e op mm lo ex d D) {a : Int} (ha : a = mn2 (car (q i)) (-ex (q i))) {ex' : Nat → Int} (hex : ∀ j, ex' j = ex j + (if q i = j then a else 0) - (if rot b e (bvi vn) n (q i) = j then a else 0)) : ∃ d' D', ekI n K b e op mm (snd b e (bvi vn) n (q i) a lo) ex' d' D' ∧ ekM n K b e op mm (snd b e (bvi vn) n (q i) a lo) ex' d' D' < ekM n K b e op mm lo ex d D := by
  obtain ⟨q1, q2, q3⟩ := h.2.1 i hi
  have hm : m ≤ n := by rw [h.1]; exact cN_le
  have h1 := ek_le h hk (lev (q i)) (q i) q1 q2 (Nat.le_refl _)
  have h2 := hk.2.2 (q i) q1 hne
  by_cases hD : D = lev (q i)
  · subst hD
    obtain ⟨g1, g2⟩ := ek_send h q1 q2 hne (by omega) hk ha hex
    exact ⟨d, _, g1, by unfold ekM; omega⟩
  · obtain ⟨g1, g2⟩ := ek_send h q1 q2 hne (by omega) (ekD_ok hb h hx hS hi) ha hex
    refine ⟨_, _, g1, ?_⟩
    have := ekC_le (n := n) (K := K) (b := b) (e := e) (op := op) (mm := mm) (lo := snd b e (bvi vn) n (q i) a lo) (ex := ex') (d := ekD vn lev (lev (q i))) hn hK
    unfold ekM
    have : (24 - lev (q i)) * 700 + 700 ≤ (24 - D) * 700 := by omega
    omega
end
section
/-! ===== Router.sendWhatCanGo ===== -/
def sw_fr (u u' : dm_S) : Prop := (∀ c, c ≠ 33 → c ≠ 35 → c ≠ 4 → u'.1 c = u.1 c) ∧ (∀ k, k ≠ 6 → u'.1 4 k = u.1 4 k) ∧ ∀ c, c ≠ 34 → c ≠ 24 → c ≠ 25 → u'.2 c = u.2 c
theorem sw_fr0 (u : dm_S) : sw_fr u u := ⟨fun _ _ _ _ => rfl, fun _ _ => rfl, fun _ _ _ _ => rfl⟩
theorem sw_frt {u u' u'' : dm_S} (h : sw_fr u u') (h2 : sw_fr u' u'') : sw_fr u u'' := ⟨fun c a b d => (h2.1 c a b d).trans (h.1 c a b d), fun k a => (h2.2.1 k a).trans (h.2.1 k a), fun c a b d => (h2.2.2 c a b d).trans (h.2.2 c a b d)⟩
theorem sw_frq {u u' : dm_S} (h : rq_fr u u') : sw_fr u u' := ⟨h.1, h.2.1, fun c a _ _ => h.2.2 c a⟩
theorem sw_frx {u : dm_S} {x ex : Nat → Int} : sw_fr u (st_x u x ex) := ⟨fun _ _ _ _ => rfl, fun _ _ => rfl, fun _ _ a b => st_xo a b⟩
theorem LA_sw {u u' : dm_S} {n K : Nat} {b e : Nat → Nat} {mm lo ex lo' ex' : Nat → Int} (h : LA u n K b e mm lo ex) (hf : sw_fr u u') (h1 : u'.2 24 = lF lo') (h2 : u'.2 25 = lF ex') : LA u' n K b e mm lo' ex' := by
  obtain ⟨g1, g2, g3, g4⟩ := h
  obtain ⟨f1, f2, f3⟩ := hf
  refine ⟨⟨?_, fun l hl => ?_⟩, (f3 22 (by decide) (by decide) (by decide)).trans g2, h1, h2⟩
  · rw [f1 1 (by decide) (by decide) (by decide), f1 2 (by decide) (by decide) (by decide)]
    exact g1.1
  · rw [f1 20 (by decide) (by decide) (by decide), f1 21 (by decide) (by decide) (by decide)]
    exact g1.2 l hl
theorem so_sw {u u' : dm_S} {n K : Nat} {b e hd sr : Nat → Nat} (h : so_ok u n K b e hd sr) (hf : sw_fr u u') : so_ok u' n K b e hd sr := by
  obtain ⟨h1, h2, h3, h4⟩ := h
  refine ⟨fun v hv => ?_, h2, fun v t a b c => ?_, h4⟩
  · rw [hf.1 26 (by decide) (by decide) (by decide)]; exact h1 v hv
  · rw [hf.1 27 (by decide) (by decide) (by decide)]; exact h3 v t a b c
theorem op_sw {u u' : dm_S} {K : Nat} {op : Nat → Bool} (h : op_ok u K op) (hf : sw_fr u u') : op_ok u' K op := fun l hl => by
  rw [hf.1 32 (by decide) (by decide) (by decide)]; exact h l hl
/-- what is too much, all together -/
def pe (n : Nat) (ex : Nat → Int) : Int := sI (fun v => if 0 ≤ ex v then ex v else 0) n
/-- what sending along open lanes keeps: loads lo', excess ex' out of lo, ex -/
def snt (n K : Nat) (b e : Nat → Nat) (op : Nat → Bool) (mm lo ex lo' ex' : Nat → Int) : Prop :=
  fits K mm lo' ∧ (∀ v, v < n → ex' v + dv K b e lo' v = ex v + dv K b e lo v) ∧ (∀ l, l < K → op l = false → lo' l = lo l) ∧ (∀ v, v < n → (0 ≤ ex v → 0 ≤ ex' v ∧ ex' v ≤ ex v) ∧ (ex v ≤ 0 → ex' v ≤ 0 ∧ ex v ≤ ex' v)) ∧ ∀ l, l < K → lo' l + pe n ex' ≤ lo l + pe n ex
theorem snt_0 {n K : Nat} {b e : Nat → Nat} {op : Nat → Bool} {mm lo ex : Nat → Int} (h : fits K mm lo) : snt n K b e op mm lo ex lo ex := ⟨h, fun _ _ => rfl, fun _ _ _ => rfl, fun _ _ => ⟨fun z => ⟨z, Int.le_refl _⟩, fun z => ⟨z, Int.le_refl _⟩⟩, fun _ _ => Int.le_refl _⟩
theorem snt_t {n K : Nat} {b e : Nat → Nat} {op : Nat → Bool} {mm lo ex lo' ex' lo2 ex2 : Nat → Int} (h : snt n K b e op mm lo ex lo' ex') (h2 : snt n K b e op mm lo' ex' lo2 ex2) : snt n K b e op mm lo ex lo2 ex2 := by
  obtain ⟨a1, a2, a3, a4, a5⟩ := h
  obtain ⟨b1, b2, b3, b4, b5⟩ := h2
  refine ⟨b1, fun v hv => (b2 v hv).trans (a2 v hv), fun l hl ho => (b3 l hl ho).trans (a3 l hl ho), fun v hv => ⟨fun z => ?_, fun z => ?_⟩, fun l hl => Int.le_trans (b5 l hl) (a5 l hl)⟩
  · obtain ⟨c1, c2⟩ := (a4 v hv).1 z
    obtain ⟨d1, d2⟩ := (b4 v hv).1 c1
    exact ⟨d1, by omega⟩
  · obtain ⟨c1, c2⟩ := (a4 v hv).2 z
    obtain ⟨d1, d2⟩ := (b4 v hv).2 c1
    exact ⟨d1, by omega⟩
theorem snt_one {n K : Nat} {b e : Nat → Nat} {op : Nat → Bool} {mm lo ex : Nat → Int} {vn : Nat → Option (Option Nat)} {lev : Nat → Nat} {car : Nat → Int} {q : Nat → Nat} {m v : Nat} (h : bfI n K b e op mm lo ex vn lev car q m) (hl : fits K mm lo) (hv : v < n) (hs : vn v ≠ none) (hne : ex v < 0) (hln : lev v ≤ n) {a : Int} (ha : a = mn2 (car v) (-ex v)) : snt n K b e op mm lo ex (snd b e (bvi vn) n v a lo) (sdE b e (bvi vn) n v a ex) := by
  have ht := bfI_tre h
  obtain ⟨r1, r2, r3, r4⟩ := bfI_rot h hv hs hln
  have hcar := (h.2.2.1 v hv hs).1
  have ha0 : 0 < a := by
    rcases (mn2_le (a := car v) (b := -ex v)).2.2 with y | y
    · rw [ha, y]; exact hcar
    · rw [ha, y]; omega
  have ha1 : a ≤ car v := by rw [ha]; exact mn2_le.1
  have ha2 : a ≤ -ex v := by rw [ha]; exact mn2_le.2.1
  have hrv : rot b e (bvi vn) n v ≠ v := fun z => by rw [z] at r2; omega
  have hE : ∀ j, sdE b e (bvi vn) n v a ex j = ex j + (if v = j then a else 0) - (if rot b e (bvi vn) n v = j then a else 0) := fun j => rfl
  have hpe : pe n (sdE b e (bvi vn) n v a ex) = pe n ex - a := by
    have e1 : sI (fun j => if 0 ≤ sdE b e (bvi vn) n v a ex j then sdE b e (bvi vn) n v a ex j else 0) n = sI (fun j => (if 0 ≤ ex j then ex j else 0) - (if j = rot b e (bvi vn) n v then a else 0)) n := sI_cg (fun j _ => by
      show (if 0 ≤ sdE b e (bvi vn) n v a ex j then sdE b e (bvi vn) n v a ex j else 0) = (if 0 ≤ ex j then ex j else 0) - (if j = rot b e (bvi vn) n v then a else 0)
      rw [hE]
      by_cases z1 : v = j
      · subst z1
        rw [if_pos rfl, if_neg hrv, if_neg (Ne.symm hrv)]
        by_cases z2 : 0 ≤ ex v + a - 0
        · rw [if_pos z2, if_neg (by omega)]; omega
        · rw [if_neg z2, if_neg (by omega)]; omega
      · rw [if_neg z1]
        by_cases z2 : rot b e (bvi vn) n v = j
        · subst z2
          rw [if_pos rfl, if_pos (show 0 ≤ ex (rot b e (bvi vn) n v) + 0 - a by omega), if_pos (show 0 ≤ ex (rot b e (bvi vn) n v) by omega)]; omega
        · rw [if_neg z2, if_neg (Ne.symm z2)]
          by_cases z3 : 0 ≤ ex j
          · rw [if_pos z3, if_pos (by omega)]; omega
          · rw [if_neg z3, if_neg (by omega)]; omega)
    unfold pe
    rw [e1, sI_sub, sI_one, if_pos r1]
  refine ⟨snd_fits ht (bfI_car h) hl hv hln (Int.le_of_lt ha0) ha1, fun j hj => ?_, fun l hl ho => ?_, fun j hj => ?_, fun l hl => ?_⟩
  · rw [snd_dv ht hv hln, hE]
    split <;> split <;> omega
  · unfold snd
    rcases pth_lane2 ht (l := l) n v hv hln with y | ⟨u, w, y1, y2, y3, y4⟩
    · rw [y, Int.mul_zero, Int.add_zero]
    · have := (bfI_via h (bfI_on h hv hs y1).1 y2).2.2.2.1.1
      rw [y3, ho] at this
      cases this
  · rw [hE]
    by_cases z1 : v = j
    · subst z1
      rw [if_pos rfl, if_neg hrv]
      exact ⟨fun z => by omega, fun z => by omega⟩
    · rw [if_neg z1]
      by_cases z2 : rot b e (bvi vn) n v = j
      · subst z2
        rw [if_pos rfl]
        exact ⟨fun z => by omega, fun z => by omega⟩
      · rw [if_neg z2]
        exact ⟨fun z => by omega, fun z => by omega⟩
  · rw [hpe]
    unfold snd
    rcases pth_lane2 ht (l := l) n v hv hln with y | ⟨u, w, y1, y2, y3, y4⟩
    · rw [y, Int.mul_zero]; omega
    · rw [y4]
      unfold sg
      split <;> omega
theorem snt_LB {n K : Nat} {b e : Nat → Nat} {op : Nat → Bool} {mm lo ex lo' ex' : Nat → Int} (h : LB n K mm lo ex) (hs : snt n K b e op mm lo ex lo' ex') : LB n K mm lo' ex' := by
  obtain ⟨h1, h2, h3⟩ := h
  refine ⟨hs.1, h2, fun v hv => ?_⟩
  have h4 := h3 v hv
  have h5 := hs.2.2.2.1 v hv
  rcases Int.le_total 0 (ex v) with y | y
  · have := h5.1 y; omega
  · have := h5.2 y; omega
theorem ln_nd {u : dm_S} {n K : Nat} {b e : Nat → Nat} (h : ln_ok u n K b e) : nd n K b e := fun l hl => ⟨(h.2 l hl).1.2, (h.2 l hl).2.2⟩
theorem vi_bvi {u : dm_S} {n : Nat} {vn : Nat → Option (Option Nat)} {car : Nat → Int} {q : Nat → Nat} {m : Nat} (hn : n ≤ 24) (h : rq_ok u n vn car q m) : vi_ok u 33 n (bvi vn) := by
  intro v hv
  have h1 := h.1 v (by omega)
  unfold bvi
  cases hq : vn v with
  | none => rw [hq] at h1; show u.1 33 v < 0; rw [h1]; decide
  | some o =>
    cases o with
    | none => rw [hq] at h1; show u.1 33 v < 0; rw [h1]; decide
    | some w => rw [hq] at h1; exact h1
def sp_X7_sendWhatCanGo (As : List Value) (u : dm_S) (Q : Option Value → dm_S → Prop) : Prop := match As with
  | [.ref 4] => ∃ (n K : Nat) (b e : Nat → Nat) (op : Nat → Bool) (mm lo ex : Nat → Int) (hd sr : Nat → Nat), LA u n K b e mm lo ex ∧ LB n K mm lo ex ∧ so_ok u n K b e hd sr ∧ op_ok u K op ∧
    ∀ (u' : dm_S) (lo' ex' : Nat → Int) (vn : Nat → Option (Option Nat)) (lev : Nat → Nat) (car : Nat → Int) (q : Nat → Nat) (m : Nat), sw_fr u u' → LA u' n K b e mm lo' ex' → snt n K b e op mm lo ex lo' ex' → rq_ok u' n vn car q m → bfI n K b e op mm lo' ex' vn lev car q m → bfX K b e op mm lo' ex' vn lev q m → bfS n ex' vn → Q none u'
  | _ => False
def p_X7_sendWhatCanGo : List dm_I := [(0, .iconst 0, 1, []), (1, .istore_n 1, 1, [1]), (2, .iload_n 1, 1, [1]), (3, .ldc 101, 2, []), (5, .if_icmp .ge 51, 3, [56]), (8, .aload_n 0, 1, [0]), (9, .invokevirtual 102, 3, []), (12, .istore_n 2, 1, [2]), (13, .iload_n 2, 1, [2]), (14, .iconst (-1), 1, []), (15, .if_icmp .ne 4, 3, [19]), (18, .return_, 1, []), (19, .aload_n 0, 1, [0]), (20, .getfield 30, 3, []), (23, .iload_n 2, 1, [2]), (24, .aload_n 0, 1, [0]), (25, .getfield 15, 3, []), (28, .aload_n 0, 1, [0]), (29, .getfield 19, 3, []), (32, .iload_n 2, 1, [2]), (33, .laload, 1, []), (34, .aload_n 0, 1, [0]), (35, .getfield 30, 3, []), (38, .getfield 78, 3, []), (41, .iload_n 2, 1, [2]), (42, .laload, 1, []), (43, .lneg, 1, []), (44, .invokestatic 91, 3, []), (47, .invokevirtual 106, 3, []), (50, .iinc 1 1, 3, []), (53, .goto (-51), 3, [2]), (56, .return_, 1, [])]
set_option maxRecDepth 100000 in
theorem v_X7_sendWhatCanGo : p_X7_sendWhatCanGo.all (dm_vb cX7_sendWhatCanGo) = true := by decide +kernel
def k_X7_sendWhatCanGo : dm_Sp := fun a => match a with
  | 0 => sp_X7_nearestInNeed
  | 1 => sp_J9_min_f86c9
  | 2 => sp_X1_sendTo
  | _ => fun _ _ _ => False
def x_X7_sendWhatCanGo : dm_X := dm_mk [(15, 7, 3), (19, 7, 4), (30, 7, 1), (78, 1, 7)] [(101, 1000000)] [] [(102, 0, 0, 7), (91, 1, 2, 1000), (106, 2, 3, 1)] 0
set_option maxRecDepth 100000 in
set_option maxHeartbeats 800000 in
theorem u_X7_sendWhatCanGo : dm_Pure shC x_X7_sendWhatCanGo k_X7_sendWhatCanGo p_X7_sendWhatCanGo 3 sp_X7_sendWhatCanGo := by
  intro As u Qp h
  unfold sp_X7_sendWhatCanGo at h
  split at h
  · obtain ⟨n, K, b, e, op, mm, lo, ex, hd, sr, hA, hB, hS, hO, h⟩ := h
    obtain ⟨hn, hK, en, eK⟩ := hA.1.1
    have hnd := ln_nd hA.1
    refine ⟨Nat.le_of_ble_eq_true rfl, fun G Wp hW0 hW1 hG => ?_⟩
    have loop : ∀ k t : Nat, t + k ≤ 50000 → ∀ (u' : dm_S) (lo' ex' : Nat → Int) (d : Nat → Nat) (D : Nat) (o2 : Option Value), sw_fr u u' → LA u' n K b e mm lo' ex' → snt n K b e op mm lo ex lo' ex' → ekI n K b e op mm lo' ex' d D → ekM n K b e op mm lo' ex' d D < k → G 2 [some (.ref 4), some (.int (nI t)), o2] [] u' := by
      intro k
      induction k with
      | zero => intro t ht u' lo' ex' d D o2 a1 a2 a3 a4 a5; omega
      | succ k ih =>
        intro t ht u' lo' ex' d D o2 a1 a2 a3 a4 a5
        have hB' := snt_LB hB a3
        apply hG (fun pc => pc == 2) 40
        simp (config := { maxSteps := 2000000 }) [-Prod.forall, -Prod.exists, -exists_and_left, -exists_and_right, hW0, hW1, dm_fn, dm_fd, dm_x, dm_L0, dm_la, dm_t1, dm_sw, List.headD, dm_ic, dm_mk, dm_s1, dm_s2, dm_clr, dm_cs, dm_cc, dm_nb0, dm_nb1, Value.category, List.lookup, p_X7_sendWhatCanGo, x_X7_sendWhatCanGo, k_X7_sendWhatCanGo, dm_cm, upd, vp_updL, dm_ui_1, dm_ui_2, dm_ul_1, dm_ul_2, sp_X7_nearestInNeed, sp_J9_min_f86c9, sp_X1_sendTo, sC_0, sC_1, sC_2, sC_3, sC_4, sC_5, sC_6, sC_7, sC_8, sC_9, sC_10, sC_11, sC_12, sC_13, sC_14, sC_15, sC_16, sC_17, sC_18, sC_19, sC_20, sC_21, sC_22, sC_23, sC_24, sC_25, sC_26, sC_27, sC_28, sC_29, sC_30, sC_31, sC_32, sC_33, sC_34, sC_35, sC_36, sC_37, sC_38, sC_39, sC_40, sC_41, sC_42, sC_43, sC_44, sC_45, sC_46, sC_47, sC_48, sC_49, sC_50, sC_51]
        refine ⟨fun zq => ?_, fun zq => ⟨n, K, b, e, op, mm, lo', ex', hd, sr, a2, hB', so_sw hS a1, op_sw hO a1, ?_, ?_⟩⟩
        · exact absurd zq (nI_ge (a := t) (b := 1000000) (by omega) (by omega))
        · intro u2 vn lev car q m i b1 b2 b3 b4 b5 b6 hi hne
          obtain ⟨q1, q2, q3⟩ := b3.2.1 i hi
          have hm : m ≤ n := by rw [b3.1]; exact cN_le
          have hA2 := LA_fr a2 b1
          have c1 : (nI (q i)).toNatClampNeg = q i := nI_clamp (by omega)
          rw [c1, b2.2.1 _ q1 q2, hA2.2.2.2, lF_at, lI_neg, nI_1]
          have l1 : lB (-ex' (q i)) := by have := hB'.2.2 _ q1; unfold lB; omega
          rw [lI_min (b6 _ q1 q2) l1]
          refine ⟨fun _ => ⟨vp_in_nI (by omega) (by omega), n, K, b, e, bvi vn, lev, lo', ex', q i, mn2 (car (q i)) (-ex' (q i)), hA2.1, ?_⟩, fun z => ?_⟩
          · refine ⟨vi_bvi hn b2, bfI_tre b3, by omega, q1, rfl, rfl, hA2.2.2.1, rfl, ?_⟩
            obtain ⟨d', D', g1, g2⟩ := ek_step hn hK hnd b3 b4 b5 hi hne a4 (a := mn2 (car (q i)) (-ex' (q i))) rfl (ex' := sdE b e (bvi vn) n (q i) (mn2 (car (q i)) (-ex' (q i))) ex') (fun _ => rfl)
            have f1 := sw_frt (sw_frt a1 (sw_frq b1)) (sw_frx (u := u2) (x := snd b e (bvi vn) n (q i) (mn2 (car (q i)) (-ex' (q i))) lo') (ex := sdE b e (bvi vn) n (q i) (mn2 (car (q i)) (-ex' (q i))) ex'))
            exact ih (t + 1) (by omega) _ _ _ d' D' _ f1 (LA_sw hA f1 st_x24 st_x25) (snt_t a3 (snt_one b3 hB'.1 q1 q2 hne (by omega) rfl)) g1 (by omega)
          · exact absurd (z ▸ nI_pos (n := q i) (by omega)) (by decide)
        · intro u2 vn lev car q m b1 b2 b3 b4 b5
          exact h u2 lo' ex' vn lev car q m (sw_frt a1 (sw_frq b1)) (LA_fr a2 b1) a3 b2 b3 b4 b5
    apply hG (fun pc => pc == 2) 40
    simp (config := { maxSteps := 2000000 }) [-Prod.forall, -Prod.exists, -exists_and_left, -exists_and_right, hW0, hW1, dm_fn, dm_fd, dm_x, dm_L0, dm_la, dm_t1, dm_sw, List.headD, dm_ic, dm_mk, dm_s1, dm_s2, dm_clr, dm_cs, dm_cc, dm_nb0, dm_nb1, Value.category, List.lookup, p_X7_sendWhatCanGo, x_X7_sendWhatCanGo, k_X7_sendWhatCanGo, dm_cm, upd, vp_updL, dm_ui_1, dm_ui_2, dm_ul_1, dm_ul_2, sp_X7_nearestInNeed, sp_J9_min_f86c9, sp_X1_sendTo, sC_0, sC_1, sC_2, sC_3, sC_4, sC_5, sC_6, sC_7, sC_8, sC_9, sC_10, sC_11, sC_12, sC_13, sC_14, sC_15, sC_16, sC_17, sC_18, sC_19, sC_20, sC_21, sC_22, sC_23, sC_24, sC_25, sC_26, sC_27, sC_28, sC_29, sC_30, sC_31, sC_32, sC_33, sC_34, sC_35, sC_36, sC_37, sC_38, sC_39, sC_40, sC_41, sC_42, sC_43, sC_44, sC_45, sC_46, sC_47, sC_48, sC_49, sC_50, sC_51]
    refine loop 20000 0 (by omega) u lo ex (fun _ => 0) 0 _ (sw_fr0 u) hA (snt_0 hB.1) ⟨fun _ _ _ _ => Nat.zero_le _, fun _ _ _ => rfl, fun _ _ _ => Nat.le_refl _⟩ ?_
    have := ekC_le (n := n) (K := K) (b := b) (e := e) (op := op) (mm := mm) (lo := lo) (ex := ex) (d := fun _ => 0) hn hK
    unfold ekM
    omega
  · exact h.elim
set_option maxRecDepth 100000 in
theorem t_X7_sendWhatCanGo (l : Launch) (D : va_G) (cA : Nat → ClassId) (ad : Nat → Nat) : dm_Met l D dm_cl cA ad shC yX7_sendWhatCanGo (Cond.code yX7_sendWhatCanGo cX7_sendWhatCanGo 3 (dm_rt 0) :: dm_tt) ({ frames := 3, cells := 0, slots := 0, locals := 72 } : Room) sp_X7_sendWhatCanGo := dm_meth (own := RX7) (X := x_X7_sendWhatCanGo) (Sp := k_X7_sendWhatCanGo) (prog := p_X7_sendWhatCanGo) (by decide +kernel) rfl rfl (dm_FO_s ffX7 [(15, 7, 3), (19, 7, 4), (30, 7, 1), (78, 1, 7)] rfl dm_hT (by decide +kernel)) (dm_IO_s ifX7 jfX7 [(101, 1000000)] [] rfl rfl dm_hT (by decide +kernel) (by decide +kernel)) soC (dm_MO_of (List.forall_mem_cons.mpr ⟨dm_M1_of (t_X7_nearestInNeed l D cA ad) dm_hT (dm_mem [597, 70, 594] (by decide +kernel) (by decide +kernel)) (by decide) (by decide +kernel) (Or.inr ⟨by decide, dm_mem [596, 5] (by decide +kernel) (by decide +kernel), rfl⟩), List.forall_mem_cons.mpr ⟨dm_M1_of (t_J9_min_f86c9 l D cA ad) dm_hT (dm_mem [621, 79, 619] (by decide +kernel) (by decide +kernel)) (by decide) (by decide +kernel) (Or.inl ⟨rfl, dm_mem (ws := [.static yJ9_min_f86c9]) [620] (by decide +kernel) (by decide +kernel) _ List.mem_cons_self⟩), List.forall_mem_cons.mpr ⟨dm_M1_of (t_X1_sendTo l D cA ad) dm_hT (dm_mem [625, 68, 622] (by decide +kernel) (by decide +kernel)) (by decide) (by decide +kernel) (Or.inr ⟨by decide, dm_mem [623, 624] (by decide +kernel) (by decide +kernel), rfl⟩), fun _ h => absurd h List.not_mem_nil⟩⟩⟩)) v_X7_sendWhatCanGo u_X7_sendWhatCanGo
end
section
/-! ===== counting: where the ways of each node begin ===== -/
theorem cN_s {P : Nat → Bool} {n : Nat} : cN P (n + 1) = cN P n + (if P n then 1 else 0) := rfl
theorem cN_at {P : Nat → Bool} : ∀ {N r : Nat}, r < cN P N → ∃ w, w < N ∧ P w = true ∧ cN P w = r
  | 0, r, h => absurd h (Nat.not_lt_zero _)
  | N + 1, r, h => by
    rw [cN_s] at h
    rcases Nat.lt_or_ge r (cN P N) with y | y
    · obtain ⟨w, a, b, c⟩ := cN_at y
      exact ⟨w, by omega, b, c⟩
    · by_cases e : P N = true
      · rw [if_pos e] at h
        exact ⟨N, by omega, e, by omega⟩
      · rw [if_neg e] at h; omega
theorem cN_lt2 {P : Nat → Bool} {w : Nat} (hp : P w = true) : ∀ {N : Nat}, w < N → cN P w + 1 ≤ cN P N
  | 0, h => absurd h (Nat.not_lt_zero _)
  | N + 1, h => by
    rw [cN_s]
    rcases Nat.lt_or_ge w N with y | y
    · have := cN_lt2 hp y; omega
    · rw [show w = N by omega] at hp ⊢
      rw [if_pos hp]; omega
/-- how many ways below N begin at v; how many at nodes below v -/
def kq (g : Nat → Nat) (N v : Nat) : Nat := cN (fun w => decide (g w = v)) N
def kp (g : Nat → Nat) (N : Nat) : Nat → Nat
  | 0 => 0
  | v + 1 => kp g N v + kq g N v
def kw (g : Nat → Nat) (N w : Nat) : Nat := kp g N (g w) + kq g w (g w)
theorem kp_mono {g : Nat → Nat} {N i : Nat} : ∀ k, kp g N i ≤ kp g N (i + k)
  | 0 => Nat.le_refl _
  | k + 1 => by
    have := kp_mono (g := g) (N := N) (i := i) k
    show kp g N i ≤ kp g N (i + k) + kq g N (i + k)
    omega
theorem kw_in {g : Nat → Nat} {N w : Nat} (h : w < N) : kp g N (g w) ≤ kw g N w ∧ kw g N w < kp g N (g w + 1) := by
  have := cN_lt2 (P := fun x => decide (g x = g w)) (w := w) (by simp) h
  show kp g N (g w) ≤ kp g N (g w) + kq g w (g w) ∧ kp g N (g w) + kq g w (g w) < kp g N (g w) + kq g N (g w)
  unfold kq
  omega
theorem kw_inj {g : Nat → Nat} {N w w' : Nat} (h : w < N) (h' : w' < N) (he : kw g N w = kw g N w') : w = w' := by
  obtain ⟨a1, a2⟩ := kw_in (g := g) h
  obtain ⟨b1, b2⟩ := kw_in (g := g) h'
  rcases Nat.lt_trichotomy (g w) (g w') with y | y | y
  · have := kp_mono (g := g) (N := N) (i := g w + 1) (g w' - (g w + 1))
    rw [show g w + 1 + (g w' - (g w + 1)) = g w' by omega] at this
    omega
  · unfold kw at he
    rw [y] at he
    rcases Nat.lt_trichotomy w w' with z | z | z
    · have := cN_lt2 (P := fun x => decide (g x = g w')) (w := w) (by simp [y]) z
      unfold kq at he; omega
    · exact z
    · have := cN_lt2 (P := fun x => decide (g x = g w')) (w := w') (by simp) z
      unfold kq at he; omega
  · have := kp_mono (g := g) (N := N) (i := g w' + 1) (g w - (g w' + 1))
    rw [show g w' + 1 + (g w - (g w' + 1)) = g w by omega] at this
    omega
theorem kw_sur {g : Nat → Nat} {N v t : Nat} (h1 : kp g N v ≤ t) (h2 : t < kp g N (v + 1)) : ∃ w, w < N ∧ g w = v ∧ kw g N w = t := by
  have h3 : t - kp g N v < cN (fun w => decide (g w = v)) N := by
    have h4 : kp g N (v + 1) = kp g N v + kq g N v := rfl
    unfold kq at h4
    omega
  obtain ⟨w, a, b, c⟩ := cN_at h3
  have e : g w = v := of_decide_eq_true b
  refine ⟨w, a, e, ?_⟩
  unfold kw kq
  rw [e, c]
  omega
theorem kp_all {g : Nat → Nat} {V : Nat} : ∀ {N : Nat}, (∀ w, w < N → g w < V) → kp g N V = N
  | 0, _ => by
    have h0 : ∀ v, kp g 0 v = 0 := by
      intro v
      induction v with
      | zero => rfl
      | succ v ih => show kp g 0 v + kq g 0 v = 0; rw [ih]; rfl
    exact h0 V
  | N + 1, h => by
    have ih := kp_all (g := g) (V := V) (N := N) (fun w hw => h w (by omega))
    have h1 : ∀ v, kp g (N + 1) v = kp g N v + (if g N < v then 1 else 0) := by
      intro v
      induction v with
      | zero => rfl
      | succ v ih2 =>
        show kp g (N + 1) v + kq g (N + 1) v = kp g N v + kq g N v + _
        rw [ih2]
        unfold kq
        rw [cN_s]
        by_cases e1 : g N < v
        · rw [if_pos e1, if_neg (by simp; omega), if_pos (by omega)]; omega
        · rw [if_neg e1]
          by_cases e2 : g N = v
          · rw [if_pos (by simp [e2]), if_pos (by omega)]; omega
          · rw [if_neg (by simp [e2]), if_neg (by omega)]; omega
    rw [h1, ih, if_pos (h N (by omega))]
end
section
/-! ===== Lanes.sortWays ===== -/
def sr_fr (u u' : dm_S) : Prop := (∀ c, c ≠ 26 → c ≠ 27 → u'.1 c = u.1 c) ∧ u'.2 = u.2
theorem sr_ln {u u' : dm_S} {n K : Nat} {b e : Nat → Nat} (h : ln_ok u n K b e) (hf : sr_fr u u') : ln_ok u' n K b e := by
  refine ⟨?_, fun l hl => ?_⟩
  · rw [hf.1 1 (by decide) (by decide), hf.1 2 (by decide) (by decide)]; exact h.1
  · rw [hf.1 20 (by decide) (by decide), hf.1 21 (by decide) (by decide)]; exact h.2 l hl
theorem sr_u26 {u u' : dm_S} {j : Nat} {x : Int32} (hf : sr_fr u u') : sr_fr u (dm_ui u' 26 j x) := ⟨fun c a b => by rw [dm_ui_1, if_neg a]; exact hf.1 c a b, hf.2⟩
theorem sr_u27 {u u' : dm_S} {j : Nat} {x : Int32} (hf : sr_fr u u') : sr_fr u (dm_ui u' 27 j x) := ⟨fun c a b => by rw [dm_ui_1, if_neg b]; exact hf.1 c a b, hf.2⟩
theorem nI_sub1 {a : Nat} (h : 1 ≤ a) : nI a - 1 = nI (a - 1) := by
  rw [show a = (a - 1) + 1 by omega, nI_pred, Nat.add_sub_cancel]
def sp_X1_sortWays (As : List Value) (u : dm_S) (Q : Option Value → dm_S → Prop) : Prop := match As with
  | [.ref 2] => ∃ (n K : Nat) (b e : Nat → Nat), ln_ok u n K b e ∧ ∀ (u' : dm_S) (hd sr : Nat → Nat), sr_fr u u' → so_ok u' n K b e hd sr → Q none u'
  | _ => False
def p_X1_sortWays : List dm_I := [(0, .aload_n 0, 1, [0]), (1, .getfield 34, 3, []), (4, .iconst 0, 1, []), (5, .invokestatic 73, 3, []), (8, .iconst 0, 1, []), (9, .istore_n 1, 1, [1]), (10, .iload_n 1, 1, [1]), (11, .iconst 2, 1, []), (12, .aload_n 0, 1, [0]), (13, .getfield 44, 3, []), (16, .imul, 1, []), (17, .if_icmp .ge 23, 3, [40]), (20, .aload_n 0, 1, [0]), (21, .getfield 34, 3, []), (24, .aload_n 0, 1, [0]), (25, .iload_n 1, 1, [1]), (26, .invokevirtual 79, 3, []), (29, .dup2, 1, []), (30, .iaload, 1, []), (31, .iconst 1, 1, []), (32, .iadd, 1, []), (33, .iastore, 1, []), (34, .iinc 1 1, 3, []), (37, .goto (-27), 3, [10]), (40, .iconst 1, 1, []), (41, .istore_n 1, 1, [1]), (42, .iload_n 1, 1, [1]), (43, .bipush 24, 2, []), (45, .if_icmp .gt 26, 3, [71]), (48, .aload_n 0, 1, [0]), (49, .getfield 34, 3, []), (52, .iload_n 1, 1, [1]), (53, .dup2, 1, []), (54, .iaload, 1, []), (55, .aload_n 0, 1, [0]), (56, .getfield 34, 3, []), (59, .iload_n 1, 1, [1]), (60, .iconst 1, 1, []), (61, .isub, 1, []), (62, .iaload, 1, []), (63, .iadd, 1, []), (64, .iastore, 1, []), (65, .iinc 1 1, 3, []), (68, .goto (-26), 3, [42]), (71, .iconst 2, 1, []), (72, .aload_n 0, 1, [0]), (73, .getfield 44, 3, []), (76, .imul, 1, []), (77, .iconst 1, 1, []), (78, .isub, 1, []), (79, .istore_n 1, 1, [1]), (80, .iload_n 1, 1, [1]), (81, .ifCond .lt 37, 3, [118]), (84, .aload_n 0, 1, [0]), (85, .iload_n 1, 1, [1]), (86, .invokevirtual 79, 3, []), (89, .istore_n 2, 1, [2]), (90, .aload_n 0, 1, [0]), (91, .getfield 34, 3, []), (94, .iload_n 2, 1, [2]), (95, .dup2, 1, []), (96, .iaload, 1, []), (97, .iconst 1, 1, []), (98, .isub, 1, []), (99, .iastore, 1, []), (100, .aload_n 0, 1, [0]), (101, .getfield 37, 3, []), (104, .aload_n 0, 1, [0]), (105, .getfield 34, 3, []), (108, .iload_n 2, 1, [2]), (109, .iaload, 1, []), (110, .iload_n 1, 1, [1]), (111, .iastore, 1, []), (112, .iinc 1 (-1), 3, []), (115, .goto (-35), 3, [80]), (118, .return_, 1, [])]
set_option maxRecDepth 100000 in
theorem v_X1_sortWays : p_X1_sortWays.all (dm_vb cX1_sortWays) = true := by decide +kernel
def k_X1_sortWays : dm_Sp := fun a => match a with
  | 0 => sp_J7_fill_53178
  | 1 => sp_X1_beginOf
  | _ => fun _ _ _ => False
def x_X1_sortWays : dm_X := dm_mk [(34, 1, 8), (37, 1, 9), (44, 1, 10)] [] [] [(73, 0, 2, 1000), (79, 1, 1, 1)] 0
set_option maxRecDepth 100000 in
set_option maxHeartbeats 800000 in
theorem u_X1_sortWays : dm_Pure shC x_X1_sortWays k_X1_sortWays p_X1_sortWays 3 sp_X1_sortWays := by
  intro As u Qp h
  unfold sp_X1_sortWays at h
  split at h
  · obtain ⟨n, K, b, e, hl, h⟩ := h
    obtain ⟨hn, hK, en, eK⟩ := hl.1
    refine ⟨Nat.le_of_ble_eq_true rfl, fun G Wp hW0 hW1 hG => ?_⟩
    have hg : ∀ w, w < 2 * K → wb b e w < 24 := fun w hw => by have := (ln_b hl hw).2; omega
    have hN := kp_all (g := wb b e) (V := 24) (N := 2 * K) hg
    have hkp : ∀ v, v ≤ 24 → kp (wb b e) (2 * K) v ≤ 2 * K := fun v hv => by
      have := kp_mono (g := wb b e) (N := 2 * K) (i := v) (24 - v)
      rw [show v + (24 - v) = 24 by omega, hN] at this
      exact this
    have hkq : ∀ t v, kq (wb b e) t v ≤ t := fun t v => cN_le
    have loop3 : ∀ t : Nat, t ≤ 2 * K → ∀ (u' : dm_S) (o2 : Option Value), sr_fr u u' → (∀ v, v < 25 → u'.1 26 v = nI (kp (wb b e) (2 * K) v + kq (wb b e) t v)) → (∀ w, t ≤ w → w < 2 * K → u'.1 27 (kw (wb b e) (2 * K) w) = nI w) → G 80 [some (.ref 2), some (.int (nI t - 1)), o2] [] u' := by
      intro t
      induction t with
      | zero =>
        intro ht u' o2 a1 a2 a3
        apply hG (fun pc => pc == 80) 60
        simp (config := { maxSteps := 2000000 }) [-Prod.forall, -Prod.exists, -exists_and_left, -exists_and_right, hW0, hW1, dm_fn, dm_fd, dm_x, dm_L0, dm_la, dm_t1, dm_sw, List.headD, dm_ic, dm_mk, dm_s1, dm_s2, dm_clr, dm_cs, dm_cc, dm_nb0, dm_nb1, Value.category, List.lookup, p_X1_sortWays, x_X1_sortWays, k_X1_sortWays, dm_cm, upd, vp_updL, dm_ui_1, dm_ui_2, dm_ul_1, dm_ul_2, sp_J7_fill_53178, sp_X1_beginOf, sC_0, sC_1, sC_2, sC_3, sC_4, sC_5, sC_6, sC_7, sC_8, sC_9, sC_10, sC_11, sC_12, sC_13, sC_14, sC_15, sC_16, sC_17, sC_18, sC_19, sC_20, sC_21, sC_22, sC_23, sC_24, sC_25, sC_26, sC_27, sC_28, sC_29, sC_30, sC_31, sC_32, sC_33, sC_34, sC_35, sC_36, sC_37, sC_38, sC_39, sC_40, sC_41, sC_42, sC_43, sC_44, sC_45, sC_46, sC_47, sC_48, sC_49, sC_50, sC_51]
        refine ⟨fun _ => h u' (kp (wb b e) (2 * K)) (fun i => (u'.1 27 i).toNatClampNeg) a1 ⟨fun v hv => ?_, fun v hv => ⟨kp_mono 1, hkp _ (by omega)⟩, fun v t hv t1 t2 => ?_, fun w hw => ?_⟩, fun zq => absurd zq (by decide)⟩
        · rw [a2 v (by omega)]; rfl
        · obtain ⟨w, w1, w2, w3⟩ := kw_sur t1 t2
          have := a3 w (by omega) w1
          rw [w3] at this
          show u'.1 27 t = nI ((u'.1 27 t).toNatClampNeg) ∧ (u'.1 27 t).toNatClampNeg < 2 * K ∧ wb b e ((u'.1 27 t).toNatClampNeg) = v
          rw [this, nI_clamp (by omega)]
          exact ⟨rfl, w1, w2⟩
        · obtain ⟨k1, k2⟩ := kw_in (g := wb b e) hw
          refine ⟨kw (wb b e) (2 * K) w, k1, k2, ?_⟩
          show (u'.1 27 (kw (wb b e) (2 * K) w)).toNatClampNeg = w
          rw [a3 w (by omega) hw, nI_clamp (by omega)]
      | succ t ih =>
        intro ht u' o2 a1 a2 a3
        rw [nI_pred]
        obtain ⟨e1, l1⟩ := ln_b (sr_ln hl a1) (w := t) (by omega)
        obtain ⟨k1, k2⟩ := kw_in (g := wb b e) (N := 2 * K) (w := t) (by omega)
        have hq1 : kq (wb b e) (t + 1) (wb b e t) = kq (wb b e) t (wb b e t) + 1 := by
          unfold kq
          rw [cN_s, if_pos (by simp)]
        have hk2 := hkp (wb b e t + 1) (by omega)
        apply hG (fun pc => pc == 80) 60
        simp (config := { maxSteps := 2000000 }) [-Prod.forall, -Prod.exists, -exists_and_left, -exists_and_right, hW0, hW1, dm_fn, dm_fd, dm_x, dm_L0, dm_la, dm_t1, dm_sw, List.headD, dm_ic, dm_mk, dm_s1, dm_s2, dm_clr, dm_cs, dm_cc, dm_nb0, dm_nb1, Value.category, List.lookup, p_X1_sortWays, x_X1_sortWays, k_X1_sortWays, dm_cm, upd, vp_updL, dm_ui_1, dm_ui_2, dm_ul_1, dm_ul_2, sp_J7_fill_53178, sp_X1_beginOf, sC_0, sC_1, sC_2, sC_3, sC_4, sC_5, sC_6, sC_7, sC_8, sC_9, sC_10, sC_11, sC_12, sC_13, sC_14, sC_15, sC_16, sC_17, sC_18, sC_19, sC_20, sC_21, sC_22, sC_23, sC_24, sC_25, sC_26, sC_27, sC_28, sC_29, sC_30, sC_31, sC_32, sC_33, sC_34, sC_35, sC_36, sC_37, sC_38, sC_39, sC_40, sC_41, sC_42, sC_43, sC_44, sC_45, sC_46, sC_47, sC_48, sC_49, sC_50, sC_51]
        refine ⟨fun zq => absurd zq (nI_pos (by omega)), fun zq => ⟨t, by omega, rfl, ?_⟩⟩
        rw [e1, nI_clamp (n := wb b e t) (by omega), a2 _ (by omega), hq1, dm_m1]
        have e2 : nI (kp (wb b e) (2 * K) (wb b e t) + (kq (wb b e) t (wb b e t) + 1)) - 1 = nI (kw (wb b e) (2 * K) t) := by
          rw [← Nat.add_assoc, nI_pred]; rfl
        rw [e2, nI_clamp (n := kw (wb b e) (2 * K) t) (by omega)]
        refine ⟨vp_in_nI (by omega) (by omega), vp_in_nI (by omega) (by omega), ?_⟩
        refine ih (by omega) _ _ (sr_u27 (sr_u26 a1)) (fun v hv => ?_) (fun w w1 w2 => ?_)
        · rw [dm_ui_1, if_neg (by decide), dm_ui_1, if_pos rfl]
          unfold upd
          by_cases y : v = wb b e t
          · rw [if_pos y, y]; rfl
          · rw [if_neg y, a2 v hv]
            congr 2
            unfold kq
            rw [cN_s, if_neg (by simp; exact fun z => y z.symm)]
            rfl
        · rw [dm_ui_1, if_pos rfl]
          unfold upd
          by_cases y : w = t
          · rw [if_pos (by rw [y]), y]
          · rw [if_neg (fun z => y (kw_inj w2 (by omega) z)), dm_ui_1, if_neg (by decide)]
            exact a3 w (by omega) w2
    have loop2 : ∀ k i : Nat, i + k = 25 → 1 ≤ i → ∀ (u' : dm_S) (o2 : Option Value), sr_fr u u' → (∀ v, v < i → u'.1 26 v = nI (kp (wb b e) (2 * K) (v + 1))) → (∀ v, i ≤ v → v < 25 → u'.1 26 v = nI (kq (wb b e) (2 * K) v)) → G 42 [some (.ref 2), some (.int (nI i)), o2] [] u' := by
      intro k
      induction k with
      | zero =>
        intro i hi hi1 u' o2 a1 a2 a3
        have e1 : u'.1 2 10 = nI K := by rw [a1.1 2 (by decide) (by decide)]; exact eK
        apply hG (fun pc => pc == 42 || pc == 80) 60
        simp (config := { maxSteps := 2000000 }) [-Prod.forall, -Prod.exists, -exists_and_left, -exists_and_right, hW0, hW1, dm_fn, dm_fd, dm_x, dm_L0, dm_la, dm_t1, dm_sw, List.headD, dm_ic, dm_mk, dm_s1, dm_s2, dm_clr, dm_cs, dm_cc, dm_nb0, dm_nb1, Value.category, List.lookup, p_X1_sortWays, x_X1_sortWays, k_X1_sortWays, dm_cm, upd, vp_updL, dm_ui_1, dm_ui_2, dm_ul_1, dm_ul_2, sp_J7_fill_53178, sp_X1_beginOf, sC_0, sC_1, sC_2, sC_3, sC_4, sC_5, sC_6, sC_7, sC_8, sC_9, sC_10, sC_11, sC_12, sC_13, sC_14, sC_15, sC_16, sC_17, sC_18, sC_19, sC_20, sC_21, sC_22, sC_23, sC_24, sC_25, sC_26, sC_27, sC_28, sC_29, sC_30, sC_31, sC_32, sC_33, sC_34, sC_35, sC_36, sC_37, sC_38, sC_39, sC_40, sC_41, sC_42, sC_43, sC_44, sC_45, sC_46, sC_47, sC_48, sC_49, sC_50, sC_51]
        rw [e1, show (2 : Int32) = nI 2 from rfl, pk_mul]
        have e : i = 25 := by omega
        subst e
        exact ⟨fun _ => loop3 (2 * K) (Nat.le_refl _) u' _ a1 (fun v hv => a2 v hv) (fun w w1 w2 => by omega), fun zq => absurd zq (by decide)⟩
      | succ k ih =>
        intro i hi hi1 u' o2 a1 a2 a3
        apply hG (fun pc => pc == 42 || pc == 80) 60
        simp (config := { maxSteps := 2000000 }) [-Prod.forall, -Prod.exists, -exists_and_left, -exists_and_right, hW0, hW1, dm_fn, dm_fd, dm_x, dm_L0, dm_la, dm_t1, dm_sw, List.headD, dm_ic, dm_mk, dm_s1, dm_s2, dm_clr, dm_cs, dm_cc, dm_nb0, dm_nb1, Value.category, List.lookup, p_X1_sortWays, x_X1_sortWays, k_X1_sortWays, dm_cm, upd, vp_updL, dm_ui_1, dm_ui_2, dm_ul_1, dm_ul_2, sp_J7_fill_53178, sp_X1_beginOf, sC_0, sC_1, sC_2, sC_3, sC_4, sC_5, sC_6, sC_7, sC_8, sC_9, sC_10, sC_11, sC_12, sC_13, sC_14, sC_15, sC_16, sC_17, sC_18, sC_19, sC_20, sC_21, sC_22, sC_23, sC_24, sC_25, sC_26, sC_27, sC_28, sC_29, sC_30, sC_31, sC_32, sC_33, sC_34, sC_35, sC_36, sC_37, sC_38, sC_39, sC_40, sC_41, sC_42, sC_43, sC_44, sC_45, sC_46, sC_47, sC_48, sC_49, sC_50, sC_51]
        rw [nI_sub1 hi1, nI_1, nI_clamp (n := i) (by omega), nI_clamp (n := i - 1) (by omega), a3 i (Nat.le_refl _) (by omega), a2 (i - 1) (by omega), nI_add, show i - 1 + 1 = i by omega]
        have iv : vp_in (nI i) 25 := vp_in_nI (by omega) (by omega)
        refine ⟨fun zq => ?_, fun zq => ⟨iv, vp_in_nI (by omega) (by omega), iv, ?_⟩⟩
        · exact absurd zq (nI_nlt (a := 24) (b := i) (by omega) (by omega))
        · refine ih (i + 1) (by omega) (by omega) _ _ (sr_u26 a1) (fun v hv => ?_) (fun v h1 h2 => ?_)
          · rw [dm_ui_1, if_pos rfl]
            unfold upd
            by_cases y : v = i
            · rw [if_pos y, y, Nat.add_comm]; rfl
            · rw [if_neg y]; exact a2 v (by omega)
          · rw [dm_ui_1, if_pos rfl]
            unfold upd
            rw [if_neg (by omega)]
            exact a3 v (by omega) h2
    have loop1 : ∀ k t : Nat, t + k = 2 * K → ∀ (u' : dm_S) (o2 : Option Value), sr_fr u u' → (∀ v, v < 25 → u'.1 26 v = nI (kq (wb b e) t v)) → G 10 [some (.ref 2), some (.int (nI t)), o2] [] u' := by
      intro k
      induction k with
      | zero =>
        intro t ht u' o2 a1 a2
        have e1 : u'.1 2 10 = nI K := by rw [a1.1 2 (by decide) (by decide)]; exact eK
        apply hG (fun pc => pc == 10 || pc == 42) 60
        simp (config := { maxSteps := 2000000 }) [-Prod.forall, -Prod.exists, -exists_and_left, -exists_and_right, hW0, hW1, dm_fn, dm_fd, dm_x, dm_L0, dm_la, dm_t1, dm_sw, List.headD, dm_ic, dm_mk, dm_s1, dm_s2, dm_clr, dm_cs, dm_cc, dm_nb0, dm_nb1, Value.category, List.lookup, p_X1_sortWays, x_X1_sortWays, k_X1_sortWays, dm_cm, upd, vp_updL, dm_ui_1, dm_ui_2, dm_ul_1, dm_ul_2, sp_J7_fill_53178, sp_X1_beginOf, sC_0, sC_1, sC_2, sC_3, sC_4, sC_5, sC_6, sC_7, sC_8, sC_9, sC_10, sC_11, sC_12, sC_13, sC_14, sC_15, sC_16, sC_17, sC_18, sC_19, sC_20, sC_21, sC_22, sC_23, sC_24, sC_25, sC_26, sC_27, sC_28, sC_29, sC_30, sC_31, sC_32, sC_33, sC_34, sC_35, sC_36, sC_37, sC_38, sC_39, sC_40, sC_41, sC_42, sC_43, sC_44, sC_45, sC_46, sC_47, sC_48, sC_49, sC_50, sC_51]
        rw [e1, show (2 : Int32) = nI 2 from rfl, pk_mul]
        have e : t = 2 * K := by omega
        subst e
        refine ⟨fun _ => loop2 24 1 (by omega) (by omega) u' _ a1 (fun v hv => ?_) (fun v _ h2 => a2 v h2), fun zq => absurd zq (nI_nlt (Nat.le_refl _) (by omega))⟩
        rw [show v = 0 by omega, a2 0 (by omega)]
        congr 1
        show _ = kp _ _ 0 + _
        simp [kp]
      | succ k ih =>
        intro t ht u' o2 a1 a2
        have e1 : u'.1 2 10 = nI K := by rw [a1.1 2 (by decide) (by decide)]; exact eK
        obtain ⟨e2, l1⟩ := ln_b (sr_ln hl a1) (w := t) (by omega)
        apply hG (fun pc => pc == 10 || pc == 42) 60
        simp (config := { maxSteps := 2000000 }) [-Prod.forall, -Prod.exists, -exists_and_left, -exists_and_right, hW0, hW1, dm_fn, dm_fd, dm_x, dm_L0, dm_la, dm_t1, dm_sw, List.headD, dm_ic, dm_mk, dm_s1, dm_s2, dm_clr, dm_cs, dm_cc, dm_nb0, dm_nb1, Value.category, List.lookup, p_X1_sortWays, x_X1_sortWays, k_X1_sortWays, dm_cm, upd, vp_updL, dm_ui_1, dm_ui_2, dm_ul_1, dm_ul_2, sp_J7_fill_53178, sp_X1_beginOf, sC_0, sC_1, sC_2, sC_3, sC_4, sC_5, sC_6, sC_7, sC_8, sC_9, sC_10, sC_11, sC_12, sC_13, sC_14, sC_15, sC_16, sC_17, sC_18, sC_19, sC_20, sC_21, sC_22, sC_23, sC_24, sC_25, sC_26, sC_27, sC_28, sC_29, sC_30, sC_31, sC_32, sC_33, sC_34, sC_35, sC_36, sC_37, sC_38, sC_39, sC_40, sC_41, sC_42, sC_43, sC_44, sC_45, sC_46, sC_47, sC_48, sC_49, sC_50, sC_51]
        rw [e1, show (2 : Int32) = nI 2 from rfl, pk_mul]
        refine ⟨fun zq => absurd zq (nI_ge (by omega) (by omega)), fun zq => ⟨t, by omega, rfl, ?_⟩⟩
        rw [e2, nI_clamp (n := wb b e t) (by omega), a2 _ (by omega), nI_1, nI_1]
        refine ⟨vp_in_nI (by omega) (by omega), ?_⟩
        refine ih (t + 1) (by omega) _ _ (sr_u26 a1) (fun v hv => ?_)
        rw [dm_ui_1, if_pos rfl]
        unfold upd
        by_cases y : v = wb b e t
        · rw [if_pos y, y]
          congr 1
          unfold kq
          rw [cN_s, if_pos (by simp)]
        · rw [if_neg y, a2 v hv]
          congr 1
          unfold kq
          rw [cN_s, if_neg (by simp; exact fun z => y z.symm)]
          rfl
    apply hG (fun pc => pc == 10) 60
    simp (config := { maxSteps := 2000000 }) [-Prod.forall, -Prod.exists, -exists_and_left, -exists_and_right, hW0, hW1, dm_fn, dm_fd, dm_x, dm_L0, dm_la, dm_t1, dm_sw, List.headD, dm_ic, dm_mk, dm_s1, dm_s2, dm_clr, dm_cs, dm_cc, dm_nb0, dm_nb1, Value.category, List.lookup, p_X1_sortWays, x_X1_sortWays, k_X1_sortWays, dm_cm, upd, vp_updL, dm_ui_1, dm_ui_2, dm_ul_1, dm_ul_2, sp_J7_fill_53178, sp_X1_beginOf, sC_0, sC_1, sC_2, sC_3, sC_4, sC_5, sC_6, sC_7, sC_8, sC_9, sC_10, sC_11, sC_12, sC_13, sC_14, sC_15, sC_16, sC_17, sC_18, sC_19, sC_20, sC_21, sC_22, sC_23, sC_24, sC_25, sC_26, sC_27, sC_28, sC_29, sC_30, sC_31, sC_32, sC_33, sC_34, sC_35, sC_36, sC_37, sC_38, sC_39, sC_40, sC_41, sC_42, sC_43, sC_44, sC_45, sC_46, sC_47, sC_48, sC_49, sC_50, sC_51]
    refine ⟨25, by omega, rfl, loop1 (2 * K) 0 (by omega) _ _ ⟨fun c a _ => ?_, rfl⟩ (fun v hv => ?_)⟩
    · simp only [dm_fi, if_neg a]
    · simp [dm_fi, hv]; rfl
  · exact h.elim
set_option maxRecDepth 100000 in
theorem t_X1_sortWays (l : Launch) (D : va_G) (cA : Nat → ClassId) (ad : Nat → Nat) : dm_Met l D dm_cl cA ad shC yX1_sortWays (Cond.code yX1_sortWays cX1_sortWays 3 (dm_rt 0) :: dm_tt) ({ frames := 1, cells := 0, slots := 0, locals := 23 } : Room) sp_X1_sortWays := dm_meth (own := RX1) (X := x_X1_sortWays) (Sp := k_X1_sortWays) (prog := p_X1_sortWays) (by decide +kernel) rfl rfl (dm_FO_s ffX1 [(34, 1, 8), (37, 1, 9), (44, 1, 10)] rfl dm_hT (by decide +kernel)) (dm_IO_s ifX1 jfX1 [] [] rfl rfl dm_hT (by decide +kernel) (by decide +kernel)) soC (dm_MO_of (List.forall_mem_cons.mpr ⟨dm_M1_of (t_J7_fill_53178 l D cA ad) dm_hT (dm_mem [549, 78, 547] (by decide +kernel) (by decide +kernel)) (by decide) (by decide +kernel) (Or.inl ⟨rfl, dm_mem (ws := [.static yJ7_fill_53178]) [548] (by decide +kernel) (by decide +kernel) _ List.mem_cons_self⟩), List.forall_mem_cons.mpr ⟨dm_M1_of (t_X1_beginOf l D cA ad) dm_hT (dm_mem [553, 68, 550] (by decide +kernel) (by decide +kernel)) (by decide) (by decide +kernel) (Or.inr ⟨by decide, dm_mem [551, 552] (by decide +kernel) (by decide +kernel), rfl⟩), fun _ h => absurd h List.not_mem_nil⟩⟩)) v_X1_sortWays u_X1_sortWays
end
section
/-! ===== the net itself: nodes, arcs with their parts ===== -/
/-- part k of arc a has its place 4 * a + k in st (where it begins) and rt (its cost) -/
def AN : Type := Nat × Nat × (Nat → Nat) × (Nat → Nat) × (Nat → Nat) × (Nat → Bool) × (Nat → Int) × (Nat → Int) × (Nat → Int) × (Nat → Int)
def AN.mk (n : Nat) (M : Nat) (fr : Nat → Nat) (tr : Nat → Nat) (pt : Nat → Nat) (en : Nat → Bool) (tp : Nat → Int) (st : Nat → Int) (rt : Nat → Int) (su : Nat → Int) : AN := (n, M, fr, tr, pt, en, tp, st, rt, su)
def AN.n (A : AN) : Nat := Prod.fst A
def AN.M (A : AN) : Nat := Prod.fst (Prod.snd A)
def AN.fr (A : AN) : Nat → Nat := Prod.fst (Prod.snd (Prod.snd A))
def AN.tr (A : AN) : Nat → Nat := Prod.fst (Prod.snd (Prod.snd (Prod.snd A)))
def AN.pt (A : AN) : Nat → Nat := Prod.fst (Prod.snd (Prod.snd (Prod.snd (Prod.snd A))))
def AN.en (A : AN) : Nat → Bool := Prod.fst (Prod.snd (Prod.snd (Prod.snd (Prod.snd (Prod.snd A)))))
def AN.tp (A : AN) : Nat → Int := Prod.fst (Prod.snd (Prod.snd (Prod.snd (Prod.snd (Prod.snd (Prod.snd A))))))
def AN.st (A : AN) : Nat → Int := Prod.fst (Prod.snd (Prod.snd (Prod.snd (Prod.snd (Prod.snd (Prod.snd (Prod.snd A)))))))
def AN.rt (A : AN) : Nat → Int := Prod.fst (Prod.snd (Prod.snd (Prod.snd (Prod.snd (Prod.snd (Prod.snd (Prod.snd (Prod.snd A))))))))
def AN.su (A : AN) : Nat → Int := (Prod.snd (Prod.snd (Prod.snd (Prod.snd (Prod.snd (Prod.snd (Prod.snd (Prod.snd (Prod.snd A)))))))))
def AN.aok (A : AN) (a : Nat) : Prop := (A.fr a < A.n ∧ A.tr a < A.n ∧ A.fr a ≠ A.tr a) ∧ (1 ≤ A.pt a ∧ A.pt a ≤ 4) ∧ (0 ≤ A.st (4 * a)) ∧ (∀ k, k < A.pt a → A.st (4 * a + k) ≤ 1000000 ∧ -1000000 ≤ A.rt (4 * a + k) ∧ A.rt (4 * a + k) ≤ 1000000) ∧ (∀ k, k + 1 < A.pt a → A.st (4 * a + k) < A.st (4 * a + k + 1) ∧ A.rt (4 * a + k) ≤ A.rt (4 * a + k + 1)) ∧ (A.en a = false → A.tp a ≤ 1000000 ∧ A.st (4 * a + (A.pt a - 1)) ≤ A.tp a ∧ (2 ≤ A.pt a → A.st (4 * a + (A.pt a - 1)) < A.tp a))
def AN.ok (A : AN) : Prop := (A.n ≤ 24 ∧ A.M ≤ 80) ∧ (∀ a, a < A.M → A.aok a) ∧ ∀ v, v < A.n → -1000000 ≤ A.su v ∧ A.su v ≤ 1000000
/-- the arc of a lane -/
def arF (pt : Nat → Nat) : Nat → Nat → Nat
  | 0, _ => 0
  | M + 1, l => if cn_fs pt M ≤ l then M else arF pt M l
theorem cn_fs_mono {pt : Nat → Nat} {i : Nat} : ∀ k, cn_fs pt i ≤ cn_fs pt (i + k)
  | 0 => Nat.le_refl _
  | k + 1 => by
    have := cn_fs_mono (pt := pt) (i := i) k
    show cn_fs pt i ≤ cn_fs pt (i + k) + pt (i + k)
    omega
theorem arF_at {pt : Nat → Nat} {a k : Nat} : ∀ {M : Nat}, a < M → k < pt a → arF pt M (cn_fs pt a + k) = a
  | 0, h, _ => absurd h (Nat.not_lt_zero _)
  | M + 1, h, hk => by
    show (if cn_fs pt M ≤ cn_fs pt a + k then M else arF pt M (cn_fs pt a + k)) = a
    rcases Nat.lt_or_ge a M with y | y
    · have h1 := cn_fs_mono (pt := pt) (i := a + 1) (M - (a + 1))
      rw [show a + 1 + (M - (a + 1)) = M by omega] at h1
      have h2 : cn_fs pt (a + 1) = cn_fs pt a + pt a := rfl
      rw [if_neg (by omega)]
      exact arF_at y hk
    · have e : a = M := by omega
      subst e
      rw [if_pos (by omega)]
theorem arF_in {pt : Nat → Nat} {l : Nat} : ∀ {M : Nat}, l < cn_fs pt M → arF pt M l < M ∧ cn_fs pt (arF pt M l) ≤ l ∧ l < cn_fs pt (arF pt M l) + pt (arF pt M l)
  | 0, h => absurd h (Nat.not_lt_zero _)
  | M + 1, h => by
    show (if cn_fs pt M ≤ l then M else arF pt M l) < M + 1 ∧ cn_fs pt (if cn_fs pt M ≤ l then M else arF pt M l) ≤ l ∧ l < cn_fs pt (if cn_fs pt M ≤ l then M else arF pt M l) + pt (if cn_fs pt M ≤ l then M else arF pt M l)
    by_cases y : cn_fs pt M ≤ l
    · rw [if_pos y]
      exact ⟨by omega, y, h⟩
    · rw [if_neg y]
      obtain ⟨h1, h2, h3⟩ := arF_in (pt := pt) (l := l) (M := M) (by omega)
      exact ⟨by omega, h2, h3⟩
def AN.K (A : AN) : Nat := cn_fs A.pt A.M
def AN.ar (A : AN) (l : Nat) : Nat := arF A.pt A.M l
/-- the place of a lane's part -/
def AN.ix (A : AN) (l : Nat) : Nat := 4 * A.ar l + (l - cn_fs A.pt (A.ar l))
def AN.b (A : AN) (l : Nat) : Nat := A.fr (A.ar l)
def AN.e (A : AN) (l : Nat) : Nat := A.tr (A.ar l)
def AN.c (A : AN) (l : Nat) : Int := A.rt (A.ix l)
/-- whether a lane has no end -/
def AN.ln (A : AN) (l : Nat) : Bool := A.en (A.ar l) && decide (l + 1 = cn_fs A.pt (A.ar l + 1))
/-- where the part k of a ends; B stands for ENDLESS -/
def AN.ed (A : AN) (B : Int) (a k : Nat) : Int := if k + 1 < A.pt a then A.st (4 * a + k + 1) else if A.en a then B else A.tp a
def AN.w (A : AN) (B : Int) (l : Nat) : Int := A.ed B (A.ar l) (l - cn_fs A.pt (A.ar l)) - A.st (A.ix l)
theorem cn_fs_le4 {pt : Nat → Nat} {M : Nat} (h : ∀ a, a < M → pt a ≤ 4) : ∀ a, a ≤ M → cn_fs pt a ≤ 4 * a
  | 0, _ => Nat.le_refl _
  | a + 1, ha => by
    have h1 := cn_fs_le4 h a (by omega)
    have h2 := h a (by omega)
    show cn_fs pt a + pt a ≤ _
    omega
theorem AN.K_le {A : AN} (h : A.ok) : A.K ≤ 320 := by
  have := cn_fs_le4 (pt := A.pt) (M := A.M) (fun a ha => (h.2.1 a ha).2.1.2) A.M (Nat.le_refl _)
  have := h.1.2
  unfold AN.K
  omega
theorem AN.l_in {A : AN} {l : Nat} (hl : l < A.K) : A.ar l < A.M ∧ ∃ k, k < A.pt (A.ar l) ∧ l = cn_fs A.pt (A.ar l) + k ∧ A.ix l = 4 * A.ar l + k := by
  obtain ⟨h1, h2, h3⟩ := arF_in hl
  refine ⟨h1, l - cn_fs A.pt (A.ar l), ?_, ?_, rfl⟩
  · show l - cn_fs A.pt (arF A.pt A.M l) < A.pt (arF A.pt A.M l); omega
  · show l = cn_fs A.pt (arF A.pt A.M l) + (l - cn_fs A.pt (arF A.pt A.M l)); omega
theorem AN.l_at {A : AN} {a k : Nat} (ha : a < A.M) (hk : k < A.pt a) : cn_fs A.pt a + k < A.K ∧ A.ar (cn_fs A.pt a + k) = a ∧ A.ix (cn_fs A.pt a + k) = 4 * a + k := by
  have h1 : A.ar (cn_fs A.pt a + k) = a := arF_at ha hk
  refine ⟨?_, h1, ?_⟩
  · have h2 := cn_fs_mono (pt := A.pt) (i := a + 1) (A.M - (a + 1))
    rw [show a + 1 + (A.M - (a + 1)) = A.M by omega] at h2
    have h3 : cn_fs A.pt (a + 1) = cn_fs A.pt a + A.pt a := rfl
    show _ < cn_fs A.pt A.M
    omega
  · unfold AN.ix
    rw [h1]; omega
theorem AN.w_at {A : AN} {B : Int} {a k : Nat} (ha : a < A.M) (hk : k < A.pt a) : A.w B (cn_fs A.pt a + k) = A.ed B a k - A.st (4 * a + k) := by
  obtain ⟨h1, h2, h3⟩ := A.l_at ha hk
  unfold AN.w
  rw [h3, h2, show cn_fs A.pt a + k - cn_fs A.pt a = k by omega]
theorem AN.nd {A : AN} (h : A.ok) : nd A.n A.K A.b A.e := fun l hl => by
  obtain ⟨h1, -⟩ := A.l_in hl
  obtain ⟨⟨a1, a2, -⟩, -⟩ := h.2.1 _ h1
  exact ⟨a1, a2⟩
theorem AN.st_ge {A : AN} (h : A.ok) {a : Nat} (ha : a < A.M) : ∀ k, k < A.pt a → A.st (4 * a) ≤ A.st (4 * a + k)
  | 0, _ => Int.le_refl _
  | k + 1, hk => by
    have h1 := AN.st_ge h ha k (by omega)
    have h2 := ((h.2.1 a ha).2.2.2.2.1 k hk).1
    rw [show 4 * a + (k + 1) = 4 * a + k + 1 from rfl]
    omega
/-- widths: never below 0; at most a million, but where there is no end -/
theorem AN.w_bd {A : AN} (h : A.ok) {B : Int} (hB : 1000000 ≤ B) {l : Nat} (hl : l < A.K) : 0 ≤ A.w B l ∧ A.w B l ≤ B ∧ (A.ln l = false → A.w B l ≤ 1000000) := by
  obtain ⟨h1, k, hk, e1, e2⟩ := A.l_in hl
  obtain ⟨a1, a2, a3, a4, a5, a6⟩ := h.2.1 _ h1
  have hg := AN.st_ge h h1 k hk
  have hs := (a4 k hk).1
  have e3 : A.w B l = A.ed B (A.ar l) k - A.st (4 * A.ar l + k) := by
    unfold AN.w
    rw [e2]
    congr 2
    omega
  rw [e3]
  unfold AN.ed AN.ln
  by_cases y : k + 1 < A.pt (A.ar l)
  · rw [if_pos y]
    have := (a5 k y).1
    have := (a4 (k + 1) y).1
    rw [show 4 * A.ar l + (k + 1) = 4 * A.ar l + k + 1 from rfl] at this
    exact ⟨by omega, by omega, fun _ => by omega⟩
  · rw [if_neg y]
    have hk1 : k = A.pt (A.ar l) - 1 := by omega
    cases he : A.en (A.ar l)
    · obtain ⟨t1, t2, t3⟩ := a6 he
      rw [hk1]
      rw [hk1] at hg
      simp only [Bool.false_eq_true, if_false]
      exact ⟨by omega, by omega, fun _ => by omega⟩
    · simp only [if_true]
      refine ⟨by omega, by omega, fun z => ?_⟩
      have h3 : cn_fs A.pt (A.ar l + 1) = cn_fs A.pt (A.ar l) + A.pt (A.ar l) := rfl
      rw [h3] at z
      simp at z
      omega
/-- sums over lanes, arc by arc -/
theorem sI_app {f : Nat → Int} {i : Nat} : ∀ {k : Nat}, sI f (i + k) = sI f i + sI (fun j => f (i + j)) k
  | 0 => by simp [sI]
  | k + 1 => by
    have := sI_app (f := f) (i := i) (k := k)
    show sI f (i + k) + f (i + k) = sI f i + (sI (fun j => f (i + j)) k + f (i + k))
    omega
theorem sI_lanes {f : Nat → Int} {pt : Nat → Nat} : ∀ {M : Nat}, sI f (cn_fs pt M) = sI (fun a => sI (fun k => f (cn_fs pt a + k)) (pt a)) M
  | 0 => rfl
  | M + 1 => by
    show sI f (cn_fs pt M + pt M) = sI (fun a => sI (fun k => f (cn_fs pt a + k)) (pt a)) M + sI (fun k => f (cn_fs pt M + k)) (pt M)
    rw [sI_app, sI_lanes]
/-- what goes on an arc beyond its LOW -/
def AN.am (A : AN) (x : Nat → Int) (a : Nat) : Int := sI (fun k => x (cn_fs A.pt a + k)) (A.pt a)
theorem AN.dv_am {A : AN} {x : Nat → Int} {v : Nat} : dv A.K A.b A.e x v = dv A.M A.fr A.tr (A.am x) v := by
  unfold dv AN.K
  rw [sI_lanes]
  refine sI_cg (fun a ha => ?_)
  have e1 : sI (fun k => (if A.b (cn_fs A.pt a + k) = v then x (cn_fs A.pt a + k) else 0) - (if A.e (cn_fs A.pt a + k) = v then x (cn_fs A.pt a + k) else 0)) (A.pt a) = sI (fun k => ((if A.fr a = v then 1 else 0) - (if A.tr a = v then 1 else 0)) * x (cn_fs A.pt a + k)) (A.pt a) := sI_cg (fun k hk => by
    have h1 := (A.l_at ha hk).2.1
    show (if A.b (cn_fs A.pt a + k) = v then x (cn_fs A.pt a + k) else 0) - (if A.e (cn_fs A.pt a + k) = v then x (cn_fs A.pt a + k) else 0) = ((if A.fr a = v then 1 else 0) - (if A.tr a = v then 1 else 0)) * x (cn_fs A.pt a + k)
    unfold AN.b AN.e
    rw [h1]
    by_cases q1 : A.fr a = v
    · by_cases q2 : A.tr a = v
      · simp [q1, q2]
      · simp [q1, q2]
    · by_cases q2 : A.tr a = v
      · simp [q1, q2]
      · simp [q1, q2])
  rw [e1, sI_mul]
  show _ = (if A.fr a = v then A.am x a else 0) - (if A.tr a = v then A.am x a else 0)
  unfold AN.am
  by_cases q1 : A.fr a = v
  · by_cases q2 : A.tr a = v
    · simp [q1, q2]
    · simp [q1, q2]
  · by_cases q2 : A.tr a = v
    · simp [q1, q2]
    · simp [q1, q2]
/-- what a node has to send, when every arc has its LOW -/
def AN.s (A : AN) (v : Nat) : Int := A.su v - dv A.M A.fr A.tr (fun a => A.st (4 * a)) v
end
section
/-! ===== the net in the cells; Lanes.lay ===== -/
def CR (u : dm_S) (A : AN) : Prop := (u.1 1 8 = nI A.n ∧ u.1 1 9 = nI A.M) ∧ (∀ v, v < A.n → u.2 11 v = lI (A.su v)) ∧ ∀ a, a < A.M → (u.1 12 a = nI (A.fr a) ∧ u.1 13 a = nI (A.tr a)) ∧ (u.1 14 a = (if A.en a then 1 else 0) ∧ u.2 15 a = lI (if A.en a then 1000000000 else A.tp a)) ∧ u.1 16 a = nI (A.pt a) ∧ ∀ k, k < A.pt a → u.2 17 (4 * a + k) = lI (A.st (4 * a + k)) ∧ u.2 18 (4 * a + k) = lI (A.rt (4 * a + k))
theorem CR_cn {u : dm_S} {A : AN} (h : CR u A) (hA : A.ok) : cn_ok u A.n A.M A.fr A.tr A.pt := by
  refine ⟨⟨hA.1.1, hA.1.2, h.1.1, h.1.2⟩, fun a ha => ?_⟩
  obtain ⟨⟨h1, h2⟩, -, h5, -⟩ := h.2.2 a ha
  obtain ⟨⟨a1, a2, -⟩, ⟨a3, a4⟩, -⟩ := hA.2.1 a ha
  exact ⟨⟨h1, a1⟩, ⟨h2, a2⟩, h5, a3, a4⟩
/-- nothing of the net itself has changed -/
def nt_fr (u u' : dm_S) : Prop := (∀ c, c ∈ [1, 12, 13, 14, 16] → u'.1 c = u.1 c) ∧ ∀ c, c ∈ [11, 15, 17, 18] → u'.2 c = u.2 c
theorem CR_fr {u u' : dm_S} {A : AN} (h : CR u A) (hf : nt_fr u u') : CR u' A := by
  obtain ⟨f1, f2⟩ := hf
  unfold CR at h ⊢
  rw [f1 1 (by decide), f2 11 (by decide), f1 12 (by decide), f1 13 (by decide), f1 14 (by decide), f2 15 (by decide), f1 16 (by decide), f2 17 (by decide), f2 18 (by decide)]
  exact h
/-- the lanes are laid -/
def LN (u : dm_S) (A : AN) : Prop := cn_ln u A.M A.pt ∧ ln_ok u A.n A.K A.b A.e ∧ ∀ l, l < A.K → u.2 22 l = lI (A.w 1000000000 l) ∧ u.2 23 l = lI (A.c l)
def ly_fr (u u' : dm_S) : Prop := (∀ c, c ∉ [2, 19, 20, 21, 26, 27] → u'.1 c = u.1 c) ∧ (∀ k, k ≠ 10 → u'.1 2 k = u.1 2 k) ∧ ∀ c, c ∉ [22, 23] → u'.2 c = u.2 c
theorem ly_nt {u u' : dm_S} (h : ly_fr u u') : nt_fr u u' := by
  refine ⟨fun c hc => h.1 c ?_, fun c hc => h.2.2 c ?_⟩
  · intro z; revert hc z; revert c; decide
  · intro z; revert hc z; revert c; decide
def sp_X1_lay (As : List Value) (u : dm_S) (Q : Option Value → dm_S → Prop) : Prop := match As with
  | [.ref 2] => ∃ A : AN, A.ok ∧ CR u A ∧ ∀ (u' : dm_S) (hd sr : Nat → Nat), ly_fr u u' → LN u' A → so_ok u' A.n A.K A.b A.e hd sr → Q none u'
  | _ => False
/-- lanes laid below L -/
def ly_to (u : dm_S) (A : AN) (L : Nat) : Prop := ∀ l, l < L → u.1 20 l = nI (A.b l) ∧ u.1 21 l = nI (A.e l) ∧ u.2 22 l = lI (A.w 1000000000 l) ∧ u.2 23 l = lI (A.c l)
def p_X1_lay : List dm_I := [(0, .aload_n 0, 1, [0]), (1, .iconst 0, 1, []), (2, .putfield 44, 3, []), (5, .iconst 0, 1, []), (6, .istore_n 1, 1, [1]), (7, .iload_n 1, 1, [1]), (8, .aload_n 0, 1, [0]), (9, .getfield 40, 3, []), (12, .getfield 48, 3, []), (15, .if_icmp .ge 140, 3, [155]), (18, .aload_n 0, 1, [0]), (19, .getfield 9, 3, []), (22, .iload_n 1, 1, [1]), (23, .aload_n 0, 1, [0]), (24, .getfield 44, 3, []), (27, .iastore, 1, []), (28, .iconst 0, 1, []), (29, .istore_n 2, 1, [2]), (30, .iload_n 2, 1, [2]), (31, .aload_n 0, 1, [0]), (32, .getfield 40, 3, []), (35, .getfield 53, 3, []), (38, .iload_n 1, 1, [1]), (39, .iaload, 1, []), (40, .if_icmp .ge 109, 3, [149]), (43, .aload_n 0, 1, [0]), (44, .getfield 15, 3, []), (47, .aload_n 0, 1, [0]), (48, .getfield 44, 3, []), (51, .aload_n 0, 1, [0]), (52, .getfield 40, 3, []), (55, .getfield 56, 3, []), (58, .iload_n 1, 1, [1]), (59, .iaload, 1, []), (60, .iastore, 1, []), (61, .aload_n 0, 1, [0]), (62, .getfield 18, 3, []), (65, .aload_n 0, 1, [0]), (66, .getfield 44, 3, []), (69, .aload_n 0, 1, [0]), (70, .getfield 40, 3, []), (73, .getfield 59, 3, []), (76, .iload_n 1, 1, [1]), (77, .iaload, 1, []), (78, .iastore, 1, []), (79, .aload_n 0, 1, [0]), (80, .getfield 21, 3, []), (83, .aload_n 0, 1, [0]), (84, .getfield 44, 3, []), (87, .aload_n 0, 1, [0]), (88, .getfield 40, 3, []), (91, .iload_n 1, 1, [1]), (92, .iload_n 2, 1, [2]), (93, .invokevirtual 62, 3, []), (96, .aload_n 0, 1, [0]), (97, .getfield 40, 3, []), (100, .getfield 66, 3, []), (103, .iload_n 1, 1, [1]), (104, .iconst 4, 1, []), (105, .imul, 1, []), (106, .iload_n 2, 1, [2]), (107, .iadd, 1, []), (108, .laload, 1, []), (109, .lsub, 1, []), (110, .lastore, 1, []), (111, .aload_n 0, 1, [0]), (112, .getfield 25, 3, []), (115, .aload_n 0, 1, [0]), (116, .getfield 44, 3, []), (119, .aload_n 0, 1, [0]), (120, .getfield 40, 3, []), (123, .getfield 69, 3, []), (126, .iload_n 1, 1, [1]), (127, .iconst 4, 1, []), (128, .imul, 1, []), (129, .iload_n 2, 1, [2]), (130, .iadd, 1, []), (131, .laload, 1, []), (132, .lastore, 1, []), (133, .aload_n 0, 1, [0]), (134, .dup, 1, []), (135, .getfield 44, 3, []), (138, .iconst 1, 1, []), (139, .iadd, 1, []), (140, .putfield 44, 3, []), (143, .iinc 2 1, 3, []), (146, .goto (-116), 3, [30]), (149, .iinc 1 1, 3, []), (152, .goto (-145), 3, [7]), (155, .aload_n 0, 1, [0]), (156, .getfield 9, 3, []), (159, .aload_n 0, 1, [0]), (160, .getfield 40, 3, []), (163, .getfield 48, 3, []), (166, .aload_n 0, 1, [0]), (167, .getfield 44, 3, []), (170, .iastore, 1, []), (171, .aload_n 0, 1, [0]), (172, .invokevirtual 70, 3, []), (175, .return_, 1, [])]
set_option maxRecDepth 100000 in
theorem v_X1_lay : p_X1_lay.all (dm_vb cX1_lay) = true := by decide +kernel
def k_X1_lay : dm_Sp := fun a => match a with
  | 0 => sp_X2_endOf
  | 1 => sp_X1_sortWays
  | _ => fun _ _ _ => False
def x_X1_lay : dm_X := dm_mk [(9, 1, 1), (15, 1, 2), (18, 1, 3), (21, 1, 4), (25, 1, 5), (40, 1, 0), (44, 1, 10), (48, 2, 9), (53, 2, 5), (56, 2, 1), (59, 2, 2), (66, 2, 6), (69, 2, 7)] [] [] [(62, 0, 2, 2), (70, 1, 0, 1)] 0
set_option maxRecDepth 100000 in
set_option maxHeartbeats 800000 in
theorem u_X1_lay : dm_Pure shC x_X1_lay k_X1_lay p_X1_lay 3 sp_X1_lay := by
  intro As u Qp h
  unfold sp_X1_lay at h
  split at h
  · obtain ⟨A, hA, hC, h⟩ := h
    obtain ⟨hn, hM⟩ := hA.1
    have hK := A.K_le hA
    refine ⟨Nat.le_of_ble_eq_true rfl, fun G Wp hW0 hW1 hG => ?_⟩
    have hfs := cn_fs_le (pt := A.pt) (M := A.M) (fun a ha => (hA.2.1 a ha).2.1.2)
    have hln : ∀ (u' : dm_S), ly_fr u u' → ly_to u' A A.K → u'.1 2 10 = nI A.K → ln_ok (dm_ui u' 19 A.M (nI A.K)) A.n A.K A.b A.e := by
      intro u' a1 a3 a4
      refine ⟨⟨hn, hK, ?_, ?_⟩, fun l hl => ?_⟩
      · rw [dm_ui_1, if_neg (by decide), a1.1 1 (by decide)]; exact hC.1.1
      · rw [dm_ui_1, if_neg (by decide)]; exact a4
      · rw [dm_ui_1, if_neg (by decide), dm_ui_1, if_neg (by decide)]
        obtain ⟨g1, g2, -⟩ := a3 l hl
        obtain ⟨g3, g4⟩ := AN.nd hA l hl
        exact ⟨⟨g1, g3⟩, g2, g4⟩
    have hfin : ∀ (u' : dm_S), ly_fr u u' → (∀ a, a < A.M → u'.1 19 a = nI (cn_fs A.pt a)) → ly_to u' A A.K → u'.1 2 10 = nI A.K → ∀ (u2 : dm_S) (hd sr : Nat → Nat), sr_fr (dm_ui u' 19 A.M (nI A.K)) u2 → so_ok u2 A.n A.K A.b A.e hd sr → Qp none u2 := by
      intro u' a1 a2 a3 a4 u2 hd sr b1 b2
      refine h u2 hd sr ⟨fun c hc => ?_, fun k hk => ?_, fun c hc => ?_⟩ ⟨fun a ha => ?_, ?_, fun l hl => ?_⟩ b2
      · simp at hc
        rw [b1.1 c (by omega) (by omega), dm_ui_1, if_neg (by omega)]
        exact a1.1 c (by simp; omega)
      · rw [b1.1 2 (by decide) (by decide), dm_ui_1, if_neg (by decide)]; exact a1.2.1 k hk
      · rw [b1.2]; exact a1.2.2 c hc
      · rw [b1.1 19 (by decide) (by decide), dm_ui_1, if_pos rfl]
        unfold upd
        by_cases z : a = A.M
        · rw [if_pos z, z]; rfl
        · rw [if_neg z]; exact a2 a (by omega)
      · exact sr_ln (hln u' a1 a3 a4) b1
      · rw [b1.2]; exact (a3 l hl).2.2
    have outer : ∀ k a : Nat, a + k = A.M → ∀ (u' : dm_S) (o2 : Option Value), ly_fr u u' → (∀ a', a' < a → u'.1 19 a' = nI (cn_fs A.pt a')) → ly_to u' A (cn_fs A.pt a) → u'.1 2 10 = nI (cn_fs A.pt a) → G 7 [some (.ref 2), some (.int (nI a)), o2] [] u' := by
      intro k
      induction k with
      | zero =>
        intro a ha u' o2 a1 a2 a3 a4
        apply hG (fun pc => pc == 7) 80
        simp (config := { maxSteps := 2000000 }) [-Prod.forall, -Prod.exists, -exists_and_left, -exists_and_right, hW0, hW1, dm_fn, dm_fd, dm_x, dm_L0, dm_la, dm_t1, dm_sw, List.headD, dm_ic, dm_mk, dm_s1, dm_s2, dm_clr, dm_cs, dm_cc, dm_nb0, dm_nb1, Value.category, List.lookup, p_X1_lay, x_X1_lay, k_X1_lay, dm_cm, upd, vp_updL, dm_ui_1, dm_ui_2, dm_ul_1, dm_ul_2, sp_X2_endOf, sp_X1_sortWays, sC_0, sC_1, sC_2, sC_3, sC_4, sC_5, sC_6, sC_7, sC_8, sC_9, sC_10, sC_11, sC_12, sC_13, sC_14, sC_15, sC_16, sC_17, sC_18, sC_19, sC_20, sC_21, sC_22, sC_23, sC_24, sC_25, sC_26, sC_27, sC_28, sC_29, sC_30, sC_31, sC_32, sC_33, sC_34, sC_35, sC_36, sC_37, sC_38, sC_39, sC_40, sC_41, sC_42, sC_43, sC_44, sC_45, sC_46, sC_47, sC_48, sC_49, sC_50, sC_51]
        have e : a = A.M := by omega
        subst e
        rw [a1.1 1 (by decide), hC.1.2, a4, nI_clamp (by omega)]
        refine ⟨fun _ => ⟨vp_in_nI (by omega) (by omega), A.n, A.K, A.b, A.e, hln u' a1 a3 a4, hfin u' a1 a2 a3 a4⟩, fun zq => absurd zq (nI_nlt (Nat.le_refl _) (by omega))⟩
      | succ k ih =>
        intro a ha u' o2 a1 a2 a3 a4
        have ham : a < A.M := by omega
        obtain ⟨⟨c1, c2⟩, ⟨c3, c4⟩, c5, c6⟩ := hC.2.2 a ham
        obtain ⟨d1, d2⟩ := (hA.2.1 a ham).2.1
        have hfa := hfs a (by omega)
        have ca : (nI a).toNatClampNeg = a := nI_clamp (by omega)
        have inner : ∀ k2 k : Nat, k + k2 = A.pt a → ∀ (u' : dm_S), ly_fr u u' → (∀ a', a' < a + 1 → u'.1 19 a' = nI (cn_fs A.pt a')) → ly_to u' A (cn_fs A.pt a + k) → u'.1 2 10 = nI (cn_fs A.pt a + k) → G 30 [some (.ref 2), some (.int (nI a)), some (.int (nI k))] [] u' := by
          intro k2
          induction k2 with
          | zero =>
            intro k hk u' a1 a2 a3 a4
            apply hG (fun pc => pc == 7 || pc == 30) 80
            simp (config := { maxSteps := 2000000 }) [-Prod.forall, -Prod.exists, -exists_and_left, -exists_and_right, hW0, hW1, dm_fn, dm_fd, dm_x, dm_L0, dm_la, dm_t1, dm_sw, List.headD, dm_ic, dm_mk, dm_s1, dm_s2, dm_clr, dm_cs, dm_cc, dm_nb0, dm_nb1, Value.category, List.lookup, p_X1_lay, x_X1_lay, k_X1_lay, dm_cm, upd, vp_updL, dm_ui_1, dm_ui_2, dm_ul_1, dm_ul_2, sp_X2_endOf, sp_X1_sortWays, sC_0, sC_1, sC_2, sC_3, sC_4, sC_5, sC_6, sC_7, sC_8, sC_9, sC_10, sC_11, sC_12, sC_13, sC_14, sC_15, sC_16, sC_17, sC_18, sC_19, sC_20, sC_21, sC_22, sC_23, sC_24, sC_25, sC_26, sC_27, sC_28, sC_29, sC_30, sC_31, sC_32, sC_33, sC_34, sC_35, sC_36, sC_37, sC_38, sC_39, sC_40, sC_41, sC_42, sC_43, sC_44, sC_45, sC_46, sC_47, sC_48, sC_49, sC_50, sC_51]
            have e : k = A.pt a := by omega
            subst e
            rw [a1.1 16 (by decide), ca, c5, nI_1]
            refine ⟨vp_in_nI (by omega) (by omega), fun _ => ?_, fun zq => absurd zq (nI_nlt (Nat.le_refl _) (by omega))⟩
            exact ih (a + 1) (by omega) u' _ a1 a2 a3 a4
          | succ k2 ih2 =>
            intro k hk u' a1 a2 a3 a4
            obtain ⟨l1, l2, l3⟩ := A.l_at ham (show k < A.pt a by omega)
            have hlK : cn_fs A.pt a + k < 320 := by omega
            obtain ⟨c7, c8⟩ := c6 k (by omega)
            have cl : (nI (cn_fs A.pt a + k)).toNatClampNeg = cn_fs A.pt a + k := nI_clamp (by omega)
            have c4k : nI a * 4 + nI k = nI (4 * a + k) := by rw [dm_l4 (by omega), nI_add]
            have ck : (nI (4 * a + k)).toNatClampNeg = 4 * a + k := nI_clamp (by omega)
            have ck1 : (nI (4 * a + k + 1)).toNatClampNeg = 4 * a + k + 1 := nI_clamp (by omega)
            apply hG (fun pc => pc == 7 || pc == 30) 80
            simp (config := { maxSteps := 2000000 }) [-Prod.forall, -Prod.exists, -exists_and_left, -exists_and_right, hW0, hW1, dm_fn, dm_fd, dm_x, dm_L0, dm_la, dm_t1, dm_sw, List.headD, dm_ic, dm_mk, dm_s1, dm_s2, dm_clr, dm_cs, dm_cc, dm_nb0, dm_nb1, Value.category, List.lookup, p_X1_lay, x_X1_lay, k_X1_lay, dm_cm, upd, vp_updL, dm_ui_1, dm_ui_2, dm_ul_1, dm_ul_2, sp_X2_endOf, sp_X1_sortWays, sC_0, sC_1, sC_2, sC_3, sC_4, sC_5, sC_6, sC_7, sC_8, sC_9, sC_10, sC_11, sC_12, sC_13, sC_14, sC_15, sC_16, sC_17, sC_18, sC_19, sC_20, sC_21, sC_22, sC_23, sC_24, sC_25, sC_26, sC_27, sC_28, sC_29, sC_30, sC_31, sC_32, sC_33, sC_34, sC_35, sC_36, sC_37, sC_38, sC_39, sC_40, sC_41, sC_42, sC_43, sC_44, sC_45, sC_46, sC_47, sC_48, sC_49, sC_50, sC_51]
            rw [a1.1 16 (by decide), a1.1 12 (by decide), a1.1 13 (by decide), a1.2.2 17 (by decide), a1.2.2 18 (by decide), a1.2.2 15 (by decide), a4, cl, c4k, ck, nI_1, nI_1, nI_1, ca, c1, c2, c4, c5, c7, c8, ck1]
            have ia : vp_in (nI a) 80 := vp_in_nI (by omega) (by omega)
            have il : vp_in (nI (cn_fs A.pt a + k)) 320 := vp_in_nI (by omega) (by omega)
            refine ⟨ia, fun zq => absurd zq (nI_ge (by omega) (by omega)), fun zq => ⟨ia, il, ia, il, ia, fun z => vp_in_nI (by have := (nI_ltI (by omega) (by omega)).mp z; omega) (by omega), ?_⟩⟩
            have hwd : (if nI (k + 1) < nI (A.pt a) then u.2 17 (4 * a + k + 1) else lI (if A.en a = true then 1000000000 else A.tp a)) - lI (A.st (4 * a + k)) = lI (A.w 1000000000 (cn_fs A.pt a + k)) := by
              rw [A.w_at ham (by omega), ← lI_sub]
              congr 1
              unfold AN.ed
              by_cases z : k + 1 < A.pt a
              · rw [if_pos z, if_pos (nI_lt z (by omega))]
                exact (c6 (k + 1) z).1
              · rw [if_neg z, if_neg (nI_nlt (by omega) (by omega))]
            rw [hwd, nI_1]
            refine ⟨vp_in_nI (by omega) (by omega), il, vp_in_nI (by omega) (by omega), il, ?_⟩
            have hb : A.b (cn_fs A.pt a + k) = A.fr a := by unfold AN.b; rw [l2]
            have he : A.e (cn_fs A.pt a + k) = A.tr a := by unfold AN.e; rw [l2]
            have hc : A.c (cn_fs A.pt a + k) = A.rt (4 * a + k) := by unfold AN.c; rw [l3]
            refine ih2 (k + 1) (by omega) _ ⟨fun c hc => ?_, fun j hj => ?_, fun c hc => ?_⟩ (fun a' ha' => ?_) (fun l hl => ?_) ?_
            · simp at hc
              simp only [dm_ui_1, dm_ul_1]
              rw [if_neg (by omega), if_neg (by omega), if_neg (by omega)]
              exact a1.1 c (by simp; omega)
            · simp only [dm_ui_1, dm_ul_1, if_pos]
              unfold upd
              rw [if_neg hj, if_neg (by decide), if_neg (by decide)]
              exact a1.2.1 j hj
            · simp at hc
              simp only [dm_ui_2, dm_ul_2]
              rw [if_neg (by omega), if_neg (by omega)]
              exact a1.2.2 c (by simp; omega)
            · simp only [dm_ui_1, dm_ul_1]
              rw [if_neg (by decide), if_neg (by decide), if_neg (by decide)]
              exact a2 a' ha'
            · by_cases z : l = cn_fs A.pt a + k
              · subst z
                simp [dm_ui_1, dm_ul_1, dm_ui_2, dm_ul_2, upd, vp_updL, hb, he, hc]
              · simp [dm_ui_1, dm_ul_1, dm_ui_2, dm_ul_2, upd, vp_updL, z]
                exact a3 l (by omega)
            · simp [dm_ui_1, upd]; rfl
        apply hG (fun pc => pc == 7 || pc == 30) 80
        simp (config := { maxSteps := 2000000 }) [-Prod.forall, -Prod.exists, -exists_and_left, -exists_and_right, hW0, hW1, dm_fn, dm_fd, dm_x, dm_L0, dm_la, dm_t1, dm_sw, List.headD, dm_ic, dm_mk, dm_s1, dm_s2, dm_clr, dm_cs, dm_cc, dm_nb0, dm_nb1, Value.category, List.lookup, p_X1_lay, x_X1_lay, k_X1_lay, dm_cm, upd, vp_updL, dm_ui_1, dm_ui_2, dm_ul_1, dm_ul_2, sp_X2_endOf, sp_X1_sortWays, sC_0, sC_1, sC_2, sC_3, sC_4, sC_5, sC_6, sC_7, sC_8, sC_9, sC_10, sC_11, sC_12, sC_13, sC_14, sC_15, sC_16, sC_17, sC_18, sC_19, sC_20, sC_21, sC_22, sC_23, sC_24, sC_25, sC_26, sC_27, sC_28, sC_29, sC_30, sC_31, sC_32, sC_33, sC_34, sC_35, sC_36, sC_37, sC_38, sC_39, sC_40, sC_41, sC_42, sC_43, sC_44, sC_45, sC_46, sC_47, sC_48, sC_49, sC_50, sC_51]
        rw [a1.1 1 (by decide), hC.1.2, a4, ca]
        refine ⟨fun zq => absurd zq (nI_ge (by omega) (by omega)), fun zq => ⟨vp_in_nI (by omega) (by omega), ?_⟩⟩
        refine inner (A.pt a) 0 (by omega) _ ⟨fun c hc => ?_, fun k hk => ?_, fun c hc => a1.2.2 c hc⟩ (fun a' ha' => ?_) (fun l hl => ?_) ?_
        · rw [dm_ui_1, if_neg (by simp at hc; omega)]; exact a1.1 c hc
        · rw [dm_ui_1, if_neg (by decide)]; exact a1.2.1 k hk
        · rw [dm_ui_1, if_pos rfl]
          unfold upd
          by_cases z : a' = a
          · rw [if_pos z, z]
          · rw [if_neg z]; exact a2 a' (by omega)
        · rw [dm_ui_1, if_neg (by decide), dm_ui_1, if_neg (by decide)]; exact a3 l hl
        · rw [dm_ui_1, if_neg (by decide)]; exact a4
    apply hG (fun pc => pc == 7) 80
    simp (config := { maxSteps := 2000000 }) [-Prod.forall, -Prod.exists, -exists_and_left, -exists_and_right, hW0, hW1, dm_fn, dm_fd, dm_x, dm_L0, dm_la, dm_t1, dm_sw, List.headD, dm_ic, dm_mk, dm_s1, dm_s2, dm_clr, dm_cs, dm_cc, dm_nb0, dm_nb1, Value.category, List.lookup, p_X1_lay, x_X1_lay, k_X1_lay, dm_cm, upd, vp_updL, dm_ui_1, dm_ui_2, dm_ul_1, dm_ul_2, sp_X2_endOf, sp_X1_sortWays, sC_0, sC_1, sC_2, sC_3, sC_4, sC_5, sC_6, sC_7, sC_8, sC_9, sC_10, sC_11, sC_12, sC_13, sC_14, sC_15, sC_16, sC_17, sC_18, sC_19, sC_20, sC_21, sC_22, sC_23, sC_24, sC_25, sC_26, sC_27, sC_28, sC_29, sC_30, sC_31, sC_32, sC_33, sC_34, sC_35, sC_36, sC_37, sC_38, sC_39, sC_40, sC_41, sC_42, sC_43, sC_44, sC_45, sC_46, sC_47, sC_48, sC_49, sC_50, sC_51]
    refine outer A.M 0 (by omega) _ _ ⟨fun c hc => ?_, fun k hk => ?_, fun c hc => rfl⟩ (fun a' ha => by omega) (fun l hl => absurd hl (Nat.not_lt_zero _)) ?_
    · rw [dm_ui_1, if_neg (by simp at hc; omega)]
    · rw [dm_ui_1, if_pos rfl]; exact if_neg hk
    · rw [dm_ui_1, if_pos rfl]; exact if_pos rfl
  · exact h.elim
set_option maxRecDepth 100000 in
theorem t_X1_lay (l : Launch) (D : va_G) (cA : Nat → ClassId) (ad : Nat → Nat) : dm_Met l D dm_cl cA ad shC yX1_lay (Cond.code yX1_lay cX1_lay 3 (dm_rt 0) :: dm_tt) ({ frames := 2, cells := 0, slots := 0, locals := 45 } : Room) sp_X1_lay := dm_meth (own := RX1) (X := x_X1_lay) (Sp := k_X1_lay) (prog := p_X1_lay) (by decide +kernel) rfl rfl (dm_FO_s ffX1 [(9, 1, 1), (15, 1, 2), (18, 1, 3), (21, 1, 4), (25, 1, 5), (40, 1, 0), (44, 1, 10), (48, 2, 9), (53, 2, 5), (56, 2, 1), (59, 2, 2), (66, 2, 6), (69, 2, 7)] rfl dm_hT (by decide +kernel)) (dm_IO_s ifX1 jfX1 [] [] rfl rfl dm_hT (by decide +kernel) (by decide +kernel)) soC (dm_MO_of (List.forall_mem_cons.mpr ⟨dm_M1_of (t_X2_endOf l D cA ad) dm_hT (dm_mem [542, 67, 539] (by decide +kernel) (by decide +kernel)) (by decide) (by decide +kernel) (Or.inr ⟨by decide, dm_mem [540, 541] (by decide +kernel) (by decide +kernel), rfl⟩), List.forall_mem_cons.mpr ⟨dm_M1_of (t_X1_sortWays l D cA ad) dm_hT (dm_mem [546, 68, 543] (by decide +kernel) (by decide +kernel)) (by decide) (by decide +kernel) (Or.inr ⟨by decide, dm_mem [545, 2] (by decide +kernel) (by decide +kernel), rfl⟩), fun _ h => absurd h List.not_mem_nil⟩⟩)) v_X1_lay u_X1_lay
end
section
/-! ===== what is too much where: in whole numbers ===== -/
theorem dm_sg_I {x : Nat → Int} {p : Nat} : ∀ {n : Nat}, dm_sg (lF x) p n = lI (sI (fun k => x (p + k)) n)
  | 0 => rfl
  | n + 1 => by
    show dm_sg (lF x) p n + lF x (p + n) = lI (sI (fun k => x (p + k)) n + x (p + n))
    rw [dm_sg_I, lF_at, lI_add]
/-- what goes on an arc -/
def AN.on (A : AN) (x : Nat → Int) (a : Nat) : Int := A.st (4 * a) + A.am x a
theorem cn_am_I {u : dm_S} {A : AN} {x : Nat → Int} (hA : A.ok) (hC : CR u A) (hx : u.2 24 = lF x) {a : Nat} (ha : a < A.M) : cn_am u A.pt a = lI (A.on x a) := by
  have h1 := ((hC.2.2 a ha).2.2.2 0 (by have := (hA.2.1 a ha).2.1.1; omega)).1
  rw [Nat.add_zero] at h1
  unfold cn_am
  rw [hx, dm_sg_I, h1, lI_add]
  rfl
theorem cn_ex_I {u : dm_S} {A : AN} {x : Nat → Int} (hA : A.ok) (hC : CR u A) (hx : u.2 24 = lF x) : ∀ a, a ≤ A.M → ∃ f : Nat → Int, cn_ex u A.n A.fr A.tr A.pt a = lF f ∧ ∀ v, v < A.n → f v = A.su v - dv a A.fr A.tr (A.on x) v
  | 0, _ => by
    refine ⟨fun j => if j < A.n then A.su j else (u.2 25 j).toInt, ?_, fun v hv => ?_⟩
    · funext j
      show (if j < A.n then u.2 11 j else u.2 25 j) = lI (if j < A.n then A.su j else (u.2 25 j).toInt)
      split
      · rename_i h; exact hC.2.1 j h
      · exact (lI_to _).symm
    · show (if v < A.n then A.su v else (u.2 25 v).toInt) = A.su v - 0
      rw [if_pos hv]; omega
  | a + 1, ha => by
    obtain ⟨f, h1, h2⟩ := cn_ex_I hA hC hx a (by omega)
    have ham : a < A.M := by omega
    have hne := (hA.2.1 a ham).1.2.2
    show ∃ g : Nat → Int, vp_updL (vp_updL (cn_ex u A.n A.fr A.tr A.pt a) (A.fr a) (cn_ex u A.n A.fr A.tr A.pt a (A.fr a) - cn_am u A.pt a)) (A.tr a) (vp_updL (cn_ex u A.n A.fr A.tr A.pt a) (A.fr a) (cn_ex u A.n A.fr A.tr A.pt a (A.fr a) - cn_am u A.pt a) (A.tr a) + cn_am u A.pt a) = lF g ∧ _
    rw [h1, cn_am_I hA hC hx ham, lF_at, lI_sub, lF_upd, lF_at, lI_add, lF_upd]
    refine ⟨_, rfl, fun v hv => ?_⟩
    have h3 := h2 v hv
    show _ = A.su v - (dv a A.fr A.tr (A.on x) v + ((if A.fr a = v then A.on x a else 0) - (if A.tr a = v then A.on x a else 0)))
    unfold uI
    by_cases q1 : v = A.tr a
    · subst q1
      rw [if_pos rfl, if_neg (Ne.symm hne), if_pos rfl, if_neg hne]; omega
    · rw [if_neg q1, if_neg (Ne.symm q1)]
      by_cases q2 : v = A.fr a
      · subst q2
        rw [if_pos rfl, if_pos rfl]; omega
      · rw [if_neg q2, if_neg (Ne.symm q2)]; omega
/-- behind weigh -/
theorem wg_I {u : dm_S} {A : AN} {x : Nat → Int} (hA : A.ok) (hC : CR u A) (hx : u.2 24 = lF x) : ∃ f : Nat → Int, cn_ex u A.n A.fr A.tr A.pt A.M = lF f ∧ ∀ v, v < A.n → f v = A.s v - dv A.K A.b A.e x v := by
  obtain ⟨f, h1, h2⟩ := cn_ex_I hA hC hx A.M (Nat.le_refl _)
  refine ⟨f, h1, fun v hv => ?_⟩
  rw [h2 v hv, A.dv_am]
  unfold AN.s
  have : dv A.M A.fr A.tr (A.on x) v = dv A.M A.fr A.tr (fun a => A.st (4 * a)) v + dv A.M A.fr A.tr (A.am x) v := by
    rw [← dv_add]; rfl
  omega
/-- all that is too much, when every arc has its LOW -/
theorem AN.pe_s {A : AN} (hA : A.ok) {f : Nat → Int} (hf : ∀ v, v < A.n → f v = A.s v) : pe A.n f ≤ 104000000 := by
  have h1 : pe A.n f ≤ sI (fun v => 1000000 + sI (fun a => if A.tr a = v then A.st (4 * a) else 0) A.M) A.n := sI_le (fun v hv => by
    show (if 0 ≤ f v then f v else 0) ≤ 1000000 + sI (fun a => if A.tr a = v then A.st (4 * a) else 0) A.M
    have h2 : 0 ≤ sI (fun a => if A.tr a = v then A.st (4 * a) else 0) A.M := sI_ge0 (fun a ha => by
      show 0 ≤ if A.tr a = v then A.st (4 * a) else 0
      have := (hA.2.1 a ha).2.2.1
      split <;> omega)
    have h3 : A.s v ≤ 1000000 + sI (fun a => if A.tr a = v then A.st (4 * a) else 0) A.M := by
      have h4 : -sI (fun a => if A.tr a = v then A.st (4 * a) else 0) A.M ≤ dv A.M A.fr A.tr (fun a => A.st (4 * a)) v := by
        have h5 : sI (fun a => (-1) * (if A.tr a = v then A.st (4 * a) else 0)) A.M ≤ dv A.M A.fr A.tr (fun a => A.st (4 * a)) v := sI_le (fun a ha => by
          show (-1) * (if A.tr a = v then A.st (4 * a) else 0) ≤ (if A.fr a = v then A.st (4 * a) else 0) - (if A.tr a = v then A.st (4 * a) else 0)
          have := (hA.2.1 a ha).2.2.1
          split <;> split <;> omega)
        rw [sI_mul] at h5
        omega
      have := (hA.2.2 v hv).2
      unfold AN.s
      omega
    rw [hf v hv]
    split <;> omega)
  have h2 : sI (fun v => sI (fun a => if A.tr a = v then A.st (4 * a) else 0) A.M) A.n ≤ A.M * 1000000 := by
    rw [sI_swap]
    refine sI_bd (fun a ha => ?_)
    have h3 : sI (fun v => if A.tr a = v then A.st (4 * a) else 0) A.n = sI (fun v => if v = A.tr a then A.st (4 * a) else 0) A.n := sI_cg (fun v _ => by
      by_cases q : A.tr a = v
      · rw [if_pos q, if_pos q.symm]
      · rw [if_neg q, if_neg (Ne.symm q)])
    show sI (fun v => if A.tr a = v then A.st (4 * a) else 0) A.n ≤ 1000000
    rw [h3, sI_one, if_pos (hA.2.1 a ha).1.2.1]
    have := ((hA.2.1 a ha).2.2.2.1 0 (by have := (hA.2.1 a ha).2.1.1; omega)).1
    exact this
  rw [sI_add, sI_const] at h1
  have := hA.1.1
  have := hA.1.2
  omega
end
section
/-! ===== Router.findFlow ===== -/
def ff_fr (u u' : dm_S) : Prop := (∀ c, c ∉ [32, 33, 35, 4] → u'.1 c = u.1 c) ∧ (∀ k, k ≠ 6 → u'.1 4 k = u.1 4 k) ∧ ∀ c, c ∉ [24, 25, 34] → u'.2 c = u.2 c
theorem ff_nt {u u' : dm_S} (h : ff_fr u u') : nt_fr u u' := by
  refine ⟨fun c hc => h.1 c ?_, fun c hc => h.2.2 c ?_⟩
  · intro z; revert hc z; revert c; decide
  · intro z; revert hc z; revert c; decide
theorem LN_fr {u u' : dm_S} {A : AN} (h : LN u A) (h1 : ∀ c, c ∈ [1, 2, 19, 20, 21] → u'.1 c = u.1 c) (h2 : ∀ c, c ∈ [22, 23] → u'.2 c = u.2 c) : LN u' A := by
  obtain ⟨a1, ⟨a2, a3⟩, a4⟩ := h
  refine ⟨fun a ha => ?_, ⟨?_, fun l hl => ?_⟩, fun l hl => ?_⟩
  · rw [h1 19 (by decide)]; exact a1 a ha
  · rw [h1 1 (by decide), h1 2 (by decide)]; exact a2
  · rw [h1 20 (by decide), h1 21 (by decide)]; exact a3 l hl
  · rw [h2 22 (by decide), h2 23 (by decide)]; exact a4 l hl
theorem so_eq {u u' : dm_S} {n K : Nat} {b e hd sr : Nat → Nat} (h : so_ok u n K b e hd sr) (h1 : u'.1 26 = u.1 26) (h2 : u'.1 27 = u.1 27) : so_ok u' n K b e hd sr := by
  obtain ⟨a1, a2, a3, a4⟩ := h
  refine ⟨fun v hv => by rw [h1]; exact a1 v hv, a2, fun v t x y z => by rw [h2]; exact a3 v t x y z, a4⟩
theorem LN_mm {u : dm_S} {A : AN} (h : LN u A) (hA : A.ok) : ∃ mm, u.2 22 = lF mm ∧ ∀ l, l < A.K → mm l = A.w 1000000000 l := by
  refine ⟨fun l => (u.2 22 l).toInt, (lF_to _).symm, fun l hl => ?_⟩
  have := A.w_bd hA (B := 1000000000) (by omega) hl
  show (u.2 22 l).toInt = _
  rw [(h.2.2 l hl).1, lI_ti (by omega)]
theorem AN.s_bd {A : AN} (hA : A.ok) {v : Nat} (hv : v < A.n) : -104000000 ≤ A.s v ∧ A.s v ≤ 104000000 := by
  have h1 := A.pe_s hA (f := A.s) (fun _ _ => rfl)
  have h2 := sI_term (f := fun v => if 0 ≤ A.s v then A.s v else 0) (n := A.n) (fun i _ => by show 0 ≤ if 0 ≤ A.s i then A.s i else 0; split <;> omega) hv
  have h3 : (if 0 ≤ A.s v then A.s v else 0) ≤ pe A.n A.s := h2
  have h4 : dv A.M A.fr A.tr (fun a => A.st (4 * a)) v ≤ A.M * 1000000 := sI_bd (fun a ha => by
    show (if A.fr a = v then A.st (4 * a) else 0) - (if A.tr a = v then A.st (4 * a) else 0) ≤ 1000000
    have q1 := (hA.2.1 a ha).2.2.1
    have q2 := ((hA.2.1 a ha).2.2.2.1 0 (by have := (hA.2.1 a ha).2.1.1; omega)).1
    rw [Nat.add_zero] at q2
    split <;> split <;> omega)
  have h5 := (hA.2.2 v hv).1
  have h6 := hA.1.2
  have h7 : A.s v = A.su v - dv A.M A.fr A.tr (fun a => A.st (4 * a)) v := rfl
  split at h3 <;> omega
theorem ul_I {u : dm_S} {A : AN} (hA : A.ok) (hC : CR u A) : ∃ lo ex : Nat → Int, dm_sj (dm_fj u 24 320 0) 25 (cn_ex (dm_fj u 24 320 0) A.n A.fr A.tr A.pt A.M) = st_x u lo ex ∧ (∀ l, l < 320 → lo l = 0) ∧ ∀ v, v < A.n → ex v = A.s v := by
  have e1 : dm_fj u 24 320 0 = dm_sj u 24 (lF (fun l => if l < 320 then 0 else (u.2 24 l).toInt)) := by
    unfold dm_fj dm_sj
    refine Prod.ext rfl ?_
    funext c
    show (if c = 24 then (fun j => if j < 320 then (0 : Int64) else u.2 24 j) else u.2 c) = if c = 24 then lF (fun l => if l < 320 then 0 else (u.2 24 l).toInt) else u.2 c
    congr 1
    funext j
    show (if j < 320 then (0 : Int64) else u.2 24 j) = lI (if j < 320 then 0 else (u.2 24 j).toInt)
    split
    · rfl
    · exact (lI_to _).symm
  have hC' : CR (dm_fj u 24 320 0) A := CR_fr hC ⟨fun _ _ => rfl, fun c hc => by
    rw [e1]
    show (if c = 24 then _ else u.2 c) = u.2 c
    rw [if_neg (fun z => by rw [z] at hc; revert hc; decide)]⟩
  have hx : (dm_fj u 24 320 0).2 24 = lF (fun l => if l < 320 then 0 else (u.2 24 l).toInt) := by rw [e1]; rfl
  obtain ⟨f, h1, h2⟩ := wg_I hA hC' hx
  refine ⟨fun l => if l < 320 then 0 else (u.2 24 l).toInt, f, ?_, fun l hl => if_pos hl, fun v hv => ?_⟩
  · rw [h1, e1]; rfl
  · rw [h2 v hv]
    have : dv A.K A.b A.e (fun l => if l < 320 then 0 else (u.2 24 l).toInt) v = dv A.K A.b A.e (fun _ => 0) v := dv_cg (fun l hl => by
      have := A.K_le hA
      show (if l < 320 then 0 else (u.2 24 l).toInt) = 0
      rw [if_pos (by omega)])
    rw [this]
    have : dv A.K A.b A.e (fun _ => 0) v = 0 := sI_0 (fun l _ => by split <;> split <;> rfl)
    omega
theorem LB_eq {K : Nat} {mm w lo : Nat → Int} (h : fits K mm lo) (hm : ∀ l, l < K → mm l = w l) : fits K w lo := fun l hl => by
  rw [← hm l hl]; exact h l hl
/-- a search that found nothing: THE SET -/
theorem ff_stk {A : AN} (hA : A.ok) {mm lo ex lo' ex' : Nat → Int} {vn : Nat → Option (Option Nat)} {lev : Nat → Nat} {car : Nat → Int} {q : Nat → Nat} {m : Nat} (hm : ∀ l, l < A.K → mm l = A.w 1000000000 l) (hl0 : ∀ l, l < 320 → lo l = 0) (he0 : ∀ v, v < A.n → ex v = A.s v) (hs : snt A.n A.K A.b A.e (fun _ => true) mm lo ex lo' ex') (h : bfI A.n A.K A.b A.e (fun _ => true) mm lo' ex' vn lev car q m) (hx : bfX A.K A.b A.e (fun _ => true) mm lo' ex' vn lev q m) (hS : bfS A.n ex' vn) : stk A.n A.K A.b A.e A.ln (A.w 1000000000) A.s lo' (fun v => (vn v).isSome) := by
  have hK := A.K_le hA
  have hnd := AN.nd hA
  have hexs : ∀ v, v < A.n → ex' v = A.s v - dv A.K A.b A.e lo' v := by
    intro v hv
    have h1 := hs.2.1 v hv
    have h2 : dv A.K A.b A.e lo v = 0 := by
      have : dv A.K A.b A.e lo v = dv A.K A.b A.e (fun _ => 0) v := dv_cg (fun l hl => hl0 l (by omega))
      rw [this]
      exact sI_0 (fun l _ => by split <;> split <;> rfl)
    rw [he0 v hv] at h1
    omega
  have hsome : ∀ v, (vn v).isSome = true ↔ vn v ≠ none := by
    intro v
    cases vn v <;> simp
  have hnone : ∀ v, (vn v).isSome = false ↔ vn v = none := by
    intro v
    cases vn v <;> simp
  have hcl : ∀ w, w < 2 * A.K → 0 < wm mm lo' w → vn (wb A.b A.e w) ≠ none → vn (we A.b A.e w) ≠ none := by
    intro w hw hr hv
    have hbn : wb A.b A.e w < A.n := by
      obtain ⟨c1, c2⟩ := hnd (w / 2) (by omega)
      unfold wb
      split <;> assumption
    obtain ⟨-, j, hj, ej⟩ := h.2.2.1 _ hbn hv
    exact ((hx j hj).2 w hw rfl hr ej.symm).1
  have hE : ∀ l, wb A.b A.e (2 * l) = A.b l ∧ we A.b A.e (2 * l) = A.e l ∧ wm mm lo' (2 * l) = mm l - lo' l := by
    intro l
    unfold wb we wm
    rw [if_pos (by omega), if_pos (by omega), if_pos (by omega), show 2 * l / 2 = l by omega]
    exact ⟨rfl, rfl, rfl⟩
  have hO : ∀ l, wb A.b A.e (2 * l + 1) = A.e l ∧ we A.b A.e (2 * l + 1) = A.b l ∧ wm mm lo' (2 * l + 1) = lo' l := by
    intro l
    unfold wb we wm
    rw [if_neg (by omega), if_neg (by omega), if_neg (by omega), show (2 * l + 1) / 2 = l by omega]
    exact ⟨rfl, rfl, rfl⟩
  refine ⟨fun l hl s1 s2 => ?_, fun l hl s1 s2 => ?_, fun v hv hp => ?_, fun v hv hp => ?_, fun T t1 t2 t3 v hv hq => ?_⟩
  · obtain ⟨f1, f2⟩ := hs.1 l hl
    have e1 : lo' l = mm l := by
      rcases Int.lt_or_le (lo' l) (mm l) with y | y
      · obtain ⟨o1, o2, o3⟩ := hE l
        have := hcl (2 * l) (by omega) (by rw [o3]; omega) (by rw [o1]; exact (hsome _).mp s1)
        rw [o2] at this
        exact absurd ((hnone _).mp s2) this
      · omega
    refine ⟨by rw [e1]; exact hm l hl, ?_⟩
    cases hq : A.ln l
    · rfl
    · exfalso
      have h5 := hs.2.2.2.2 l hl
      rw [hl0 l (by omega)] at h5
      have h6 := A.pe_s hA he0
      have h7 : 0 ≤ pe A.n ex' := sI_ge0 (fun v _ => by show 0 ≤ if 0 ≤ ex' v then ex' v else 0; split <;> omega)
      rw [hm l hl] at e1
      obtain ⟨g1, k, g2, g3, g4⟩ := A.l_in hl
      unfold AN.ln at hq
      simp only [Bool.and_eq_true, decide_eq_true_eq] at hq
      have g5 : cn_fs A.pt (A.ar l + 1) = cn_fs A.pt (A.ar l) + A.pt (A.ar l) := rfl
      have g6 : A.w 1000000000 l = 1000000000 - A.st (4 * A.ar l + k) := by
        have g7 := A.w_at (B := 1000000000) g1 g2
        rw [← g3] at g7
        rw [g7]
        unfold AN.ed
        rw [if_neg (by omega), if_pos hq.1]
      have g8 := ((hA.2.1 _ g1).2.2.2.1 k g2).1
      omega
  · obtain ⟨f1, f2⟩ := hs.1 l hl
    rcases Int.lt_or_le 0 (lo' l) with y | y
    · obtain ⟨o1, o2, o3⟩ := hO l
      have := hcl (2 * l + 1) (by omega) (by rw [o3]; omega) (by rw [o1]; exact (hsome _).mp s2)
      rw [o2] at this
      exact absurd ((hnone _).mp s1) this
    · omega
  · rw [← hexs v hv] at hp
    show (vn v).isSome = true
    rw [hS v hv hp]; rfl
  · rw [← hexs v hv] at hp
    refine (hnone v).mpr ?_
    cases hq : vn v with
    | none => rfl
    | some o =>
      obtain ⟨-, j, hj, ej⟩ := h.2.2.1 v hv (by rw [hq]; simp)
      have := (hx j hj).1
      rw [ej] at this
      omega
  · refine h.2.2.2.2.2 (fun v => T v = true) (fun w hw _ hr ht => ?_) (fun u hu hp => t3 u hu (by rw [← hexs u hu]; exact hp)) v hv ((hsome v).mp hq)
    show T (we A.b A.e w) = true
    cases hz : T (we A.b A.e w)
    · exfalso
      have ht2 : T (wb A.b A.e w) = true := ht
      rcases Nat.mod_two_eq_zero_or_one w with y | y
      · obtain ⟨o1, o2, o3⟩ := hE (w / 2)
        rw [show 2 * (w / 2) = w by omega] at o1 o2 o3
        rw [o1] at ht2
        rw [o2] at hz
        have := t1 (w / 2) (by omega) ht2 hz
        rw [o3, hm _ (by omega)] at hr
        omega
      · obtain ⟨o1, o2, o3⟩ := hO (w / 2)
        rw [show 2 * (w / 2) + 1 = w by omega] at o1 o2 o3
        rw [o1] at ht2
        rw [o2] at hz
        have := t2 (w / 2) (by omega) hz ht2
        rw [o3] at hr
        omega
    · rfl
end
section
/-! ===== Router.findFlow, the method ===== -/
def sp_X7_findFlow (As : List Value) (u : dm_S) (Q : Option Value → dm_S → Prop) : Prop := match As with
  | [.ref 4] => ∃ (A : AN) (hd sr : Nat → Nat), A.ok ∧ CR u A ∧ LN u A ∧ so_ok u A.n A.K A.b A.e hd sr ∧
    (∀ (u' : dm_S) (lo : Nat → Int), ff_fr u u' → u'.2 24 = lF lo → fits A.K (A.w 1000000000) lo → bal A.n A.K A.b A.e A.s lo → Q (some (.int 1)) u') ∧
    ∀ (u' : dm_S) (lo : Nat → Int) (S : Nat → Bool), ff_fr u u' → fits A.K (A.w 1000000000) lo → stk A.n A.K A.b A.e A.ln (A.w 1000000000) A.s lo S → (∃ v, v < A.n ∧ A.s v - dv A.K A.b A.e lo v ≠ 0) → (∀ v, v < A.n → (u'.1 33 v = -2 ↔ S v = false)) → Q (some (.int 0)) u'
  | _ => False
def p_X7_findFlow : List dm_I := [(0, .aload_n 0, 1, [0]), (1, .getfield 30, 3, []), (4, .invokevirtual 34, 3, []), (7, .iconst 0, 1, []), (8, .istore_n 1, 1, [1]), (9, .iload_n 1, 1, [1]), (10, .aload_n 0, 1, [0]), (11, .getfield 30, 3, []), (14, .getfield 39, 3, []), (17, .if_icmp .ge 16, 3, [33]), (20, .aload_n 0, 1, [0]), (21, .getfield 9, 3, []), (24, .iload_n 1, 1, [1]), (25, .iconst 1, 1, []), (26, .bastore, 1, []), (27, .iinc 1 1, 3, []), (30, .goto (-21), 3, [9]), (33, .aload_n 0, 1, [0]), (34, .invokevirtual 43, 3, []), (37, .aload_n 0, 1, [0]), (38, .getfield 30, 3, []), (41, .invokevirtual 46, 3, []), (44, .ireturn, 1, [])]
set_option maxRecDepth 100000 in
theorem v_X7_findFlow : p_X7_findFlow.all (dm_vb cX7_findFlow) = true := by decide +kernel
def k_X7_findFlow : dm_Sp := fun a => match a with
  | 0 => sp_X1_unload
  | 1 => sp_X7_sendWhatCanGo
  | 2 => sp_X1_isBalanced
  | _ => fun _ _ _ => False
def x_X7_findFlow : dm_X := dm_mk [(9, 7, 2), (30, 7, 1), (39, 1, 10)] [] [] [(34, 0, 0, 1), (43, 1, 0, 7), (46, 2, 0, 1)] 3
set_option maxRecDepth 100000 in
set_option maxHeartbeats 800000 in
theorem u_X7_findFlow : dm_Pure shC x_X7_findFlow k_X7_findFlow p_X7_findFlow 2 sp_X7_findFlow := by
  intro As u Qp h
  unfold sp_X7_findFlow at h
  split at h
  · obtain ⟨A, hd, sr, hA, hC, hL, hS, h1, h2⟩ := h
    obtain ⟨hn, hM⟩ := hA.1
    have hK := A.K_le hA
    obtain ⟨mm, em, hm⟩ := LN_mm hL hA
    obtain ⟨lo, ex, eU, hl0, he0⟩ := ul_I hA hC
    refine ⟨Nat.le_of_ble_eq_true rfl, fun G Wp hW0 hW1 hG => ?_⟩
    have hfin : ∀ u1 : dm_S, (∀ c, c ≠ 32 → u1.1 c = u.1 c) → u1.2 = (st_x u lo ex).2 → op_ok u1 A.K (fun _ => true) → ∀ (u' : dm_S) (lo' ex' : Nat → Int) (vn : Nat → Option (Option Nat)) (lev : Nat → Nat) (car : Nat → Int) (q : Nat → Nat) (m : Nat), sw_fr u1 u' → LA u' A.n A.K A.b A.e mm lo' ex' → snt A.n A.K A.b A.e (fun _ => true) mm lo ex lo' ex' → rq_ok u' A.n vn car q m → bfI A.n A.K A.b A.e (fun _ => true) mm lo' ex' vn lev car q m → bfX A.K A.b A.e (fun _ => true) mm lo' ex' vn lev q m → bfS A.n ex' vn → (((∀ j, j < A.n → u'.2 25 j = 0) → Qp (some (.int 1)) u') ∧ ((∃ j, j < A.n ∧ ¬ u'.2 25 j = 0) → Qp (some (.int 0)) u')) := by
      intro u1 b1 b2 b3 u' lo' ex' vn lev car q m c1 c2 c3 c4 c5 c6 c7
      have hff : ff_fr u u' := by
        refine ⟨fun c hc => ?_, fun k hk => ?_, fun c hc => ?_⟩
        · simp at hc
          rw [c1.1 c (by omega) (by omega) (by omega), b1 c (by omega)]
        · rw [c1.2.1 k hk, b1 4 (by decide)]
        · simp at hc
          rw [c1.2.2 c (by omega) (by omega) (by omega), b2, st_xo (by omega) (by omega)]
      have hBe : ∀ v, v < A.n → lB (ex' v) := fun v hv => by
        have q1 := A.s_bd hA hv
        have q2 := c3.2.2.2.1 v hv
        rw [he0 v hv] at q2
        unfold lB
        rcases Int.le_total 0 (A.s v) with y | y
        · have := q2.1 y; omega
        · have := q2.2 y; omega
      have hexs : ∀ v, v < A.n → ex' v = A.s v - dv A.K A.b A.e lo' v := by
        intro v hv
        have g1 := c3.2.1 v hv
        have g2 : dv A.K A.b A.e lo v = 0 := by
          have : dv A.K A.b A.e lo v = dv A.K A.b A.e (fun _ => 0) v := dv_cg (fun l hl => hl0 l (by omega))
          rw [this]
          exact sI_0 (fun l _ => by split <;> split <;> rfl)
        rw [he0 v hv] at g1
        omega
      have h0 : (0 : Int64) = lI 0 := rfl
      have hB0 : lB 0 := by unfold lB; omega
      have hft := LB_eq c3.1 hm
      refine ⟨fun z => h1 u' lo' hff c2.2.2.1 hft (fun v hv => ?_), fun z => ?_⟩
      · have z1 := z v hv
        rw [c2.2.2.2, lF_at, h0, lI_eq (hBe v hv) hB0] at z1
        have := hexs v hv
        omega
      · obtain ⟨j, hj, z1⟩ := z
        rw [c2.2.2.2, lF_at, h0, lI_eq (hBe j hj) hB0] at z1
        refine h2 u' lo' _ hff hft (ff_stk hA hm hl0 he0 c3 c5 c6 c7) ⟨j, hj, by rw [← hexs j hj]; exact z1⟩ (fun v hv => ?_)
        rw [c4.1 v (by omega), cvn_ne (fun w hw => bfI_w c5 hK hv hw)]
        cases vn v <;> simp
    have loop : ∀ k l : Nat, l + k = A.K → ∀ u1 : dm_S, (∀ c, c ≠ 32 → u1.1 c = u.1 c) → u1.2 = (st_x u lo ex).2 → op_ok u1 l (fun _ => true) → G 9 [some (.ref 4), some (.int (nI l))] [] u1 := by
      intro k
      induction k with
      | zero =>
        intro l hl u1 b1 b2 b3
        have e : l = A.K := by omega
        subst e
        have eK : u1.1 2 10 = nI A.K := by rw [b1 2 (by decide)]; exact hL.2.1.1.2.2.2
        have en : u1.1 1 8 = nI A.n := by rw [b1 1 (by decide)]; exact hC.1.1
        apply hG (fun pc => pc == 9) 40
        simp (config := { maxSteps := 2000000 }) [-Prod.forall, -Prod.exists, -exists_and_left, -exists_and_right, hW0, hW1, dm_fn, dm_fd, dm_x, dm_L0, dm_la, dm_t1, dm_sw, List.headD, dm_ic, dm_mk, dm_s1, dm_s2, dm_clr, dm_cs, dm_cc, dm_nb0, dm_nb1, Value.category, List.lookup, p_X7_findFlow, x_X7_findFlow, k_X7_findFlow, dm_cm, upd, vp_updL, dm_ui_1, dm_ui_2, dm_ul_1, dm_ul_2, sp_X1_unload, sp_X7_sendWhatCanGo, sp_X1_isBalanced, sC_0, sC_1, sC_2, sC_3, sC_4, sC_5, sC_6, sC_7, sC_8, sC_9, sC_10, sC_11, sC_12, sC_13, sC_14, sC_15, sC_16, sC_17, sC_18, sC_19, sC_20, sC_21, sC_22, sC_23, sC_24, sC_25, sC_26, sC_27, sC_28, sC_29, sC_30, sC_31, sC_32, sC_33, sC_34, sC_35, sC_36, sC_37, sC_38, sC_39, sC_40, sC_41, sC_42, sC_43, sC_44, sC_45, sC_46, sC_47, sC_48, sC_49, sC_50, sC_51]
        rw [eK]
        have hLn : LN u1 A := LN_fr hL (fun c hc => b1 c (fun z => by rw [z] at hc; revert hc; decide)) (fun c hc => by rw [b2, st_xo (fun z => by rw [z] at hc; revert hc; decide) (fun z => by rw [z] at hc; revert hc; decide)])
        refine ⟨fun _ => ⟨A.n, A.K, A.b, A.e, fun _ => true, mm, lo, ex, hd, sr, ⟨hLn.2.1, ?_, ?_, ?_⟩, ⟨fun l hl => ?_, fun l hl => ?_, fun v hv => ?_⟩, so_eq hS (b1 26 (by decide)) (b1 27 (by decide)), b3, ?_⟩, fun zq => absurd zq (nI_nlt (Nat.le_refl _) (by omega))⟩
        · rw [b2, st_xo (by decide) (by decide)]; exact em
        · rw [b2]; rfl
        · rw [b2]; rfl
        · rw [hl0 l (by omega), hm l hl]
          have := A.w_bd hA (B := 1000000000) (by omega) hl
          omega
        · rw [hm l hl]
          have := A.w_bd hA (B := 1000000000) (by omega) hl
          omega
        · rw [he0 v hv]
          have := A.s_bd hA hv
          omega
        · intro u' lo' ex' vn lev car q m c1 c2 c3 c4 c5 c6 c7
          have hf := hfin u1 b1 b2 b3 u' lo' ex' vn lev car q m c1 c2 c3 c4 c5 c6 c7
          exact ⟨A.n, hn, by rw [c1.1 1 (by decide) (by decide) (by decide)]; exact en, hf.1, fun j hj hz => hf.2 ⟨j, hj, hz⟩⟩
      | succ k ih =>
        intro l hl u1 b1 b2 b3
        have eK : u1.1 2 10 = nI A.K := by rw [b1 2 (by decide)]; exact hL.2.1.1.2.2.2
        apply hG (fun pc => pc == 9) 40
        simp (config := { maxSteps := 2000000 }) [-Prod.forall, -Prod.exists, -exists_and_left, -exists_and_right, hW0, hW1, dm_fn, dm_fd, dm_x, dm_L0, dm_la, dm_t1, dm_sw, List.headD, dm_ic, dm_mk, dm_s1, dm_s2, dm_clr, dm_cs, dm_cc, dm_nb0, dm_nb1, Value.category, List.lookup, p_X7_findFlow, x_X7_findFlow, k_X7_findFlow, dm_cm, upd, vp_updL, dm_ui_1, dm_ui_2, dm_ul_1, dm_ul_2, sp_X1_unload, sp_X7_sendWhatCanGo, sp_X1_isBalanced, sC_0, sC_1, sC_2, sC_3, sC_4, sC_5, sC_6, sC_7, sC_8, sC_9, sC_10, sC_11, sC_12, sC_13, sC_14, sC_15, sC_16, sC_17, sC_18, sC_19, sC_20, sC_21, sC_22, sC_23, sC_24, sC_25, sC_26, sC_27, sC_28, sC_29, sC_30, sC_31, sC_32, sC_33, sC_34, sC_35, sC_36, sC_37, sC_38, sC_39, sC_40, sC_41, sC_42, sC_43, sC_44, sC_45, sC_46, sC_47, sC_48, sC_49, sC_50, sC_51]
        rw [eK, nI_clamp (n := l) (by omega), nI_1]
        refine ⟨fun zq => absurd zq (nI_ge (by omega) (by omega)), fun zq => ⟨vp_in_nI (by omega) (by omega), ?_⟩⟩
        refine ih (l + 1) (by omega) _ (fun c hc => ?_) b2 (fun j hj => ?_)
        · rw [dm_ui_1, if_neg hc]; exact b1 c hc
        · rw [dm_ui_1, if_pos rfl]
          unfold upd
          by_cases z : j = l
          · rw [if_pos z]; rfl
          · rw [if_neg z]; exact b3 j (by omega)
    apply hG (fun pc => pc == 9) 40
    simp (config := { maxSteps := 2000000 }) [-Prod.forall, -Prod.exists, -exists_and_left, -exists_and_right, hW0, hW1, dm_fn, dm_fd, dm_x, dm_L0, dm_la, dm_t1, dm_sw, List.headD, dm_ic, dm_mk, dm_s1, dm_s2, dm_clr, dm_cs, dm_cc, dm_nb0, dm_nb1, Value.category, List.lookup, p_X7_findFlow, x_X7_findFlow, k_X7_findFlow, dm_cm, upd, vp_updL, dm_ui_1, dm_ui_2, dm_ul_1, dm_ul_2, sp_X1_unload, sp_X7_sendWhatCanGo, sp_X1_isBalanced, sC_0, sC_1, sC_2, sC_3, sC_4, sC_5, sC_6, sC_7, sC_8, sC_9, sC_10, sC_11, sC_12, sC_13, sC_14, sC_15, sC_16, sC_17, sC_18, sC_19, sC_20, sC_21, sC_22, sC_23, sC_24, sC_25, sC_26, sC_27, sC_28, sC_29, sC_30, sC_31, sC_32, sC_33, sC_34, sC_35, sC_36, sC_37, sC_38, sC_39, sC_40, sC_41, sC_42, sC_43, sC_44, sC_45, sC_46, sC_47, sC_48, sC_49, sC_50, sC_51]
    refine ⟨A.n, A.M, A.fr, A.tr, A.pt, CR_cn hC hA, hL.1, ?_⟩
    rw [eU]
    exact loop A.K 0 (by omega) _ (fun c _ => rfl) rfl (fun l hl => absurd hl (Nat.not_lt_zero _))
  · exact h.elim
set_option maxRecDepth 100000 in
theorem t_X7_findFlow (l : Launch) (D : va_G) (cA : Nat → ClassId) (ad : Nat → Nat) : dm_Met l D dm_cl cA ad shC yX7_findFlow (Cond.code yX7_findFlow cX7_findFlow 2 (dm_rt 3) :: dm_tt) ({ frames := 4, cells := 0, slots := 0, locals := 94 } : Room) sp_X7_findFlow := dm_meth (own := RX7) (X := x_X7_findFlow) (Sp := k_X7_findFlow) (prog := p_X7_findFlow) (by decide +kernel) rfl rfl (dm_FO_s ffX7 [(9, 7, 2), (30, 7, 1), (39, 1, 10)] rfl dm_hT (by decide +kernel)) (dm_IO_s ifX7 jfX7 [] [] rfl rfl dm_hT (by decide +kernel) (by decide +kernel)) soC (dm_MO_of (List.forall_mem_cons.mpr ⟨dm_M1_of (t_X1_unload l D cA ad) dm_hT (dm_mem [573, 68, 570] (by decide +kernel) (by decide +kernel)) (by decide) (by decide +kernel) (Or.inr ⟨by decide, dm_mem [571, 572] (by decide +kernel) (by decide +kernel), rfl⟩), List.forall_mem_cons.mpr ⟨dm_M1_of (t_X7_sendWhatCanGo l D cA ad) dm_hT (dm_mem [592, 70, 589] (by decide +kernel) (by decide +kernel)) (by decide) (by decide +kernel) (Or.inr ⟨by decide, dm_mem [591, 4] (by decide +kernel) (by decide +kernel), rfl⟩), List.forall_mem_cons.mpr ⟨dm_M1_of (t_X1_isBalanced l D cA ad) dm_hT (dm_mem [634, 68, 631] (by decide +kernel) (by decide +kernel)) (by decide) (by decide +kernel) (Or.inr ⟨by decide, dm_mem [632, 633] (by decide +kernel) (by decide +kernel), rfl⟩), fun _ h => absurd h List.not_mem_nil⟩⟩⟩)) v_X7_findFlow u_X7_findFlow
end
section
/-! ===== Router.closeLanes, putBack ===== -/
theorem cnfs_mono2 {pt : Nat → Nat} {i : Nat} : ∀ k, cn_fs pt i ≤ cn_fs pt (i + k) := fun k => cn_fs_mono k

theorem AN.fs_le {A : AN} (hA : A.ok) {a : Nat} (ha : a < A.M) : cn_fs A.pt a + A.pt a ≤ A.K := by
  have h2 := cnfs_mono2 (pt := A.pt) (i := a + 1) (A.M - (a + 1))
  rw [show a + 1 + (A.M - (a + 1)) = A.M by omega] at h2
  exact h2
def cl_lo (A : AN) (a : Nat) (op : Nat → Bool) (lo : Nat → Int) (k : Nat) : Nat → Int := fun l => if (cn_fs A.pt a ≤ l ∧ l < cn_fs A.pt a + k) ∧ op l = true then 0 else lo l
def cl_op (A : AN) (a : Nat) (op : Nat → Bool) (k : Nat) : Nat → Bool := fun l => if cn_fs A.pt a ≤ l ∧ l < cn_fs A.pt a + k then false else op l
def cl_tk (A : AN) (a : Nat) (op : Nat → Bool) (lo : Nat → Int) (k : Nat) : Int := sI (fun j => if op (cn_fs A.pt a + j) then lo (cn_fs A.pt a + j) else 0) k
def cl_fr (u u' : dm_S) : Prop := (∀ c, c ≠ 32 → u'.1 c = u.1 c) ∧ ∀ c, c ≠ 24 → c ≠ 25 → u'.2 c = u.2 c
def sp_X7_closeLanes (As : List Value) (u : dm_S) (Q : Option Value → dm_S → Prop) : Prop := match As with
  | [.ref 4, .int x] => ∃ (A : AN) (op : Nat → Bool) (lo ex : Nat → Int) (a : Nat), A.ok ∧ CR u A ∧ LN u A ∧ op_ok u A.K op ∧ u.2 24 = lF lo ∧ u.2 25 = lF ex ∧ a < A.M ∧ x = nI a ∧ lB (cl_tk A a op lo (A.pt a)) ∧
    ∀ u' : dm_S, cl_fr u u' → op_ok u' A.K (cl_op A a op (A.pt a)) → u'.2 24 = lF (cl_lo A a op lo (A.pt a)) → u'.2 25 = lF (fun v => ex v + (if A.fr a = v then cl_tk A a op lo (A.pt a) else 0) - (if A.tr a = v then cl_tk A a op lo (A.pt a) else 0)) → Q (some (.int (if 0 < cl_tk A a op lo (A.pt a) then 1 else 0))) u'
  | _ => False
def p_X7_closeLanes : List dm_I := [(0, .lconst 0, 1, []), (1, .lstore_n 2, 1, [2]), (2, .aload_n 0, 1, [0]), (3, .getfield 30, 3, []), (6, .getfield 72, 3, []), (9, .iload_n 1, 1, [1]), (10, .iaload, 1, []), (11, .istore 4, 2, []), (13, .iload 4, 2, []), (15, .aload_n 0, 1, [0]), (16, .getfield 30, 3, []), (19, .getfield 72, 3, []), (22, .iload_n 1, 1, [1]), (23, .iconst 1, 1, []), (24, .iadd, 1, []), (25, .iaload, 1, []), (26, .if_icmp .ge 51, 3, [77]), (29, .aload_n 0, 1, [0]), (30, .getfield 9, 3, []), (33, .iload 4, 2, []), (35, .baload, 1, []), (36, .ifCond .eq 35, 3, [71]), (39, .lload_n 2, 1, [2]), (40, .aload_n 0, 1, [0]), (41, .getfield 30, 3, []), (44, .getfield 75, 3, []), (47, .iload 4, 2, []), (49, .laload, 1, []), (50, .ladd, 1, []), (51, .lstore_n 2, 1, [2]), (52, .aload_n 0, 1, [0]), (53, .getfield 30, 3, []), (56, .getfield 75, 3, []), (59, .iload 4, 2, []), (61, .lconst 0, 1, []), (62, .lastore, 1, []), (63, .aload_n 0, 1, [0]), (64, .getfield 9, 3, []), (67, .iload 4, 2, []), (69, .iconst 0, 1, []), (70, .bastore, 1, []), (71, .iinc 4 1, 3, []), (74, .goto (-61), 3, [13]), (77, .aload_n 0, 1, [0]), (78, .getfield 30, 3, []), (81, .getfield 78, 3, []), (84, .aload_n 0, 1, [0]), (85, .getfield 26, 3, []), (88, .getfield 81, 3, []), (91, .iload_n 1, 1, [1]), (92, .iaload, 1, []), (93, .dup2, 1, []), (94, .laload, 1, []), (95, .lload_n 2, 1, [2]), (96, .ladd, 1, []), (97, .lastore, 1, []), (98, .aload_n 0, 1, [0]), (99, .getfield 30, 3, []), (102, .getfield 78, 3, []), (105, .aload_n 0, 1, [0]), (106, .getfield 26, 3, []), (109, .getfield 84, 3, []), (112, .iload_n 1, 1, [1]), (113, .iaload, 1, []), (114, .dup2, 1, []), (115, .laload, 1, []), (116, .lload_n 2, 1, [2]), (117, .lsub, 1, []), (118, .lastore, 1, []), (119, .lload_n 2, 1, [2]), (120, .lconst 0, 1, []), (121, .lcmp, 1, []), (122, .ifCond .le 7, 3, [129]), (125, .iconst 1, 1, []), (126, .goto 4, 3, [130]), (129, .iconst 0, 1, []), (130, .ireturn, 1, [])]
set_option maxRecDepth 100000 in
theorem v_X7_closeLanes : p_X7_closeLanes.all (dm_vb cX7_closeLanes) = true := by decide +kernel
def k_X7_closeLanes : dm_Sp := fun a => match a with
  | _ => fun _ _ _ => False
def x_X7_closeLanes : dm_X := dm_mk [(9, 7, 2), (26, 7, 0), (30, 7, 1), (72, 1, 1), (75, 1, 6), (78, 1, 7), (81, 2, 1), (84, 2, 2)] [] [] [] 3
set_option maxRecDepth 100000 in
set_option maxHeartbeats 800000 in
theorem u_X7_closeLanes : dm_Pure shC x_X7_closeLanes k_X7_closeLanes p_X7_closeLanes 5 sp_X7_closeLanes := by
  intro As u Qp h
  unfold sp_X7_closeLanes at h
  split at h
  · obtain ⟨A, op, lo, ex, a, hA, hC, hL, hO, e24, e25, ha, rfl, hB, h⟩ := h
    obtain ⟨hn, hM⟩ := hA.1
    have hK := A.K_le hA
    have hfs := AN.fs_le hA ha
    obtain ⟨⟨c1, c2⟩, -, c5, -⟩ := hC.2.2 a ha
    obtain ⟨⟨d1, d2, d3⟩, ⟨d4, d5⟩, -⟩ := hA.2.1 a ha
    have f1 := hL.1 a (by omega)
    have f2 : u.1 19 (a + 1) = nI (cn_fs A.pt a + A.pt a) := hL.1 (a + 1) (by omega)
    have ca : (nI a).toNatClampNeg = a := nI_clamp (by omega)
    have ca1 : (nI (a + 1)).toNatClampNeg = a + 1 := nI_clamp (by omega)
    have cf : (nI (A.fr a)).toNatClampNeg = A.fr a := nI_clamp (by omega)
    have ct : (nI (A.tr a)).toNatClampNeg = A.tr a := nI_clamp (by omega)
    refine ⟨Nat.le_of_ble_eq_true rfl, fun G Wp hW0 hW1 hG => ?_⟩
    have loop : ∀ k2 k : Nat, k + k2 = A.pt a → ∀ u' : dm_S, cl_fr u u' → op_ok u' A.K (cl_op A a op k) → u'.2 24 = lF (cl_lo A a op lo k) → u'.2 25 = lF ex → G 13 [some (.ref 4), some (.int (nI a)), some (.long (lI (cl_tk A a op lo k))), none, some (.int (nI (cn_fs A.pt a + k)))] [] u' := by
      intro k2
      induction k2 with
      | zero =>
        intro k hk u' a1 a2 a3 a4
        have e : k = A.pt a := by omega
        subst e
        apply hG (fun pc => pc == 13) 80
        simp (config := { maxSteps := 2000000 }) [-Prod.forall, -Prod.exists, -exists_and_left, -exists_and_right, hW0, hW1, dm_fn, dm_fd, dm_x, dm_L0, dm_la, dm_t1, dm_sw, List.headD, dm_ic, dm_mk, dm_s1, dm_s2, dm_clr, dm_cs, dm_cc, dm_nb0, dm_nb1, Value.category, List.lookup, p_X7_closeLanes, x_X7_closeLanes, k_X7_closeLanes, dm_cm, upd, vp_updL, dm_ui_1, dm_ui_2, dm_ul_1, dm_ul_2, sC_0, sC_1, sC_2, sC_3, sC_4, sC_5, sC_6, sC_7, sC_8, sC_9, sC_10, sC_11, sC_12, sC_13, sC_14, sC_15, sC_16, sC_17, sC_18, sC_19, sC_20, sC_21, sC_22, sC_23, sC_24, sC_25, sC_26, sC_27, sC_28, sC_29, sC_30, sC_31, sC_32, sC_33, sC_34, sC_35, sC_36, sC_37, sC_38, sC_39, sC_40, sC_41, sC_42, sC_43, sC_44, sC_45, sC_46, sC_47, sC_48, sC_49, sC_50, sC_51]
        rw [a1.1 19 (by decide), a1.1 12 (by decide), a1.1 13 (by decide), nI_1, ca1, ca, f2, c1, c2, cf, ct, a4, if_neg (Ne.symm d3), lF_at, lF_at, lI_add, lI_sub]
        have hst : dm_ul (dm_ul u' 25 (A.fr a) (lI (ex (A.fr a) + cl_tk A a op lo (A.pt a)))) 25 (A.tr a) (lI (ex (A.tr a) - cl_tk A a op lo (A.pt a))) = dm_sj u' 25 (lF (fun v => ex v + (if A.fr a = v then cl_tk A a op lo (A.pt a) else 0) - (if A.tr a = v then cl_tk A a op lo (A.pt a) else 0))) := by
          rw [dm_ul_sj, dm_ul_sj, a4, lF_upd, dm_sj_2s]
          show dm_sj u' 25 (vp_updL (lF (uI ex (A.fr a) (ex (A.fr a) + cl_tk A a op lo (A.pt a)))) (A.tr a) (lI (ex (A.tr a) - cl_tk A a op lo (A.pt a)))) = _
          rw [lF_upd]
          congr 2
          funext v
          unfold uI
          by_cases q1 : v = A.tr a
          · rw [if_pos q1, if_neg (by rw [q1]; exact d3), if_pos q1.symm, q1]; omega
          · rw [if_neg q1, if_neg (Ne.symm q1)]
            by_cases q2 : v = A.fr a
            · rw [if_pos q2, if_pos q2.symm, q2]; omega
            · rw [if_neg q2, if_neg (Ne.symm q2)]; omega
        rw [hst]
        have hq := h (dm_sj u' 25 (lF (fun v => ex v + (if A.fr a = v then cl_tk A a op lo (A.pt a) else 0) - (if A.tr a = v then cl_tk A a op lo (A.pt a) else 0)))) ⟨a1.1, fun c q1 q2 => by rw [dm_sj_2, if_neg q2]; exact a1.2 c q1 q2⟩ a2 a3 rfl
        have hB0 : lB 0 := by unfold lB; omega
        have h0 : (0 : Int64) = lI 0 := rfl
        refine ⟨vp_in_nI (by omega) (by omega), fun _ => ⟨vp_in_nI (by omega) (by omega), vp_in_nI (by omega) (by omega), vp_in_nI (by omega) (by omega), vp_in_nI (by omega) (by omega), fun z => ?_, fun z => ?_⟩, fun zq => absurd zq (nI_nlt (Nat.le_refl _) (by omega))⟩
        · rw [h0, lI_le hB hB0] at z
          rw [if_neg (by omega)] at hq; exact hq
        · rw [h0, lI_lt hB0 hB] at z
          rw [if_pos z] at hq; exact hq
      | succ k2 ih =>
        intro k hk u' a1 a2 a3 a4
        have hlk : cn_fs A.pt a + k < A.K := by omega
        have cl : (nI (cn_fs A.pt a + k)).toNatClampNeg = cn_fs A.pt a + k := nI_clamp (by omega)
        apply hG (fun pc => pc == 13) 80
        simp (config := { maxSteps := 2000000 }) [-Prod.forall, -Prod.exists, -exists_and_left, -exists_and_right, hW0, hW1, dm_fn, dm_fd, dm_x, dm_L0, dm_la, dm_t1, dm_sw, List.headD, dm_ic, dm_mk, dm_s1, dm_s2, dm_clr, dm_cs, dm_cc, dm_nb0, dm_nb1, Value.category, List.lookup, p_X7_closeLanes, x_X7_closeLanes, k_X7_closeLanes, dm_cm, upd, vp_updL, dm_ui_1, dm_ui_2, dm_ul_1, dm_ul_2, sC_0, sC_1, sC_2, sC_3, sC_4, sC_5, sC_6, sC_7, sC_8, sC_9, sC_10, sC_11, sC_12, sC_13, sC_14, sC_15, sC_16, sC_17, sC_18, sC_19, sC_20, sC_21, sC_22, sC_23, sC_24, sC_25, sC_26, sC_27, sC_28, sC_29, sC_30, sC_31, sC_32, sC_33, sC_34, sC_35, sC_36, sC_37, sC_38, sC_39, sC_40, sC_41, sC_42, sC_43, sC_44, sC_45, sC_46, sC_47, sC_48, sC_49, sC_50, sC_51]
        rw [a1.1 19 (by decide), nI_1, nI_1, ca1, f2, cl, a2 _ hlk, a3]
        have il : vp_in (nI (cn_fs A.pt a + k)) 320 := vp_in_nI (by omega) (by omega)
        have hop : cl_op A a op k (cn_fs A.pt a + k) = op (cn_fs A.pt a + k) := if_neg (by omega)
        have hlo : cl_lo A a op lo k (cn_fs A.pt a + k) = lo (cn_fs A.pt a + k) := if_neg (by omega)
        rw [hop, lF_at, hlo, lI_add]
        have ht : cl_tk A a op lo (k + 1) = cl_tk A a op lo k + (if op (cn_fs A.pt a + k) = true then lo (cn_fs A.pt a + k) else 0) := rfl
        have e := ih (k + 1) (by omega)
        refine ⟨vp_in_nI (by omega) (by omega), fun zq => absurd zq (nI_ge (by omega) (by omega)), fun zq => ⟨il, fun z => ?_, fun z => ⟨il, ?_⟩⟩⟩
        · have z1 : ¬ op (cn_fs A.pt a + k) = true := fun y => by rw [if_pos y] at z; cases z
          rw [if_neg z1, Int.add_zero] at ht
          have e2 := e u' a1 (fun l hl => ?_) ?_ a4
          · rw [ht] at e2; exact e2
          · rw [a2 l hl]
            congr 2
            unfold cl_op
            by_cases y : l = cn_fs A.pt a + k
            · rw [if_neg (by omega), y, if_pos (by omega)]
              simpa using z1
            · by_cases y2 : cn_fs A.pt a ≤ l ∧ l < cn_fs A.pt a + k
              · rw [if_pos y2, if_pos (by omega)]
              · rw [if_neg y2, if_neg (by omega)]
          · rw [a3]
            congr 1
            funext l
            unfold cl_lo
            by_cases y : l = cn_fs A.pt a + k
            · rw [if_neg (by omega), y, if_neg (fun y2 => z1 y2.2)]
            · by_cases y2 : (cn_fs A.pt a ≤ l ∧ l < cn_fs A.pt a + k) ∧ op l = true
              · rw [if_pos y2, if_pos ⟨by omega, y2.2⟩]
              · rw [if_neg y2, if_neg (fun y3 => y2 ⟨by omega, y3.2⟩)]
        · have z1 : op (cn_fs A.pt a + k) = true := by
            cases y : op (cn_fs A.pt a + k)
            · rw [y] at z; exact absurd rfl z
            · rfl
          rw [if_pos z1] at ht
          have e2 := e (dm_ui (dm_ul u' 24 (cn_fs A.pt a + k) 0) 32 (cn_fs A.pt a + k) 0) ⟨fun c hc => ?_, fun c q1 q2 => ?_⟩ (fun l hl => ?_) ?_ ?_
          · rw [ht] at e2; exact e2
          · rw [dm_ui_1, if_neg hc]; exact a1.1 c hc
          · rw [dm_ui_2, dm_ul_2, if_neg q1]; exact a1.2 c q1 q2
          · rw [dm_ui_1, if_pos rfl]
            by_cases y : l = cn_fs A.pt a + k
            · have e3 : cl_op A a op (k + 1) l = false := if_pos (by omega)
              rw [e3, y]
              unfold upd
              rw [if_pos rfl]; rfl
            · have e3 : cl_op A a op (k + 1) l = cl_op A a op k l := by
                unfold cl_op
                by_cases y2 : cn_fs A.pt a ≤ l ∧ l < cn_fs A.pt a + k
                · rw [if_pos y2, if_pos (by omega)]
                · rw [if_neg y2, if_neg (by omega)]
              rw [e3, ← a2 l hl]
              unfold upd
              rw [if_neg y]; rfl
          · rw [dm_ui_2, dm_ul_2, if_pos rfl, a3, show (0 : Int64) = lI 0 from rfl, lF_upd]
            congr 1
            funext l
            unfold uI cl_lo
            by_cases y : l = cn_fs A.pt a + k
            · rw [if_pos y, if_pos ⟨by omega, by rw [y]; exact z1⟩]
            · rw [if_neg y]
              by_cases y2 : (cn_fs A.pt a ≤ l ∧ l < cn_fs A.pt a + k) ∧ op l = true
              · rw [if_pos y2, if_pos ⟨by omega, y2.2⟩]
              · rw [if_neg y2, if_neg (fun y3 => y2 ⟨by omega, y3.2⟩)]
          · rw [dm_ui_2, dm_ul_2, if_neg (by decide)]; exact a4
    apply hG (fun pc => pc == 13) 80
    simp (config := { maxSteps := 2000000 }) [-Prod.forall, -Prod.exists, -exists_and_left, -exists_and_right, hW0, hW1, dm_fn, dm_fd, dm_x, dm_L0, dm_la, dm_t1, dm_sw, List.headD, dm_ic, dm_mk, dm_s1, dm_s2, dm_clr, dm_cs, dm_cc, dm_nb0, dm_nb1, Value.category, List.lookup, p_X7_closeLanes, x_X7_closeLanes, k_X7_closeLanes, dm_cm, upd, vp_updL, dm_ui_1, dm_ui_2, dm_ul_1, dm_ul_2, sC_0, sC_1, sC_2, sC_3, sC_4, sC_5, sC_6, sC_7, sC_8, sC_9, sC_10, sC_11, sC_12, sC_13, sC_14, sC_15, sC_16, sC_17, sC_18, sC_19, sC_20, sC_21, sC_22, sC_23, sC_24, sC_25, sC_26, sC_27, sC_28, sC_29, sC_30, sC_31, sC_32, sC_33, sC_34, sC_35, sC_36, sC_37, sC_38, sC_39, sC_40, sC_41, sC_42, sC_43, sC_44, sC_45, sC_46, sC_47, sC_48, sC_49, sC_50, sC_51]
    rw [ca, f1]
    refine ⟨vp_in_nI (by omega) (by omega), loop (A.pt a) 0 (by omega) u ⟨fun _ _ => rfl, fun _ _ _ => rfl⟩ (fun l hl => ?_) ?_ e25⟩
    · have e0 : cl_op A a op 0 l = op l := if_neg (by omega)
      rw [hO l hl, e0]
    · rw [e24]
      congr 1
      funext l
      unfold cl_lo
      rw [if_neg (by omega)]
  · exact h.elim
set_option maxRecDepth 100000 in
theorem t_X7_closeLanes (l : Launch) (D : va_G) (cA : Nat → ClassId) (ad : Nat → Nat) : dm_Met l D dm_cl cA ad shC yX7_closeLanes (Cond.code yX7_closeLanes cX7_closeLanes 5 (dm_rt 3) :: dm_tt) ({ frames := 0, cells := 0, slots := 0, locals := 0 } : Room) sp_X7_closeLanes := dm_meth (own := RX7) (X := x_X7_closeLanes) (Sp := k_X7_closeLanes) (prog := p_X7_closeLanes) (by decide +kernel) rfl rfl (dm_FO_s ffX7 [(9, 7, 2), (26, 7, 0), (30, 7, 1), (72, 1, 1), (75, 1, 6), (78, 1, 7), (81, 2, 1), (84, 2, 2)] rfl dm_hT (by decide +kernel)) (dm_IO_s ifX7 jfX7 [] [] rfl rfl dm_hT (by decide +kernel) (by decide +kernel)) soC (dm_MO_of (fun _ h => absurd h List.not_mem_nil)) v_X7_closeLanes u_X7_closeLanes
end
section
/-! ===== Router.putBack ===== -/
/-- what is left behind the first k lanes from p on; the loads then -/
def pbL (p : Nat) (mm lo : Nat → Int) (r : Int) : Nat → Int
  | 0 => r
  | k + 1 => pbL p mm lo r k - mn2 (pbL p mm lo r k) (mm (p + k) - lo (p + k))
def pbX (p : Nat) (mm lo : Nat → Int) (r : Int) (k : Nat) : Nat → Int := fun l => if p ≤ l ∧ l < p + k then lo l + mn2 (pbL p mm lo r (l - p)) (mm l - lo l) else lo l
theorem pbL_bd {p : Nat} {mm lo : Nat → Int} {r : Int} (hr : 0 ≤ r) : ∀ {k : Nat}, (∀ j, j < k → 0 ≤ mm (p + j) - lo (p + j)) → 0 ≤ pbL p mm lo r k ∧ pbL p mm lo r k ≤ r
  | 0, _ => ⟨hr, Int.le_refl _⟩
  | k + 1, h => by
    obtain ⟨h1, h2⟩ := pbL_bd (p := p) (mm := mm) (lo := lo) hr (k := k) (fun j hj => h j (by omega))
    have h3 := h k (by omega)
    show 0 ≤ pbL p mm lo r k - mn2 (pbL p mm lo r k) (mm (p + k) - lo (p + k)) ∧ pbL p mm lo r k - mn2 (pbL p mm lo r k) (mm (p + k) - lo (p + k)) ≤ r
    unfold mn2
    split <;> omega
def pbE (A : AN) (a : Nat) (ex : Nat → Int) (d : Int) : Nat → Int := fun v => ex v - (if A.fr a = v then d else 0) + (if A.tr a = v then d else 0)
def sp_X7_putBack (As : List Value) (u : dm_S) (Q : Option Value → dm_S → Prop) : Prop := match As with
  | [.ref 4, .int x] => ∃ (A : AN) (mm lo ex : Nat → Int) (a : Nat), A.ok ∧ CR u A ∧ LN u A ∧ u.2 22 = lF mm ∧ u.2 24 = lF lo ∧ u.2 25 = lF ex ∧ a < A.M ∧ x = nI a ∧ (0 ≤ ex (A.fr a) ∧ ex (A.fr a) ≤ 1152921504606846976) ∧ (∀ l, l < A.K → 0 ≤ mm l - lo l ∧ mm l - lo l ≤ 1152921504606846976) ∧
    Q none (st_x u (pbX (cn_fs A.pt a) mm lo (ex (A.fr a)) (A.pt a)) (pbE A a ex (ex (A.fr a) - pbL (cn_fs A.pt a) mm lo (ex (A.fr a)) (A.pt a))))
  | _ => False
def p_X7_putBack : List dm_I := [(0, .aload_n 0, 1, [0]), (1, .getfield 30, 3, []), (4, .getfield 72, 3, []), (7, .iload_n 1, 1, [1]), (8, .iaload, 1, []), (9, .istore_n 2, 1, [2]), (10, .iload_n 2, 1, [2]), (11, .aload_n 0, 1, [0]), (12, .getfield 30, 3, []), (15, .getfield 72, 3, []), (18, .iload_n 1, 1, [1]), (19, .iconst 1, 1, []), (20, .iadd, 1, []), (21, .iaload, 1, []), (22, .if_icmp .ge 51, 3, [73]), (25, .aload_n 0, 1, [0]), (26, .getfield 30, 3, []), (29, .getfield 78, 3, []), (32, .aload_n 0, 1, [0]), (33, .getfield 26, 3, []), (36, .getfield 81, 3, []), (39, .iload_n 1, 1, [1]), (40, .iaload, 1, []), (41, .laload, 1, []), (42, .lstore_n 3, 1, [3]), (43, .aload_n 0, 1, [0]), (44, .getfield 30, 3, []), (47, .iconst 2, 1, []), (48, .iload_n 2, 1, [2]), (49, .imul, 1, []), (50, .lload_n 3, 1, [3]), (51, .aload_n 0, 1, [0]), (52, .getfield 30, 3, []), (55, .iconst 2, 1, []), (56, .iload_n 2, 1, [2]), (57, .imul, 1, []), (58, .invokevirtual 87, 3, []), (61, .invokestatic 91, 3, []), (64, .invokevirtual 97, 3, []), (67, .iinc 2 1, 3, []), (70, .goto (-60), 3, [10]), (73, .return_, 1, [])]
set_option maxRecDepth 100000 in
theorem v_X7_putBack : p_X7_putBack.all (dm_vb cX7_putBack) = true := by decide +kernel
def k_X7_putBack : dm_Sp := fun a => match a with
  | 0 => sp_X1_roomOf
  | 1 => sp_J9_min_f86c9
  | 2 => sp_X1_push
  | _ => fun _ _ _ => False
def x_X7_putBack : dm_X := dm_mk [(26, 7, 0), (30, 7, 1), (72, 1, 1), (78, 1, 7), (81, 2, 1)] [] [] [(87, 0, 1, 1), (91, 1, 2, 1000), (97, 2, 2, 1)] 0
set_option maxRecDepth 100000 in
set_option maxHeartbeats 800000 in
theorem u_X7_putBack : dm_Pure shC x_X7_putBack k_X7_putBack p_X7_putBack 5 sp_X7_putBack := by
  intro As u Qp h
  unfold sp_X7_putBack at h
  split at h
  · obtain ⟨A, mm, lo, ex, a, hA, hC, hL, e22, e24, e25, ha, rfl, hr, hm, h⟩ := h
    obtain ⟨hn, hM⟩ := hA.1
    have hK := A.K_le hA
    have hfs := AN.fs_le hA ha
    obtain ⟨⟨c1, c2⟩, -, c5, -⟩ := hC.2.2 a ha
    obtain ⟨⟨d1, d2, d3⟩, ⟨d4, d5⟩, -⟩ := hA.2.1 a ha
    have f1 := hL.1 a (by omega)
    have f2 : u.1 19 (a + 1) = nI (cn_fs A.pt a + A.pt a) := hL.1 (a + 1) (by omega)
    have ca : (nI a).toNatClampNeg = a := nI_clamp (by omega)
    have ca1 : (nI (a + 1)).toNatClampNeg = a + 1 := nI_clamp (by omega)
    have cf : (nI (A.fr a)).toNatClampNeg = A.fr a := nI_clamp (by omega)
    generalize hr0 : ex (A.fr a) = r at *
    generalize hp : cn_fs A.pt a = p at *
    refine ⟨Nat.le_of_ble_eq_true rfl, fun G Wp hW0 hW1 hG => ?_⟩
    have loop : ∀ k2 k : Nat, k + k2 = A.pt a → ∀ (o3 o4 : Option Value), G 10 [some (.ref 4), some (.int (nI a)), some (.int (nI (p + k))), o3, o4] [] (st_x u (pbX p mm lo r k) (pbE A a ex (r - pbL p mm lo r k))) := by
      intro k2
      induction k2 with
      | zero =>
        intro k hk o3 o4
        have e : k = A.pt a := by omega
        subst e
        apply hG (fun pc => pc == 10) 60
        simp (config := { maxSteps := 2000000 }) [-Prod.forall, -Prod.exists, -exists_and_left, -exists_and_right, hW0, hW1, dm_fn, dm_fd, dm_x, dm_L0, dm_la, dm_t1, dm_sw, List.headD, dm_ic, dm_mk, dm_s1, dm_s2, dm_clr, dm_cs, dm_cc, dm_nb0, dm_nb1, Value.category, List.lookup, p_X7_putBack, x_X7_putBack, k_X7_putBack, dm_cm, upd, vp_updL, dm_ui_1, dm_ui_2, dm_ul_1, dm_ul_2, sp_X1_roomOf, sp_J9_min_f86c9, sp_X1_push, sC_0, sC_1, sC_2, sC_3, sC_4, sC_5, sC_6, sC_7, sC_8, sC_9, sC_10, sC_11, sC_12, sC_13, sC_14, sC_15, sC_16, sC_17, sC_18, sC_19, sC_20, sC_21, sC_22, sC_23, sC_24, sC_25, sC_26, sC_27, sC_28, sC_29, sC_30, sC_31, sC_32, sC_33, sC_34, sC_35, sC_36, sC_37, sC_38, sC_39, sC_40, sC_41, sC_42, sC_43, sC_44, sC_45, sC_46, sC_47, sC_48, sC_49, sC_50, sC_51]
        rw [st_x1, nI_1, ca1, f2]
        exact ⟨vp_in_nI (by omega) (by omega), fun _ => h, fun zq => absurd zq (nI_nlt (Nat.le_refl _) (by omega))⟩
      | succ k2 ih =>
        intro k hk o3 o4
        have hb := pbL_bd (p := p) (mm := mm) (lo := lo) hr.1 (k := k) (fun j hj => (hm (p + j) (by omega)).1)
        have hmk := hm (p + k) (by omega)
        apply hG (fun pc => pc == 10) 60
        simp (config := { maxSteps := 2000000 }) [-Prod.forall, -Prod.exists, -exists_and_left, -exists_and_right, hW0, hW1, dm_fn, dm_fd, dm_x, dm_L0, dm_la, dm_t1, dm_sw, List.headD, dm_ic, dm_mk, dm_s1, dm_s2, dm_clr, dm_cs, dm_cc, dm_nb0, dm_nb1, Value.category, List.lookup, p_X7_putBack, x_X7_putBack, k_X7_putBack, dm_cm, upd, vp_updL, dm_ui_1, dm_ui_2, dm_ul_1, dm_ul_2, sp_X1_roomOf, sp_J9_min_f86c9, sp_X1_push, sC_0, sC_1, sC_2, sC_3, sC_4, sC_5, sC_6, sC_7, sC_8, sC_9, sC_10, sC_11, sC_12, sC_13, sC_14, sC_15, sC_16, sC_17, sC_18, sC_19, sC_20, sC_21, sC_22, sC_23, sC_24, sC_25, sC_26, sC_27, sC_28, sC_29, sC_30, sC_31, sC_32, sC_33, sC_34, sC_35, sC_36, sC_37, sC_38, sC_39, sC_40, sC_41, sC_42, sC_43, sC_44, sC_45, sC_46, sC_47, sC_48, sC_49, sC_50, sC_51]
        have hxk : pbX p mm lo r k (p + k) = lo (p + k) := if_neg (by omega)
        have hlm : lw_m (st_x u (pbX p mm lo r k) (pbE A a ex (r - pbL p mm lo r k))) (2 * (p + k)) = lI (mm (p + k) - lo (p + k)) := by
          unfold lw_m
          rw [if_pos (by omega), st_x24, st_xo (by decide) (by decide), e22, show 2 * (p + k) / 2 = p + k by omega, lF_at, lF_at, hxk, lI_sub]
        have hpe : pbE A a ex (r - pbL p mm lo r k) (A.fr a) = pbL p mm lo r k := by
          unfold pbE
          rw [if_pos rfl, if_neg (Ne.symm d3), hr0]; omega
        rw [st_x1, nI_1, nI_1, ca1, ca, f2, c1, cf, st_x25, lF_at, hpe, show (2 : Int32) = nI 2 from rfl, pk_mul]
        obtain ⟨e1, l1⟩ := ln_b hL.2.1 (w := 2 * (p + k)) (by omega)
        obtain ⟨e2, l2⟩ := ln_e hL.2.1 (w := 2 * (p + k)) (by omega)
        refine ⟨vp_in_nI (by omega) (by omega), fun zq => absurd zq (nI_ge (by omega) (by omega)), fun zq => ⟨vp_in_nI (by omega) (by omega), vp_in_nI (by omega) (by omega), 2 * (p + k), by omega, rfl, 2 * (p + k), by omega, rfl, ?_, ?_, ?_⟩⟩
        · show vp_in (lw_b u _) 24
          rw [e1]; exact vp_in_nI (by omega) (by omega)
        · show vp_in (lw_e u _) 24
          rw [e2]; exact vp_in_nI (by omega) (by omega)
        · rw [hlm, lI_min (by unfold lB; omega) (by unfold lB; omega), ln_pu hL.2.1 (by omega)]
          obtain ⟨l1, l2, l3⟩ := A.l_at ha (show k < A.pt a by omega)
          rw [hp] at l1 l2 l3
          have hwb : wb A.b A.e (2 * (p + k)) = A.fr a := by
            unfold wb AN.b
            rw [if_pos (by omega), show 2 * (p + k) / 2 = p + k by omega, l2]
          have hwe : we A.b A.e (2 * (p + k)) = A.tr a := by
            unfold we AN.e
            rw [if_pos (by omega), show 2 * (p + k) / 2 = p + k by omega, l2]
          have hs1 : pX (2 * (p + k)) (if pbL p mm lo r k ≤ mm (p + k) - lo (p + k) then pbL p mm lo r k else mm (p + k) - lo (p + k)) (pbX p mm lo r k) = pbX p mm lo r (k + 1) := by
            funext l
            have hsg : sg (2 * (p + k)) = 1 := if_pos (by omega)
            unfold pX uI
            rw [show 2 * (p + k) / 2 = p + k by omega, hsg, hxk, Int.one_mul]
            by_cases y : l = p + k
            · have e9 : pbX p mm lo r (k + 1) (p + k) = lo (p + k) + mn2 (pbL p mm lo r k) (mm (p + k) - lo (p + k)) := by
                unfold pbX
                rw [if_pos (by omega), show p + k - p = k by omega]
              rw [if_pos y, y, e9]
              rfl
            · rw [if_neg y]
              unfold pbX
              by_cases y2 : p ≤ l ∧ l < p + k
              · rw [if_pos y2, if_pos (by omega)]
              · rw [if_neg y2, if_neg (by omega)]
          have hs2 : pE A.b A.e (2 * (p + k)) (if pbL p mm lo r k ≤ mm (p + k) - lo (p + k) then pbL p mm lo r k else mm (p + k) - lo (p + k)) (pbE A a ex (r - pbL p mm lo r k)) = pbE A a ex (r - pbL p mm lo r (k + 1)) := by
            funext v
            have hk1 : pbL p mm lo r (k + 1) = pbL p mm lo r k - (if pbL p mm lo r k ≤ mm (p + k) - lo (p + k) then pbL p mm lo r k else mm (p + k) - lo (p + k)) := rfl
            unfold pE pbE
            rw [hwb, hwe, hk1]
            generalize (if pbL p mm lo r k ≤ mm (p + k) - lo (p + k) then pbL p mm lo r k else mm (p + k) - lo (p + k)) = t
            split <;> split <;> omega
          rw [hs1, hs2]
          exact ih (k + 1) (by omega) _ _
    apply hG (fun pc => pc == 10) 60
    simp (config := { maxSteps := 2000000 }) [-Prod.forall, -Prod.exists, -exists_and_left, -exists_and_right, hW0, hW1, dm_fn, dm_fd, dm_x, dm_L0, dm_la, dm_t1, dm_sw, List.headD, dm_ic, dm_mk, dm_s1, dm_s2, dm_clr, dm_cs, dm_cc, dm_nb0, dm_nb1, Value.category, List.lookup, p_X7_putBack, x_X7_putBack, k_X7_putBack, dm_cm, upd, vp_updL, dm_ui_1, dm_ui_2, dm_ul_1, dm_ul_2, sp_X1_roomOf, sp_J9_min_f86c9, sp_X1_push, sC_0, sC_1, sC_2, sC_3, sC_4, sC_5, sC_6, sC_7, sC_8, sC_9, sC_10, sC_11, sC_12, sC_13, sC_14, sC_15, sC_16, sC_17, sC_18, sC_19, sC_20, sC_21, sC_22, sC_23, sC_24, sC_25, sC_26, sC_27, sC_28, sC_29, sC_30, sC_31, sC_32, sC_33, sC_34, sC_35, sC_36, sC_37, sC_38, sC_39, sC_40, sC_41, sC_42, sC_43, sC_44, sC_45, sC_46, sC_47, sC_48, sC_49, sC_50, sC_51]
    rw [ca, f1]
    refine ⟨vp_in_nI (by omega) (by omega), ?_⟩
    have e0 := loop (A.pt a) 0 (by omega) none none
    have e1 : pbX p mm lo r 0 = lo := by
      funext l
      exact if_neg (by omega)
    have e2 : pbE A a ex (r - pbL p mm lo r 0) = ex := by
      funext v
      unfold pbE
      show ex v - (if A.fr a = v then r - r else 0) + (if A.tr a = v then r - r else 0) = ex v
      split <;> split <;> omega
    rw [e1, e2, st_xs e24 e25] at e0
    exact e0
  · exact h.elim
set_option maxRecDepth 100000 in
theorem t_X7_putBack (l : Launch) (D : va_G) (cA : Nat → ClassId) (ad : Nat → Nat) : dm_Met l D dm_cl cA ad shC yX7_putBack (Cond.code yX7_putBack cX7_putBack 5 (dm_rt 0) :: dm_tt) ({ frames := 2, cells := 0, slots := 0, locals := 44 } : Room) sp_X7_putBack := dm_meth (own := RX7) (X := x_X7_putBack) (Sp := k_X7_putBack) (prog := p_X7_putBack) (by decide +kernel) rfl rfl (dm_FO_s ffX7 [(26, 7, 0), (30, 7, 1), (72, 1, 1), (78, 1, 7), (81, 2, 1)] rfl dm_hT (by decide +kernel)) (dm_IO_s ifX7 jfX7 [] [] rfl rfl dm_hT (by decide +kernel) (by decide +kernel)) soC (dm_MO_of (List.forall_mem_cons.mpr ⟨dm_M1_of (t_X1_roomOf l D cA ad) dm_hT (dm_mem [618, 68, 615] (by decide +kernel) (by decide +kernel)) (by decide) (by decide +kernel) (Or.inr ⟨by decide, dm_mem [616, 617] (by decide +kernel) (by decide +kernel), rfl⟩), List.forall_mem_cons.mpr ⟨dm_M1_of (t_J9_min_f86c9 l D cA ad) dm_hT (dm_mem [621, 79, 619] (by decide +kernel) (by decide +kernel)) (by decide) (by decide +kernel) (Or.inl ⟨rfl, dm_mem (ws := [.static yJ9_min_f86c9]) [620] (by decide +kernel) (by decide +kernel) _ List.mem_cons_self⟩), List.forall_mem_cons.mpr ⟨dm_M1_of (t_X1_push l D cA ad) dm_hT (dm_mem [629, 68, 819] (by decide +kernel) (by decide +kernel)) (by decide) (by decide +kernel) (Or.inr ⟨by decide, dm_mem [627, 628] (by decide +kernel) (by decide +kernel), rfl⟩), fun _ h => absurd h List.not_mem_nil⟩⟩⟩)) v_X7_putBack u_X7_putBack
end
section
/-! ===== of the flows of least cost the one with the least on arc 0, then on arc 1, and so on ===== -/
/-- flows that the prices p prove -/
def AN.opt (A : AN) (mm p y : Nat → Int) : Prop := fits A.K mm y ∧ bal A.n A.K A.b A.e A.s y ∧ pf A.K A.b A.e mm A.c p y
/-- none of them has less on an arc below a and the same on those before it -/
def AN.lex (A : AN) (mm p lo : Nat → Int) (a : Nat) : Prop := ∀ a', a' < a → ∀ y, A.opt mm p y → (∀ i, i < a' → A.am y i = A.am lo i) → A.am lo a' ≤ A.am y a'
def AN.tgt (A : AN) (p : Nat → Int) (l : Nat) : Bool := decide (rc A.b A.e A.c p l = 0)
def AN.opn (A : AN) (p : Nat → Int) (a l : Nat) : Bool := A.tgt p l && decide (a ≤ A.ar l)
theorem AN.rc_mono {A : AN} (hA : A.ok) {p : Nat → Int} {a k : Nat} (ha : a < A.M) : ∀ j, k + j < A.pt a → rc A.b A.e A.c p (cn_fs A.pt a + k) ≤ rc A.b A.e A.c p (cn_fs A.pt a + (k + j))
  | 0, _ => Int.le_refl _
  | j + 1, h => by
    have h1 := AN.rc_mono hA (p := p) (k := k) ha j (by omega)
    have h2 := ((hA.2.1 a ha).2.2.2.2.1 (k + j) (by omega)).2
    obtain ⟨_, e1, e2⟩ := A.l_at ha (show k + j < A.pt a by omega)
    obtain ⟨_, e3, e4⟩ := A.l_at ha (show k + (j + 1) < A.pt a by omega)
    have h3 : rc A.b A.e A.c p (cn_fs A.pt a + (k + j)) ≤ rc A.b A.e A.c p (cn_fs A.pt a + (k + (j + 1))) := by
      unfold rc AN.b AN.e AN.c
      rw [e1, e2, e3, e4, show 4 * a + (k + (j + 1)) = 4 * a + (k + j) + 1 by omega]
      omega
    omega
theorem AN.am_cg {A : AN} {x y : Nat → Int} {a : Nat} (h : ∀ k, k < A.pt a → x (cn_fs A.pt a + k) = y (cn_fs A.pt a + k)) : A.am x a = A.am y a := sI_cg h
theorem AN.am_le {A : AN} {x y : Nat → Int} {a : Nat} (h : ∀ k, k < A.pt a → x (cn_fs A.pt a + k) ≤ y (cn_fs A.pt a + k)) : A.am x a ≤ A.am y a := sI_le h
/-- nothing on an arc's tight lanes: no flow has less there -/
theorem AN.least0 {A : AN} {mm p x y : Nat → Int} {a : Nat} (ha : a < A.M) (hx : pf A.K A.b A.e mm A.c p x) (h0 : ∀ k, k < A.pt a → A.tgt p (cn_fs A.pt a + k) = true → x (cn_fs A.pt a + k) = 0) (hy : A.opt mm p y) : A.am x a ≤ A.am y a := by
  refine A.am_le (fun k hk => ?_)
  have hl := (A.l_at ha hk).1
  have hy1 := hy.1 _ hl
  have hy2 := hy.2.2 _ hl
  have hx2 := hx _ hl
  rcases Int.lt_trichotomy (rc A.b A.e A.c p (cn_fs A.pt a + k)) 0 with q | q | q
  · rw [hx2.1 q, hy2.1 q]; exact Int.le_refl _
  · rw [h0 k hk (decide_eq_true q)]; exact hy1.1
  · rw [hx2.2 q]; exact hy1.1
theorem pbL_eq {A : AN} (hA : A.ok) {mm p lo : Nat → Int} {r : Int} {a : Nat} (ha : a < A.M) (hm : ∀ l, l < A.K → 0 ≤ mm l) (hr : 0 ≤ r) (hlo : pf A.K A.b A.e mm A.c p lo) (h0 : ∀ k, k < A.pt a → A.tgt p (cn_fs A.pt a + k) = true → lo (cn_fs A.pt a + k) = 0) (hT : r ≤ sI (fun j => if A.tgt p (cn_fs A.pt a + j) then mm (cn_fs A.pt a + j) else 0) (A.pt a)) : ∀ k, k ≤ A.pt a → pbL (cn_fs A.pt a) mm lo r k = (if r ≤ sI (fun j => if A.tgt p (cn_fs A.pt a + j) then mm (cn_fs A.pt a + j) else 0) k then 0 else r - sI (fun j => if A.tgt p (cn_fs A.pt a + j) then mm (cn_fs A.pt a + j) else 0) k)
  | 0, _ => by
    show r = if r ≤ 0 then 0 else r - 0
    split <;> omega
  | k + 1, hk => by
    have ih := pbL_eq hA ha hm hr hlo h0 hT k (by omega)
    obtain ⟨hl, _, _⟩ := A.l_at ha (show k < A.pt a by omega)
    have hmk := hm _ hl
    have hlk := hlo _ hl
    show pbL (cn_fs A.pt a) mm lo r k - mn2 (pbL (cn_fs A.pt a) mm lo r k) (mm (cn_fs A.pt a + k) - lo (cn_fs A.pt a + k)) = if r ≤ sI (fun j => if A.tgt p (cn_fs A.pt a + j) then mm (cn_fs A.pt a + j) else 0) k + (if A.tgt p (cn_fs A.pt a + k) then mm (cn_fs A.pt a + k) else 0) then 0 else r - (sI (fun j => if A.tgt p (cn_fs A.pt a + j) then mm (cn_fs A.pt a + j) else 0) k + (if A.tgt p (cn_fs A.pt a + k) then mm (cn_fs A.pt a + k) else 0))
    rw [ih]
    have hT2 : 0 < rc A.b A.e A.c p (cn_fs A.pt a + k) → r ≤ sI (fun j => if A.tgt p (cn_fs A.pt a + j) then mm (cn_fs A.pt a + j) else 0) k := by
      intro q
      have e1 : sI (fun j => if A.tgt p (cn_fs A.pt a + j) then mm (cn_fs A.pt a + j) else 0) (A.pt a) = sI (fun j => if A.tgt p (cn_fs A.pt a + j) then mm (cn_fs A.pt a + j) else 0) k := by
        have e2 := sI_app (f := fun j => if A.tgt p (cn_fs A.pt a + j) then mm (cn_fs A.pt a + j) else 0) (i := k) (k := A.pt a - k)
        rw [show k + (A.pt a - k) = A.pt a by omega] at e2
        rw [e2]
        have e3 : sI (fun j => if A.tgt p (cn_fs A.pt a + (k + j)) then mm (cn_fs A.pt a + (k + j)) else 0) (A.pt a - k) = 0 := sI_0 (fun j hj => by
          have := AN.rc_mono hA (p := p) (k := k) ha j (by omega)
          show (if A.tgt p (cn_fs A.pt a + (k + j)) then mm (cn_fs A.pt a + (k + j)) else 0) = 0
          rw [if_neg]
          intro z
          have := of_decide_eq_true z
          omega)
        omega
      omega
    generalize sI (fun j => if A.tgt p (cn_fs A.pt a + j) then mm (cn_fs A.pt a + j) else 0) k = T at *
    rcases Int.lt_trichotomy (rc A.b A.e A.c p (cn_fs A.pt a + k)) 0 with q | q | q
    · have ht : (if A.tgt p (cn_fs A.pt a + k) = true then mm (cn_fs A.pt a + k) else 0) = 0 := if_neg (fun z => by have : rc A.b A.e A.c p (cn_fs A.pt a + k) = 0 := of_decide_eq_true z; omega)
      rw [hlk.1 q, ht]
      unfold mn2
      split <;> split <;> omega
    · have hz := h0 k (by omega) (decide_eq_true q)
      have ht : (if A.tgt p (cn_fs A.pt a + k) = true then mm (cn_fs A.pt a + k) else 0) = mm (cn_fs A.pt a + k) := if_pos (show A.tgt p (cn_fs A.pt a + k) = true from decide_eq_true q)
      rw [hz, ht]
      unfold mn2
      split <;> split <;> omega
    · have ht : (if A.tgt p (cn_fs A.pt a + k) = true then mm (cn_fs A.pt a + k) else 0) = 0 := if_neg (fun z => by have : rc A.b A.e A.c p (cn_fs A.pt a + k) = 0 := of_decide_eq_true z; omega)
      rw [hlk.2 q, ht, if_pos (hT2 q)]
      have := hT2 q
      unfold mn2
      split <;> split <;> omega
theorem pbX_sum {p : Nat} {mm lo : Nat → Int} {r : Int} : ∀ k, sI (fun j => mn2 (pbL p mm lo r j) (mm (p + j) - lo (p + j))) k = r - pbL p mm lo r k
  | 0 => by show (0 : Int) = r - r; omega
  | k + 1 => by
    have ih := pbX_sum (p := p) (mm := mm) (lo := lo) (r := r) k
    show sI (fun j => mn2 (pbL p mm lo r j) (mm (p + j) - lo (p + j))) k + mn2 (pbL p mm lo r k) (mm (p + k) - lo (p + k)) = r - (pbL p mm lo r k - mn2 (pbL p mm lo r k) (mm (p + k) - lo (p + k)))
    omega
/-- the least on arc a: by the cut of what a search saw -/
theorem AN.cut_lex {A : AN} (hA : A.ok) {mm p x y : Nat → Int} {a : Nat} {S : Nat → Bool} (ha : a < A.M) (hx : A.opt mm p x) (hy : A.opt mm p y) (hs : ∀ i, i < a → A.am y i = A.am x i) (s1 : S (A.fr a) = true) (s2 : S (A.tr a) = false) (hout : ∀ l, l < A.K → a < A.ar l → A.tgt p l = true → S (A.b l) = true → S (A.e l) = false → x l = mm l) (hin : ∀ l, l < A.K → a < A.ar l → A.tgt p l = true → S (A.b l) = false → S (A.e l) = true → x l = 0) : A.am x a ≤ A.am y a := by
  have hnA : ∀ i, i < A.M → A.fr i < A.n ∧ A.tr i < A.n := fun i hi => ⟨(hA.2.1 i hi).1.1, (hA.2.1 i hi).1.2.1⟩
  have hsum : ∀ z, bal A.n A.K A.b A.e A.s z → sI (fun i => A.am z i * (ind S (A.fr i) - ind S (A.tr i))) A.M = sI (fun v => ind S v * A.s v) A.n := by
    intro z hz
    rw [← dv_sbp hnA]
    refine sI_cg (fun v hv => ?_)
    show ind S v * dv A.M A.fr A.tr (A.am z) v = ind S v * A.s v
    rw [← A.dv_am, hz v hv]
  have e1 := hsum x hx.2.1
  have e2 := hsum y hy.2.1
  have hl : ∀ i, i < A.M → i ≠ a → A.am y i * (ind S (A.fr i) - ind S (A.tr i)) ≤ A.am x i * (ind S (A.fr i) - ind S (A.tr i)) := by
    intro i hi hne
    rcases Nat.lt_or_ge i a with q | q
    · rw [hs i q]; exact Int.le_refl _
    · have q2 : a < i := by omega
      cases eb : S (A.fr i) <;> cases ee : S (A.tr i)
      · rw [ind_f eb, ind_f ee]; simp
      · rw [ind_f eb, ind_t ee]
        have : A.am x i ≤ A.am y i := A.am_le (fun k hk => by
          obtain ⟨g1, g2, g3⟩ := A.l_at hi hk
          have y1 := hy.1 _ g1
          have y2 := hy.2.2 _ g1
          have x2 := hx.2.2 _ g1
          rcases Int.lt_trichotomy (rc A.b A.e A.c p (cn_fs A.pt i + k)) 0 with z | z | z
          · rw [x2.1 z, y2.1 z]; exact Int.le_refl _
          · rw [hin _ g1 (by rw [g2]; exact q2) (decide_eq_true z) (by unfold AN.b; rw [g2]; exact eb) (by unfold AN.e; rw [g2]; exact ee)]
            exact y1.1
          · rw [x2.2 z]; exact y1.1)
        omega
      · rw [ind_t eb, ind_f ee]
        have : A.am y i ≤ A.am x i := A.am_le (fun k hk => by
          obtain ⟨g1, g2, g3⟩ := A.l_at hi hk
          have y1 := hy.1 _ g1
          have y2 := hy.2.2 _ g1
          have x2 := hx.2.2 _ g1
          have x1 := hx.1 _ g1
          rcases Int.lt_trichotomy (rc A.b A.e A.c p (cn_fs A.pt i + k)) 0 with z | z | z
          · rw [x2.1 z, y2.1 z]; exact Int.le_refl _
          · rw [hout _ g1 (by rw [g2]; exact q2) (decide_eq_true z) (by unfold AN.b; rw [g2]; exact eb) (by unfold AN.e; rw [g2]; exact ee)]
            exact y1.2
          · rw [y2.2 z]; exact x1.1)
        omega
      · rw [ind_t eb, ind_t ee]; simp
  rcases Int.lt_or_le (A.am y a) (A.am x a) with q | q
  · exfalso
    have hall : ∀ i, i < A.M → A.am y i * (ind S (A.fr i) - ind S (A.tr i)) ≤ A.am x i * (ind S (A.fr i) - ind S (A.tr i)) := by
      intro i hi
      by_cases z : i = a
      · rw [z, ind_t s1, ind_f s2]; omega
      · exact hl i hi z
    have := sI_eq hall (by omega) a ha
    rw [ind_t s1, ind_f s2] at this
    omega
  · exact q
end
section
/-! ===== one arc lessened ===== -/
theorem AN.in_ar {A : AN} {a l : Nat} (ha : a < A.M) (hl : l < A.K) : (cn_fs A.pt a ≤ l ∧ l < cn_fs A.pt a + A.pt a) ↔ A.ar l = a := by
  constructor
  · rintro ⟨h1, h2⟩
    have := (A.l_at ha (show l - cn_fs A.pt a < A.pt a by omega)).2.1
    rw [show cn_fs A.pt a + (l - cn_fs A.pt a) = l by omega] at this
    exact this
  · intro h
    obtain ⟨h1, k, h2, h3, h4⟩ := A.l_in hl
    rw [h] at h2 h3
    omega
theorem AN.am_ne {A : AN} {x y : Nat → Int} {i : Nat} (hi : i < A.M) (h : ∀ l, l < A.K → A.ar l = i → x l = y l) : A.am x i = A.am y i := A.am_cg (fun k hk => by
  obtain ⟨h1, h2, h3⟩ := A.l_at hi hk
  exact h _ h1 h2)
theorem dv_tot {n K : Nat} {b e : Nat → Nat} {x : Nat → Int} (hb : ∀ l, l < K → b l < n ∧ e l < n) : sI (fun v => dv K b e x v) n = 0 := by
  have h := dv_sbp (p := fun _ => 1) (x := x) hb
  have h2 : sI (fun v => (fun _ => (1 : Int)) v * dv K b e x v) n = sI (fun v => dv K b e x v) n := sI_cg (fun v _ => by show (1 : Int) * _ = _; omega)
  rw [h2] at h
  rw [h]
  exact sI_0 (fun l _ => by show x l * (1 - 1) = 0; omega)
/-- one arc's amount changed by d -/
theorem AN.dv_one {A : AN} {x y : Nat → Int} {a v : Nat} {d : Int} (ha : a < A.M) (h1 : ∀ l, l < A.K → A.ar l ≠ a → y l = x l) (h2 : A.am y a = A.am x a + d) : dv A.K A.b A.e y v = dv A.K A.b A.e x v + ((if A.fr a = v then d else 0) - (if A.tr a = v then d else 0)) := by
  rw [A.dv_am, A.dv_am]
  have h3 : dv A.M A.fr A.tr (A.am y) v = dv A.M A.fr A.tr (uI (A.am x) a (A.am x a + d)) v := dv_cg (fun i hi => by
    unfold uI
    by_cases q : i = a
    · rw [if_pos q, q]; exact h2
    · rw [if_neg q]
      exact A.am_ne hi (fun l hl e => h1 l hl (by rw [e]; exact q)))
  rw [h3, dv_upd ha]
theorem mn2_0 {a b : Int} (ha : 0 ≤ a) (hb : 0 ≤ b) : 0 ≤ mn2 a b := by
  unfold mn2; split <;> omega
/-- what is taken off arc a -/
theorem AN.cl_facts {A : AN} (hA : A.ok) {mm p lo : Nat → Int} {a : Nat} (ha : a < A.M) (hx : A.opt mm p lo) : (∀ l, l < A.K → cl_op A a (A.opn p a) (A.pt a) l = A.opn p (a + 1) l) ∧ (∀ l, l < A.K → A.ar l = a → A.tgt p l = true → cl_lo A a (A.opn p a) lo (A.pt a) l = 0) ∧ (∀ l, l < A.K → ¬ (A.ar l = a ∧ A.tgt p l = true) → cl_lo A a (A.opn p a) lo (A.pt a) l = lo l) ∧ A.am lo a = A.am (cl_lo A a (A.opn p a) lo (A.pt a)) a + cl_tk A a (A.opn p a) lo (A.pt a) ∧ 0 ≤ cl_tk A a (A.opn p a) lo (A.pt a) ∧ cl_tk A a (A.opn p a) lo (A.pt a) ≤ sI (fun j => if A.tgt p (cn_fs A.pt a + j) then mm (cn_fs A.pt a + j) else 0) (A.pt a) ∧ (cl_tk A a (A.opn p a) lo (A.pt a) = 0 → ∀ l, l < A.K → A.ar l = a → A.tgt p l = true → lo l = 0) := by
  have hop : ∀ k, k < A.pt a → A.opn p a (cn_fs A.pt a + k) = A.tgt p (cn_fs A.pt a + k) := by
    intro k hk
    unfold AN.opn
    rw [(A.l_at ha hk).2.1]
    simp
  have htk : cl_tk A a (A.opn p a) lo (A.pt a) = sI (fun j => if A.tgt p (cn_fs A.pt a + j) then lo (cn_fs A.pt a + j) else 0) (A.pt a) := sI_cg (fun k hk => by
    show (if A.opn p a (cn_fs A.pt a + k) = true then lo (cn_fs A.pt a + k) else 0) = _
    rw [hop k hk])
  have hnn : ∀ k, k < A.pt a → 0 ≤ (if A.tgt p (cn_fs A.pt a + k) then lo (cn_fs A.pt a + k) else 0) := by
    intro k hk
    have := hx.1 _ (A.l_at ha hk).1
    split <;> omega
  refine ⟨fun l hl => ?_, fun l hl e1 e2 => ?_, fun l hl e1 => ?_, ?_, ?_, ?_, fun h0 l hl e1 e2 => ?_⟩
  · unfold cl_op
    by_cases q : A.ar l = a
    · rw [if_pos ((A.in_ar ha hl).mpr q)]
      unfold AN.opn
      rw [q]
      simp
    · rw [if_neg (fun z => q ((A.in_ar ha hl).mp z))]
      unfold AN.opn
      congr 1
      exact decide_eq_decide.mpr (by omega)
  · unfold cl_lo
    rw [if_pos ⟨(A.in_ar ha hl).mpr e1, by unfold AN.opn; rw [e1, e2]; simp⟩]
  · unfold cl_lo
    rw [if_neg]
    rintro ⟨z1, z2⟩
    unfold AN.opn at z2
    simp only [Bool.and_eq_true] at z2
    exact e1 ⟨(A.in_ar ha hl).mp z1, z2.1⟩
  · rw [htk]
    unfold AN.am
    rw [← sI_add]
    refine sI_cg (fun k hk => ?_)
    show lo (cn_fs A.pt a + k) = cl_lo A a (A.opn p a) lo (A.pt a) (cn_fs A.pt a + k) + (if A.tgt p (cn_fs A.pt a + k) then lo (cn_fs A.pt a + k) else 0)
    unfold cl_lo
    rw [hop k hk]
    by_cases q : A.tgt p (cn_fs A.pt a + k) = true
    · rw [if_pos ⟨by omega, q⟩, if_pos q]; omega
    · rw [if_neg (fun z => q z.2), if_neg q]; omega
  · rw [htk]; exact sI_ge0 hnn
  · rw [htk]
    refine sI_le (fun k hk => ?_)
    show (if A.tgt p (cn_fs A.pt a + k) then lo (cn_fs A.pt a + k) else 0) ≤ if A.tgt p (cn_fs A.pt a + k) then mm (cn_fs A.pt a + k) else 0
    have := hx.1 _ (A.l_at ha hk).1
    split <;> omega
  · obtain ⟨g1, k, g2, g3, g4⟩ := A.l_in hl
    rw [e1] at g2 g3
    rw [htk] at h0
    have h5 := sI_term hnn g2
    have h6 := hnn k g2
    have h7 : (if A.tgt p (cn_fs A.pt a + k) then lo (cn_fs A.pt a + k) else 0) = lo l := by rw [← g3, if_pos e2]
    have h8 : (if A.tgt p (cn_fs A.pt a + k) then lo (cn_fs A.pt a + k) else 0) ≤ sI (fun j => if A.tgt p (cn_fs A.pt a + j) then lo (cn_fs A.pt a + j) else 0) (A.pt a) := h5
    omega
theorem AN.lex_zero {A : AN} (hA : A.ok) {mm p lo : Nat → Int} {a : Nat} (ha : a < A.M) (hx : A.opt mm p lo) (hlex : A.lex mm p lo a) (h0 : cl_tk A a (A.opn p a) lo (A.pt a) = 0) : A.opt mm p (cl_lo A a (A.opn p a) lo (A.pt a)) ∧ A.lex mm p (cl_lo A a (A.opn p a) lo (A.pt a)) (a + 1) := by
  obtain ⟨f1, f2, f3, f4, f5, f6, f7⟩ := A.cl_facts hA ha hx
  have he : ∀ l, l < A.K → cl_lo A a (A.opn p a) lo (A.pt a) l = lo l := by
    intro l hl
    by_cases q : A.ar l = a ∧ A.tgt p l = true
    · rw [f2 l hl q.1 q.2, f7 h0 l hl q.1 q.2]
    · exact f3 l hl q
  have ham : ∀ i, i < A.M → A.am (cl_lo A a (A.opn p a) lo (A.pt a)) i = A.am lo i := fun i hi => A.am_ne hi (fun l hl _ => he l hl)
  have hpf : pf A.K A.b A.e mm A.c p (cl_lo A a (A.opn p a) lo (A.pt a)) := fun l hl => by rw [he l hl]; exact hx.2.2 l hl
  refine ⟨⟨fun l hl => by rw [he l hl]; exact hx.1 l hl, fun v hv => by rw [dv_cg he]; exact hx.2.1 v hv, hpf⟩, fun a' ha' y hy hs => ?_⟩
  rcases Nat.lt_or_ge a' a with q | q
  · rw [ham a' (by omega)]
    exact hlex a' q y hy (fun i hi => by rw [hs i hi, ham i (by omega)])
  · have e1 : a' = a := by omega
    subst e1
    exact A.least0 ha hpf (fun k hk ht => by
      obtain ⟨g1, g2, g3⟩ := A.l_at ha hk
      exact f2 _ g1 g2 ht) hy
theorem pbL_0 {A : AN} (hA : A.ok) {mm p lo : Nat → Int} {r : Int} {a : Nat} (ha : a < A.M) (hm : ∀ l, l < A.K → 0 ≤ mm l) (hr : 0 ≤ r) (hlo : pf A.K A.b A.e mm A.c p lo) (h0 : ∀ k, k < A.pt a → A.tgt p (cn_fs A.pt a + k) = true → lo (cn_fs A.pt a + k) = 0) (hT : r ≤ sI (fun j => if A.tgt p (cn_fs A.pt a + j) then mm (cn_fs A.pt a + j) else 0) (A.pt a)) {k : Nat} (hk : k < A.pt a) (q : 0 < rc A.b A.e A.c p (cn_fs A.pt a + k)) : pbL (cn_fs A.pt a) mm lo r k = 0 := by
  rw [pbL_eq hA ha hm hr hlo h0 hT k (by omega), if_pos]
  have e2 := sI_app (f := fun j => if A.tgt p (cn_fs A.pt a + j) then mm (cn_fs A.pt a + j) else 0) (i := k) (k := A.pt a - k)
  rw [show k + (A.pt a - k) = A.pt a by omega] at e2
  have e3 : sI (fun j => if A.tgt p (cn_fs A.pt a + (k + j)) then mm (cn_fs A.pt a + (k + j)) else 0) (A.pt a - k) = 0 := sI_0 (fun j hj => by
    have := AN.rc_mono hA (p := p) (k := k) ha j (by omega)
    show (if A.tgt p (cn_fs A.pt a + (k + j)) then mm (cn_fs A.pt a + (k + j)) else 0) = 0
    rw [if_neg]
    intro z
    have : rc A.b A.e A.c p (cn_fs A.pt a + (k + j)) = 0 := of_decide_eq_true z
    omega)
  omega
end
section
/-! ===== one arc lessened: what could go elsewhere has gone ===== -/
theorem AN.lex_send {A : AN} (hA : A.ok) {mm p lo ex1 lo2 ex2 : Nat → Int} {a : Nat} {vn : Nat → Option (Option Nat)} {lev : Nat → Nat} {car : Nat → Int} {q : Nat → Nat} {m : Nat} (ha : a < A.M) (hm : ∀ l, l < A.K → 0 ≤ mm l) (hx : A.opt mm p lo) (hlex : A.lex mm p lo a) (he1 : ∀ v, v < A.n → ex1 v = (if A.fr a = v then cl_tk A a (A.opn p a) lo (A.pt a) else 0) - (if A.tr a = v then cl_tk A a (A.opn p a) lo (A.pt a) else 0)) (hs : snt A.n A.K A.b A.e (A.opn p (a + 1)) mm (cl_lo A a (A.opn p a) lo (A.pt a)) ex1 lo2 ex2) (h : bfI A.n A.K A.b A.e (A.opn p (a + 1)) mm lo2 ex2 vn lev car q m) (hX : bfX A.K A.b A.e (A.opn p (a + 1)) mm lo2 ex2 vn lev q m) (hS : bfS A.n ex2 vn) : (0 ≤ ex2 (A.fr a) ∧ ex2 (A.fr a) ≤ cl_tk A a (A.opn p a) lo (A.pt a)) ∧ A.opt mm p (pbX (cn_fs A.pt a) mm lo2 (ex2 (A.fr a)) (A.pt a)) ∧ A.lex mm p (pbX (cn_fs A.pt a) mm lo2 (ex2 (A.fr a)) (A.pt a)) (a + 1) ∧ ∀ v, v < A.n → pbE A a ex2 (ex2 (A.fr a) - pbL (cn_fs A.pt a) mm lo2 (ex2 (A.fr a)) (A.pt a)) v = 0 := by
  obtain ⟨f1, f2, f3, f4, f5, f6, f7⟩ := A.cl_facts hA ha hx
  generalize ht : cl_tk A a (A.opn p a) lo (A.pt a) = t at *
  generalize hl1 : cl_lo A a (A.opn p a) lo (A.pt a) = lo1 at *
  obtain ⟨⟨d1, d2, d3⟩, ⟨d4, d5⟩, -⟩ := hA.2.1 a ha
  have hnd := AN.nd hA
  obtain ⟨s1, s2, s3, s4, s5⟩ := hs
  have hfr := s4 _ d1
  have htr := s4 _ d2
  rw [he1 _ d1, if_pos rfl, if_neg (Ne.symm d3)] at hfr
  rw [he1 _ d2, if_neg d3, if_pos rfl] at htr
  have hr0 : 0 ≤ ex2 (A.fr a) ∧ ex2 (A.fr a) ≤ t := by
    have := hfr.1 (by omega); omega
  have hother : ∀ v, v < A.n → v ≠ A.fr a → v ≠ A.tr a → ex2 v = 0 := by
    intro v hv n1 n2
    have := s4 v hv
    rw [he1 v hv, if_neg (Ne.symm n1), if_neg (Ne.symm n2)] at this
    have := this.1 (by omega)
    omega
  have htot : ex2 (A.tr a) = -ex2 (A.fr a) := by
    have e1 : sI ex2 A.n = sI ex1 A.n := by
      have g1 := dv_tot (x := lo2) hnd
      have g2 := dv_tot (x := lo1) hnd
      have g3 : sI (fun v => ex2 v + dv A.K A.b A.e lo2 v) A.n = sI (fun v => ex1 v + dv A.K A.b A.e lo1 v) A.n := sI_cg s2
      rw [sI_add, sI_add, g1, g2] at g3
      omega
    have e2 : sI ex1 A.n = 0 := by
      have g1 : sI ex1 A.n = sI (fun v => (if v = A.fr a then t else 0) - (if v = A.tr a then t else 0)) A.n := sI_cg (fun v hv => by
        rw [he1 v hv]
        congr 1
        · by_cases z : A.fr a = v
          · rw [if_pos z, if_pos z.symm]
          · rw [if_neg z, if_neg (Ne.symm z)]
        · by_cases z : A.tr a = v
          · rw [if_pos z, if_pos z.symm]
          · rw [if_neg z, if_neg (Ne.symm z)])
      rw [g1, sI_sub, sI_one, sI_one, if_pos d1, if_pos d2]; omega
    have e3 : sI ex2 A.n = sI (fun v => (if v = A.fr a then ex2 (A.fr a) else 0) + (if v = A.tr a then ex2 (A.tr a) else 0)) A.n := sI_cg (fun v hv => by
      show ex2 v = (if v = A.fr a then ex2 (A.fr a) else 0) + (if v = A.tr a then ex2 (A.tr a) else 0)
      by_cases z1 : v = A.fr a
      · rw [if_pos z1, if_neg (by rw [z1]; exact d3), z1]; omega
      · rw [if_neg z1]
        by_cases z2 : v = A.tr a
        · rw [if_pos z2, z2]; omega
        · rw [if_neg z2, hother v hv z1 z2]; omega)
    rw [e3, sI_add, sI_one, sI_one, if_pos d1, if_pos d2] at e1
    omega
  generalize hr : ex2 (A.fr a) = r at *
  have hop : ∀ l, l < A.K → A.opn p (a + 1) l = false → lo2 l = lo1 l := s3
  have hlow : ∀ l, l < A.K → A.ar l ≤ a → lo2 l = lo1 l := fun l hl z => hop l hl (by unfold AN.opn; simp; intro; omega)
  have hnt : ∀ l, l < A.K → A.tgt p l = false → lo2 l = lo l := fun l hl z => by
    rw [hop l hl (by unfold AN.opn; rw [z]; rfl), f3 l hl (fun y => by rw [z] at y; cases y.2)]
  have hpf2 : pf A.K A.b A.e mm A.c p lo2 := by
    intro l hl
    have := hx.2.2 l hl
    refine ⟨fun z => ?_, fun z => ?_⟩
    · rw [hnt l hl (decide_eq_false (by omega))]; exact this.1 z
    · rw [hnt l hl (decide_eq_false (by omega))]; exact this.2 z
  have hz2 : ∀ k, k < A.pt a → A.tgt p (cn_fs A.pt a + k) = true → lo2 (cn_fs A.pt a + k) = 0 := by
    intro k hk hq
    obtain ⟨g1, g2, g3⟩ := A.l_at ha hk
    rw [hlow _ g1 (by omega), f2 _ g1 g2 hq]
  have hT : r ≤ sI (fun j => if A.tgt p (cn_fs A.pt a + j) then mm (cn_fs A.pt a + j) else 0) (A.pt a) := by omega
  have hpb := pbL_eq hA ha hm hr0.1 hpf2 hz2 hT
  have hpb0 : pbL (cn_fs A.pt a) mm lo2 r (A.pt a) = 0 := by rw [hpb _ (Nat.le_refl _), if_pos hT]
  have hpbn : ∀ k, k ≤ A.pt a → 0 ≤ pbL (cn_fs A.pt a) mm lo2 r k := fun k hk => (pbL_bd hr0.1 (fun j hj => by
    have := s1 _ (A.l_at ha (show j < A.pt a by omega)).1; omega)).1
  have hX3 : ∀ l, l < A.K → A.ar l ≠ a → pbX (cn_fs A.pt a) mm lo2 r (A.pt a) l = lo2 l := fun l hl z => if_neg (fun y => z ((A.in_ar ha hl).mp y))
  have hX4 : ∀ k, k < A.pt a → pbX (cn_fs A.pt a) mm lo2 r (A.pt a) (cn_fs A.pt a + k) = lo2 (cn_fs A.pt a + k) + mn2 (pbL (cn_fs A.pt a) mm lo2 r k) (mm (cn_fs A.pt a + k) - lo2 (cn_fs A.pt a + k)) := by
    intro k hk
    unfold pbX
    rw [if_pos (by omega), show cn_fs A.pt a + k - cn_fs A.pt a = k by omega]
  have hin : ∀ l, l < A.K → A.ar l = a → ∃ k, k < A.pt a ∧ l = cn_fs A.pt a + k := by
    intro l hl z
    obtain ⟨g1, k, g2, g3, g4⟩ := A.l_in hl
    rw [z] at g2 g3
    exact ⟨k, g2, g3⟩
  have hft : fits A.K mm (pbX (cn_fs A.pt a) mm lo2 r (A.pt a)) := by
    intro l hl
    have hs1 := s1 l hl
    by_cases z : A.ar l = a
    · obtain ⟨k, hk, e1⟩ := hin l hl z
      subst e1
      rw [hX4 k hk]
      have := hpbn k (by omega)
      have h9 := mn2_0 (a := pbL (cn_fs A.pt a) mm lo2 r k) (b := mm (cn_fs A.pt a + k) - lo2 (cn_fs A.pt a + k)) this (by omega)
      have h10 := (mn2_le (a := pbL (cn_fs A.pt a) mm lo2 r k) (b := mm (cn_fs A.pt a + k) - lo2 (cn_fs A.pt a + k))).2.1
      omega
    · rw [hX3 l hl z]; exact hs1
  have hpf3 : pf A.K A.b A.e mm A.c p (pbX (cn_fs A.pt a) mm lo2 r (A.pt a)) := by
    intro l hl
    have hs1 := s1 l hl
    have hp2 := hpf2 l hl
    by_cases z : A.ar l = a
    · obtain ⟨k, hk, e1⟩ := hin l hl z
      subst e1
      rw [hX4 k hk]
      have := hpbn k (by omega)
      refine ⟨fun y => ?_, fun y => ?_⟩
      · rw [hp2.1 y]
        unfold mn2
        split <;> omega
      · rw [hp2.2 y, pbL_0 hA ha hm hr0.1 hpf2 hz2 hT hk y]
        unfold mn2
        have := hm _ hl
        rw [if_pos (by omega)]; omega
    · rw [hX3 l hl z]; exact hp2
  have ham3 : A.am (pbX (cn_fs A.pt a) mm lo2 r (A.pt a)) a = A.am lo2 a + r := by
    have e1 : A.am (pbX (cn_fs A.pt a) mm lo2 r (A.pt a)) a = sI (fun k => lo2 (cn_fs A.pt a + k) + mn2 (pbL (cn_fs A.pt a) mm lo2 r k) (mm (cn_fs A.pt a + k) - lo2 (cn_fs A.pt a + k))) (A.pt a) := sI_cg hX4
    rw [e1, sI_add, pbX_sum, hpb0]
    show A.am lo2 a + (r - 0) = _
    omega
  have ham1 : A.am lo1 a = A.am lo a + (-t) := by omega
  have hbal : bal A.n A.K A.b A.e A.s (pbX (cn_fs A.pt a) mm lo2 r (A.pt a)) := by
    intro v hv
    rw [A.dv_one ha hX3 ham3]
    have g1 := s2 v hv
    have g2 := A.dv_one (x := lo) (y := lo1) (v := v) ha (fun l hl z => f3 l hl (fun y => z y.1)) ham1
    have g3 := hx.2.1 v hv
    rw [he1 v hv] at g1
    have g4 : ex2 v = (if A.fr a = v then r else 0) - (if A.tr a = v then r else 0) := by
      by_cases z1 : A.fr a = v
      · subst z1
        rw [if_pos rfl, if_neg (Ne.symm d3), hr]; omega
      · rw [if_neg z1]
        by_cases z2 : A.tr a = v
        · subst z2
          rw [if_pos rfl, htot]; omega
        · rw [if_neg z2, hother v hv (Ne.symm z1) (Ne.symm z2)]; omega
    rw [g4] at g1
    by_cases z1 : A.fr a = v
    · have z2 : ¬ A.tr a = v := fun z => d3 (z1.trans z.symm)
      simp only [if_pos z1, if_neg z2] at g1 g2 ⊢
      omega
    · by_cases z2 : A.tr a = v
      · simp only [if_neg z1, if_pos z2] at g1 g2 ⊢
        omega
      · simp only [if_neg z1, if_neg z2] at g1 g2 ⊢
        omega
  have hopt : A.opt mm p (pbX (cn_fs A.pt a) mm lo2 r (A.pt a)) := ⟨hft, hbal, hpf3⟩
  have hamlo : ∀ i, i < a → A.am (pbX (cn_fs A.pt a) mm lo2 r (A.pt a)) i = A.am lo i := fun i hi => A.am_ne (by omega) (fun l hl e1 => by
    rw [hX3 l hl (by omega), hlow l hl (by omega), f3 l hl (fun y => by omega)])
  refine ⟨hr0, hopt, fun a' ha' y hy hsm => ?_, fun v hv => ?_⟩
  · rcases Nat.lt_or_ge a' a with z | z
    · rw [hamlo a' z]
      exact hlex a' z y hy (fun i hi => by rw [hsm i hi, hamlo i (by omega)])
    · have e1 : a' = a := by omega
      subst e1
      rcases Int.lt_or_le 0 r with y1 | y1
      · have hcl : ∀ w, w < 2 * A.K → A.opn p (a' + 1) (w / 2) = true → 0 < wm mm lo2 w → vn (wb A.b A.e w) ≠ none → vn (we A.b A.e w) ≠ none := by
          intro w hw ho hr2 hv
          have hbn : wb A.b A.e w < A.n := by
            obtain ⟨c1, c2⟩ := hnd (w / 2) (by omega)
            unfold wb
            split <;> assumption
          obtain ⟨-, j, hj, ej⟩ := h.2.2.1 _ hbn hv
          exact ((hX j hj).2 w hw ho hr2 ej.symm).1
        have hsome : ∀ v, (vn v).isSome = true ↔ vn v ≠ none := by
          intro v
          cases vn v <;> simp
        have hnone : ∀ v, (vn v).isSome = false ↔ vn v = none := by
          intro v
          cases vn v <;> simp
        refine A.cut_lex hA (S := fun v => (vn v).isSome) ha hopt hy hsm ?_ ?_ (fun l hl l1 l2 l3 l4 => ?_) (fun l hl l1 l2 l3 l4 => ?_)
        · show (vn (A.fr a')).isSome = true
          rw [hS _ d1 (by omega)]; rfl
        · refine (hnone _).mpr ?_
          cases hq : vn (A.tr a') with
          | none => rfl
          | some o =>
            obtain ⟨-, j, hj, ej⟩ := h.2.2.1 _ d2 (by rw [hq]; simp)
            have := (hX j hj).1
            rw [ej] at this
            omega
        · rw [hX3 l hl (by omega)]
          have := s1 l hl
          rcases Int.lt_or_le (lo2 l) (mm l) with y2 | y2
          · have := hcl (2 * l) (by omega) (by rw [show 2 * l / 2 = l by omega]; unfold AN.opn; rw [l2]; simp; omega) (by unfold wm; rw [if_pos (by omega), show 2 * l / 2 = l by omega]; omega) (by unfold wb; rw [if_pos (by omega), show 2 * l / 2 = l by omega]; exact (hsome _).mp l3)
            unfold we at this
            rw [if_pos (by omega), show 2 * l / 2 = l by omega] at this
            exact absurd ((hnone _).mp l4) this
          · omega
        · rw [hX3 l hl (by omega)]
          have := s1 l hl
          rcases Int.lt_or_le 0 (lo2 l) with y2 | y2
          · have := hcl (2 * l + 1) (by omega) (by rw [show (2 * l + 1) / 2 = l by omega]; unfold AN.opn; rw [l2]; simp; omega) (by unfold wm; rw [if_neg (by omega), show (2 * l + 1) / 2 = l by omega]; omega) (by unfold wb; rw [if_neg (by omega), show (2 * l + 1) / 2 = l by omega]; exact (hsome _).mp l4)
            unfold we at this
            rw [if_neg (by omega), show (2 * l + 1) / 2 = l by omega] at this
            exact absurd ((hnone _).mp l3) this
          · omega
      · refine A.least0 ha hpf3 (fun k hk hq => ?_) hy
        rw [hX4 k hk, hz2 k hk hq, hpb k (by omega)]
        have g1 : 0 ≤ sI (fun j => if A.tgt p (cn_fs A.pt a' + j) then mm (cn_fs A.pt a' + j) else 0) k := sI_ge0 (fun j hj => by
          have := hm _ (A.l_at ha (show j < A.pt a' by omega)).1
          show 0 ≤ if A.tgt p (cn_fs A.pt a' + j) then mm (cn_fs A.pt a' + j) else 0
          split <;> omega)
        have g2 := hm _ (A.l_at ha hk).1
        rw [if_pos (by omega)]
        unfold mn2
        rw [if_pos (by omega)]; omega
  · rw [hpb0]
    unfold pbE
    by_cases z1 : A.fr a = v
    · subst z1
      rw [if_pos rfl, if_neg (Ne.symm d3), hr]; omega
    · rw [if_neg z1]
      by_cases z2 : A.tr a = v
      · subst z2
        rw [if_pos rfl, htot]; omega
      · rw [if_neg z2, hother v hv (Ne.symm z1) (Ne.symm z2)]; omega
end
section
/-! ===== Router.lessen ===== -/
theorem ff_fr0 (u : dm_S) : ff_fr u u := ⟨fun _ _ => rfl, fun _ _ => rfl, fun _ _ => rfl⟩
theorem ff_frt {u u' u'' : dm_S} (h : ff_fr u u') (h2 : ff_fr u' u'') : ff_fr u u'' := ⟨fun c a => (h2.1 c a).trans (h.1 c a), fun k a => (h2.2.1 k a).trans (h.2.1 k a), fun c a => (h2.2.2 c a).trans (h.2.2 c a)⟩
theorem ff_sw {u u' : dm_S} (h : sw_fr u u') : ff_fr u u' := ⟨fun c hc => by simp at hc; exact h.1 c (by omega) (by omega) (by omega), h.2.1, fun c hc => by simp at hc; exact h.2.2 c (by omega) (by omega) (by omega)⟩
theorem ff_cl {u u' : dm_S} (h : cl_fr u u') : ff_fr u u' := ⟨fun c hc => by simp at hc; exact h.1 c (by omega), fun k _ => by rw [h.1 4 (by decide)], fun c hc => by simp at hc; exact h.2 c (by omega) (by omega)⟩
theorem ff_x {u : dm_S} {x ex : Nat → Int} : ff_fr u (st_x u x ex) := ff_sw sw_frx
theorem LN_ff {u u' : dm_S} {A : AN} (h : LN u A) (hf : ff_fr u u') : LN u' A := LN_fr h (fun c hc => hf.1 c (by intro z; revert hc z; revert c; decide)) (fun c hc => hf.2.2 c (by intro z; revert hc z; revert c; decide))
theorem so_ff {u u' : dm_S} {n K : Nat} {b e hd sr : Nat → Nat} (h : so_ok u n K b e hd sr) (hf : ff_fr u u') : so_ok u' n K b e hd sr := so_eq h (hf.1 26 (by decide)) (hf.1 27 (by decide))
def sp_X7_lessen (As : List Value) (u : dm_S) (Q : Option Value → dm_S → Prop) : Prop := match As with
  | [.ref 4, .ref 36] => ∃ (A : AN) (mm p lo ex : Nat → Int) (hd sr : Nat → Nat), A.ok ∧ CR u A ∧ LN u A ∧ so_ok u A.n A.K A.b A.e hd sr ∧ (u.2 22 = lF mm ∧ ∀ l, l < A.K → mm l = A.w 1000000000 l) ∧ u.2 36 = lF p ∧ (∀ v, v < A.n → -1152921504606846976 ≤ p v ∧ p v ≤ 1152921504606846976) ∧ u.2 24 = lF lo ∧ u.2 25 = lF ex ∧ A.opt mm p lo ∧ (∀ v, v < A.n → ex v = 0) ∧
    ∀ (u' : dm_S) (lo' : Nat → Int), ff_fr u u' → u'.2 24 = lF lo' → A.opt mm p lo' → A.lex mm p lo' A.M → Q none u'
  | _ => False
def p_X7_lessen : List dm_I := [(0, .iconst 0, 1, []), (1, .istore_n 2, 1, [2]), (2, .iload_n 2, 1, [2]), (3, .aload_n 0, 1, [0]), (4, .getfield 30, 3, []), (7, .getfield 39, 3, []), (10, .if_icmp .ge 56, 3, [66]), (13, .aload_n 0, 1, [0]), (14, .getfield 9, 3, []), (17, .iload_n 2, 1, [2]), (18, .aload_n 0, 1, [0]), (19, .getfield 30, 3, []), (22, .getfield 50, 3, []), (25, .iload_n 2, 1, [2]), (26, .laload, 1, []), (27, .aload_n 1, 1, [1]), (28, .aload_n 0, 1, [0]), (29, .getfield 30, 3, []), (32, .getfield 53, 3, []), (35, .iload_n 2, 1, [2]), (36, .iaload, 1, []), (37, .laload, 1, []), (38, .aload_n 1, 1, [1]), (39, .aload_n 0, 1, [0]), (40, .getfield 30, 3, []), (43, .getfield 56, 3, []), (46, .iload_n 2, 1, [2]), (47, .iaload, 1, []), (48, .laload, 1, []), (49, .lsub, 1, []), (50, .lcmp, 1, []), (51, .ifCond .ne 7, 3, [58]), (54, .iconst 1, 1, []), (55, .goto 4, 3, [59]), (58, .iconst 0, 1, []), (59, .bastore, 1, []), (60, .iinc 2 1, 3, []), (63, .goto (-61), 3, [2]), (66, .iconst 0, 1, []), (67, .istore_n 2, 1, [2]), (68, .iload_n 2, 1, [2]), (69, .aload_n 0, 1, [0]), (70, .getfield 26, 3, []), (73, .getfield 59, 3, []), (76, .if_icmp .ge 26, 3, [102]), (79, .aload_n 0, 1, [0]), (80, .iload_n 2, 1, [2]), (81, .invokevirtual 64, 3, []), (84, .ifCond .eq 12, 3, [96]), (87, .aload_n 0, 1, [0]), (88, .invokevirtual 43, 3, []), (91, .aload_n 0, 1, [0]), (92, .iload_n 2, 1, [2]), (93, .invokevirtual 68, 3, []), (96, .iinc 2 1, 3, []), (99, .goto (-31), 3, [68]), (102, .return_, 1, [])]
set_option maxRecDepth 100000 in
theorem v_X7_lessen : p_X7_lessen.all (dm_vb cX7_lessen) = true := by decide +kernel
def k_X7_lessen : dm_Sp := fun a => match a with
  | 0 => sp_X7_closeLanes
  | 1 => sp_X7_sendWhatCanGo
  | 2 => sp_X7_putBack
  | _ => fun _ _ _ => False
def x_X7_lessen : dm_X := dm_mk [(9, 7, 2), (26, 7, 0), (30, 7, 1), (39, 1, 10), (50, 1, 5), (53, 1, 3), (56, 1, 2), (59, 2, 9)] [] [] [(64, 0, 1, 7), (43, 1, 0, 7), (68, 2, 1, 7)] 0
set_option maxRecDepth 100000 in
set_option maxHeartbeats 1600000 in
theorem u_X7_lessen : dm_Pure shC x_X7_lessen k_X7_lessen p_X7_lessen 3 sp_X7_lessen := by
  intro As u Qp h
  unfold sp_X7_lessen at h
  split at h
  · obtain ⟨A, mm, p, lo, ex, hd, sr, hA, hC, hL, hS, ⟨e22, hm⟩, e36, hp, e24, e25, hx, hex, h⟩ := h
    obtain ⟨hn, hM⟩ := hA.1
    have hK := A.K_le hA
    have hwb := fun l hl => A.w_bd hA (B := 1000000000) (l := l) (by omega) hl
    have hm0 : ∀ l, l < A.K → 0 ≤ mm l := fun l hl => by rw [hm l hl]; exact (hwb l hl).1
    refine ⟨Nat.le_of_ble_eq_true rfl, fun G Wp hW0 hW1 hG => ?_⟩
    have loop2 : ∀ k a : Nat, a + k = A.M → ∀ (u' : dm_S) (lo' ex' : Nat → Int), ff_fr u u' → u'.2 24 = lF lo' → u'.2 25 = lF ex' → (∀ v, v < A.n → ex' v = 0) → op_ok u' A.K (A.opn p a) → A.opt mm p lo' → A.lex mm p lo' a → G 68 [some (.ref 4), some (.ref 36), some (.int (nI a))] [] u' := by
      intro k
      induction k with
      | zero =>
        intro a ha u' lo' ex' a1 a2 a3 a4 a5 a6 a7
        have e1 : u'.1 1 9 = nI A.M := by rw [a1.1 1 (by decide)]; exact hC.1.2
        have e : a = A.M := by omega
        subst e
        apply hG (fun pc => pc == 68) 80
        simp (config := { maxSteps := 2000000 }) [-Prod.forall, -Prod.exists, -exists_and_left, -exists_and_right, hW0, hW1, dm_fn, dm_fd, dm_x, dm_L0, dm_la, dm_t1, dm_sw, List.headD, dm_ic, dm_mk, dm_s1, dm_s2, dm_clr, dm_cs, dm_cc, dm_nb0, dm_nb1, Value.category, List.lookup, p_X7_lessen, x_X7_lessen, k_X7_lessen, dm_cm, upd, vp_updL, dm_ui_1, dm_ui_2, dm_ul_1, dm_ul_2, sp_X7_closeLanes, sp_X7_sendWhatCanGo, sp_X7_putBack, sC_0, sC_1, sC_2, sC_3, sC_4, sC_5, sC_6, sC_7, sC_8, sC_9, sC_10, sC_11, sC_12, sC_13, sC_14, sC_15, sC_16, sC_17, sC_18, sC_19, sC_20, sC_21, sC_22, sC_23, sC_24, sC_25, sC_26, sC_27, sC_28, sC_29, sC_30, sC_31, sC_32, sC_33, sC_34, sC_35, sC_36, sC_37, sC_38, sC_39, sC_40, sC_41, sC_42, sC_43, sC_44, sC_45, sC_46, sC_47, sC_48, sC_49, sC_50, sC_51]
        rw [e1]
        exact ⟨fun _ => h u' lo' a1 a2 a6 a7, fun zq => absurd zq (nI_nlt (Nat.le_refl _) (by omega))⟩
      | succ k ih =>
        intro a ha u' lo' ex' a1 a2 a3 a4 a5 a6 a7
        have e1 : u'.1 1 9 = nI A.M := by rw [a1.1 1 (by decide)]; exact hC.1.2
        have ham : a < A.M := by omega
        obtain ⟨f1, f2, f3, f4, f5, f6, f7⟩ := A.cl_facts hA ham a6
        have htb : cl_tk A a (A.opn p a) lo' (A.pt a) ≤ 4000000000 := by
          have g1 : sI (fun j => if A.tgt p (cn_fs A.pt a + j) then mm (cn_fs A.pt a + j) else 0) (A.pt a) ≤ A.pt a * 1000000000 := sI_bd (fun j hj => by
            have g2 := (A.l_at ham hj).1
            have g3 := hwb _ g2
            show (if A.tgt p (cn_fs A.pt a + j) then mm (cn_fs A.pt a + j) else 0) ≤ 1000000000
            rw [hm _ g2]
            split <;> omega)
          have := (hA.2.1 a ham).2.1.2
          omega
        apply hG (fun pc => pc == 68) 80
        simp (config := { maxSteps := 2000000 }) [-Prod.forall, -Prod.exists, -exists_and_left, -exists_and_right, hW0, hW1, dm_fn, dm_fd, dm_x, dm_L0, dm_la, dm_t1, dm_sw, List.headD, dm_ic, dm_mk, dm_s1, dm_s2, dm_clr, dm_cs, dm_cc, dm_nb0, dm_nb1, Value.category, List.lookup, p_X7_lessen, x_X7_lessen, k_X7_lessen, dm_cm, upd, vp_updL, dm_ui_1, dm_ui_2, dm_ul_1, dm_ul_2, sp_X7_closeLanes, sp_X7_sendWhatCanGo, sp_X7_putBack, sC_0, sC_1, sC_2, sC_3, sC_4, sC_5, sC_6, sC_7, sC_8, sC_9, sC_10, sC_11, sC_12, sC_13, sC_14, sC_15, sC_16, sC_17, sC_18, sC_19, sC_20, sC_21, sC_22, sC_23, sC_24, sC_25, sC_26, sC_27, sC_28, sC_29, sC_30, sC_31, sC_32, sC_33, sC_34, sC_35, sC_36, sC_37, sC_38, sC_39, sC_40, sC_41, sC_42, sC_43, sC_44, sC_45, sC_46, sC_47, sC_48, sC_49, sC_50, sC_51]
        rw [e1, nI_1]
        refine ⟨fun zq => absurd zq (nI_ge (by omega) (by omega)), fun zq => ⟨A, A.opn p a, lo', ex', a, hA, CR_fr hC (ff_nt a1), LN_ff hL a1, a5, a2, a3, ham, rfl, by unfold lB; omega, fun u1 b1 b2 b3 b4 => ?_⟩⟩
        have hf1 := ff_frt a1 (ff_cl b1)
        have b2' : op_ok u1 A.K (A.opn p (a + 1)) := fun l hl => by rw [b2 l hl, f1 l hl]
        refine ⟨fun z => ?_, fun z => ?_⟩
        · have z0 : cl_tk A a (A.opn p a) lo' (A.pt a) = 0 := by omega
          obtain ⟨g1, g2⟩ := A.lex_zero hA ham a6 a7 z0
          refine ih (a + 1) (by omega) u1 _ _ hf1 b3 b4 (fun v hv => ?_) b2' g1 g2
          show ex' v + (if A.fr a = v then cl_tk A a (A.opn p a) lo' (A.pt a) else 0) - (if A.tr a = v then cl_tk A a (A.opn p a) lo' (A.pt a) else 0) = 0
          rw [a4 v hv, z0]
          split <;> split <;> omega
        · have hLA : LA u1 A.n A.K A.b A.e mm (cl_lo A a (A.opn p a) lo' (A.pt a)) (fun v => ex' v + (if A.fr a = v then cl_tk A a (A.opn p a) lo' (A.pt a) else 0) - (if A.tr a = v then cl_tk A a (A.opn p a) lo' (A.pt a) else 0)) := ⟨(LN_ff hL hf1).2.1, (hf1.2.2 22 (by decide)).trans e22, b3, b4⟩
          have hft1 : fits A.K mm (cl_lo A a (A.opn p a) lo' (A.pt a)) := by
            intro l hl
            have g1 := a6.1 l hl
            by_cases y : A.ar l = a ∧ A.tgt p l = true
            · rw [f2 l hl y.1 y.2]; have := hm0 l hl; omega
            · rw [f3 l hl y]; exact g1
          refine ⟨A.n, A.K, A.b, A.e, A.opn p (a + 1), mm, _, _, hd, sr, hLA, ⟨hft1, fun l hl => ?_, fun v hv => ?_⟩, so_ff hS hf1, b2', fun u2 lo2 ex2 vn lev car q m c1 c2 c3 c4 c5 c6 c7 => ?_⟩
          · rw [hm l hl]; have := hwb l hl; omega
          · show -1152921504606846976 ≤ ex' v + (if A.fr a = v then cl_tk A a (A.opn p a) lo' (A.pt a) else 0) - (if A.tr a = v then cl_tk A a (A.opn p a) lo' (A.pt a) else 0) ∧ ex' v + (if A.fr a = v then cl_tk A a (A.opn p a) lo' (A.pt a) else 0) - (if A.tr a = v then cl_tk A a (A.opn p a) lo' (A.pt a) else 0) ≤ 1152921504606846976
            rw [a4 v hv]
            split <;> split <;> omega
          · have hf2 := ff_frt hf1 (ff_sw c1)
            obtain ⟨g1, g2, g3, g4⟩ := A.lex_send hA ham hm0 a6 a7 (fun v hv => by
              show ex' v + (if A.fr a = v then cl_tk A a (A.opn p a) lo' (A.pt a) else 0) - (if A.tr a = v then cl_tk A a (A.opn p a) lo' (A.pt a) else 0) = _
              rw [a4 v hv, Int.zero_add]) c3 c5 c6 c7
            refine ⟨A, mm, lo2, ex2, a, hA, CR_fr hC (ff_nt hf2), LN_ff hL hf2, (hf2.2.2 22 (by decide)).trans e22, c2.2.2.1, c2.2.2.2, ham, rfl, ⟨g1.1, by omega⟩, fun l hl => ?_, ?_⟩
            · have q1 := c3.1 l hl
              have q2 := hwb l hl
              rw [← hm l hl] at q2
              omega
            · exact ih (a + 1) (by omega) _ _ _ (ff_frt hf2 ff_x) st_x24 st_x25 g4 (op_sw (op_sw b2' c1) sw_frx) g2 g3
    have loop1 : ∀ k l : Nat, l + k = A.K → ∀ u' : dm_S, (∀ c, c ≠ 32 → u'.1 c = u.1 c) → u'.2 = u.2 → op_ok u' l (A.opn p 0) → G 2 [some (.ref 4), some (.ref 36), some (.int (nI l))] [] u' := by
      intro k
      induction k with
      | zero =>
        intro l hl u' a1 a2 a3
        have e : l = A.K := by omega
        subst e
        have eK : u'.1 2 10 = nI A.K := by rw [a1 2 (by decide)]; exact hL.2.1.1.2.2.2
        apply hG (fun pc => pc == 2 || pc == 68) 80
        simp (config := { maxSteps := 2000000 }) [-Prod.forall, -Prod.exists, -exists_and_left, -exists_and_right, hW0, hW1, dm_fn, dm_fd, dm_x, dm_L0, dm_la, dm_t1, dm_sw, List.headD, dm_ic, dm_mk, dm_s1, dm_s2, dm_clr, dm_cs, dm_cc, dm_nb0, dm_nb1, Value.category, List.lookup, p_X7_lessen, x_X7_lessen, k_X7_lessen, dm_cm, upd, vp_updL, dm_ui_1, dm_ui_2, dm_ul_1, dm_ul_2, sp_X7_closeLanes, sp_X7_sendWhatCanGo, sp_X7_putBack, sC_0, sC_1, sC_2, sC_3, sC_4, sC_5, sC_6, sC_7, sC_8, sC_9, sC_10, sC_11, sC_12, sC_13, sC_14, sC_15, sC_16, sC_17, sC_18, sC_19, sC_20, sC_21, sC_22, sC_23, sC_24, sC_25, sC_26, sC_27, sC_28, sC_29, sC_30, sC_31, sC_32, sC_33, sC_34, sC_35, sC_36, sC_37, sC_38, sC_39, sC_40, sC_41, sC_42, sC_43, sC_44, sC_45, sC_46, sC_47, sC_48, sC_49, sC_50, sC_51]
        rw [eK]
        refine ⟨fun _ => loop2 A.M 0 (by omega) u' lo ex ⟨fun c hc => ?_, fun k _ => by rw [a1 4 (by decide)], fun c _ => by rw [a2]⟩ (by rw [a2]; exact e24) (by rw [a2]; exact e25) hex a3 hx (fun a' ha' => by omega), fun zq => absurd zq (nI_nlt (Nat.le_refl _) (by omega))⟩
        simp at hc
        exact a1 c (by omega)
      | succ k ih =>
        intro l hl u' a1 a2 a3
        have hlK : l < A.K := by omega
        have eK : u'.1 2 10 = nI A.K := by rw [a1 2 (by decide)]; exact hL.2.1.1.2.2.2
        obtain ⟨⟨g1, g2⟩, g3, g4⟩ := hL.2.1.2 l hlK
        have g5 := (hL.2.2 l hlK).2
        have cl : (nI l).toNatClampNeg = l := nI_clamp (by omega)
        have cb : (nI (A.b l)).toNatClampNeg = A.b l := nI_clamp (by omega)
        have ce : (nI (A.e l)).toNatClampNeg = A.e l := nI_clamp (by omega)
        apply hG (fun pc => pc == 2 || pc == 68) 80
        simp (config := { maxSteps := 2000000 }) [-Prod.forall, -Prod.exists, -exists_and_left, -exists_and_right, hW0, hW1, dm_fn, dm_fd, dm_x, dm_L0, dm_la, dm_t1, dm_sw, List.headD, dm_ic, dm_mk, dm_s1, dm_s2, dm_clr, dm_cs, dm_cc, dm_nb0, dm_nb1, Value.category, List.lookup, p_X7_lessen, x_X7_lessen, k_X7_lessen, dm_cm, upd, vp_updL, dm_ui_1, dm_ui_2, dm_ul_1, dm_ul_2, sp_X7_closeLanes, sp_X7_sendWhatCanGo, sp_X7_putBack, sC_0, sC_1, sC_2, sC_3, sC_4, sC_5, sC_6, sC_7, sC_8, sC_9, sC_10, sC_11, sC_12, sC_13, sC_14, sC_15, sC_16, sC_17, sC_18, sC_19, sC_20, sC_21, sC_22, sC_23, sC_24, sC_25, sC_26, sC_27, sC_28, sC_29, sC_30, sC_31, sC_32, sC_33, sC_34, sC_35, sC_36, sC_37, sC_38, sC_39, sC_40, sC_41, sC_42, sC_43, sC_44, sC_45, sC_46, sC_47, sC_48, sC_49, sC_50, sC_51]
        rw [eK, a1 20 (by decide), a1 21 (by decide), a2, e36, cl, g1, g3, g5, cb, ce, lF_at, lF_at, lI_sub, nI_1]
        have il : vp_in (nI l) 320 := vp_in_nI (by omega) (by omega)
        have ib : vp_in (nI (A.b l)) 24 := vp_in_nI (by omega) (by omega)
        have ie : vp_in (nI (A.e l)) 24 := vp_in_nI (by omega) (by omega)
        have hB1 : lB (A.c l) := by
          obtain ⟨q1, k2, q2, q3, q4⟩ := A.l_in hlK
          have q5 := (hA.2.1 _ q1).2.2.2.1 k2 q2
          unfold lB AN.c
          rw [q4]; omega
        have hB2 : lB (p (A.e l) - p (A.b l)) := by
          have q1 := hp _ g2
          have q2 := hp _ g4
          unfold lB; omega
        have hop : A.opn p 0 l = decide (A.c l = p (A.e l) - p (A.b l)) := by
          unfold AN.opn AN.tgt rc
          simp
          omega
        have step : ∀ x : Int32, x = (if A.opn p 0 l then 1 else 0) → G 2 [some (.ref 4), some (.ref 36), some (.int (nI (l + 1)))] [] (dm_ui u' 32 l x) := by
          intro x hx
          refine ih (l + 1) (by omega) _ (fun c hc => ?_) a2 (fun j hj => ?_)
          · rw [dm_ui_1, if_neg hc]; exact a1 c hc
          · rw [dm_ui_1, if_pos rfl]
            by_cases y : j = l
            · rw [y]
              unfold upd
              rw [if_pos rfl]; exact hx
            · unfold upd
              rw [if_neg y]; exact a3 j (by omega)
        refine ⟨fun zq => absurd zq (nI_ge (by omega) (by omega)), fun zq => ⟨il, ie, il, ib, fun z => ⟨il, step 0 ?_⟩, fun z => ⟨il, step 1 ?_⟩⟩⟩
        · rw [lI_eq hB1 hB2] at z
          rw [hop, decide_eq_false z]; rfl
        · rw [lI_eq hB1 hB2] at z
          rw [hop, decide_eq_true z]; rfl
    apply hG (fun pc => pc == 2) 80
    simp (config := { maxSteps := 2000000 }) [-Prod.forall, -Prod.exists, -exists_and_left, -exists_and_right, hW0, hW1, dm_fn, dm_fd, dm_x, dm_L0, dm_la, dm_t1, dm_sw, List.headD, dm_ic, dm_mk, dm_s1, dm_s2, dm_clr, dm_cs, dm_cc, dm_nb0, dm_nb1, Value.category, List.lookup, p_X7_lessen, x_X7_lessen, k_X7_lessen, dm_cm, upd, vp_updL, dm_ui_1, dm_ui_2, dm_ul_1, dm_ul_2, sp_X7_closeLanes, sp_X7_sendWhatCanGo, sp_X7_putBack, sC_0, sC_1, sC_2, sC_3, sC_4, sC_5, sC_6, sC_7, sC_8, sC_9, sC_10, sC_11, sC_12, sC_13, sC_14, sC_15, sC_16, sC_17, sC_18, sC_19, sC_20, sC_21, sC_22, sC_23, sC_24, sC_25, sC_26, sC_27, sC_28, sC_29, sC_30, sC_31, sC_32, sC_33, sC_34, sC_35, sC_36, sC_37, sC_38, sC_39, sC_40, sC_41, sC_42, sC_43, sC_44, sC_45, sC_46, sC_47, sC_48, sC_49, sC_50, sC_51]
    exact loop1 A.K 0 (by omega) u (fun _ _ => rfl) rfl (fun l hl => absurd hl (Nat.not_lt_zero _))
  · exact h.elim
set_option maxRecDepth 100000 in
theorem t_X7_lessen (l : Launch) (D : va_G) (cA : Nat → ClassId) (ad : Nat → Nat) : dm_Met l D dm_cl cA ad shC yX7_lessen (Cond.code yX7_lessen cX7_lessen 3 (dm_rt 0) :: dm_tt) ({ frames := 4, cells := 0, slots := 0, locals := 94 } : Room) sp_X7_lessen := dm_meth (own := RX7) (X := x_X7_lessen) (Sp := k_X7_lessen) (prog := p_X7_lessen) (by decide +kernel) rfl rfl (dm_FO_s ffX7 [(9, 7, 2), (26, 7, 0), (30, 7, 1), (39, 1, 10), (50, 1, 5), (53, 1, 3), (56, 1, 2), (59, 2, 9)] rfl dm_hT (by decide +kernel)) (dm_IO_s ifX7 jfX7 [] [] rfl rfl dm_hT (by decide +kernel) (by decide +kernel)) soC (dm_MO_of (List.forall_mem_cons.mpr ⟨dm_M1_of (t_X7_closeLanes l D cA ad) dm_hT (dm_mem [814, 70, 811] (by decide +kernel) (by decide +kernel)) (by decide) (by decide +kernel) (Or.inr ⟨by decide, dm_mem [813, 34] (by decide +kernel) (by decide +kernel), rfl⟩), List.forall_mem_cons.mpr ⟨dm_M1_of (t_X7_sendWhatCanGo l D cA ad) dm_hT (dm_mem [592, 70, 589] (by decide +kernel) (by decide +kernel)) (by decide) (by decide +kernel) (Or.inr ⟨by decide, dm_mem [591, 4] (by decide +kernel) (by decide +kernel), rfl⟩), List.forall_mem_cons.mpr ⟨dm_M1_of (t_X7_putBack l D cA ad) dm_hT (dm_mem [818, 70, 815] (by decide +kernel) (by decide +kernel)) (by decide) (by decide +kernel) (Or.inr ⟨by decide, dm_mem [817, 35] (by decide +kernel) (by decide +kernel), rfl⟩), fun _ h => absurd h List.not_mem_nil⟩⟩⟩)) v_X7_lessen u_X7_lessen
end
section
/-! ===== ways of least cost: the nearest node first ===== -/
def rcw (b e : Nat → Nat) (c p : Nat → Int) (w : Nat) : Int := wr c w + p (wb b e w) - p (we b e w)
def djN (n K : Nat) (b e : Nat → Nat) (c mm lo ex p : Nat → Int) (dl : Int) (vn : Nat → Option (Option Nat)) (D : Nat → Int) (h : Nat → Nat) (dn : Nat → Bool) (car : Nat → Int) (v : Nat) : Prop := match vn v with
  | none => D v = fAR ∧ dn v = false
  | some none => dl ≤ ex v ∧ D v = 0 ∧ h v = 0 ∧ car v = ex v
  | some (some w) => (w < 2 * K ∧ we b e w = v ∧ wb b e w < n) ∧ (dn (wb b e w) = true ∧ vn (wb b e w) ≠ none) ∧ D v = D (wb b e w) + 32 * rcw b e c p w + 1 ∧ h v = h (wb b e w) + 1 ∧ dl ≤ wm mm lo w ∧ car v = mn2 (car (wb b e w)) (wm mm lo w)
def djI (n K : Nat) (b e : Nat → Nat) (c mm lo ex p : Nat → Int) (dl Rs : Int) (vn : Nat → Option (Option Nat)) (D : Nat → Int) (h : Nat → Nat) (dn : Nat → Bool) (car : Nat → Int) : Prop :=
  (∀ v, v < n → djN n K b e c mm lo ex p dl vn D h dn car v) ∧ (∀ v, v < n → dl ≤ ex v → vn v = some none) ∧ (∀ u v, u < n → v < n → dn u = true → dn v = false → D u ≤ D v) ∧ (∀ v, v < n → vn v ≠ none → dl ≤ car v ∧ h v ≤ cN dn n ∧ ∃ C, 0 ≤ C ∧ D v = 32 * C + h v ∧ C + p v ≤ Rs + 1000000 * h v) ∧ ∀ v, v < n → dn v = true → h v + 1 ≤ cN dn n
/-- what the prices and sources allow -/
def djP (n K : Nat) (b e : Nat → Nat) (c mm lo p : Nat → Int) (dl Rs : Int) : Prop := (∀ w, w < 2 * K → dl ≤ wm mm lo w → 0 ≤ rcw b e c p w) ∧ (∀ l, l < K → -1000000 ≤ c l ∧ c l ≤ 1000000) ∧ (∀ v, v < n → Rs - p v ≤ 18014398509481984 ∧ -18014398509481984 ≤ p v ∧ p v ≤ 18014398509481984) ∧ 1 ≤ dl
theorem wr_bd {K w : Nat} {c : Nat → Int} (h : ∀ l, l < K → -1000000 ≤ c l ∧ c l ≤ 1000000) (hw : w < 2 * K) : -1000000 ≤ wr c w ∧ wr c w ≤ 1000000 := by
  have := h (w / 2) (by omega)
  unfold wr
  split <;> omega
section
variable {n K : Nat} {b e : Nat → Nat} {c mm lo ex p : Nat → Int} {dl Rs : Int} {vn : Nat → Option (Option Nat)} {D : Nat → Int} {h : Nat → Nat} {dn : Nat → Bool} {car : Nat → Int}
theorem dj_far (hn : n ≤ 24) (hP : djP n K b e c mm lo p dl Rs) (H : djI n K b e c mm lo ex p dl Rs vn D h dn car) {v : Nat} (hv : v < n) (hs : vn v ≠ none) : 0 ≤ D v ∧ D v < 600000000000000000 := by
  obtain ⟨-, h2, C, c1, c2, c3⟩ := H.2.2.2.1 v hv hs
  have := hP.2.2.1 v hv
  have : cN dn n ≤ n := cN_le
  omega
theorem dj_relax (hn : n ≤ 24) (hP : djP n K b e c mm lo p dl Rs) (H : djI n K b e c mm lo ex p dl Rs vn D h dn car) {u w : Nat} (hu : u < n) (hd : dn u = true) (hmx : ∀ u', u' < n → dn u' = true → D u' ≤ D u) (hw : w < 2 * K) (hwb : wb b e w = u) (hm : dl ≤ wm mm lo w) (hv : we b e w < n) (hnd : dn (we b e w) = false) (hlt : D u + 32 * rcw b e c p w + 1 < D (we b e w)) : djI n K b e c mm lo ex p dl Rs (uF vn (we b e w) (some (some w))) (uF D (we b e w) (D u + 32 * rcw b e c p w + 1)) (uF h (we b e w) (h u + 1)) dn (uF car (we b e w) (mn2 (car u) (wm mm lo w))) := by
  obtain ⟨H1, H2, H3, H4, H5⟩ := H
  generalize hvv : we b e w = v at *
  have huv : u ≠ v := fun z => by rw [z, hnd] at hd; cases hd
  have hus : vn u ≠ none := by
    intro z
    have := H1 u hu
    unfold djN at this
    rw [z] at this
    rw [this.2] at hd; cases hd
  have hrc := hP.1 w hw hm
  obtain ⟨k1, k2, C, c1, c2, c3⟩ := H4 u hu hus
  have hdone : ∀ x, dn x = true → x ≠ v := fun x hx z => by rw [z, hnd] at hx; cases hx
  have hD0 : 0 ≤ D u := by omega
  refine ⟨fun x hx => ?_, fun x hx hp => ?_, fun x y hx hy d1 d2 => ?_, fun x hx hs => ?_, fun x hx hd2 => ?_⟩
  · by_cases z : x = v
    · subst z
      unfold djN
      rw [uF_at]
      show (w < 2 * K ∧ we b e w = x ∧ wb b e w < n) ∧ (dn (wb b e w) = true ∧ uF vn x _ (wb b e w) ≠ none) ∧ uF D x _ x = uF D x _ (wb b e w) + 32 * rcw b e c p w + 1 ∧ uF h x _ x = uF h x _ (wb b e w) + 1 ∧ dl ≤ wm mm lo w ∧ uF car x _ x = mn2 (uF car x _ (wb b e w)) (wm mm lo w)
      rw [uF_at, uF_at, uF_at, hwb, uF_ne huv, uF_ne huv, uF_ne huv, uF_ne huv]
      exact ⟨⟨hw, hvv, hu⟩, ⟨hd, hus⟩, rfl, rfl, hm, rfl⟩
    · have h7 := H1 x hx
      unfold djN at h7 ⊢
      rw [uF_ne z]
      cases hq : vn x with
      | none =>
        rw [hq] at h7
        show uF D v _ x = fAR ∧ dn x = false
        rw [uF_ne z]; exact h7
      | some o =>
        rw [hq] at h7
        cases o with
        | none =>
          show dl ≤ ex x ∧ uF D v _ x = 0 ∧ uF h v _ x = 0 ∧ uF car v _ x = ex x
          rw [uF_ne z, uF_ne z, uF_ne z]; exact h7
        | some w' =>
          obtain ⟨g1, g2, g3, g4, g5, g6⟩ := h7
          have e2 := hdone _ g2.1
          show (w' < 2 * K ∧ we b e w' = x ∧ wb b e w' < n) ∧ (dn (wb b e w') = true ∧ uF vn v _ (wb b e w') ≠ none) ∧ uF D v _ x = uF D v _ (wb b e w') + 32 * rcw b e c p w' + 1 ∧ uF h v _ x = uF h v _ (wb b e w') + 1 ∧ dl ≤ wm mm lo w' ∧ uF car v _ x = mn2 (uF car v _ (wb b e w')) (wm mm lo w')
          rw [uF_ne z, uF_ne z, uF_ne z, uF_ne e2, uF_ne e2, uF_ne e2, uF_ne e2]
          exact ⟨g1, g2, g3, g4, g5, g6⟩
  · have h7 := H2 x hx hp
    by_cases z : x = v
    · exfalso
      have h8 := H1 x hx
      unfold djN at h8
      rw [h7] at h8
      rw [← z, h8.2.1] at hlt
      omega
    · rw [uF_ne z]; exact h7
  · have e1 := hdone x d1
    rw [uF_ne e1]
    by_cases z : y = v
    · rw [z, uF_at]
      have := hmx x hx d1
      omega
    · rw [uF_ne z]; exact H3 x y hx hy d1 d2
  · by_cases z : x = v
    · rw [z, uF_at, uF_at, uF_at]
      have h5 := H5 u hu hd
      refine ⟨?_, h5, C + rcw b e c p w, by omega, by omega, ?_⟩
      · rcases (mn2_le (a := car u) (b := wm mm lo w)).2.2 with y | y
        · rw [y]; exact k1
        · rw [y]; exact hm
      · have h6 := wr_bd hP.2.1 hw
        have h7 : rcw b e c p w = wr c w + p u - p v := by unfold rcw; rw [hwb, hvv]
        rw [h7]
        omega
    · rw [uF_ne z] at hs
      rw [uF_ne z, uF_ne z, uF_ne z]
      exact H4 x hx hs
  · rw [uF_ne (hdone x hd2)]; exact H5 x hx hd2
theorem cN_upd {dn : Nat → Bool} {v : Nat} (hv : dn v = false) : ∀ {N : Nat}, v < N → cN (uF dn v true) N = cN dn N + 1
  | 0, h => absurd h (Nat.not_lt_zero _)
  | N + 1, h => by
    show cN (uF dn v true) N + (if uF dn v true N then 1 else 0) = cN dn N + (if dn N then 1 else 0) + 1
    rcases Nat.lt_or_ge v N with y | y
    · rw [cN_upd hv y, uF_ne (by omega)]; omega
    · have e2 : v = N := by omega
      subst e2
      rw [uF_at, hv]
      have : cN (uF dn v true) v = cN dn v := cN_cg (fun u hu => by rw [uF_ne (by omega)])
      rw [this]; rfl
/-- the nearest that is not done is done -/
theorem dj_done (H : djI n K b e c mm lo ex p dl Rs vn D h dn car) {v : Nat} (hv : v < n) (hs : vn v ≠ none) (hnd : dn v = false) (hmin : ∀ x, x < n → dn x = false → D v ≤ D x) : djI n K b e c mm lo ex p dl Rs vn D h (uF dn v true) car := by
  obtain ⟨H1, H2, H3, H4, H5⟩ := H
  have hc := cN_upd hnd hv
  have hk : ∀ x, dn x = true → uF dn v true x = true := by
    intro x hx
    by_cases z : x = v
    · rw [z, uF_at]
    · rw [uF_ne z]; exact hx
  refine ⟨fun x hx => ?_, H2, fun x y hx hy d1 d2 => ?_, fun x hx hs2 => ?_, fun x hx hd2 => ?_⟩
  · have h7 := H1 x hx
    unfold djN at h7 ⊢
    cases hq : vn x with
    | none =>
      rw [hq] at h7
      have z : x ≠ v := fun z => hs (by rw [← z]; exact hq)
      show D x = fAR ∧ uF dn v true x = false
      rw [uF_ne z]; exact h7
    | some o =>
      rw [hq] at h7
      cases o with
      | none => exact h7
      | some w' =>
        obtain ⟨g1, g2, g3, g4, g5, g6⟩ := h7
        exact ⟨g1, ⟨hk _ g2.1, g2.2⟩, g3, g4, g5, g6⟩
  · have d3 : dn y = false := by
      by_cases z : y = v
      · rw [z]; exact hnd
      · rw [uF_ne z] at d2; exact d2
    by_cases z : x = v
    · rw [z]; exact hmin y hy d3
    · rw [uF_ne z] at d1
      exact H3 x y hx hy d1 d3
  · obtain ⟨k1, k2, k3⟩ := H4 x hx hs2
    exact ⟨k1, by rw [hc]; omega, k3⟩
  · rw [hc]
    by_cases z : x = v
    · have := (H4 v hv hs).2.1
      rw [z]; omega
    · rw [uF_ne z] at hd2
      have := H5 x hx hd2
      omega
/-- gone on from all that is done -/
def djX (n K : Nat) (b e : Nat → Nat) (c mm lo p : Nat → Int) (dl : Int) (vn : Nat → Option (Option Nat)) (D : Nat → Int) (dn : Nat → Bool) : Prop := ∀ u, u < n → dn u = true → ∀ w, w < 2 * K → wb b e w = u → dl ≤ wm mm lo w → vn (we b e w) ≠ none ∧ D (we b e w) ≤ D u + 32 * rcw b e c p w + 1
theorem dj_tre (H : djI n K b e c mm lo ex p dl Rs vn D h dn car) : tre n K b e (bvi vn) h := by
  intro v w hv hw
  have := H.1 v hv
  unfold djN at this
  rw [bvi_s hw] at this
  obtain ⟨⟨w1, w2, w3⟩, w4, w5, w6, w7⟩ := this
  exact ⟨w1, w2, w3, by omega⟩
theorem dj_via (H : djI n K b e c mm lo ex p dl Rs vn D h dn car) {v w : Nat} (hv : v < n) (hw : bvi vn v = some w) : (w < 2 * K ∧ we b e w = v ∧ wb b e w < n) ∧ (dn (wb b e w) = true ∧ vn (wb b e w) ≠ none) ∧ D v = D (wb b e w) + 32 * rcw b e c p w + 1 ∧ h v = h (wb b e w) + 1 ∧ dl ≤ wm mm lo w ∧ car v = mn2 (car (wb b e w)) (wm mm lo w) := by
  have := H.1 v hv
  unfold djN at this
  rw [bvi_s hw] at this
  exact this
theorem dj_src (H : djI n K b e c mm lo ex p dl Rs vn D h dn car) {v : Nat} (hv : v < n) (hs : vn v ≠ none) (hw : bvi vn v = none) : dl ≤ ex v ∧ D v = 0 ∧ h v = 0 ∧ car v = ex v := by
  have := H.1 v hv
  unfold djN at this
  cases hq : vn v with
  | none => exact absurd hq hs
  | some o =>
    cases o with
    | none => rw [hq] at this; exact this
    | some w => unfold bvi at hw; rw [hq] at hw; cases hw
theorem dj_car (H : djI n K b e c mm lo ex p dl Rs vn D h dn car) : ∀ v w, v < n → bvi vn v = some w → car v ≤ car (wb b e w) ∧ car v ≤ wm mm lo w := by
  intro v w hv hw
  obtain ⟨-, -, -, -, -, h5⟩ := dj_via H hv hw
  rw [h5]
  exact ⟨mn2_le.1, mn2_le.2.1⟩
theorem dj_on (H : djI n K b e c mm lo ex p dl Rs vn D h dn car) {k v u : Nat} (hv : v < n) (hs : vn v ≠ none) (hu : onp b e (bvi vn) k v u) : u < n ∧ vn u ≠ none := onp_ind (P := fun u => u < n ∧ vn u ≠ none) (fun u w hu hw => by
  obtain ⟨⟨_, _, a3⟩, a4, _⟩ := dj_via H hu.1 hw
  exact ⟨a3, a4.2⟩) ⟨hv, hs⟩ hu
theorem dj_rot (H : djI n K b e c mm lo ex p dl Rs vn D h dn car) {k v : Nat} (hv : v < n) (hs : vn v ≠ none) (hk : h v ≤ k) : rot b e (bvi vn) k v < n ∧ dl ≤ ex (rot b e (bvi vn) k v) ∧ car v ≤ ex (rot b e (bvi vn) k v) := by
  have ht := dj_tre H
  obtain ⟨r1, r2⟩ := rot_n2 ht k v hv hk
  have r3 := (dj_on H hv hs (rot_on ht k v hv hk)).2
  obtain ⟨s1, s2, s3, s4⟩ := dj_src H r2 r3 r1
  have := rot_car ht (fun v w hv hw => (dj_car H v w hv hw).1) k v hv hk
  exact ⟨r2, s1, by omega⟩
end
end
section
/-! ===== sending along a least way, and raising the prices ===== -/
theorem snt_gen {n K : Nat} {b e : Nat → Nat} {via : Nat → Option Nat} {rk : Nat → Nat} {mm lo ex car : Nat → Int} {v : Nat} {a : Int} (ht : tre n K b e via rk) (hc : ∀ v w, v < n → via v = some w → car v ≤ car (wb b e w) ∧ car v ≤ wm mm lo w) (hl : fits K mm lo) (hv : v < n) (hk : rk v ≤ n) (ha : 0 < a) (hav : a ≤ car v) (hev : a ≤ -ex v) (hrn : rot b e via n v < n) (hre : a ≤ ex (rot b e via n v)) : snt n K b e (fun _ => true) mm lo ex (snd b e via n v a lo) (sdE b e via n v a ex) ∧ pe n (sdE b e via n v a ex) = pe n ex - a := by
  have hrv : rot b e via n v ≠ v := fun z => by rw [z] at hre; omega
  have hE : ∀ j, sdE b e via n v a ex j = ex j + (if v = j then a else 0) - (if rot b e via n v = j then a else 0) := fun j => rfl
  have hpe : pe n (sdE b e via n v a ex) = pe n ex - a := by
    have e1 : sI (fun j => if 0 ≤ sdE b e via n v a ex j then sdE b e via n v a ex j else 0) n = sI (fun j => (if 0 ≤ ex j then ex j else 0) - (if j = rot b e via n v then a else 0)) n := sI_cg (fun j _ => by
      show (if 0 ≤ sdE b e via n v a ex j then sdE b e via n v a ex j else 0) = (if 0 ≤ ex j then ex j else 0) - (if j = rot b e via n v then a else 0)
      rw [hE]
      by_cases z1 : v = j
      · subst z1
        rw [if_pos rfl, if_neg hrv, if_neg (Ne.symm hrv)]
        by_cases z2 : 0 ≤ ex v + a - 0
        · rw [if_pos z2, if_neg (by omega)]; omega
        · rw [if_neg z2, if_neg (by omega)]; omega
      · rw [if_neg z1]
        by_cases z2 : rot b e via n v = j
        · subst z2
          rw [if_pos rfl, if_pos (show 0 ≤ ex (rot b e via n v) + 0 - a by omega), if_pos (show 0 ≤ ex (rot b e via n v) by omega)]; omega
        · rw [if_neg z2, if_neg (Ne.symm z2)]
          by_cases z3 : 0 ≤ ex j
          · rw [if_pos z3, if_pos (by omega)]; omega
          · rw [if_neg z3, if_neg (by omega)]; omega)
    unfold pe
    rw [e1, sI_sub, sI_one, if_pos hrn]
  refine ⟨⟨snd_fits ht hc hl hv hk (Int.le_of_lt ha) hav, fun j hj => ?_, fun l hl ho => (by cases ho), fun j hj => ?_, fun l hl => ?_⟩, hpe⟩
  · rw [snd_dv ht hv hk, hE]
    split <;> split <;> omega
  · rw [hE]
    by_cases z1 : v = j
    · subst z1
      rw [if_pos rfl, if_neg hrv]
      exact ⟨fun z => by omega, fun z => by omega⟩
    · rw [if_neg z1]
      by_cases z2 : rot b e via n v = j
      · subst z2
        rw [if_pos rfl]
        exact ⟨fun z => by omega, fun z => by omega⟩
      · rw [if_neg z2]
        exact ⟨fun z => by omega, fun z => by omega⟩
  · rw [hpe]
    unfold snd
    rcases pth_lane2 ht (l := l) n v hv hk with y | ⟨u, w, y1, y2, y3, y4⟩
    · rw [y, Int.mul_zero]; omega
    · rw [y4]
      unfold sg
      split <;> omega
/-- prices raised by the least costs, up to that of the node found -/
def djR (D p : Nat → Int) (v : Nat) : Nat → Int := fun u => p u + mn2 (D u / 32) (D v / 32)
section
variable {n K : Nat} {b e : Nat → Nat} {c mm lo ex p : Nat → Int} {dl Rs : Int} {vn : Nat → Option (Option Nat)} {D : Nat → Int} {h : Nat → Nat} {dn : Nat → Bool} {car : Nat → Int}
theorem dj_div (hn : n ≤ 24) (H : djI n K b e c mm lo ex p dl Rs vn D h dn car) {v : Nat} (hv : v < n) (hs : vn v ≠ none) : D v = 32 * (D v / 32) + h v ∧ 0 ≤ D v / 32 ∧ D v / 32 + p v ≤ Rs + 1000000 * h v ∧ h v ≤ n := by
  obtain ⟨-, h2, C, c1, c2, c3⟩ := H.2.2.2.1 v hv hs
  have : cN dn n ≤ n := cN_le
  have e1 : D v / 32 = C := by omega
  rw [e1]
  exact ⟨c2, c1, c3, by omega⟩
theorem dj_send (hn : n ≤ 24) (hb : nd n K b e) (hP : djP n K b e c mm lo p dl Rs) (hl : fits K mm lo) (H : djI n K b e c mm lo ex p dl Rs vn D h dn car) (hX : djX n K b e c mm lo p dl vn D dn) (hdx : ∀ u, u < n → dn u = true → -dl < ex u) {v : Nat} (hv : v < n) (hs : vn v ≠ none) (hnd : dn v = false) (hne : ex v ≤ -dl) (hmin : ∀ x, x < n → dn x = false → D v ≤ D x) {a : Int} (ha : a = mn2 (car v) (-ex v)) : (dl ≤ a ∧ snt n K b e (fun _ => true) mm lo ex (snd b e (bvi vn) n v a lo) (sdE b e (bvi vn) n v a ex) ∧ pe n (sdE b e (bvi vn) n v a ex) = pe n ex - a) ∧ (∀ w, w < 2 * K → dl ≤ wm mm (snd b e (bvi vn) n v a lo) w → 0 ≤ rcw b e c (djR D p v) w) ∧ (0 ≤ D v / 32 ∧ D v / 32 + p v ≤ Rs + 24000000) ∧ ∀ u, u < n → (p u ≤ djR D p v u ∧ djR D p v u ≤ p u + D v / 32) ∧ (dl ≤ ex u → djR D p v u = p u) ∧ (ex u ≤ -dl → djR D p v u = p u + D v / 32) := by
  have ht := dj_tre H
  obtain ⟨v1, v2, v3, v4⟩ := dj_div hn H hv hs
  have hdl := hP.2.2.2
  obtain ⟨r1, r2, r3⟩ := dj_rot H hv hs v4
  have hcar := (H.2.2.2.1 v hv hs).1
  have hda : dl ≤ a := by
    rcases (mn2_le (a := car v) (b := -ex v)).2.2 with y | y
    · rw [ha, y]; exact hcar
    · rw [ha, y]; omega
  have ha1 : a ≤ car v := by rw [ha]; exact mn2_le.1
  have ha2 : a ≤ -ex v := by rw [ha]; exact mn2_le.2.1
  have hsn := snt_gen ht (dj_car H) hl hv v4 (by omega) ha1 ha2 r1 (by omega)
  have hDn : ∀ u, u < n → 0 ≤ D u / 32 := by
    intro u hu
    by_cases z : vn u = none
    · have := H.1 u hu
      unfold djN at this
      rw [z] at this
      rw [this.1]; unfold fAR; omega
    · exact (dj_div hn H hu z).2.1
  have hbw : ∀ w, w < 2 * K → wb b e w < n ∧ we b e w < n := by
    intro w hw
    obtain ⟨c1, c2⟩ := hb (w / 2) (by omega)
    unfold wb we
    split
    · exact ⟨c1, c2⟩
    · exact ⟨c2, c1⟩
  have hinv : ∀ w, w < 2 * K → dl ≤ wm mm lo w → 0 ≤ rcw b e c (djR D p v) w := by
    intro w hw hm
    obtain ⟨w1, w2⟩ := hbw w hw
    have h0 := hP.1 w hw hm
    have e1 : rcw b e c (djR D p v) w = rcw b e c p w + mn2 (D (wb b e w) / 32) (D v / 32) - mn2 (D (we b e w) / 32) (D v / 32) := by
      unfold rcw djR; omega
    rw [e1]
    have h3 := (mn2_le (a := D (we b e w) / 32) (b := D v / 32)).2.1
    have h4 := (mn2_le (a := D (we b e w) / 32) (b := D v / 32)).1
    cases hq : dn (wb b e w)
    · have := hmin _ w1 hq
      have h5 : mn2 (D (wb b e w) / 32) (D v / 32) = D v / 32 := by
        unfold mn2
        split <;> omega
      omega
    · obtain ⟨x1, x2⟩ := hX _ w1 hq w hw rfl hm
      have x3 : vn (wb b e w) ≠ none := by
        intro z
        have := H.1 _ w1
        unfold djN at this
        rw [z] at this
        rw [this.2] at hq; cases hq
      obtain ⟨y1, y2, y3, y4⟩ := dj_div hn H w1 x3
      obtain ⟨z1, z2, z3, z4⟩ := dj_div hn H w2 x1
      have h5 : D (we b e w) / 32 ≤ D (wb b e w) / 32 + rcw b e c p w := by omega
      rcases (mn2_le (a := D (wb b e w) / 32) (b := D v / 32)).2.2 with y | y <;> omega
  refine ⟨⟨hda, hsn.1, hsn.2⟩, fun w hw hm => ?_, ⟨v2, ?_⟩, fun u hu => ⟨⟨?_, ?_⟩, fun hz => ?_, fun hz => ?_⟩⟩
  · rcases snd_room2 ht (m := mm) (x := lo) (w := w) hv v4 (show 0 ≤ a by omega) with y | ⟨u, w', y1, y2, y3, y4⟩
    · exact hinv w hw (by omega)
    · obtain ⟨o1, o2⟩ := we_ot (b := b) (e := e) y3 y4
      have hon : u < n ∧ vn u ≠ none ∧ D u ≤ D v := onp_ind (P := fun u => u < n ∧ vn u ≠ none ∧ D u ≤ D v) (fun u w hu hw => by
        obtain ⟨⟨g1, g2, g3⟩, g4, g5, g6, g7, g8⟩ := dj_via H hu.1 hw
        have := hP.1 w g1 g7
        exact ⟨g3, g4.2, by omega⟩) ⟨hv, hs, Int.le_refl _⟩ y1
      obtain ⟨⟨g1, g2, g3⟩, g4, g5, g6, g7, g8⟩ := dj_via H hon.1 y2
      obtain ⟨p1, p2, p3, p4⟩ := dj_div hn H hon.1 hon.2.1
      obtain ⟨q1, q2, q3, q4⟩ := dj_div hn H g3 g4.2
      have h0 := hP.1 w' g1 g7
      have e1 : rcw b e c (djR D p v) w = -rcw b e c (djR D p v) w' := by
        unfold rcw
        rw [o1, o2]
        have : wr c w = -wr c w' := by
          unfold wr
          by_cases q : w % 2 = 0
          · rw [if_pos q, if_neg (by omega), y3]; omega
          · rw [if_neg q, if_pos (by omega), y3]
        omega
      have e2 : rcw b e c (djR D p v) w' = rcw b e c p w' + mn2 (D (wb b e w') / 32) (D v / 32) - mn2 (D (we b e w') / 32) (D v / 32) := by
        unfold rcw djR; omega
      rw [e1, e2, g2]
      have m1 : mn2 (D u / 32) (D v / 32) = D u / 32 := by
        unfold mn2
        rw [if_pos (by omega)]
      have m2 : mn2 (D (wb b e w') / 32) (D v / 32) = D (wb b e w') / 32 := by
        unfold mn2
        rw [if_pos (by omega)]
      omega
  · have : cN dn n ≤ n := cN_le
    omega
  · have := hDn u hu
    show p u ≤ p u + mn2 (D u / 32) (D v / 32)
    have := mn2_le (a := D u / 32) (b := D v / 32)
    omega
  · show p u + mn2 (D u / 32) (D v / 32) ≤ _
    have := mn2_le (a := D u / 32) (b := D v / 32)
    omega
  · have e1 := H.2.1 u hu hz
    obtain ⟨s1, s2, s3, s4⟩ := dj_src H hu (by rw [e1]; simp) (by unfold bvi; rw [e1])
    show p u + mn2 (D u / 32) (D v / 32) = p u
    rw [s2]
    unfold mn2
    rw [if_pos (by omega)]; omega
  · have e1 : dn u = false := by
      cases hq : dn u
      · rfl
      · have := hdx u hu hq; omega
    have := hmin u hu e1
    show p u + mn2 (D u / 32) (D v / 32) = _
    unfold mn2
    split <;> omega
end
end
section
/-! ===== Paths: the search, in the cells ===== -/
def pj_fr (u u' : dm_S) : Prop := (∀ c, c ≠ 39 → c ≠ 40 → u'.1 c = u.1 c) ∧ ∀ c, c ≠ 38 → c ≠ 41 → u'.2 c = u.2 c
theorem pj_fr0 (u : dm_S) : pj_fr u u := ⟨fun _ _ _ => rfl, fun _ _ _ => rfl⟩
theorem pj_frt {u u' u'' : dm_S} (h : pj_fr u u') (h2 : pj_fr u' u'') : pj_fr u u'' := ⟨fun c a b => (h2.1 c a b).trans (h.1 c a b), fun c a b => (h2.2 c a b).trans (h.2 c a b)⟩
def ms_vn (dl : Int) (ex : Nat → Int) (v : Nat) : Option (Option Nat) := if dl ≤ ex v then some none else none
def ms_at (u : dm_S) (dl : Int) (ex : Nat → Int) (v : Nat) : Prop := u.1 40 v = cvn (ms_vn dl ex v) ∧ u.2 38 v = lI (if dl ≤ ex v then 0 else fAR) ∧ u.1 39 v = 0 ∧ u.2 41 v = lI (if dl ≤ ex v then ex v else 0)
def sp_X4_markSources (As : List Value) (u : dm_S) (Q : Option Value → dm_S → Prop) : Prop := match As with
  | [.ref 6, .long d] => ∃ (n : Nat) (ex : Nat → Int) (dl : Int), n ≤ 24 ∧ u.1 1 8 = nI n ∧ u.2 25 = lF ex ∧ (∀ v, v < n → lB (ex v)) ∧ lB dl ∧ d = lI dl ∧ ∀ u' : dm_S, pj_fr u u' → (∀ v, v < n → ms_at u' dl ex v) → Q none u'
  | _ => False
def p_X4_markSources : List dm_I := [(0, .iconst 0, 1, []), (1, .istore_n 3, 1, [3]), (2, .iload_n 3, 1, [3]), (3, .aload_n 0, 1, [0]), (4, .getfield 26, 3, []), (7, .getfield 95, 3, []), (10, .if_icmp .ge 96, 3, [106]), (13, .aload_n 0, 1, [0]), (14, .getfield 30, 3, []), (17, .getfield 79, 3, []), (20, .iload_n 3, 1, [3]), (21, .laload, 1, []), (22, .lload_n 1, 1, [1]), (23, .lcmp, 1, []), (24, .ifCond .lt 7, 3, [31]), (27, .iconst 1, 1, []), (28, .goto 4, 3, [32]), (31, .iconst 0, 1, []), (32, .istore 4, 2, []), (34, .aload_n 0, 1, [0]), (35, .getfield 15, 3, []), (38, .iload_n 3, 1, [3]), (39, .iconst 0, 1, []), (40, .bastore, 1, []), (41, .aload_n 0, 1, [0]), (42, .getfield 9, 3, []), (45, .iload_n 3, 1, [3]), (46, .iload 4, 2, []), (48, .ifCond .eq 7, 3, [55]), (51, .lconst 0, 1, []), (52, .goto 6, 3, [58]), (55, .ldc2_w 107, 3, []), (58, .lastore, 1, []), (59, .aload_n 0, 1, [0]), (60, .getfield 19, 3, []), (63, .iload_n 3, 1, [3]), (64, .iload 4, 2, []), (66, .ifCond .eq 7, 3, [73]), (69, .iconst (-1), 1, []), (70, .goto 5, 3, [75]), (73, .bipush (-2), 2, []), (75, .iastore, 1, []), (76, .aload_n 0, 1, [0]), (77, .getfield 23, 3, []), (80, .iload_n 3, 1, [3]), (81, .iload 4, 2, []), (83, .ifCond .eq 15, 3, [98]), (86, .aload_n 0, 1, [0]), (87, .getfield 30, 3, []), (90, .getfield 79, 3, []), (93, .iload_n 3, 1, [3]), (94, .laload, 1, []), (95, .goto 4, 3, [99]), (98, .lconst 0, 1, []), (99, .lastore, 1, []), (100, .iinc 3 1, 3, []), (103, .goto (-101), 3, [2]), (106, .return_, 1, [])]
set_option maxRecDepth 100000 in
theorem v_X4_markSources : p_X4_markSources.all (dm_vb cX4_markSources) = true := by decide +kernel
def k_X4_markSources : dm_Sp := fun a => match a with
  | _ => fun _ _ _ => False
def x_X4_markSources : dm_X := dm_mk [(9, 4, 3), (15, 4, 4), (19, 4, 5), (23, 4, 6), (26, 4, 0), (30, 4, 1), (79, 1, 7), (95, 2, 8)] [] [(107, 1152921504606846976)] [] 0
set_option maxRecDepth 100000 in
set_option maxHeartbeats 800000 in
theorem u_X4_markSources : dm_Pure shC x_X4_markSources k_X4_markSources p_X4_markSources 5 sp_X4_markSources := by
  intro As u Qp h
  unfold sp_X4_markSources at h
  split at h
  · obtain ⟨n, ex, dl, hn, en, e25, hB, hd, rfl, h⟩ := h
    refine ⟨Nat.le_of_ble_eq_true rfl, fun G Wp hW0 hW1 hG => ?_⟩
    have loop : ∀ k i : Nat, i + k = n → ∀ (u' : dm_S) (o4 : Option Value), pj_fr u u' → (∀ v, v < i → ms_at u' dl ex v) → G 2 [some (.ref 6), some (.long (lI dl)), none, some (.int (nI i)), o4] [] u' := by
      intro k
      induction k with
      | zero =>
        intro i hi u' o4 a1 a2
        have e : i = n := by omega
        subst e
        apply hG (fun pc => pc == 2) 60
        simp (config := { maxSteps := 2000000 }) [-Prod.forall, -Prod.exists, -exists_and_left, -exists_and_right, hW0, hW1, dm_fn, dm_fd, dm_x, dm_L0, dm_la, dm_t1, dm_sw, List.headD, dm_ic, dm_mk, dm_s1, dm_s2, dm_clr, dm_cs, dm_cc, dm_nb0, dm_nb1, Value.category, List.lookup, p_X4_markSources, x_X4_markSources, k_X4_markSources, dm_cm, upd, vp_updL, dm_ui_1, dm_ui_2, dm_ul_1, dm_ul_2, sC_0, sC_1, sC_2, sC_3, sC_4, sC_5, sC_6, sC_7, sC_8, sC_9, sC_10, sC_11, sC_12, sC_13, sC_14, sC_15, sC_16, sC_17, sC_18, sC_19, sC_20, sC_21, sC_22, sC_23, sC_24, sC_25, sC_26, sC_27, sC_28, sC_29, sC_30, sC_31, sC_32, sC_33, sC_34, sC_35, sC_36, sC_37, sC_38, sC_39, sC_40, sC_41, sC_42, sC_43, sC_44, sC_45, sC_46, sC_47, sC_48, sC_49, sC_50, sC_51]
        rw [a1.1 1 (by decide) (by decide), en]
        exact ⟨fun _ => h u' a1 a2, fun zq => absurd zq (nI_nlt (Nat.le_refl _) (by omega))⟩
      | succ k ih =>
        intro i hi u' o4 a1 a2
        have ci : (nI i).toNatClampNeg = i := nI_clamp (by omega)
        have ii : vp_in (nI i) 24 := vp_in_nI (by omega) (by omega)
        have step : ∀ (x : Int64) (y : Int32) (z : Int64) (o : Option Value), x = lI (if dl ≤ ex i then 0 else fAR) → y = cvn (ms_vn dl ex i) → z = lI (if dl ≤ ex i then ex i else 0) → G 2 [some (.ref 6), some (.long (lI dl)), none, some (.int (nI (i + 1))), o] [] (dm_ul (dm_ui (dm_ul (dm_ui u' 39 i 0) 38 i x) 40 i y) 41 i z) := by
          intro x y z o hx hy hz
          refine ih (i + 1) (by omega) _ _ ⟨fun c q1 q2 => ?_, fun c q1 q2 => ?_⟩ (fun v hv => ?_)
          · simp only [dm_ui_1, dm_ul_1, if_neg q1, if_neg q2]; exact a1.1 c q1 q2
          · simp only [dm_ui_2, dm_ul_2, if_neg q1, if_neg q2]; exact a1.2 c q1 q2
          · by_cases w : v = i
            · subst w
              unfold ms_at
              simp [dm_ui_1, dm_ul_1, dm_ui_2, dm_ul_2, upd, vp_updL, hx, hy, hz]
            · have := a2 v (by omega)
              unfold ms_at at this ⊢
              simp [dm_ui_1, dm_ul_1, dm_ui_2, dm_ul_2, upd, vp_updL, w]
              exact this
        apply hG (fun pc => pc == 2) 60
        simp (config := { maxSteps := 2000000 }) [-Prod.forall, -Prod.exists, -exists_and_left, -exists_and_right, hW0, hW1, dm_fn, dm_fd, dm_x, dm_L0, dm_la, dm_t1, dm_sw, List.headD, dm_ic, dm_mk, dm_s1, dm_s2, dm_clr, dm_cs, dm_cc, dm_nb0, dm_nb1, Value.category, List.lookup, p_X4_markSources, x_X4_markSources, k_X4_markSources, dm_cm, upd, vp_updL, dm_ui_1, dm_ui_2, dm_ul_1, dm_ul_2, sC_0, sC_1, sC_2, sC_3, sC_4, sC_5, sC_6, sC_7, sC_8, sC_9, sC_10, sC_11, sC_12, sC_13, sC_14, sC_15, sC_16, sC_17, sC_18, sC_19, sC_20, sC_21, sC_22, sC_23, sC_24, sC_25, sC_26, sC_27, sC_28, sC_29, sC_30, sC_31, sC_32, sC_33, sC_34, sC_35, sC_36, sC_37, sC_38, sC_39, sC_40, sC_41, sC_42, sC_43, sC_44, sC_45, sC_46, sC_47, sC_48, sC_49, sC_50, sC_51]
        rw [a1.1 1 (by decide) (by decide), en, a1.2 25 (by decide) (by decide), e25, ci, lF_at, nI_1]
        refine ⟨fun zq => absurd zq (nI_ge (by omega) (by omega)), fun zq => ⟨ii, fun y => ?_, fun y => ?_⟩⟩
        · have y2 : ¬ dl ≤ ex i := by
            have := (lI_lt (hB i (by omega)) hd).mp y; omega
          exact ⟨ii, step _ _ _ _ (by rw [if_neg y2]; rfl) (by unfold ms_vn; rw [if_neg y2]; rfl) (by rw [if_neg y2]; rfl)⟩
        · have y2 : dl ≤ ex i := (lI_le hd (hB i (by omega))).mp y
          exact ⟨ii, step _ _ _ _ (by rw [if_pos y2]; rfl) (by unfold ms_vn; rw [if_pos y2]; rfl) (by rw [if_pos y2])⟩
    apply hG (fun pc => pc == 2) 60
    simp (config := { maxSteps := 2000000 }) [-Prod.forall, -Prod.exists, -exists_and_left, -exists_and_right, hW0, hW1, dm_fn, dm_fd, dm_x, dm_L0, dm_la, dm_t1, dm_sw, List.headD, dm_ic, dm_mk, dm_s1, dm_s2, dm_clr, dm_cs, dm_cc, dm_nb0, dm_nb1, Value.category, List.lookup, p_X4_markSources, x_X4_markSources, k_X4_markSources, dm_cm, upd, vp_updL, dm_ui_1, dm_ui_2, dm_ul_1, dm_ul_2, sC_0, sC_1, sC_2, sC_3, sC_4, sC_5, sC_6, sC_7, sC_8, sC_9, sC_10, sC_11, sC_12, sC_13, sC_14, sC_15, sC_16, sC_17, sC_18, sC_19, sC_20, sC_21, sC_22, sC_23, sC_24, sC_25, sC_26, sC_27, sC_28, sC_29, sC_30, sC_31, sC_32, sC_33, sC_34, sC_35, sC_36, sC_37, sC_38, sC_39, sC_40, sC_41, sC_42, sC_43, sC_44, sC_45, sC_46, sC_47, sC_48, sC_49, sC_50, sC_51]
    exact loop n 0 (by omega) u _ (pj_fr0 u) (fun v hv => by omega)
  · exact h.elim
set_option maxRecDepth 100000 in
theorem t_X4_markSources (l : Launch) (D : va_G) (cA : Nat → ClassId) (ad : Nat → Nat) : dm_Met l D dm_cl cA ad shC yX4_markSources (Cond.code yX4_markSources cX4_markSources 5 (dm_rt 0) :: dm_tt) ({ frames := 0, cells := 0, slots := 0, locals := 0 } : Room) sp_X4_markSources := dm_meth (own := RX4) (X := x_X4_markSources) (Sp := k_X4_markSources) (prog := p_X4_markSources) (by decide +kernel) rfl rfl (dm_FO_s ffX4 [(9, 4, 3), (15, 4, 4), (19, 4, 5), (23, 4, 6), (26, 4, 0), (30, 4, 1), (79, 1, 7), (95, 2, 8)] rfl dm_hT (by decide +kernel)) (dm_IO_s ifX4 jfX4 [] [(107, 1152921504606846976)] rfl rfl dm_hT (by decide +kernel) (by decide +kernel)) soC (dm_MO_of (fun _ h => absurd h List.not_mem_nil)) v_X4_markSources u_X4_markSources
theorem lI_sh5 {z : Int} (h : 0 ≤ z ∧ z ≤ 4611686018427387904) : lI z >>> ((5 : Int64) &&& 63) = lI (z / 32) := by
  apply Int64.toInt_inj.mp
  rw [lI_ti (a := z / 32) (by omega)]
  show (lI z >>> ((5 : Int64) &&& 63)).toBitVec.toInt = z / 32
  rw [Int64.toBitVec_shiftRight]
  have e : (((5 : Int64) &&& 63).toBitVec.smod 64) = 5#64 := by decide
  rw [e]
  show ((lI z).toBitVec.sshiftRight (5#64).toNat).toInt = z / 32
  rw [BitVec.toInt_sshiftRight]
  have e2 : (lI z).toBitVec.toInt = z := lI_ti (by omega)
  rw [e2, show (5#64).toNat = 5 from rfl, Int.shiftRight_eq_div_pow]
  rfl
theorem lI_sh1 {z : Int} (h : 0 ≤ z ∧ z ≤ 4611686018427387904) : lI z >>> ((1 : Int64) &&& 63) = lI (z / 2) := by
  apply Int64.toInt_inj.mp
  rw [lI_ti (a := z / 2) (by omega)]
  show (lI z >>> ((1 : Int64) &&& 63)).toBitVec.toInt = z / 2
  rw [Int64.toBitVec_shiftRight]
  have e : (((1 : Int64) &&& 63).toBitVec.smod 64) = 1#64 := by decide
  rw [e]
  show ((lI z).toBitVec.sshiftRight (1#64).toNat).toInt = z / 2
  rw [BitVec.toInt_sshiftRight]
  have e2 : (lI z).toBitVec.toInt = z := lI_ti (by omega)
  rw [e2, show (1#64).toNat = 1 from rfl, Int.shiftRight_eq_div_pow]
  rfl
def sp_X4_raisePrices (As : List Value) (u : dm_S) (Q : Option Value → dm_S → Prop) : Prop := match As with
  | [.ref 6, .long d] => ∃ (n : Nat) (D p : Nat → Int) (m : Int), n ≤ 24 ∧ u.1 1 8 = nI n ∧ (∀ v, v < n → u.2 38 v = lI (D v) ∧ 0 ≤ D v ∧ D v ≤ 1152921504606846976) ∧ u.2 36 = lF p ∧ d = lI m ∧ lB m ∧ Q none (dm_sj u 36 (lF (fun v => if v < n then p v + mn2 (D v / 32) m else p v)))
  | _ => False
def p_X4_raisePrices : List dm_I := [(0, .iconst 0, 1, []), (1, .istore_n 3, 1, [3]), (2, .iload_n 3, 1, [3]), (3, .aload_n 0, 1, [0]), (4, .getfield 26, 3, []), (7, .getfield 95, 3, []), (10, .if_icmp .ge 30, 3, [40]), (13, .aload_n 0, 1, [0]), (14, .getfield 34, 3, []), (17, .iload_n 3, 1, [3]), (18, .dup2, 1, []), (19, .laload, 1, []), (20, .aload_n 0, 1, [0]), (21, .getfield 9, 3, []), (24, .iload_n 3, 1, [3]), (25, .laload, 1, []), (26, .iconst 5, 1, []), (27, .lshr, 1, []), (28, .lload_n 1, 1, [1]), (29, .invokestatic 82, 3, []), (32, .ladd, 1, []), (33, .lastore, 1, []), (34, .iinc 3 1, 3, []), (37, .goto (-35), 3, [2]), (40, .return_, 1, [])]
set_option maxRecDepth 100000 in
theorem v_X4_raisePrices : p_X4_raisePrices.all (dm_vb cX4_raisePrices) = true := by decide +kernel
def k_X4_raisePrices : dm_Sp := fun a => match a with
  | 0 => sp_J9_min_f86c9
  | _ => fun _ _ _ => False
def x_X4_raisePrices : dm_X := dm_mk [(9, 4, 3), (26, 4, 0), (34, 4, 2), (95, 2, 8)] [] [] [(82, 0, 2, 1000)] 0
set_option maxRecDepth 100000 in
set_option maxHeartbeats 800000 in
theorem u_X4_raisePrices : dm_Pure shC x_X4_raisePrices k_X4_raisePrices p_X4_raisePrices 4 sp_X4_raisePrices := by
  intro As u Qp h
  unfold sp_X4_raisePrices at h
  split at h
  · obtain ⟨n, D, p, m, hn, en, hD, e36, rfl, hm, h⟩ := h
    refine ⟨Nat.le_of_ble_eq_true rfl, fun G Wp hW0 hW1 hG => ?_⟩
    have loop : ∀ k i : Nat, i + k = n → G 2 [some (.ref 6), some (.long (lI m)), none, some (.int (nI i))] [] (dm_sj u 36 (lF (fun v => if v < i then p v + mn2 (D v / 32) m else p v))) := by
      intro k
      induction k with
      | zero =>
        intro i hi
        have e : i = n := by omega
        subst e
        apply hG (fun pc => pc == 2) 60
        simp (config := { maxSteps := 2000000 }) [-Prod.forall, -Prod.exists, -exists_and_left, -exists_and_right, hW0, hW1, dm_fn, dm_fd, dm_x, dm_L0, dm_la, dm_t1, dm_sw, List.headD, dm_ic, dm_mk, dm_s1, dm_s2, dm_clr, dm_cs, dm_cc, dm_nb0, dm_nb1, Value.category, List.lookup, p_X4_raisePrices, x_X4_raisePrices, k_X4_raisePrices, dm_cm, upd, vp_updL, dm_ui_1, dm_ui_2, dm_ul_1, dm_ul_2, sp_J9_min_f86c9, sC_0, sC_1, sC_2, sC_3, sC_4, sC_5, sC_6, sC_7, sC_8, sC_9, sC_10, sC_11, sC_12, sC_13, sC_14, sC_15, sC_16, sC_17, sC_18, sC_19, sC_20, sC_21, sC_22, sC_23, sC_24, sC_25, sC_26, sC_27, sC_28, sC_29, sC_30, sC_31, sC_32, sC_33, sC_34, sC_35, sC_36, sC_37, sC_38, sC_39, sC_40, sC_41, sC_42, sC_43, sC_44, sC_45, sC_46, sC_47, sC_48, sC_49, sC_50, sC_51]
        rw [dm_sj_1, en]
        exact ⟨fun _ => h, fun zq => absurd zq (nI_nlt (Nat.le_refl _) (by omega))⟩
      | succ k ih =>
        intro i hi
        have ci : (nI i).toNatClampNeg = i := nI_clamp (by omega)
        have ii : vp_in (nI i) 24 := vp_in_nI (by omega) (by omega)
        apply hG (fun pc => pc == 2) 60
        simp (config := { maxSteps := 2000000 }) [-Prod.forall, -Prod.exists, -exists_and_left, -exists_and_right, hW0, hW1, dm_fn, dm_fd, dm_x, dm_L0, dm_la, dm_t1, dm_sw, List.headD, dm_ic, dm_mk, dm_s1, dm_s2, dm_clr, dm_cs, dm_cc, dm_nb0, dm_nb1, Value.category, List.lookup, p_X4_raisePrices, x_X4_raisePrices, k_X4_raisePrices, dm_cm, upd, vp_updL, dm_ui_1, dm_ui_2, dm_ul_1, dm_ul_2, sp_J9_min_f86c9, sC_0, sC_1, sC_2, sC_3, sC_4, sC_5, sC_6, sC_7, sC_8, sC_9, sC_10, sC_11, sC_12, sC_13, sC_14, sC_15, sC_16, sC_17, sC_18, sC_19, sC_20, sC_21, sC_22, sC_23, sC_24, sC_25, sC_26, sC_27, sC_28, sC_29, sC_30, sC_31, sC_32, sC_33, sC_34, sC_35, sC_36, sC_37, sC_38, sC_39, sC_40, sC_41, sC_42, sC_43, sC_44, sC_45, sC_46, sC_47, sC_48, sC_49, sC_50, sC_51]
        obtain ⟨d1, d2, d3⟩ := hD i (by omega)
        have e38 : (dm_sj u 36 (lF fun v => if v < i then p v + mn2 (D v / 32) m else p v)).2 38 i = lI (D i) := d1
        have e36' : (dm_sj u 36 (lF fun v => if v < i then p v + mn2 (D v / 32) m else p v)).2 36 i = lI (p i) := by
          show lI (if i < i then p i + mn2 (D i / 32) m else p i) = lI (p i)
          rw [if_neg (by omega)]
        rw [dm_sj_1, en, ci, nI_1, e38, e36', lI_sh5 (by omega), lI_min (by unfold lB; omega) hm, lI_add, dm_sj_u, lF_upd]
        refine ⟨fun zq => absurd zq (nI_ge (by omega) (by omega)), fun zq => ⟨ii, ?_⟩⟩
        have e9 : uI (fun v => if v < i then p v + mn2 (D v / 32) m else p v) i (p i + if D i / 32 ≤ m then D i / 32 else m) = fun v => if v < i + 1 then p v + mn2 (D v / 32) m else p v := by
          funext v
          unfold uI
          by_cases y : v = i
          · rw [if_pos y, if_pos (show v < i + 1 by omega), y]; rfl
          · rw [if_neg y]
            show (if v < i then p v + mn2 (D v / 32) m else p v) = if v < i + 1 then p v + mn2 (D v / 32) m else p v
            by_cases y2 : v < i
            · rw [if_pos y2, if_pos (show v < i + 1 by omega)]
            · rw [if_neg y2, if_neg (show ¬ v < i + 1 by omega)]
        rw [e9]
        exact ih (i + 1) (by omega)
    apply hG (fun pc => pc == 2) 60
    simp (config := { maxSteps := 2000000 }) [-Prod.forall, -Prod.exists, -exists_and_left, -exists_and_right, hW0, hW1, dm_fn, dm_fd, dm_x, dm_L0, dm_la, dm_t1, dm_sw, List.headD, dm_ic, dm_mk, dm_s1, dm_s2, dm_clr, dm_cs, dm_cc, dm_nb0, dm_nb1, Value.category, List.lookup, p_X4_raisePrices, x_X4_raisePrices, k_X4_raisePrices, dm_cm, upd, vp_updL, dm_ui_1, dm_ui_2, dm_ul_1, dm_ul_2, sp_J9_min_f86c9, sC_0, sC_1, sC_2, sC_3, sC_4, sC_5, sC_6, sC_7, sC_8, sC_9, sC_10, sC_11, sC_12, sC_13, sC_14, sC_15, sC_16, sC_17, sC_18, sC_19, sC_20, sC_21, sC_22, sC_23, sC_24, sC_25, sC_26, sC_27, sC_28, sC_29, sC_30, sC_31, sC_32, sC_33, sC_34, sC_35, sC_36, sC_37, sC_38, sC_39, sC_40, sC_41, sC_42, sC_43, sC_44, sC_45, sC_46, sC_47, sC_48, sC_49, sC_50, sC_51]
    have := loop n 0 (by omega)
    have e0 : lF (fun v => if v < 0 then p v + mn2 (D v / 32) m else p v) = u.2 36 := by
      rw [e36]
      congr 1
    rw [e0, dm_sj_self] at this
    exact this
  · exact h.elim
set_option maxRecDepth 100000 in
theorem t_X4_raisePrices (l : Launch) (D : va_G) (cA : Nat → ClassId) (ad : Nat → Nat) : dm_Met l D dm_cl cA ad shC yX4_raisePrices (Cond.code yX4_raisePrices cX4_raisePrices 4 (dm_rt 0) :: dm_tt) ({ frames := 1, cells := 0, slots := 0, locals := 23 } : Room) sp_X4_raisePrices := dm_meth (own := RX4) (X := x_X4_raisePrices) (Sp := k_X4_raisePrices) (prog := p_X4_raisePrices) (by decide +kernel) rfl rfl (dm_FO_s ffX4 [(9, 4, 3), (26, 4, 0), (34, 4, 2), (95, 2, 8)] rfl dm_hT (by decide +kernel)) (dm_IO_s ifX4 jfX4 [] [] rfl rfl dm_hT (by decide +kernel) (by decide +kernel)) soC (dm_MO_of (List.forall_mem_cons.mpr ⟨dm_M1_of (t_J9_min_f86c9 l D cA ad) dm_hT (dm_mem [621, 79, 781] (by decide +kernel) (by decide +kernel)) (by decide) (by decide +kernel) (Or.inl ⟨rfl, dm_mem (ws := [.static yJ9_min_f86c9]) [620] (by decide +kernel) (by decide +kernel) _ List.mem_cons_self⟩), fun _ h => absurd h List.not_mem_nil⟩)) v_X4_raisePrices u_X4_raisePrices
def sp_X4_nearestNotDone (As : List Value) (u : dm_S) (Q : Option Value → dm_S → Prop) : Prop := match As with
  | [.ref 6] => ∃ (n : Nat) (D : Nat → Int) (dn : Nat → Bool), n ≤ 24 ∧ u.1 1 8 = nI n ∧ (∀ v, v < n → u.2 38 v = lI (D v) ∧ lB (D v) ∧ u.1 39 v = if dn v then 1 else 0) ∧ ((∀ v, v < n → dn v = false → fAR ≤ D v) → Q (some (.int (-1))) u) ∧ ∀ v, v < n → dn v = false → D v < fAR → (∀ x, x < n → dn x = false → D v ≤ D x) → Q (some (.int (nI v))) u
  | _ => False
def p_X4_nearestNotDone : List dm_I := [(0, .iconst (-1), 1, []), (1, .istore_n 1, 1, [1]), (2, .ldc2_w 107, 3, []), (5, .lstore_n 2, 1, [2]), (6, .iconst 0, 1, []), (7, .istore 4, 2, []), (9, .iload 4, 2, []), (11, .aload_n 0, 1, [0]), (12, .getfield 26, 3, []), (15, .getfield 95, 3, []), (18, .if_icmp .ge 42, 3, [60]), (21, .aload_n 0, 1, [0]), (22, .getfield 15, 3, []), (25, .iload 4, 2, []), (27, .baload, 1, []), (28, .ifCond .ne 26, 3, [54]), (31, .aload_n 0, 1, [0]), (32, .getfield 9, 3, []), (35, .iload 4, 2, []), (37, .laload, 1, []), (38, .lload_n 2, 1, [2]), (39, .lcmp, 1, []), (40, .ifCond .ge 14, 3, [54]), (43, .iload 4, 2, []), (45, .istore_n 1, 1, [1]), (46, .aload_n 0, 1, [0]), (47, .getfield 9, 3, []), (50, .iload 4, 2, []), (52, .laload, 1, []), (53, .lstore_n 2, 1, [2]), (54, .iinc 4 1, 3, []), (57, .goto (-48), 3, [9]), (60, .iload_n 1, 1, [1]), (61, .ireturn, 1, [])]
set_option maxRecDepth 100000 in
theorem v_X4_nearestNotDone : p_X4_nearestNotDone.all (dm_vb cX4_nearestNotDone) = true := by decide +kernel
def k_X4_nearestNotDone : dm_Sp := fun a => match a with
  | _ => fun _ _ _ => False
def x_X4_nearestNotDone : dm_X := dm_mk [(9, 4, 3), (15, 4, 4), (26, 4, 0), (95, 2, 8)] [] [(107, 1152921504606846976)] [] 1
set_option maxRecDepth 100000 in
set_option maxHeartbeats 800000 in
theorem u_X4_nearestNotDone : dm_Pure shC x_X4_nearestNotDone k_X4_nearestNotDone p_X4_nearestNotDone 5 sp_X4_nearestNotDone := by
  intro As u Qp h
  unfold sp_X4_nearestNotDone at h
  split at h
  · obtain ⟨n, D, dn, hn, en, hD, h1, h2⟩ := h
    have hF : lB fAR := by unfold lB fAR; omega
    refine ⟨Nat.le_of_ble_eq_true rfl, fun G Wp hW0 hW1 hG => ?_⟩
    have loop : ∀ k i : Nat, i + k = n → ∀ (x : Int32) (y : Int), ((x = -1 ∧ y = fAR ∧ ∀ v, v < i → dn v = false → fAR ≤ D v) ∨ ∃ v, v < i ∧ x = nI v ∧ y = D v ∧ dn v = false ∧ D v < fAR ∧ ∀ z, z < i → dn z = false → D v ≤ D z) → G 9 [some (.ref 6), some (.int x), some (.long (lI y)), none, some (.int (nI i))] [] u := by
      intro k
      induction k with
      | zero =>
        intro i hi x y hxy
        have e : i = n := by omega
        subst e
        apply hG (fun pc => pc == 9) 60
        simp (config := { maxSteps := 2000000 }) [-Prod.forall, -Prod.exists, -exists_and_left, -exists_and_right, hW0, hW1, dm_fn, dm_fd, dm_x, dm_L0, dm_la, dm_t1, dm_sw, List.headD, dm_ic, dm_mk, dm_s1, dm_s2, dm_clr, dm_cs, dm_cc, dm_nb0, dm_nb1, Value.category, List.lookup, p_X4_nearestNotDone, x_X4_nearestNotDone, k_X4_nearestNotDone, dm_cm, upd, vp_updL, dm_ui_1, dm_ui_2, dm_ul_1, dm_ul_2, sC_0, sC_1, sC_2, sC_3, sC_4, sC_5, sC_6, sC_7, sC_8, sC_9, sC_10, sC_11, sC_12, sC_13, sC_14, sC_15, sC_16, sC_17, sC_18, sC_19, sC_20, sC_21, sC_22, sC_23, sC_24, sC_25, sC_26, sC_27, sC_28, sC_29, sC_30, sC_31, sC_32, sC_33, sC_34, sC_35, sC_36, sC_37, sC_38, sC_39, sC_40, sC_41, sC_42, sC_43, sC_44, sC_45, sC_46, sC_47, sC_48, sC_49, sC_50, sC_51]
        rw [en]
        refine ⟨fun _ => ?_, fun zq => absurd zq (nI_nlt (Nat.le_refl _) (by omega))⟩
        rcases hxy with ⟨rfl, _, q⟩ | ⟨v, q1, rfl, q3, q4, q5, q6⟩
        · exact h1 q
        · exact h2 v q1 q4 q5 q6
      | succ k ih =>
        intro i hi x y hxy
        have ci : (nI i).toNatClampNeg = i := nI_clamp (by omega)
        have ii : vp_in (nI i) 24 := vp_in_nI (by omega) (by omega)
        obtain ⟨d1, d2, d3⟩ := hD i (by omega)
        have hBy : lB y := by
          rcases hxy with ⟨_, q, _⟩ | ⟨v, q1, _, q3, _⟩
          · rw [q]; exact hF
          · rw [q3]; exact (hD v (by omega)).2.1
        apply hG (fun pc => pc == 9) 60
        simp (config := { maxSteps := 2000000 }) [-Prod.forall, -Prod.exists, -exists_and_left, -exists_and_right, hW0, hW1, dm_fn, dm_fd, dm_x, dm_L0, dm_la, dm_t1, dm_sw, List.headD, dm_ic, dm_mk, dm_s1, dm_s2, dm_clr, dm_cs, dm_cc, dm_nb0, dm_nb1, Value.category, List.lookup, p_X4_nearestNotDone, x_X4_nearestNotDone, k_X4_nearestNotDone, dm_cm, upd, vp_updL, dm_ui_1, dm_ui_2, dm_ul_1, dm_ul_2, sC_0, sC_1, sC_2, sC_3, sC_4, sC_5, sC_6, sC_7, sC_8, sC_9, sC_10, sC_11, sC_12, sC_13, sC_14, sC_15, sC_16, sC_17, sC_18, sC_19, sC_20, sC_21, sC_22, sC_23, sC_24, sC_25, sC_26, sC_27, sC_28, sC_29, sC_30, sC_31, sC_32, sC_33, sC_34, sC_35, sC_36, sC_37, sC_38, sC_39, sC_40, sC_41, sC_42, sC_43, sC_44, sC_45, sC_46, sC_47, sC_48, sC_49, sC_50, sC_51]
        rw [en, ci, d1, d3, nI_1]
        have keep : (dn i = false → y ≤ D i) → G 9 [some (.ref 6), some (.int x), some (.long (lI y)), none, some (.int (nI (i + 1)))] [] u := by
          intro hk
          refine ih (i + 1) (by omega) x y ?_
          rcases hxy with ⟨q1, q2, q3⟩ | ⟨v, q1, q2, q3, q4, q5, q6⟩
          · refine Or.inl ⟨q1, q2, fun v hv hd => ?_⟩
            rcases Nat.lt_or_ge v i with z | z
            · exact q3 v z hd
            · rw [show v = i by omega] at hd ⊢; rw [← q2]; exact hk hd
          · refine Or.inr ⟨v, by omega, q2, q3, q4, q5, fun z hz hd => ?_⟩
            rcases Nat.lt_or_ge z i with z' | z'
            · exact q6 z z' hd
            · rw [show z = i by omega] at hd ⊢; rw [← q3]; exact hk hd
        refine ⟨fun zq => absurd zq (nI_ge (by omega) (by omega)), fun zq => ⟨ii, fun z => keep (fun q => ?_), fun z => ⟨ii, fun z2 => keep (fun _ => (lI_le hBy d2).mp z2), fun z2 => ⟨ii, ?_⟩⟩⟩⟩
        · rw [q] at z; exact absurd rfl z
        · have z3 : dn i = false := by
            cases q : dn i
            · rfl
            · rw [q] at z; cases z
          have z4 := (lI_lt d2 hBy).mp z2
          refine ih (i + 1) (by omega) (nI i) (D i) (Or.inr ⟨i, by omega, rfl, rfl, z3, ?_, fun v hv hd => ?_⟩)
          · rcases hxy with ⟨_, q2, _⟩ | ⟨v, _, _, q3, _, q5, _⟩ <;> omega
          · rcases Nat.lt_or_ge v i with w | w
            · rcases hxy with ⟨_, q2, q3⟩ | ⟨v', _, _, q3, _, q5, q6⟩
              · have := q3 v w hd; omega
              · have := q6 v w hd; omega
            · rw [show v = i by omega]; exact Int.le_refl _
    apply hG (fun pc => pc == 9) 60
    simp (config := { maxSteps := 2000000 }) [-Prod.forall, -Prod.exists, -exists_and_left, -exists_and_right, hW0, hW1, dm_fn, dm_fd, dm_x, dm_L0, dm_la, dm_t1, dm_sw, List.headD, dm_ic, dm_mk, dm_s1, dm_s2, dm_clr, dm_cs, dm_cc, dm_nb0, dm_nb1, Value.category, List.lookup, p_X4_nearestNotDone, x_X4_nearestNotDone, k_X4_nearestNotDone, dm_cm, upd, vp_updL, dm_ui_1, dm_ui_2, dm_ul_1, dm_ul_2, sC_0, sC_1, sC_2, sC_3, sC_4, sC_5, sC_6, sC_7, sC_8, sC_9, sC_10, sC_11, sC_12, sC_13, sC_14, sC_15, sC_16, sC_17, sC_18, sC_19, sC_20, sC_21, sC_22, sC_23, sC_24, sC_25, sC_26, sC_27, sC_28, sC_29, sC_30, sC_31, sC_32, sC_33, sC_34, sC_35, sC_36, sC_37, sC_38, sC_39, sC_40, sC_41, sC_42, sC_43, sC_44, sC_45, sC_46, sC_47, sC_48, sC_49, sC_50, sC_51]
    exact loop n 0 (by omega) (-1) fAR (Or.inl ⟨rfl, rfl, fun v hv => by omega⟩)
  · exact h.elim
set_option maxRecDepth 100000 in
theorem t_X4_nearestNotDone (l : Launch) (D : va_G) (cA : Nat → ClassId) (ad : Nat → Nat) : dm_Met l D dm_cl cA ad shC yX4_nearestNotDone (Cond.code yX4_nearestNotDone cX4_nearestNotDone 5 (dm_rt 1) :: dm_tt) ({ frames := 0, cells := 0, slots := 0, locals := 0 } : Room) sp_X4_nearestNotDone := dm_meth (own := RX4) (X := x_X4_nearestNotDone) (Sp := k_X4_nearestNotDone) (prog := p_X4_nearestNotDone) (by decide +kernel) rfl rfl (dm_FO_s ffX4 [(9, 4, 3), (15, 4, 4), (26, 4, 0), (95, 2, 8)] rfl dm_hT (by decide +kernel)) (dm_IO_s ifX4 jfX4 [] [(107, 1152921504606846976)] rfl rfl dm_hT (by decide +kernel) (by decide +kernel)) soC (dm_MO_of (fun _ h => absurd h List.not_mem_nil)) v_X4_nearestNotDone u_X4_nearestNotDone
end
section
/-! ===== Paths.goOn ===== -/
def dj_ok (u : dm_S) (n : Nat) (vn : Nat → Option (Option Nat)) (D : Nat → Int) (dn : Nat → Bool) (car : Nat → Int) : Prop := ∀ v, v < n → u.1 40 v = cvn (vn v) ∧ u.2 38 v = lI (D v) ∧ (u.1 39 v = if dn v then 1 else 0) ∧ (vn v ≠ none → u.2 41 v = lI (car v))
theorem LA_pj {u u' : dm_S} {n K : Nat} {b e : Nat → Nat} {mm lo ex : Nat → Int} (h : LA u n K b e mm lo ex) (hf : pj_fr u u') : LA u' n K b e mm lo ex := by
  obtain ⟨h1, h2, h3, h4⟩ := h
  obtain ⟨f1, f3⟩ := hf
  refine ⟨⟨?_, fun l hl => ?_⟩, (f3 22 (by decide) (by decide)).trans h2, (f3 24 (by decide) (by decide)).trans h3, (f3 25 (by decide) (by decide)).trans h4⟩
  · rw [f1 1 (by decide) (by decide), f1 2 (by decide) (by decide)]
    exact h1.1
  · rw [f1 20 (by decide) (by decide), f1 21 (by decide) (by decide)]
    exact h1.2 l hl
theorem LA_r {u : dm_S} {c : Nat → Int} {w : Nat} (h : u.2 23 = lF c) : lw_r u w = lI (wr c w) := by
  unfold lw_r wr
  rw [h]
  split
  · rfl
  · rw [lF_at, lI_neg]
def sp_X4_goOn (As : List Value) (u : dm_S) (Q : Option Value → dm_S → Prop) : Prop := match As with
  | [.ref 6, .int x, .long d] => ∃ (n K : Nat) (b e : Nat → Nat) (c mm lo ex p : Nat → Int) (dl Rs : Int) (hd sr : Nat → Nat) (vn : Nat → Option (Option Nat)) (D : Nat → Int) (h : Nat → Nat) (dn : Nat → Bool) (car : Nat → Int) (v : Nat), LA u n K b e mm lo ex ∧ LB n K mm lo ex ∧ so_ok u n K b e hd sr ∧ u.2 23 = lF c ∧ u.2 36 = lF p ∧ d = lI dl ∧ lB dl ∧ djP n K b e c mm lo p dl Rs ∧ dj_ok u n vn D dn car ∧ djI n K b e c mm lo ex p dl Rs vn D h dn car ∧ x = nI v ∧ v < n ∧ dn v = true ∧ (∀ y, y < n → dn y = true → D y ≤ D v) ∧ (∀ y, y < n → vn y ≠ none → lB (car y)) ∧
    ∀ (u' : dm_S) (vn' : Nat → Option (Option Nat)) (D' : Nat → Int) (h' : Nat → Nat) (car' : Nat → Int), pj_fr u u' → dj_ok u' n vn' D' dn car' → djI n K b e c mm lo ex p dl Rs vn' D' h' dn car' → (∀ y, y < n → dn y = true → D' y = D y) → (∀ y, y < n → D' y ≤ D y ∧ (vn y ≠ none → vn' y ≠ none)) → (∀ y, y < n → vn' y ≠ none → lB (car' y)) → (∀ w, w < 2 * K → wb b e w = v → dl ≤ wm mm lo w → vn' (we b e w) ≠ none ∧ D' (we b e w) ≤ D v + 32 * rcw b e c p w + 1) → Q none u'
  | _ => False
def p_X4_goOn : List dm_I := [(0, .aload_n 0, 1, [0]), (1, .getfield 30, 3, []), (4, .getfield 109, 3, []), (7, .iload_n 1, 1, [1]), (8, .iaload, 1, []), (9, .istore 4, 2, []), (11, .iload 4, 2, []), (13, .aload_n 0, 1, [0]), (14, .getfield 30, 3, []), (17, .getfield 109, 3, []), (20, .iload_n 1, 1, [1]), (21, .iconst 1, 1, []), (22, .iadd, 1, []), (23, .iaload, 1, []), (24, .if_icmp .ge 155, 3, [179]), (27, .aload_n 0, 1, [0]), (28, .getfield 30, 3, []), (31, .getfield 112, 3, []), (34, .iload 4, 2, []), (36, .iaload, 1, []), (37, .istore 5, 2, []), (39, .aload_n 0, 1, [0]), (40, .getfield 30, 3, []), (43, .iload 5, 2, []), (45, .invokevirtual 54, 3, []), (48, .lstore 6, 2, []), (50, .aload_n 0, 1, [0]), (51, .getfield 30, 3, []), (54, .iload 5, 2, []), (56, .invokevirtual 58, 3, []), (59, .istore 8, 2, []), (61, .lload 6, 2, []), (63, .lload_n 2, 1, [2]), (64, .lcmp, 1, []), (65, .ifCond .lt 108, 3, [173]), (68, .aload_n 0, 1, [0]), (69, .getfield 15, 3, []), (72, .iload 8, 2, []), (74, .baload, 1, []), (75, .ifCond .eq 6, 3, [81]), (78, .goto 95, 3, [173]), (81, .aload_n 0, 1, [0]), (82, .getfield 30, 3, []), (85, .iload 5, 2, []), (87, .invokevirtual 65, 3, []), (90, .aload_n 0, 1, [0]), (91, .getfield 34, 3, []), (94, .iload_n 1, 1, [1]), (95, .laload, 1, []), (96, .ladd, 1, []), (97, .aload_n 0, 1, [0]), (98, .getfield 34, 3, []), (101, .iload 8, 2, []), (103, .laload, 1, []), (104, .lsub, 1, []), (105, .lstore 9, 2, []), (107, .aload_n 0, 1, [0]), (108, .getfield 9, 3, []), (111, .iload_n 1, 1, [1]), (112, .laload, 1, []), (113, .lload 9, 2, []), (115, .ldc2_w 115, 3, []), (118, .lmul, 1, []), (119, .ladd, 1, []), (120, .lconst 1, 1, []), (121, .ladd, 1, []), (122, .lstore 11, 2, []), (124, .lload 11, 2, []), (126, .aload_n 0, 1, [0]), (127, .getfield 9, 3, []), (130, .iload 8, 2, []), (132, .laload, 1, []), (133, .lcmp, 1, []), (134, .ifCond .ge 39, 3, [173]), (137, .aload_n 0, 1, [0]), (138, .getfield 9, 3, []), (141, .iload 8, 2, []), (143, .lload 11, 2, []), (145, .lastore, 1, []), (146, .aload_n 0, 1, [0]), (147, .getfield 19, 3, []), (150, .iload 8, 2, []), (152, .iload 5, 2, []), (154, .iastore, 1, []), (155, .aload_n 0, 1, [0]), (156, .getfield 23, 3, []), (159, .iload 8, 2, []), (161, .aload_n 0, 1, [0]), (162, .getfield 23, 3, []), (165, .iload_n 1, 1, [1]), (166, .laload, 1, []), (167, .lload 6, 2, []), (169, .invokestatic 82, 3, []), (172, .lastore, 1, []), (173, .iinc 4 1, 3, []), (176, .goto (-165), 3, [11]), (179, .return_, 1, [])]
set_option maxRecDepth 100000 in
theorem v_X4_goOn : p_X4_goOn.all (dm_vb cX4_goOn) = true := by decide +kernel
def k_X4_goOn : dm_Sp := fun a => match a with
  | 0 => sp_X1_roomOf
  | 1 => sp_X1_endOf
  | 2 => sp_X1_rateOf
  | 3 => sp_J9_min_f86c9
  | _ => fun _ _ _ => False
def x_X4_goOn : dm_X := dm_mk [(9, 4, 3), (15, 4, 4), (19, 4, 5), (23, 4, 6), (30, 4, 1), (34, 4, 2), (109, 1, 8), (112, 1, 9)] [] [(115, 32)] [(54, 0, 1, 1), (58, 1, 1, 1), (65, 2, 1, 1), (82, 3, 2, 1000)] 0
set_option maxRecDepth 100000 in
set_option maxHeartbeats 1600000 in
theorem u_X4_goOn : dm_Pure shC x_X4_goOn k_X4_goOn p_X4_goOn 13 sp_X4_goOn := by
  intro As u Qp hh
  unfold sp_X4_goOn at hh
  split at hh
  · obtain ⟨n, K, b, e, c, mm, lo, ex, p, dl, Rs, hd, sr, vn, D, h, dn, car, v, hA, hB, hS, e23, e36, rfl, hdl, hP, hj, hI, rfl, hv, hvd, hmx, hC, hQ⟩ := hh
    obtain ⟨hn, hK, en, eK⟩ := hA.1.1
    obtain ⟨s1, s2, s3, s4⟩ := hS
    obtain ⟨s2a, s2b⟩ := s2 v hv
    have hnd := ln_nd hA.1
    have hvs : vn v ≠ none := by
      intro z
      have := hI.1 v hv
      unfold djN at this
      rw [z] at this
      rw [this.2] at hvd; cases hvd
    refine ⟨Nat.le_of_ble_eq_true rfl, fun G Wp hW0 hW1 hG => ?_⟩
    have loop : ∀ k t : Nat, t + k = hd (v + 1) → hd v ≤ t → ∀ (u' : dm_S) (vn' : Nat → Option (Option Nat)) (D' : Nat → Int) (h' : Nat → Nat) (car' : Nat → Int) (o5 o6 o7 o8 o9 o10 o11 o12 : Option Value), pj_fr u u' → dj_ok u' n vn' D' dn car' → djI n K b e c mm lo ex p dl Rs vn' D' h' dn car' → (∀ y, y < n → dn y = true → D' y = D y) → (∀ y, y < n → D' y ≤ D y ∧ (vn y ≠ none → vn' y ≠ none)) → (∀ y, y < n → vn' y ≠ none → lB (car' y)) → (∀ t', hd v ≤ t' → t' < t → dl ≤ wm mm lo (sr t') → vn' (we b e (sr t')) ≠ none ∧ D' (we b e (sr t')) ≤ D v + 32 * rcw b e c p (sr t') + 1) → G 11 [some (.ref 6), some (.int (nI v)), some (.long (lI dl)), none, some (.int (nI t)), o5, o6, o7, o8, o9, o10, o11, o12] [] u' := by
      intro k
      induction k with
      | zero =>
        intro t ht ht2 u' vn' D' h' car' o5 o6 o7 o8 o9 o10 o11 o12 a1 a2 a3 a4 a5 a6 a7
        apply hG (fun pc => pc == 11) 140
        simp (config := { maxSteps := 2000000 }) [-Prod.forall, -Prod.exists, -exists_and_left, -exists_and_right, hW0, hW1, dm_fn, dm_fd, dm_x, dm_L0, dm_la, dm_t1, dm_sw, List.headD, dm_ic, dm_mk, dm_s1, dm_s2, dm_clr, dm_cs, dm_cc, dm_nb0, dm_nb1, Value.category, List.lookup, p_X4_goOn, x_X4_goOn, k_X4_goOn, dm_cm, upd, vp_updL, dm_ui_1, dm_ui_2, dm_ul_1, dm_ul_2, sp_X1_roomOf, sp_X1_endOf, sp_X1_rateOf, sp_J9_min_f86c9, sC_0, sC_1, sC_2, sC_3, sC_4, sC_5, sC_6, sC_7, sC_8, sC_9, sC_10, sC_11, sC_12, sC_13, sC_14, sC_15, sC_16, sC_17, sC_18, sC_19, sC_20, sC_21, sC_22, sC_23, sC_24, sC_25, sC_26, sC_27, sC_28, sC_29, sC_30, sC_31, sC_32, sC_33, sC_34, sC_35, sC_36, sC_37, sC_38, sC_39, sC_40, sC_41, sC_42, sC_43, sC_44, sC_45, sC_46, sC_47, sC_48, sC_49, sC_50, sC_51]
        have c1 : (nI (v + 1)).toNatClampNeg = v + 1 := nI_clamp (by omega)
        rw [a1.1 26 (by decide) (by decide), nI_1, c1, s1 (v + 1) (by omega)]
        refine ⟨vp_in_nI (by omega) (by omega), fun _ => hQ u' vn' D' h' car' a1 a2 a3 a4 a5 a6 (fun w hw hwb hm => ?_), fun zq => absurd zq (nI_nlt (by omega) (by omega))⟩
        obtain ⟨t', t1, t2, t3⟩ := s4 w hw
        rw [hwb] at t1 t2
        have := a7 t' t1 (by omega)
        rw [t3] at this
        exact this hm
      | succ k ih =>
        intro t ht ht2 u' vn' D' h' car' o5 o6 o7 o8 o9 o10 o11 o12 a1 a2 a3 a4 a5 a6 a7
        obtain ⟨r1, r2, r3⟩ := s3 v t hv ht2 (by omega)
        have hA' := LA_pj hA a1
        obtain ⟨e2, l2⟩ := ln_e hA'.1 r2
        obtain ⟨m1, m2⟩ := LB_m hB r2
        have hBm : lB (wm mm lo (sr t)) := by unfold lB; omega
        have c1 : (nI (v + 1)).toNatClampNeg = v + 1 := nI_clamp (by omega)
        have c2 : (nI t).toNatClampNeg = t := nI_clamp (by omega)
        have c3 : (nI v).toNatClampNeg = v := nI_clamp (by omega)
        have c4 : (nI (we b e (sr t))).toNatClampNeg = we b e (sr t) := nI_clamp (by omega)
        have ie : vp_in (nI (we b e (sr t))) 24 := vp_in_nI (by omega) (by omega)
        have iv : vp_in (nI v) 24 := vp_in_nI (by omega) (by omega)
        obtain ⟨j1, j2, j3, j4⟩ := a2 _ l2
        obtain ⟨i1, i2, i3, i4⟩ := a2 _ hv
        have hvs' : vn' v ≠ none := (a5 v hv).2 hvs
        have keep : (dl ≤ wm mm lo (sr t) → vn' (we b e (sr t)) ≠ none ∧ D' (we b e (sr t)) ≤ D v + 32 * rcw b e c p (sr t) + 1) → ∀ (o5 o6 o7 o8 o9 o10 o11 o12 : Option Value), G 11 [some (.ref 6), some (.int (nI v)), some (.long (lI dl)), none, some (.int (nI (t + 1))), o5, o6, o7, o8, o9, o10, o11, o12] [] u' := by
          intro hk o5 o6 o7 o8 o9 o10 o11 o12
          refine ih (t + 1) (by omega) (by omega) u' vn' D' h' car' _ _ _ _ _ _ _ _ a1 a2 a3 a4 a5 a6 (fun t' b1 b2 hm => ?_)
          rcases Nat.lt_or_ge t' t with z | z
          · exact a7 t' b1 z hm
          · rw [show t' = t by omega] at hm ⊢; exact hk hm
        apply hG (fun pc => pc == 11) 140
        simp (config := { maxSteps := 2000000 }) [-Prod.forall, -Prod.exists, -exists_and_left, -exists_and_right, hW0, hW1, dm_fn, dm_fd, dm_x, dm_L0, dm_la, dm_t1, dm_sw, List.headD, dm_ic, dm_mk, dm_s1, dm_s2, dm_clr, dm_cs, dm_cc, dm_nb0, dm_nb1, Value.category, List.lookup, p_X4_goOn, x_X4_goOn, k_X4_goOn, dm_cm, upd, vp_updL, dm_ui_1, dm_ui_2, dm_ul_1, dm_ul_2, sp_X1_roomOf, sp_X1_endOf, sp_X1_rateOf, sp_J9_min_f86c9, sC_0, sC_1, sC_2, sC_3, sC_4, sC_5, sC_6, sC_7, sC_8, sC_9, sC_10, sC_11, sC_12, sC_13, sC_14, sC_15, sC_16, sC_17, sC_18, sC_19, sC_20, sC_21, sC_22, sC_23, sC_24, sC_25, sC_26, sC_27, sC_28, sC_29, sC_30, sC_31, sC_32, sC_33, sC_34, sC_35, sC_36, sC_37, sC_38, sC_39, sC_40, sC_41, sC_42, sC_43, sC_44, sC_45, sC_46, sC_47, sC_48, sC_49, sC_50, sC_51]
        rw [a1.1 26 (by decide) (by decide), a1.1 27 (by decide) (by decide), nI_1, nI_1, c1, c2, c3, s1 (v + 1) (by omega), r1]
        refine ⟨vp_in_nI (by omega) (by omega), fun zq => absurd zq (nI_ge (by omega) (by omega)), fun zq => ⟨vp_in_nI (by omega) (by omega), sr t, by omega, rfl, sr t, by omega, rfl, ?_⟩⟩
        rw [LA_m hA', e2, c4, j3]
        refine ⟨fun z => keep (fun hm => ?_) _ _ _ _ _ _ _ _, fun z => ⟨ie, fun z2 => ⟨sr t, by omega, rfl, ?_⟩, fun z2 => keep (fun hm => ?_) _ _ _ _ _ _ _ _⟩⟩
        · have := (lI_lt hBm hdl).mp z; omega
        · rw [LA_r ((a1.2 23 (by decide) (by decide)).trans e23), a1.2 36 (by decide) (by decide), e36, i2, j2]
          have hz : wm mm lo (sr t) ≥ dl := (lI_le hdl hBm).mp z
          have hdv : D' v = D v := a4 v hv hvd
          have erc : lI (D' v) + (lI (wr c (sr t)) + lF p v - lF p (we b e (sr t))) * 32 + 1 = lI (D v + 32 * rcw b e c p (sr t) + 1) := by
            rw [lF_at, lF_at, lI_add, lI_sub, show (32 : Int64) = lI 32 from rfl, lI_mul, lI_add, show (1 : Int64) = lI 1 from rfl, lI_add, hdv]
            congr 1
            unfold rcw
            rw [r3]; omega
          rw [erc]
          have z3 : dn (we b e (sr t)) = false := by
            cases q : dn (we b e (sr t))
            · rfl
            · rw [q] at z2; cases z2
          have hrc := hP.1 _ r2 hz
          have hfv := dj_far hn hP a3 hv hvs'
          rw [hdv] at hfv
          have hub : rcw b e c p (sr t) ≤ 36028797019963968 + 1000000 := by
            have q1 := hP.2.2.1 v hv
            have q2 := hP.2.2.1 _ l2
            have q3 := wr_bd hP.2.1 r2
            unfold rcw
            rw [r3]; omega
          have hBn : lB (D v + 32 * rcw b e c p (sr t) + 1) := by unfold lB; omega
          have hBe : lB (D' (we b e (sr t))) ∧ (vn' (we b e (sr t)) = none → D' (we b e (sr t)) = fAR) := by
            by_cases q : vn' (we b e (sr t)) = none
            · have := a3.1 _ l2
              unfold djN at this
              rw [q] at this
              rw [this.1]
              exact ⟨by unfold lB fAR; omega, fun _ => rfl⟩
            · have := dj_far hn hP a3 l2 q
              exact ⟨by unfold lB; omega, fun z => absurd z q⟩
          have hsm : D v + 32 * rcw b e c p (sr t) + 1 < fAR := by
            obtain ⟨-, g2, C, g3, g4, g5⟩ := a3.2.2.2.1 v hv hvs'
            have q2 := hP.2.2.1 _ l2
            have q3 := wr_bd hP.2.1 r2
            have q4 : cN dn n ≤ n := cN_le
            rw [hdv] at g4
            have q5 : rcw b e c p (sr t) = wr c (sr t) + p v - p (we b e (sr t)) := by unfold rcw; rw [r3]
            unfold fAR
            rw [q5]
            omega
          refine ⟨iv, ie, iv, ie, fun y => keep (fun _ => ?_) _ _ _ _ _ _ _ _, fun y => ?_⟩
          · have y2 := (lI_le hBe.1 hBn).mp y
            exact ⟨fun q => by rw [hBe.2 q] at y2; omega, y2⟩
          · have y2 := (lI_lt hBn hBe.1).mp y
            have hrel := dj_relax hn hP a3 hv hvd (fun y hy hd => by rw [a4 y hy hd, hdv]; exact hmx y hy hd) r2 r3 hz l2 z3 (by rw [hdv]; exact y2)
            rw [hdv] at hrel
            rw [i4 hvs', lI_min (a6 v hv hvs') hBm]
            refine ⟨ie, iv, ie, ?_⟩
            have hvw : v ≠ we b e (sr t) := fun q => by rw [← q, hvd] at z3; cases z3
            refine ih (t + 1) (by omega) (by omega) _ _ _ _ _ _ _ _ _ _ _ _ _ (pj_frt a1 ⟨fun c q1 q2 => ?_, fun c q1 q2 => ?_⟩) (fun x hx => ?_) hrel (fun x hx hd => ?_) (fun x hx => ?_) (fun x hx hs => ?_) (fun t' b1 b2 hm => ?_)
            · simp only [dm_ui_1, dm_ul_1, if_neg q1, if_neg q2]
            · simp only [dm_ui_2, dm_ul_2, if_neg q1, if_neg q2]
            · by_cases q : x = we b e (sr t)
              · rw [q, uF_at, uF_at, uF_at]
                simp [dm_ui_1, dm_ul_1, dm_ui_2, dm_ul_2, upd, vp_updL]
                exact ⟨rfl, j3, rfl⟩
              · rw [uF_ne q, uF_ne q, uF_ne q]
                simp [dm_ui_1, dm_ul_1, dm_ui_2, dm_ul_2, upd, vp_updL, q]
                exact a2 x hx
            · rw [uF_ne (fun q => by rw [q, z3] at hd; cases hd)]; exact a4 x hx hd
            · by_cases q : x = we b e (sr t)
              · rw [q, uF_at, uF_at]
                have := (a5 _ l2).1
                exact ⟨by omega, fun _ => by simp⟩
              · rw [uF_ne q, uF_ne q]; exact a5 x hx
            · by_cases q : x = we b e (sr t)
              · rw [q, uF_at]
                rcases (mn2_le (a := car' v) (b := wm mm lo (sr t))).2.2 with y | y
                · rw [y]; exact a6 v hv hvs'
                · rw [y]; exact hBm
              · rw [uF_ne q] at hs
                rw [uF_ne q]; exact a6 x hx hs
            · by_cases q : we b e (sr t') = we b e (sr t)
              · rcases Nat.lt_or_ge t' t with q2 | q2
                · have := a7 t' b1 q2 hm
                  rw [q, uF_at, uF_at]
                  rw [q] at this
                  exact ⟨by simp, by omega⟩
                · rw [show t' = t by omega, uF_at, uF_at]
                  exact ⟨by simp, Int.le_refl _⟩
              · rw [uF_ne q, uF_ne q]
                rcases Nat.lt_or_ge t' t with q2 | q2
                · exact a7 t' b1 q2 hm
                · exact absurd (by rw [show t' = t by omega]) q
        · have z3 : dn (we b e (sr t)) = true := by
            cases q : dn (we b e (sr t))
            · rw [q] at z2; exact absurd rfl z2
            · rfl
          have z4 := hmx _ l2 z3
          have z5 : vn' (we b e (sr t)) ≠ none := by
            intro z6
            have := a3.1 _ l2
            unfold djN at this
            rw [z6] at this
            rw [this.2] at z3; cases z3
          have z6 := hP.1 _ r2 hm
          rw [a4 _ l2 z3]
          exact ⟨z5, by omega⟩
    apply hG (fun pc => pc == 11) 140
    simp (config := { maxSteps := 2000000 }) [-Prod.forall, -Prod.exists, -exists_and_left, -exists_and_right, hW0, hW1, dm_fn, dm_fd, dm_x, dm_L0, dm_la, dm_t1, dm_sw, List.headD, dm_ic, dm_mk, dm_s1, dm_s2, dm_clr, dm_cs, dm_cc, dm_nb0, dm_nb1, Value.category, List.lookup, p_X4_goOn, x_X4_goOn, k_X4_goOn, dm_cm, upd, vp_updL, dm_ui_1, dm_ui_2, dm_ul_1, dm_ul_2, sp_X1_roomOf, sp_X1_endOf, sp_X1_rateOf, sp_J9_min_f86c9, sC_0, sC_1, sC_2, sC_3, sC_4, sC_5, sC_6, sC_7, sC_8, sC_9, sC_10, sC_11, sC_12, sC_13, sC_14, sC_15, sC_16, sC_17, sC_18, sC_19, sC_20, sC_21, sC_22, sC_23, sC_24, sC_25, sC_26, sC_27, sC_28, sC_29, sC_30, sC_31, sC_32, sC_33, sC_34, sC_35, sC_36, sC_37, sC_38, sC_39, sC_40, sC_41, sC_42, sC_43, sC_44, sC_45, sC_46, sC_47, sC_48, sC_49, sC_50, sC_51]
    rw [nI_clamp (by omega), s1 v (by omega)]
    exact ⟨vp_in_nI (by omega) (by omega), loop (hd (v + 1) - hd v) (hd v) (by omega) (Nat.le_refl _) u vn D h car _ _ _ _ _ _ _ _ (pj_fr0 u) hj hI (fun _ _ _ => rfl) (fun _ _ => ⟨Int.le_refl _, id⟩) hC (fun t' _ _ => by omega)⟩
  · exact hh.elim
set_option maxRecDepth 100000 in
theorem t_X4_goOn (l : Launch) (D : va_G) (cA : Nat → ClassId) (ad : Nat → Nat) : dm_Met l D dm_cl cA ad shC yX4_goOn (Cond.code yX4_goOn cX4_goOn 13 (dm_rt 0) :: dm_tt) ({ frames := 1, cells := 0, slots := 0, locals := 23 } : Room) sp_X4_goOn := dm_meth (own := RX4) (X := x_X4_goOn) (Sp := k_X4_goOn) (prog := p_X4_goOn) (by decide +kernel) rfl rfl (dm_FO_s ffX4 [(9, 4, 3), (15, 4, 4), (19, 4, 5), (23, 4, 6), (30, 4, 1), (34, 4, 2), (109, 1, 8), (112, 1, 9)] rfl dm_hT (by decide +kernel)) (dm_IO_s ifX4 jfX4 [] [(115, 32)] rfl rfl dm_hT (by decide +kernel) (by decide +kernel)) soC (dm_MO_of (List.forall_mem_cons.mpr ⟨dm_M1_of (t_X1_roomOf l D cA ad) dm_hT (dm_mem [618, 68, 754] (by decide +kernel) (by decide +kernel)) (by decide) (by decide +kernel) (Or.inr ⟨by decide, dm_mem [616, 617] (by decide +kernel) (by decide +kernel), rfl⟩), List.forall_mem_cons.mpr ⟨dm_M1_of (t_X1_endOf l D cA ad) dm_hT (dm_mem [614, 68, 755] (by decide +kernel) (by decide +kernel)) (by decide) (by decide +kernel) (Or.inr ⟨by decide, dm_mem [612, 613] (by decide +kernel) (by decide +kernel), rfl⟩), List.forall_mem_cons.mpr ⟨dm_M1_of (t_X1_rateOf l D cA ad) dm_hT (dm_mem [705, 68, 757] (by decide +kernel) (by decide +kernel)) (by decide) (by decide +kernel) (Or.inr ⟨by decide, dm_mem [703, 704] (by decide +kernel) (by decide +kernel), rfl⟩), List.forall_mem_cons.mpr ⟨dm_M1_of (t_J9_min_f86c9 l D cA ad) dm_hT (dm_mem [621, 79, 781] (by decide +kernel) (by decide +kernel)) (by decide) (by decide +kernel) (Or.inl ⟨rfl, dm_mem (ws := [.static yJ9_min_f86c9]) [620] (by decide +kernel) (by decide +kernel) _ List.mem_cons_self⟩), fun _ h => absurd h List.not_mem_nil⟩⟩⟩⟩)) v_X4_goOn u_X4_goOn
end
section
/-! ===== Paths.nearestInNeed ===== -/
theorem so_pj {u u' : dm_S} {n K : Nat} {b e hd sr : Nat → Nat} (h : so_ok u n K b e hd sr) (hf : pj_fr u u') : so_ok u' n K b e hd sr := so_eq h (hf.1 26 (by decide) (by decide)) (hf.1 27 (by decide) (by decide))
theorem cN_all {P : Nat → Bool} : ∀ {n : Nat}, cN P n = n → ∀ v, v < n → P v = true
  | 0, _, v, hv => absurd hv (Nat.not_lt_zero _)
  | n + 1, h, v, hv => by
    have h1 := cN_le (P := P) (n := n)
    rw [cN_s] at h
    by_cases e : P n = true
    · rw [if_pos e] at h
      rcases Nat.lt_or_ge v n with y | y
      · exact cN_all (n := n) (by omega) v y
      · rw [show v = n by omega]; exact e
    · rw [if_neg e] at h; omega
def sp_X4_nearestInNeed (As : List Value) (u : dm_S) (Q : Option Value → dm_S → Prop) : Prop := match As with
  | [.ref 6, .long d] => ∃ (n K : Nat) (b e : Nat → Nat) (c mm lo ex p : Nat → Int) (dl Rs : Int) (hd sr : Nat → Nat), LA u n K b e mm lo ex ∧ LB n K mm lo ex ∧ so_ok u n K b e hd sr ∧ u.2 23 = lF c ∧ u.2 36 = lF p ∧ d = lI dl ∧ lB dl ∧ djP n K b e c mm lo p dl Rs ∧ (∀ v, v < n → dl ≤ ex v → p v ≤ Rs) ∧
    (∀ (u' : dm_S) (vn : Nat → Option (Option Nat)) (D : Nat → Int) (h : Nat → Nat) (dn : Nat → Bool) (car : Nat → Int) (v : Nat), pj_fr u u' → dj_ok u' n vn D dn car → djI n K b e c mm lo ex p dl Rs vn D h dn car → djX n K b e c mm lo p dl vn D dn → (∀ y, y < n → dn y = true → -dl < ex y) → (∀ y, y < n → vn y ≠ none → lB (car y)) → v < n → vn v ≠ none → dn v = false → ex v ≤ -dl → (∀ x, x < n → dn x = false → D v ≤ D x) → Q (some (.int (nI v))) u') ∧
    ∀ (u' : dm_S) (S : Nat → Bool), pj_fr u u' → (∀ v, v < n → dl ≤ ex v → S v = true) → (∀ v, v < n → S v = true → -dl < ex v) → (∀ w, w < 2 * K → dl ≤ wm mm lo w → S (wb b e w) = true → S (we b e w) = true) → Q (some (.int (-1))) u'
  | _ => False
def p_X4_nearestInNeed : List dm_I := [(0, .aload_n 0, 1, [0]), (1, .lload_n 1, 1, [1]), (2, .invokevirtual 92, 3, []), (5, .iconst 0, 1, []), (6, .istore_n 3, 1, [3]), (7, .iload_n 3, 1, [3]), (8, .aload_n 0, 1, [0]), (9, .getfield 26, 3, []), (12, .getfield 95, 3, []), (15, .if_icmp .ge 55, 3, [70]), (18, .aload_n 0, 1, [0]), (19, .invokevirtual 100, 3, []), (22, .istore 4, 2, []), (24, .iload 4, 2, []), (26, .iconst (-1), 1, []), (27, .if_icmp .eq 19, 3, [46]), (30, .aload_n 0, 1, [0]), (31, .getfield 30, 3, []), (34, .getfield 79, 3, []), (37, .iload 4, 2, []), (39, .laload, 1, []), (40, .lload_n 1, 1, [1]), (41, .lneg, 1, []), (42, .lcmp, 1, []), (43, .ifCond .gt 6, 3, [49]), (46, .iload 4, 2, []), (48, .ireturn, 1, []), (49, .aload_n 0, 1, [0]), (50, .getfield 15, 3, []), (53, .iload 4, 2, []), (55, .iconst 1, 1, []), (56, .bastore, 1, []), (57, .aload_n 0, 1, [0]), (58, .iload 4, 2, []), (60, .lload_n 1, 1, [1]), (61, .invokevirtual 104, 3, []), (64, .iinc 3 1, 3, []), (67, .goto (-60), 3, [7]), (70, .iconst (-1), 1, []), (71, .ireturn, 1, [])]
set_option maxRecDepth 100000 in
theorem v_X4_nearestInNeed : p_X4_nearestInNeed.all (dm_vb cX4_nearestInNeed) = true := by decide +kernel
def k_X4_nearestInNeed : dm_Sp := fun a => match a with
  | 0 => sp_X4_markSources
  | 1 => sp_X4_nearestNotDone
  | 2 => sp_X4_goOn
  | _ => fun _ _ _ => False
def x_X4_nearestInNeed : dm_X := dm_mk [(15, 4, 4), (26, 4, 0), (30, 4, 1), (79, 1, 7), (95, 2, 8)] [] [] [(92, 0, 1, 4), (100, 1, 0, 4), (104, 2, 2, 4)] 1
set_option maxRecDepth 100000 in
set_option maxHeartbeats 1600000 in
theorem u_X4_nearestInNeed : dm_Pure shC x_X4_nearestInNeed k_X4_nearestInNeed p_X4_nearestInNeed 5 sp_X4_nearestInNeed := by
  intro As u Qp hh
  unfold sp_X4_nearestInNeed at hh
  split at hh
  · obtain ⟨n, K, b, e, c, mm, lo, ex, p, dl, Rs, hd, sr, hA, hB, hS, e23, e36, rfl, hdl, hP, hRs, hx, hy⟩ := hh
    obtain ⟨hn, hK, en, eK⟩ := hA.1.1
    have hnd := ln_nd hA.1
    have hBx : ∀ v, v < n → lB (ex v) := fun v hv => by have := hB.2.2 v hv; unfold lB; omega
    have hBd : lB (-dl) := by unfold lB at hdl ⊢; omega
    have hbw : ∀ w, w < 2 * K → wb b e w < n ∧ we b e w < n := by
      intro w hw
      obtain ⟨c1, c2⟩ := hnd (w / 2) (by omega)
      unfold wb we
      split
      · exact ⟨c1, c2⟩
      · exact ⟨c2, c1⟩
    refine ⟨Nat.le_of_ble_eq_true rfl, fun G Wp hW0 hW1 hG => ?_⟩
    have hend : ∀ (u' : dm_S) (vn : Nat → Option (Option Nat)) (D : Nat → Int) (h : Nat → Nat) (dn : Nat → Bool) (car : Nat → Int), pj_fr u u' → djI n K b e c mm lo ex p dl Rs vn D h dn car → djX n K b e c mm lo p dl vn D dn → (∀ y, y < n → dn y = true → -dl < ex y) → (∀ y, y < n → vn y ≠ none → dn y = true) → Qp (some (.int (-1))) u' := by
      intro u' vn D h dn car a1 a3 a4 a5 a6
      refine hy u' dn a1 (fun v hv hz => a6 v hv (by rw [a3.2.1 v hv hz]; simp)) a5 (fun w hw hm hs => ?_)
      obtain ⟨w1, w2⟩ := hbw w hw
      exact a6 _ w2 (a4 _ w1 hs w hw rfl hm).1
    have loop : ∀ k i : Nat, i + k = n → ∀ (u' : dm_S) (vn : Nat → Option (Option Nat)) (D : Nat → Int) (h : Nat → Nat) (dn : Nat → Bool) (car : Nat → Int) (o4 : Option Value), pj_fr u u' → dj_ok u' n vn D dn car → djI n K b e c mm lo ex p dl Rs vn D h dn car → djX n K b e c mm lo p dl vn D dn → (∀ y, y < n → dn y = true → -dl < ex y) → (∀ y, y < n → vn y ≠ none → lB (car y)) → cN dn n = i → G 7 [some (.ref 6), some (.long (lI dl)), none, some (.int (nI i)), o4] [] u' := by
      intro k
      induction k with
      | zero =>
        intro i hi u' vn D h dn car o4 a1 a2 a3 a4 a5 a6 a7
        have e0 : i = n := by omega
        subst e0
        apply hG (fun pc => pc == 7) 60
        simp (config := { maxSteps := 2000000 }) [-Prod.forall, -Prod.exists, -exists_and_left, -exists_and_right, hW0, hW1, dm_fn, dm_fd, dm_x, dm_L0, dm_la, dm_t1, dm_sw, List.headD, dm_ic, dm_mk, dm_s1, dm_s2, dm_clr, dm_cs, dm_cc, dm_nb0, dm_nb1, Value.category, List.lookup, p_X4_nearestInNeed, x_X4_nearestInNeed, k_X4_nearestInNeed, dm_cm, upd, vp_updL, dm_ui_1, dm_ui_2, dm_ul_1, dm_ul_2, sp_X4_markSources, sp_X4_nearestNotDone, sp_X4_goOn, sC_0, sC_1, sC_2, sC_3, sC_4, sC_5, sC_6, sC_7, sC_8, sC_9, sC_10, sC_11, sC_12, sC_13, sC_14, sC_15, sC_16, sC_17, sC_18, sC_19, sC_20, sC_21, sC_22, sC_23, sC_24, sC_25, sC_26, sC_27, sC_28, sC_29, sC_30, sC_31, sC_32, sC_33, sC_34, sC_35, sC_36, sC_37, sC_38, sC_39, sC_40, sC_41, sC_42, sC_43, sC_44, sC_45, sC_46, sC_47, sC_48, sC_49, sC_50, sC_51]
        rw [a1.1 1 (by decide) (by decide), en]
        exact ⟨fun _ => hend u' vn D h dn car a1 a3 a4 a5 (fun y hy _ => cN_all a7 y hy), fun zq => absurd zq (nI_nlt (Nat.le_refl _) (by omega))⟩
      | succ k ih =>
        intro i hi u' vn D h dn car o4 a1 a2 a3 a4 a5 a6 a7
        have hA' := LA_pj hA a1
        have hDB : ∀ v, v < n → lB (D v) ∧ (vn v = none ↔ ¬ D v < fAR) := by
          intro v hv
          by_cases q : vn v = none
          · have := a3.1 v hv
            unfold djN at this
            rw [q] at this
            rw [this.1]
            exact ⟨by unfold lB fAR; omega, fun _ => by omega, fun _ => q⟩
          · have := dj_far hn hP a3 hv q
            exact ⟨by unfold lB; omega, fun z => absurd z q, fun z => absurd (by unfold fAR; omega) z⟩
        apply hG (fun pc => pc == 7) 60
        simp (config := { maxSteps := 2000000 }) [-Prod.forall, -Prod.exists, -exists_and_left, -exists_and_right, hW0, hW1, dm_fn, dm_fd, dm_x, dm_L0, dm_la, dm_t1, dm_sw, List.headD, dm_ic, dm_mk, dm_s1, dm_s2, dm_clr, dm_cs, dm_cc, dm_nb0, dm_nb1, Value.category, List.lookup, p_X4_nearestInNeed, x_X4_nearestInNeed, k_X4_nearestInNeed, dm_cm, upd, vp_updL, dm_ui_1, dm_ui_2, dm_ul_1, dm_ul_2, sp_X4_markSources, sp_X4_nearestNotDone, sp_X4_goOn, sC_0, sC_1, sC_2, sC_3, sC_4, sC_5, sC_6, sC_7, sC_8, sC_9, sC_10, sC_11, sC_12, sC_13, sC_14, sC_15, sC_16, sC_17, sC_18, sC_19, sC_20, sC_21, sC_22, sC_23, sC_24, sC_25, sC_26, sC_27, sC_28, sC_29, sC_30, sC_31, sC_32, sC_33, sC_34, sC_35, sC_36, sC_37, sC_38, sC_39, sC_40, sC_41, sC_42, sC_43, sC_44, sC_45, sC_46, sC_47, sC_48, sC_49, sC_50, sC_51]
        rw [a1.1 1 (by decide) (by decide), en, a1.2 25 (by decide) (by decide), hA.2.2.2, lI_neg, nI_1]
        refine ⟨fun zq => absurd zq (nI_ge (by omega) (by omega)), fun zq => ⟨n, D, dn, hn, rfl, fun v hv => ⟨(a2 v hv).2.1, (hDB v hv).1, (a2 v hv).2.2.1⟩, fun q => ?_, fun v hv hd0 hf hmin => ?_⟩⟩
        · refine hend u' vn D h dn car a1 a3 a4 a5 (fun y hy hs => ?_)
          cases q2 : dn y
          · exact absurd ((hDB y hy).2.mpr (by have := q y hy q2; omega)) hs
          · rfl
        · have hs : vn v ≠ none := fun z => (hDB v hv).2.mp z hf
          have cv : (nI v).toNatClampNeg = v := nI_clamp (by omega)
          have iv : vp_in (nI v) 24 := vp_in_nI (by omega) (by omega)
          rw [cv, lF_at]
          refine ⟨fun z => absurd (z ▸ nI_pos (n := v) (by omega)) (by decide), fun _ => ⟨iv, fun z => ⟨iv, ?_⟩, fun z => hx u' vn D h dn car v a1 a2 a3 a4 a5 a6 hv hs hd0 ((lI_le (hBx v hv) hBd).mp z) hmin⟩⟩
          have z1 : -dl < ex v := (lI_lt hBd (hBx v hv)).mp z
          have hdI := dj_done a3 hv hs hd0 hmin
          have hpu : pj_fr u' (dm_ui u' 39 v 1) := ⟨fun c q1 q2 => by rw [dm_ui_1, if_neg q1], fun c q1 q2 => rfl⟩
          have hpf := pj_frt a1 hpu
          refine ⟨n, K, b, e, c, mm, lo, ex, p, dl, Rs, hd, sr, vn, D, h, uF dn v true, car, v, LA_pj hA' hpu, hB, so_pj hS hpf, (hpf.2 23 (by decide) (by decide)).trans e23, (hpf.2 36 (by decide) (by decide)).trans e36, rfl, hdl, hP, fun x hx => ?_, hdI, rfl, hv, uF_at, fun x hx hxd => ?_, a6, fun u2 vn2 D2 h2 car2 b1 b2 b3 b4 b5 b6 b7 => ?_⟩
          · obtain ⟨g1, g2, g3, g4⟩ := a2 x hx
            refine ⟨by rw [dm_ui_1, if_neg (by decide)]; exact g1, g2, ?_, g4⟩
            rw [dm_ui_1, if_pos rfl]
            by_cases q : x = v
            · rw [q, uF_at]
              unfold upd
              rw [if_pos rfl]; rfl
            · rw [uF_ne q]
              unfold upd
              rw [if_neg q]; exact g3
          · by_cases q : x = v
            · rw [q]; exact Int.le_refl _
            · rw [uF_ne q] at hxd
              exact a3.2.2.1 x v hx hv hxd hd0
          · refine ih (i + 1) (by omega) u2 vn2 D2 h2 (uF dn v true) car2 _ (pj_frt hpf b1) b2 b3 (fun x hx hxd w hw hwb hm => ?_) (fun x hx hxd => ?_) b6 (by rw [cN_upd hd0 hv, a7])
            · by_cases q : x = v
              · rw [q] at hwb ⊢
                rw [b4 v hv uF_at]
                exact b7 w hw hwb hm
              · rw [uF_ne q] at hxd
                obtain ⟨g1, g2⟩ := a4 x hx hxd w hw hwb hm
                have g3 := b5 _ (hbw w hw).2
                rw [b4 x hx (by rw [uF_ne q]; exact hxd)]
                exact ⟨g3.2 g1, by omega⟩
            · by_cases q : x = v
              · rw [q]; exact z1
              · rw [uF_ne q] at hxd
                exact a5 x hx hxd
    apply hG (fun pc => pc == 7) 60
    simp (config := { maxSteps := 2000000 }) [-Prod.forall, -Prod.exists, -exists_and_left, -exists_and_right, hW0, hW1, dm_fn, dm_fd, dm_x, dm_L0, dm_la, dm_t1, dm_sw, List.headD, dm_ic, dm_mk, dm_s1, dm_s2, dm_clr, dm_cs, dm_cc, dm_nb0, dm_nb1, Value.category, List.lookup, p_X4_nearestInNeed, x_X4_nearestInNeed, k_X4_nearestInNeed, dm_cm, upd, vp_updL, dm_ui_1, dm_ui_2, dm_ul_1, dm_ul_2, sp_X4_markSources, sp_X4_nearestNotDone, sp_X4_goOn, sC_0, sC_1, sC_2, sC_3, sC_4, sC_5, sC_6, sC_7, sC_8, sC_9, sC_10, sC_11, sC_12, sC_13, sC_14, sC_15, sC_16, sC_17, sC_18, sC_19, sC_20, sC_21, sC_22, sC_23, sC_24, sC_25, sC_26, sC_27, sC_28, sC_29, sC_30, sC_31, sC_32, sC_33, sC_34, sC_35, sC_36, sC_37, sC_38, sC_39, sC_40, sC_41, sC_42, sC_43, sC_44, sC_45, sC_46, sC_47, sC_48, sC_49, sC_50, sC_51]
    refine ⟨n, ex, dl, hn, en, hA.2.2.2, hBx, hdl, rfl, fun u' b1 b2 => ?_⟩
    refine loop n 0 (by omega) u' (ms_vn dl ex) (fun v => if dl ≤ ex v then 0 else fAR) (fun _ => 0) (fun _ => false) (fun v => if dl ≤ ex v then ex v else 0) _ b1 (fun v hv => ?_) ⟨fun v hv => ?_, fun v hv hz => ?_, fun _ _ _ _ z => (by cases z), fun v hv hs => ?_, fun _ _ z => (by cases z)⟩ (fun _ _ z => (by cases z)) (fun _ _ z => (by cases z)) (fun y hy hs => ?_) ?_
    · obtain ⟨q1, q2, q3, q4⟩ := b2 v hv
      exact ⟨q1, q2, by rw [q3]; rfl, fun _ => q4⟩
    · unfold djN ms_vn
      by_cases z : dl ≤ ex v
      · simp only [if_pos z]; exact ⟨z, trivial, trivial, trivial⟩
      · simp only [if_neg z]; exact ⟨trivial, trivial⟩
    · unfold ms_vn; rw [if_pos hz]
    · unfold ms_vn at hs
      by_cases z : dl ≤ ex v
      · simp only [if_pos z]
        exact ⟨z, Nat.zero_le _, 0, Int.le_refl _, rfl, by have := hRs v hv z; omega⟩
      · rw [if_neg z] at hs; exact absurd rfl hs
    · unfold ms_vn at hs
      by_cases z : dl ≤ ex y
      · simp only [if_pos z]; exact hBx y hy
      · rw [if_neg z] at hs; exact absurd rfl hs
    · have h3 : ∀ n, cN (fun _ => false) n = 0 := by
        intro n
        induction n with
        | zero => rfl
        | succ n ih => show cN (fun _ => false) n + _ = 0; rw [ih]; rfl
      exact h3 n
  · exact hh.elim
set_option maxRecDepth 100000 in
theorem t_X4_nearestInNeed (l : Launch) (D : va_G) (cA : Nat → ClassId) (ad : Nat → Nat) : dm_Met l D dm_cl cA ad shC yX4_nearestInNeed (Cond.code yX4_nearestInNeed cX4_nearestInNeed 5 (dm_rt 1) :: dm_tt) ({ frames := 2, cells := 0, slots := 0, locals := 55 } : Room) sp_X4_nearestInNeed := dm_meth (own := RX4) (X := x_X4_nearestInNeed) (Sp := k_X4_nearestInNeed) (prog := p_X4_nearestInNeed) (by decide +kernel) rfl rfl (dm_FO_s ffX4 [(15, 4, 4), (26, 4, 0), (30, 4, 1), (79, 1, 7), (95, 2, 8)] rfl dm_hT (by decide +kernel)) (dm_IO_s ifX4 jfX4 [] [] rfl rfl dm_hT (by decide +kernel) (by decide +kernel)) soC (dm_MO_of (List.forall_mem_cons.mpr ⟨dm_M1_of (t_X4_markSources l D cA ad) dm_hT (dm_mem [770, 72, 767] (by decide +kernel) (by decide +kernel)) (by decide) (by decide +kernel) (Or.inr ⟨by decide, dm_mem [769, 28] (by decide +kernel) (by decide +kernel), rfl⟩), List.forall_mem_cons.mpr ⟨dm_M1_of (t_X4_nearestNotDone l D cA ad) dm_hT (dm_mem [775, 72, 772] (by decide +kernel) (by decide +kernel)) (by decide) (by decide +kernel) (Or.inr ⟨by decide, dm_mem [774, 29] (by decide +kernel) (by decide +kernel), rfl⟩), List.forall_mem_cons.mpr ⟨dm_M1_of (t_X4_goOn l D cA ad) dm_hT (dm_mem [779, 72, 776] (by decide +kernel) (by decide +kernel)) (by decide) (by decide +kernel) (Or.inr ⟨by decide, dm_mem [778, 30] (by decide +kernel) (by decide +kernel), rfl⟩), fun _ h => absurd h List.not_mem_nil⟩⟩⟩)) v_X4_nearestInNeed u_X4_nearestInNeed
end
section
/-! ===== Paths.useFalling ===== -/
def ufS (b e : Nat → Nat) (c mm p : Nat → Int) (dl : Int) (lo ex : Nat → Int) : Nat → (Nat → Int) × (Nat → Int)
  | 0 => (lo, ex)
  | k + 1 => if dl ≤ wm mm (ufS b e c mm p dl lo ex k).1 k ∧ wr c k < p (we b e k) - p (wb b e k) then (pX k (wm mm (ufS b e c mm p dl lo ex k).1 k) (ufS b e c mm p dl lo ex k).1, pE b e k (wm mm (ufS b e c mm p dl lo ex k).1 k) (ufS b e c mm p dl lo ex k).2) else ufS b e c mm p dl lo ex k
/-- what becomes of a lane's load; how much that is -/
def ufL (b e : Nat → Nat) (c mm p : Nat → Int) (dl : Int) (lo : Nat → Int) (l : Nat) : Int := if rc b e c p l < 0 ∧ dl ≤ mm l - lo l then mm l else if 0 < rc b e c p l ∧ dl ≤ lo l then 0 else lo l
def ufP (b e : Nat → Nat) (c mm p : Nat → Int) (dl : Int) (lo : Nat → Int) (l : Nat) : Int := if rc b e c p l < 0 ∧ dl ≤ mm l - lo l then mm l - lo l else if 0 < rc b e c p l ∧ dl ≤ lo l then lo l else 0
theorem ufS_s {b e : Nat → Nat} {c mm p : Nat → Int} {dl : Int} {lo ex : Nat → Int} {k : Nat} : ufS b e c mm p dl lo ex (k + 1) = if dl ≤ wm mm (ufS b e c mm p dl lo ex k).1 k ∧ wr c k < p (we b e k) - p (wb b e k) then (pX k (wm mm (ufS b e c mm p dl lo ex k).1 k) (ufS b e c mm p dl lo ex k).1, pE b e k (wm mm (ufS b e c mm p dl lo ex k).1 k) (ufS b e c mm p dl lo ex k).2) else ufS b e c mm p dl lo ex k := rfl
theorem pX_dv {K : Nat} {b e : Nat → Nat} {w v : Nat} {a : Int} {x ex : Nat → Int} (hw : w < 2 * K) : pE b e w a ex v + dv K b e (pX w a x) v = ex v + dv K b e x v := by
  unfold pX pE
  rw [dv_upd (by omega)]
  unfold sg wb we
  by_cases q : w % 2 = 0
  · simp only [if_pos q, Int.one_mul]; omega
  · simp only [if_neg q]
    split <;> split <;> omega
theorem pE_pe {n : Nat} {b e : Nat → Nat} {w : Nat} {r : Int} {ex : Nat → Int} (hr : 0 ≤ r) (hw : we b e w < n) : pe n (pE b e w r ex) ≤ pe n ex + r := by
  have h1 : pe n (pE b e w r ex) ≤ sI (fun v => (if 0 ≤ ex v then ex v else 0) + (if v = we b e w then r else 0)) n := sI_le (fun v _ => by
    show (if 0 ≤ pE b e w r ex v then pE b e w r ex v else 0) ≤ (if 0 ≤ ex v then ex v else 0) + (if v = we b e w then r else 0)
    unfold pE
    by_cases q1 : we b e w = v
    · rw [if_pos q1, if_pos q1.symm]
      split <;> split <;> split <;> omega
    · rw [if_neg q1, if_neg (Ne.symm q1)]
      split <;> split <;> split <;> omega)
  rw [sI_add, sI_one, if_pos hw] at h1
  exact h1
section
variable {n K : Nat} {b e : Nat → Nat} {c mm p : Nat → Int} {dl : Int} {lo ex : Nat → Int}
theorem ufS_two (hd : 1 ≤ dl) (hl : fits K mm lo) : ∀ j, j ≤ K → ∀ l, (ufS b e c mm p dl lo ex (2 * j)).1 l = if l < j then ufL b e c mm p dl lo l else lo l
  | 0, _, l => by rw [if_neg (Nat.not_lt_zero _)]; rfl
  | j + 1, hj, l => by
    have ih := ufS_two hd hl j (by omega)
    have hj0 := hl j (by omega)
    have hc0 : (ufS b e c mm p dl lo ex (2 * j)).1 j = lo j := by rw [ih j, if_neg (Nat.lt_irrefl _)]
    have d0 : 2 * j / 2 = j := by omega
    have d1 : (2 * j + 1) / 2 = j := by omega
    have w0 : ∀ x : Nat → Int, wm mm x (2 * j) = mm j - x j := fun x => by unfold wm; rw [if_pos (by omega), d0]
    have w1 : ∀ x : Nat → Int, wm mm x (2 * j + 1) = x j := fun x => by unfold wm; rw [if_neg (by omega), d1]
    have r0 : wr c (2 * j) < p (we b e (2 * j)) - p (wb b e (2 * j)) ↔ rc b e c p j < 0 := by
      unfold wr we wb rc
      rw [if_pos (by omega), if_pos (by omega), if_pos (by omega), d0]; omega
    have r1 : wr c (2 * j + 1) < p (we b e (2 * j + 1)) - p (wb b e (2 * j + 1)) ↔ 0 < rc b e c p j := by
      unfold wr we wb rc
      rw [if_neg (by omega), if_neg (by omega), if_neg (by omega), d1]; omega
    have s0 : sg (2 * j) = 1 := if_pos (by omega)
    have s1 : sg (2 * j + 1) = -1 := if_neg (by omega)
    have hA : ∀ x, (ufS b e c mm p dl lo ex (2 * j + 1)).1 x = if x = j ∧ rc b e c p j < 0 ∧ dl ≤ mm j - lo j then mm j else (ufS b e c mm p dl lo ex (2 * j)).1 x := by
      intro x
      rw [ufS_s]
      simp only [w0, r0, hc0]
      by_cases q : dl ≤ mm j - lo j ∧ rc b e c p j < 0
      · rw [if_pos q]
        show pX (2 * j) (mm j - lo j) (ufS b e c mm p dl lo ex (2 * j)).1 x = _
        unfold pX uI
        rw [d0, s0, hc0]
        by_cases y : x = j
        · rw [if_pos y, if_pos ⟨y, q.2, q.1⟩]; omega
        · rw [if_neg y, if_neg (fun z => y z.1)]
      · rw [if_neg q, if_neg (fun z => q ⟨z.2.2, z.2.1⟩)]
    have hB : ∀ x, (ufS b e c mm p dl lo ex (2 * j + 1 + 1)).1 x = if x = j then ufL b e c mm p dl lo j else (ufS b e c mm p dl lo ex (2 * j)).1 x := by
      intro x
      have eL : ufL b e c mm p dl lo j = if rc b e c p j < 0 ∧ dl ≤ mm j - lo j then mm j else if 0 < rc b e c p j ∧ dl ≤ lo j then 0 else lo j := rfl
      rw [ufS_s, eL]
      by_cases q1 : rc b e c p j < 0 ∧ dl ≤ mm j - lo j
      · have hv1 : (ufS b e c mm p dl lo ex (2 * j + 1)).1 j = mm j := by rw [hA j, if_pos ⟨rfl, q1⟩]
        simp only [w1, r1, hv1]
        rw [if_neg (fun z => by omega), hA x]
        by_cases y : x = j
        · rw [if_pos ⟨y, q1⟩, if_pos y, if_pos q1]
        · rw [if_neg (fun z => y z.1), if_neg y]
      · have hv1 : (ufS b e c mm p dl lo ex (2 * j + 1)).1 j = lo j := by rw [hA j, if_neg (fun z => q1 z.2), hc0]
        simp only [w1, r1, hv1]
        by_cases q2 : dl ≤ lo j ∧ 0 < rc b e c p j
        · rw [if_pos q2]
          show pX (2 * j + 1) (lo j) (ufS b e c mm p dl lo ex (2 * j + 1)).1 x = _
          unfold pX uI
          rw [d1, s1, hv1]
          by_cases y : x = j
          · rw [if_pos y, if_pos y, if_neg q1, if_pos ⟨q2.2, q2.1⟩]; omega
          · rw [if_neg y, if_neg y, hA x, if_neg (fun z => y z.1)]
        · rw [if_neg q2, hA x, if_neg (fun z => q1 z.2)]
          by_cases y : x = j
          · rw [if_pos y, if_neg q1, if_neg (fun z => q2 ⟨z.2, z.1⟩), y, hc0]
          · rw [if_neg y]
    rw [show 2 * (j + 1) = 2 * j + 1 + 1 by omega, hB l, ih l]
    by_cases y : l = j
    · rw [if_pos y, if_pos (by omega), y]
    · rw [if_neg y]
      by_cases y2 : l < j
      · rw [if_pos y2, if_pos (by omega)]
      · rw [if_neg y2, if_neg (by omega)]
theorem ufS_ex (hb : nd n K b e) (hl : fits K mm lo) (hd : 1 ≤ dl) (hW : ∀ l, l < K → mm l ≤ 1000000000) : ∀ k, k ≤ 2 * K → fits K mm (ufS b e c mm p dl lo ex k).1 ∧ (∀ v, v < n → (ufS b e c mm p dl lo ex k).2 v + dv K b e (ufS b e c mm p dl lo ex k).1 v = ex v + dv K b e lo v) ∧ (∀ v, v < n → ex v - k * 1000000000 ≤ (ufS b e c mm p dl lo ex k).2 v ∧ (ufS b e c mm p dl lo ex k).2 v ≤ ex v + k * 1000000000)
  | 0, _ => ⟨hl, fun _ _ => rfl, fun v _ => by
    show ex v - ((0 : Nat) : Int) * 1000000000 ≤ ex v ∧ ex v ≤ ex v + ((0 : Nat) : Int) * 1000000000
    omega⟩
  | k + 1, hk => by
    obtain ⟨i1, i2, i3⟩ := ufS_ex hb hl hd hW k (by omega)
    have hk0 := i1 (k / 2) (by omega)
    have hWk := hW (k / 2) (by omega)
    have hm : 0 ≤ wm mm (ufS b e c mm p dl lo ex k).1 k ∧ wm mm (ufS b e c mm p dl lo ex k).1 k ≤ 1000000000 := by
      unfold wm
      split <;> omega
    rw [ufS_s]
    by_cases q : dl ≤ wm mm (ufS b e c mm p dl lo ex k).1 k ∧ wr c k < p (we b e k) - p (wb b e k)
    · rw [if_pos q]
      refine ⟨fun l hl2 => ?_, fun v hv => ?_, fun v hv => ?_⟩
      · show 0 ≤ pX k _ (ufS b e c mm p dl lo ex k).1 l ∧ pX k _ (ufS b e c mm p dl lo ex k).1 l ≤ mm l
        unfold pX uI
        by_cases y : l = k / 2
        · rw [if_pos y, y]
          unfold sg wm
          by_cases y2 : k % 2 = 0
          · rw [if_pos y2, if_pos y2]; omega
          · rw [if_neg y2, if_neg y2]; omega
        · rw [if_neg y]; exact i1 l hl2
      · show pE b e k _ (ufS b e c mm p dl lo ex k).2 v + dv K b e (pX k _ (ufS b e c mm p dl lo ex k).1) v = _
        rw [pX_dv (by omega)]; exact i2 v hv
      · have := i3 v hv
        show _ ≤ pE b e k _ (ufS b e c mm p dl lo ex k).2 v ∧ pE b e k _ (ufS b e c mm p dl lo ex k).2 v ≤ _
        unfold pE
        split <;> split <;> omega
    · rw [if_neg q]
      refine ⟨i1, i2, fun v hv => ?_⟩
      have := i3 v hv
      omega
theorem ufS_pe (hb : nd n K b e) (hl : fits K mm lo) (hd : 1 ≤ dl) (hW : ∀ l, l < K → mm l ≤ 1000000000) : ∀ j, j ≤ K → pe n (ufS b e c mm p dl lo ex (2 * j)).2 ≤ pe n ex + sI (ufP b e c mm p dl lo) j
  | 0, _ => by show pe n ex ≤ pe n ex + 0; omega
  | j + 1, hj => by
    have ih := ufS_pe hb hl hd hW j (by omega)
    have hj0 := hl j (by omega)
    have hc0 : (ufS b e c mm p dl lo ex (2 * j)).1 j = lo j := by rw [ufS_two hd hl j (by omega) j, if_neg (Nat.lt_irrefl _)]
    obtain ⟨b1, b2⟩ := hb j (by omega)
    have d0 : 2 * j / 2 = j := by omega
    have d1 : (2 * j + 1) / 2 = j := by omega
    have w0 : ∀ x : Nat → Int, wm mm x (2 * j) = mm j - x j := fun x => by unfold wm; rw [if_pos (by omega), d0]
    have w1 : ∀ x : Nat → Int, wm mm x (2 * j + 1) = x j := fun x => by unfold wm; rw [if_neg (by omega), d1]
    have r0 : wr c (2 * j) < p (we b e (2 * j)) - p (wb b e (2 * j)) ↔ rc b e c p j < 0 := by
      unfold wr we wb rc
      rw [if_pos (by omega), if_pos (by omega), if_pos (by omega), d0]; omega
    have r1 : wr c (2 * j + 1) < p (we b e (2 * j + 1)) - p (wb b e (2 * j + 1)) ↔ 0 < rc b e c p j := by
      unfold wr we wb rc
      rw [if_neg (by omega), if_neg (by omega), if_neg (by omega), d1]; omega
    have n0 : we b e (2 * j) < n := by unfold we; rw [if_pos (by omega), d0]; exact b2
    have n1 : we b e (2 * j + 1) < n := by unfold we; rw [if_neg (by omega), d1]; exact b1
    rw [show 2 * (j + 1) = 2 * j + 1 + 1 by omega]
    show _ ≤ pe n ex + (sI (ufP b e c mm p dl lo) j + ufP b e c mm p dl lo j)
    have hS1 : ufS b e c mm p dl lo ex (2 * j + 1) = if dl ≤ mm j - lo j ∧ rc b e c p j < 0 then (pX (2 * j) (mm j - lo j) (ufS b e c mm p dl lo ex (2 * j)).1, pE b e (2 * j) (mm j - lo j) (ufS b e c mm p dl lo ex (2 * j)).2) else ufS b e c mm p dl lo ex (2 * j) := by
      rw [ufS_s]
      simp only [w0, r0, hc0]
    have eP : ufP b e c mm p dl lo j = if rc b e c p j < 0 ∧ dl ≤ mm j - lo j then mm j - lo j else if 0 < rc b e c p j ∧ dl ≤ lo j then lo j else 0 := rfl
    rw [ufS_s, eP]
    by_cases q1 : dl ≤ mm j - lo j ∧ rc b e c p j < 0
    · rw [if_pos q1] at hS1
      have hv1 : (ufS b e c mm p dl lo ex (2 * j + 1)).1 j = mm j := by
        rw [hS1]
        show pX (2 * j) (mm j - lo j) (ufS b e c mm p dl lo ex (2 * j)).1 j = mm j
        unfold pX uI
        rw [d0, if_pos rfl, hc0, show sg (2 * j) = 1 from if_pos (by omega)]; omega
      simp only [w1, r1, hv1]
      rw [if_neg (fun z => by omega), if_pos ⟨q1.2, q1.1⟩, hS1]
      have := pE_pe (ex := (ufS b e c mm p dl lo ex (2 * j)).2) (r := mm j - lo j) (by omega) n0
      show pe n (pE b e (2 * j) (mm j - lo j) (ufS b e c mm p dl lo ex (2 * j)).2) ≤ _
      omega
    · rw [if_neg q1] at hS1
      simp only [w1, r1]
      rw [hS1, hc0, if_neg (show ¬ (rc b e c p j < 0 ∧ dl ≤ mm j - lo j) from fun z => q1 ⟨z.2, z.1⟩)]
      by_cases q2 : dl ≤ lo j ∧ 0 < rc b e c p j
      · rw [if_pos q2, if_pos ⟨q2.2, q2.1⟩]
        have := pE_pe (ex := (ufS b e c mm p dl lo ex (2 * j)).2) (r := lo j) (by omega) n1
        show pe n (pE b e (2 * j + 1) (lo j) (ufS b e c mm p dl lo ex (2 * j)).2) ≤ _
        omega
      · rw [if_neg q2, if_neg (show ¬ (0 < rc b e c p j ∧ dl ≤ lo j) from fun z => q2 ⟨z.2, z.1⟩)]
        omega
theorem ufS_inv (hd : 1 ≤ dl) (hl : fits K mm lo) : ∀ w, w < 2 * K → dl ≤ wm mm (ufS b e c mm p dl lo ex (2 * K)).1 w → 0 ≤ rcw b e c p w := by
  intro w hw hm
  have hw2 : w / 2 < K := by omega
  have h0 := hl _ hw2
  have h1 := ufS_two (b := b) (e := e) (c := c) (p := p) (ex := ex) hd hl K (Nat.le_refl _) (w / 2)
  rw [if_pos hw2] at h1
  unfold wm at hm
  rw [h1] at hm
  unfold ufL at hm
  unfold rcw wr wb we
  have hr : rc b e c p (w / 2) = c (w / 2) + p (b (w / 2)) - p (e (w / 2)) := rfl
  by_cases q : w % 2 = 0
  · rw [if_pos q] at hm
    rw [if_pos q, if_pos q, if_pos q, ← hr]
    by_cases y1 : rc b e c p (w / 2) < 0 ∧ dl ≤ mm (w / 2) - lo (w / 2)
    · rw [if_pos y1] at hm; omega
    · rw [if_neg y1] at hm
      by_cases y2 : 0 < rc b e c p (w / 2) ∧ dl ≤ lo (w / 2)
      · omega
      · rw [if_neg y2] at hm; omega
  · rw [if_neg q] at hm
    rw [if_neg q, if_neg q, if_neg q]
    by_cases y1 : rc b e c p (w / 2) < 0 ∧ dl ≤ mm (w / 2) - lo (w / 2)
    · omega
    · rw [if_neg y1] at hm
      by_cases y2 : 0 < rc b e c p (w / 2) ∧ dl ≤ lo (w / 2)
      · rw [if_pos y2] at hm; omega
      · rw [if_neg y2] at hm; omega
end
def sp_X4_useFalling (As : List Value) (u : dm_S) (Q : Option Value → dm_S → Prop) : Prop := match As with
  | [.ref 6, .long d] => ∃ (n K : Nat) (b e : Nat → Nat) (c mm lo ex p : Nat → Int) (dl : Int), LA u n K b e mm lo ex ∧ fits K mm lo ∧ (∀ l, l < K → mm l ≤ 1000000000) ∧ u.2 23 = lF c ∧ (∀ l, l < K → -1000000 ≤ c l ∧ c l ≤ 1000000) ∧ u.2 36 = lF p ∧ (∀ v, v < n → -1152921504606846976 ≤ p v ∧ p v ≤ 1152921504606846976) ∧ d = lI dl ∧ lB dl ∧ 1 ≤ dl ∧ Q none (st_x u (ufS b e c mm p dl lo ex (2 * K)).1 (ufS b e c mm p dl lo ex (2 * K)).2)
  | _ => False
def p_X4_useFalling : List dm_I := [(0, .iconst 0, 1, []), (1, .istore_n 3, 1, [3]), (2, .iload_n 3, 1, [3]), (3, .iconst 2, 1, []), (4, .aload_n 0, 1, [0]), (5, .getfield 30, 3, []), (8, .getfield 48, 3, []), (11, .imul, 1, []), (12, .if_icmp .ge 79, 3, [91]), (15, .aload_n 0, 1, [0]), (16, .getfield 30, 3, []), (19, .iload_n 3, 1, [3]), (20, .invokevirtual 54, 3, []), (23, .lstore 4, 2, []), (25, .aload_n 0, 1, [0]), (26, .getfield 34, 3, []), (29, .aload_n 0, 1, [0]), (30, .getfield 30, 3, []), (33, .iload_n 3, 1, [3]), (34, .invokevirtual 58, 3, []), (37, .laload, 1, []), (38, .aload_n 0, 1, [0]), (39, .getfield 34, 3, []), (42, .aload_n 0, 1, [0]), (43, .getfield 30, 3, []), (46, .iload_n 3, 1, [3]), (47, .invokevirtual 62, 3, []), (50, .laload, 1, []), (51, .lsub, 1, []), (52, .lstore 6, 2, []), (54, .lload 4, 2, []), (56, .lload_n 1, 1, [1]), (57, .lcmp, 1, []), (58, .ifCond .lt 27, 3, [85]), (61, .aload_n 0, 1, [0]), (62, .getfield 30, 3, []), (65, .iload_n 3, 1, [3]), (66, .invokevirtual 65, 3, []), (69, .lload 6, 2, []), (71, .lcmp, 1, []), (72, .ifCond .ge 13, 3, [85]), (75, .aload_n 0, 1, [0]), (76, .getfield 30, 3, []), (79, .iload_n 3, 1, [3]), (80, .lload 4, 2, []), (82, .invokevirtual 68, 3, []), (85, .iinc 3 1, 3, []), (88, .goto (-86), 3, [2]), (91, .return_, 1, [])]
set_option maxRecDepth 100000 in
theorem v_X4_useFalling : p_X4_useFalling.all (dm_vb cX4_useFalling) = true := by decide +kernel
def k_X4_useFalling : dm_Sp := fun a => match a with
  | 0 => sp_X1_roomOf
  | 1 => sp_X1_endOf
  | 2 => sp_X1_beginOf
  | 3 => sp_X1_rateOf
  | 4 => sp_X1_push
  | _ => fun _ _ _ => False
def x_X4_useFalling : dm_X := dm_mk [(30, 4, 1), (34, 4, 2), (48, 1, 10)] [] [] [(54, 0, 1, 1), (58, 1, 1, 1), (62, 2, 1, 1), (65, 3, 1, 1), (68, 4, 2, 1)] 0
set_option maxRecDepth 100000 in
set_option maxHeartbeats 1600000 in
theorem u_X4_useFalling : dm_Pure shC x_X4_useFalling k_X4_useFalling p_X4_useFalling 8 sp_X4_useFalling := by
  intro As u Qp hh
  unfold sp_X4_useFalling at hh
  split at hh
  · obtain ⟨n, K, b, e, c, mm, lo, ex, p, dl, hA, hl, hW, e23, hc, e36, hp, rfl, hdl, hd1, h⟩ := hh
    obtain ⟨hn, hK, en, eK⟩ := hA.1.1
    have hnd := ln_nd hA.1
    refine ⟨Nat.le_of_ble_eq_true rfl, fun G Wp hW0 hW1 hG => ?_⟩
    have loop : ∀ k w : Nat, w + k = 2 * K → ∀ (o4 o5 o6 o7 : Option Value), G 2 [some (.ref 6), some (.long (lI dl)), none, some (.int (nI w)), o4, o5, o6, o7] [] (st_x u (ufS b e c mm p dl lo ex w).1 (ufS b e c mm p dl lo ex w).2) := by
      intro k
      induction k with
      | zero =>
        intro w hw o4 o5 o6 o7
        have e0 : w = 2 * K := by omega
        subst e0
        apply hG (fun pc => pc == 2) 80
        simp (config := { maxSteps := 2000000 }) [-Prod.forall, -Prod.exists, -exists_and_left, -exists_and_right, hW0, hW1, dm_fn, dm_fd, dm_x, dm_L0, dm_la, dm_t1, dm_sw, List.headD, dm_ic, dm_mk, dm_s1, dm_s2, dm_clr, dm_cs, dm_cc, dm_nb0, dm_nb1, Value.category, List.lookup, p_X4_useFalling, x_X4_useFalling, k_X4_useFalling, dm_cm, upd, vp_updL, dm_ui_1, dm_ui_2, dm_ul_1, dm_ul_2, sp_X1_roomOf, sp_X1_endOf, sp_X1_beginOf, sp_X1_rateOf, sp_X1_push, sC_0, sC_1, sC_2, sC_3, sC_4, sC_5, sC_6, sC_7, sC_8, sC_9, sC_10, sC_11, sC_12, sC_13, sC_14, sC_15, sC_16, sC_17, sC_18, sC_19, sC_20, sC_21, sC_22, sC_23, sC_24, sC_25, sC_26, sC_27, sC_28, sC_29, sC_30, sC_31, sC_32, sC_33, sC_34, sC_35, sC_36, sC_37, sC_38, sC_39, sC_40, sC_41, sC_42, sC_43, sC_44, sC_45, sC_46, sC_47, sC_48, sC_49, sC_50, sC_51]
        rw [st_x1, eK, show (2 : Int32) = nI 2 from rfl, pk_mul]
        exact ⟨fun _ => h, fun zq => absurd zq (nI_nlt (Nat.le_refl _) (by omega))⟩
      | succ k ih =>
        intro w hw o4 o5 o6 o7
        have hwK : w < 2 * K := by omega
        obtain ⟨i1, i2, i3⟩ := ufS_ex (n := n) (c := c) (p := p) (ex := ex) hnd hl hd1 hW w (by omega)
        obtain ⟨e1, l1⟩ := ln_b hA.1 hwK
        obtain ⟨e2, l2⟩ := ln_e hA.1 hwK
        have hLA : LA (st_x u (ufS b e c mm p dl lo ex w).1 (ufS b e c mm p dl lo ex w).2) n K b e mm (ufS b e c mm p dl lo ex w).1 (ufS b e c mm p dl lo ex w).2 := ⟨hA.1, (st_xo (by decide) (by decide)).trans hA.2.1, st_x24, st_x25⟩
        have hrm := LA_m (w := w) hLA
        have hr := LA_r (w := w) (u := st_x u (ufS b e c mm p dl lo ex w).1 (ufS b e c mm p dl lo ex w).2) ((st_xo (by decide) (by decide)).trans e23)
        have hb1 : lw_b (st_x u (ufS b e c mm p dl lo ex w).1 (ufS b e c mm p dl lo ex w).2) w = nI (wb b e w) := e1
        have he1 : lw_e (st_x u (ufS b e c mm p dl lo ex w).1 (ufS b e c mm p dl lo ex w).2) w = nI (we b e w) := e2
        have h36 : (st_x u (ufS b e c mm p dl lo ex w).1 (ufS b e c mm p dl lo ex w).2).2 36 = lF p := (st_xo (by decide) (by decide)).trans e36
        have cb : (nI (wb b e w)).toNatClampNeg = wb b e w := nI_clamp (by omega)
        have ce : (nI (we b e w)).toNatClampNeg = we b e w := nI_clamp (by omega)
        have hlw := i1 (w / 2) (by omega)
        have hWw := hW (w / 2) (by omega)
        have hBm : lB (wm mm (ufS b e c mm p dl lo ex w).1 w) := by
          unfold lB wm
          split <;> omega
        have hpb := hp _ l1
        have hpe := hp _ l2
        have hwr := wr_bd hc hwK
        have ib : vp_in (nI (wb b e w)) 24 := vp_in_nI (by omega) (by omega)
        have ie : vp_in (nI (we b e w)) 24 := vp_in_nI (by omega) (by omega)
        have hu := ufS_s (b := b) (e := e) (c := c) (mm := mm) (p := p) (dl := dl) (lo := lo) (ex := ex) (k := w)
        apply hG (fun pc => pc == 2) 80
        simp (config := { maxSteps := 2000000 }) [-Prod.forall, -Prod.exists, -exists_and_left, -exists_and_right, hW0, hW1, dm_fn, dm_fd, dm_x, dm_L0, dm_la, dm_t1, dm_sw, List.headD, dm_ic, dm_mk, dm_s1, dm_s2, dm_clr, dm_cs, dm_cc, dm_nb0, dm_nb1, Value.category, List.lookup, p_X4_useFalling, x_X4_useFalling, k_X4_useFalling, dm_cm, upd, vp_updL, dm_ui_1, dm_ui_2, dm_ul_1, dm_ul_2, sp_X1_roomOf, sp_X1_endOf, sp_X1_beginOf, sp_X1_rateOf, sp_X1_push, sC_0, sC_1, sC_2, sC_3, sC_4, sC_5, sC_6, sC_7, sC_8, sC_9, sC_10, sC_11, sC_12, sC_13, sC_14, sC_15, sC_16, sC_17, sC_18, sC_19, sC_20, sC_21, sC_22, sC_23, sC_24, sC_25, sC_26, sC_27, sC_28, sC_29, sC_30, sC_31, sC_32, sC_33, sC_34, sC_35, sC_36, sC_37, sC_38, sC_39, sC_40, sC_41, sC_42, sC_43, sC_44, sC_45, sC_46, sC_47, sC_48, sC_49, sC_50, sC_51]
        rw [st_x1, eK, show (2 : Int32) = nI 2 from rfl, pk_mul, nI_1]
        refine ⟨fun zq => absurd zq (nI_ge (by omega) (by omega)), fun zq => ⟨w, by omega, rfl, w, by omega, rfl, ?_⟩⟩
        have keep : ¬ (dl ≤ wm mm (ufS b e c mm p dl lo ex w).1 w ∧ wr c w < p (we b e w) - p (wb b e w)) → ∀ (o4 o5 o6 o7 : Option Value), G 2 [some (.ref 6), some (.long (lI dl)), none, some (.int (nI (w + 1))), o4, o5, o6, o7] [] (st_x u (ufS b e c mm p dl lo ex w).1 (ufS b e c mm p dl lo ex w).2) := by
          intro hk o4 o5 o6 o7
          have := ih (w + 1) (by omega) o4 o5 o6 o7
          rw [hu, if_neg hk] at this
          exact this
        have hBw : lB (wr c w) := by unfold lB; omega
        have hBg : lB (p (we b e w) - p (wb b e w)) := by unfold lB; omega
        refine ⟨by rw [he1]; exact ie, w, by omega, rfl, by rw [hb1]; exact ib, fun z => ?_, fun z => ⟨w, by omega, rfl, fun z2 => ?_, fun z2 => ⟨w, by omega, rfl, by rw [hb1]; exact ib, by rw [he1]; exact ie, ?_⟩⟩⟩
        · rw [hrm, lI_lt hBm hdl] at z
          exact keep (fun y => by omega) _ _ _ _
        · rw [hr, h36, he1, hb1, ce, cb, lF_at, lF_at, lI_sub, lI_le hBg hBw] at z2
          exact keep (fun y => by omega) _ _ _ _
        · rw [hrm, lI_le hdl hBm] at z
          rw [hr, h36, he1, hb1, ce, cb, lF_at, lF_at, lI_sub, lI_lt hBw hBg] at z2
          rw [hrm, ln_pu hA.1 hwK]
          have := ih (w + 1) (by omega)
          rw [hu, if_pos ⟨z, z2⟩] at this
          exact this _ _ _ _
    apply hG (fun pc => pc == 2) 80
    simp (config := { maxSteps := 2000000 }) [-Prod.forall, -Prod.exists, -exists_and_left, -exists_and_right, hW0, hW1, dm_fn, dm_fd, dm_x, dm_L0, dm_la, dm_t1, dm_sw, List.headD, dm_ic, dm_mk, dm_s1, dm_s2, dm_clr, dm_cs, dm_cc, dm_nb0, dm_nb1, Value.category, List.lookup, p_X4_useFalling, x_X4_useFalling, k_X4_useFalling, dm_cm, upd, vp_updL, dm_ui_1, dm_ui_2, dm_ul_1, dm_ul_2, sp_X1_roomOf, sp_X1_endOf, sp_X1_beginOf, sp_X1_rateOf, sp_X1_push, sC_0, sC_1, sC_2, sC_3, sC_4, sC_5, sC_6, sC_7, sC_8, sC_9, sC_10, sC_11, sC_12, sC_13, sC_14, sC_15, sC_16, sC_17, sC_18, sC_19, sC_20, sC_21, sC_22, sC_23, sC_24, sC_25, sC_26, sC_27, sC_28, sC_29, sC_30, sC_31, sC_32, sC_33, sC_34, sC_35, sC_36, sC_37, sC_38, sC_39, sC_40, sC_41, sC_42, sC_43, sC_44, sC_45, sC_46, sC_47, sC_48, sC_49, sC_50, sC_51]
    have := loop (2 * K) 0 (by omega) none none none none
    rw [show st_x u (ufS b e c mm p dl lo ex 0).1 (ufS b e c mm p dl lo ex 0).2 = u from st_xs hA.2.2.1 hA.2.2.2] at this
    exact this
  · exact hh.elim
set_option maxRecDepth 100000 in
theorem t_X4_useFalling (l : Launch) (D : va_G) (cA : Nat → ClassId) (ad : Nat → Nat) : dm_Met l D dm_cl cA ad shC yX4_useFalling (Cond.code yX4_useFalling cX4_useFalling 8 (dm_rt 0) :: dm_tt) ({ frames := 2, cells := 0, slots := 0, locals := 44 } : Room) sp_X4_useFalling := dm_meth (own := RX4) (X := x_X4_useFalling) (Sp := k_X4_useFalling) (prog := p_X4_useFalling) (by decide +kernel) rfl rfl (dm_FO_s ffX4 [(30, 4, 1), (34, 4, 2), (48, 1, 10)] rfl dm_hT (by decide +kernel)) (dm_IO_s ifX4 jfX4 [] [] rfl rfl dm_hT (by decide +kernel) (by decide +kernel)) soC (dm_MO_of (List.forall_mem_cons.mpr ⟨dm_M1_of (t_X1_roomOf l D cA ad) dm_hT (dm_mem [618, 68, 754] (by decide +kernel) (by decide +kernel)) (by decide) (by decide +kernel) (Or.inr ⟨by decide, dm_mem [616, 617] (by decide +kernel) (by decide +kernel), rfl⟩), List.forall_mem_cons.mpr ⟨dm_M1_of (t_X1_endOf l D cA ad) dm_hT (dm_mem [614, 68, 755] (by decide +kernel) (by decide +kernel)) (by decide) (by decide +kernel) (Or.inr ⟨by decide, dm_mem [612, 613] (by decide +kernel) (by decide +kernel), rfl⟩), List.forall_mem_cons.mpr ⟨dm_M1_of (t_X1_beginOf l D cA ad) dm_hT (dm_mem [553, 68, 756] (by decide +kernel) (by decide +kernel)) (by decide) (by decide +kernel) (Or.inr ⟨by decide, dm_mem [551, 552] (by decide +kernel) (by decide +kernel), rfl⟩), List.forall_mem_cons.mpr ⟨dm_M1_of (t_X1_rateOf l D cA ad) dm_hT (dm_mem [705, 68, 757] (by decide +kernel) (by decide +kernel)) (by decide) (by decide +kernel) (Or.inr ⟨by decide, dm_mem [703, 704] (by decide +kernel) (by decide +kernel), rfl⟩), List.forall_mem_cons.mpr ⟨dm_M1_of (t_X1_push l D cA ad) dm_hT (dm_mem [629, 68, 758] (by decide +kernel) (by decide +kernel)) (by decide) (by decide +kernel) (Or.inr ⟨by decide, dm_mem [627, 628] (by decide +kernel) (by decide +kernel), rfl⟩), fun _ h => absurd h List.not_mem_nil⟩⟩⟩⟩⟩)) v_X4_useFalling u_X4_useFalling
end
section
/-! ===== Paths.sendAtLeast ===== -/
def sa_fr (u u' : dm_S) : Prop := (∀ c, c ∉ [39, 40] → u'.1 c = u.1 c) ∧ ∀ c, c ∉ [24, 25, 36, 38, 41] → u'.2 c = u.2 c
theorem sa_fr0 (u : dm_S) : sa_fr u u := ⟨fun _ _ => rfl, fun _ _ => rfl⟩
theorem sa_frt {u u' u'' : dm_S} (h : sa_fr u u') (h2 : sa_fr u' u'') : sa_fr u u'' := ⟨fun c a => (h2.1 c a).trans (h.1 c a), fun c a => (h2.2 c a).trans (h.2 c a)⟩
theorem sa_pj {u u' : dm_S} (h : pj_fr u u') : sa_fr u u' := ⟨fun c hc => by simp at hc; exact h.1 c (by omega) (by omega), fun c hc => by simp at hc; exact h.2 c (by omega) (by omega)⟩
theorem sa_x {u : dm_S} {x ex : Nat → Int} : sa_fr u (st_x u x ex) := ⟨fun _ _ => rfl, fun c hc => by simp at hc; exact st_xo (by omega) (by omega)⟩
theorem sa_sj {u : dm_S} {f : Nat → Int64} : sa_fr u (dm_sj u 36 f) := ⟨fun _ _ => rfl, fun c hc => by simp at hc; rw [dm_sj_2, if_neg (by omega)]⟩
theorem ln_sa {u u' : dm_S} {n K : Nat} {b e : Nat → Nat} (h : ln_ok u n K b e) (hf : sa_fr u u') : ln_ok u' n K b e := by
  refine ⟨?_, fun l hl => ?_⟩
  · rw [hf.1 1 (by decide), hf.1 2 (by decide)]; exact h.1
  · rw [hf.1 20 (by decide), hf.1 21 (by decide)]; exact h.2 l hl
theorem so_sa {u u' : dm_S} {n K : Nat} {b e hd sr : Nat → Nat} (h : so_ok u n K b e hd sr) (hf : sa_fr u u') : so_ok u' n K b e hd sr := so_eq h (hf.1 26 (by decide)) (hf.1 27 (by decide))
theorem vi_dj {u : dm_S} {n : Nat} {vn : Nat → Option (Option Nat)} {D : Nat → Int} {dn : Nat → Bool} {car : Nat → Int} (h : dj_ok u n vn D dn car) : vi_ok u 40 n (bvi vn) := by
  intro v hv
  have h1 := (h v hv).1
  unfold bvi
  cases hq : vn v with
  | none => rw [hq] at h1; show u.1 40 v < 0; rw [h1]; decide
  | some o =>
    cases o with
    | none => rw [hq] at h1; show u.1 40 v < 0; rw [h1]; decide
    | some w => rw [hq] at h1; exact h1
def inv (K : Nat) (b e : Nat → Nat) (c mm lo p : Nat → Int) (dl : Int) : Prop := ∀ w, w < 2 * K → dl ≤ wm mm lo w → 0 ≤ rcw b e c p w
theorem inv_cg {n K : Nat} {b e : Nat → Nat} {c mm lo p q : Nat → Int} {dl : Int} (hb : nd n K b e) (h : inv K b e c mm lo p dl) (hq : ∀ v, v < n → q v = p v) : inv K b e c mm lo q dl := by
  intro w hw hm
  have h1 := h w hw hm
  obtain ⟨c1, c2⟩ := hb (w / 2) (by omega)
  have e1 : q (wb b e w) = p (wb b e w) ∧ q (we b e w) = p (we b e w) := by
    unfold wb we
    split
    · exact ⟨hq _ c1, hq _ c2⟩
    · exact ⟨hq _ c2, hq _ c1⟩
  unfold rcw at h1 ⊢
  rw [e1.1, e1.2]; exact h1
/-- nothing of at least dl can go any more: S is what a search reached -/
def stq (n K : Nat) (b e : Nat → Nat) (mm lo ex : Nat → Int) (dl : Int) (S : Nat → Bool) : Prop := (∀ v, v < n → dl ≤ ex v → S v = true) ∧ (∀ v, v < n → S v = true → -dl < ex v) ∧ ∀ w, w < 2 * K → dl ≤ wm mm lo w → S (wb b e w) = true → S (we b e w) = true
def sp_X4_sendAtLeast (As : List Value) (u : dm_S) (Q : Option Value → dm_S → Prop) : Prop := match As with
  | [.ref 6, .long d, .int x] => ∃ (n K : Nat) (b e : Nat → Nat) (c mm lo ex p : Nat → Int) (dl M : Int) (hd sr : Nat → Nat) (T : Nat), LA u n K b e mm lo ex ∧ LB n K mm lo ex ∧ so_ok u n K b e hd sr ∧ u.2 23 = lF c ∧ (∀ l, l < K → -1000000 ≤ c l ∧ c l ≤ 1000000) ∧ u.2 36 = lF p ∧ (d = lI dl ∧ 1 ≤ dl ∧ dl ≤ 1000000000) ∧ inv K b e c mm lo p dl ∧ ((∀ v, v < n → -24000000 ≤ p v ∧ p v ≤ M - 24000000) ∧ 0 ≤ M ∧ M ≤ 6600000000000000) ∧ x = nI T ∧ T ≤ 1000000 ∧
    (∀ (u' : dm_S) (lo' ex' p' : Nat → Int) (S : Nat → Bool), sa_fr u u' → LA u' n K b e mm lo' ex' → u'.2 36 = lF p' → snt n K b e (fun _ => true) mm lo ex lo' ex' → inv K b e c mm lo' p' dl → (∀ v, v < n → -24000000 ≤ p' v ∧ p' v ≤ 2 * M) → stq n K b e mm lo' ex' dl S → Q (some (.int 1)) u') ∧
    ∀ (u' : dm_S) (lo' ex' p' : Nat → Int), sa_fr u u' → LA u' n K b e mm lo' ex' → u'.2 36 = lF p' → snt n K b e (fun _ => true) mm lo ex lo' ex' → inv K b e c mm lo' p' dl → (∀ v, v < n → -24000000 ≤ p' v ∧ p' v ≤ 2 * M) → T * dl ≤ pe n ex → Q (some (.int 0)) u'
  | _ => False
def p_X4_sendAtLeast : List dm_I := [(0, .iconst 0, 1, []), (1, .istore 4, 2, []), (3, .iload 4, 2, []), (5, .iload_n 3, 1, [3]), (6, .if_icmp .ge 71, 3, [77]), (9, .aload_n 0, 1, [0]), (10, .lload_n 1, 1, [1]), (11, .invokevirtual 72, 3, []), (14, .istore 5, 2, []), (16, .iload 5, 2, []), (18, .iconst (-1), 1, []), (19, .if_icmp .ne 5, 3, [24]), (22, .iconst 1, 1, []), (23, .ireturn, 1, []), (24, .aload_n 0, 1, [0]), (25, .aload_n 0, 1, [0]), (26, .getfield 9, 3, []), (29, .iload 5, 2, []), (31, .laload, 1, []), (32, .iconst 5, 1, []), (33, .lshr, 1, []), (34, .invokevirtual 76, 3, []), (37, .aload_n 0, 1, [0]), (38, .getfield 30, 3, []), (41, .iload 5, 2, []), (43, .aload_n 0, 1, [0]), (44, .getfield 19, 3, []), (47, .aload_n 0, 1, [0]), (48, .getfield 23, 3, []), (51, .iload 5, 2, []), (53, .laload, 1, []), (54, .aload_n 0, 1, [0]), (55, .getfield 30, 3, []), (58, .getfield 79, 3, []), (61, .iload 5, 2, []), (63, .laload, 1, []), (64, .lneg, 1, []), (65, .invokestatic 82, 3, []), (68, .invokevirtual 88, 3, []), (71, .iinc 4 1, 3, []), (74, .goto (-71), 3, [3]), (77, .iconst 0, 1, []), (78, .ireturn, 1, [])]
set_option maxRecDepth 100000 in
theorem v_X4_sendAtLeast : p_X4_sendAtLeast.all (dm_vb cX4_sendAtLeast) = true := by decide +kernel
def k_X4_sendAtLeast : dm_Sp := fun a => match a with
  | 0 => sp_X4_nearestInNeed
  | 1 => sp_X4_raisePrices
  | 2 => sp_J9_min_f86c9
  | 3 => sp_X1_sendTo
  | _ => fun _ _ _ => False
def x_X4_sendAtLeast : dm_X := dm_mk [(9, 4, 3), (19, 4, 5), (23, 4, 6), (30, 4, 1), (79, 1, 7)] [] [] [(72, 0, 1, 4), (76, 1, 1, 4), (82, 2, 2, 1000), (88, 3, 3, 1)] 3
set_option maxRecDepth 100000 in
set_option maxHeartbeats 1600000 in
theorem u_X4_sendAtLeast : dm_Pure shC x_X4_sendAtLeast k_X4_sendAtLeast p_X4_sendAtLeast 6 sp_X4_sendAtLeast := by
  intro As u Qp hh
  unfold sp_X4_sendAtLeast at hh
  split at hh
  · obtain ⟨n, K, b, e, c, mm, lo, ex, p, dl, M, hd, sr, T, hA, hB, hS, e23, hc, e36, ⟨rfl, hdl, hdl2⟩, hinv, ⟨hp, hM0, hM⟩, rfl, hT, hx, hy⟩ := hh
    obtain ⟨hn, hK, en, eK⟩ := hA.1.1
    have hnd := ln_nd hA.1
    have hBd : lB dl := by unfold lB; omega
    refine ⟨Nat.le_of_ble_eq_true rfl, fun G Wp hW0 hW1 hG => ?_⟩
    have loop : ∀ k t : Nat, t + k = T → ∀ (u' : dm_S) (lo' ex' p' : Nat → Int) (Sg : Int) (o5 : Option Value), sa_fr u u' → LA u' n K b e mm lo' ex' → u'.2 36 = lF p' → snt n K b e (fun _ => true) mm lo ex lo' ex' → inv K b e c mm lo' p' dl → pe n ex' + t * dl ≤ pe n ex → (∀ v, v < n → (p v ≤ p' v ∧ p' v ≤ p v + Sg) ∧ (dl ≤ ex' v → p' v = p v) ∧ (ex' v ≤ -dl → p' v = p v + Sg)) → 0 ≤ Sg → Sg ≤ M + 24000000 → G 3 [some (.ref 6), some (.long (lI dl)), none, some (.int (nI T)), some (.int (nI t)), o5] [] u' := by
      intro k
      induction k with
      | zero =>
        intro t ht u' lo' ex' p' Sg o5 a1 a2 a3 a4 a5 a6 a7 a8 a9
        have e0 : t = T := by omega
        subst e0
        apply hG (fun pc => pc == 3) 80
        simp (config := { maxSteps := 2000000 }) [-Prod.forall, -Prod.exists, -exists_and_left, -exists_and_right, hW0, hW1, dm_fn, dm_fd, dm_x, dm_L0, dm_la, dm_t1, dm_sw, List.headD, dm_ic, dm_mk, dm_s1, dm_s2, dm_clr, dm_cs, dm_cc, dm_nb0, dm_nb1, Value.category, List.lookup, p_X4_sendAtLeast, x_X4_sendAtLeast, k_X4_sendAtLeast, dm_cm, upd, vp_updL, dm_ui_1, dm_ui_2, dm_ul_1, dm_ul_2, sp_X4_nearestInNeed, sp_X4_raisePrices, sp_J9_min_f86c9, sp_X1_sendTo, sC_0, sC_1, sC_2, sC_3, sC_4, sC_5, sC_6, sC_7, sC_8, sC_9, sC_10, sC_11, sC_12, sC_13, sC_14, sC_15, sC_16, sC_17, sC_18, sC_19, sC_20, sC_21, sC_22, sC_23, sC_24, sC_25, sC_26, sC_27, sC_28, sC_29, sC_30, sC_31, sC_32, sC_33, sC_34, sC_35, sC_36, sC_37, sC_38, sC_39, sC_40, sC_41, sC_42, sC_43, sC_44, sC_45, sC_46, sC_47, sC_48, sC_49, sC_50, sC_51]
        have hpe : 0 ≤ pe n ex' := sI_ge0 (fun v _ => by show 0 ≤ if 0 ≤ ex' v then ex' v else 0; split <;> omega)
        exact hy u' lo' ex' p' a1 a2 a3 a4 a5 (fun v hv => by have := hp v hv; have := (a7 v hv).1; omega) (by omega)
      | succ k ih =>
        intro t ht u' lo' ex' p' Sg o5 a1 a2 a3 a4 a5 a6 a7 a8 a9
        have hB' := snt_LB hB a4
        have hP : djP n K b e c mm lo' p' dl (M - 24000000) := by
          refine ⟨a5, hc, fun v hv => ?_, hdl⟩
          have := hp v hv
          have := (a7 v hv).1
          omega
        apply hG (fun pc => pc == 3) 80
        simp (config := { maxSteps := 2000000 }) [-Prod.forall, -Prod.exists, -exists_and_left, -exists_and_right, hW0, hW1, dm_fn, dm_fd, dm_x, dm_L0, dm_la, dm_t1, dm_sw, List.headD, dm_ic, dm_mk, dm_s1, dm_s2, dm_clr, dm_cs, dm_cc, dm_nb0, dm_nb1, Value.category, List.lookup, p_X4_sendAtLeast, x_X4_sendAtLeast, k_X4_sendAtLeast, dm_cm, upd, vp_updL, dm_ui_1, dm_ui_2, dm_ul_1, dm_ul_2, sp_X4_nearestInNeed, sp_X4_raisePrices, sp_J9_min_f86c9, sp_X1_sendTo, sC_0, sC_1, sC_2, sC_3, sC_4, sC_5, sC_6, sC_7, sC_8, sC_9, sC_10, sC_11, sC_12, sC_13, sC_14, sC_15, sC_16, sC_17, sC_18, sC_19, sC_20, sC_21, sC_22, sC_23, sC_24, sC_25, sC_26, sC_27, sC_28, sC_29, sC_30, sC_31, sC_32, sC_33, sC_34, sC_35, sC_36, sC_37, sC_38, sC_39, sC_40, sC_41, sC_42, sC_43, sC_44, sC_45, sC_46, sC_47, sC_48, sC_49, sC_50, sC_51]
        rw [nI_1]
        refine ⟨fun zq => absurd zq (nI_ge (by omega) (by omega)), fun zq => ⟨n, K, b, e, c, mm, lo', ex', p', dl, M - 24000000, hd, sr, a2, hB', so_sa hS a1, (a1.2 23 (by decide)).trans e23, a3, rfl, hBd, hP, fun v hv hz => ?_, fun u1 vn D h dn car v b1 b2 b3 b4 b5 b6 hv hs hd0 hne hmin => ?_, fun u1 S b1 b2 b3 b4 => ?_⟩⟩
        · rw [(a7 v hv).2.1 hz]; exact (hp v hv).2
        · have cv : (nI v).toNatClampNeg = v := nI_clamp (by omega)
          have iv : vp_in (nI v) 24 := vp_in_nI (by omega) (by omega)
          have en1 : u1.1 1 8 = nI n := by rw [b1.1 1 (by decide) (by decide), a1.1 1 (by decide)]; exact en
          have hDB : ∀ y, y < n → 0 ≤ D y ∧ D y ≤ 1152921504606846976 := by
            intro y hy
            by_cases q : vn y = none
            · have := b3.1 y hy
              unfold djN at this
              rw [q] at this
              rw [this.1]
              unfold fAR; omega
            · have := dj_far hn hP b3 hy q
              omega
          have hDv := hDB v hv
          obtain ⟨⟨g1, g2, g3⟩, g4, ⟨g5, g6⟩, g7⟩ := dj_send hn hnd hP a4.1 b3 b4 b5 hv hs hd0 hne hmin (a := mn2 (car v) (-ex' v)) rfl
          have hvn := (dj_div hn b3 hv hs).2.2.2
          have l1 : lB (-ex' v) := by have := hB'.2.2 _ hv; unfold lB; omega
          have e36' : u1.2 36 = lF p' := (b1.2 36 (by decide) (by decide)).trans a3
          have hA1 := LA_pj a2 b1
          rw [cv]
          refine ⟨fun _ => ⟨iv, n, D, p', D v / 32, hn, en1, fun y hy => ⟨(b2 y hy).2.1, hDB y hy⟩, e36', by rw [(b2 v hv).2.1, lI_sh5 (by omega)], by unfold lB; omega, iv, n, K, b, e, bvi vn, h, lo', ex', v, mn2 (car v) (-ex' v), ?_⟩, fun z => absurd (z ▸ nI_pos (n := v) (by omega)) (by decide)⟩
          have hmin2 : (if u1.2 41 v ≤ -u1.2 25 v then u1.2 41 v else -u1.2 25 v) = lI (mn2 (car v) (-ex' v)) := by
            rw [(b2 v hv).2.2.2 hs, hA1.2.2.2, lF_at, lI_neg, lI_min (b6 v hv hs) l1]; rfl
          refine ⟨hA1.1, vi_dj b2, dj_tre b3, hvn, hv, rfl, hmin2, hA1.2.2.1, hA1.2.2.2, ?_⟩
          have hf1 := sa_frt (sa_frt (sa_frt a1 (sa_pj b1)) (sa_sj (u := u1) (f := lF fun x => if x < n then p' x + mn2 (D x / 32) (D v / 32) else p' x))) (sa_x (x := snd b e (bvi vn) n v (mn2 (car v) (-ex' v)) lo') (ex := sdE b e (bvi vn) n v (mn2 (car v) (-ex' v)) ex'))
          have hpq : ∀ x, x < n → (if x < n then p' x + mn2 (D x / 32) (D v / 32) else p' x) = djR D p' v x := fun x hx => if_pos hx
          refine ih (t + 1) (by omega) _ _ _ (fun x => if x < n then p' x + mn2 (D x / 32) (D v / 32) else p' x) (Sg + D v / 32) _ hf1 ⟨ln_sa hA.1 hf1, (hf1.2 22 (by decide)).trans hA.2.1, st_x24, st_x25⟩ ((st_xo (by decide) (by decide)).trans rfl) (snt_t a4 g2) (inv_cg hnd g4 hpq) ?_ (fun x hx => ?_) (by omega) ?_
          · have e9 : ((t + 1 : Nat) : Int) * dl = t * dl + dl := by rw [Int.natCast_add, Int.add_mul]; omega
            omega
          · have q1 := a7 x hx
            have q2 := g7 x hx
            have q3 := g2.2.2.2.1 x hx
            show (p x ≤ (if x < n then p' x + mn2 (D x / 32) (D v / 32) else p' x) ∧ (if x < n then p' x + mn2 (D x / 32) (D v / 32) else p' x) ≤ p x + (Sg + D v / 32)) ∧ (dl ≤ sdE b e (bvi vn) n v (mn2 (car v) (-ex' v)) ex' x → (if x < n then p' x + mn2 (D x / 32) (D v / 32) else p' x) = p x) ∧ (sdE b e (bvi vn) n v (mn2 (car v) (-ex' v)) ex' x ≤ -dl → (if x < n then p' x + mn2 (D x / 32) (D v / 32) else p' x) = p x + (Sg + D v / 32))
            rw [hpq x hx]
            refine ⟨by omega, fun z => ?_, fun z => ?_⟩
            · have q4 : dl ≤ ex' x := by
                rcases Int.le_total 0 (ex' x) with y | y
                · have := q3.1 y; omega
                · have := q3.2 y; omega
              rw [q2.2.1 q4]; exact q1.2.1 q4
            · have q4 : ex' x ≤ -dl := by
                rcases Int.le_total 0 (ex' x) with y | y
                · have := q3.1 y; omega
                · have := q3.2 y; omega
              rw [q2.2.2 q4, q1.2.2 q4]; omega
          · have q1 := (a7 v hv).2.2 hne
            have q2 := hp v hv
            omega
        · exact hx u1 lo' ex' p' S (sa_frt a1 (sa_pj b1)) (LA_pj a2 b1) ((b1.2 36 (by decide) (by decide)).trans a3) a4 a5 (fun v hv => by have := hp v hv; have := (a7 v hv).1; omega) ⟨b2, b3, b4⟩
    apply hG (fun pc => pc == 3) 80
    simp (config := { maxSteps := 2000000 }) [-Prod.forall, -Prod.exists, -exists_and_left, -exists_and_right, hW0, hW1, dm_fn, dm_fd, dm_x, dm_L0, dm_la, dm_t1, dm_sw, List.headD, dm_ic, dm_mk, dm_s1, dm_s2, dm_clr, dm_cs, dm_cc, dm_nb0, dm_nb1, Value.category, List.lookup, p_X4_sendAtLeast, x_X4_sendAtLeast, k_X4_sendAtLeast, dm_cm, upd, vp_updL, dm_ui_1, dm_ui_2, dm_ul_1, dm_ul_2, sp_X4_nearestInNeed, sp_X4_raisePrices, sp_J9_min_f86c9, sp_X1_sendTo, sC_0, sC_1, sC_2, sC_3, sC_4, sC_5, sC_6, sC_7, sC_8, sC_9, sC_10, sC_11, sC_12, sC_13, sC_14, sC_15, sC_16, sC_17, sC_18, sC_19, sC_20, sC_21, sC_22, sC_23, sC_24, sC_25, sC_26, sC_27, sC_28, sC_29, sC_30, sC_31, sC_32, sC_33, sC_34, sC_35, sC_36, sC_37, sC_38, sC_39, sC_40, sC_41, sC_42, sC_43, sC_44, sC_45, sC_46, sC_47, sC_48, sC_49, sC_50, sC_51]
    exact loop T 0 (by omega) u lo ex p 0 _ (sa_fr0 u) hA e36 (snt_0 hB.1) hinv (by omega) (fun v hv => ⟨⟨Int.le_refl _, by omega⟩, fun _ => rfl, fun _ => by omega⟩) (Int.le_refl _) (by omega)
  · exact hh.elim
set_option maxRecDepth 100000 in
theorem t_X4_sendAtLeast (l : Launch) (D : va_G) (cA : Nat → ClassId) (ad : Nat → Nat) : dm_Met l D dm_cl cA ad shC yX4_sendAtLeast (Cond.code yX4_sendAtLeast cX4_sendAtLeast 6 (dm_rt 3) :: dm_tt) ({ frames := 3, cells := 0, slots := 0, locals := 79 } : Room) sp_X4_sendAtLeast := dm_meth (own := RX4) (X := x_X4_sendAtLeast) (Sp := k_X4_sendAtLeast) (prog := p_X4_sendAtLeast) (by decide +kernel) rfl rfl (dm_FO_s ffX4 [(9, 4, 3), (19, 4, 5), (23, 4, 6), (30, 4, 1), (79, 1, 7)] rfl dm_hT (by decide +kernel)) (dm_IO_s ifX4 jfX4 [] [] rfl rfl dm_hT (by decide +kernel) (by decide +kernel)) soC (dm_MO_of (List.forall_mem_cons.mpr ⟨dm_M1_of (t_X4_nearestInNeed l D cA ad) dm_hT (dm_mem [766, 72, 763] (by decide +kernel) (by decide +kernel)) (by decide) (by decide +kernel) (Or.inr ⟨by decide, dm_mem [765, 27] (by decide +kernel) (by decide +kernel), rfl⟩), List.forall_mem_cons.mpr ⟨dm_M1_of (t_X4_raisePrices l D cA ad) dm_hT (dm_mem [785, 72, 782] (by decide +kernel) (by decide +kernel)) (by decide) (by decide +kernel) (Or.inr ⟨by decide, dm_mem [784, 31] (by decide +kernel) (by decide +kernel), rfl⟩), List.forall_mem_cons.mpr ⟨dm_M1_of (t_J9_min_f86c9 l D cA ad) dm_hT (dm_mem [621, 79, 781] (by decide +kernel) (by decide +kernel)) (by decide) (by decide +kernel) (Or.inl ⟨rfl, dm_mem (ws := [.static yJ9_min_f86c9]) [620] (by decide +kernel) (by decide +kernel) _ List.mem_cons_self⟩), List.forall_mem_cons.mpr ⟨dm_M1_of (t_X1_sendTo l D cA ad) dm_hT (dm_mem [625, 68, 786] (by decide +kernel) (by decide +kernel)) (by decide) (by decide +kernel) (Or.inr ⟨by decide, dm_mem [623, 624] (by decide +kernel) (by decide +kernel), rfl⟩), fun _ h => absurd h List.not_mem_nil⟩⟩⟩⟩)) v_X4_sendAtLeast u_X4_sendAtLeast
end
