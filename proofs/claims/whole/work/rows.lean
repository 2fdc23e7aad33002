section
/-! ===== A MACHINE OF OUR OWN over static cells: a state is two functions (numbers of one slot, of two) by cell and place ===== -/
abbrev dm_S : Type := (Nat → Nat → Int32) × (Nat → Nat → Int64)
/-- a cell's shape: an array (0 int, 1 long, 2 boolean; its length), or an object (its class's number; its fields: 0 int, 1 long, 2 boolean, k + 3 a reference to cell k) -/
abbrev dm_H : Type := (Nat × Nat) ⊕ (Nat × List Nat)
def dm_fv (ad : Nat → Nat) (u : dm_S) (c k : Nat) (f : Nat) : Value := match f with
  | 0 => .int (u.1 c k)
  | 1 => .long (u.2 c k)
  | 2 => .int (u.1 c k)
  | n + 3 => .ref (ad n)
def dm_en (ad : Nat → Nat) (cA : Nat → ClassId) (u : dm_S) (c : Nat) (h : dm_H) : va_E := match h with
  | .inl (k, n) => if k = 1 then .inl (cA 1, n, .inr (.inl (u.2 c))) else .inl (cA k, n, .inl (u.1 c))
  | .inr (ci, fs) => .inr (ci, fs.mapIdx (fun k f => dm_fv ad u c k f))
def dm_w (ad : Nat → Nat) (cA : Nat → ClassId) (sh : List dm_H) (u : dm_S) : va_W := sh.mapIdx (fun c h => (ad c, dm_en ad cA u c h))
def dm_ui (u : dm_S) (c j : Nat) (x : Int32) : dm_S := (fun c' => if c' = c then upd (u.1 c) j x else u.1 c', u.2)
def dm_ul (u : dm_S) (c j : Nat) (x : Int64) : dm_S := (u.1, fun c' => if c' = c then vp_updL (u.2 c) j x else u.2 c')
def dm_cv (ad : Nat → Nat) (v : Value) : Value := match v with
  | .ref c => .ref (ad c)
  | v => v
theorem dm_w_at {ad : Nat → Nat} {cA : Nat → ClassId} {sh : List dm_H} {u : dm_S} {c : Nat} {h : dm_H} (hc : sh[c]? = some h) : (dm_w ad cA sh u)[c]? = some (ad c, dm_en ad cA u c h) := by
  simp [dm_w, List.getElem?_mapIdx, hc]
theorem dm_w_of {ad : Nat → Nat} {cA : Nat → ClassId} {sh : List dm_H} {u : dm_S} {c : Nat} {q : Nat × va_E} (hc : (dm_w ad cA sh u)[c]? = some q) : ∃ h, sh[c]? = some h ∧ q = (ad c, dm_en ad cA u c h) := by
  simp only [dm_w, List.getElem?_mapIdx, Option.map_eq_some_iff] at hc
  obtain ⟨h, h1, h2⟩ := hc
  exact ⟨h, h1, h2.symm⟩
theorem dm_D {ad : Nat → Nat} {cA : Nat → ClassId} {sh : List dm_H} {u u' : dm_S} {A : Nat → Prop} (h : va_D A (dm_w ad cA sh u)) : va_D A (dm_w ad cA sh u') := by
  refine ⟨fun i j p q hp hq e => ?_, fun k q hq => ?_⟩
  · obtain ⟨h1, e1, rfl⟩ := dm_w_of hp
    obtain ⟨h2, e2, rfl⟩ := dm_w_of hq
    exact h.1 i j _ _ (dm_w_at e1) (dm_w_at e2) e
  · obtain ⟨h1, e1, rfl⟩ := dm_w_of hq
    exact h.2 k (ad k, dm_en ad cA u k h1) (dm_w_at e1)
theorem dm_w_A {ad : Nat → Nat} {cA : Nat → ClassId} {sh : List dm_H} {u u' : dm_S} {sz : Nat} : va_A (dm_w ad cA sh u) sz = va_A (dm_w ad cA sh u') sz := by
  funext q
  apply propext
  constructor
  · rintro (⟨k, e, h⟩ | h)
    · obtain ⟨h1, e1, e2⟩ := dm_w_of h
      refine Or.inl ⟨k, dm_en ad cA u' k h1, ?_⟩
      rw [dm_w_at e1]
      rw [Prod.mk.injEq] at e2
      rw [e2.1]
    · exact Or.inr h
  · rintro (⟨k, e, h⟩ | h)
    · obtain ⟨h1, e1, e2⟩ := dm_w_of h
      refine Or.inl ⟨k, dm_en ad cA u k h1, ?_⟩
      rw [dm_w_at e1]
      rw [Prod.mk.injEq] at e2
      rw [e2.1]
    · exact Or.inr h
theorem dm_en_eq {ad : Nat → Nat} {cA : Nat → ClassId} {u u' : dm_S} {c : Nat} {h : dm_H} (h1 : u'.1 c = u.1 c) (h2 : u'.2 c = u.2 c) : dm_en ad cA u' c h = dm_en ad cA u c h := by
  have hf : ∀ k f, dm_fv ad u' c k f = dm_fv ad u c k f := by
    intro k f
    unfold dm_fv
    split <;> simp [h1, h2]
  rcases h with ⟨k, n⟩ | ⟨ci, fs⟩
  · simp only [dm_en, h1, h2]
  · simp only [dm_en]
    congr 2
    apply List.ext_getElem?
    intro i
    simp only [List.getElem?_mapIdx, hf]
theorem dm_w_set {ad : Nat → Nat} {cA : Nat → ClassId} {sh : List dm_H} {u u' : dm_S} {c : Nat} {h : dm_H} (hc : sh[c]? = some h) (h1 : ∀ c', c' ≠ c → u'.1 c' = u.1 c') (h2 : ∀ c', c' ≠ c → u'.2 c' = u.2 c') : dm_w ad cA sh u' = (dm_w ad cA sh u).set c (ad c, dm_en ad cA u' c h) := by
  apply List.ext_getElem?
  intro i
  by_cases hi : i = c
  · subst hi
    rw [dm_w_at hc]
    have hl : i < (dm_w ad cA sh u).length := by
      have := (List.getElem?_eq_some_iff.mp hc).1
      simpa [dm_w] using this
    rw [List.getElem?_set_self hl]
  · rw [List.getElem?_set_ne (fun e => hi e.symm)]
    simp only [dm_w, List.getElem?_mapIdx]
    congr 1
    funext h'
    rw [dm_en_eq (h1 i hi) (h2 i hi)]
/-! the locals, by their numbers -/
def dm_lh (ad : Nat → Nat) (ls : Array Slot) (nL : Nat) (L : List (Option Value)) : Prop := (ls.size = nL ∧ L.length = nL) ∧ lv_wf ls ∧ ∀ (i : Nat) (v : Value), L[i]? = some (some v) → ls[i]? = some (.val (dm_cv ad v))
def dm_clr (L : List (Option Value)) (i : Nat) : List (Option Value) := match i with
  | 0 => L
  | j + 1 => match L[j]? with
    | some (some (.long _)) => L.set j none
    | some (some (.double _)) => L.set j none
    | _ => L
def dm_s1 (L : List (Option Value)) (i : Nat) (v : Value) : List (Option Value) := (dm_clr L i).set i (some v)
def dm_s2 (L : List (Option Value)) (i : Nat) (v : Value) : List (Option Value) := ((dm_clr L i).set (i + 1) none).set i (some v)
def dm_ll (ad : Nat → Nat) (L : List (Option Value)) : List (Nat × Value) := (L.mapIdx (fun i o => o.map (fun v => (i, dm_cv ad v)))).filterMap id
theorem dm_ll_mem {ad : Nat → Nat} {L : List (Option Value)} {q : Nat × Value} : q ∈ dm_ll ad L ↔ ∃ v, L[q.1]? = some (some v) ∧ q.2 = dm_cv ad v := by
  unfold dm_ll
  rw [List.mem_filterMap]
  constructor
  · rintro ⟨o, h1, h2⟩
    obtain ⟨i, hi⟩ := List.mem_iff_getElem?.mp h1
    rw [List.getElem?_mapIdx] at hi
    cases hL : L[i]? with
    | none => rw [hL] at hi; cases hi
    | some w =>
      rw [hL] at hi
      simp only [Option.map_some, Option.some.injEq] at hi
      subst hi
      cases w with
      | none => cases h2
      | some v =>
        simp only [Option.map_some, id_eq, Option.some.injEq] at h2
        subst h2
        exact ⟨v, hL, rfl⟩
  · rintro ⟨v, h1, h2⟩
    refine ⟨some q, List.mem_iff_getElem?.mpr ⟨q.1, ?_⟩, rfl⟩
    rw [List.getElem?_mapIdx, h1]
    simp only [Option.map_some]
    rw [← h2]
theorem dm_lh.has {ad : Nat → Nat} {ls : Array Slot} {nL : Nat} {L : List (Option Value)} (h : dm_lh ad ls nL L) : lv_has ls nL (dm_ll ad L) := by
  refine ⟨h.1.1, h.2.1, fun q hq => ?_⟩
  obtain ⟨v, h1, h2⟩ := dm_ll_mem.mp hq
  rw [h2]
  exact h.2.2 _ _ h1
theorem dm_clr_len (L : List (Option Value)) (i : Nat) : (dm_clr L i).length = L.length := by
  unfold dm_clr
  split
  · rfl
  · split <;> simp
theorem dm_clr_at {L : List (Option Value)} {i j : Nat} {w : Value} (h : (dm_clr L i)[j]? = some (some w)) : L[j]? = some (some w) ∧ ¬ (j + 1 = i ∧ w.category = 2) := by
  unfold dm_clr at h
  split at h
  · exact ⟨h, fun q => by omega⟩
  · rename_i k
    split at h
    · rename_i x hx
      by_cases hj : j = k
      · subst hj
        rw [List.getElem?_set_self (List.getElem?_eq_some_iff.mp hx).1] at h
        cases h
      · rw [List.getElem?_set_ne (fun e => hj e.symm)] at h
        exact ⟨h, fun q => hj (by omega)⟩
    · rename_i x hx
      by_cases hj : j = k
      · subst hj
        rw [List.getElem?_set_self (List.getElem?_eq_some_iff.mp hx).1] at h
        cases h
      · rw [List.getElem?_set_ne (fun e => hj e.symm)] at h
        exact ⟨h, fun q => hj (by omega)⟩
    · rename_i n1 n2
      refine ⟨h, fun q => ?_⟩
      have hj : j = k := by omega
      subst hj
      cases w with
      | long z => exact n1 z h
      | double z => exact n2 z h
      | _ => cases q.2
theorem dm_cv_cat (ad : Nat → Nat) (v : Value) : (dm_cv ad v).category = v.category := by
  cases v <;> rfl
theorem dm_lh.s1 {ad : Nat → Nat} {ls ls' : Array Slot} {nL i : Nat} {v v' : Value} {L : List (Option Value)} (h : dm_lh ad ls nL L) (hv : v' = dm_cv ad v) (h' : lv_has ls' nL ((i, v') :: (dm_ll ad L).filter (fun q => !(q.1 == i) && !(q.1 + 1 == i && q.2.category == 2)))) : dm_lh ad ls' nL (dm_s1 L i v) := by
  refine ⟨⟨h'.1, by simp [dm_s1, dm_clr_len, h.1.2]⟩, h'.2.1, fun j w hj => ?_⟩
  unfold dm_s1 at hj
  by_cases e : j = i
  · subst e
    have hl : j < (dm_clr L j).length := by
      have := (List.getElem?_eq_some_iff.mp hj).1
      simpa using this
    rw [List.getElem?_set_self hl] at hj
    cases hj
    rw [← hv]
    exact h'.2.2 (j, v') List.mem_cons_self
  · rw [List.getElem?_set_ne (fun q => e q.symm)] at hj
    obtain ⟨a1, a2⟩ := dm_clr_at hj
    refine h'.2.2 (j, dm_cv ad w) (List.mem_cons_of_mem _ (List.mem_filter.mpr ⟨dm_ll_mem.mpr ⟨w, a1, rfl⟩, ?_⟩))
    simp only [dm_cv_cat, Bool.and_eq_true, Bool.not_eq_true', beq_eq_false_iff_ne, ne_eq, Bool.and_eq_false_iff]
    exact ⟨e, by by_cases z : j + 1 = i
                 · exact Or.inr (fun y => a2 ⟨z, y⟩)
                 · exact Or.inl z⟩
theorem dm_lh.s2 {ad : Nat → Nat} {ls ls' : Array Slot} {nL i : Nat} {v v' : Value} {L : List (Option Value)} (h : dm_lh ad ls nL L) (hv : v' = dm_cv ad v) (h' : lv_has ls' nL ((i, v') :: (dm_ll ad L).filter (fun q => !(q.1 == i) && (!(q.1 == i + 1) && !(q.1 + 1 == i && q.2.category == 2))))) : dm_lh ad ls' nL (dm_s2 L i v) := by
  refine ⟨⟨h'.1, by simp [dm_s2, dm_clr_len, h.1.2]⟩, h'.2.1, fun j w hj => ?_⟩
  unfold dm_s2 at hj
  by_cases e : j = i
  · subst e
    have hl : j < ((dm_clr L j).set (j + 1) none).length := by
      have := (List.getElem?_eq_some_iff.mp hj).1
      simpa using this
    rw [List.getElem?_set_self hl] at hj
    cases hj
    rw [← hv]
    exact h'.2.2 (j, v') List.mem_cons_self
  · rw [List.getElem?_set_ne (fun q => e q.symm)] at hj
    have e2 : j ≠ i + 1 := by
      intro q
      subst q
      have hl : i + 1 < (dm_clr L i).length := by
        have := (List.getElem?_eq_some_iff.mp hj).1
        simpa using this
      rw [List.getElem?_set_self hl] at hj
      cases hj
    rw [List.getElem?_set_ne (fun q => e2 q.symm)] at hj
    obtain ⟨a1, a2⟩ := dm_clr_at hj
    refine h'.2.2 (j, dm_cv ad w) (List.mem_cons_of_mem _ (List.mem_filter.mpr ⟨dm_ll_mem.mpr ⟨w, a1, rfl⟩, ?_⟩))
    simp only [dm_cv_cat, Bool.and_eq_true, Bool.not_eq_true', beq_eq_false_iff_ne, ne_eq, Bool.and_eq_false_iff]
    exact ⟨e, e2, by by_cases z : j + 1 = i
                     · exact Or.inr (fun y => a2 ⟨z, y⟩)
                     · exact Or.inl z⟩
end
section
/-! ===== THE MACHINE'S INSTRUCTIONS: what is left to show, as a condition on what comes behind ===== -/
/-- what pool numbers mean: fields (class's number, place), ints, longs, methods (number, arguments without the receiver, the receiver's class's number, 1000 for a static one); what it answers: 0 nothing, 1 int, 2 long, 3 boolean -/
abbrev dm_X : Type := (Nat → Option (Nat × Nat)) × (Nat → Option Int32) × (Nat → Option Int64) × (Nat → Option (Nat × Nat × Nat)) × Nat
abbrev dm_Sp : Type := Nat → List Value → dm_S → (Option Value → dm_S → Prop) → Prop
abbrev dm_K : Type := Nat → List (Option Value) → List Value → dm_S → Prop
abbrev dm_I : Type := Nat × Instr × Nat × List Nat
def dm_li (L : List (Option Value)) (i : Nat) (f : Int32 → Prop) : Prop := match L[i]? with
  | some (some (.int x)) => f x
  | _ => False
def dm_lj (L : List (Option Value)) (i : Nat) (f : Int64 → Prop) : Prop := match L[i]? with
  | some (some (.long x)) => f x
  | _ => False
def dm_lr (L : List (Option Value)) (i : Nat) (f : Nat → Prop) : Prop := match L[i]? with
  | some (some (.ref x)) => f x
  | _ => False
def dm_p1 (S : List Value) (f : Int32 → List Value → Prop) : Prop := match S with
  | .int x :: S => f x S
  | _ => False
def dm_p2 (S : List Value) (f : Int32 → Int32 → List Value → Prop) : Prop := match S with
  | .int y :: .int x :: S => f x y S
  | _ => False
def dm_q1 (S : List Value) (f : Int64 → List Value → Prop) : Prop := match S with
  | .long x :: S => f x S
  | _ => False
def dm_q2 (S : List Value) (f : Int64 → Int64 → List Value → Prop) : Prop := match S with
  | .long y :: .long x :: S => f x y S
  | _ => False
def dm_t1 (t : List Nat) (f : Nat → Prop) : Prop := match t with
  | a :: _ => f a
  | [] => False
def dm_sw (x : Int32) (f : Nat → Prop) : Int → List Nat → Prop
  | _, [] => True
  | lo, t :: ts => (x.toInt = lo → f t) ∧ dm_sw x f (lo + 1) ts
def dm_ic (o : Jvm.ClassFile.Cond) (x y : Int32) : Prop := match o with
  | .eq => x = y
  | .ne => ¬ x = y
  | .lt => x < y
  | .ge => y ≤ x
  | .gt => y < x
  | .le => x ≤ y
def dm_cs (S : List Value) : Nat := (S.map fun v => v.category).sum
def dm_x (sh : List dm_H) (X : dm_X) (Sp : dm_Sp) (K : dm_K) (Rt : Option Value → dm_S → Prop) (i : Instr) (t : List Nat) (pc : Nat) (L : List (Option Value)) (S : List Value) (u : dm_S) : Prop :=
  match i with
  | .iconst n => K (pc + 1) L (.int (Int32.ofInt n) :: S) u
  | .bipush n => K (pc + 2) L (.int (Int8.ofInt n).toInt32 :: S) u
  | .sipush n => K (pc + 3) L (.int (Int16.ofInt n).toInt32 :: S) u
  | .lconst n => K (pc + 1) L (.long (Int64.ofNat n.val) :: S) u
  | .ldc j => match X.2.1 j with
    | some v => K (pc + 2) L (.int v :: S) u
    | none => False
  | .ldc_w j => match X.2.1 j with
    | some v => K (pc + 3) L (.int v :: S) u
    | none => False
  | .ldc2_w j => match X.2.2.1 j with
    | some v => K (pc + 3) L (.long v :: S) u
    | none => False
  | .iload_n k => dm_li L k.val (fun x => K (pc + 1) L (.int x :: S) u)
  | .iload k => dm_li L k (fun x => K (pc + 2) L (.int x :: S) u)
  | .lload_n k => dm_lj L k.val (fun x => K (pc + 1) L (.long x :: S) u)
  | .lload k => dm_lj L k (fun x => K (pc + 2) L (.long x :: S) u)
  | .aload_n k => dm_lr L k.val (fun x => K (pc + 1) L (.ref x :: S) u)
  | .aload k => dm_lr L k (fun x => K (pc + 2) L (.ref x :: S) u)
  | .istore_n k => dm_p1 S (fun x S => k.val < L.length ∧ K (pc + 1) (dm_s1 L k.val (.int x)) S u)
  | .istore k => dm_p1 S (fun x S => k < L.length ∧ K (pc + 2) (dm_s1 L k (.int x)) S u)
  | .lstore_n k => dm_q1 S (fun x S => k.val + 1 < L.length ∧ K (pc + 1) (dm_s2 L k.val (.long x)) S u)
  | .lstore k => dm_q1 S (fun x S => k + 1 < L.length ∧ K (pc + 2) (dm_s2 L k (.long x)) S u)
  | .iinc k n => dm_li L k (fun x => K (pc + 3) (dm_s1 L k (.int (x + Int32.ofInt n))) S u)
  | .iadd => dm_p2 S (fun x y S => K (pc + 1) L (.int (x + y) :: S) u)
  | .isub => dm_p2 S (fun x y S => K (pc + 1) L (.int (x - y) :: S) u)
  | .imul => dm_p2 S (fun x y S => K (pc + 1) L (.int (x * y) :: S) u)
  | .iand => dm_p2 S (fun x y S => K (pc + 1) L (.int (x &&& y) :: S) u)
  | .ior => dm_p2 S (fun x y S => K (pc + 1) L (.int (x ||| y) :: S) u)
  | .idiv => dm_p2 S (fun x y S => ¬ y = 0 ∧ K (pc + 1) L (.int (x / y) :: S) u)
  | .irem => dm_p2 S (fun x y S => ¬ y = 0 ∧ K (pc + 1) L (.int (x - x / y * y) :: S) u)
  | .ishl => dm_p2 S (fun x y S => K (pc + 1) L (.int (x <<< (y &&& 31)) :: S) u)
  | .ishr => dm_p2 S (fun x y S => K (pc + 1) L (.int (x >>> (y &&& 31)) :: S) u)
  | .iushr => dm_p2 S (fun x y S => K (pc + 1) L (.int (x.toUInt32 >>> (y.toUInt32 &&& Int32.toUInt32 31)).toInt32 :: S) u)
  | .ladd => dm_q2 S (fun x y S => K (pc + 1) L (.long (x + y) :: S) u)
  | .lsub => dm_q2 S (fun x y S => K (pc + 1) L (.long (x - y) :: S) u)
  | .lmul => dm_q2 S (fun x y S => K (pc + 1) L (.long (x * y) :: S) u)
  | .lneg => dm_q1 S (fun x S => K (pc + 1) L (.long (-x) :: S) u)
  | .lshr => match S with
    | .int y :: .long x :: S => K (pc + 1) L (.long (x >>> (y.toInt64 &&& 63)) :: S) u
    | _ => False
  | .i2l => dm_p1 S (fun x S => K (pc + 1) L (.long x.toInt64 :: S) u)
  | .l2i => dm_q1 S (fun x S => K (pc + 1) L (.int x.toInt32 :: S) u)
  | .lcmp => dm_q2 S (fun x y S => K (pc + 1) L (.int (lg_cmp x y) :: S) u)
  | .dup => match S with
    | .int x :: S => K (pc + 1) L (.int x :: .int x :: S) u
    | .ref x :: S => K (pc + 1) L (.ref x :: .ref x :: S) u
    | _ => False
  | .dup2 => match S with
    | .int y :: .ref x :: S => K (pc + 1) L (.int y :: .ref x :: .int y :: .ref x :: S) u
    | .long x :: S => K (pc + 1) L (.long x :: .long x :: S) u
    | _ => False
  | .iaload => match S with
    | .int j :: .ref c :: S => match sh[c]? with
      | some (.inl (0, n)) => vp_in j n ∧ K (pc + 1) L (.int (u.1 c j.toNatClampNeg) :: S) u
      | _ => False
    | _ => False
  | .baload => match S with
    | .int j :: .ref c :: S => match sh[c]? with
      | some (.inl (2, n)) => vp_in j n ∧ K (pc + 1) L (.int (u.1 c j.toNatClampNeg) :: S) u
      | _ => False
    | _ => False
  | .laload => match S with
    | .int j :: .ref c :: S => match sh[c]? with
      | some (.inl (1, n)) => vp_in j n ∧ K (pc + 1) L (.long (u.2 c j.toNatClampNeg) :: S) u
      | _ => False
    | _ => False
  | .iastore => match S with
    | .int x :: .int j :: .ref c :: S => match sh[c]? with
      | some (.inl (0, n)) => vp_in j n ∧ K (pc + 1) L S (dm_ui u c j.toNatClampNeg x)
      | _ => False
    | _ => False
  | .bastore => match S with
    | .int x :: .int j :: .ref c :: S => match sh[c]? with
      | some (.inl (2, n)) => vp_nar .boolean x = x ∧ vp_in j n ∧ K (pc + 1) L S (dm_ui u c j.toNatClampNeg x)
      | _ => False
    | _ => False
  | .lastore => match S with
    | .long x :: .int j :: .ref c :: S => match sh[c]? with
      | some (.inl (1, n)) => vp_in j n ∧ K (pc + 1) L S (dm_ul u c j.toNatClampNeg x)
      | _ => False
    | _ => False
  | .arraylength => match S with
    | .ref c :: S => match sh[c]? with
      | some (.inl (k, n)) => k < 3 ∧ K (pc + 1) L (.int (Int32.ofNat n) :: S) u
      | _ => False
    | _ => False
  | .getfield j => match S with
    | .ref c :: S => match X.1 j with
      | some (ci, k) => match sh[c]? with
        | some (.inr (ci', fs)) => ci = ci' ∧ match fs[k]? with
          | some 0 => K (pc + 3) L (.int (u.1 c k) :: S) u
          | some 1 => K (pc + 3) L (.long (u.2 c k) :: S) u
          | some 2 => K (pc + 3) L (.int (u.1 c k) :: S) u
          | some (n + 3) => K (pc + 3) L (.ref n :: S) u
          | none => False
        | _ => False
      | none => False
    | _ => False
  | .putfield j => match S with
    | .int x :: .ref c :: S => match X.1 j with
      | some (ci, k) => match sh[c]? with
        | some (.inr (ci', fs)) => ci = ci' ∧ match fs[k]? with
          | some 0 => K (pc + 3) L S (dm_ui u c k x)
          | some 2 => (narrow .boolean (.int x) = .int x ∧ fits .boolean (.int x) = true) ∧ K (pc + 3) L S (dm_ui u c k x)
          | _ => False
        | _ => False
      | none => False
    | .long x :: .ref c :: S => match X.1 j with
      | some (ci, k) => match sh[c]? with
        | some (.inr (ci', fs)) => ci = ci' ∧ match fs[k]? with
          | some 1 => K (pc + 3) L S (dm_ul u c k x)
          | _ => False
        | _ => False
      | none => False
    | _ => False
  | .ifCond o _ => dm_p1 S (fun x S => (dm_ic o x 0 → dm_t1 t (fun a => K a L S u)) ∧ (¬ dm_ic o x 0 → K (pc + 3) L S u))
  | .if_icmp o _ => dm_p2 S (fun x y S => (dm_ic o x y → dm_t1 t (fun a => K a L S u)) ∧ (¬ dm_ic o x y → K (pc + 3) L S u))
  | .goto _ => dm_t1 t (fun a => K a L S u)
  | .tableswitch _ lo hi _ => dm_p1 S (fun x S => match t with
    | t0 :: ts => (x.toInt < lo ∨ hi < x.toInt → K t0 L S u) ∧ dm_sw x (fun a => K a L S u) lo ts
    | [] => False)
  | .invokevirtual j => match X.2.2.2.1 j with
    | some (mid, n, ci) => match S.drop n with
      | .ref c :: S' => match sh[c]? with
        | some (.inr (ci', _)) => (ci = ci' ∧ ci < 1000 ∧ dm_cs S' ≤ 8) ∧ Sp mid (.ref c :: (S.take n).reverse) u (fun r u' => K (pc + 3) L (r.toList ++ S') u')
        | _ => False
      | _ => False
    | none => False
  | .invokestatic j => match X.2.2.2.1 j with
    | some (mid, n, ci) => (ci = 1000 ∧ n ≤ S.length ∧ dm_cs (S.drop n) ≤ 8) ∧ Sp mid (S.take n).reverse u (fun r u' => K (pc + 3) L (r.toList ++ S.drop n) u')
    | none => False
  | .ireturn => match S with
    | [.int x] => match X.2.2.2.2 with
      | 1 => Rt (some (.int x)) u
      | 3 => narrow .boolean (.int x) = .int x ∧ Rt (some (.int x)) u
      | _ => False
    | _ => False
  | .lreturn => match S with
    | [.long x] => X.2.2.2.2 = 2 ∧ Rt (some (.long x)) u
    | _ => False
  | .return_ => match S with
    | [] => X.2.2.2.2 = 0 ∧ Rt none u
    | _ => False
  | _ => False
/-- the lengths of the instructions above -/
def dm_len (i : Instr) : Nat := match i with
  | .bipush _ | .ldc _ | .iload _ | .lload _ | .aload _ | .istore _ | .lstore _ => 2
  | .sipush _ | .ldc_w _ | .ldc2_w _ | .iinc _ _ | .getfield _ | .putfield _ | .ifCond _ _ | .if_icmp _ _ | .goto _ | .invokevirtual _ | .invokestatic _ => 3
  | _ => 1
/-- an instruction list is the code's -/
def dm_vb (cc : ByteArray) (q : dm_I) : Bool := decide (decode cc q.1 = .ok (q.2.1, q.2.2.1)) && match q.2.1, q.2.2.2 with
  | .ifCond _ off, [t] => decide ((q.1 : Int) + off = (t : Int)) && q.2.2.1 == 3
  | .if_icmp _ off, [t] => decide ((q.1 : Int) + off = (t : Int)) && q.2.2.1 == 3
  | .goto off, [t] => decide ((q.1 : Int) + off = (t : Int)) && q.2.2.1 == 3
  | .tableswitch d lo hi offs, t0 :: ts => decide ((q.1 : Int) + d = (t0 : Int)) && decide (offs.toList.map (fun (o : Int) => (q.1 : Int) + o) = ts.map (fun (a : Nat) => (a : Int))) && decide (hi + 1 = lo + ts.length)
  | .tableswitch _ _ _ _, [] => false
  | .ifCond _ _, [] => false
  | .if_icmp _ _, [] => false
  | .goto _, [] => false
  | i, [] => q.2.2.1 == dm_len i
  | _, _ => false
def dm_wp (sh : List dm_H) (X : dm_X) (Sp : dm_Sp) (Rt : Option Value → dm_S → Prop) (prog : List dm_I) (cut : Nat → Bool) (K : dm_K) : Nat → dm_K
  | 0 => fun _ _ _ _ => False
  | n + 1 => fun pc L S u => match prog.find? (fun q => q.1 == pc) with
    | none => False
    | some q => dm_x sh X Sp (fun pc' L' S' u' => match cut pc' with
      | true => K pc' L' S' u'
      | false => dm_wp sh X Sp Rt prog cut K n pc' L' S' u') Rt q.2.1 q.2.2.2 pc L S u
end
section
/-! ===== THE MACHINE IS SOUND ===== -/
def dm_tys (cA : Nat → ClassId) : List (ClassId × FieldType) := [(cA 0, .int), (cA 1, .long), (cA 2, .boolean)]
def dm_rt (k : Nat) : Option FieldType := match k with
  | 0 => none
  | 1 => some .int
  | 2 => some .long
  | _ => some .boolean
def dm_B (D : va_G) (cl : List vw_C) (cA : Nat → ClassId) (ad : Nat → Nat) (sh : List dm_H) (A : Nat → Prop) (u : dm_S) (t : State) : Prop := va_P D cl (dm_w ad cA sh u) t.heap ∧ va_K D cl (dm_tys cA) t ∧ va_D A (dm_w ad cA sh u)
def dm_Pc (D : va_G) (cl : List vw_C) (cA : Nat → ClassId) (ad : Nat → Nat) (sh : List dm_H) (sz : Nat) (As : List Value) (u : dm_S) : Array Value → State → Prop := va_Pc (As.map (dm_cv ad)) (fun U => U.heap.size = sz ∧ dm_B D cl cA ad sh (fun _ => True) u U)
def dm_Qc (D : va_G) (cl : List vw_C) (cA : Nat → ClassId) (ad : Nat → Nat) (sh : List dm_H) (A : Nat → Prop) (Qp : Option Value → dm_S → Prop) : Array Value → State → Outcome → State → Prop := fun _ st oc t => (∃ (r : Option Value) (v : dm_S), oc = .returned r ∧ (∀ a, r ≠ some (.ref a)) ∧ Qp r v ∧ dm_B D cl cA ad sh A v t) ∧ va_F A st t
/-- a contract: from every state and arguments of which P says that Qp holds behind it -/
def dm_Met (l : Launch) (D : va_G) (cl : List vw_C) (cA : Nat → ClassId) (ad : Nat → Nat) (sh : List dm_H) (y : MethodName) (ws : List Cond) (rm : Room) (P : List Value → dm_S → (Option Value → dm_S → Prop) → Prop) : Prop :=
  ∀ (sz : Nat) (As : List Value) (u : dm_S) (Qp : Option Value → dm_S → Prop), P As u Qp → Met l y ws rm (dm_Pc D cl cA ad sh sz As u) (dm_Qc D cl cA ad sh (va_A (dm_w ad cA sh u) sz) Qp) 0 0 (va_A (dm_w ad cA sh u) sz)
def dm_FO (Ts : List Cond) (own : String) (cl : List vw_C) (X : dm_X) : Prop := ∀ (j ci k : Nat), X.1 j = some (ci, k) → ∃ (C : String) (T : u_T) (N : Nat) (ty0 : Nat → FieldType), cl[ci]? = some (C, T, N) ∧ k < N ∧ (∀ w ∈ u_ws C T N, w ∈ Ts) ∧ Cond.fieldLink own j (T k).1 (T k).2.1 (T k).2.2.1 ∈ Ts ∧ (∀ k, k < N → parseFieldDescriptor (T k).2.2.1 = some (ty0 k)) ∧ (∀ a, a < N → ∀ b, b < N → a ≠ b → (T a).2.1 ≠ (T b).2.1)
def dm_IO (Ts : List Cond) (own : String) (X : dm_X) : Prop := (∀ j v, X.2.1 j = some v → Cond.constant own j v ∈ Ts) ∧ ∀ j v, X.2.2.1 j = some v → Cond.constantLong own j v ∈ Ts
def dm_SO (cl : List vw_C) (sh : List dm_H) : Prop := ∀ (c ci : Nat) (fs : List Nat), sh[c]? = some (.inr (ci, fs)) → ∀ (C : String) (T : u_T) (N : Nat), cl[ci]? = some (C, T, N) → ∀ (k f : Nat), fs[k]? = some f → (f = 0 → (T k).2.2.2 = false ∧ parseFieldDescriptor (T k).2.2.1 = some .int) ∧ (f = 1 → (T k).2.2.2 = false ∧ parseFieldDescriptor (T k).2.2.1 = some .long) ∧ (f = 2 → (T k).2.2.2 = false ∧ parseFieldDescriptor (T k).2.2.1 = some .boolean)
/-- what a call's pool number j needs: the callee's contract, its words, its room -/
def dm_M1 (l : Launch) (R : Room) (Ts : List Cond) (own : String) (D : va_G) (cl : List vw_C) (cA : Nat → ClassId) (ad : Nat → Nat) (sh : List dm_H) (P : List Value → dm_S → (Option Value → dm_S → Prop) → Prop) (j n ci : Nat) : Prop := ∃ (y : MethodName) (bytes : ByteArray) (maxL : Nat) (ret : Option FieldType) (ws' : List Cond) (rm : Room), dm_Met l D cl cA ad sh y (Cond.code y bytes maxL ret :: ws') rm P ∧ GoodIn Ts (Cond.code y bytes maxL ret :: ws') ∧ (rm.cells = 0 ∧ rm.slots = 0) ∧ (rm.frames + 1 ≤ R.frames ∧ 8 + (maxL + 11) + rm.locals ≤ R.locals) ∧ (Cond.initialized y.cls ∈ Ts ∧ Cond.methodLink own j y ∈ Ts) ∧ (y.cls ≠ "java/lang/invoke/MethodHandle" ∧ y.cls ≠ "java/lang/invoke/VarHandle" ∧ (parseMethodDescriptor y.desc).map (fun d => d.parameters.length) = some n) ∧ (ci = 1000 → Cond.static y ∈ Ts) ∧ (ci < 1000 → (Cond.instanceMethod y ∈ Ts ∧ Cond.selects y.cls y y ∈ Ts) ∧ ∃ T N, cl[ci]? = some (y.cls, T, N))
def dm_MO (l : Launch) (R : Room) (Ts : List Cond) (own : String) (D : va_G) (cl : List vw_C) (cA : Nat → ClassId) (ad : Nat → Nat) (sh : List dm_H) (X : dm_X) (Sp : dm_Sp) : Prop := ∀ (j mid n ci : Nat), X.2.2.2.1 j = some (mid, n, ci) → dm_M1 l R Ts own D cl cA ad sh (Sp mid) j n ci
def dm_C (p : Program) (s : State) (m : MethodId) (args : Array Value) (meth : Method) (c : Code) (cc : ByteArray) (nL : Nat) (Ts : List Cond) (own : String) (D : va_G) (cl : List vw_C) (cA : Nat → ClassId) (ad : Nat → Nat) (sh : List dm_H) (A : Nat → Prop) (rk : Nat) : Prop :=
  (p.tables.exec = Jvm.exec ∧ c.code = cc ∧ c.maxLocals = nL ∧ s.vm.findClass own = some m.cls ∧ ∀ w ∈ Ts, w.before args s = true) ∧ va_K D cl (dm_tys cA) s ∧ (∀ u, va_D A (dm_w ad cA sh u)) ∧ (∀ q, s.heap.size ≤ q → A q) ∧ meth.sig.returnType = dm_rt rk ∧ meth.locks = false
def dm_G (p : Program) (l : Launch) (e : Env) (R : Room) (s : State) (m : MethodId) (args : Array Value) (below : List Frame) (meth : Method) (c : Code) (D : va_G) (cl : List vw_C) (cA : Nat → ClassId) (ad : Nat → Nat) (sh : List dm_H) (A : Nat → Prop) (nL : Nat) (Q : State → Prop) : dm_K := fun pc L S u => ∀ (ls : Array Slot) (H : Heap) (locs : List Loc), dm_lh ad ls nL L → va_P D cl (dm_w ad cA sh u) H → va_S A s.heap H locs → W p l e R s m args below meth c H locs 0 0 Q (F0 m pc ls (S.map (dm_cv ad)))
def dm_pl (i : Instr) : Bool := match i with
  | .ifCond _ _ | .if_icmp _ _ | .goto _ | .tableswitch _ _ _ _ => false
  | _ => true
theorem dm_vb_1 {cc : ByteArray} {pc n : Nat} {i : Instr} {t : List Nat} (hv : dm_vb cc (pc, i, n, t) = true) (hp : dm_pl i = true) : decode cc pc = .ok (i, dm_len i) := by
  simp only [dm_vb, Bool.and_eq_true, decide_eq_true_eq] at hv
  obtain ⟨h1, h2⟩ := hv
  have : n = dm_len i := by
    cases t with
    | nil =>
      cases i <;> (try (simp [dm_pl] at hp; done)) <;> simpa using h2
    | cons a b =>
      cases i <;> (try (simp [dm_pl] at hp; done)) <;> simp at h2
  rw [← this]
  exact h1
section DMS
variable {p : Program} {l : Launch} {e : Env} {R : Room} {s : State} {m : MethodId} {args : Array Value} {below : List Frame} {meth : Method} {c : Code} {D : va_G} {cl : List vw_C} {cA : Nat → ClassId} {ad : Nat → Nat} {sh : List dm_H} {A : Nat → Prop} {cc : ByteArray} {nL : Nat} {Ts : List Cond} {own : String} {X : dm_X} {Sp : dm_Sp} {Q : State → Prop}
variable {K : dm_K} {Qp : Option Value → dm_S → Prop} {pc : Nat} {L : List (Option Value)} {S : List Value} {u : dm_S} {t : List Nat} {n : Nat}
theorem dm_lh.i {ls : Array Slot} {i : Nat} {f : Int32 → Prop} (h : dm_lh ad ls nL L) (hf : dm_li L i f) : ∃ x, ls[i]? = some (.val (.int x)) ∧ f x := by
  unfold dm_li at hf
  split at hf
  · rename_i x hx
    exact ⟨x, h.2.2 _ _ hx, hf⟩
  · exact hf.elim
theorem dm_lh.j {ls : Array Slot} {i : Nat} {f : Int64 → Prop} (h : dm_lh ad ls nL L) (hf : dm_lj L i f) : ∃ x, ls[i]? = some (.val (.long x)) ∧ f x := by
  unfold dm_lj at hf
  split at hf
  · rename_i x hx
    exact ⟨x, h.2.2 _ _ hx, hf⟩
  · exact hf.elim
theorem dm_lh.r {ls : Array Slot} {i : Nat} {f : Nat → Prop} (h : dm_lh ad ls nL L) (hf : dm_lr L i f) : ∃ x, ls[i]? = some (.val (.ref (ad x))) ∧ f x := by
  unfold dm_lr at hf
  split at hf
  · rename_i x hx
    exact ⟨x, h.2.2 _ _ hx, hf⟩
  · exact hf.elim
theorem dm_p1_of {f : Int32 → List Value → Prop} (h : dm_p1 S f) : ∃ x S', S = .int x :: S' ∧ f x S' := by
  unfold dm_p1 at h
  split at h
  · exact ⟨_, _, rfl, h⟩
  · exact h.elim
theorem dm_p2_of {f : Int32 → Int32 → List Value → Prop} (h : dm_p2 S f) : ∃ x y S', S = .int y :: .int x :: S' ∧ f x y S' := by
  unfold dm_p2 at h
  split at h
  · exact ⟨_, _, _, rfl, h⟩
  · exact h.elim
theorem dm_q1_of {f : Int64 → List Value → Prop} (h : dm_q1 S f) : ∃ x S', S = .long x :: S' ∧ f x S' := by
  unfold dm_q1 at h
  split at h
  · exact ⟨_, _, rfl, h⟩
  · exact h.elim
theorem dm_q2_of {f : Int64 → Int64 → List Value → Prop} (h : dm_q2 S f) : ∃ x y S', S = .long y :: .long x :: S' ∧ f x y S' := by
  unfold dm_q2 at h
  split at h
  · exact ⟨_, _, _, rfl, h⟩
  · exact h.elim
theorem dm_call {H : Heap} {locs : List Loc} {ls : Array Slot} {rest st0 : List Value} {a : Array Value} {A1 : Nat → Prop} {H0 : Heap} {free : Addr → Prop} (hr : va_Run p l e R s m args below meth c H locs 0 0 0 0 (F0 m pc ls st0) rest (dm_Qc D cl cA ad sh A1 Qp a) free) (hS : va_S A H0 H locs) (hA : ∀ q, q < H.size → A1 q → A q) (hf : ∀ q, free q → A q)
    (kk : ∀ (r : Option Value) (v : dm_S) (t : State) (H1 : Heap) (locs1 : List Loc), t.heap = H1 → s.vm.Alike t.vm → (∀ a, r ≠ some (.ref a)) → Qp r v → dm_B D cl cA ad sh A1 v t → va_S A H0 H1 locs1 → W p l e R s m args below meth c H1 locs1 0 0 Q (F0 m (pc + 3) ls (r.toList ++ rest))) : W p l e R s m args below meth c H locs 0 0 Q (F0 m pc ls st0) := by
  intro T hT X
  obtain ⟨v, st₀, t, T', L, h0, X', hL, e1, e2, ⟨⟨r, u, hv, hn, hp, hb⟩, hz, hk⟩, st⟩ := hr T hT X
  cases hv
  rw [h0] at hz hk
  obtain ⟨t2, a1, b1⟩ := kk v u t T'.heap (locs ++ L) e1.symm (by rw [← e2]; exact X'.warmed.alike) hn hp hb
    ⟨Nat.le_trans hS.1 (by rw [e1]; exact hz), fun q h1 h2 => by rw [e1, hk q (Nat.lt_of_lt_of_le h1 hS.1) (fun z => h2 (hA q (Nat.lt_of_lt_of_le h1 hS.1) z))]; exact hS.2.1 q h1 h2, fun q hq => by
      rcases List.mem_append.mp hq with h | h
      · exact hS.2.2 q h
      · exact hf _ (hL q h)⟩ T' rfl X'
  exact ⟨t2, st t2 a1, b1⟩
end DMS
end
section
/-! ===== one row an instruction ===== -/
section DMT
variable {p : Program} {l : Launch} {e : Env} {R : Room} {s : State} {m : MethodId} {args : Array Value} {below : List Frame} {meth : Method} {c : Code} {D : va_G} {cl : List vw_C} {cA : Nat → ClassId} {ad : Nat → Nat} {sh : List dm_H} {A : Nat → Prop} {cc : ByteArray} {nL : Nat} {Ts : List Cond} {own : String} {X : dm_X} {Sp : dm_Sp} {Q : State → Prop}
variable {K : dm_K} {Qp : Option Value → dm_S → Prop} {pc : Nat} {L : List (Option Value)} {S : List Value} {u : dm_S} {t : List Nat} {rk : Nat}
theorem dm_lh.st1 {ls : Array Slot} {i : Nat} {v : Value} (h : dm_lh ad ls nL L) {P : Array Slot → Prop} (k : ∀ ls', dm_lh ad ls' nL (dm_s1 L i v) → P ls') : ∀ ls' : Array Slot, lv_has ls' nL ((i, dm_cv ad v) :: (dm_ll ad L).filter (fun q => !(q.1 == i) && !(q.1 + 1 == i && q.2.category == 2))) → P ls' := fun ls' h' => k ls' (h.s1 rfl h')
theorem dm_lh.st2 {ls : Array Slot} {i : Nat} {v : Value} (h : dm_lh ad ls nL L) {P : Array Slot → Prop} (k : ∀ ls', dm_lh ad ls' nL (dm_s2 L i v) → P ls') : ∀ ls' : Array Slot, lv_has ls' nL ((i, dm_cv ad v) :: (dm_ll ad L).filter (fun q => !(q.1 == i) && (!(q.1 == i + 1) && !(q.1 + 1 == i && q.2.category == 2)))) → P ls' := fun ls' h' => k ls' (h.s2 rfl h')
theorem dm_T_iconst (C0 : dm_C p s m args meth c cc nL Ts own D cl cA ad sh A rk) (hK : ∀ pc L S u, K pc L S u → dm_G p l e R s m args below meth c D cl cA ad sh A nL Q pc L S u) {j : Int} (hd : decode cc pc = .ok (.iconst j, dm_len (.iconst j))) (h : dm_x sh X Sp K Qp (.iconst j) t pc L S u) : dm_G p l e R s m args below meth c D cl cA ad sh A nL Q pc L S u := by
  obtain ⟨⟨hx, hb, hml, hown, hts⟩, hKK, hDD, hA, hret, hlk⟩ := C0
  intro ls H locs hl hP hS
  exact lv_iconst hx hb hd rfl (hK _ _ _ _ h ls H locs hl hP hS)
theorem dm_T_bipush (C0 : dm_C p s m args meth c cc nL Ts own D cl cA ad sh A rk) (hK : ∀ pc L S u, K pc L S u → dm_G p l e R s m args below meth c D cl cA ad sh A nL Q pc L S u) {j : Int} (hd : decode cc pc = .ok (.bipush j, dm_len (.bipush j))) (h : dm_x sh X Sp K Qp (.bipush j) t pc L S u) : dm_G p l e R s m args below meth c D cl cA ad sh A nL Q pc L S u := by
  obtain ⟨⟨hx, hb, hml, hown, hts⟩, hKK, hDD, hA, hret, hlk⟩ := C0
  intro ls H locs hl hP hS
  exact lv_bipush hx hb hd rfl (hK _ _ _ _ h ls H locs hl hP hS)
theorem dm_T_sipush (C0 : dm_C p s m args meth c cc nL Ts own D cl cA ad sh A rk) (hK : ∀ pc L S u, K pc L S u → dm_G p l e R s m args below meth c D cl cA ad sh A nL Q pc L S u) {j : Int} (hd : decode cc pc = .ok (.sipush j, dm_len (.sipush j))) (h : dm_x sh X Sp K Qp (.sipush j) t pc L S u) : dm_G p l e R s m args below meth c D cl cA ad sh A nL Q pc L S u := by
  obtain ⟨⟨hx, hb, hml, hown, hts⟩, hKK, hDD, hA, hret, hlk⟩ := C0
  intro ls H locs hl hP hS
  exact lv_sipush hx hb hd rfl (hK _ _ _ _ h ls H locs hl hP hS)
theorem dm_T_lconst (C0 : dm_C p s m args meth c cc nL Ts own D cl cA ad sh A rk) (hK : ∀ pc L S u, K pc L S u → dm_G p l e R s m args below meth c D cl cA ad sh A nL Q pc L S u) {j : Fin 2} (hd : decode cc pc = .ok (.lconst j, dm_len (.lconst j))) (h : dm_x sh X Sp K Qp (.lconst j) t pc L S u) : dm_G p l e R s m args below meth c D cl cA ad sh A nL Q pc L S u := by
  obtain ⟨⟨hx, hb, hml, hown, hts⟩, hKK, hDD, hA, hret, hlk⟩ := C0
  intro ls H locs hl hP hS
  exact lv_lconst hx hb hd rfl (hK _ _ _ _ h ls H locs hl hP hS)
theorem dm_T_ldc (C0 : dm_C p s m args meth c cc nL Ts own D cl cA ad sh A rk) (hK : ∀ pc L S u, K pc L S u → dm_G p l e R s m args below meth c D cl cA ad sh A nL Q pc L S u) (hI : dm_IO Ts own X) {j : Nat} (hd : decode cc pc = .ok (.ldc j, dm_len (.ldc j))) (h : dm_x sh X Sp K Qp (.ldc j) t pc L S u) : dm_G p l e R s m args below meth c D cl cA ad sh A nL Q pc L S u := by
  obtain ⟨⟨hx, hb, hml, hown, hts⟩, hKK, hDD, hA, hret, hlk⟩ := C0
  intro ls H locs hl hP hS
  simp only [dm_x] at h
  split at h
  · rename_i v hv
    exact lv_ldc hx hb hown (hts _ (hI.1 _ _ hv)) hd (hK _ _ _ _ h ls H locs hl hP hS)
  · exact h.elim
theorem dm_T_ldc_w (C0 : dm_C p s m args meth c cc nL Ts own D cl cA ad sh A rk) (hK : ∀ pc L S u, K pc L S u → dm_G p l e R s m args below meth c D cl cA ad sh A nL Q pc L S u) (hI : dm_IO Ts own X) {j : Nat} (hd : decode cc pc = .ok (.ldc_w j, dm_len (.ldc_w j))) (h : dm_x sh X Sp K Qp (.ldc_w j) t pc L S u) : dm_G p l e R s m args below meth c D cl cA ad sh A nL Q pc L S u := by
  obtain ⟨⟨hx, hb, hml, hown, hts⟩, hKK, hDD, hA, hret, hlk⟩ := C0
  intro ls H locs hl hP hS
  simp only [dm_x] at h
  split at h
  · rename_i v hv
    exact lv_ldcw hx hb hown (hts _ (hI.1 _ _ hv)) hd (hK _ _ _ _ h ls H locs hl hP hS)
  · exact h.elim
theorem dm_T_ldc2_w (C0 : dm_C p s m args meth c cc nL Ts own D cl cA ad sh A rk) (hK : ∀ pc L S u, K pc L S u → dm_G p l e R s m args below meth c D cl cA ad sh A nL Q pc L S u) (hI : dm_IO Ts own X) {j : Nat} (hd : decode cc pc = .ok (.ldc2_w j, dm_len (.ldc2_w j))) (h : dm_x sh X Sp K Qp (.ldc2_w j) t pc L S u) : dm_G p l e R s m args below meth c D cl cA ad sh A nL Q pc L S u := by
  obtain ⟨⟨hx, hb, hml, hown, hts⟩, hKK, hDD, hA, hret, hlk⟩ := C0
  intro ls H locs hl hP hS
  simp only [dm_x] at h
  split at h
  · rename_i v hv
    exact lv_ldc2 hx hb hown (hts _ (hI.2 _ _ hv)) hd (hK _ _ _ _ h ls H locs hl hP hS)
  · exact h.elim
theorem dm_T_iload_n (C0 : dm_C p s m args meth c cc nL Ts own D cl cA ad sh A rk) (hK : ∀ pc L S u, K pc L S u → dm_G p l e R s m args below meth c D cl cA ad sh A nL Q pc L S u) {j : Fin 4} (hd : decode cc pc = .ok (.iload_n j, dm_len (.iload_n j))) (h : dm_x sh X Sp K Qp (.iload_n j) t pc L S u) : dm_G p l e R s m args below meth c D cl cA ad sh A nL Q pc L S u := by
  obtain ⟨⟨hx, hb, hml, hown, hts⟩, hKK, hDD, hA, hret, hlk⟩ := C0
  intro ls H locs hl hP hS
  obtain ⟨x, h1, hk⟩ := hl.i h
  exact lv_iload_n hx hb hd rfl h1 (hK _ _ _ _ hk ls H locs hl hP hS)
theorem dm_T_iload (C0 : dm_C p s m args meth c cc nL Ts own D cl cA ad sh A rk) (hK : ∀ pc L S u, K pc L S u → dm_G p l e R s m args below meth c D cl cA ad sh A nL Q pc L S u) {j : Nat} (hd : decode cc pc = .ok (.iload j, dm_len (.iload j))) (h : dm_x sh X Sp K Qp (.iload j) t pc L S u) : dm_G p l e R s m args below meth c D cl cA ad sh A nL Q pc L S u := by
  obtain ⟨⟨hx, hb, hml, hown, hts⟩, hKK, hDD, hA, hret, hlk⟩ := C0
  intro ls H locs hl hP hS
  obtain ⟨x, h1, hk⟩ := hl.i h
  exact lv_iload hx hb hd h1 (hK _ _ _ _ hk ls H locs hl hP hS)
theorem dm_T_lload_n (C0 : dm_C p s m args meth c cc nL Ts own D cl cA ad sh A rk) (hK : ∀ pc L S u, K pc L S u → dm_G p l e R s m args below meth c D cl cA ad sh A nL Q pc L S u) {j : Fin 4} (hd : decode cc pc = .ok (.lload_n j, dm_len (.lload_n j))) (h : dm_x sh X Sp K Qp (.lload_n j) t pc L S u) : dm_G p l e R s m args below meth c D cl cA ad sh A nL Q pc L S u := by
  obtain ⟨⟨hx, hb, hml, hown, hts⟩, hKK, hDD, hA, hret, hlk⟩ := C0
  intro ls H locs hl hP hS
  obtain ⟨x, h1, hk⟩ := hl.j h
  exact lv_lload_n hx hb hd rfl h1 (hK _ _ _ _ hk ls H locs hl hP hS)
theorem dm_T_lload (C0 : dm_C p s m args meth c cc nL Ts own D cl cA ad sh A rk) (hK : ∀ pc L S u, K pc L S u → dm_G p l e R s m args below meth c D cl cA ad sh A nL Q pc L S u) {j : Nat} (hd : decode cc pc = .ok (.lload j, dm_len (.lload j))) (h : dm_x sh X Sp K Qp (.lload j) t pc L S u) : dm_G p l e R s m args below meth c D cl cA ad sh A nL Q pc L S u := by
  obtain ⟨⟨hx, hb, hml, hown, hts⟩, hKK, hDD, hA, hret, hlk⟩ := C0
  intro ls H locs hl hP hS
  obtain ⟨x, h1, hk⟩ := hl.j h
  exact lv_lload hx hb hd h1 (hK _ _ _ _ hk ls H locs hl hP hS)
theorem dm_T_aload_n (C0 : dm_C p s m args meth c cc nL Ts own D cl cA ad sh A rk) (hK : ∀ pc L S u, K pc L S u → dm_G p l e R s m args below meth c D cl cA ad sh A nL Q pc L S u) {j : Fin 4} (hd : decode cc pc = .ok (.aload_n j, dm_len (.aload_n j))) (h : dm_x sh X Sp K Qp (.aload_n j) t pc L S u) : dm_G p l e R s m args below meth c D cl cA ad sh A nL Q pc L S u := by
  obtain ⟨⟨hx, hb, hml, hown, hts⟩, hKK, hDD, hA, hret, hlk⟩ := C0
  intro ls H locs hl hP hS
  obtain ⟨x, h1, hk⟩ := hl.r h
  exact lv_aload_n hx hb hd rfl h1 (hK _ _ _ _ hk ls H locs hl hP hS)
theorem dm_T_aload (C0 : dm_C p s m args meth c cc nL Ts own D cl cA ad sh A rk) (hK : ∀ pc L S u, K pc L S u → dm_G p l e R s m args below meth c D cl cA ad sh A nL Q pc L S u) {j : Nat} (hd : decode cc pc = .ok (.aload j, dm_len (.aload j))) (h : dm_x sh X Sp K Qp (.aload j) t pc L S u) : dm_G p l e R s m args below meth c D cl cA ad sh A nL Q pc L S u := by
  obtain ⟨⟨hx, hb, hml, hown, hts⟩, hKK, hDD, hA, hret, hlk⟩ := C0
  intro ls H locs hl hP hS
  obtain ⟨x, h1, hk⟩ := hl.r h
  exact lv_aload hx hb hd h1 (hK _ _ _ _ hk ls H locs hl hP hS)
theorem dm_T_istore_n (C0 : dm_C p s m args meth c cc nL Ts own D cl cA ad sh A rk) (hK : ∀ pc L S u, K pc L S u → dm_G p l e R s m args below meth c D cl cA ad sh A nL Q pc L S u) {j : Fin 4} (hd : decode cc pc = .ok (.istore_n j, dm_len (.istore_n j))) (h : dm_x sh X Sp K Qp (.istore_n j) t pc L S u) : dm_G p l e R s m args below meth c D cl cA ad sh A nL Q pc L S u := by
  obtain ⟨⟨hx, hb, hml, hown, hts⟩, hKK, hDD, hA, hret, hlk⟩ := C0
  intro ls H locs hl hP hS
  obtain ⟨x, S', rfl, hn, hk⟩ := dm_p1_of h
  exact lv_istore_n hx hb hd rfl hl.has (by rw [← hl.1.2]; exact hn) rfl (hl.st1 (v := .int x) fun ls' hl' => hK _ _ _ _ hk ls' H locs hl' hP hS)
theorem dm_T_istore (C0 : dm_C p s m args meth c cc nL Ts own D cl cA ad sh A rk) (hK : ∀ pc L S u, K pc L S u → dm_G p l e R s m args below meth c D cl cA ad sh A nL Q pc L S u) {j : Nat} (hd : decode cc pc = .ok (.istore j, dm_len (.istore j))) (h : dm_x sh X Sp K Qp (.istore j) t pc L S u) : dm_G p l e R s m args below meth c D cl cA ad sh A nL Q pc L S u := by
  obtain ⟨⟨hx, hb, hml, hown, hts⟩, hKK, hDD, hA, hret, hlk⟩ := C0
  intro ls H locs hl hP hS
  obtain ⟨x, S', rfl, hn, hk⟩ := dm_p1_of h
  exact lv_istore hx hb hd hl.has (by rw [← hl.1.2]; exact hn) rfl (hl.st1 (v := .int x) fun ls' hl' => hK _ _ _ _ hk ls' H locs hl' hP hS)
theorem dm_T_lstore_n (C0 : dm_C p s m args meth c cc nL Ts own D cl cA ad sh A rk) (hK : ∀ pc L S u, K pc L S u → dm_G p l e R s m args below meth c D cl cA ad sh A nL Q pc L S u) {j : Fin 4} (hd : decode cc pc = .ok (.lstore_n j, dm_len (.lstore_n j))) (h : dm_x sh X Sp K Qp (.lstore_n j) t pc L S u) : dm_G p l e R s m args below meth c D cl cA ad sh A nL Q pc L S u := by
  obtain ⟨⟨hx, hb, hml, hown, hts⟩, hKK, hDD, hA, hret, hlk⟩ := C0
  intro ls H locs hl hP hS
  obtain ⟨x, S', rfl, hn, hk⟩ := dm_q1_of h
  exact lv_lstore_n hx hb hd rfl hl.has (by rw [← hl.1.2]; exact hn) rfl (hl.st2 (v := .long x) fun ls' hl' => hK _ _ _ _ hk ls' H locs hl' hP hS)
theorem dm_T_lstore (C0 : dm_C p s m args meth c cc nL Ts own D cl cA ad sh A rk) (hK : ∀ pc L S u, K pc L S u → dm_G p l e R s m args below meth c D cl cA ad sh A nL Q pc L S u) {j : Nat} (hd : decode cc pc = .ok (.lstore j, dm_len (.lstore j))) (h : dm_x sh X Sp K Qp (.lstore j) t pc L S u) : dm_G p l e R s m args below meth c D cl cA ad sh A nL Q pc L S u := by
  obtain ⟨⟨hx, hb, hml, hown, hts⟩, hKK, hDD, hA, hret, hlk⟩ := C0
  intro ls H locs hl hP hS
  obtain ⟨x, S', rfl, hn, hk⟩ := dm_q1_of h
  exact lv_lstore hx hb hd hl.has (by rw [← hl.1.2]; exact hn) rfl (hl.st2 (v := .long x) fun ls' hl' => hK _ _ _ _ hk ls' H locs hl' hP hS)
theorem dm_T_iinc (C0 : dm_C p s m args meth c cc nL Ts own D cl cA ad sh A rk) (hK : ∀ pc L S u, K pc L S u → dm_G p l e R s m args below meth c D cl cA ad sh A nL Q pc L S u) {j : Nat} {k : Int} (hd : decode cc pc = .ok (.iinc j k, dm_len (.iinc j k))) (h : dm_x sh X Sp K Qp (.iinc j k) t pc L S u) : dm_G p l e R s m args below meth c D cl cA ad sh A nL Q pc L S u := by
  obtain ⟨⟨hx, hb, hml, hown, hts⟩, hKK, hDD, hA, hret, hlk⟩ := C0
  intro ls H locs hl hP hS
  obtain ⟨x, h1, hk⟩ : ∃ x, L[j]? = some (some (.int x)) ∧ K (pc + 3) (dm_s1 L j (.int (x + Int32.ofInt k))) S u := by
    simp only [dm_x, dm_li] at h
    split at h
    · rename_i x hx; exact ⟨x, hx, h⟩
    · exact h.elim
  have hm : (j, Value.int x) ∈ dm_ll ad L := dm_ll_mem.mpr ⟨.int x, h1, rfl⟩
  obtain ⟨q, hq⟩ := List.mem_iff_getElem?.mp hm
  exact lv_iinc hx hb hd hl.has hq rfl (by rw [← hl.1.2]; exact (List.getElem?_eq_some_iff.mp h1).1) rfl (hl.st1 (v := .int (x + Int32.ofInt k)) fun ls' hl' => hK _ _ _ _ hk ls' H locs hl' hP hS)
theorem dm_T_iadd (C0 : dm_C p s m args meth c cc nL Ts own D cl cA ad sh A rk) (hK : ∀ pc L S u, K pc L S u → dm_G p l e R s m args below meth c D cl cA ad sh A nL Q pc L S u) (hd : decode cc pc = .ok (.iadd, dm_len (.iadd))) (h : dm_x sh X Sp K Qp (.iadd) t pc L S u) : dm_G p l e R s m args below meth c D cl cA ad sh A nL Q pc L S u := by
  obtain ⟨⟨hx, hb, hml, hown, hts⟩, hKK, hDD, hA, hret, hlk⟩ := C0
  intro ls H locs hl hP hS
  obtain ⟨x, y, S', rfl, hk⟩ := dm_p2_of h
  exact lv_iadd hx hb hd (hK _ _ _ _ hk ls H locs hl hP hS)
theorem dm_T_isub (C0 : dm_C p s m args meth c cc nL Ts own D cl cA ad sh A rk) (hK : ∀ pc L S u, K pc L S u → dm_G p l e R s m args below meth c D cl cA ad sh A nL Q pc L S u) (hd : decode cc pc = .ok (.isub, dm_len (.isub))) (h : dm_x sh X Sp K Qp (.isub) t pc L S u) : dm_G p l e R s m args below meth c D cl cA ad sh A nL Q pc L S u := by
  obtain ⟨⟨hx, hb, hml, hown, hts⟩, hKK, hDD, hA, hret, hlk⟩ := C0
  intro ls H locs hl hP hS
  obtain ⟨x, y, S', rfl, hk⟩ := dm_p2_of h
  exact lv_isub hx hb hd (hK _ _ _ _ hk ls H locs hl hP hS)
theorem dm_T_imul (C0 : dm_C p s m args meth c cc nL Ts own D cl cA ad sh A rk) (hK : ∀ pc L S u, K pc L S u → dm_G p l e R s m args below meth c D cl cA ad sh A nL Q pc L S u) (hd : decode cc pc = .ok (.imul, dm_len (.imul))) (h : dm_x sh X Sp K Qp (.imul) t pc L S u) : dm_G p l e R s m args below meth c D cl cA ad sh A nL Q pc L S u := by
  obtain ⟨⟨hx, hb, hml, hown, hts⟩, hKK, hDD, hA, hret, hlk⟩ := C0
  intro ls H locs hl hP hS
  obtain ⟨x, y, S', rfl, hk⟩ := dm_p2_of h
  exact lv_imul hx hb hd (hK _ _ _ _ hk ls H locs hl hP hS)
theorem dm_T_iand (C0 : dm_C p s m args meth c cc nL Ts own D cl cA ad sh A rk) (hK : ∀ pc L S u, K pc L S u → dm_G p l e R s m args below meth c D cl cA ad sh A nL Q pc L S u) (hd : decode cc pc = .ok (.iand, dm_len (.iand))) (h : dm_x sh X Sp K Qp (.iand) t pc L S u) : dm_G p l e R s m args below meth c D cl cA ad sh A nL Q pc L S u := by
  obtain ⟨⟨hx, hb, hml, hown, hts⟩, hKK, hDD, hA, hret, hlk⟩ := C0
  intro ls H locs hl hP hS
  obtain ⟨x, y, S', rfl, hk⟩ := dm_p2_of h
  exact lv_iand hx hb hd (hK _ _ _ _ hk ls H locs hl hP hS)
theorem dm_T_ior (C0 : dm_C p s m args meth c cc nL Ts own D cl cA ad sh A rk) (hK : ∀ pc L S u, K pc L S u → dm_G p l e R s m args below meth c D cl cA ad sh A nL Q pc L S u) (hd : decode cc pc = .ok (.ior, dm_len (.ior))) (h : dm_x sh X Sp K Qp (.ior) t pc L S u) : dm_G p l e R s m args below meth c D cl cA ad sh A nL Q pc L S u := by
  obtain ⟨⟨hx, hb, hml, hown, hts⟩, hKK, hDD, hA, hret, hlk⟩ := C0
  intro ls H locs hl hP hS
  obtain ⟨x, y, S', rfl, hk⟩ := dm_p2_of h
  exact lv_ior hx hb hd (hK _ _ _ _ hk ls H locs hl hP hS)
theorem dm_T_ishl (C0 : dm_C p s m args meth c cc nL Ts own D cl cA ad sh A rk) (hK : ∀ pc L S u, K pc L S u → dm_G p l e R s m args below meth c D cl cA ad sh A nL Q pc L S u) (hd : decode cc pc = .ok (.ishl, dm_len (.ishl))) (h : dm_x sh X Sp K Qp (.ishl) t pc L S u) : dm_G p l e R s m args below meth c D cl cA ad sh A nL Q pc L S u := by
  obtain ⟨⟨hx, hb, hml, hown, hts⟩, hKK, hDD, hA, hret, hlk⟩ := C0
  intro ls H locs hl hP hS
  obtain ⟨x, y, S', rfl, hk⟩ := dm_p2_of h
  exact lv_ishl hx hb hd (hK _ _ _ _ hk ls H locs hl hP hS)
theorem dm_T_ishr (C0 : dm_C p s m args meth c cc nL Ts own D cl cA ad sh A rk) (hK : ∀ pc L S u, K pc L S u → dm_G p l e R s m args below meth c D cl cA ad sh A nL Q pc L S u) (hd : decode cc pc = .ok (.ishr, dm_len (.ishr))) (h : dm_x sh X Sp K Qp (.ishr) t pc L S u) : dm_G p l e R s m args below meth c D cl cA ad sh A nL Q pc L S u := by
  obtain ⟨⟨hx, hb, hml, hown, hts⟩, hKK, hDD, hA, hret, hlk⟩ := C0
  intro ls H locs hl hP hS
  obtain ⟨x, y, S', rfl, hk⟩ := dm_p2_of h
  exact lv_ishr hx hb hd (hK _ _ _ _ hk ls H locs hl hP hS)
theorem dm_T_iushr (C0 : dm_C p s m args meth c cc nL Ts own D cl cA ad sh A rk) (hK : ∀ pc L S u, K pc L S u → dm_G p l e R s m args below meth c D cl cA ad sh A nL Q pc L S u) (hd : decode cc pc = .ok (.iushr, dm_len (.iushr))) (h : dm_x sh X Sp K Qp (.iushr) t pc L S u) : dm_G p l e R s m args below meth c D cl cA ad sh A nL Q pc L S u := by
  obtain ⟨⟨hx, hb, hml, hown, hts⟩, hKK, hDD, hA, hret, hlk⟩ := C0
  intro ls H locs hl hP hS
  obtain ⟨x, y, S', rfl, hk⟩ := dm_p2_of h
  exact lv_iushr hx hb hd rfl (hK _ _ _ _ hk ls H locs hl hP hS)
theorem dm_T_idiv (C0 : dm_C p s m args meth c cc nL Ts own D cl cA ad sh A rk) (hK : ∀ pc L S u, K pc L S u → dm_G p l e R s m args below meth c D cl cA ad sh A nL Q pc L S u) (hd : decode cc pc = .ok (.idiv, dm_len (.idiv))) (h : dm_x sh X Sp K Qp (.idiv) t pc L S u) : dm_G p l e R s m args below meth c D cl cA ad sh A nL Q pc L S u := by
  obtain ⟨⟨hx, hb, hml, hown, hts⟩, hKK, hDD, hA, hret, hlk⟩ := C0
  intro ls H locs hl hP hS
  obtain ⟨x, y, S', rfl, hn, hk⟩ := dm_p2_of h
  exact lv_idiv hx hb hd hn (hK _ _ _ _ hk ls H locs hl hP hS)
theorem dm_T_irem (C0 : dm_C p s m args meth c cc nL Ts own D cl cA ad sh A rk) (hK : ∀ pc L S u, K pc L S u → dm_G p l e R s m args below meth c D cl cA ad sh A nL Q pc L S u) (hd : decode cc pc = .ok (.irem, dm_len (.irem))) (h : dm_x sh X Sp K Qp (.irem) t pc L S u) : dm_G p l e R s m args below meth c D cl cA ad sh A nL Q pc L S u := by
  obtain ⟨⟨hx, hb, hml, hown, hts⟩, hKK, hDD, hA, hret, hlk⟩ := C0
  intro ls H locs hl hP hS
  obtain ⟨x, y, S', rfl, hn, hk⟩ := dm_p2_of h
  exact lv_irem hx hb hd hn (hK _ _ _ _ hk ls H locs hl hP hS)
theorem dm_T_ladd (C0 : dm_C p s m args meth c cc nL Ts own D cl cA ad sh A rk) (hK : ∀ pc L S u, K pc L S u → dm_G p l e R s m args below meth c D cl cA ad sh A nL Q pc L S u) (hd : decode cc pc = .ok (.ladd, dm_len (.ladd))) (h : dm_x sh X Sp K Qp (.ladd) t pc L S u) : dm_G p l e R s m args below meth c D cl cA ad sh A nL Q pc L S u := by
  obtain ⟨⟨hx, hb, hml, hown, hts⟩, hKK, hDD, hA, hret, hlk⟩ := C0
  intro ls H locs hl hP hS
  obtain ⟨x, y, S', rfl, hk⟩ := dm_q2_of h
  exact lv_ladd hx hb hd (hK _ _ _ _ hk ls H locs hl hP hS)
theorem dm_T_lsub (C0 : dm_C p s m args meth c cc nL Ts own D cl cA ad sh A rk) (hK : ∀ pc L S u, K pc L S u → dm_G p l e R s m args below meth c D cl cA ad sh A nL Q pc L S u) (hd : decode cc pc = .ok (.lsub, dm_len (.lsub))) (h : dm_x sh X Sp K Qp (.lsub) t pc L S u) : dm_G p l e R s m args below meth c D cl cA ad sh A nL Q pc L S u := by
  obtain ⟨⟨hx, hb, hml, hown, hts⟩, hKK, hDD, hA, hret, hlk⟩ := C0
  intro ls H locs hl hP hS
  obtain ⟨x, y, S', rfl, hk⟩ := dm_q2_of h
  exact lv_lsub hx hb hd (hK _ _ _ _ hk ls H locs hl hP hS)
theorem dm_T_lmul (C0 : dm_C p s m args meth c cc nL Ts own D cl cA ad sh A rk) (hK : ∀ pc L S u, K pc L S u → dm_G p l e R s m args below meth c D cl cA ad sh A nL Q pc L S u) (hd : decode cc pc = .ok (.lmul, dm_len (.lmul))) (h : dm_x sh X Sp K Qp (.lmul) t pc L S u) : dm_G p l e R s m args below meth c D cl cA ad sh A nL Q pc L S u := by
  obtain ⟨⟨hx, hb, hml, hown, hts⟩, hKK, hDD, hA, hret, hlk⟩ := C0
  intro ls H locs hl hP hS
  obtain ⟨x, y, S', rfl, hk⟩ := dm_q2_of h
  exact lv_lmul hx hb hd (hK _ _ _ _ hk ls H locs hl hP hS)
theorem dm_T_lcmp (C0 : dm_C p s m args meth c cc nL Ts own D cl cA ad sh A rk) (hK : ∀ pc L S u, K pc L S u → dm_G p l e R s m args below meth c D cl cA ad sh A nL Q pc L S u) (hd : decode cc pc = .ok (.lcmp, dm_len (.lcmp))) (h : dm_x sh X Sp K Qp (.lcmp) t pc L S u) : dm_G p l e R s m args below meth c D cl cA ad sh A nL Q pc L S u := by
  obtain ⟨⟨hx, hb, hml, hown, hts⟩, hKK, hDD, hA, hret, hlk⟩ := C0
  intro ls H locs hl hP hS
  obtain ⟨x, y, S', rfl, hk⟩ := dm_q2_of h
  exact W.lcmp hx hb hd (hK _ _ _ _ hk ls H locs hl hP hS)
theorem dm_T_lneg (C0 : dm_C p s m args meth c cc nL Ts own D cl cA ad sh A rk) (hK : ∀ pc L S u, K pc L S u → dm_G p l e R s m args below meth c D cl cA ad sh A nL Q pc L S u) (hd : decode cc pc = .ok (.lneg, dm_len (.lneg))) (h : dm_x sh X Sp K Qp (.lneg) t pc L S u) : dm_G p l e R s m args below meth c D cl cA ad sh A nL Q pc L S u := by
  obtain ⟨⟨hx, hb, hml, hown, hts⟩, hKK, hDD, hA, hret, hlk⟩ := C0
  intro ls H locs hl hP hS
  obtain ⟨x, S', rfl, hk⟩ := dm_q1_of h
  exact lv_lneg hx hb hd (hK _ _ _ _ hk ls H locs hl hP hS)
theorem dm_T_i2l (C0 : dm_C p s m args meth c cc nL Ts own D cl cA ad sh A rk) (hK : ∀ pc L S u, K pc L S u → dm_G p l e R s m args below meth c D cl cA ad sh A nL Q pc L S u) (hd : decode cc pc = .ok (.i2l, dm_len (.i2l))) (h : dm_x sh X Sp K Qp (.i2l) t pc L S u) : dm_G p l e R s m args below meth c D cl cA ad sh A nL Q pc L S u := by
  obtain ⟨⟨hx, hb, hml, hown, hts⟩, hKK, hDD, hA, hret, hlk⟩ := C0
  intro ls H locs hl hP hS
  obtain ⟨x, S', rfl, hk⟩ := dm_p1_of h
  exact lv_i2l hx hb hd rfl (hK _ _ _ _ hk ls H locs hl hP hS)
theorem dm_T_l2i (C0 : dm_C p s m args meth c cc nL Ts own D cl cA ad sh A rk) (hK : ∀ pc L S u, K pc L S u → dm_G p l e R s m args below meth c D cl cA ad sh A nL Q pc L S u) (hd : decode cc pc = .ok (.l2i, dm_len (.l2i))) (h : dm_x sh X Sp K Qp (.l2i) t pc L S u) : dm_G p l e R s m args below meth c D cl cA ad sh A nL Q pc L S u := by
  obtain ⟨⟨hx, hb, hml, hown, hts⟩, hKK, hDD, hA, hret, hlk⟩ := C0
  intro ls H locs hl hP hS
  obtain ⟨x, S', rfl, hk⟩ := dm_q1_of h
  exact lv_l2i hx hb hd rfl (hK _ _ _ _ hk ls H locs hl hP hS)
theorem dm_T_lshr (C0 : dm_C p s m args meth c cc nL Ts own D cl cA ad sh A rk) (hK : ∀ pc L S u, K pc L S u → dm_G p l e R s m args below meth c D cl cA ad sh A nL Q pc L S u) (hd : decode cc pc = .ok (.lshr, dm_len (.lshr))) (h : dm_x sh X Sp K Qp (.lshr) t pc L S u) : dm_G p l e R s m args below meth c D cl cA ad sh A nL Q pc L S u := by
  obtain ⟨⟨hx, hb, hml, hown, hts⟩, hKK, hDD, hA, hret, hlk⟩ := C0
  intro ls H locs hl hP hS
  simp only [dm_x] at h
  split at h
  · exact lv_lshr hx hb hd rfl (hK _ _ _ _ h ls H locs hl hP hS)
  · exact h.elim
theorem dm_T_dup (C0 : dm_C p s m args meth c cc nL Ts own D cl cA ad sh A rk) (hK : ∀ pc L S u, K pc L S u → dm_G p l e R s m args below meth c D cl cA ad sh A nL Q pc L S u) (hd : decode cc pc = .ok (.dup, dm_len (.dup))) (h : dm_x sh X Sp K Qp (.dup) t pc L S u) : dm_G p l e R s m args below meth c D cl cA ad sh A nL Q pc L S u := by
  obtain ⟨⟨hx, hb, hml, hown, hts⟩, hKK, hDD, hA, hret, hlk⟩ := C0
  intro ls H locs hl hP hS
  simp only [dm_x] at h
  split at h
  · exact lv_dup hx hb hd rfl (hK _ _ _ _ h ls H locs hl hP hS)
  · exact lv_dup hx hb hd rfl (hK _ _ _ _ h ls H locs hl hP hS)
  · exact h.elim
theorem dm_T_dup2 (C0 : dm_C p s m args meth c cc nL Ts own D cl cA ad sh A rk) (hK : ∀ pc L S u, K pc L S u → dm_G p l e R s m args below meth c D cl cA ad sh A nL Q pc L S u) (hd : decode cc pc = .ok (.dup2, dm_len (.dup2))) (h : dm_x sh X Sp K Qp (.dup2) t pc L S u) : dm_G p l e R s m args below meth c D cl cA ad sh A nL Q pc L S u := by
  obtain ⟨⟨hx, hb, hml, hown, hts⟩, hKK, hDD, hA, hret, hlk⟩ := C0
  intro ls H locs hl hP hS
  simp only [dm_x] at h
  split at h
  · exact lv_dup2_11 hx hb hd rfl rfl (hK _ _ _ _ h ls H locs hl hP hS)
  · exact lv_dup2_2 hx hb hd rfl (hK _ _ _ _ h ls H locs hl hP hS)
  · exact h.elim
theorem dm_T_iaload (C0 : dm_C p s m args meth c cc nL Ts own D cl cA ad sh A rk) (hK : ∀ pc L S u, K pc L S u → dm_G p l e R s m args below meth c D cl cA ad sh A nL Q pc L S u) (hd : decode cc pc = .ok (.iaload, dm_len (.iaload))) (h : dm_x sh X Sp K Qp (.iaload) t pc L S u) : dm_G p l e R s m args below meth c D cl cA ad sh A nL Q pc L S u := by
  obtain ⟨⟨hx, hb, hml, hown, hts⟩, hKK, hDD, hA, hret, hlk⟩ := C0
  intro ls H locs hl hP hS
  simp only [dm_x] at h
  split at h
  · rename_i j c0 S'
    split at h
    · rename_i n hc
      exact va_iald hx hb hKK hP c0 0 (dm_w_at hc) rfl h.1 hd (hK _ _ _ _ h.2 ls H locs hl hP hS)
    · exact h.elim
  · exact h.elim
theorem dm_T_baload (C0 : dm_C p s m args meth c cc nL Ts own D cl cA ad sh A rk) (hK : ∀ pc L S u, K pc L S u → dm_G p l e R s m args below meth c D cl cA ad sh A nL Q pc L S u) (hd : decode cc pc = .ok (.baload, dm_len (.baload))) (h : dm_x sh X Sp K Qp (.baload) t pc L S u) : dm_G p l e R s m args below meth c D cl cA ad sh A nL Q pc L S u := by
  obtain ⟨⟨hx, hb, hml, hown, hts⟩, hKK, hDD, hA, hret, hlk⟩ := C0
  intro ls H locs hl hP hS
  simp only [dm_x] at h
  split at h
  · rename_i j c0 S'
    split at h
    · rename_i n hc
      exact va_zald hx hb hKK hP c0 2 (dm_w_at hc) rfl h.1 hd (hK _ _ _ _ h.2 ls H locs hl hP hS)
    · exact h.elim
  · exact h.elim
theorem dm_T_laload (C0 : dm_C p s m args meth c cc nL Ts own D cl cA ad sh A rk) (hK : ∀ pc L S u, K pc L S u → dm_G p l e R s m args below meth c D cl cA ad sh A nL Q pc L S u) (hd : decode cc pc = .ok (.laload, dm_len (.laload))) (h : dm_x sh X Sp K Qp (.laload) t pc L S u) : dm_G p l e R s m args below meth c D cl cA ad sh A nL Q pc L S u := by
  obtain ⟨⟨hx, hb, hml, hown, hts⟩, hKK, hDD, hA, hret, hlk⟩ := C0
  intro ls H locs hl hP hS
  simp only [dm_x] at h
  split at h
  · rename_i j c0 S'
    split at h
    · rename_i n hc
      exact va_lald hx hb hKK hP c0 1 (dm_w_at hc) rfl h.1 hd (hK _ _ _ _ h.2 ls H locs hl hP hS)
    · exact h.elim
  · exact h.elim
theorem dm_T_iastore (C0 : dm_C p s m args meth c cc nL Ts own D cl cA ad sh A rk) (hK : ∀ pc L S u, K pc L S u → dm_G p l e R s m args below meth c D cl cA ad sh A nL Q pc L S u) (hd : decode cc pc = .ok (.iastore, dm_len (.iastore))) (h : dm_x sh X Sp K Qp (.iastore) t pc L S u) : dm_G p l e R s m args below meth c D cl cA ad sh A nL Q pc L S u := by
  obtain ⟨⟨hx, hb, hml, hown, hts⟩, hKK, hDD, hA, hret, hlk⟩ := C0
  intro ls H locs hl hP hS
  simp only [dm_x] at h
  split at h
  · rename_i x j c0 S'
    split at h
    · rename_i n hc
      refine va_iast hx hb hKK hP (hDD u) hS c0 0 (dm_w_at hc) rfl h.1 hd (fun H1 locs1 hP1 _ hS1 => hK _ _ _ _ h.2 ls H1 locs1 hl ?_ hS1)
      rw [dm_w_set (u := u) (u' := dm_ui u c0 j.toNatClampNeg x) hc (fun c' hn => by simp [dm_ui, hn]) (fun c' hn => by simp [dm_ui, hn])]
      simpa [dm_en, dm_ui] using hP1
    · exact h.elim
  · exact h.elim
theorem dm_T_lastore (C0 : dm_C p s m args meth c cc nL Ts own D cl cA ad sh A rk) (hK : ∀ pc L S u, K pc L S u → dm_G p l e R s m args below meth c D cl cA ad sh A nL Q pc L S u) (hd : decode cc pc = .ok (.lastore, dm_len (.lastore))) (h : dm_x sh X Sp K Qp (.lastore) t pc L S u) : dm_G p l e R s m args below meth c D cl cA ad sh A nL Q pc L S u := by
  obtain ⟨⟨hx, hb, hml, hown, hts⟩, hKK, hDD, hA, hret, hlk⟩ := C0
  intro ls H locs hl hP hS
  simp only [dm_x] at h
  split at h
  · rename_i x j c0 S'
    split at h
    · rename_i n hc
      refine va_last hx hb hKK hP (hDD u) hS c0 1 (dm_w_at hc) rfl h.1 hd (fun H1 locs1 hP1 _ hS1 => hK _ _ _ _ h.2 ls H1 locs1 hl ?_ hS1)
      rw [dm_w_set (u := u) (u' := dm_ul u c0 j.toNatClampNeg x) hc (fun c' hn => by simp [dm_ul, hn]) (fun c' hn => by simp [dm_ul, hn])]
      simpa [dm_en, dm_ul] using hP1
    · exact h.elim
  · exact h.elim
theorem dm_T_bastore (C0 : dm_C p s m args meth c cc nL Ts own D cl cA ad sh A rk) (hK : ∀ pc L S u, K pc L S u → dm_G p l e R s m args below meth c D cl cA ad sh A nL Q pc L S u) (hd : decode cc pc = .ok (.bastore, dm_len (.bastore))) (h : dm_x sh X Sp K Qp (.bastore) t pc L S u) : dm_G p l e R s m args below meth c D cl cA ad sh A nL Q pc L S u := by
  obtain ⟨⟨hx, hb, hml, hown, hts⟩, hKK, hDD, hA, hret, hlk⟩ := C0
  intro ls H locs hl hP hS
  simp only [dm_x] at h
  split at h
  · rename_i x j c0 S'
    split at h
    · rename_i n hc
      refine va_zast hx hb hKK hP (hDD u) hS c0 2 (dm_w_at hc) rfl h.2.1 hd (fun H1 locs1 hP1 _ hS1 => hK _ _ _ _ h.2.2 ls H1 locs1 hl ?_ hS1)
      rw [h.1] at hP1
      rw [dm_w_set (u := u) (u' := dm_ui u c0 j.toNatClampNeg x) hc (fun c' hn => by simp [dm_ui, hn]) (fun c' hn => by simp [dm_ui, hn])]
      simpa [dm_en, dm_ui] using hP1
    · exact h.elim
  · exact h.elim
theorem dm_T_arraylength (C0 : dm_C p s m args meth c cc nL Ts own D cl cA ad sh A rk) (hK : ∀ pc L S u, K pc L S u → dm_G p l e R s m args below meth c D cl cA ad sh A nL Q pc L S u) (hd : decode cc pc = .ok (.arraylength, dm_len (.arraylength))) (h : dm_x sh X Sp K Qp (.arraylength) t pc L S u) : dm_G p l e R s m args below meth c D cl cA ad sh A nL Q pc L S u := by
  obtain ⟨⟨hx, hb, hml, hown, hts⟩, hKK, hDD, hA, hret, hlk⟩ := C0
  intro ls H locs hl hP hS
  simp only [dm_x] at h
  split at h
  · rename_i c0 S'
    split at h
    · rename_i k n hc
      obtain ⟨hk3, h⟩ := h
      have hw := dm_w_at (ad := ad) (cA := cA) (u := u) hc
      have hk : k = 0 ∨ k = 1 ∨ k = 2 := by omega
      rcases hk with rfl | rfl | rfl
      · exact va_alen hx hb hKK hP c0 0 hw rfl rfl hd (hK _ _ _ _ h ls H locs hl hP hS)
      · exact va_alen hx hb hKK hP c0 1 hw rfl rfl hd (hK _ _ _ _ h ls H locs hl hP hS)
      · exact va_alen hx hb hKK hP c0 2 hw rfl rfl hd (hK _ _ _ _ h ls H locs hl hP hS)
    · exact h.elim
  · exact h.elim
theorem dm_T_getfield (C0 : dm_C p s m args meth c cc nL Ts own D cl cA ad sh A rk) (hK : ∀ pc L S u, K pc L S u → dm_G p l e R s m args below meth c D cl cA ad sh A nL Q pc L S u) (hF : dm_FO Ts own cl X) {j : Nat} (hd : decode cc pc = .ok (.getfield j, dm_len (.getfield j))) (h : dm_x sh X Sp K Qp (.getfield j) t pc L S u) : dm_G p l e R s m args below meth c D cl cA ad sh A nL Q pc L S u := by
  obtain ⟨⟨hx, hb, hml, hown, hts⟩, hKK, hDD, hA, hret, hlk⟩ := C0
  intro ls H locs hl hP hS
  simp only [dm_x] at h
  split at h
  · rename_i c0 S'
    split at h
    · rename_i ci k hj
      split at h
      · rename_i ci' fs hc
        obtain ⟨rfl, h⟩ := h
        obtain ⟨C, T, N, ty0, hcl, hkN, hin, hlk, -, -⟩ := hF j ci k hj
        have hw := dm_w_at (ad := ad) (cA := cA) (u := u) hc
        have hfs : ∀ f, fs[k]? = some f → (fs.mapIdx (fun k f => dm_fv ad u c0 k f))[k]? = some (dm_fv ad u c0 k f) := fun f hf => by simp [List.getElem?_mapIdx, hf]
        split at h
        · rename_i hf
          exact va_get hx hb hts hin hown hKK hP c0 hw hcl k hkN (hts _ hlk) (fun _ h9 => h9) (hfs _ hf) hd (hK _ _ _ _ h ls H locs hl hP hS)
        · rename_i hf
          exact va_get hx hb hts hin hown hKK hP c0 hw hcl k hkN (hts _ hlk) (fun _ h9 => h9) (hfs _ hf) hd (hK _ _ _ _ h ls H locs hl hP hS)
        · rename_i hf
          exact va_get hx hb hts hin hown hKK hP c0 hw hcl k hkN (hts _ hlk) (fun _ h9 => h9) (hfs _ hf) hd (hK _ _ _ _ h ls H locs hl hP hS)
        · rename_i hf
          exact va_get hx hb hts hin hown hKK hP c0 hw hcl k hkN (hts _ hlk) (fun _ h9 => h9) (hfs _ hf) hd (hK _ _ _ _ h ls H locs hl hP hS)
        · exact h.elim
      · exact h.elim
    · exact h.elim
  · exact h.elim
theorem dm_en_puti {c0 ci k f : Nat} {fs : List Nat} {x : Int32} (hf : fs[k]? = some f) (h : f = 0 ∨ f = 2) : dm_en ad cA (dm_ui u c0 k x) c0 (.inr (ci, fs)) = .inr (ci, (fs.mapIdx (fun k f => dm_fv ad u c0 k f)).set k (.int x)) := by
  simp only [dm_en]
  congr 2
  apply List.ext_getElem?
  intro i
  by_cases hi : i = k
  · subst hi
    rw [List.getElem?_set_self (by simpa using (List.getElem?_eq_some_iff.mp hf).1), List.getElem?_mapIdx, hf]
    rcases h with rfl | rfl <;> simp [dm_fv, dm_ui, upd]
  · rw [List.getElem?_set_ne (fun q => hi q.symm), List.getElem?_mapIdx, List.getElem?_mapIdx]
    congr 1
    funext g
    unfold dm_fv
    split <;> simp [dm_ui, upd, hi]
theorem dm_en_putl {c0 ci k f : Nat} {fs : List Nat} {x : Int64} (hf : fs[k]? = some f) (h : f = 1) : dm_en ad cA (dm_ul u c0 k x) c0 (.inr (ci, fs)) = .inr (ci, (fs.mapIdx (fun k f => dm_fv ad u c0 k f)).set k (.long x)) := by
  simp only [dm_en]
  congr 2
  apply List.ext_getElem?
  intro i
  by_cases hi : i = k
  · subst hi
    rw [List.getElem?_set_self (by simpa using (List.getElem?_eq_some_iff.mp hf).1), List.getElem?_mapIdx, hf]
    subst h
    simp [dm_fv, dm_ul, vp_updL]
  · rw [List.getElem?_set_ne (fun q => hi q.symm), List.getElem?_mapIdx, List.getElem?_mapIdx]
    congr 1
    funext g
    unfold dm_fv
    split <;> simp [dm_ul, vp_updL, hi]
theorem dm_T_putfield (C0 : dm_C p s m args meth c cc nL Ts own D cl cA ad sh A rk) (hK : ∀ pc L S u, K pc L S u → dm_G p l e R s m args below meth c D cl cA ad sh A nL Q pc L S u) (hF : dm_FO Ts own cl X) (hSO : dm_SO cl sh) {j : Nat} (hd : decode cc pc = .ok (.putfield j, dm_len (.putfield j))) (h : dm_x sh X Sp K Qp (.putfield j) t pc L S u) : dm_G p l e R s m args below meth c D cl cA ad sh A nL Q pc L S u := by
  obtain ⟨⟨hx, hb, hml, hown, hts⟩, hKK, hDD, hA, hret, hlk⟩ := C0
  intro ls H locs hl hP hS
  simp only [dm_x] at h
  split at h
  · rename_i x c0 S'
    split at h
    · rename_i ci k hj
      split at h
      · rename_i ci' fs hc
        obtain ⟨rfl, h⟩ := h
        obtain ⟨C, T, N, ty0, hcl, hkN, hin, hlk, hty, hnm⟩ := hF j ci k hj
        have hw := dm_w_at (ad := ad) (cA := cA) (u := u) hc
        split at h
        · rename_i hf
          refine va_put (ty := .int) hx hb hts hin ty0 hty hnm hown hKK hP (hDD u) hS c0 hw hcl k hkN (hts _ hlk) (fun _ h9 => h9) ((hSO c0 ci fs hc C T N hcl k _ hf).1 rfl).1 ((hSO c0 ci fs hc C T N hcl k _ hf).1 rfl).2 rfl rfl (by simpa using (List.getElem?_eq_some_iff.mp hf).1) hd (fun H1 locs1 hP1 _ hS1 => hK _ _ _ _ h ls H1 locs1 hl ?_ hS1)
          rw [dm_w_set (u := u) (u' := dm_ui u c0 k x) hc (fun c' hn => by simp [dm_ui, hn]) (fun c' hn => by simp [dm_ui, hn])]
          rw [show dm_en ad cA (dm_ui u c0 k x) c0 (.inr (ci, fs)) = .inr (ci, (fs.mapIdx (fun k f => dm_fv ad u c0 k f)).set k (.int x)) from dm_en_puti hf (by decide)]
          exact hP1
        · rename_i hf
          refine va_put (ty := .boolean) hx hb hts hin ty0 hty hnm hown hKK hP (hDD u) hS c0 hw hcl k hkN (hts _ hlk) (fun _ h9 => h9) ((hSO c0 ci fs hc C T N hcl k _ hf).2.2 rfl).1 ((hSO c0 ci fs hc C T N hcl k _ hf).2.2 rfl).2 h.1.1 h.1.2 (by simpa using (List.getElem?_eq_some_iff.mp hf).1) hd (fun H1 locs1 hP1 _ hS1 => hK _ _ _ _ h.2 ls H1 locs1 hl ?_ hS1)
          rw [dm_w_set (u := u) (u' := dm_ui u c0 k x) hc (fun c' hn => by simp [dm_ui, hn]) (fun c' hn => by simp [dm_ui, hn])]
          rw [show dm_en ad cA (dm_ui u c0 k x) c0 (.inr (ci, fs)) = .inr (ci, (fs.mapIdx (fun k f => dm_fv ad u c0 k f)).set k (.int x)) from dm_en_puti hf (by decide)]
          exact hP1
        · exact h.elim
      · exact h.elim
    · exact h.elim
  · rename_i x c0 S'
    split at h
    · rename_i ci k hj
      split at h
      · rename_i ci' fs hc
        obtain ⟨rfl, h⟩ := h
        obtain ⟨C, T, N, ty0, hcl, hkN, hin, hlk, hty, hnm⟩ := hF j ci k hj
        have hw := dm_w_at (ad := ad) (cA := cA) (u := u) hc
        split at h
        · rename_i hf
          refine va_put (ty := .long) hx hb hts hin ty0 hty hnm hown hKK hP (hDD u) hS c0 hw hcl k hkN (hts _ hlk) (fun _ h9 => h9) ((hSO c0 ci fs hc C T N hcl k _ hf).2.1 rfl).1 ((hSO c0 ci fs hc C T N hcl k _ hf).2.1 rfl).2 rfl rfl (by simpa using (List.getElem?_eq_some_iff.mp hf).1) hd (fun H1 locs1 hP1 _ hS1 => hK _ _ _ _ h ls H1 locs1 hl ?_ hS1)
          rw [dm_w_set (u := u) (u' := dm_ul u c0 k x) hc (fun c' hn => by simp [dm_ul, hn]) (fun c' hn => by simp [dm_ul, hn])]
          rw [show dm_en ad cA (dm_ul u c0 k x) c0 (.inr (ci, fs)) = .inr (ci, (fs.mapIdx (fun k f => dm_fv ad u c0 k f)).set k (.long x)) from dm_en_putl hf (by decide)]
          exact hP1
        · exact h.elim
      · exact h.elim
    · exact h.elim
  · exact h.elim
end DMT
end
section
/-! ===== branches, calls, ends; the machine's soundness ===== -/
section DMU
variable {p : Program} {l : Launch} {e : Env} {R : Room} {s : State} {m : MethodId} {args : Array Value} {below : List Frame} {meth : Method} {c : Code} {D : va_G} {cl : List vw_C} {cA : Nat → ClassId} {ad : Nat → Nat} {sh : List dm_H} {A : Nat → Prop} {cc : ByteArray} {nL : Nat} {Ts : List Cond} {own : String} {X : dm_X} {Sp : dm_Sp} {Q : State → Prop}
variable {K : dm_K} {Qp : Option Value → dm_S → Prop} {pc : Nat} {L : List (Option Value)} {S : List Value} {u : dm_S} {t : List Nat} {rk : Nat}
theorem dm_cs_cv (S : List Value) : ((S.map (dm_cv ad)).map fun v => v.category).sum = dm_cs S := by
  unfold dm_cs
  rw [List.map_map]
  congr 2
  funext v
  exact dm_cv_cat ad v
theorem dm_toList_cv {r : Option Value} (h : ∀ a, r ≠ some (.ref a)) : r.toList.map (dm_cv ad) = r.toList := by
  cases r with
  | none => rfl
  | some v =>
    cases v with
    | ref a => exact absurd rfl (h a)
    | _ => rfl
theorem dm_blind {sz : Nat} {As : List Value} : FrameBlind (dm_Pc D cl cA ad sh sz As u) := fun a U g mk q => by
  obtain ⟨q0, q1, qP, qK, qD⟩ := q
  exact ⟨q0, q1, qP, va_K.moved (u := U) (U := U.calling g mk a) (Vm.Alike.refl U.vm) qK, qD⟩
theorem dm_freeA {H : Heap} {locs : List Loc} (hD : va_D A (dm_w ad cA sh u)) (hA : ∀ q, s.heap.size ≤ q → A q) (hS : va_S A s.heap H locs) : ∀ q, va_A (dm_w ad cA sh u) H.size q → A q := by
  intro q h
  rcases h with ⟨k, e, h⟩ | h
  · exact hD.2 k (q, e) h
  · exact hA q (Nat.le_trans hS.1 h)
theorem dm_T_ifCond (C0 : dm_C p s m args meth c cc nL Ts own D cl cA ad sh A rk) (hK : ∀ pc L S u, K pc L S u → dm_G p l e R s m args below meth c D cl cA ad sh A nL Q pc L S u) {o : Jvm.ClassFile.Cond} {off : Int} {a : Nat} (ht : t = [a]) (hd : decode cc pc = .ok (.ifCond o off, 3)) (ho : (pc : Int) + off = (a : Int)) (h : dm_x sh X Sp K Qp (.ifCond o off) t pc L S u) : dm_G p l e R s m args below meth c D cl cA ad sh A nL Q pc L S u := by
  obtain ⟨⟨hx, hb, hml, hown, hts⟩, hKK, hDD, hA, hret, hlk⟩ := C0
  intro ls H locs hl hP hS
  subst ht
  obtain ⟨x, S', rfl, h1, h2⟩ := dm_p1_of h
  cases o with
  | eq => exact lv_if_eq hx hb hd ho (fun hc => hK _ _ _ _ (h1 hc) ls H locs hl hP hS) (fun hc => hK _ _ _ _ (h2 hc) ls H locs hl hP hS)
  | ne => exact lv_if_ne hx hb hd ho (fun hc => hK _ _ _ _ (h1 hc) ls H locs hl hP hS) (fun hc => hK _ _ _ _ (h2 (fun q => q hc)) ls H locs hl hP hS)
  | lt => exact lv_if_lt hx hb hd ho (fun hc => hK _ _ _ _ (h1 hc) ls H locs hl hP hS) (fun hc => hK _ _ _ _ (h2 hc) ls H locs hl hP hS)
  | ge => exact lv_if_ge hx hb hd ho (fun hc => hK _ _ _ _ (h1 hc) ls H locs hl hP hS) (fun hc => hK _ _ _ _ (h2 hc) ls H locs hl hP hS)
  | gt => exact lv_if_gt hx hb hd ho (fun hc => hK _ _ _ _ (h1 hc) ls H locs hl hP hS) (fun hc => hK _ _ _ _ (h2 hc) ls H locs hl hP hS)
  | le => exact lv_if_le hx hb hd ho (fun hc => hK _ _ _ _ (h1 hc) ls H locs hl hP hS) (fun hc => hK _ _ _ _ (h2 hc) ls H locs hl hP hS)
theorem dm_T_if_icmp (C0 : dm_C p s m args meth c cc nL Ts own D cl cA ad sh A rk) (hK : ∀ pc L S u, K pc L S u → dm_G p l e R s m args below meth c D cl cA ad sh A nL Q pc L S u) {o : Jvm.ClassFile.Cond} {off : Int} {a : Nat} (ht : t = [a]) (hd : decode cc pc = .ok (.if_icmp o off, 3)) (ho : (pc : Int) + off = (a : Int)) (h : dm_x sh X Sp K Qp (.if_icmp o off) t pc L S u) : dm_G p l e R s m args below meth c D cl cA ad sh A nL Q pc L S u := by
  obtain ⟨⟨hx, hb, hml, hown, hts⟩, hKK, hDD, hA, hret, hlk⟩ := C0
  intro ls H locs hl hP hS
  subst ht
  obtain ⟨x, y, S', rfl, h1, h2⟩ := dm_p2_of h
  cases o with
  | eq => exact lv_icmp_eq hx hb hd ho (fun hc => hK _ _ _ _ (h1 hc) ls H locs hl hP hS) (fun hc => hK _ _ _ _ (h2 hc) ls H locs hl hP hS)
  | ne => exact lv_icmp_ne hx hb hd ho (fun hc => hK _ _ _ _ (h1 hc) ls H locs hl hP hS) (fun hc => hK _ _ _ _ (h2 (fun q => q hc)) ls H locs hl hP hS)
  | lt => exact lv_icmp_lt hx hb hd ho (fun hc => hK _ _ _ _ (h1 hc) ls H locs hl hP hS) (fun hc => hK _ _ _ _ (h2 hc) ls H locs hl hP hS)
  | ge => exact lv_icmp_ge hx hb hd ho (fun hc => hK _ _ _ _ (h1 hc) ls H locs hl hP hS) (fun hc => hK _ _ _ _ (h2 hc) ls H locs hl hP hS)
  | gt => exact lv_icmp_gt hx hb hd ho (fun hc => hK _ _ _ _ (h1 hc) ls H locs hl hP hS) (fun hc => hK _ _ _ _ (h2 hc) ls H locs hl hP hS)
  | le => exact lv_icmp_le hx hb hd ho (fun hc => hK _ _ _ _ (h1 hc) ls H locs hl hP hS) (fun hc => hK _ _ _ _ (h2 hc) ls H locs hl hP hS)
theorem dm_T_goto (C0 : dm_C p s m args meth c cc nL Ts own D cl cA ad sh A rk) (hK : ∀ pc L S u, K pc L S u → dm_G p l e R s m args below meth c D cl cA ad sh A nL Q pc L S u) {off : Int} {a : Nat} (ht : t = [a]) (hd : decode cc pc = .ok (.goto off, 3)) (ho : (pc : Int) + off = (a : Int)) (h : dm_x sh X Sp K Qp (.goto off) t pc L S u) : dm_G p l e R s m args below meth c D cl cA ad sh A nL Q pc L S u := by
  obtain ⟨⟨hx, hb, hml, hown, hts⟩, hKK, hDD, hA, hret, hlk⟩ := C0
  intro ls H locs hl hP hS
  subst ht
  exact lv_goto hx hb hd ho (hK _ _ _ _ h ls H locs hl hP hS)
theorem dm_sw_at {x : Int32} {f : Nat → Prop} : ∀ (ts : List Nat) (lo : Int), dm_sw x f lo ts → ∀ (j : Nat) (a : Nat), ts[j]? = some a → x.toInt = lo + j → f a := by
  intro ts
  induction ts with
  | nil => intro lo _ j a h; simp at h
  | cons b ts ih =>
    intro lo h j a hj e
    cases j with
    | zero => simp at hj; subst hj; exact h.1 (by simpa using e)
    | succ j => exact ih (lo + 1) h.2 j a (by simpa using hj) (by rw [e]; push_cast; omega)
theorem dm_T_tableswitch (C0 : dm_C p s m args meth c cc nL Ts own D cl cA ad sh A rk) (hK : ∀ pc L S u, K pc L S u → dm_G p l e R s m args below meth c D cl cA ad sh A nL Q pc L S u) {d lo hi : Int} {offs : Array Int} {len : Nat} {t0 : Nat} {ts : List Nat} (ht : t = t0 :: ts) (hd : decode cc pc = .ok (.tableswitch d lo hi offs, len)) (h0 : (pc : Int) + d = (t0 : Int)) (ho : offs.toList.map (fun (o : Int) => (pc : Int) + o) = ts.map (fun (a : Nat) => (a : Int))) (hn : hi + 1 = lo + ts.length) (h : dm_x sh X Sp K Qp (.tableswitch d lo hi offs) t pc L S u) : dm_G p l e R s m args below meth c D cl cA ad sh A nL Q pc L S u := by
  obtain ⟨⟨hx, hb, hml, hown, hts⟩, hKK, hDD, hA, hret, hlk⟩ := C0
  intro ls H locs hl hP hS
  subst ht
  obtain ⟨x, S', rfl, h1, h2⟩ := dm_p1_of h
  by_cases hin : x.toInt < lo ∨ hi < x.toInt
  · exact lv_tableOut hx hb hd hin h0 (hK _ _ _ _ (h1 hin) ls H locs hl hP hS)
  · have g1 : ¬ x.toInt < lo := fun q => hin (Or.inl q)
    have g2 : ¬ hi < x.toInt := fun q => hin (Or.inr q)
    have hj : (x.toInt - lo).toNat < ts.length := by omega
    have ha : ts[(x.toInt - lo).toNat]? = some ts[(x.toInt - lo).toNat] := List.getElem?_eq_getElem hj
    have hlen : offs.toList.length = ts.length := by
      have := congrArg List.length ho
      simpa using this
    have hj2 : (x.toInt - lo).toNat < offs.toList.length := by omega
    have hb2 : offs.toList[(x.toInt - lo).toNat]? = some offs.toList[(x.toInt - lo).toNat] := List.getElem?_eq_getElem hj2
    have he : (pc : Int) + offs.toList[(x.toInt - lo).toNat] = (ts[(x.toInt - lo).toNat] : Int) := by
      have := congrArg (fun z => z[(x.toInt - lo).toNat]?) ho
      simp only [List.getElem?_map, ha, hb2, Option.map_some, Option.some.injEq] at this
      exact this
    refine lv_tableIn hx hb hd g1 g2 (by rw [← Array.getElem?_toList]; exact hb2) he (hK _ _ _ _ (dm_sw_at ts lo h2 _ _ ha ?_) ls H locs hl hP hS)
    omega
theorem dm_T_invokevirtual (C0 : dm_C p s m args meth c cc nL Ts own D cl cA ad sh A rk) (hK : ∀ pc L S u, K pc L S u → dm_G p l e R s m args below meth c D cl cA ad sh A nL Q pc L S u) (hM : dm_MO l R Ts own D cl cA ad sh X Sp) {j : Nat} (hd : decode cc pc = .ok (.invokevirtual j, dm_len (.invokevirtual j))) (h : dm_x sh X Sp K Qp (.invokevirtual j) t pc L S u) : dm_G p l e R s m args below meth c D cl cA ad sh A nL Q pc L S u := by
  obtain ⟨⟨hx, hb, hml, hown, hts⟩, hKK, hDD, hA, hret, hlk⟩ := C0
  intro ls H locs hl hP hS
  simp only [dm_x] at h
  split at h
  · rename_i mid n ci hj
    split at h
    · rename_i c0 S' hS'
      split at h
      · rename_i ci' fs hc
        obtain ⟨⟨rfl, hci, hcs⟩, hsp⟩ := h
        obtain ⟨y, bytes, maxL, ret, ws', rm, hMet, hG, ⟨hrc, hrs⟩, hRoom, ⟨hini, hlink⟩, hd3, -, hvirt⟩ := hM j mid n ci hj
        obtain ⟨⟨hinst, hsel⟩, T, N, hcl⟩ := hvirt hci
        have hw := dm_w_at (ad := ad) (cA := cA) (u := u) hc
        have hn : n < S.length := by
          have := congrArg List.length hS'
          simp at this
          omega
        have hcw : CallW R s args own y.cls j y bytes maxL ret (Cond.code y bytes maxL ret :: ws') rm 0 0 n := ⟨callB_of n hts hG rfl hrc hrs (hts _ hini) (hts _ hlink) hd3 hRoom, hts _ hinst, hts _ hsel⟩
        have hFr := dm_freeA (hDD u) hA hS
        have hstk : S.map (dm_cv ad) = (((S.take n).reverse).map (dm_cv ad)).reverse ++ Value.ref (ad c0) :: S'.map (dm_cv ad) := by
          conv => lhs; rw [← List.take_append_drop n S, hS']
          simp [dm_cv]
        have hR := va_runV (rest := S'.map (dm_cv ad)) (g := F0 m pc ls (S.map (dm_cv ad))) (locs := locs) (cells := 0) (slots := 0) (below := below) (meth := meth) (e := e) ⟨hx, hb, hml, hown, hts⟩ (hMet H.size (.ref c0 :: (S.take n).reverse) u _ hsp) hcw (b := ad c0) (As := ((S.take n).reverse).map (dm_cv ad)) ⟨dm_blind, va_recv hKK hP hcl hw, fun U hU hW => ⟨rfl, by rw [hU], by rw [hU]; exact hP, va_K.moved hW.alike hKK, (hDD u).weaken (fun _ _ _ _ => trivial)⟩⟩ rfl (by simp; omega) hl.1.1 hstk (lv_room (by rw [dm_cs_cv]; exact hcs)) hd ⟨Nat.zero_le _, Nat.zero_le _⟩
        refine dm_call hR hS (fun q _ h9 => hFr q h9) hFr (fun r v t H1 locs1 ht hvm hnr hq hB hS1 => ?_)
        have hk := hK _ _ _ _ hq ls H1 locs1 hl (by rw [← ht]; exact hB.1) hS1
        rw [List.map_append, dm_toList_cv hnr] at hk
        exact hk
      · exact h.elim
    · exact h.elim
  · exact h.elim
theorem dm_T_invokestatic (C0 : dm_C p s m args meth c cc nL Ts own D cl cA ad sh A rk) (hK : ∀ pc L S u, K pc L S u → dm_G p l e R s m args below meth c D cl cA ad sh A nL Q pc L S u) (hM : dm_MO l R Ts own D cl cA ad sh X Sp) {j : Nat} (hd : decode cc pc = .ok (.invokestatic j, dm_len (.invokestatic j))) (h : dm_x sh X Sp K Qp (.invokestatic j) t pc L S u) : dm_G p l e R s m args below meth c D cl cA ad sh A nL Q pc L S u := by
  obtain ⟨⟨hx, hb, hml, hown, hts⟩, hKK, hDD, hA, hret, hlk⟩ := C0
  intro ls H locs hl hP hS
  simp only [dm_x] at h
  split at h
  · rename_i mid n ci hj
    obtain ⟨⟨rfl, hn, hcs⟩, hsp⟩ := h
    obtain ⟨y, bytes, maxL, ret, ws', rm, hMet, hG, ⟨hrc, hrs⟩, hRoom, ⟨hini, hlink⟩, hd3, hstat, -⟩ := hM j mid n 1000 hj
    have hcw : CallB R s args own j y bytes maxL ret (Cond.code y bytes maxL ret :: ws') rm 0 0 n ∧ (Cond.static y).before args s = true := ⟨callB_of n hts hG rfl hrc hrs (hts _ hini) (hts _ hlink) hd3 hRoom, hts _ (hstat rfl)⟩
    have hFr := dm_freeA (hDD u) hA hS
    have hstk : S.map (dm_cv ad) = (((S.take n).reverse).map (dm_cv ad)).reverse ++ (S.drop n).map (dm_cv ad) := by
      conv => lhs; rw [← List.take_append_drop n S]
      simp
    have hR := va_runS (rest := (S.drop n).map (dm_cv ad)) (g := F0 m pc ls (S.map (dm_cv ad))) (locs := locs) (cells := 0) (slots := 0) (below := below) (meth := meth) (e := e) ⟨hx, hb, hml, hown, hts⟩ (hMet H.size ((S.take n).reverse) u _ hsp) hcw (As := ((S.take n).reverse).map (dm_cv ad)) ⟨dm_blind, fun U hU hW => ⟨rfl, by rw [hU], by rw [hU]; exact hP, va_K.moved hW.alike hKK, (hDD u).weaken (fun _ _ _ _ => trivial)⟩⟩ rfl (by simp; omega) hl.1.1 hstk (lv_room (by rw [dm_cs_cv]; exact hcs)) hd ⟨Nat.zero_le _, Nat.zero_le _⟩
    refine dm_call hR hS (fun q _ h9 => hFr q h9) hFr (fun r v t H1 locs1 ht hvm hnr hq hB hS1 => ?_)
    have hk := hK _ _ _ _ hq ls H1 locs1 hl (by rw [← ht]; exact hB.1) hS1
    rw [List.map_append, dm_toList_cv hnr] at hk
    exact hk
  · exact h.elim
theorem dm_T_ireturn (C0 : dm_C p s m args meth c cc nL Ts own D cl cA ad sh A rk) (hrk : X.2.2.2.2 = rk) (hd : decode cc pc = .ok (.ireturn, dm_len (.ireturn))) (h : dm_x sh X Sp K Qp (.ireturn) t pc L S u) : dm_G p l e R s m args below meth c D cl cA ad sh A nL (MQ below (dm_Qc D cl cA ad sh A Qp) args s 0 0 A) pc L S u := by
  obtain ⟨⟨hx, hb, hml, hown, hts⟩, hKK, hDD, hA, hret, hlk⟩ := C0
  intro ls H locs hl hP hS
  simp only [dm_x] at h
  split at h
  · rename_i x
    split at h
    · rename_i hq
      rw [← hrk, hq] at hret
      exact W.zret (ty := .int) hx hb hret rfl (fun t ht hW => ⟨⟨some (.int x), u, rfl, (fun a q => by cases q), h, by rw [ht]; exact hP, va_K.moved hW.alike hKK, hDD u⟩, hS.F ht⟩) hS.2.2 hd
    · rename_i hq
      rw [← hrk, hq] at hret
      exact W.zret (ty := .boolean) hx hb hret h.1 (fun t ht hW => ⟨⟨some (.int x), u, rfl, (fun a q => by cases q), h.2, by rw [ht]; exact hP, va_K.moved hW.alike hKK, hDD u⟩, hS.F ht⟩) hS.2.2 hd
    · exact h.elim
  · exact h.elim
theorem dm_T_lreturn (C0 : dm_C p s m args meth c cc nL Ts own D cl cA ad sh A rk) (hrk : X.2.2.2.2 = rk) (hd : decode cc pc = .ok (.lreturn, dm_len (.lreturn))) (h : dm_x sh X Sp K Qp (.lreturn) t pc L S u) : dm_G p l e R s m args below meth c D cl cA ad sh A nL (MQ below (dm_Qc D cl cA ad sh A Qp) args s 0 0 A) pc L S u := by
  obtain ⟨⟨hx, hb, hml, hown, hts⟩, hKK, hDD, hA, hret, hlk⟩ := C0
  intro ls H locs hl hP hS
  simp only [dm_x] at h
  split at h
  · rename_i x
    rw [← hrk, h.1] at hret
    exact W.lret hx hb hret (fun t ht hW => ⟨⟨some (.long x), u, rfl, (fun a q => by cases q), h.2, by rw [ht]; exact hP, va_K.moved hW.alike hKK, hDD u⟩, hS.F ht⟩) hS.2.2 hd
  · exact h.elim
theorem dm_T_return_ (C0 : dm_C p s m args meth c cc nL Ts own D cl cA ad sh A rk) (hrk : X.2.2.2.2 = rk) (hd : decode cc pc = .ok (.return_, dm_len (.return_))) (h : dm_x sh X Sp K Qp (.return_) t pc L S u) : dm_G p l e R s m args below meth c D cl cA ad sh A nL (MQ below (dm_Qc D cl cA ad sh A Qp) args s 0 0 A) pc L S u := by
  obtain ⟨⟨hx, hb, hml, hown, hts⟩, hKK, hDD, hA, hret, hlk⟩ := C0
  intro ls H locs hl hP hS
  simp only [dm_x] at h
  split at h
  · rw [← hrk, h.1] at hret
    exact W.vret hx hb hret (fun t ht hW => ⟨⟨none, u, rfl, (fun a q => by cases q), h.2, by rw [ht]; exact hP, va_K.moved hW.alike hKK, hDD u⟩, hS.F ht⟩) hS.2.2 hd
  · exact h.elim
set_option maxHeartbeats 4000000 in
theorem dm_step (C0 : dm_C p s m args meth c cc nL Ts own D cl cA ad sh A rk) (hrk : X.2.2.2.2 = rk) (hF : dm_FO Ts own cl X) (hI : dm_IO Ts own X) (hSO : dm_SO cl sh) (hM : dm_MO l R Ts own D cl cA ad sh X Sp) (hK : ∀ pc L S u, K pc L S u → dm_G p l e R s m args below meth c D cl cA ad sh A nL (MQ below (dm_Qc D cl cA ad sh A Qp) args s 0 0 A) pc L S u) (i : Instr) (n : Nat) (hv : dm_vb cc (pc, i, n, t) = true) (h : dm_x sh X Sp K Qp i t pc L S u) : dm_G p l e R s m args below meth c D cl cA ad sh A nL (MQ below (dm_Qc D cl cA ad sh A Qp) args s 0 0 A) pc L S u := by
  cases i with
  | iconst a => exact dm_T_iconst C0 hK (dm_vb_1 hv rfl) h
  | bipush a => exact dm_T_bipush C0 hK (dm_vb_1 hv rfl) h
  | sipush a => exact dm_T_sipush C0 hK (dm_vb_1 hv rfl) h
  | lconst a => exact dm_T_lconst C0 hK (dm_vb_1 hv rfl) h
  | iload_n a => exact dm_T_iload_n C0 hK (dm_vb_1 hv rfl) h
  | iload a => exact dm_T_iload C0 hK (dm_vb_1 hv rfl) h
  | lload_n a => exact dm_T_lload_n C0 hK (dm_vb_1 hv rfl) h
  | lload a => exact dm_T_lload C0 hK (dm_vb_1 hv rfl) h
  | aload_n a => exact dm_T_aload_n C0 hK (dm_vb_1 hv rfl) h
  | aload a => exact dm_T_aload C0 hK (dm_vb_1 hv rfl) h
  | istore_n a => exact dm_T_istore_n C0 hK (dm_vb_1 hv rfl) h
  | istore a => exact dm_T_istore C0 hK (dm_vb_1 hv rfl) h
  | lstore_n a => exact dm_T_lstore_n C0 hK (dm_vb_1 hv rfl) h
  | lstore a => exact dm_T_lstore C0 hK (dm_vb_1 hv rfl) h
  | iinc a b => exact dm_T_iinc C0 hK (dm_vb_1 hv rfl) h
  | iadd => exact dm_T_iadd C0 hK (dm_vb_1 hv rfl) h
  | isub => exact dm_T_isub C0 hK (dm_vb_1 hv rfl) h
  | imul => exact dm_T_imul C0 hK (dm_vb_1 hv rfl) h
  | iand => exact dm_T_iand C0 hK (dm_vb_1 hv rfl) h
  | ior => exact dm_T_ior C0 hK (dm_vb_1 hv rfl) h
  | idiv => exact dm_T_idiv C0 hK (dm_vb_1 hv rfl) h
  | irem => exact dm_T_irem C0 hK (dm_vb_1 hv rfl) h
  | ishl => exact dm_T_ishl C0 hK (dm_vb_1 hv rfl) h
  | ishr => exact dm_T_ishr C0 hK (dm_vb_1 hv rfl) h
  | iushr => exact dm_T_iushr C0 hK (dm_vb_1 hv rfl) h
  | ladd => exact dm_T_ladd C0 hK (dm_vb_1 hv rfl) h
  | lsub => exact dm_T_lsub C0 hK (dm_vb_1 hv rfl) h
  | lmul => exact dm_T_lmul C0 hK (dm_vb_1 hv rfl) h
  | lneg => exact dm_T_lneg C0 hK (dm_vb_1 hv rfl) h
  | lshr => exact dm_T_lshr C0 hK (dm_vb_1 hv rfl) h
  | i2l => exact dm_T_i2l C0 hK (dm_vb_1 hv rfl) h
  | l2i => exact dm_T_l2i C0 hK (dm_vb_1 hv rfl) h
  | lcmp => exact dm_T_lcmp C0 hK (dm_vb_1 hv rfl) h
  | dup => exact dm_T_dup C0 hK (dm_vb_1 hv rfl) h
  | dup2 => exact dm_T_dup2 C0 hK (dm_vb_1 hv rfl) h
  | iaload => exact dm_T_iaload C0 hK (dm_vb_1 hv rfl) h
  | baload => exact dm_T_baload C0 hK (dm_vb_1 hv rfl) h
  | laload => exact dm_T_laload C0 hK (dm_vb_1 hv rfl) h
  | iastore => exact dm_T_iastore C0 hK (dm_vb_1 hv rfl) h
  | bastore => exact dm_T_bastore C0 hK (dm_vb_1 hv rfl) h
  | lastore => exact dm_T_lastore C0 hK (dm_vb_1 hv rfl) h
  | arraylength => exact dm_T_arraylength C0 hK (dm_vb_1 hv rfl) h
  | ldc a => exact dm_T_ldc C0 hK hI (dm_vb_1 hv rfl) h
  | ldc_w a => exact dm_T_ldc_w C0 hK hI (dm_vb_1 hv rfl) h
  | ldc2_w a => exact dm_T_ldc2_w C0 hK hI (dm_vb_1 hv rfl) h
  | getfield a => exact dm_T_getfield C0 hK hF (dm_vb_1 hv rfl) h
  | putfield a => exact dm_T_putfield C0 hK hF hSO (dm_vb_1 hv rfl) h
  | invokevirtual a => exact dm_T_invokevirtual C0 hK hM (dm_vb_1 hv rfl) h
  | invokestatic a => exact dm_T_invokestatic C0 hK hM (dm_vb_1 hv rfl) h
  | ireturn => exact dm_T_ireturn C0 hrk (dm_vb_1 hv rfl) h
  | lreturn => exact dm_T_lreturn C0 hrk (dm_vb_1 hv rfl) h
  | return_ => exact dm_T_return_ C0 hrk (dm_vb_1 hv rfl) h
  | ifCond o off =>
    obtain ⟨b, rfl, hd, ho⟩ : ∃ b, t = [b] ∧ decode cc pc = .ok (.ifCond o off, 3) ∧ (pc : Int) + off = (b : Int) := by
      simp only [dm_vb, Bool.and_eq_true, decide_eq_true_eq] at hv
      obtain ⟨h1, h2⟩ := hv
      split at h2 <;> simp_all
    exact dm_T_ifCond C0 hK rfl hd ho h
  | if_icmp o off =>
    obtain ⟨b, rfl, hd, ho⟩ : ∃ b, t = [b] ∧ decode cc pc = .ok (.if_icmp o off, 3) ∧ (pc : Int) + off = (b : Int) := by
      simp only [dm_vb, Bool.and_eq_true, decide_eq_true_eq] at hv
      obtain ⟨h1, h2⟩ := hv
      split at h2 <;> simp_all
    exact dm_T_if_icmp C0 hK rfl hd ho h
  | goto off =>
    obtain ⟨b, rfl, hd, ho⟩ : ∃ b, t = [b] ∧ decode cc pc = .ok (.goto off, 3) ∧ (pc : Int) + off = (b : Int) := by
      simp only [dm_vb, Bool.and_eq_true, decide_eq_true_eq] at hv
      obtain ⟨h1, h2⟩ := hv
      split at h2 <;> simp_all
    exact dm_T_goto C0 hK rfl hd ho h
  | tableswitch d lo hi offs =>
    obtain ⟨t0, ts, rfl, h0, ho, hn⟩ : ∃ t0 ts, t = t0 :: ts ∧ (pc : Int) + d = (t0 : Int) ∧ offs.toList.map (fun (o : Int) => (pc : Int) + o) = ts.map (fun (a : Nat) => (a : Int)) ∧ hi + 1 = lo + ts.length := by
      simp only [dm_vb, Bool.and_eq_true, decide_eq_true_eq] at hv
      obtain ⟨h1, h2⟩ := hv
      cases t with
      | nil => simp at h2
      | cons t0 ts =>
        simp only [Bool.and_eq_true, decide_eq_true_eq] at h2
        exact ⟨t0, ts, rfl, h2.1.1, h2.1.2, h2.2⟩
    have hd : decode cc pc = .ok (.tableswitch d lo hi offs, n) := by
      simp only [dm_vb, Bool.and_eq_true, decide_eq_true_eq] at hv
      exact hv.1
    exact dm_T_tableswitch C0 hK rfl hd h0 ho hn h
  | _ => exact False.elim h
/-- a method's instruction list, walked as far as the cuts: what is left is a condition on what comes behind -/
theorem dm_sound (C0 : dm_C p s m args meth c cc nL Ts own D cl cA ad sh A rk) (hrk : X.2.2.2.2 = rk) (hF : dm_FO Ts own cl X) (hI : dm_IO Ts own X) (hSO : dm_SO cl sh) (hM : dm_MO l R Ts own D cl cA ad sh X Sp) {prog : List dm_I} (hp : prog.all (dm_vb cc) = true) (cut : Nat → Bool) : ∀ (n pc : Nat) (L : List (Option Value)) (S : List Value) (u : dm_S), dm_wp sh X Sp Qp prog cut (dm_G p l e R s m args below meth c D cl cA ad sh A nL (MQ below (dm_Qc D cl cA ad sh A Qp) args s 0 0 A)) n pc L S u → dm_G p l e R s m args below meth c D cl cA ad sh A nL (MQ below (dm_Qc D cl cA ad sh A Qp) args s 0 0 A) pc L S u := by
  intro n
  induction n with
  | zero => intro pc L S u h; exact h.elim
  | succ n ih =>
    intro pc L S u h
    unfold dm_wp at h
    split at h
    · exact h.elim
    · rename_i q hq
      have hmem := List.mem_of_find?_eq_some hq
      have hpc : q.1 = pc := by
        have := List.find?_some hq
        simpa using this
      have hv := List.all_eq_true.mp hp q hmem
      obtain ⟨pc', i, len, t⟩ := q
      simp only at hpc
      subst hpc
      refine dm_step C0 hrk hF hI hSO hM (fun pc'' L' S' u' hk => ?_) i len hv h
      split at hk
      · exact hk
      · exact ih pc'' L' S' u' hk
end DMU
end
