/-! ===== THE MACHINE IS SOUND ===== -/
def dm_tys (cA : Nat → ClassId) : List (ClassId × FieldType) := [(cA 0, .int), (cA 1, .long), (cA 2, .boolean)]
def dm_rt (k : Nat) : Option FieldType := match k with
  | 0 => none
  | 1 => some .int
  | 2 => some .long
  | _ => some .boolean
def dm_B (D : va_G) (cl : List vw_C) (cA : Nat → ClassId) (ad : Nat → Nat) (sh : List dm_H) (A : Nat → Prop) (u : dm_S) (t : State) : Prop := va_P D cl (dm_w ad cA sh u) t.heap ∧ va_K D cl (dm_tys cA) t ∧ va_D A (dm_w ad cA sh u)
def dm_Pc (D : va_G) (cl : List vw_C) (cA : Nat → ClassId) (ad : Nat → Nat) (sh : List dm_H) (sz : Nat) (As : List Value) (u : dm_S) : Array Value → State → Prop := va_Pc (As.map (dm_cv ad)) (fun U => U.heap.size = sz ∧ dm_B D cl cA ad sh (fun _ => True) u U)
def dm_Qc (D : va_G) (cl : List vw_C) (cA : Nat → ClassId) (ad : Nat → Nat) (sh : List dm_H) (A : Nat → Prop) (Qp : Option Value → dm_S → Prop) : Array Value → State → Outcome → State → Prop := fun _ st oc t => (∃ (r : Option Value) (v : dm_S), oc = .returned r ∧ (∀ a, r ≠ some (.ref a)) ∧ Qp r v ∧ dm_B D cl cA ad sh A v t) ∧ va_F A st t
/-- a contract: from every state and arguments of which P says that Qp holds behind it -/
def dm_Met (l : Launch) (D : va_G) (cl : List vw_C) (cA : Nat → ClassId) (ad : Nat → Nat) (sh : List dm_H) (y : MethodName) (ws : List Cond) (rm : Room) (P : List Value → dm_S → (Option Value → dm_S → Prop) → Prop) : Prop :=
  ∀ (sz : Nat) (As : List Value) (u : dm_S) (Qp : Option Value → dm_S → Prop), P As u Qp → Met l y ws rm (dm_Pc D cl cA ad sh sz As u) (dm_Qc D cl cA ad sh (va_A (dm_w ad cA sh u) sz) Qp) 0 0 (va_A (dm_w ad cA sh u) sz)
def dm_FO (Ts : List Cond) (own : String) (cl : List vw_C) (X : dm_X) : Prop := ∀ (j ci k : Nat), X.1 j = some (ci, k) → ∃ (C : String) (T : u_T) (N : Nat) (ty0 : Nat → FieldType), cl[ci]? = some (C, T, N) ∧ k < N ∧ (∀ w ∈ u_ws C T N, w ∈ Ts) ∧ Cond.fieldLink own j (T k).1 (T k).2.1 (T k).2.2.1 ∈ Ts ∧ (∀ k, k < N → parseFieldDescriptor (T k).2.2.1 = some (ty0 k)) ∧ (∀ a, a < N → ∀ b, b < N → a ≠ b → (T a).2.1 ≠ (T b).2.1)
def dm_IO (Ts : List Cond) (own : String) (X : dm_X) : Prop := (∀ j v, X.2.1 j = some v → Cond.constant own j v ∈ Ts) ∧ ∀ j v, X.2.2.1 j = some v → Cond.constantLong own j v ∈ Ts
def dm_SO (cl : List vw_C) (sh : List dm_H) : Prop := ∀ (c ci : Nat) (fs : List Nat), sh[c]? = some (.inr (ci, fs)) → ∀ (C : String) (T : u_T) (N : Nat), cl[ci]? = some (C, T, N) → ∀ (k f : Nat), fs[k]? = some f → (f = 0 → (T k).2.2.2 = false ∧ parseFieldDescriptor (T k).2.2.1 = some .int) ∧ (f = 1 → (T k).2.2.2 = false ∧ parseFieldDescriptor (T k).2.2.1 = some .long) ∧ (f = 2 → (T k).2.2.2 = false ∧ parseFieldDescriptor (T k).2.2.1 = some .boolean)
/-- what a call's pool number j needs: the callee's contract, its words, its room -/
def dm_M1 (l : Launch) (R : Room) (Ts : List Cond) (own : String) (D : va_G) (cl : List vw_C) (cA : Nat → ClassId) (ad : Nat → Nat) (sh : List dm_H) (P : List Value → dm_S → (Option Value → dm_S → Prop) → Prop) (j n ci : Nat) : Prop := ∃ (y : MethodName) (bytes : ByteArray) (maxL : Nat) (ret : Option FieldType) (ws' : List Cond) (rm : Room), dm_Met l D cl cA ad sh y (Cond.code y bytes maxL ret :: ws') rm P ∧ GoodIn Ts (Cond.code y bytes maxL ret :: ws') ∧ (rm.cells = 0 ∧ rm.slots = 0) ∧ (rm.frames + 1 ≤ R.frames ∧ 8 + (maxL + 11) + rm.locals ≤ R.locals) ∧ (Cond.initialized y.cls ∈ Ts ∧ Cond.methodLink own j y ∈ Ts) ∧ (y.cls ≠ "java/lang/invoke/MethodHandle" ∧ y.cls ≠ "java/lang/invoke/VarHandle" ∧ (parseMethodDescriptor y.desc).map (fun d => d.parameters.length) = some n) ∧ (ci = 1000 → Cond.static y ∈ Ts) ∧ (ci < 1000 → (Cond.instanceMethod y ∈ Ts ∧ Cond.selects y.cls y y ∈ Ts) ∧ ∃ T N, cl[ci]? = some (y.cls, T, N))
def dm_MO (l : Launch) (R : Room) (Ts : List Cond) (own : String) (D : va_G) (cl : List vw_C) (cA : Nat → ClassId) (ad : Nat → Nat) (sh : List dm_H) (X : dm_X) (Sp : dm_Sp) : Prop := ∀ (j mid n ci : Nat), X.2.2.2.1 j = some (mid, n, ci) → dm_M1 l R Ts own D cl cA ad sh (Sp mid) j n ci
def dm_C (p : Program) (s : State) (m : MethodId) (args : Array Value) (meth : Method) (c : Code) (cc : ByteArray) (nL : Nat) (Ts : List Cond) (own : String) (D : va_G) (cl : List vw_C) (cA : Nat → ClassId) (ad : Nat → Nat) (sh : List dm_H) (A : Nat → Prop) (rk : Nat) : Prop :=
  (p.tables.exec = Jvm.exec ∧ c.code = cc ∧ c.maxLocals = nL ∧ s.vm.findClass own = some m.cls ∧ ∀ w ∈ Ts, w.before args s = true) ∧ va_K D cl (dm_tys cA) s ∧ (∀ u, va_D A (dm_w ad cA sh u)) ∧ (∀ q, s.heap.size ≤ q → A q) ∧ meth.sig.returnType = dm_rt rk ∧ meth.locks = false
def dm_G (p : Program) (l : Launch) (e : Env) (R : Room) (s : State) (m : MethodId) (args : Array Value) (below : List Frame) (meth : Method) (c : Code) (D : va_G) (cl : List vw_C) (cA : Nat → ClassId) (ad : Nat → Nat) (sh : List dm_H) (A : Nat → Prop) (nL : Nat) (Q : State → Prop) : dm_K := fun pc L S u => ∀ (ls : Array Slot) (H : Heap) (locs : List Loc), dm_lh ad ls nL L → va_P D cl (dm_w ad cA sh u) H → va_S A s.heap H locs → W p l e R s m args below meth c H locs 0 0 Q (F0 m pc ls (S.map (dm_cv ad)))
def dm_pl (i : Instr) : Bool := match i with
  | .ifCond _ _ | .if_icmp _ _ | .goto _ | .tableswitch _ _ _ _ | .iload_n _ | .lload_n _ | .aload_n _ | .istore_n _ | .lstore_n _ => false
  | _ => true
theorem dm_vb_1 {cc : ByteArray} {pc n : Nat} {i : Instr} {t : List Nat} (hv : dm_vb cc (pc, i, n, t) = true) (hp : dm_pl i = true) : decode cc pc = .ok (i, dm_len i) := by
  simp only [dm_vb, Bool.and_eq_true, decide_eq_true_eq] at hv
  obtain ⟨h1, h2⟩ := hv
  have : n = dm_len i := by
    cases t with
    | nil =>
      cases i <;> (try (simp [dm_pl] at hp; done)) <;> simpa using h2
    | cons a b =>
      cases i <;> (try (simp [dm_pl] at hp; done)) <;> simp at h2
  rw [← this]
  exact h1
section DMS
variable {p : Program} {l : Launch} {e : Env} {R : Room} {s : State} {m : MethodId} {args : Array Value} {below : List Frame} {meth : Method} {c : Code} {D : va_G} {cl : List vw_C} {cA : Nat → ClassId} {ad : Nat → Nat} {sh : List dm_H} {A : Nat → Prop} {cc : ByteArray} {nL : Nat} {Ts : List Cond} {own : String} {X : dm_X} {Sp : dm_Sp} {Q : State → Prop}
variable {K : dm_K} {Qp : Option Value → dm_S → Prop} {pc : Nat} {L : List (Option Value)} {S : List Value} {u : dm_S} {t : List Nat} {n : Nat}
theorem dm_call {H : Heap} {locs : List Loc} {ls : Array Slot} {rest st0 : List Value} {a : Array Value} {A1 : Nat → Prop} {H0 : Heap} {free : Addr → Prop} (hr : va_Run p l e R s m args below meth c H locs 0 0 0 0 (F0 m pc ls st0) rest (dm_Qc D cl cA ad sh A1 Qp a) free) (hS : va_S A H0 H locs) (hA : ∀ q, q < H.size → A1 q → A q) (hf : ∀ q, free q → A q)
    (kk : ∀ (r : Option Value) (v : dm_S) (t : State) (H1 : Heap) (locs1 : List Loc), t.heap = H1 → s.vm.Alike t.vm → (∀ a, r ≠ some (.ref a)) → Qp r v → dm_B D cl cA ad sh A1 v t → va_S A H0 H1 locs1 → W p l e R s m args below meth c H1 locs1 0 0 Q (F0 m (pc + 3) ls (r.toList ++ rest))) : W p l e R s m args below meth c H locs 0 0 Q (F0 m pc ls st0) := by
  intro T hT X
  obtain ⟨v, st₀, t, T', L, h0, X', hL, e1, e2, ⟨⟨r, u, hv, hn, hp, hb⟩, hz, hk⟩, st⟩ := hr T hT X
  cases hv
  rw [h0] at hz hk
  obtain ⟨t2, a1, b1⟩ := kk v u t T'.heap (locs ++ L) e1.symm (by rw [← e2]; exact X'.warmed.alike) hn hp hb
    ⟨Nat.le_trans hS.1 (by rw [e1]; exact hz), fun q h1 h2 => by rw [e1, hk q (Nat.lt_of_lt_of_le h1 hS.1) (fun z => h2 (hA q (Nat.lt_of_lt_of_le h1 hS.1) z))]; exact hS.2.1 q h1 h2, fun q hq => by
      rcases List.mem_append.mp hq with h | h
      · exact hS.2.2 q h
      · exact hf _ (hL q h)⟩ T' rfl X'
  exact ⟨t2, st t2 a1, b1⟩
end DMS
