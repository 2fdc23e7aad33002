/-! ===== THE MACHINE'S INSTRUCTIONS: what is left to show, as a condition on what comes behind ===== -/
/-- what pool numbers mean: fields (class's number, place), ints, longs, methods (number, arguments without the receiver, the receiver's class's number, 1000 for a static one); what it answers: 0 nothing, 1 int, 2 long, 3 boolean -/
abbrev dm_X : Type := (Nat → Option (Nat × Nat)) × (Nat → Option Int32) × (Nat → Option Int64) × (Nat → Option (Nat × Nat × Nat)) × Nat
abbrev dm_Sp : Type := Nat → List Value → dm_S → (Option Value → dm_S → Prop) → Prop
abbrev dm_K : Type := Nat → List (Option Value) → List Value → dm_S → Prop
abbrev dm_I : Type := Nat × Instr × Nat × List Nat
def dm_t1 (K : dm_K) (t : List Nat) (L : List (Option Value)) (S : List Value) (u : dm_S) : Prop := match t with
  | a :: _ => K a L S u
  | [] => False
def dm_sw (x : Int32) (K : dm_K) (L : List (Option Value)) (S : List Value) (u : dm_S) : Int → List Nat → Prop
  | _, [] => True
  | lo, t :: ts => (x.toInt = lo → K t L S u) ∧ dm_sw x K L S u (lo + 1) ts
def dm_ic (o : Jvm.ClassFile.Cond) (x y : Int32) : Prop := match o with
  | .eq => x = y
  | .ne => ¬ x = y
  | .lt => x < y
  | .ge => y ≤ x
  | .gt => y < x
  | .le => x ≤ y
def dm_cs (S : List Value) : Nat := (S.map fun v => v.category).sum
/-- behind a call -/
def dm_cc (K : dm_K) (pc : Nat) (L : List (Option Value)) (S : List Value) (r : Option Value) (u : dm_S) : Prop := match r with
  | some v => K pc L (v :: S) u
  | none => K pc L S u
def dm_x (sh : List dm_H) (X : dm_X) (Sp : dm_Sp) (K : dm_K) (Rt : Option Value → dm_S → Prop) (i : Instr) (t : List Nat) (pc : Nat) (L : List (Option Value)) (S : List Value) (u : dm_S) : Prop :=
  match i with
  | .iconst n => K (pc + 1) L (.int (Int32.ofInt n) :: S) u
  | .bipush n => K (pc + 2) L (.int (Int8.ofInt n).toInt32 :: S) u
  | .sipush n => K (pc + 3) L (.int (Int16.ofInt n).toInt32 :: S) u
  | .lconst n => K (pc + 1) L (.long (Int64.ofNat n.val) :: S) u
  | .ldc j => match X.2.1 j with
    | some v => K (pc + 2) L (.int v :: S) u
    | none => False
  | .ldc_w j => match X.2.1 j with
    | some v => K (pc + 3) L (.int v :: S) u
    | none => False
  | .ldc2_w j => match X.2.2.1 j with
    | some v => K (pc + 3) L (.long v :: S) u
    | none => False
  | .iload_n _ => match L[t.headD 1000]? with
    | some (some (.int x)) => K (pc + 1) L (.int x :: S) u
    | _ => False
  | .iload k => match L[k]? with
    | some (some (.int x)) => K (pc + 2) L (.int x :: S) u
    | _ => False
  | .lload_n _ => match L[t.headD 1000]? with
    | some (some (.long x)) => K (pc + 1) L (.long x :: S) u
    | _ => False
  | .lload k => match L[k]? with
    | some (some (.long x)) => K (pc + 2) L (.long x :: S) u
    | _ => False
  | .aload_n _ => match L[t.headD 1000]? with
    | some (some (.ref x)) => K (pc + 1) L (.ref x :: S) u
    | _ => False
  | .aload k => match L[k]? with
    | some (some (.ref x)) => K (pc + 2) L (.ref x :: S) u
    | _ => False
  | .istore_n _ => match S with
    | .int x :: S => t.headD 1000 < L.length ∧ K (pc + 1) (dm_s1 L (t.headD 1000) (.int x)) S u
    | _ => False
  | .istore k => match S with
    | .int x :: S => k < L.length ∧ K (pc + 2) (dm_s1 L k (.int x)) S u
    | _ => False
  | .lstore_n _ => match S with
    | .long x :: S => t.headD 1000 + 1 < L.length ∧ K (pc + 1) (dm_s2 L (t.headD 1000) (.long x)) S u
    | _ => False
  | .lstore k => match S with
    | .long x :: S => k + 1 < L.length ∧ K (pc + 2) (dm_s2 L k (.long x)) S u
    | _ => False
  | .iinc k n => match L[k]? with
    | some (some (.int x)) => K (pc + 3) (dm_s1 L k (.int (x + Int32.ofInt n))) S u
    | _ => False
  | .iadd => match S with
    | .int y :: .int x :: S => K (pc + 1) L (.int (x + y) :: S) u
    | _ => False
  | .isub => match S with
    | .int y :: .int x :: S => K (pc + 1) L (.int (x - y) :: S) u
    | _ => False
  | .imul => match S with
    | .int y :: .int x :: S => K (pc + 1) L (.int (x * y) :: S) u
    | _ => False
  | .iand => match S with
    | .int y :: .int x :: S => K (pc + 1) L (.int (x &&& y) :: S) u
    | _ => False
  | .ior => match S with
    | .int y :: .int x :: S => K (pc + 1) L (.int (x ||| y) :: S) u
    | _ => False
  | .idiv => match S with
    | .int y :: .int x :: S => ¬ y = 0 ∧ K (pc + 1) L (.int (x / y) :: S) u
    | _ => False
  | .irem => match S with
    | .int y :: .int x :: S => ¬ y = 0 ∧ K (pc + 1) L (.int (x - x / y * y) :: S) u
    | _ => False
  | .ishl => match S with
    | .int y :: .int x :: S => K (pc + 1) L (.int (x <<< (y &&& 31)) :: S) u
    | _ => False
  | .ishr => match S with
    | .int y :: .int x :: S => K (pc + 1) L (.int (x >>> (y &&& 31)) :: S) u
    | _ => False
  | .iushr => match S with
    | .int y :: .int x :: S => K (pc + 1) L (.int (x.toUInt32 >>> (y.toUInt32 &&& Int32.toUInt32 31)).toInt32 :: S) u
    | _ => False
  | .ladd => match S with
    | .long y :: .long x :: S => K (pc + 1) L (.long (x + y) :: S) u
    | _ => False
  | .lsub => match S with
    | .long y :: .long x :: S => K (pc + 1) L (.long (x - y) :: S) u
    | _ => False
  | .lmul => match S with
    | .long y :: .long x :: S => K (pc + 1) L (.long (x * y) :: S) u
    | _ => False
  | .lneg => match S with
    | .long x :: S => K (pc + 1) L (.long (-x) :: S) u
    | _ => False
  | .lshr => match S with
    | .int y :: .long x :: S => K (pc + 1) L (.long (x >>> (y.toInt64 &&& 63)) :: S) u
    | _ => False
  | .i2l => match S with
    | .int x :: S => K (pc + 1) L (.long x.toInt64 :: S) u
    | _ => False
  | .l2i => match S with
    | .long x :: S => K (pc + 1) L (.int x.toInt32 :: S) u
    | _ => False
  | .lcmp => match S with
    | .long y :: .long x :: S => K (pc + 1) L (.int (lg_cmp x y) :: S) u
    | _ => False
  | .dup => match S with
    | .int x :: S => K (pc + 1) L (.int x :: .int x :: S) u
    | .ref x :: S => K (pc + 1) L (.ref x :: .ref x :: S) u
    | _ => False
  | .pop => match S with
    | .int _ :: S => K (pc + 1) L S u
    | .ref _ :: S => K (pc + 1) L S u
    | _ => False
  | .dup2 => match S with
    | .int y :: .ref x :: S => K (pc + 1) L (.int y :: .ref x :: .int y :: .ref x :: S) u
    | .long x :: S => K (pc + 1) L (.long x :: .long x :: S) u
    | _ => False
  | .iaload => match S with
    | .int j :: .ref c :: S => match sh[c]? with
      | some (.inl (0, n)) => vp_in j n ∧ K (pc + 1) L (.int (u.1 c j.toNatClampNeg) :: S) u
      | _ => False
    | _ => False
  | .baload => match S with
    | .int j :: .ref c :: S => match sh[c]? with
      | some (.inl (2, n)) => vp_in j n ∧ K (pc + 1) L (.int (u.1 c j.toNatClampNeg) :: S) u
      | _ => False
    | _ => False
  | .laload => match S with
    | .int j :: .ref c :: S => match sh[c]? with
      | some (.inl (1, n)) => vp_in j n ∧ K (pc + 1) L (.long (u.2 c j.toNatClampNeg) :: S) u
      | _ => False
    | _ => False
  | .iastore => match S with
    | .int x :: .int j :: .ref c :: S => match sh[c]? with
      | some (.inl (0, n)) => vp_in j n ∧ K (pc + 1) L S (dm_ui u c j.toNatClampNeg x)
      | _ => False
    | _ => False
  | .bastore => match S with
    | .int x :: .int j :: .ref c :: S => match sh[c]? with
      | some (.inl (2, n)) => vp_nar .boolean x = x ∧ vp_in j n ∧ K (pc + 1) L S (dm_ui u c j.toNatClampNeg x)
      | _ => False
    | _ => False
  | .lastore => match S with
    | .long x :: .int j :: .ref c :: S => match sh[c]? with
      | some (.inl (1, n)) => vp_in j n ∧ K (pc + 1) L S (dm_ul u c j.toNatClampNeg x)
      | _ => False
    | _ => False
  | .arraylength => match S with
    | .ref c :: S => match sh[c]? with
      | some (.inl (k, n)) => k < 3 ∧ K (pc + 1) L (.int (Int32.ofNat n) :: S) u
      | _ => False
    | _ => False
  | .getfield j => match S with
    | .ref c :: S => match X.1 j with
      | some (ci, k) => match sh[c]? with
        | some (.inr (ci', fs)) => ci = ci' ∧ match fs[k]? with
          | some 0 => K (pc + 3) L (.int (u.1 c k) :: S) u
          | some 1 => K (pc + 3) L (.long (u.2 c k) :: S) u
          | some 2 => K (pc + 3) L (.int (u.1 c k) :: S) u
          | some (n + 3) => K (pc + 3) L (.ref n :: S) u
          | none => False
        | _ => False
      | none => False
    | _ => False
  | .putfield j => match S with
    | .int x :: .ref c :: S => match X.1 j with
      | some (ci, k) => match sh[c]? with
        | some (.inr (ci', fs)) => ci = ci' ∧ match fs[k]? with
          | some 0 => K (pc + 3) L S (dm_ui u c k x)
          | some 2 => (narrow .boolean (.int x) = .int x ∧ fits .boolean (.int x) = true) ∧ K (pc + 3) L S (dm_ui u c k x)
          | _ => False
        | _ => False
      | none => False
    | .long x :: .ref c :: S => match X.1 j with
      | some (ci, k) => match sh[c]? with
        | some (.inr (ci', fs)) => ci = ci' ∧ match fs[k]? with
          | some 1 => K (pc + 3) L S (dm_ul u c k x)
          | _ => False
        | _ => False
      | none => False
    | _ => False
  | .ifCond o _ => match S with
    | .int x :: S => (dm_ic o x 0 → dm_t1 K t L S u) ∧ (¬ dm_ic o x 0 → K (pc + 3) L S u)
    | _ => False
  | .if_icmp o _ => match S with
    | .int y :: .int x :: S => (dm_ic o x y → dm_t1 K t L S u) ∧ (¬ dm_ic o x y → K (pc + 3) L S u)
    | _ => False
  | .goto _ => dm_t1 K t L S u
  | .tableswitch _ lo hi _ => match S with
    | .int x :: S => match t with
      | t0 :: ts => (x.toInt < lo ∨ hi < x.toInt → K t0 L S u) ∧ dm_sw x K L S u lo ts
      | [] => False
    | _ => False
  | .invokevirtual j => match X.2.2.2.1 j with
    | some (mid, n, ci) => match S.drop n with
      | .ref c :: S' => match sh[c]? with
        | some (.inr (ci', _)) => (ci = ci' ∧ ci < 1000 ∧ dm_cs S' ≤ 8) ∧ Sp mid (.ref c :: (S.take n).reverse) u (dm_cc K (pc + 3) L S')
        | _ => False
      | _ => False
    | none => False
  | .invokestatic j => match X.2.2.2.1 j with
    | some (mid, n, ci) => (ci = 1000 ∧ n ≤ S.length ∧ dm_cs (S.drop n) ≤ 8) ∧ Sp mid (S.take n).reverse u (dm_cc K (pc + 3) L (S.drop n))
    | none => False
  | .ireturn => match S with
    | [.int x] => match X.2.2.2.2 with
      | 1 => Rt (some (.int x)) u
      | 3 => narrow .boolean (.int x) = .int x ∧ Rt (some (.int x)) u
      | _ => False
    | _ => False
  | .lreturn => match S with
    | [.long x] => X.2.2.2.2 = 2 ∧ Rt (some (.long x)) u
    | _ => False
  | .return_ => match S with
    | [] => X.2.2.2.2 = 0 ∧ Rt none u
    | _ => False
  | _ => False
/-- the lengths of the instructions above -/
def dm_len (i : Instr) : Nat := match i with
  | .bipush _ | .ldc _ | .iload _ | .lload _ | .aload _ | .istore _ | .lstore _ => 2
  | .sipush _ | .ldc_w _ | .ldc2_w _ | .iinc _ _ | .getfield _ | .putfield _ | .ifCond _ _ | .if_icmp _ _ | .goto _ | .invokevirtual _ | .invokestatic _ => 3
  | _ => 1
/-- an instruction list is the code's -/
def dm_vb (cc : ByteArray) (q : dm_I) : Bool := decide (decode cc q.1 = .ok (q.2.1, q.2.2.1)) && match q.2.1, q.2.2.2 with
  | .ifCond _ off, [t] => decide ((q.1 : Int) + off = (t : Int)) && q.2.2.1 == 3
  | .if_icmp _ off, [t] => decide ((q.1 : Int) + off = (t : Int)) && q.2.2.1 == 3
  | .iload_n k, [t] => k.val == t && q.2.2.1 == 1
  | .lload_n k, [t] => k.val == t && q.2.2.1 == 1
  | .aload_n k, [t] => k.val == t && q.2.2.1 == 1
  | .istore_n k, [t] => k.val == t && q.2.2.1 == 1
  | .lstore_n k, [t] => k.val == t && q.2.2.1 == 1
  | .goto off, [t] => decide ((q.1 : Int) + off = (t : Int)) && q.2.2.1 == 3
  | .tableswitch d lo hi offs, t0 :: ts => decide ((q.1 : Int) + d = (t0 : Int)) && decide (offs.toList.map (fun (o : Int) => (q.1 : Int) + o) = ts.map (fun (a : Nat) => (a : Int))) && decide (hi + 1 = lo + ts.length)
  | .tableswitch _ _ _ _, [] => false
  | .ifCond _ _, [] => false
  | .if_icmp _ _, [] => false
  | .goto _, [] => false
  | .iload_n _, [] => false
  | .lload_n _, [] => false
  | .aload_n _, [] => false
  | .istore_n _, [] => false
  | .lstore_n _, [] => false
  | i, [] => q.2.2.1 == dm_len i
  | _, _ => false
/-- the instructions from pc on -/
def dm_fd (pc : Nat) : List dm_I → List dm_I
  | [] => []
  | q :: r => match q.1 == pc with
    | true => q :: r
    | false => dm_fd pc r
def dm_fn (prog rest : List dm_I) (pc : Nat) : List dm_I := match rest with
  | [] => dm_fd pc prog
  | q :: r => match q.1 == pc with
    | true => q :: r
    | false => dm_fd pc prog
def dm_wp (sh : List dm_H) (X : dm_X) (Sp : dm_Sp) (Rt : Option Value → dm_S → Prop) (prog : List dm_I) (cut : Nat → Bool) (K : dm_K) : Nat → Bool → List dm_I → Nat → List (Option Value) → List Value → dm_S → Prop
  | 0, _, _, _, _, _, _ => False
  | n + 1, b, rest, pc, L, S, u => match b && cut pc with
    | true => K pc L S u
    | false => match dm_fn prog rest pc with
      | [] => False
      | q :: r => dm_x sh X Sp (dm_wp sh X Sp Rt prog cut K n true r) Rt q.2.1 q.2.2.2 pc L S u
theorem dm_fd_ok {pc : Nat} {prog r : List dm_I} {q : dm_I} (h : dm_fd pc prog = q :: r) : q.1 = pc ∧ q ∈ prog ∧ ∀ z ∈ r, z ∈ prog := by
  induction prog with
  | nil => cases h
  | cons w t ih =>
    unfold dm_fd at h
    split at h
    · rename_i e
      cases h
      exact ⟨by simpa using e, List.mem_cons_self, fun z hz => List.mem_cons_of_mem _ hz⟩
    · obtain ⟨a, b, d⟩ := ih h
      exact ⟨a, List.mem_cons_of_mem _ b, fun z hz => List.mem_cons_of_mem _ (d z hz)⟩
theorem dm_fn_ok {pc : Nat} {prog rest r : List dm_I} {q : dm_I} (hr : ∀ z ∈ rest, z ∈ prog) (h : dm_fn prog rest pc = q :: r) : q.1 = pc ∧ q ∈ prog ∧ ∀ z ∈ r, z ∈ prog := by
  unfold dm_fn at h
  split at h
  · exact dm_fd_ok h
  · split at h
    · rename_i e
      cases h
      exact ⟨by simpa using e, hr _ List.mem_cons_self, fun z hz => hr z (List.mem_cons_of_mem _ hz)⟩
    · exact dm_fd_ok h
