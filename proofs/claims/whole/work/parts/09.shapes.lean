/-! ===== the cells: the class's own graph, and the reference ===== -/
/- cells C: 0 CostFlow, 1 CostFlow$Net, 2 CostFlow$Lanes, 3 CostFlow$Ways, 4 CostFlow$Router, 5 CostFlow$Prices, 6 CostFlow$Paths, 7 CostFlow$Rings, 8 CostFlow$Falling, 9 CostFlow$Unserved, 10 CostFlow$Pairing; 11 Net.supplies, 12 Net.froms, 13 Net.tos, 14 Net.endless, 15 Net.tops, 16 Net.parts, 17 Net.starts, 18 Net.rates, 19 Lanes.firsts, 20 Lanes.begins, 21 Lanes.ends, 22 Lanes.widths, 23 Lanes.rates, 24 Lanes.loads, 25 Lanes.excess, 26 Lanes.heads, 27 Lanes.sorted, 28 Ways.numbers, 29 Ways.begins, 30 Ways.ends, 31 Ways.rates, 32 Router.open, 33 Router.via, 34 Router.carried, 35 Router.queue, 36 Prices.values, 37 Prices.distances, 38 Paths.distances, 39 Paths.done, 40 Paths.via, 41 Paths.carried, 42 Rings.costs, 43 Rings.lasts, 44 Rings.trail, 45 Rings.metAt, 46 Falling.arcs, 47 Falling.costs, 48 Unserved.members, 49 Pairing.costs, 50 Pairing.mates, 51 Pairing.sums, 36 Paths.prices -/
def shC : List dm_H := [.inr (10, [4, 5, 6, 7, 8, 9, 10, 11, 12, 13, 0]), .inr (2, [14, 15, 16, 17, 18, 19, 20, 21, 0, 0, 0]), .inr (1, [4, 22, 23, 24, 25, 26, 27, 28, 29, 30, 0]), .inr (9, [4, 5, 31, 32, 33, 34, 0]), .inr (7, [4, 5, 35, 36, 37, 38, 0]), .inr (5, [4, 5, 6, 39, 40]), .inr (4, [4, 5, 39, 41, 42, 43, 44]), .inr (6, [4, 5, 6, 45, 46, 47, 48]), .inr (0, [4, 49, 50, 0]), .inr (8, [4, 51, 0]), .inr (3, [52, 53, 54, 0, 2]), .inl (1, 24), .inl (0, 80), .inl (0, 80), .inl (2, 80), .inl (1, 80), .inl (0, 80), .inl (1, 320), .inl (1, 320), .inl (0, 81), .inl (0, 320), .inl (0, 320), .inl (1, 320), .inl (1, 320), .inl (1, 320), .inl (1, 24), .inl (0, 25), .inl (0, 640), .inl (0, 160), .inl (0, 160), .inl (0, 160), .inl (1, 160), .inl (2, 320), .inl (0, 24), .inl (1, 24), .inl (0, 24), .inl (1, 24), .inl (1, 24), .inl (1, 24), .inl (2, 24), .inl (0, 24), .inl (1, 24), .inl (1, 600), .inl (0, 600), .inl (0, 24), .inl (0, 24), .inl (0, 24), .inl (1, 600), .inl (0, 24), .inl (1, 64), .inl (0, 8), .inl (1, 256)]
/- cells M: 0 CostFlowModel; 1 CostFlowModel.supply, 2 CostFlowModel.from, 3 CostFlowModel.to, 4 CostFlowModel.low, 5 CostFlowModel.most, 6 CostFlowModel.pieces, 7 CostFlowModel.costs, 8 CostFlowModel.marks, 9 CostFlowModel.flow, 10 CostFlowModel.ring, 11 CostFlowModel.set, 12 CostFlowModel.pFrom, 13 CostFlowModel.pTo, 14 CostFlowModel.pArc, 15 CostFlowModel.pRoom, 16 CostFlowModel.pCost, 17 CostFlowModel.pFlow, 18 CostFlowModel.over, 19 CostFlowModel.far, 20 CostFlowModel.by, 21 CostFlowModel.pairs, 22 CostFlowModel.isFree, 23 CostFlowModel.best, 24 CostFlowModel.atLeast, 25 CostFlowModel.atMost, 26 CostFlowModel.seenBy, 27 CostFlowModel.isSeen, 28 CostFlowModel.line, 29 CostFlowModel.walk -/
def shM : List dm_H := [.inr (11, [0, 0, 4, 5, 6, 7, 8, 9, 10, 11, 0, 12, 1, 0, 13, 0, 14, 0, 15, 16, 17, 18, 19, 20, 21, 22, 23, 0, 24, 25, 26, 27, 28, 29, 30, 31, 32]), .inl (1, 24), .inl (0, 80), .inl (0, 80), .inl (1, 80), .inl (1, 80), .inl (0, 80), .inl (1, 320), .inl (1, 320), .inl (1, 80), .inl (0, 24), .inl (0, 24), .inl (0, 400), .inl (0, 400), .inl (0, 400), .inl (1, 400), .inl (1, 400), .inl (1, 400), .inl (1, 26), .inl (1, 26), .inl (0, 26), .inl (1, 64), .inl (2, 64), .inl (1, 256), .inl (1, 80), .inl (1, 80), .inl (0, 24), .inl (2, 24), .inl (0, 24), .inl (1, 625)]
def dm_sob (sh : List dm_H) : Bool := sh.all (fun h => match h with
  | .inl _ => true
  | .inr (ci, fs) => match dm_cl[ci]? with
    | some (_, T, _) => fs.zipIdx.all (fun q => (q.1 != 0 || ((T q.2).2.2.2 == false && decide (parseFieldDescriptor (T q.2).2.2.1 = some .int))) && ((q.1 != 1 || ((T q.2).2.2.2 == false && decide (parseFieldDescriptor (T q.2).2.2.1 = some .long))) && (q.1 != 2 || ((T q.2).2.2.2 == false && decide (parseFieldDescriptor (T q.2).2.2.1 = some .boolean)))))
    | none => true)
theorem dm_SO_of {sh : List dm_H} (h : dm_sob sh = true) : dm_SO dm_cl sh := by
  intro c ci fs hc C T N hcl k f hf
  have h1 := List.all_eq_true.mp h _ (List.mem_of_getElem? hc)
  simp only [hcl] at h1
  have hz : (f, k) ∈ fs.zipIdx := by
    rw [List.mem_zipIdx_iff_getElem?]
    exact hf
  have h2 := List.all_eq_true.mp h1 _ hz
  simp only [Bool.and_eq_true, Bool.or_eq_true, bne_iff_ne, ne_eq, beq_iff_eq, decide_eq_true_eq] at h2
  exact ⟨fun e => h2.1.resolve_left (fun q => q e), fun e => h2.2.1.resolve_left (fun q => q e), fun e => h2.2.2.resolve_left (fun q => q e)⟩
theorem soC : dm_SO dm_cl shC := dm_SO_of (by decide +kernel)
theorem soM : dm_SO dm_cl shM := dm_SO_of (by decide +kernel)
/-! the locals with which a method begins -/
def dm_la (As : List Value) : List (Option Value) := match As with
  | [] => []
  | .long x :: r => some (.long x) :: none :: dm_la r
  | .double x :: r => some (.double x) :: none :: dm_la r
  | v :: r => some v :: dm_la r
def dm_L0 (n : Nat) (As : List Value) : List (Option Value) := dm_la As ++ List.replicate (n - (dm_la As).length) none
def dm_ls (ad : Nat → Nat) (o : Option Value) : Slot := match o with
  | some v => .val (dm_cv ad v)
  | none => .second
theorem dm_la_sl (ad : Nat → Nat) (As : List Value) : lg_sl (As.map (dm_cv ad)) = (dm_la As).map (dm_ls ad) := by
  induction As with
  | nil => rfl
  | cons v r ih =>
    have e : lg_sl ((v :: r).map (dm_cv ad)) = (if (dm_cv ad v).category = 2 then [.val (dm_cv ad v), .second] else [.val (dm_cv ad v)]) ++ lg_sl (r.map (dm_cv ad)) := rfl
    rw [e, ih]
    cases v <;> rfl
theorem dm_lh0 {ad : Nat → Nat} {As : List Value} {n : Nat} (h : (dm_la As).length ≤ n) : dm_lh ad ((lg_sl (As.map (dm_cv ad)) ++ List.replicate (n - (lg_sl (As.map (dm_cv ad))).length) Slot.unset).toArray) n (dm_L0 n As) := by
  have hlen : (lg_sl (As.map (dm_cv ad))).length = (dm_la As).length := by rw [dm_la_sl, List.length_map]
  have h0 := lv_entry (As.map (dm_cv ad)) (n := n) (by rw [hlen]; exact h)
  refine ⟨⟨h0.1, ?_⟩, h0.2.1, fun i v hi => ?_⟩
  · simp only [dm_L0, List.length_append, List.length_replicate]
    omega
  · unfold dm_L0 at hi
    rw [List.getElem?_append] at hi
    split at hi
    · rename_i hlt
      rw [List.getElem?_toArray, List.getElem?_append_left (by rw [hlen]; exact hlt), dm_la_sl, List.getElem?_map, hi]
      rfl
    · rw [List.getElem?_replicate] at hi
      split at hi <;> cases hi
def dm_mk (f : List (Nat × Nat × Nat)) (i : List (Nat × Int32)) (j : List (Nat × Int64)) (ms : List (Nat × Nat × Nat × Nat)) (rk : Nat) : dm_X := (fun a => f.lookup a, fun a => i.lookup a, fun a => j.lookup a, fun a => ms.lookup a, rk)
theorem dm_hT {w0 : Cond} : ∀ w ∈ dm_tt, w ∈ (w0 :: dm_tt) := fun _ h => List.mem_cons_of_mem _ h
/-- what is to be shown of a method, without the machine: whatever is closed under walking holds at its entry -/
def dm_Pure (sh : List dm_H) (X : dm_X) (Sp : dm_Sp) (prog : List dm_I) (maxL : Nat) (P : List Value → dm_S → (Option Value → dm_S → Prop) → Prop) : Prop := ∀ (As : List Value) (u : dm_S) (Qp : Option Value → dm_S → Prop), P As u Qp → (dm_la As).length ≤ maxL ∧ ∀ (G : dm_K) (Wp : (Nat → Bool) → Nat → Bool → List dm_I → dm_K), (∀ (cut : Nat → Bool) (b : Bool) (rest : List dm_I) (pc : Nat) (L : List (Option Value)) (S : List Value) (v : dm_S), Wp cut 0 b rest pc L S v = False) → (∀ (cut : Nat → Bool) (n : Nat) (b : Bool) (rest : List dm_I) (pc : Nat) (L : List (Option Value)) (S : List Value) (v : dm_S), Wp cut (n + 1) b rest pc L S v = match b && cut pc with
    | true => G pc L S v
    | false => match dm_fn prog rest pc with
      | [] => False
      | q :: r => dm_x sh X Sp (Wp cut n true r) Qp q.2.1 q.2.2.2 pc L S v) → (∀ (cut : Nat → Bool) (n pc : Nat) (L : List (Option Value)) (S : List Value) (v : dm_S), Wp cut n false [] pc L S v → G pc L S v) → G 0 (dm_L0 maxL As) [] u
/-- a contract out of it -/
theorem dm_meth {l : Launch} {D : va_G} {cA : Nat → ClassId} {ad : Nat → Nat} {sh : List dm_H} {y : MethodName} {cc : ByteArray} {maxL rk : Nat} {rm : Room} {P : List Value → dm_S → (Option Value → dm_S → Prop) → Prop} {own : String} {X : dm_X} {Sp : dm_Sp} {prog : List dm_I} (hy : plainFor y = true) (hown : y.cls = own) (hrk : X.2.2.2.2 = rk)
    (hF : dm_FO (Cond.code y cc maxL (dm_rt rk) :: dm_tt) own dm_cl X) (hI : dm_IO (Cond.code y cc maxL (dm_rt rk) :: dm_tt) own X) (hSO : dm_SO dm_cl sh) (hM : dm_MO l rm (Cond.code y cc maxL (dm_rt rk) :: dm_tt) own D dm_cl cA ad sh X Sp) (hv : prog.all (dm_vb cc) = true) (hp : dm_Pure sh X Sp prog maxL P) : dm_Met l D dm_cl cA ad sh y (Cond.code y cc maxL (dm_rt rk) :: dm_tt) rm P := by
  intro sz As u Qp hP
  obtain ⟨hlen, hbody⟩ := hp As u Qp hP
  refine va_MetF (cc := cc) (maxL := maxL) (ret := dm_rt rk) hy rfl ?_
  intro p e s m args below meth c s₁ B hml hv0
  obtain ⟨rfl, hsz, hP0, hK0, hD0⟩ := hv0
  have hts := atoms_spec (ws := Cond.code y cc maxL (dm_rt rk) :: dm_tt) B.pre
  have hownc : s.vm.findClass y.cls = some m.cls := findClass_of_methodNamed B.named
  rw [hown] at hownc
  subst hsz
  rw [lg_entry_eq]
  have C0 : dm_C p s m (As.map (dm_cv ad)).toArray meth c cc maxL (Cond.code y cc maxL (dm_rt rk) :: dm_tt) own D dm_cl cA ad sh (va_A (dm_w ad cA sh u) s.heap.size) rk := ⟨⟨B.exec, B.bytes, hml, hownc, hts⟩, hK0, fun u' => by rw [dm_w_A (u' := u')]; exact (dm_D hD0).self, fun q hq => Or.inr hq, B.returns, B.notSynchronized⟩
  exact hbody _ (fun cut n b rest pc L S v => dm_wp sh X Sp Qp prog cut _ n b rest pc L S v) (fun _ _ _ _ _ _ _ => rfl) (fun _ _ _ _ _ _ _ _ => rfl) (fun cut n pc L S v h => dm_sound C0 hrk hF hI hSO hM hv cut n false [] (fun _ h => by cases h) pc L S v h) _ s.heap [] (dm_lh0 hlen) hP0 va_S.rf
/-- a callee, out of its contract and words -/
theorem dm_M1_of {l : Launch} {R : Room} {Ts : List Cond} {own : String} {D : va_G} {cA : Nat → ClassId} {ad : Nat → Nat} {sh : List dm_H} {P : List Value → dm_S → (Option Value → dm_S → Prop) → Prop} {j n ci : Nat} {y : MethodName} {bytes : ByteArray} {maxL : Nat} {ret : Option FieldType} {rm : Room} (hMet : dm_Met l D dm_cl cA ad sh y (Cond.code y bytes maxL ret :: dm_tt) rm P) (hT : ∀ w ∈ dm_tt, w ∈ Ts) (hin : ∀ w ∈ ([.code y bytes maxL ret, .initialized y.cls, .methodLink own j y] : List Cond), w ∈ dm_tt) (hr : (rm.cells = 0 ∧ rm.slots = 0) ∧ (rm.frames + 1 ≤ R.frames ∧ 8 + (maxL + 11) + rm.locals ≤ R.locals)) (hd : y.cls ≠ "java/lang/invoke/MethodHandle" ∧ y.cls ≠ "java/lang/invoke/VarHandle" ∧ (parseMethodDescriptor y.desc).map (fun d => d.parameters.length) = some n) (hs : (ci = 1000 ∧ Cond.static y ∈ dm_tt) ∨ (ci < 1000 ∧ (∀ w ∈ ([.instanceMethod y, .selects y.cls y y] : List Cond), w ∈ dm_tt) ∧ (dm_cl[ci]?).map (fun q => q.1) = some y.cls)) : dm_M1 l R Ts own D dm_cl cA ad sh P j n ci := by
  refine ⟨y, bytes, maxL, ret, dm_tt, rm, hMet, dm_goodIn hT (fun w hw => ?_), hr.1, hr.2, ⟨hT _ (hin _ (by simp)), hT _ (hin _ (by simp))⟩, hd, fun e => ?_, fun e => ?_⟩
  · rcases List.mem_cons.mp hw with rfl | h
    · exact hin _ (by simp)
    · exact h
  · rcases hs with h | h
    · exact hT _ h.2
    · omega
  · rcases hs with h | h
    · omega
    · refine ⟨⟨hT _ (h.2.1 _ (by simp)), hT _ (h.2.1 _ (by simp))⟩, ?_⟩
      obtain ⟨q, h1, h2⟩ := Option.map_eq_some_iff.mp h.2.2
      obtain ⟨C, T, N⟩ := q
      simp only at h2
      subst h2
      exact ⟨T, N, h1⟩
theorem dm_MO_of {l : Launch} {R : Room} {Ts : List Cond} {own : String} {D : va_G} {cl : List vw_C} {cA : Nat → ClassId} {ad : Nat → Nat} {sh : List dm_H} {f : List (Nat × Nat × Nat)} {i : List (Nat × Int32)} {jj : List (Nat × Int64)} {ms : List (Nat × Nat × Nat × Nat)} {rk : Nat} {Sp : dm_Sp} (h : ∀ q ∈ ms, dm_M1 l R Ts own D cl cA ad sh (Sp q.2.1) q.1 q.2.2.1 q.2.2.2) : dm_MO l R Ts own D cl cA ad sh (dm_mk f i jj ms rk) Sp := fun j mid n ci hj => h (j, mid, n, ci) (dm_lookup_mem hj)
theorem sC_0 : shC[0]? = some (.inr (10, [4, 5, 6, 7, 8, 9, 10, 11, 12, 13, 0])) := rfl
theorem sC_1 : shC[1]? = some (.inr (2, [14, 15, 16, 17, 18, 19, 20, 21, 0, 0, 0])) := rfl
theorem sC_2 : shC[2]? = some (.inr (1, [4, 22, 23, 24, 25, 26, 27, 28, 29, 30, 0])) := rfl
theorem sC_3 : shC[3]? = some (.inr (9, [4, 5, 31, 32, 33, 34, 0])) := rfl
theorem sC_4 : shC[4]? = some (.inr (7, [4, 5, 35, 36, 37, 38, 0])) := rfl
theorem sC_5 : shC[5]? = some (.inr (5, [4, 5, 6, 39, 40])) := rfl
theorem sC_6 : shC[6]? = some (.inr (4, [4, 5, 39, 41, 42, 43, 44])) := rfl
theorem sC_7 : shC[7]? = some (.inr (6, [4, 5, 6, 45, 46, 47, 48])) := rfl
theorem sC_8 : shC[8]? = some (.inr (0, [4, 49, 50, 0])) := rfl
theorem sC_9 : shC[9]? = some (.inr (8, [4, 51, 0])) := rfl
theorem sC_10 : shC[10]? = some (.inr (3, [52, 53, 54, 0, 2])) := rfl
theorem sC_11 : shC[11]? = some (.inl (1, 24)) := rfl
theorem sC_12 : shC[12]? = some (.inl (0, 80)) := rfl
theorem sC_13 : shC[13]? = some (.inl (0, 80)) := rfl
theorem sC_14 : shC[14]? = some (.inl (2, 80)) := rfl
theorem sC_15 : shC[15]? = some (.inl (1, 80)) := rfl
theorem sC_16 : shC[16]? = some (.inl (0, 80)) := rfl
theorem sC_17 : shC[17]? = some (.inl (1, 320)) := rfl
theorem sC_18 : shC[18]? = some (.inl (1, 320)) := rfl
theorem sC_19 : shC[19]? = some (.inl (0, 81)) := rfl
theorem sC_20 : shC[20]? = some (.inl (0, 320)) := rfl
theorem sC_21 : shC[21]? = some (.inl (0, 320)) := rfl
theorem sC_22 : shC[22]? = some (.inl (1, 320)) := rfl
theorem sC_23 : shC[23]? = some (.inl (1, 320)) := rfl
theorem sC_24 : shC[24]? = some (.inl (1, 320)) := rfl
theorem sC_25 : shC[25]? = some (.inl (1, 24)) := rfl
theorem sC_26 : shC[26]? = some (.inl (0, 25)) := rfl
theorem sC_27 : shC[27]? = some (.inl (0, 640)) := rfl
theorem sC_28 : shC[28]? = some (.inl (0, 160)) := rfl
theorem sC_29 : shC[29]? = some (.inl (0, 160)) := rfl
theorem sC_30 : shC[30]? = some (.inl (0, 160)) := rfl
theorem sC_31 : shC[31]? = some (.inl (1, 160)) := rfl
theorem sC_32 : shC[32]? = some (.inl (2, 320)) := rfl
theorem sC_33 : shC[33]? = some (.inl (0, 24)) := rfl
theorem sC_34 : shC[34]? = some (.inl (1, 24)) := rfl
theorem sC_35 : shC[35]? = some (.inl (0, 24)) := rfl
theorem sC_36 : shC[36]? = some (.inl (1, 24)) := rfl
theorem sC_37 : shC[37]? = some (.inl (1, 24)) := rfl
theorem sC_38 : shC[38]? = some (.inl (1, 24)) := rfl
theorem sC_39 : shC[39]? = some (.inl (2, 24)) := rfl
theorem sC_40 : shC[40]? = some (.inl (0, 24)) := rfl
theorem sC_41 : shC[41]? = some (.inl (1, 24)) := rfl
theorem sC_42 : shC[42]? = some (.inl (1, 600)) := rfl
theorem sC_43 : shC[43]? = some (.inl (0, 600)) := rfl
theorem sC_44 : shC[44]? = some (.inl (0, 24)) := rfl
theorem sC_45 : shC[45]? = some (.inl (0, 24)) := rfl
theorem sC_46 : shC[46]? = some (.inl (0, 24)) := rfl
theorem sC_47 : shC[47]? = some (.inl (1, 600)) := rfl
theorem sC_48 : shC[48]? = some (.inl (0, 24)) := rfl
theorem sC_49 : shC[49]? = some (.inl (1, 64)) := rfl
theorem sC_50 : shC[50]? = some (.inl (0, 8)) := rfl
theorem sC_51 : shC[51]? = some (.inl (1, 256)) := rfl
theorem sM_0 : shM[0]? = some (.inr (11, [0, 0, 4, 5, 6, 7, 8, 9, 10, 11, 0, 12, 1, 0, 13, 0, 14, 0, 15, 16, 17, 18, 19, 20, 21, 22, 23, 0, 24, 25, 26, 27, 28, 29, 30, 31, 32])) := rfl
theorem sM_1 : shM[1]? = some (.inl (1, 24)) := rfl
theorem sM_2 : shM[2]? = some (.inl (0, 80)) := rfl
theorem sM_3 : shM[3]? = some (.inl (0, 80)) := rfl
theorem sM_4 : shM[4]? = some (.inl (1, 80)) := rfl
theorem sM_5 : shM[5]? = some (.inl (1, 80)) := rfl
theorem sM_6 : shM[6]? = some (.inl (0, 80)) := rfl
theorem sM_7 : shM[7]? = some (.inl (1, 320)) := rfl
theorem sM_8 : shM[8]? = some (.inl (1, 320)) := rfl
theorem sM_9 : shM[9]? = some (.inl (1, 80)) := rfl
theorem sM_10 : shM[10]? = some (.inl (0, 24)) := rfl
theorem sM_11 : shM[11]? = some (.inl (0, 24)) := rfl
theorem sM_12 : shM[12]? = some (.inl (0, 400)) := rfl
theorem sM_13 : shM[13]? = some (.inl (0, 400)) := rfl
theorem sM_14 : shM[14]? = some (.inl (0, 400)) := rfl
theorem sM_15 : shM[15]? = some (.inl (1, 400)) := rfl
theorem sM_16 : shM[16]? = some (.inl (1, 400)) := rfl
theorem sM_17 : shM[17]? = some (.inl (1, 400)) := rfl
theorem sM_18 : shM[18]? = some (.inl (1, 26)) := rfl
theorem sM_19 : shM[19]? = some (.inl (1, 26)) := rfl
theorem sM_20 : shM[20]? = some (.inl (0, 26)) := rfl
theorem sM_21 : shM[21]? = some (.inl (1, 64)) := rfl
theorem sM_22 : shM[22]? = some (.inl (2, 64)) := rfl
theorem sM_23 : shM[23]? = some (.inl (1, 256)) := rfl
theorem sM_24 : shM[24]? = some (.inl (1, 80)) := rfl
theorem sM_25 : shM[25]? = some (.inl (1, 80)) := rfl
theorem sM_26 : shM[26]? = some (.inl (0, 24)) := rfl
theorem sM_27 : shM[27]? = some (.inl (2, 24)) := rfl
theorem sM_28 : shM[28]? = some (.inl (0, 24)) := rfl
theorem sM_29 : shM[29]? = some (.inl (1, 625)) := rfl
theorem dm_nb0 : narrow .boolean (.int 0) = .int 0 ∧ fits .boolean (.int 0) = true ∧ vp_nar .boolean 0 = 0 := ⟨rfl, rfl, rfl⟩
theorem dm_nb1 : narrow .boolean (.int 1) = .int 1 ∧ fits .boolean (.int 1) = true ∧ vp_nar .boolean 1 = 1 := ⟨rfl, rfl, rfl⟩
theorem dm_cm0 {x y : Int64} : (lg_cmp x y = 0 ↔ x = y) := by
  unfold lg_cmp
  split
  · rename_i h
    exact ⟨fun q => absurd q (by decide), fun q => by subst q; exact absurd h (by simp [Int64.lt_iff_toInt_lt])⟩
  · split
    · rename_i h; exact ⟨fun _ => h, fun _ => rfl⟩
    · rename_i h; exact ⟨fun q => absurd q (by decide), fun q => absurd q h⟩
theorem dm_cm {x y : Int64} : (lg_cmp x y = 0 ↔ x = y) ∧ (lg_cmp x y < 0 ↔ x < y) ∧ (0 < lg_cmp x y ↔ y < x) ∧ (0 ≤ lg_cmp x y ↔ y ≤ x) ∧ (lg_cmp x y ≤ 0 ↔ x ≤ y) := ⟨dm_cm0, lg_cmp_lt x y, lg_cmp_gt x y, lg_cmp_ge x y, lg_cmp_le x y⟩
theorem dm_ui_1 {u : dm_S} {c j c' : Nat} {x : Int32} : (dm_ui u c j x).1 c' = if c' = c then upd (u.1 c) j x else u.1 c' := rfl
theorem dm_ui_2 {u : dm_S} {c j : Nat} {x : Int32} : (dm_ui u c j x).2 = u.2 := rfl
theorem dm_ul_1 {u : dm_S} {c j : Nat} {x : Int64} : (dm_ul u c j x).1 = u.1 := rfl
theorem dm_ul_2 {u : dm_S} {c j c' : Nat} {x : Int64} : (dm_ul u c j x).2 c' = if c' = c then vp_updL (u.2 c) j x else u.2 c' := rfl
