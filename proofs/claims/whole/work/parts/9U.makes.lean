/-! ===== objects and arrays are made (written by wip/tools/genmk.py) ===== -/
theorem ct_d {cc : ByteArray} {P : List (Nat × Instr × Nat)} (h : P.all (fun q => decide (decode cc q.1 = .ok (q.2.1, q.2.2))) = true) (k : Nat) {pc n : Nat} {i : Instr} (hk : P[k]? = some (pc, i, n)) : decode cc pc = .ok (i, n) := by
  have h1 := List.all_eq_true.mp h _ (List.mem_of_getElem? hk)
  simp only [decide_eq_true_eq] at h1
  exact h1
/-- the state at the start: all is 0, the answer -1 -/
def m0 : dm_S := (fun c => match c with
  | 0 => fun k => if k = 10 then -1 else 0
  | _ + 1 => fun _ => 0, fun _ _ => 0)
def dm_wl (ad : Nat → Nat) (cA : Nat → ClassId) (u : dm_S) : Nat → List dm_H → va_W
  | _, [] => []
  | c, h :: t => (ad c, dm_en ad cA u c h) :: dm_wl ad cA u (c + 1) t
theorem dm_wl_at {ad : Nat → Nat} {cA : Nat → ClassId} {u : dm_S} : ∀ (sh : List dm_H) (c i : Nat), (dm_wl ad cA u c sh)[i]? = (sh[i]?).map (fun h => (ad (c + i), dm_en ad cA u (c + i) h))
  | [], _, _ => rfl
  | h :: t, c, 0 => rfl
  | h :: t, c, i + 1 => by
    show (dm_wl ad cA u (c + 1) t)[i]? = _
    rw [dm_wl_at t (c + 1) i, show c + 1 + i = c + (i + 1) by omega]
    rfl
theorem dm_w_wl {ad : Nat → Nat} {cA : Nat → ClassId} {sh : List dm_H} {u : dm_S} : dm_w ad cA sh u = dm_wl ad cA u 0 sh := by
  apply List.ext_getElem?
  intro i
  rw [dm_wl_at]
  simp only [dm_w, List.getElem?_mapIdx, Nat.zero_add]
def dm_fs (ad : Nat → Nat) (u : dm_S) (c : Nat) : Nat → List Nat → List Value
  | _, [] => []
  | k, f :: t => dm_fv ad u c k f :: dm_fs ad u c (k + 1) t
theorem dm_fs_at {ad : Nat → Nat} {u : dm_S} {c : Nat} : ∀ (fs : List Nat) (k i : Nat), (dm_fs ad u c k fs)[i]? = (fs[i]?).map (fun f => dm_fv ad u c (k + i) f)
  | [], _, _ => rfl
  | f :: t, k, 0 => rfl
  | f :: t, k, i + 1 => by
    show (dm_fs ad u c (k + 1) t)[i]? = _
    rw [dm_fs_at t (k + 1) i, show k + 1 + i = k + (i + 1) by omega]
    rfl
theorem dm_eo {ad : Nat → Nat} {cA : Nat → ClassId} {u : dm_S} {c ci : Nat} {fs : List Nat} : dm_en ad cA u c (.inr (ci, fs)) = .inr (ci, dm_fs ad u c 0 fs) := by
  have : fs.mapIdx (fun k f => dm_fv ad u c k f) = dm_fs ad u c 0 fs := by
    apply List.ext_getElem?
    intro i
    rw [dm_fs_at]
    simp only [List.getElem?_mapIdx, Nat.zero_add]
  show Sum.inr (ci, fs.mapIdx (fun k f => dm_fv ad u c k f)) = _
  rw [this]
theorem dm_ei {ad : Nat → Nat} {cA : Nat → ClassId} {u : dm_S} {c n : Nat} : dm_en ad cA u c (.inl (0, n)) = .inl (cA 0, n, .inl (u.1 c)) := rfl
theorem dm_ez {ad : Nat → Nat} {cA : Nat → ClassId} {u : dm_S} {c n : Nat} : dm_en ad cA u c (.inl (2, n)) = .inl (cA 2, n, .inl (u.1 c)) := rfl
theorem dm_el {ad : Nat → Nat} {cA : Nat → ClassId} {u : dm_S} {c n : Nat} : dm_en ad cA u c (.inl (1, n)) = .inl (cA 1, n, .inr (.inl (u.2 c))) := rfl
section DMN
variable {p : Program} {l : Launch} {e : Env} {R : Room} {s : State} {m : MethodId} {args : Array Value} {below : List Frame} {meth : Method} {c : Code} {H : Heap} {locs : List Loc} {cells slots : Nat} {Q : State → Prop}
variable {cc : ByteArray} {pc : Nat} {ls : Array Slot} {rest : List Value} {D : va_G} {cl : List vw_C} {A : Nat → Prop} {ws : va_W} {H0 : Heap} {cA : Nat → ClassId}
/-- a new array is of the class that the tables have for it -/
theorem dm_newa (hexec : p.tables.exec = Jvm.exec) (hb : c.code = cc) {atype : ArrayType} (harr : (Cond.arrayClass (newarray.typeOf atype)).before args s = true) {ty : FieldType} (hty : newarray.typeOf atype = ty) (k : Nat) (hk : (dm_tys cA)[k]? = some (cA k, ty)) (hnr : ∀ C, ty ≠ .object C) (hK : va_K D cl (dm_tys cA) s) (hP : va_P D cl ws H) (hD : va_D A ws) (hS : va_S A H0 H locs) (hA : ∀ q, H0.size ≤ q → A q)
    {n : Int32} {N' : Nat} {a0 : vp_A} (ha : ∀ cA : ClassId, vp_cell cA a0 = arrV cA N' (fun _ => defaultValue ty)) (hn : ¬ n < 0) (hN : n.toNatClampNeg = N') (hbytes : N' * componentBytes ty ≤ 536870912) (hcells : cells + 1 ≤ R.cells) (hslots : slots + N' ≤ R.slots) (hdg : decode cc pc = .ok (.newarray atype, 2))
    (kk : ∀ (q : Nat) (H1 : Heap), va_P D cl (ws ++ [(q, .inl (cA k, a0))]) H1 → va_D A (ws ++ [(q, .inl (cA k, a0))]) → va_S A H0 H1 locs → W p l e R s m args below meth c H1 locs (cells + 1) (slots + N') Q (F0 m (pc + 2) ls (.ref q :: rest))) : W p l e R s m args below meth c H locs cells slots Q (F0 m pc ls (.int n :: rest)) := by
  refine va_newa hexec hb harr hty hK hP hD hS hA ha hn hN hbytes hcells hslots hdg (fun q cB H1 hK1 hP1 hD1 hS1 => ?_)
  have e : cB = cA k := by
    have h1 := (hK.2 k _ hk).2
    have h2 := (hK1.2 3 (cB, ty) rfl).2
    unfold va_RA at h1 h2
    cases ty with
    | object C => exact absurd rfl (hnr C)
    | _ => exact Option.some.inj (h2.symm.trans h1)
  subst e
  exact kk q H1 hP1 hD1 hS1
end DMN

def pI_X2_init : List (Nat × Instr × Nat) := [(0, .aload_n 0, 1), (1, .invokespecial 3, 3), (4, .aload_n 0, 1), (5, .bipush 24, 2), (7, .newarray .long, 2), (9, .putfield 9, 3), (12, .aload_n 0, 1), (13, .bipush 80, 2), (15, .newarray .int, 2), (17, .putfield 15, 3), (20, .aload_n 0, 1), (21, .bipush 80, 2), (23, .newarray .int, 2), (25, .putfield 19, 3), (28, .aload_n 0, 1), (29, .bipush 80, 2), (31, .newarray .boolean, 2), (33, .putfield 22, 3), (36, .aload_n 0, 1), (37, .bipush 80, 2), (39, .newarray .long, 2), (41, .putfield 26, 3), (44, .aload_n 0, 1), (45, .bipush 80, 2), (47, .newarray .int, 2), (49, .putfield 29, 3), (52, .aload_n 0, 1), (53, .sipush 320, 3), (56, .newarray .long, 2), (58, .putfield 32, 3), (61, .aload_n 0, 1), (62, .sipush 320, 3), (65, .newarray .long, 2), (67, .putfield 35, 3), (70, .return_, 1)]
set_option maxRecDepth 100000 in
theorem vI_X2_init : pI_X2_init.all (fun q => decide (decode cX2_init q.1 = .ok (q.2.1, q.2.2))) = true := by decide +kernel
set_option maxRecDepth 100000 in
theorem wI_X2_init : ∀ w ∈ ([.methodLink RX2 3 objectInit, .instanceMethod objectInit, .code objectInit ⟨#[0xb1]⟩ 1 none, .arrayClass .long, .fieldLink RX2 9 "CostFlow$Net" "supplies" "[J", .arrayClass .int, .fieldLink RX2 15 "CostFlow$Net" "froms" "[I", .fieldLink RX2 19 "CostFlow$Net" "tos" "[I", .arrayClass .boolean, .fieldLink RX2 22 "CostFlow$Net" "endless" "[Z", .fieldLink RX2 26 "CostFlow$Net" "tops" "[J", .fieldLink RX2 29 "CostFlow$Net" "parts" "[I", .fieldLink RX2 32 "CostFlow$Net" "starts" "[J", .fieldLink RX2 35 "CostFlow$Net" "rates" "[J"] : List Cond), w ∈ dm_tt := dm_mem [94, 87, 88, 160, 95, 161, 98, 103, 162, 108, 111, 112, 114, 116] (by decide +kernel) (by decide +kernel)
set_option maxRecDepth 100000 in
theorem wg_X2_init : ∀ w ∈ (Cond.code yX2_init cX2_init 1 none :: dm_tt), w ∈ dm_tt := fun w h => by
  rcases List.mem_cons.mp h with rfl | h
  · exact dm_mem (ws := [.code yX2_init cX2_init 1 none]) [93] (by decide +kernel) (by decide +kernel) _ List.mem_cons_self
  · exact h
theorem bl_X2 : ∀ j, j < 11 → defaultValue (tyX2 j) = vp_V [.null, .null, .null, .null, .null, .null, .null, .null, .int 0, .int 0, .int 0] j := by decide
set_option maxHeartbeats 4000000 in
set_option maxRecDepth 100000 in
theorem c_X2_init (l : Launch) (D : va_G) (cA : Nat → ClassId) (h0 : Nat) (sz : Nat) : Met l yX2_init (Cond.code yX2_init cX2_init 1 none :: dm_tt) ({ frames := 1, cells := 8, slots := 1064, locals := 12 } : Room) (va_Pc [.ref h0] (fun U => U.heap.size = sz ∧ va_P D dm_cl [(h0, .inr (2, [.null, .null, .null, .null, .null, .null, .null, .null, .int 0, .int 0, .int 0]))] U.heap ∧ va_K D dm_cl (dm_tys cA) U ∧ va_D (fun _ => True) [(h0, .inr (2, [.null, .null, .null, .null, .null, .null, .null, .null, .int 0, .int 0, .int 0]))])) (va_Qv (fun _ : Unit => True) (fun _ t => ∃ g : Nat → Nat, va_P D dm_cl [(h0, .inr (2, [.ref (g 1), .ref (g 2), .ref (g 3), .ref (g 4), .ref (g 5), .ref (g 6), .ref (g 7), .ref (g 8), .int 0, .int 0, .int 0])), (g 1, .inl (cA 1, 24, .inr (.inl (fun _ => 0)))), (g 2, .inl (cA 0, 80, .inl (fun _ => 0))), (g 3, .inl (cA 0, 80, .inl (fun _ => 0))), (g 4, .inl (cA 2, 80, .inl (fun _ => 0))), (g 5, .inl (cA 1, 80, .inr (.inl (fun _ => 0)))), (g 6, .inl (cA 0, 80, .inl (fun _ => 0))), (g 7, .inl (cA 1, 320, .inr (.inl (fun _ => 0)))), (g 8, .inl (cA 1, 320, .inr (.inl (fun _ => 0))))] t.heap ∧ va_K D dm_cl (dm_tys cA) t ∧ va_D (va_A [(h0, .inr (2, [.null, .null, .null, .null, .null, .null, .null, .null, .int 0, .int 0, .int 0]))] sz) [(h0, .inr (2, [.ref (g 1), .ref (g 2), .ref (g 3), .ref (g 4), .ref (g 5), .ref (g 6), .ref (g 7), .ref (g 8), .int 0, .int 0, .int 0])), (g 1, .inl (cA 1, 24, .inr (.inl (fun _ => 0)))), (g 2, .inl (cA 0, 80, .inl (fun _ => 0))), (g 3, .inl (cA 0, 80, .inl (fun _ => 0))), (g 4, .inl (cA 2, 80, .inl (fun _ => 0))), (g 5, .inl (cA 1, 80, .inr (.inl (fun _ => 0)))), (g 6, .inl (cA 0, 80, .inl (fun _ => 0))), (g 7, .inl (cA 1, 320, .inr (.inl (fun _ => 0)))), (g 8, .inl (cA 1, 320, .inr (.inl (fun _ => 0))))]) (va_A [(h0, .inr (2, [.null, .null, .null, .null, .null, .null, .null, .null, .int 0, .int 0, .int 0]))] sz)) 8 1064 (va_A [(h0, .inr (2, [.null, .null, .null, .null, .null, .null, .null, .null, .int 0, .int 0, .int 0]))] sz) := by
  refine Met.ofW (cc := cX2_init) (maxL := 1) (ret := none) (by decide) rfl ?_
  intro p e s m args below meth c s₁ B hml hv
  obtain ⟨rfl, hsz, hP, hK, hD0⟩ := hv
  have hx := B.exec
  have hb := B.bytes
  have hr := B.returns
  have hts := atoms_spec (ws := Cond.code yX2_init cX2_init 1 none :: dm_tt) B.pre
  have hown : s.vm.findClass RX2 = some m.cls := findClass_of_methodNamed B.named
  have hlocks := B.notSynchronized
  have hin : meth.name = "<init>" := (name_of_methodNamed B.named B.method).1
  subst hsz
  have hD := hD0.self (sz := s.heap.size)
  generalize hAe : va_A [(h0, .inr (2, [.null, .null, .null, .null, .null, .null, .null, .null, .int 0, .int 0, .int 0]))] s.heap.size = A at hD ⊢
  have hA : ∀ q : Nat, s.heap.size ≤ q → A q := fun q h => by rw [← hAe]; exact Or.inr h
  have hS : va_S A s.heap s.heap [] := va_S.rf
  have hP : va_P D dm_cl [(h0, .inr (2, [.null, .null, .null, .null, .null, .null, .null, .null, .int 0, .int 0, .int 0]))] s.heap := hP
  have hl := lv_entry ([.ref h0]) (n := 1) (Nat.le_of_ble_eq_true rfl)
  rw [lg_entry_eq]
  generalize (lg_sl ([.ref h0]) ++ List.replicate (1 - (lg_sl ([.ref h0])).length) Slot.unset).toArray = ls at hl ⊢
  have hl : lv_has ls 1 [(0, .ref h0)] := hl
  refine lv_aload_n hx hb (ct_d vI_X2_init 0 rfl) rfl (lv_at hl 0 rfl) ?_
  refine W.objInit hx hb hown (hts (.methodLink RX2 3 objectInit) (dm_hT _ (wI_X2_init _ (List.mem_of_getElem? (i := 0) rfl)))) (hts (.instanceMethod objectInit) (dm_hT _ (wI_X2_init _ (List.mem_of_getElem? (i := 1) rfl)))) (hts (.code objectInit ⟨#[0xb1]⟩ 1 none) (dm_hT _ (wI_X2_init _ (List.mem_of_getElem? (i := 2) rfl)))) rfl (by rw [hml]; exact hl.1) rfl (ct_d vI_X2_init 1 rfl) (Nat.le_of_ble_eq_true rfl) (Nat.le_of_ble_eq_true rfl) ?_
  refine W.eq (g2 := F0 m 4 ls []) rfl ?_
  refine lv_aload_n hx hb (ct_d vI_X2_init 2 rfl) rfl (lv_at hl 0 rfl) ?_
  refine lv_bipush (v := 24) hx hb (ct_d vI_X2_init 3 rfl) (by decide +kernel) ?_
  refine dm_newa (atype := .long) (ty := .long) (N' := 24) (a0 := (24, .inr (.inl (fun _ => 0)))) hx hb (hts (.arrayClass .long) (dm_hT _ (wI_X2_init _ (List.mem_of_getElem? (i := 3) rfl)))) rfl 1 rfl (fun _ z => by cases z) hK hP hD hS hA (fun _ => rfl) (by decide) (by decide +kernel) (by decide) (Nat.le_of_ble_eq_true rfl) (Nat.le_of_ble_eq_true rfl) (ct_d vI_X2_init 4 rfl) (fun q1 H hP hD hS => ?_)
  have hP : va_P D dm_cl [(h0, .inr (2, [.null, .null, .null, .null, .null, .null, .null, .null, .int 0, .int 0, .int 0])), (q1, .inl (cA 1, 24, .inr (.inl (fun _ => 0))))] H := hP
  have hD : va_D A [(h0, .inr (2, [.null, .null, .null, .null, .null, .null, .null, .null, .int 0, .int 0, .int 0])), (q1, .inl (cA 1, 24, .inr (.inl (fun _ => 0))))] := hD
  refine W.widen (k := 1) (n := 24) (Nat.le_of_ble_eq_true rfl) (Nat.le_of_ble_eq_true rfl) ?_
  refine va_putF (D := D) (ci := 2) (v := .ref q1) (ty := tyX2 0) (C := RX2) (T := TX2) (N := 11) hx hb hts (fun w h => dm_hT w (dm_u2 w h)) tyX2 tyX2_ok nmX2 hown hK hP hD hS 0 rfl rfl 0 (by decide) (hts (.fieldLink RX2 9 "CostFlow$Net" "supplies" "[J") (dm_hT _ (wI_X2_init _ (List.mem_of_getElem? (i := 4) rfl)))) (fun _ h9 => h9) rfl hin rfl (tyX2_ok 0 (by decide)) rfl rfl (Nat.le_of_ble_eq_true rfl) (ct_d vI_X2_init 5 rfl) (fun H locs hP hD hS => ?_)
  have hP : va_P D dm_cl [(h0, .inr (2, [.ref q1, .null, .null, .null, .null, .null, .null, .null, .int 0, .int 0, .int 0])), (q1, .inl (cA 1, 24, .inr (.inl (fun _ => 0))))] H := hP
  have hD : va_D A [(h0, .inr (2, [.ref q1, .null, .null, .null, .null, .null, .null, .null, .int 0, .int 0, .int 0])), (q1, .inl (cA 1, 24, .inr (.inl (fun _ => 0))))] := hD
  refine lv_aload_n hx hb (ct_d vI_X2_init 6 rfl) rfl (lv_at hl 0 rfl) ?_
  refine lv_bipush (v := 80) hx hb (ct_d vI_X2_init 7 rfl) (by decide +kernel) ?_
  refine dm_newa (atype := .int) (ty := .int) (N' := 80) (a0 := (80, .inl (fun _ => 0))) hx hb (hts (.arrayClass .int) (dm_hT _ (wI_X2_init _ (List.mem_of_getElem? (i := 5) rfl)))) rfl 0 rfl (fun _ z => by cases z) hK hP hD hS hA (fun _ => rfl) (by decide) (by decide +kernel) (by decide) (Nat.le_of_ble_eq_true rfl) (Nat.le_of_ble_eq_true rfl) (ct_d vI_X2_init 8 rfl) (fun q2 H hP hD hS => ?_)
  have hP : va_P D dm_cl [(h0, .inr (2, [.ref q1, .null, .null, .null, .null, .null, .null, .null, .int 0, .int 0, .int 0])), (q1, .inl (cA 1, 24, .inr (.inl (fun _ => 0)))), (q2, .inl (cA 0, 80, .inl (fun _ => 0)))] H := hP
  have hD : va_D A [(h0, .inr (2, [.ref q1, .null, .null, .null, .null, .null, .null, .null, .int 0, .int 0, .int 0])), (q1, .inl (cA 1, 24, .inr (.inl (fun _ => 0)))), (q2, .inl (cA 0, 80, .inl (fun _ => 0)))] := hD
  refine W.widen (k := 2) (n := 104) (Nat.le_of_ble_eq_true rfl) (Nat.le_of_ble_eq_true rfl) ?_
  refine va_putF (D := D) (ci := 2) (v := .ref q2) (ty := tyX2 1) (C := RX2) (T := TX2) (N := 11) hx hb hts (fun w h => dm_hT w (dm_u2 w h)) tyX2 tyX2_ok nmX2 hown hK hP hD hS 0 rfl rfl 1 (by decide) (hts (.fieldLink RX2 15 "CostFlow$Net" "froms" "[I") (dm_hT _ (wI_X2_init _ (List.mem_of_getElem? (i := 6) rfl)))) (fun _ h9 => h9) rfl hin rfl (tyX2_ok 1 (by decide)) rfl rfl (Nat.le_of_ble_eq_true rfl) (ct_d vI_X2_init 9 rfl) (fun H locs hP hD hS => ?_)
  have hP : va_P D dm_cl [(h0, .inr (2, [.ref q1, .ref q2, .null, .null, .null, .null, .null, .null, .int 0, .int 0, .int 0])), (q1, .inl (cA 1, 24, .inr (.inl (fun _ => 0)))), (q2, .inl (cA 0, 80, .inl (fun _ => 0)))] H := hP
  have hD : va_D A [(h0, .inr (2, [.ref q1, .ref q2, .null, .null, .null, .null, .null, .null, .int 0, .int 0, .int 0])), (q1, .inl (cA 1, 24, .inr (.inl (fun _ => 0)))), (q2, .inl (cA 0, 80, .inl (fun _ => 0)))] := hD
  refine lv_aload_n hx hb (ct_d vI_X2_init 10 rfl) rfl (lv_at hl 0 rfl) ?_
  refine lv_bipush (v := 80) hx hb (ct_d vI_X2_init 11 rfl) (by decide +kernel) ?_
  refine dm_newa (atype := .int) (ty := .int) (N' := 80) (a0 := (80, .inl (fun _ => 0))) hx hb (hts (.arrayClass .int) (dm_hT _ (wI_X2_init _ (List.mem_of_getElem? (i := 5) rfl)))) rfl 0 rfl (fun _ z => by cases z) hK hP hD hS hA (fun _ => rfl) (by decide) (by decide +kernel) (by decide) (Nat.le_of_ble_eq_true rfl) (Nat.le_of_ble_eq_true rfl) (ct_d vI_X2_init 12 rfl) (fun q3 H hP hD hS => ?_)
  have hP : va_P D dm_cl [(h0, .inr (2, [.ref q1, .ref q2, .null, .null, .null, .null, .null, .null, .int 0, .int 0, .int 0])), (q1, .inl (cA 1, 24, .inr (.inl (fun _ => 0)))), (q2, .inl (cA 0, 80, .inl (fun _ => 0))), (q3, .inl (cA 0, 80, .inl (fun _ => 0)))] H := hP
  have hD : va_D A [(h0, .inr (2, [.ref q1, .ref q2, .null, .null, .null, .null, .null, .null, .int 0, .int 0, .int 0])), (q1, .inl (cA 1, 24, .inr (.inl (fun _ => 0)))), (q2, .inl (cA 0, 80, .inl (fun _ => 0))), (q3, .inl (cA 0, 80, .inl (fun _ => 0)))] := hD
  refine W.widen (k := 3) (n := 184) (Nat.le_of_ble_eq_true rfl) (Nat.le_of_ble_eq_true rfl) ?_
  refine va_putF (D := D) (ci := 2) (v := .ref q3) (ty := tyX2 2) (C := RX2) (T := TX2) (N := 11) hx hb hts (fun w h => dm_hT w (dm_u2 w h)) tyX2 tyX2_ok nmX2 hown hK hP hD hS 0 rfl rfl 2 (by decide) (hts (.fieldLink RX2 19 "CostFlow$Net" "tos" "[I") (dm_hT _ (wI_X2_init _ (List.mem_of_getElem? (i := 7) rfl)))) (fun _ h9 => h9) rfl hin rfl (tyX2_ok 2 (by decide)) rfl rfl (Nat.le_of_ble_eq_true rfl) (ct_d vI_X2_init 13 rfl) (fun H locs hP hD hS => ?_)
  have hP : va_P D dm_cl [(h0, .inr (2, [.ref q1, .ref q2, .ref q3, .null, .null, .null, .null, .null, .int 0, .int 0, .int 0])), (q1, .inl (cA 1, 24, .inr (.inl (fun _ => 0)))), (q2, .inl (cA 0, 80, .inl (fun _ => 0))), (q3, .inl (cA 0, 80, .inl (fun _ => 0)))] H := hP
  have hD : va_D A [(h0, .inr (2, [.ref q1, .ref q2, .ref q3, .null, .null, .null, .null, .null, .int 0, .int 0, .int 0])), (q1, .inl (cA 1, 24, .inr (.inl (fun _ => 0)))), (q2, .inl (cA 0, 80, .inl (fun _ => 0))), (q3, .inl (cA 0, 80, .inl (fun _ => 0)))] := hD
  refine lv_aload_n hx hb (ct_d vI_X2_init 14 rfl) rfl (lv_at hl 0 rfl) ?_
  refine lv_bipush (v := 80) hx hb (ct_d vI_X2_init 15 rfl) (by decide +kernel) ?_
  refine dm_newa (atype := .boolean) (ty := .boolean) (N' := 80) (a0 := (80, .inl (fun _ => 0))) hx hb (hts (.arrayClass .boolean) (dm_hT _ (wI_X2_init _ (List.mem_of_getElem? (i := 8) rfl)))) rfl 2 rfl (fun _ z => by cases z) hK hP hD hS hA (fun _ => rfl) (by decide) (by decide +kernel) (by decide) (Nat.le_of_ble_eq_true rfl) (Nat.le_of_ble_eq_true rfl) (ct_d vI_X2_init 16 rfl) (fun q4 H hP hD hS => ?_)
  have hP : va_P D dm_cl [(h0, .inr (2, [.ref q1, .ref q2, .ref q3, .null, .null, .null, .null, .null, .int 0, .int 0, .int 0])), (q1, .inl (cA 1, 24, .inr (.inl (fun _ => 0)))), (q2, .inl (cA 0, 80, .inl (fun _ => 0))), (q3, .inl (cA 0, 80, .inl (fun _ => 0))), (q4, .inl (cA 2, 80, .inl (fun _ => 0)))] H := hP
  have hD : va_D A [(h0, .inr (2, [.ref q1, .ref q2, .ref q3, .null, .null, .null, .null, .null, .int 0, .int 0, .int 0])), (q1, .inl (cA 1, 24, .inr (.inl (fun _ => 0)))), (q2, .inl (cA 0, 80, .inl (fun _ => 0))), (q3, .inl (cA 0, 80, .inl (fun _ => 0))), (q4, .inl (cA 2, 80, .inl (fun _ => 0)))] := hD
  refine W.widen (k := 4) (n := 264) (Nat.le_of_ble_eq_true rfl) (Nat.le_of_ble_eq_true rfl) ?_
  refine va_putF (D := D) (ci := 2) (v := .ref q4) (ty := tyX2 3) (C := RX2) (T := TX2) (N := 11) hx hb hts (fun w h => dm_hT w (dm_u2 w h)) tyX2 tyX2_ok nmX2 hown hK hP hD hS 0 rfl rfl 3 (by decide) (hts (.fieldLink RX2 22 "CostFlow$Net" "endless" "[Z") (dm_hT _ (wI_X2_init _ (List.mem_of_getElem? (i := 9) rfl)))) (fun _ h9 => h9) rfl hin rfl (tyX2_ok 3 (by decide)) rfl rfl (Nat.le_of_ble_eq_true rfl) (ct_d vI_X2_init 17 rfl) (fun H locs hP hD hS => ?_)
  have hP : va_P D dm_cl [(h0, .inr (2, [.ref q1, .ref q2, .ref q3, .ref q4, .null, .null, .null, .null, .int 0, .int 0, .int 0])), (q1, .inl (cA 1, 24, .inr (.inl (fun _ => 0)))), (q2, .inl (cA 0, 80, .inl (fun _ => 0))), (q3, .inl (cA 0, 80, .inl (fun _ => 0))), (q4, .inl (cA 2, 80, .inl (fun _ => 0)))] H := hP
  have hD : va_D A [(h0, .inr (2, [.ref q1, .ref q2, .ref q3, .ref q4, .null, .null, .null, .null, .int 0, .int 0, .int 0])), (q1, .inl (cA 1, 24, .inr (.inl (fun _ => 0)))), (q2, .inl (cA 0, 80, .inl (fun _ => 0))), (q3, .inl (cA 0, 80, .inl (fun _ => 0))), (q4, .inl (cA 2, 80, .inl (fun _ => 0)))] := hD
  refine lv_aload_n hx hb (ct_d vI_X2_init 18 rfl) rfl (lv_at hl 0 rfl) ?_
  refine lv_bipush (v := 80) hx hb (ct_d vI_X2_init 19 rfl) (by decide +kernel) ?_
  refine dm_newa (atype := .long) (ty := .long) (N' := 80) (a0 := (80, .inr (.inl (fun _ => 0)))) hx hb (hts (.arrayClass .long) (dm_hT _ (wI_X2_init _ (List.mem_of_getElem? (i := 3) rfl)))) rfl 1 rfl (fun _ z => by cases z) hK hP hD hS hA (fun _ => rfl) (by decide) (by decide +kernel) (by decide) (Nat.le_of_ble_eq_true rfl) (Nat.le_of_ble_eq_true rfl) (ct_d vI_X2_init 20 rfl) (fun q5 H hP hD hS => ?_)
  have hP : va_P D dm_cl [(h0, .inr (2, [.ref q1, .ref q2, .ref q3, .ref q4, .null, .null, .null, .null, .int 0, .int 0, .int 0])), (q1, .inl (cA 1, 24, .inr (.inl (fun _ => 0)))), (q2, .inl (cA 0, 80, .inl (fun _ => 0))), (q3, .inl (cA 0, 80, .inl (fun _ => 0))), (q4, .inl (cA 2, 80, .inl (fun _ => 0))), (q5, .inl (cA 1, 80, .inr (.inl (fun _ => 0))))] H := hP
  have hD : va_D A [(h0, .inr (2, [.ref q1, .ref q2, .ref q3, .ref q4, .null, .null, .null, .null, .int 0, .int 0, .int 0])), (q1, .inl (cA 1, 24, .inr (.inl (fun _ => 0)))), (q2, .inl (cA 0, 80, .inl (fun _ => 0))), (q3, .inl (cA 0, 80, .inl (fun _ => 0))), (q4, .inl (cA 2, 80, .inl (fun _ => 0))), (q5, .inl (cA 1, 80, .inr (.inl (fun _ => 0))))] := hD
  refine W.widen (k := 5) (n := 344) (Nat.le_of_ble_eq_true rfl) (Nat.le_of_ble_eq_true rfl) ?_
  refine va_putF (D := D) (ci := 2) (v := .ref q5) (ty := tyX2 4) (C := RX2) (T := TX2) (N := 11) hx hb hts (fun w h => dm_hT w (dm_u2 w h)) tyX2 tyX2_ok nmX2 hown hK hP hD hS 0 rfl rfl 4 (by decide) (hts (.fieldLink RX2 26 "CostFlow$Net" "tops" "[J") (dm_hT _ (wI_X2_init _ (List.mem_of_getElem? (i := 10) rfl)))) (fun _ h9 => h9) rfl hin rfl (tyX2_ok 4 (by decide)) rfl rfl (Nat.le_of_ble_eq_true rfl) (ct_d vI_X2_init 21 rfl) (fun H locs hP hD hS => ?_)
  have hP : va_P D dm_cl [(h0, .inr (2, [.ref q1, .ref q2, .ref q3, .ref q4, .ref q5, .null, .null, .null, .int 0, .int 0, .int 0])), (q1, .inl (cA 1, 24, .inr (.inl (fun _ => 0)))), (q2, .inl (cA 0, 80, .inl (fun _ => 0))), (q3, .inl (cA 0, 80, .inl (fun _ => 0))), (q4, .inl (cA 2, 80, .inl (fun _ => 0))), (q5, .inl (cA 1, 80, .inr (.inl (fun _ => 0))))] H := hP
  have hD : va_D A [(h0, .inr (2, [.ref q1, .ref q2, .ref q3, .ref q4, .ref q5, .null, .null, .null, .int 0, .int 0, .int 0])), (q1, .inl (cA 1, 24, .inr (.inl (fun _ => 0)))), (q2, .inl (cA 0, 80, .inl (fun _ => 0))), (q3, .inl (cA 0, 80, .inl (fun _ => 0))), (q4, .inl (cA 2, 80, .inl (fun _ => 0))), (q5, .inl (cA 1, 80, .inr (.inl (fun _ => 0))))] := hD
  refine lv_aload_n hx hb (ct_d vI_X2_init 22 rfl) rfl (lv_at hl 0 rfl) ?_
  refine lv_bipush (v := 80) hx hb (ct_d vI_X2_init 23 rfl) (by decide +kernel) ?_
  refine dm_newa (atype := .int) (ty := .int) (N' := 80) (a0 := (80, .inl (fun _ => 0))) hx hb (hts (.arrayClass .int) (dm_hT _ (wI_X2_init _ (List.mem_of_getElem? (i := 5) rfl)))) rfl 0 rfl (fun _ z => by cases z) hK hP hD hS hA (fun _ => rfl) (by decide) (by decide +kernel) (by decide) (Nat.le_of_ble_eq_true rfl) (Nat.le_of_ble_eq_true rfl) (ct_d vI_X2_init 24 rfl) (fun q6 H hP hD hS => ?_)
  have hP : va_P D dm_cl [(h0, .inr (2, [.ref q1, .ref q2, .ref q3, .ref q4, .ref q5, .null, .null, .null, .int 0, .int 0, .int 0])), (q1, .inl (cA 1, 24, .inr (.inl (fun _ => 0)))), (q2, .inl (cA 0, 80, .inl (fun _ => 0))), (q3, .inl (cA 0, 80, .inl (fun _ => 0))), (q4, .inl (cA 2, 80, .inl (fun _ => 0))), (q5, .inl (cA 1, 80, .inr (.inl (fun _ => 0)))), (q6, .inl (cA 0, 80, .inl (fun _ => 0)))] H := hP
  have hD : va_D A [(h0, .inr (2, [.ref q1, .ref q2, .ref q3, .ref q4, .ref q5, .null, .null, .null, .int 0, .int 0, .int 0])), (q1, .inl (cA 1, 24, .inr (.inl (fun _ => 0)))), (q2, .inl (cA 0, 80, .inl (fun _ => 0))), (q3, .inl (cA 0, 80, .inl (fun _ => 0))), (q4, .inl (cA 2, 80, .inl (fun _ => 0))), (q5, .inl (cA 1, 80, .inr (.inl (fun _ => 0)))), (q6, .inl (cA 0, 80, .inl (fun _ => 0)))] := hD
  refine W.widen (k := 6) (n := 424) (Nat.le_of_ble_eq_true rfl) (Nat.le_of_ble_eq_true rfl) ?_
  refine va_putF (D := D) (ci := 2) (v := .ref q6) (ty := tyX2 5) (C := RX2) (T := TX2) (N := 11) hx hb hts (fun w h => dm_hT w (dm_u2 w h)) tyX2 tyX2_ok nmX2 hown hK hP hD hS 0 rfl rfl 5 (by decide) (hts (.fieldLink RX2 29 "CostFlow$Net" "parts" "[I") (dm_hT _ (wI_X2_init _ (List.mem_of_getElem? (i := 11) rfl)))) (fun _ h9 => h9) rfl hin rfl (tyX2_ok 5 (by decide)) rfl rfl (Nat.le_of_ble_eq_true rfl) (ct_d vI_X2_init 25 rfl) (fun H locs hP hD hS => ?_)
  have hP : va_P D dm_cl [(h0, .inr (2, [.ref q1, .ref q2, .ref q3, .ref q4, .ref q5, .ref q6, .null, .null, .int 0, .int 0, .int 0])), (q1, .inl (cA 1, 24, .inr (.inl (fun _ => 0)))), (q2, .inl (cA 0, 80, .inl (fun _ => 0))), (q3, .inl (cA 0, 80, .inl (fun _ => 0))), (q4, .inl (cA 2, 80, .inl (fun _ => 0))), (q5, .inl (cA 1, 80, .inr (.inl (fun _ => 0)))), (q6, .inl (cA 0, 80, .inl (fun _ => 0)))] H := hP
  have hD : va_D A [(h0, .inr (2, [.ref q1, .ref q2, .ref q3, .ref q4, .ref q5, .ref q6, .null, .null, .int 0, .int 0, .int 0])), (q1, .inl (cA 1, 24, .inr (.inl (fun _ => 0)))), (q2, .inl (cA 0, 80, .inl (fun _ => 0))), (q3, .inl (cA 0, 80, .inl (fun _ => 0))), (q4, .inl (cA 2, 80, .inl (fun _ => 0))), (q5, .inl (cA 1, 80, .inr (.inl (fun _ => 0)))), (q6, .inl (cA 0, 80, .inl (fun _ => 0)))] := hD
  refine lv_aload_n hx hb (ct_d vI_X2_init 26 rfl) rfl (lv_at hl 0 rfl) ?_
  refine lv_sipush (v := 320) hx hb (ct_d vI_X2_init 27 rfl) (by decide +kernel) ?_
  refine dm_newa (atype := .long) (ty := .long) (N' := 320) (a0 := (320, .inr (.inl (fun _ => 0)))) hx hb (hts (.arrayClass .long) (dm_hT _ (wI_X2_init _ (List.mem_of_getElem? (i := 3) rfl)))) rfl 1 rfl (fun _ z => by cases z) hK hP hD hS hA (fun _ => rfl) (by decide) (by decide +kernel) (by decide) (Nat.le_of_ble_eq_true rfl) (Nat.le_of_ble_eq_true rfl) (ct_d vI_X2_init 28 rfl) (fun q7 H hP hD hS => ?_)
  have hP : va_P D dm_cl [(h0, .inr (2, [.ref q1, .ref q2, .ref q3, .ref q4, .ref q5, .ref q6, .null, .null, .int 0, .int 0, .int 0])), (q1, .inl (cA 1, 24, .inr (.inl (fun _ => 0)))), (q2, .inl (cA 0, 80, .inl (fun _ => 0))), (q3, .inl (cA 0, 80, .inl (fun _ => 0))), (q4, .inl (cA 2, 80, .inl (fun _ => 0))), (q5, .inl (cA 1, 80, .inr (.inl (fun _ => 0)))), (q6, .inl (cA 0, 80, .inl (fun _ => 0))), (q7, .inl (cA 1, 320, .inr (.inl (fun _ => 0))))] H := hP
  have hD : va_D A [(h0, .inr (2, [.ref q1, .ref q2, .ref q3, .ref q4, .ref q5, .ref q6, .null, .null, .int 0, .int 0, .int 0])), (q1, .inl (cA 1, 24, .inr (.inl (fun _ => 0)))), (q2, .inl (cA 0, 80, .inl (fun _ => 0))), (q3, .inl (cA 0, 80, .inl (fun _ => 0))), (q4, .inl (cA 2, 80, .inl (fun _ => 0))), (q5, .inl (cA 1, 80, .inr (.inl (fun _ => 0)))), (q6, .inl (cA 0, 80, .inl (fun _ => 0))), (q7, .inl (cA 1, 320, .inr (.inl (fun _ => 0))))] := hD
  refine W.widen (k := 7) (n := 744) (Nat.le_of_ble_eq_true rfl) (Nat.le_of_ble_eq_true rfl) ?_
  refine va_putF (D := D) (ci := 2) (v := .ref q7) (ty := tyX2 6) (C := RX2) (T := TX2) (N := 11) hx hb hts (fun w h => dm_hT w (dm_u2 w h)) tyX2 tyX2_ok nmX2 hown hK hP hD hS 0 rfl rfl 6 (by decide) (hts (.fieldLink RX2 32 "CostFlow$Net" "starts" "[J") (dm_hT _ (wI_X2_init _ (List.mem_of_getElem? (i := 12) rfl)))) (fun _ h9 => h9) rfl hin rfl (tyX2_ok 6 (by decide)) rfl rfl (Nat.le_of_ble_eq_true rfl) (ct_d vI_X2_init 29 rfl) (fun H locs hP hD hS => ?_)
  have hP : va_P D dm_cl [(h0, .inr (2, [.ref q1, .ref q2, .ref q3, .ref q4, .ref q5, .ref q6, .ref q7, .null, .int 0, .int 0, .int 0])), (q1, .inl (cA 1, 24, .inr (.inl (fun _ => 0)))), (q2, .inl (cA 0, 80, .inl (fun _ => 0))), (q3, .inl (cA 0, 80, .inl (fun _ => 0))), (q4, .inl (cA 2, 80, .inl (fun _ => 0))), (q5, .inl (cA 1, 80, .inr (.inl (fun _ => 0)))), (q6, .inl (cA 0, 80, .inl (fun _ => 0))), (q7, .inl (cA 1, 320, .inr (.inl (fun _ => 0))))] H := hP
  have hD : va_D A [(h0, .inr (2, [.ref q1, .ref q2, .ref q3, .ref q4, .ref q5, .ref q6, .ref q7, .null, .int 0, .int 0, .int 0])), (q1, .inl (cA 1, 24, .inr (.inl (fun _ => 0)))), (q2, .inl (cA 0, 80, .inl (fun _ => 0))), (q3, .inl (cA 0, 80, .inl (fun _ => 0))), (q4, .inl (cA 2, 80, .inl (fun _ => 0))), (q5, .inl (cA 1, 80, .inr (.inl (fun _ => 0)))), (q6, .inl (cA 0, 80, .inl (fun _ => 0))), (q7, .inl (cA 1, 320, .inr (.inl (fun _ => 0))))] := hD
  refine lv_aload_n hx hb (ct_d vI_X2_init 30 rfl) rfl (lv_at hl 0 rfl) ?_
  refine lv_sipush (v := 320) hx hb (ct_d vI_X2_init 31 rfl) (by decide +kernel) ?_
  refine dm_newa (atype := .long) (ty := .long) (N' := 320) (a0 := (320, .inr (.inl (fun _ => 0)))) hx hb (hts (.arrayClass .long) (dm_hT _ (wI_X2_init _ (List.mem_of_getElem? (i := 3) rfl)))) rfl 1 rfl (fun _ z => by cases z) hK hP hD hS hA (fun _ => rfl) (by decide) (by decide +kernel) (by decide) (Nat.le_of_ble_eq_true rfl) (Nat.le_of_ble_eq_true rfl) (ct_d vI_X2_init 32 rfl) (fun q8 H hP hD hS => ?_)
  have hP : va_P D dm_cl [(h0, .inr (2, [.ref q1, .ref q2, .ref q3, .ref q4, .ref q5, .ref q6, .ref q7, .null, .int 0, .int 0, .int 0])), (q1, .inl (cA 1, 24, .inr (.inl (fun _ => 0)))), (q2, .inl (cA 0, 80, .inl (fun _ => 0))), (q3, .inl (cA 0, 80, .inl (fun _ => 0))), (q4, .inl (cA 2, 80, .inl (fun _ => 0))), (q5, .inl (cA 1, 80, .inr (.inl (fun _ => 0)))), (q6, .inl (cA 0, 80, .inl (fun _ => 0))), (q7, .inl (cA 1, 320, .inr (.inl (fun _ => 0)))), (q8, .inl (cA 1, 320, .inr (.inl (fun _ => 0))))] H := hP
  have hD : va_D A [(h0, .inr (2, [.ref q1, .ref q2, .ref q3, .ref q4, .ref q5, .ref q6, .ref q7, .null, .int 0, .int 0, .int 0])), (q1, .inl (cA 1, 24, .inr (.inl (fun _ => 0)))), (q2, .inl (cA 0, 80, .inl (fun _ => 0))), (q3, .inl (cA 0, 80, .inl (fun _ => 0))), (q4, .inl (cA 2, 80, .inl (fun _ => 0))), (q5, .inl (cA 1, 80, .inr (.inl (fun _ => 0)))), (q6, .inl (cA 0, 80, .inl (fun _ => 0))), (q7, .inl (cA 1, 320, .inr (.inl (fun _ => 0)))), (q8, .inl (cA 1, 320, .inr (.inl (fun _ => 0))))] := hD
  refine W.widen (k := 8) (n := 1064) (Nat.le_of_ble_eq_true rfl) (Nat.le_of_ble_eq_true rfl) ?_
  refine va_putF (D := D) (ci := 2) (v := .ref q8) (ty := tyX2 7) (C := RX2) (T := TX2) (N := 11) hx hb hts (fun w h => dm_hT w (dm_u2 w h)) tyX2 tyX2_ok nmX2 hown hK hP hD hS 0 rfl rfl 7 (by decide) (hts (.fieldLink RX2 35 "CostFlow$Net" "rates" "[J") (dm_hT _ (wI_X2_init _ (List.mem_of_getElem? (i := 13) rfl)))) (fun _ h9 => h9) rfl hin rfl (tyX2_ok 7 (by decide)) rfl rfl (Nat.le_of_ble_eq_true rfl) (ct_d vI_X2_init 33 rfl) (fun H locs hP hD hS => ?_)
  have hP : va_P D dm_cl [(h0, .inr (2, [.ref q1, .ref q2, .ref q3, .ref q4, .ref q5, .ref q6, .ref q7, .ref q8, .int 0, .int 0, .int 0])), (q1, .inl (cA 1, 24, .inr (.inl (fun _ => 0)))), (q2, .inl (cA 0, 80, .inl (fun _ => 0))), (q3, .inl (cA 0, 80, .inl (fun _ => 0))), (q4, .inl (cA 2, 80, .inl (fun _ => 0))), (q5, .inl (cA 1, 80, .inr (.inl (fun _ => 0)))), (q6, .inl (cA 0, 80, .inl (fun _ => 0))), (q7, .inl (cA 1, 320, .inr (.inl (fun _ => 0)))), (q8, .inl (cA 1, 320, .inr (.inl (fun _ => 0))))] H := hP
  have hD : va_D A [(h0, .inr (2, [.ref q1, .ref q2, .ref q3, .ref q4, .ref q5, .ref q6, .ref q7, .ref q8, .int 0, .int 0, .int 0])), (q1, .inl (cA 1, 24, .inr (.inl (fun _ => 0)))), (q2, .inl (cA 0, 80, .inl (fun _ => 0))), (q3, .inl (cA 0, 80, .inl (fun _ => 0))), (q4, .inl (cA 2, 80, .inl (fun _ => 0))), (q5, .inl (cA 1, 80, .inr (.inl (fun _ => 0)))), (q6, .inl (cA 0, 80, .inl (fun _ => 0))), (q7, .inl (cA 1, 320, .inr (.inl (fun _ => 0)))), (q8, .inl (cA 1, 320, .inr (.inl (fun _ => 0))))] := hD
  refine W.widen (k := 8) (n := 1064) (Nat.le_of_ble_eq_true rfl) (Nat.le_of_ble_eq_true rfl) ?_
  exact W.vret hx hb hr (fun t ht hW => ⟨⟨(), rfl, trivial, fun i => [0, q1, q2, q3, q4, q5, q6, q7, q8].getD i 0, by rw [ht]; exact hP, va_K.moved hW.alike hK, hD⟩, hS.F ht⟩) hS.2.2 (ct_d vI_X2_init 34 rfl)
def pI_X1_init : List (Nat × Instr × Nat) := [(0, .aload_n 0, 1), (1, .invokespecial 3, 3), (4, .aload_n 0, 1), (5, .bipush 81, 2), (7, .newarray .int, 2), (9, .putfield 9, 3), (12, .aload_n 0, 1), (13, .sipush 320, 3), (16, .newarray .int, 2), (18, .putfield 15, 3), (21, .aload_n 0, 1), (22, .sipush 320, 3), (25, .newarray .int, 2), (27, .putfield 18, 3), (30, .aload_n 0, 1), (31, .sipush 320, 3), (34, .newarray .long, 2), (36, .putfield 21, 3), (39, .aload_n 0, 1), (40, .sipush 320, 3), (43, .newarray .long, 2), (45, .putfield 25, 3), (48, .aload_n 0, 1), (49, .sipush 320, 3), (52, .newarray .long, 2), (54, .putfield 28, 3), (57, .aload_n 0, 1), (58, .bipush 24, 2), (60, .newarray .long, 2), (62, .putfield 31, 3), (65, .aload_n 0, 1), (66, .bipush 25, 2), (68, .newarray .int, 2), (70, .putfield 34, 3), (73, .aload_n 0, 1), (74, .sipush 640, 3), (77, .newarray .int, 2), (79, .putfield 37, 3), (82, .aload_n 0, 1), (83, .aload_n 1, 1), (84, .putfield 40, 3), (87, .return_, 1)]
set_option maxRecDepth 100000 in
theorem vI_X1_init : pI_X1_init.all (fun q => decide (decode cX1_init q.1 = .ok (q.2.1, q.2.2))) = true := by decide +kernel
set_option maxRecDepth 100000 in
theorem wI_X1_init : ∀ w ∈ ([.methodLink RX1 3 objectInit, .instanceMethod objectInit, .code objectInit ⟨#[0xb1]⟩ 1 none, .arrayClass .int, .fieldLink RX1 9 "CostFlow$Lanes" "firsts" "[I", .fieldLink RX1 15 "CostFlow$Lanes" "begins" "[I", .fieldLink RX1 18 "CostFlow$Lanes" "ends" "[I", .arrayClass .long, .fieldLink RX1 21 "CostFlow$Lanes" "widths" "[J", .fieldLink RX1 25 "CostFlow$Lanes" "rates" "[J", .fieldLink RX1 28 "CostFlow$Lanes" "loads" "[J", .fieldLink RX1 31 "CostFlow$Lanes" "excess" "[J", .fieldLink RX1 34 "CostFlow$Lanes" "heads" "[I", .fieldLink RX1 37 "CostFlow$Lanes" "sorted" "[I", .fieldLink RX1 40 "CostFlow$Lanes" "net" "LCostFlow$Net;"] : List Cond), w ∈ dm_tt := dm_mem [168, 87, 88, 161, 170, 174, 176, 160, 178, 180, 182, 185, 188, 191, 169] (by decide +kernel) (by decide +kernel)
set_option maxRecDepth 100000 in
theorem wg_X1_init : ∀ w ∈ (Cond.code yX1_init cX1_init 2 none :: dm_tt), w ∈ dm_tt := fun w h => by
  rcases List.mem_cons.mp h with rfl | h
  · exact dm_mem (ws := [.code yX1_init cX1_init 2 none]) [167] (by decide +kernel) (by decide +kernel) _ List.mem_cons_self
  · exact h
theorem bl_X1 : ∀ j, j < 11 → defaultValue (tyX1 j) = vp_V [.null, .null, .null, .null, .null, .null, .null, .null, .null, .null, .int 0] j := by decide
set_option maxHeartbeats 4000000 in
set_option maxRecDepth 100000 in
theorem c_X1_init (l : Launch) (D : va_G) (cA : Nat → ClassId) (h0 a1 : Nat) (sz : Nat) : Met l yX1_init (Cond.code yX1_init cX1_init 2 none :: dm_tt) ({ frames := 1, cells := 9, slots := 2370, locals := 12 } : Room) (va_Pc [.ref h0, .ref a1] (fun U => U.heap.size = sz ∧ va_P D dm_cl [(h0, .inr (1, [.null, .null, .null, .null, .null, .null, .null, .null, .null, .null, .int 0]))] U.heap ∧ va_K D dm_cl (dm_tys cA) U ∧ va_D (fun _ => True) [(h0, .inr (1, [.null, .null, .null, .null, .null, .null, .null, .null, .null, .null, .int 0]))])) (va_Qv (fun _ : Unit => True) (fun _ t => ∃ g : Nat → Nat, va_P D dm_cl [(h0, .inr (1, [.ref a1, .ref (g 1), .ref (g 2), .ref (g 3), .ref (g 4), .ref (g 5), .ref (g 6), .ref (g 7), .ref (g 8), .ref (g 9), .int 0])), (g 1, .inl (cA 0, 81, .inl (fun _ => 0))), (g 2, .inl (cA 0, 320, .inl (fun _ => 0))), (g 3, .inl (cA 0, 320, .inl (fun _ => 0))), (g 4, .inl (cA 1, 320, .inr (.inl (fun _ => 0)))), (g 5, .inl (cA 1, 320, .inr (.inl (fun _ => 0)))), (g 6, .inl (cA 1, 320, .inr (.inl (fun _ => 0)))), (g 7, .inl (cA 1, 24, .inr (.inl (fun _ => 0)))), (g 8, .inl (cA 0, 25, .inl (fun _ => 0))), (g 9, .inl (cA 0, 640, .inl (fun _ => 0)))] t.heap ∧ va_K D dm_cl (dm_tys cA) t ∧ va_D (va_A [(h0, .inr (1, [.null, .null, .null, .null, .null, .null, .null, .null, .null, .null, .int 0]))] sz) [(h0, .inr (1, [.ref a1, .ref (g 1), .ref (g 2), .ref (g 3), .ref (g 4), .ref (g 5), .ref (g 6), .ref (g 7), .ref (g 8), .ref (g 9), .int 0])), (g 1, .inl (cA 0, 81, .inl (fun _ => 0))), (g 2, .inl (cA 0, 320, .inl (fun _ => 0))), (g 3, .inl (cA 0, 320, .inl (fun _ => 0))), (g 4, .inl (cA 1, 320, .inr (.inl (fun _ => 0)))), (g 5, .inl (cA 1, 320, .inr (.inl (fun _ => 0)))), (g 6, .inl (cA 1, 320, .inr (.inl (fun _ => 0)))), (g 7, .inl (cA 1, 24, .inr (.inl (fun _ => 0)))), (g 8, .inl (cA 0, 25, .inl (fun _ => 0))), (g 9, .inl (cA 0, 640, .inl (fun _ => 0)))]) (va_A [(h0, .inr (1, [.null, .null, .null, .null, .null, .null, .null, .null, .null, .null, .int 0]))] sz)) 9 2370 (va_A [(h0, .inr (1, [.null, .null, .null, .null, .null, .null, .null, .null, .null, .null, .int 0]))] sz) := by
  refine Met.ofW (cc := cX1_init) (maxL := 2) (ret := none) (by decide) rfl ?_
  intro p e s m args below meth c s₁ B hml hv
  obtain ⟨rfl, hsz, hP, hK, hD0⟩ := hv
  have hx := B.exec
  have hb := B.bytes
  have hr := B.returns
  have hts := atoms_spec (ws := Cond.code yX1_init cX1_init 2 none :: dm_tt) B.pre
  have hown : s.vm.findClass RX1 = some m.cls := findClass_of_methodNamed B.named
  have hlocks := B.notSynchronized
  have hin : meth.name = "<init>" := (name_of_methodNamed B.named B.method).1
  subst hsz
  have hD := hD0.self (sz := s.heap.size)
  generalize hAe : va_A [(h0, .inr (1, [.null, .null, .null, .null, .null, .null, .null, .null, .null, .null, .int 0]))] s.heap.size = A at hD ⊢
  have hA : ∀ q : Nat, s.heap.size ≤ q → A q := fun q h => by rw [← hAe]; exact Or.inr h
  have hS : va_S A s.heap s.heap [] := va_S.rf
  have hP : va_P D dm_cl [(h0, .inr (1, [.null, .null, .null, .null, .null, .null, .null, .null, .null, .null, .int 0]))] s.heap := hP
  have hl := lv_entry ([.ref h0, .ref a1]) (n := 2) (Nat.le_of_ble_eq_true rfl)
  rw [lg_entry_eq]
  generalize (lg_sl ([.ref h0, .ref a1]) ++ List.replicate (2 - (lg_sl ([.ref h0, .ref a1])).length) Slot.unset).toArray = ls at hl ⊢
  have hl : lv_has ls 2 [(0, .ref h0), (1, .ref a1)] := hl
  refine lv_aload_n hx hb (ct_d vI_X1_init 0 rfl) rfl (lv_at hl 0 rfl) ?_
  refine W.objInit hx hb hown (hts (.methodLink RX1 3 objectInit) (dm_hT _ (wI_X1_init _ (List.mem_of_getElem? (i := 0) rfl)))) (hts (.instanceMethod objectInit) (dm_hT _ (wI_X1_init _ (List.mem_of_getElem? (i := 1) rfl)))) (hts (.code objectInit ⟨#[0xb1]⟩ 1 none) (dm_hT _ (wI_X1_init _ (List.mem_of_getElem? (i := 2) rfl)))) rfl (by rw [hml]; exact hl.1) rfl (ct_d vI_X1_init 1 rfl) (Nat.le_of_ble_eq_true rfl) (Nat.le_of_ble_eq_true rfl) ?_
  refine W.eq (g2 := F0 m 4 ls []) rfl ?_
  refine lv_aload_n hx hb (ct_d vI_X1_init 2 rfl) rfl (lv_at hl 0 rfl) ?_
  refine lv_bipush (v := 81) hx hb (ct_d vI_X1_init 3 rfl) (by decide +kernel) ?_
  refine dm_newa (atype := .int) (ty := .int) (N' := 81) (a0 := (81, .inl (fun _ => 0))) hx hb (hts (.arrayClass .int) (dm_hT _ (wI_X1_init _ (List.mem_of_getElem? (i := 3) rfl)))) rfl 0 rfl (fun _ z => by cases z) hK hP hD hS hA (fun _ => rfl) (by decide) (by decide +kernel) (by decide) (Nat.le_of_ble_eq_true rfl) (Nat.le_of_ble_eq_true rfl) (ct_d vI_X1_init 4 rfl) (fun q1 H hP hD hS => ?_)
  have hP : va_P D dm_cl [(h0, .inr (1, [.null, .null, .null, .null, .null, .null, .null, .null, .null, .null, .int 0])), (q1, .inl (cA 0, 81, .inl (fun _ => 0)))] H := hP
  have hD : va_D A [(h0, .inr (1, [.null, .null, .null, .null, .null, .null, .null, .null, .null, .null, .int 0])), (q1, .inl (cA 0, 81, .inl (fun _ => 0)))] := hD
  refine W.widen (k := 1) (n := 81) (Nat.le_of_ble_eq_true rfl) (Nat.le_of_ble_eq_true rfl) ?_
  refine va_putF (D := D) (ci := 1) (v := .ref q1) (ty := tyX1 1) (C := RX1) (T := TX1) (N := 11) hx hb hts (fun w h => dm_hT w (dm_u1 w h)) tyX1 tyX1_ok nmX1 hown hK hP hD hS 0 rfl rfl 1 (by decide) (hts (.fieldLink RX1 9 "CostFlow$Lanes" "firsts" "[I") (dm_hT _ (wI_X1_init _ (List.mem_of_getElem? (i := 4) rfl)))) (fun _ h9 => h9) rfl hin rfl (tyX1_ok 1 (by decide)) rfl rfl (Nat.le_of_ble_eq_true rfl) (ct_d vI_X1_init 5 rfl) (fun H locs hP hD hS => ?_)
  have hP : va_P D dm_cl [(h0, .inr (1, [.null, .ref q1, .null, .null, .null, .null, .null, .null, .null, .null, .int 0])), (q1, .inl (cA 0, 81, .inl (fun _ => 0)))] H := hP
  have hD : va_D A [(h0, .inr (1, [.null, .ref q1, .null, .null, .null, .null, .null, .null, .null, .null, .int 0])), (q1, .inl (cA 0, 81, .inl (fun _ => 0)))] := hD
  refine lv_aload_n hx hb (ct_d vI_X1_init 6 rfl) rfl (lv_at hl 0 rfl) ?_
  refine lv_sipush (v := 320) hx hb (ct_d vI_X1_init 7 rfl) (by decide +kernel) ?_
  refine dm_newa (atype := .int) (ty := .int) (N' := 320) (a0 := (320, .inl (fun _ => 0))) hx hb (hts (.arrayClass .int) (dm_hT _ (wI_X1_init _ (List.mem_of_getElem? (i := 3) rfl)))) rfl 0 rfl (fun _ z => by cases z) hK hP hD hS hA (fun _ => rfl) (by decide) (by decide +kernel) (by decide) (Nat.le_of_ble_eq_true rfl) (Nat.le_of_ble_eq_true rfl) (ct_d vI_X1_init 8 rfl) (fun q2 H hP hD hS => ?_)
  have hP : va_P D dm_cl [(h0, .inr (1, [.null, .ref q1, .null, .null, .null, .null, .null, .null, .null, .null, .int 0])), (q1, .inl (cA 0, 81, .inl (fun _ => 0))), (q2, .inl (cA 0, 320, .inl (fun _ => 0)))] H := hP
  have hD : va_D A [(h0, .inr (1, [.null, .ref q1, .null, .null, .null, .null, .null, .null, .null, .null, .int 0])), (q1, .inl (cA 0, 81, .inl (fun _ => 0))), (q2, .inl (cA 0, 320, .inl (fun _ => 0)))] := hD
  refine W.widen (k := 2) (n := 401) (Nat.le_of_ble_eq_true rfl) (Nat.le_of_ble_eq_true rfl) ?_
  refine va_putF (D := D) (ci := 1) (v := .ref q2) (ty := tyX1 2) (C := RX1) (T := TX1) (N := 11) hx hb hts (fun w h => dm_hT w (dm_u1 w h)) tyX1 tyX1_ok nmX1 hown hK hP hD hS 0 rfl rfl 2 (by decide) (hts (.fieldLink RX1 15 "CostFlow$Lanes" "begins" "[I") (dm_hT _ (wI_X1_init _ (List.mem_of_getElem? (i := 5) rfl)))) (fun _ h9 => h9) rfl hin rfl (tyX1_ok 2 (by decide)) rfl rfl (Nat.le_of_ble_eq_true rfl) (ct_d vI_X1_init 9 rfl) (fun H locs hP hD hS => ?_)
  have hP : va_P D dm_cl [(h0, .inr (1, [.null, .ref q1, .ref q2, .null, .null, .null, .null, .null, .null, .null, .int 0])), (q1, .inl (cA 0, 81, .inl (fun _ => 0))), (q2, .inl (cA 0, 320, .inl (fun _ => 0)))] H := hP
  have hD : va_D A [(h0, .inr (1, [.null, .ref q1, .ref q2, .null, .null, .null, .null, .null, .null, .null, .int 0])), (q1, .inl (cA 0, 81, .inl (fun _ => 0))), (q2, .inl (cA 0, 320, .inl (fun _ => 0)))] := hD
  refine lv_aload_n hx hb (ct_d vI_X1_init 10 rfl) rfl (lv_at hl 0 rfl) ?_
  refine lv_sipush (v := 320) hx hb (ct_d vI_X1_init 11 rfl) (by decide +kernel) ?_
  refine dm_newa (atype := .int) (ty := .int) (N' := 320) (a0 := (320, .inl (fun _ => 0))) hx hb (hts (.arrayClass .int) (dm_hT _ (wI_X1_init _ (List.mem_of_getElem? (i := 3) rfl)))) rfl 0 rfl (fun _ z => by cases z) hK hP hD hS hA (fun _ => rfl) (by decide) (by decide +kernel) (by decide) (Nat.le_of_ble_eq_true rfl) (Nat.le_of_ble_eq_true rfl) (ct_d vI_X1_init 12 rfl) (fun q3 H hP hD hS => ?_)
  have hP : va_P D dm_cl [(h0, .inr (1, [.null, .ref q1, .ref q2, .null, .null, .null, .null, .null, .null, .null, .int 0])), (q1, .inl (cA 0, 81, .inl (fun _ => 0))), (q2, .inl (cA 0, 320, .inl (fun _ => 0))), (q3, .inl (cA 0, 320, .inl (fun _ => 0)))] H := hP
  have hD : va_D A [(h0, .inr (1, [.null, .ref q1, .ref q2, .null, .null, .null, .null, .null, .null, .null, .int 0])), (q1, .inl (cA 0, 81, .inl (fun _ => 0))), (q2, .inl (cA 0, 320, .inl (fun _ => 0))), (q3, .inl (cA 0, 320, .inl (fun _ => 0)))] := hD
  refine W.widen (k := 3) (n := 721) (Nat.le_of_ble_eq_true rfl) (Nat.le_of_ble_eq_true rfl) ?_
  refine va_putF (D := D) (ci := 1) (v := .ref q3) (ty := tyX1 3) (C := RX1) (T := TX1) (N := 11) hx hb hts (fun w h => dm_hT w (dm_u1 w h)) tyX1 tyX1_ok nmX1 hown hK hP hD hS 0 rfl rfl 3 (by decide) (hts (.fieldLink RX1 18 "CostFlow$Lanes" "ends" "[I") (dm_hT _ (wI_X1_init _ (List.mem_of_getElem? (i := 6) rfl)))) (fun _ h9 => h9) rfl hin rfl (tyX1_ok 3 (by decide)) rfl rfl (Nat.le_of_ble_eq_true rfl) (ct_d vI_X1_init 13 rfl) (fun H locs hP hD hS => ?_)
  have hP : va_P D dm_cl [(h0, .inr (1, [.null, .ref q1, .ref q2, .ref q3, .null, .null, .null, .null, .null, .null, .int 0])), (q1, .inl (cA 0, 81, .inl (fun _ => 0))), (q2, .inl (cA 0, 320, .inl (fun _ => 0))), (q3, .inl (cA 0, 320, .inl (fun _ => 0)))] H := hP
  have hD : va_D A [(h0, .inr (1, [.null, .ref q1, .ref q2, .ref q3, .null, .null, .null, .null, .null, .null, .int 0])), (q1, .inl (cA 0, 81, .inl (fun _ => 0))), (q2, .inl (cA 0, 320, .inl (fun _ => 0))), (q3, .inl (cA 0, 320, .inl (fun _ => 0)))] := hD
  refine lv_aload_n hx hb (ct_d vI_X1_init 14 rfl) rfl (lv_at hl 0 rfl) ?_
  refine lv_sipush (v := 320) hx hb (ct_d vI_X1_init 15 rfl) (by decide +kernel) ?_
  refine dm_newa (atype := .long) (ty := .long) (N' := 320) (a0 := (320, .inr (.inl (fun _ => 0)))) hx hb (hts (.arrayClass .long) (dm_hT _ (wI_X1_init _ (List.mem_of_getElem? (i := 7) rfl)))) rfl 1 rfl (fun _ z => by cases z) hK hP hD hS hA (fun _ => rfl) (by decide) (by decide +kernel) (by decide) (Nat.le_of_ble_eq_true rfl) (Nat.le_of_ble_eq_true rfl) (ct_d vI_X1_init 16 rfl) (fun q4 H hP hD hS => ?_)
  have hP : va_P D dm_cl [(h0, .inr (1, [.null, .ref q1, .ref q2, .ref q3, .null, .null, .null, .null, .null, .null, .int 0])), (q1, .inl (cA 0, 81, .inl (fun _ => 0))), (q2, .inl (cA 0, 320, .inl (fun _ => 0))), (q3, .inl (cA 0, 320, .inl (fun _ => 0))), (q4, .inl (cA 1, 320, .inr (.inl (fun _ => 0))))] H := hP
  have hD : va_D A [(h0, .inr (1, [.null, .ref q1, .ref q2, .ref q3, .null, .null, .null, .null, .null, .null, .int 0])), (q1, .inl (cA 0, 81, .inl (fun _ => 0))), (q2, .inl (cA 0, 320, .inl (fun _ => 0))), (q3, .inl (cA 0, 320, .inl (fun _ => 0))), (q4, .inl (cA 1, 320, .inr (.inl (fun _ => 0))))] := hD
  refine W.widen (k := 4) (n := 1041) (Nat.le_of_ble_eq_true rfl) (Nat.le_of_ble_eq_true rfl) ?_
  refine va_putF (D := D) (ci := 1) (v := .ref q4) (ty := tyX1 4) (C := RX1) (T := TX1) (N := 11) hx hb hts (fun w h => dm_hT w (dm_u1 w h)) tyX1 tyX1_ok nmX1 hown hK hP hD hS 0 rfl rfl 4 (by decide) (hts (.fieldLink RX1 21 "CostFlow$Lanes" "widths" "[J") (dm_hT _ (wI_X1_init _ (List.mem_of_getElem? (i := 8) rfl)))) (fun _ h9 => h9) rfl hin rfl (tyX1_ok 4 (by decide)) rfl rfl (Nat.le_of_ble_eq_true rfl) (ct_d vI_X1_init 17 rfl) (fun H locs hP hD hS => ?_)
  have hP : va_P D dm_cl [(h0, .inr (1, [.null, .ref q1, .ref q2, .ref q3, .ref q4, .null, .null, .null, .null, .null, .int 0])), (q1, .inl (cA 0, 81, .inl (fun _ => 0))), (q2, .inl (cA 0, 320, .inl (fun _ => 0))), (q3, .inl (cA 0, 320, .inl (fun _ => 0))), (q4, .inl (cA 1, 320, .inr (.inl (fun _ => 0))))] H := hP
  have hD : va_D A [(h0, .inr (1, [.null, .ref q1, .ref q2, .ref q3, .ref q4, .null, .null, .null, .null, .null, .int 0])), (q1, .inl (cA 0, 81, .inl (fun _ => 0))), (q2, .inl (cA 0, 320, .inl (fun _ => 0))), (q3, .inl (cA 0, 320, .inl (fun _ => 0))), (q4, .inl (cA 1, 320, .inr (.inl (fun _ => 0))))] := hD
  refine lv_aload_n hx hb (ct_d vI_X1_init 18 rfl) rfl (lv_at hl 0 rfl) ?_
  refine lv_sipush (v := 320) hx hb (ct_d vI_X1_init 19 rfl) (by decide +kernel) ?_
  refine dm_newa (atype := .long) (ty := .long) (N' := 320) (a0 := (320, .inr (.inl (fun _ => 0)))) hx hb (hts (.arrayClass .long) (dm_hT _ (wI_X1_init _ (List.mem_of_getElem? (i := 7) rfl)))) rfl 1 rfl (fun _ z => by cases z) hK hP hD hS hA (fun _ => rfl) (by decide) (by decide +kernel) (by decide) (Nat.le_of_ble_eq_true rfl) (Nat.le_of_ble_eq_true rfl) (ct_d vI_X1_init 20 rfl) (fun q5 H hP hD hS => ?_)
  have hP : va_P D dm_cl [(h0, .inr (1, [.null, .ref q1, .ref q2, .ref q3, .ref q4, .null, .null, .null, .null, .null, .int 0])), (q1, .inl (cA 0, 81, .inl (fun _ => 0))), (q2, .inl (cA 0, 320, .inl (fun _ => 0))), (q3, .inl (cA 0, 320, .inl (fun _ => 0))), (q4, .inl (cA 1, 320, .inr (.inl (fun _ => 0)))), (q5, .inl (cA 1, 320, .inr (.inl (fun _ => 0))))] H := hP
  have hD : va_D A [(h0, .inr (1, [.null, .ref q1, .ref q2, .ref q3, .ref q4, .null, .null, .null, .null, .null, .int 0])), (q1, .inl (cA 0, 81, .inl (fun _ => 0))), (q2, .inl (cA 0, 320, .inl (fun _ => 0))), (q3, .inl (cA 0, 320, .inl (fun _ => 0))), (q4, .inl (cA 1, 320, .inr (.inl (fun _ => 0)))), (q5, .inl (cA 1, 320, .inr (.inl (fun _ => 0))))] := hD
  refine W.widen (k := 5) (n := 1361) (Nat.le_of_ble_eq_true rfl) (Nat.le_of_ble_eq_true rfl) ?_
  refine va_putF (D := D) (ci := 1) (v := .ref q5) (ty := tyX1 5) (C := RX1) (T := TX1) (N := 11) hx hb hts (fun w h => dm_hT w (dm_u1 w h)) tyX1 tyX1_ok nmX1 hown hK hP hD hS 0 rfl rfl 5 (by decide) (hts (.fieldLink RX1 25 "CostFlow$Lanes" "rates" "[J") (dm_hT _ (wI_X1_init _ (List.mem_of_getElem? (i := 9) rfl)))) (fun _ h9 => h9) rfl hin rfl (tyX1_ok 5 (by decide)) rfl rfl (Nat.le_of_ble_eq_true rfl) (ct_d vI_X1_init 21 rfl) (fun H locs hP hD hS => ?_)
  have hP : va_P D dm_cl [(h0, .inr (1, [.null, .ref q1, .ref q2, .ref q3, .ref q4, .ref q5, .null, .null, .null, .null, .int 0])), (q1, .inl (cA 0, 81, .inl (fun _ => 0))), (q2, .inl (cA 0, 320, .inl (fun _ => 0))), (q3, .inl (cA 0, 320, .inl (fun _ => 0))), (q4, .inl (cA 1, 320, .inr (.inl (fun _ => 0)))), (q5, .inl (cA 1, 320, .inr (.inl (fun _ => 0))))] H := hP
  have hD : va_D A [(h0, .inr (1, [.null, .ref q1, .ref q2, .ref q3, .ref q4, .ref q5, .null, .null, .null, .null, .int 0])), (q1, .inl (cA 0, 81, .inl (fun _ => 0))), (q2, .inl (cA 0, 320, .inl (fun _ => 0))), (q3, .inl (cA 0, 320, .inl (fun _ => 0))), (q4, .inl (cA 1, 320, .inr (.inl (fun _ => 0)))), (q5, .inl (cA 1, 320, .inr (.inl (fun _ => 0))))] := hD
  refine lv_aload_n hx hb (ct_d vI_X1_init 22 rfl) rfl (lv_at hl 0 rfl) ?_
  refine lv_sipush (v := 320) hx hb (ct_d vI_X1_init 23 rfl) (by decide +kernel) ?_
  refine dm_newa (atype := .long) (ty := .long) (N' := 320) (a0 := (320, .inr (.inl (fun _ => 0)))) hx hb (hts (.arrayClass .long) (dm_hT _ (wI_X1_init _ (List.mem_of_getElem? (i := 7) rfl)))) rfl 1 rfl (fun _ z => by cases z) hK hP hD hS hA (fun _ => rfl) (by decide) (by decide +kernel) (by decide) (Nat.le_of_ble_eq_true rfl) (Nat.le_of_ble_eq_true rfl) (ct_d vI_X1_init 24 rfl) (fun q6 H hP hD hS => ?_)
  have hP : va_P D dm_cl [(h0, .inr (1, [.null, .ref q1, .ref q2, .ref q3, .ref q4, .ref q5, .null, .null, .null, .null, .int 0])), (q1, .inl (cA 0, 81, .inl (fun _ => 0))), (q2, .inl (cA 0, 320, .inl (fun _ => 0))), (q3, .inl (cA 0, 320, .inl (fun _ => 0))), (q4, .inl (cA 1, 320, .inr (.inl (fun _ => 0)))), (q5, .inl (cA 1, 320, .inr (.inl (fun _ => 0)))), (q6, .inl (cA 1, 320, .inr (.inl (fun _ => 0))))] H := hP
  have hD : va_D A [(h0, .inr (1, [.null, .ref q1, .ref q2, .ref q3, .ref q4, .ref q5, .null, .null, .null, .null, .int 0])), (q1, .inl (cA 0, 81, .inl (fun _ => 0))), (q2, .inl (cA 0, 320, .inl (fun _ => 0))), (q3, .inl (cA 0, 320, .inl (fun _ => 0))), (q4, .inl (cA 1, 320, .inr (.inl (fun _ => 0)))), (q5, .inl (cA 1, 320, .inr (.inl (fun _ => 0)))), (q6, .inl (cA 1, 320, .inr (.inl (fun _ => 0))))] := hD
  refine W.widen (k := 6) (n := 1681) (Nat.le_of_ble_eq_true rfl) (Nat.le_of_ble_eq_true rfl) ?_
  refine va_putF (D := D) (ci := 1) (v := .ref q6) (ty := tyX1 6) (C := RX1) (T := TX1) (N := 11) hx hb hts (fun w h => dm_hT w (dm_u1 w h)) tyX1 tyX1_ok nmX1 hown hK hP hD hS 0 rfl rfl 6 (by decide) (hts (.fieldLink RX1 28 "CostFlow$Lanes" "loads" "[J") (dm_hT _ (wI_X1_init _ (List.mem_of_getElem? (i := 10) rfl)))) (fun _ h9 => h9) rfl hin rfl (tyX1_ok 6 (by decide)) rfl rfl (Nat.le_of_ble_eq_true rfl) (ct_d vI_X1_init 25 rfl) (fun H locs hP hD hS => ?_)
  have hP : va_P D dm_cl [(h0, .inr (1, [.null, .ref q1, .ref q2, .ref q3, .ref q4, .ref q5, .ref q6, .null, .null, .null, .int 0])), (q1, .inl (cA 0, 81, .inl (fun _ => 0))), (q2, .inl (cA 0, 320, .inl (fun _ => 0))), (q3, .inl (cA 0, 320, .inl (fun _ => 0))), (q4, .inl (cA 1, 320, .inr (.inl (fun _ => 0)))), (q5, .inl (cA 1, 320, .inr (.inl (fun _ => 0)))), (q6, .inl (cA 1, 320, .inr (.inl (fun _ => 0))))] H := hP
  have hD : va_D A [(h0, .inr (1, [.null, .ref q1, .ref q2, .ref q3, .ref q4, .ref q5, .ref q6, .null, .null, .null, .int 0])), (q1, .inl (cA 0, 81, .inl (fun _ => 0))), (q2, .inl (cA 0, 320, .inl (fun _ => 0))), (q3, .inl (cA 0, 320, .inl (fun _ => 0))), (q4, .inl (cA 1, 320, .inr (.inl (fun _ => 0)))), (q5, .inl (cA 1, 320, .inr (.inl (fun _ => 0)))), (q6, .inl (cA 1, 320, .inr (.inl (fun _ => 0))))] := hD
  refine lv_aload_n hx hb (ct_d vI_X1_init 26 rfl) rfl (lv_at hl 0 rfl) ?_
  refine lv_bipush (v := 24) hx hb (ct_d vI_X1_init 27 rfl) (by decide +kernel) ?_
  refine dm_newa (atype := .long) (ty := .long) (N' := 24) (a0 := (24, .inr (.inl (fun _ => 0)))) hx hb (hts (.arrayClass .long) (dm_hT _ (wI_X1_init _ (List.mem_of_getElem? (i := 7) rfl)))) rfl 1 rfl (fun _ z => by cases z) hK hP hD hS hA (fun _ => rfl) (by decide) (by decide +kernel) (by decide) (Nat.le_of_ble_eq_true rfl) (Nat.le_of_ble_eq_true rfl) (ct_d vI_X1_init 28 rfl) (fun q7 H hP hD hS => ?_)
  have hP : va_P D dm_cl [(h0, .inr (1, [.null, .ref q1, .ref q2, .ref q3, .ref q4, .ref q5, .ref q6, .null, .null, .null, .int 0])), (q1, .inl (cA 0, 81, .inl (fun _ => 0))), (q2, .inl (cA 0, 320, .inl (fun _ => 0))), (q3, .inl (cA 0, 320, .inl (fun _ => 0))), (q4, .inl (cA 1, 320, .inr (.inl (fun _ => 0)))), (q5, .inl (cA 1, 320, .inr (.inl (fun _ => 0)))), (q6, .inl (cA 1, 320, .inr (.inl (fun _ => 0)))), (q7, .inl (cA 1, 24, .inr (.inl (fun _ => 0))))] H := hP
  have hD : va_D A [(h0, .inr (1, [.null, .ref q1, .ref q2, .ref q3, .ref q4, .ref q5, .ref q6, .null, .null, .null, .int 0])), (q1, .inl (cA 0, 81, .inl (fun _ => 0))), (q2, .inl (cA 0, 320, .inl (fun _ => 0))), (q3, .inl (cA 0, 320, .inl (fun _ => 0))), (q4, .inl (cA 1, 320, .inr (.inl (fun _ => 0)))), (q5, .inl (cA 1, 320, .inr (.inl (fun _ => 0)))), (q6, .inl (cA 1, 320, .inr (.inl (fun _ => 0)))), (q7, .inl (cA 1, 24, .inr (.inl (fun _ => 0))))] := hD
  refine W.widen (k := 7) (n := 1705) (Nat.le_of_ble_eq_true rfl) (Nat.le_of_ble_eq_true rfl) ?_
  refine va_putF (D := D) (ci := 1) (v := .ref q7) (ty := tyX1 7) (C := RX1) (T := TX1) (N := 11) hx hb hts (fun w h => dm_hT w (dm_u1 w h)) tyX1 tyX1_ok nmX1 hown hK hP hD hS 0 rfl rfl 7 (by decide) (hts (.fieldLink RX1 31 "CostFlow$Lanes" "excess" "[J") (dm_hT _ (wI_X1_init _ (List.mem_of_getElem? (i := 11) rfl)))) (fun _ h9 => h9) rfl hin rfl (tyX1_ok 7 (by decide)) rfl rfl (Nat.le_of_ble_eq_true rfl) (ct_d vI_X1_init 29 rfl) (fun H locs hP hD hS => ?_)
  have hP : va_P D dm_cl [(h0, .inr (1, [.null, .ref q1, .ref q2, .ref q3, .ref q4, .ref q5, .ref q6, .ref q7, .null, .null, .int 0])), (q1, .inl (cA 0, 81, .inl (fun _ => 0))), (q2, .inl (cA 0, 320, .inl (fun _ => 0))), (q3, .inl (cA 0, 320, .inl (fun _ => 0))), (q4, .inl (cA 1, 320, .inr (.inl (fun _ => 0)))), (q5, .inl (cA 1, 320, .inr (.inl (fun _ => 0)))), (q6, .inl (cA 1, 320, .inr (.inl (fun _ => 0)))), (q7, .inl (cA 1, 24, .inr (.inl (fun _ => 0))))] H := hP
  have hD : va_D A [(h0, .inr (1, [.null, .ref q1, .ref q2, .ref q3, .ref q4, .ref q5, .ref q6, .ref q7, .null, .null, .int 0])), (q1, .inl (cA 0, 81, .inl (fun _ => 0))), (q2, .inl (cA 0, 320, .inl (fun _ => 0))), (q3, .inl (cA 0, 320, .inl (fun _ => 0))), (q4, .inl (cA 1, 320, .inr (.inl (fun _ => 0)))), (q5, .inl (cA 1, 320, .inr (.inl (fun _ => 0)))), (q6, .inl (cA 1, 320, .inr (.inl (fun _ => 0)))), (q7, .inl (cA 1, 24, .inr (.inl (fun _ => 0))))] := hD
  refine lv_aload_n hx hb (ct_d vI_X1_init 30 rfl) rfl (lv_at hl 0 rfl) ?_
  refine lv_bipush (v := 25) hx hb (ct_d vI_X1_init 31 rfl) (by decide +kernel) ?_
  refine dm_newa (atype := .int) (ty := .int) (N' := 25) (a0 := (25, .inl (fun _ => 0))) hx hb (hts (.arrayClass .int) (dm_hT _ (wI_X1_init _ (List.mem_of_getElem? (i := 3) rfl)))) rfl 0 rfl (fun _ z => by cases z) hK hP hD hS hA (fun _ => rfl) (by decide) (by decide +kernel) (by decide) (Nat.le_of_ble_eq_true rfl) (Nat.le_of_ble_eq_true rfl) (ct_d vI_X1_init 32 rfl) (fun q8 H hP hD hS => ?_)
  have hP : va_P D dm_cl [(h0, .inr (1, [.null, .ref q1, .ref q2, .ref q3, .ref q4, .ref q5, .ref q6, .ref q7, .null, .null, .int 0])), (q1, .inl (cA 0, 81, .inl (fun _ => 0))), (q2, .inl (cA 0, 320, .inl (fun _ => 0))), (q3, .inl (cA 0, 320, .inl (fun _ => 0))), (q4, .inl (cA 1, 320, .inr (.inl (fun _ => 0)))), (q5, .inl (cA 1, 320, .inr (.inl (fun _ => 0)))), (q6, .inl (cA 1, 320, .inr (.inl (fun _ => 0)))), (q7, .inl (cA 1, 24, .inr (.inl (fun _ => 0)))), (q8, .inl (cA 0, 25, .inl (fun _ => 0)))] H := hP
  have hD : va_D A [(h0, .inr (1, [.null, .ref q1, .ref q2, .ref q3, .ref q4, .ref q5, .ref q6, .ref q7, .null, .null, .int 0])), (q1, .inl (cA 0, 81, .inl (fun _ => 0))), (q2, .inl (cA 0, 320, .inl (fun _ => 0))), (q3, .inl (cA 0, 320, .inl (fun _ => 0))), (q4, .inl (cA 1, 320, .inr (.inl (fun _ => 0)))), (q5, .inl (cA 1, 320, .inr (.inl (fun _ => 0)))), (q6, .inl (cA 1, 320, .inr (.inl (fun _ => 0)))), (q7, .inl (cA 1, 24, .inr (.inl (fun _ => 0)))), (q8, .inl (cA 0, 25, .inl (fun _ => 0)))] := hD
  refine W.widen (k := 8) (n := 1730) (Nat.le_of_ble_eq_true rfl) (Nat.le_of_ble_eq_true rfl) ?_
  refine va_putF (D := D) (ci := 1) (v := .ref q8) (ty := tyX1 8) (C := RX1) (T := TX1) (N := 11) hx hb hts (fun w h => dm_hT w (dm_u1 w h)) tyX1 tyX1_ok nmX1 hown hK hP hD hS 0 rfl rfl 8 (by decide) (hts (.fieldLink RX1 34 "CostFlow$Lanes" "heads" "[I") (dm_hT _ (wI_X1_init _ (List.mem_of_getElem? (i := 12) rfl)))) (fun _ h9 => h9) rfl hin rfl (tyX1_ok 8 (by decide)) rfl rfl (Nat.le_of_ble_eq_true rfl) (ct_d vI_X1_init 33 rfl) (fun H locs hP hD hS => ?_)
  have hP : va_P D dm_cl [(h0, .inr (1, [.null, .ref q1, .ref q2, .ref q3, .ref q4, .ref q5, .ref q6, .ref q7, .ref q8, .null, .int 0])), (q1, .inl (cA 0, 81, .inl (fun _ => 0))), (q2, .inl (cA 0, 320, .inl (fun _ => 0))), (q3, .inl (cA 0, 320, .inl (fun _ => 0))), (q4, .inl (cA 1, 320, .inr (.inl (fun _ => 0)))), (q5, .inl (cA 1, 320, .inr (.inl (fun _ => 0)))), (q6, .inl (cA 1, 320, .inr (.inl (fun _ => 0)))), (q7, .inl (cA 1, 24, .inr (.inl (fun _ => 0)))), (q8, .inl (cA 0, 25, .inl (fun _ => 0)))] H := hP
  have hD : va_D A [(h0, .inr (1, [.null, .ref q1, .ref q2, .ref q3, .ref q4, .ref q5, .ref q6, .ref q7, .ref q8, .null, .int 0])), (q1, .inl (cA 0, 81, .inl (fun _ => 0))), (q2, .inl (cA 0, 320, .inl (fun _ => 0))), (q3, .inl (cA 0, 320, .inl (fun _ => 0))), (q4, .inl (cA 1, 320, .inr (.inl (fun _ => 0)))), (q5, .inl (cA 1, 320, .inr (.inl (fun _ => 0)))), (q6, .inl (cA 1, 320, .inr (.inl (fun _ => 0)))), (q7, .inl (cA 1, 24, .inr (.inl (fun _ => 0)))), (q8, .inl (cA 0, 25, .inl (fun _ => 0)))] := hD
  refine lv_aload_n hx hb (ct_d vI_X1_init 34 rfl) rfl (lv_at hl 0 rfl) ?_
  refine lv_sipush (v := 640) hx hb (ct_d vI_X1_init 35 rfl) (by decide +kernel) ?_
  refine dm_newa (atype := .int) (ty := .int) (N' := 640) (a0 := (640, .inl (fun _ => 0))) hx hb (hts (.arrayClass .int) (dm_hT _ (wI_X1_init _ (List.mem_of_getElem? (i := 3) rfl)))) rfl 0 rfl (fun _ z => by cases z) hK hP hD hS hA (fun _ => rfl) (by decide) (by decide +kernel) (by decide) (Nat.le_of_ble_eq_true rfl) (Nat.le_of_ble_eq_true rfl) (ct_d vI_X1_init 36 rfl) (fun q9 H hP hD hS => ?_)
  have hP : va_P D dm_cl [(h0, .inr (1, [.null, .ref q1, .ref q2, .ref q3, .ref q4, .ref q5, .ref q6, .ref q7, .ref q8, .null, .int 0])), (q1, .inl (cA 0, 81, .inl (fun _ => 0))), (q2, .inl (cA 0, 320, .inl (fun _ => 0))), (q3, .inl (cA 0, 320, .inl (fun _ => 0))), (q4, .inl (cA 1, 320, .inr (.inl (fun _ => 0)))), (q5, .inl (cA 1, 320, .inr (.inl (fun _ => 0)))), (q6, .inl (cA 1, 320, .inr (.inl (fun _ => 0)))), (q7, .inl (cA 1, 24, .inr (.inl (fun _ => 0)))), (q8, .inl (cA 0, 25, .inl (fun _ => 0))), (q9, .inl (cA 0, 640, .inl (fun _ => 0)))] H := hP
  have hD : va_D A [(h0, .inr (1, [.null, .ref q1, .ref q2, .ref q3, .ref q4, .ref q5, .ref q6, .ref q7, .ref q8, .null, .int 0])), (q1, .inl (cA 0, 81, .inl (fun _ => 0))), (q2, .inl (cA 0, 320, .inl (fun _ => 0))), (q3, .inl (cA 0, 320, .inl (fun _ => 0))), (q4, .inl (cA 1, 320, .inr (.inl (fun _ => 0)))), (q5, .inl (cA 1, 320, .inr (.inl (fun _ => 0)))), (q6, .inl (cA 1, 320, .inr (.inl (fun _ => 0)))), (q7, .inl (cA 1, 24, .inr (.inl (fun _ => 0)))), (q8, .inl (cA 0, 25, .inl (fun _ => 0))), (q9, .inl (cA 0, 640, .inl (fun _ => 0)))] := hD
  refine W.widen (k := 9) (n := 2370) (Nat.le_of_ble_eq_true rfl) (Nat.le_of_ble_eq_true rfl) ?_
  refine va_putF (D := D) (ci := 1) (v := .ref q9) (ty := tyX1 9) (C := RX1) (T := TX1) (N := 11) hx hb hts (fun w h => dm_hT w (dm_u1 w h)) tyX1 tyX1_ok nmX1 hown hK hP hD hS 0 rfl rfl 9 (by decide) (hts (.fieldLink RX1 37 "CostFlow$Lanes" "sorted" "[I") (dm_hT _ (wI_X1_init _ (List.mem_of_getElem? (i := 13) rfl)))) (fun _ h9 => h9) rfl hin rfl (tyX1_ok 9 (by decide)) rfl rfl (Nat.le_of_ble_eq_true rfl) (ct_d vI_X1_init 37 rfl) (fun H locs hP hD hS => ?_)
  have hP : va_P D dm_cl [(h0, .inr (1, [.null, .ref q1, .ref q2, .ref q3, .ref q4, .ref q5, .ref q6, .ref q7, .ref q8, .ref q9, .int 0])), (q1, .inl (cA 0, 81, .inl (fun _ => 0))), (q2, .inl (cA 0, 320, .inl (fun _ => 0))), (q3, .inl (cA 0, 320, .inl (fun _ => 0))), (q4, .inl (cA 1, 320, .inr (.inl (fun _ => 0)))), (q5, .inl (cA 1, 320, .inr (.inl (fun _ => 0)))), (q6, .inl (cA 1, 320, .inr (.inl (fun _ => 0)))), (q7, .inl (cA 1, 24, .inr (.inl (fun _ => 0)))), (q8, .inl (cA 0, 25, .inl (fun _ => 0))), (q9, .inl (cA 0, 640, .inl (fun _ => 0)))] H := hP
  have hD : va_D A [(h0, .inr (1, [.null, .ref q1, .ref q2, .ref q3, .ref q4, .ref q5, .ref q6, .ref q7, .ref q8, .ref q9, .int 0])), (q1, .inl (cA 0, 81, .inl (fun _ => 0))), (q2, .inl (cA 0, 320, .inl (fun _ => 0))), (q3, .inl (cA 0, 320, .inl (fun _ => 0))), (q4, .inl (cA 1, 320, .inr (.inl (fun _ => 0)))), (q5, .inl (cA 1, 320, .inr (.inl (fun _ => 0)))), (q6, .inl (cA 1, 320, .inr (.inl (fun _ => 0)))), (q7, .inl (cA 1, 24, .inr (.inl (fun _ => 0)))), (q8, .inl (cA 0, 25, .inl (fun _ => 0))), (q9, .inl (cA 0, 640, .inl (fun _ => 0)))] := hD
  refine lv_aload_n hx hb (ct_d vI_X1_init 38 rfl) rfl (lv_at hl 0 rfl) ?_
  refine lv_aload_n hx hb (ct_d vI_X1_init 39 rfl) rfl (lv_at hl 1 rfl) ?_
  refine va_putF (D := D) (ci := 1) (v := .ref a1) (ty := tyX1 0) (C := RX1) (T := TX1) (N := 11) hx hb hts (fun w h => dm_hT w (dm_u1 w h)) tyX1 tyX1_ok nmX1 hown hK hP hD hS 0 rfl rfl 0 (by decide) (hts (.fieldLink RX1 40 "CostFlow$Lanes" "net" "LCostFlow$Net;") (dm_hT _ (wI_X1_init _ (List.mem_of_getElem? (i := 14) rfl)))) (fun _ h9 => h9) rfl hin rfl (tyX1_ok 0 (by decide)) rfl rfl (Nat.le_of_ble_eq_true rfl) (ct_d vI_X1_init 40 rfl) (fun H locs hP hD hS => ?_)
  have hP : va_P D dm_cl [(h0, .inr (1, [.ref a1, .ref q1, .ref q2, .ref q3, .ref q4, .ref q5, .ref q6, .ref q7, .ref q8, .ref q9, .int 0])), (q1, .inl (cA 0, 81, .inl (fun _ => 0))), (q2, .inl (cA 0, 320, .inl (fun _ => 0))), (q3, .inl (cA 0, 320, .inl (fun _ => 0))), (q4, .inl (cA 1, 320, .inr (.inl (fun _ => 0)))), (q5, .inl (cA 1, 320, .inr (.inl (fun _ => 0)))), (q6, .inl (cA 1, 320, .inr (.inl (fun _ => 0)))), (q7, .inl (cA 1, 24, .inr (.inl (fun _ => 0)))), (q8, .inl (cA 0, 25, .inl (fun _ => 0))), (q9, .inl (cA 0, 640, .inl (fun _ => 0)))] H := hP
  have hD : va_D A [(h0, .inr (1, [.ref a1, .ref q1, .ref q2, .ref q3, .ref q4, .ref q5, .ref q6, .ref q7, .ref q8, .ref q9, .int 0])), (q1, .inl (cA 0, 81, .inl (fun _ => 0))), (q2, .inl (cA 0, 320, .inl (fun _ => 0))), (q3, .inl (cA 0, 320, .inl (fun _ => 0))), (q4, .inl (cA 1, 320, .inr (.inl (fun _ => 0)))), (q5, .inl (cA 1, 320, .inr (.inl (fun _ => 0)))), (q6, .inl (cA 1, 320, .inr (.inl (fun _ => 0)))), (q7, .inl (cA 1, 24, .inr (.inl (fun _ => 0)))), (q8, .inl (cA 0, 25, .inl (fun _ => 0))), (q9, .inl (cA 0, 640, .inl (fun _ => 0)))] := hD
  refine W.widen (k := 9) (n := 2370) (Nat.le_of_ble_eq_true rfl) (Nat.le_of_ble_eq_true rfl) ?_
  exact W.vret hx hb hr (fun t ht hW => ⟨⟨(), rfl, trivial, fun i => [0, q1, q2, q3, q4, q5, q6, q7, q8, q9].getD i 0, by rw [ht]; exact hP, va_K.moved hW.alike hK, hD⟩, hS.F ht⟩) hS.2.2 (ct_d vI_X1_init 41 rfl)
def pI_X9_init : List (Nat × Instr × Nat) := [(0, .aload_n 0, 1), (1, .invokespecial 3, 3), (4, .aload_n 0, 1), (5, .sipush 160, 3), (8, .newarray .int, 2), (10, .putfield 9, 3), (13, .aload_n 0, 1), (14, .sipush 160, 3), (17, .newarray .int, 2), (19, .putfield 15, 3), (22, .aload_n 0, 1), (23, .sipush 160, 3), (26, .newarray .int, 2), (28, .putfield 18, 3), (31, .aload_n 0, 1), (32, .sipush 160, 3), (35, .newarray .long, 2), (37, .putfield 21, 3), (40, .aload_n 0, 1), (41, .aload_n 1, 1), (42, .putfield 25, 3), (45, .aload_n 0, 1), (46, .aload_n 2, 1), (47, .putfield 29, 3), (50, .return_, 1)]
set_option maxRecDepth 100000 in
theorem vI_X9_init : pI_X9_init.all (fun q => decide (decode cX9_init q.1 = .ok (q.2.1, q.2.2))) = true := by decide +kernel
set_option maxRecDepth 100000 in
theorem wI_X9_init : ∀ w ∈ ([.methodLink RX9 3 objectInit, .instanceMethod objectInit, .code objectInit ⟨#[0xb1]⟩ 1 none, .arrayClass .int, .fieldLink RX9 9 "CostFlow$Ways" "numbers" "[I", .fieldLink RX9 15 "CostFlow$Ways" "begins" "[I", .fieldLink RX9 18 "CostFlow$Ways" "ends" "[I", .arrayClass .long, .fieldLink RX9 21 "CostFlow$Ways" "rates" "[J", .fieldLink RX9 25 "CostFlow$Ways" "net" "LCostFlow$Net;", .fieldLink RX9 29 "CostFlow$Ways" "lanes" "LCostFlow$Lanes;"] : List Cond), w ∈ dm_tt := dm_mem [225, 87, 88, 161, 228, 231, 234, 160, 237, 226, 227] (by decide +kernel) (by decide +kernel)
set_option maxRecDepth 100000 in
theorem wg_X9_init : ∀ w ∈ (Cond.code yX9_init cX9_init 3 none :: dm_tt), w ∈ dm_tt := fun w h => by
  rcases List.mem_cons.mp h with rfl | h
  · exact dm_mem (ws := [.code yX9_init cX9_init 3 none]) [224] (by decide +kernel) (by decide +kernel) _ List.mem_cons_self
  · exact h
theorem bl_X9 : ∀ j, j < 7 → defaultValue (tyX9 j) = vp_V [.null, .null, .null, .null, .null, .null, .int 0] j := by decide
set_option maxHeartbeats 4000000 in
set_option maxRecDepth 100000 in
theorem c_X9_init (l : Launch) (D : va_G) (cA : Nat → ClassId) (h0 a1 a2 : Nat) (sz : Nat) : Met l yX9_init (Cond.code yX9_init cX9_init 3 none :: dm_tt) ({ frames := 1, cells := 4, slots := 640, locals := 12 } : Room) (va_Pc [.ref h0, .ref a1, .ref a2] (fun U => U.heap.size = sz ∧ va_P D dm_cl [(h0, .inr (9, [.null, .null, .null, .null, .null, .null, .int 0]))] U.heap ∧ va_K D dm_cl (dm_tys cA) U ∧ va_D (fun _ => True) [(h0, .inr (9, [.null, .null, .null, .null, .null, .null, .int 0]))])) (va_Qv (fun _ : Unit => True) (fun _ t => ∃ g : Nat → Nat, va_P D dm_cl [(h0, .inr (9, [.ref a1, .ref a2, .ref (g 1), .ref (g 2), .ref (g 3), .ref (g 4), .int 0])), (g 1, .inl (cA 0, 160, .inl (fun _ => 0))), (g 2, .inl (cA 0, 160, .inl (fun _ => 0))), (g 3, .inl (cA 0, 160, .inl (fun _ => 0))), (g 4, .inl (cA 1, 160, .inr (.inl (fun _ => 0))))] t.heap ∧ va_K D dm_cl (dm_tys cA) t ∧ va_D (va_A [(h0, .inr (9, [.null, .null, .null, .null, .null, .null, .int 0]))] sz) [(h0, .inr (9, [.ref a1, .ref a2, .ref (g 1), .ref (g 2), .ref (g 3), .ref (g 4), .int 0])), (g 1, .inl (cA 0, 160, .inl (fun _ => 0))), (g 2, .inl (cA 0, 160, .inl (fun _ => 0))), (g 3, .inl (cA 0, 160, .inl (fun _ => 0))), (g 4, .inl (cA 1, 160, .inr (.inl (fun _ => 0))))]) (va_A [(h0, .inr (9, [.null, .null, .null, .null, .null, .null, .int 0]))] sz)) 4 640 (va_A [(h0, .inr (9, [.null, .null, .null, .null, .null, .null, .int 0]))] sz) := by
  refine Met.ofW (cc := cX9_init) (maxL := 3) (ret := none) (by decide) rfl ?_
  intro p e s m args below meth c s₁ B hml hv
  obtain ⟨rfl, hsz, hP, hK, hD0⟩ := hv
  have hx := B.exec
  have hb := B.bytes
  have hr := B.returns
  have hts := atoms_spec (ws := Cond.code yX9_init cX9_init 3 none :: dm_tt) B.pre
  have hown : s.vm.findClass RX9 = some m.cls := findClass_of_methodNamed B.named
  have hlocks := B.notSynchronized
  have hin : meth.name = "<init>" := (name_of_methodNamed B.named B.method).1
  subst hsz
  have hD := hD0.self (sz := s.heap.size)
  generalize hAe : va_A [(h0, .inr (9, [.null, .null, .null, .null, .null, .null, .int 0]))] s.heap.size = A at hD ⊢
  have hA : ∀ q : Nat, s.heap.size ≤ q → A q := fun q h => by rw [← hAe]; exact Or.inr h
  have hS : va_S A s.heap s.heap [] := va_S.rf
  have hP : va_P D dm_cl [(h0, .inr (9, [.null, .null, .null, .null, .null, .null, .int 0]))] s.heap := hP
  have hl := lv_entry ([.ref h0, .ref a1, .ref a2]) (n := 3) (Nat.le_of_ble_eq_true rfl)
  rw [lg_entry_eq]
  generalize (lg_sl ([.ref h0, .ref a1, .ref a2]) ++ List.replicate (3 - (lg_sl ([.ref h0, .ref a1, .ref a2])).length) Slot.unset).toArray = ls at hl ⊢
  have hl : lv_has ls 3 [(0, .ref h0), (1, .ref a1), (2, .ref a2)] := hl
  refine lv_aload_n hx hb (ct_d vI_X9_init 0 rfl) rfl (lv_at hl 0 rfl) ?_
  refine W.objInit hx hb hown (hts (.methodLink RX9 3 objectInit) (dm_hT _ (wI_X9_init _ (List.mem_of_getElem? (i := 0) rfl)))) (hts (.instanceMethod objectInit) (dm_hT _ (wI_X9_init _ (List.mem_of_getElem? (i := 1) rfl)))) (hts (.code objectInit ⟨#[0xb1]⟩ 1 none) (dm_hT _ (wI_X9_init _ (List.mem_of_getElem? (i := 2) rfl)))) rfl (by rw [hml]; exact hl.1) rfl (ct_d vI_X9_init 1 rfl) (Nat.le_of_ble_eq_true rfl) (Nat.le_of_ble_eq_true rfl) ?_
  refine W.eq (g2 := F0 m 4 ls []) rfl ?_
  refine lv_aload_n hx hb (ct_d vI_X9_init 2 rfl) rfl (lv_at hl 0 rfl) ?_
  refine lv_sipush (v := 160) hx hb (ct_d vI_X9_init 3 rfl) (by decide +kernel) ?_
  refine dm_newa (atype := .int) (ty := .int) (N' := 160) (a0 := (160, .inl (fun _ => 0))) hx hb (hts (.arrayClass .int) (dm_hT _ (wI_X9_init _ (List.mem_of_getElem? (i := 3) rfl)))) rfl 0 rfl (fun _ z => by cases z) hK hP hD hS hA (fun _ => rfl) (by decide) (by decide +kernel) (by decide) (Nat.le_of_ble_eq_true rfl) (Nat.le_of_ble_eq_true rfl) (ct_d vI_X9_init 4 rfl) (fun q1 H hP hD hS => ?_)
  have hP : va_P D dm_cl [(h0, .inr (9, [.null, .null, .null, .null, .null, .null, .int 0])), (q1, .inl (cA 0, 160, .inl (fun _ => 0)))] H := hP
  have hD : va_D A [(h0, .inr (9, [.null, .null, .null, .null, .null, .null, .int 0])), (q1, .inl (cA 0, 160, .inl (fun _ => 0)))] := hD
  refine W.widen (k := 1) (n := 160) (Nat.le_of_ble_eq_true rfl) (Nat.le_of_ble_eq_true rfl) ?_
  refine va_putF (D := D) (ci := 9) (v := .ref q1) (ty := tyX9 2) (C := RX9) (T := TX9) (N := 7) hx hb hts (fun w h => dm_hT w (dm_u9 w h)) tyX9 tyX9_ok nmX9 hown hK hP hD hS 0 rfl rfl 2 (by decide) (hts (.fieldLink RX9 9 "CostFlow$Ways" "numbers" "[I") (dm_hT _ (wI_X9_init _ (List.mem_of_getElem? (i := 4) rfl)))) (fun _ h9 => h9) rfl hin rfl (tyX9_ok 2 (by decide)) rfl rfl (Nat.le_of_ble_eq_true rfl) (ct_d vI_X9_init 5 rfl) (fun H locs hP hD hS => ?_)
  have hP : va_P D dm_cl [(h0, .inr (9, [.null, .null, .ref q1, .null, .null, .null, .int 0])), (q1, .inl (cA 0, 160, .inl (fun _ => 0)))] H := hP
  have hD : va_D A [(h0, .inr (9, [.null, .null, .ref q1, .null, .null, .null, .int 0])), (q1, .inl (cA 0, 160, .inl (fun _ => 0)))] := hD
  refine lv_aload_n hx hb (ct_d vI_X9_init 6 rfl) rfl (lv_at hl 0 rfl) ?_
  refine lv_sipush (v := 160) hx hb (ct_d vI_X9_init 7 rfl) (by decide +kernel) ?_
  refine dm_newa (atype := .int) (ty := .int) (N' := 160) (a0 := (160, .inl (fun _ => 0))) hx hb (hts (.arrayClass .int) (dm_hT _ (wI_X9_init _ (List.mem_of_getElem? (i := 3) rfl)))) rfl 0 rfl (fun _ z => by cases z) hK hP hD hS hA (fun _ => rfl) (by decide) (by decide +kernel) (by decide) (Nat.le_of_ble_eq_true rfl) (Nat.le_of_ble_eq_true rfl) (ct_d vI_X9_init 8 rfl) (fun q2 H hP hD hS => ?_)
  have hP : va_P D dm_cl [(h0, .inr (9, [.null, .null, .ref q1, .null, .null, .null, .int 0])), (q1, .inl (cA 0, 160, .inl (fun _ => 0))), (q2, .inl (cA 0, 160, .inl (fun _ => 0)))] H := hP
  have hD : va_D A [(h0, .inr (9, [.null, .null, .ref q1, .null, .null, .null, .int 0])), (q1, .inl (cA 0, 160, .inl (fun _ => 0))), (q2, .inl (cA 0, 160, .inl (fun _ => 0)))] := hD
  refine W.widen (k := 2) (n := 320) (Nat.le_of_ble_eq_true rfl) (Nat.le_of_ble_eq_true rfl) ?_
  refine va_putF (D := D) (ci := 9) (v := .ref q2) (ty := tyX9 3) (C := RX9) (T := TX9) (N := 7) hx hb hts (fun w h => dm_hT w (dm_u9 w h)) tyX9 tyX9_ok nmX9 hown hK hP hD hS 0 rfl rfl 3 (by decide) (hts (.fieldLink RX9 15 "CostFlow$Ways" "begins" "[I") (dm_hT _ (wI_X9_init _ (List.mem_of_getElem? (i := 5) rfl)))) (fun _ h9 => h9) rfl hin rfl (tyX9_ok 3 (by decide)) rfl rfl (Nat.le_of_ble_eq_true rfl) (ct_d vI_X9_init 9 rfl) (fun H locs hP hD hS => ?_)
  have hP : va_P D dm_cl [(h0, .inr (9, [.null, .null, .ref q1, .ref q2, .null, .null, .int 0])), (q1, .inl (cA 0, 160, .inl (fun _ => 0))), (q2, .inl (cA 0, 160, .inl (fun _ => 0)))] H := hP
  have hD : va_D A [(h0, .inr (9, [.null, .null, .ref q1, .ref q2, .null, .null, .int 0])), (q1, .inl (cA 0, 160, .inl (fun _ => 0))), (q2, .inl (cA 0, 160, .inl (fun _ => 0)))] := hD
  refine lv_aload_n hx hb (ct_d vI_X9_init 10 rfl) rfl (lv_at hl 0 rfl) ?_
  refine lv_sipush (v := 160) hx hb (ct_d vI_X9_init 11 rfl) (by decide +kernel) ?_
  refine dm_newa (atype := .int) (ty := .int) (N' := 160) (a0 := (160, .inl (fun _ => 0))) hx hb (hts (.arrayClass .int) (dm_hT _ (wI_X9_init _ (List.mem_of_getElem? (i := 3) rfl)))) rfl 0 rfl (fun _ z => by cases z) hK hP hD hS hA (fun _ => rfl) (by decide) (by decide +kernel) (by decide) (Nat.le_of_ble_eq_true rfl) (Nat.le_of_ble_eq_true rfl) (ct_d vI_X9_init 12 rfl) (fun q3 H hP hD hS => ?_)
  have hP : va_P D dm_cl [(h0, .inr (9, [.null, .null, .ref q1, .ref q2, .null, .null, .int 0])), (q1, .inl (cA 0, 160, .inl (fun _ => 0))), (q2, .inl (cA 0, 160, .inl (fun _ => 0))), (q3, .inl (cA 0, 160, .inl (fun _ => 0)))] H := hP
  have hD : va_D A [(h0, .inr (9, [.null, .null, .ref q1, .ref q2, .null, .null, .int 0])), (q1, .inl (cA 0, 160, .inl (fun _ => 0))), (q2, .inl (cA 0, 160, .inl (fun _ => 0))), (q3, .inl (cA 0, 160, .inl (fun _ => 0)))] := hD
  refine W.widen (k := 3) (n := 480) (Nat.le_of_ble_eq_true rfl) (Nat.le_of_ble_eq_true rfl) ?_
  refine va_putF (D := D) (ci := 9) (v := .ref q3) (ty := tyX9 4) (C := RX9) (T := TX9) (N := 7) hx hb hts (fun w h => dm_hT w (dm_u9 w h)) tyX9 tyX9_ok nmX9 hown hK hP hD hS 0 rfl rfl 4 (by decide) (hts (.fieldLink RX9 18 "CostFlow$Ways" "ends" "[I") (dm_hT _ (wI_X9_init _ (List.mem_of_getElem? (i := 6) rfl)))) (fun _ h9 => h9) rfl hin rfl (tyX9_ok 4 (by decide)) rfl rfl (Nat.le_of_ble_eq_true rfl) (ct_d vI_X9_init 13 rfl) (fun H locs hP hD hS => ?_)
  have hP : va_P D dm_cl [(h0, .inr (9, [.null, .null, .ref q1, .ref q2, .ref q3, .null, .int 0])), (q1, .inl (cA 0, 160, .inl (fun _ => 0))), (q2, .inl (cA 0, 160, .inl (fun _ => 0))), (q3, .inl (cA 0, 160, .inl (fun _ => 0)))] H := hP
  have hD : va_D A [(h0, .inr (9, [.null, .null, .ref q1, .ref q2, .ref q3, .null, .int 0])), (q1, .inl (cA 0, 160, .inl (fun _ => 0))), (q2, .inl (cA 0, 160, .inl (fun _ => 0))), (q3, .inl (cA 0, 160, .inl (fun _ => 0)))] := hD
  refine lv_aload_n hx hb (ct_d vI_X9_init 14 rfl) rfl (lv_at hl 0 rfl) ?_
  refine lv_sipush (v := 160) hx hb (ct_d vI_X9_init 15 rfl) (by decide +kernel) ?_
  refine dm_newa (atype := .long) (ty := .long) (N' := 160) (a0 := (160, .inr (.inl (fun _ => 0)))) hx hb (hts (.arrayClass .long) (dm_hT _ (wI_X9_init _ (List.mem_of_getElem? (i := 7) rfl)))) rfl 1 rfl (fun _ z => by cases z) hK hP hD hS hA (fun _ => rfl) (by decide) (by decide +kernel) (by decide) (Nat.le_of_ble_eq_true rfl) (Nat.le_of_ble_eq_true rfl) (ct_d vI_X9_init 16 rfl) (fun q4 H hP hD hS => ?_)
  have hP : va_P D dm_cl [(h0, .inr (9, [.null, .null, .ref q1, .ref q2, .ref q3, .null, .int 0])), (q1, .inl (cA 0, 160, .inl (fun _ => 0))), (q2, .inl (cA 0, 160, .inl (fun _ => 0))), (q3, .inl (cA 0, 160, .inl (fun _ => 0))), (q4, .inl (cA 1, 160, .inr (.inl (fun _ => 0))))] H := hP
  have hD : va_D A [(h0, .inr (9, [.null, .null, .ref q1, .ref q2, .ref q3, .null, .int 0])), (q1, .inl (cA 0, 160, .inl (fun _ => 0))), (q2, .inl (cA 0, 160, .inl (fun _ => 0))), (q3, .inl (cA 0, 160, .inl (fun _ => 0))), (q4, .inl (cA 1, 160, .inr (.inl (fun _ => 0))))] := hD
  refine W.widen (k := 4) (n := 640) (Nat.le_of_ble_eq_true rfl) (Nat.le_of_ble_eq_true rfl) ?_
  refine va_putF (D := D) (ci := 9) (v := .ref q4) (ty := tyX9 5) (C := RX9) (T := TX9) (N := 7) hx hb hts (fun w h => dm_hT w (dm_u9 w h)) tyX9 tyX9_ok nmX9 hown hK hP hD hS 0 rfl rfl 5 (by decide) (hts (.fieldLink RX9 21 "CostFlow$Ways" "rates" "[J") (dm_hT _ (wI_X9_init _ (List.mem_of_getElem? (i := 8) rfl)))) (fun _ h9 => h9) rfl hin rfl (tyX9_ok 5 (by decide)) rfl rfl (Nat.le_of_ble_eq_true rfl) (ct_d vI_X9_init 17 rfl) (fun H locs hP hD hS => ?_)
  have hP : va_P D dm_cl [(h0, .inr (9, [.null, .null, .ref q1, .ref q2, .ref q3, .ref q4, .int 0])), (q1, .inl (cA 0, 160, .inl (fun _ => 0))), (q2, .inl (cA 0, 160, .inl (fun _ => 0))), (q3, .inl (cA 0, 160, .inl (fun _ => 0))), (q4, .inl (cA 1, 160, .inr (.inl (fun _ => 0))))] H := hP
  have hD : va_D A [(h0, .inr (9, [.null, .null, .ref q1, .ref q2, .ref q3, .ref q4, .int 0])), (q1, .inl (cA 0, 160, .inl (fun _ => 0))), (q2, .inl (cA 0, 160, .inl (fun _ => 0))), (q3, .inl (cA 0, 160, .inl (fun _ => 0))), (q4, .inl (cA 1, 160, .inr (.inl (fun _ => 0))))] := hD
  refine lv_aload_n hx hb (ct_d vI_X9_init 18 rfl) rfl (lv_at hl 0 rfl) ?_
  refine lv_aload_n hx hb (ct_d vI_X9_init 19 rfl) rfl (lv_at hl 1 rfl) ?_
  refine va_putF (D := D) (ci := 9) (v := .ref a1) (ty := tyX9 0) (C := RX9) (T := TX9) (N := 7) hx hb hts (fun w h => dm_hT w (dm_u9 w h)) tyX9 tyX9_ok nmX9 hown hK hP hD hS 0 rfl rfl 0 (by decide) (hts (.fieldLink RX9 25 "CostFlow$Ways" "net" "LCostFlow$Net;") (dm_hT _ (wI_X9_init _ (List.mem_of_getElem? (i := 9) rfl)))) (fun _ h9 => h9) rfl hin rfl (tyX9_ok 0 (by decide)) rfl rfl (Nat.le_of_ble_eq_true rfl) (ct_d vI_X9_init 20 rfl) (fun H locs hP hD hS => ?_)
  have hP : va_P D dm_cl [(h0, .inr (9, [.ref a1, .null, .ref q1, .ref q2, .ref q3, .ref q4, .int 0])), (q1, .inl (cA 0, 160, .inl (fun _ => 0))), (q2, .inl (cA 0, 160, .inl (fun _ => 0))), (q3, .inl (cA 0, 160, .inl (fun _ => 0))), (q4, .inl (cA 1, 160, .inr (.inl (fun _ => 0))))] H := hP
  have hD : va_D A [(h0, .inr (9, [.ref a1, .null, .ref q1, .ref q2, .ref q3, .ref q4, .int 0])), (q1, .inl (cA 0, 160, .inl (fun _ => 0))), (q2, .inl (cA 0, 160, .inl (fun _ => 0))), (q3, .inl (cA 0, 160, .inl (fun _ => 0))), (q4, .inl (cA 1, 160, .inr (.inl (fun _ => 0))))] := hD
  refine lv_aload_n hx hb (ct_d vI_X9_init 21 rfl) rfl (lv_at hl 0 rfl) ?_
  refine lv_aload_n hx hb (ct_d vI_X9_init 22 rfl) rfl (lv_at hl 2 rfl) ?_
  refine va_putF (D := D) (ci := 9) (v := .ref a2) (ty := tyX9 1) (C := RX9) (T := TX9) (N := 7) hx hb hts (fun w h => dm_hT w (dm_u9 w h)) tyX9 tyX9_ok nmX9 hown hK hP hD hS 0 rfl rfl 1 (by decide) (hts (.fieldLink RX9 29 "CostFlow$Ways" "lanes" "LCostFlow$Lanes;") (dm_hT _ (wI_X9_init _ (List.mem_of_getElem? (i := 10) rfl)))) (fun _ h9 => h9) rfl hin rfl (tyX9_ok 1 (by decide)) rfl rfl (Nat.le_of_ble_eq_true rfl) (ct_d vI_X9_init 23 rfl) (fun H locs hP hD hS => ?_)
  have hP : va_P D dm_cl [(h0, .inr (9, [.ref a1, .ref a2, .ref q1, .ref q2, .ref q3, .ref q4, .int 0])), (q1, .inl (cA 0, 160, .inl (fun _ => 0))), (q2, .inl (cA 0, 160, .inl (fun _ => 0))), (q3, .inl (cA 0, 160, .inl (fun _ => 0))), (q4, .inl (cA 1, 160, .inr (.inl (fun _ => 0))))] H := hP
  have hD : va_D A [(h0, .inr (9, [.ref a1, .ref a2, .ref q1, .ref q2, .ref q3, .ref q4, .int 0])), (q1, .inl (cA 0, 160, .inl (fun _ => 0))), (q2, .inl (cA 0, 160, .inl (fun _ => 0))), (q3, .inl (cA 0, 160, .inl (fun _ => 0))), (q4, .inl (cA 1, 160, .inr (.inl (fun _ => 0))))] := hD
  refine W.widen (k := 4) (n := 640) (Nat.le_of_ble_eq_true rfl) (Nat.le_of_ble_eq_true rfl) ?_
  exact W.vret hx hb hr (fun t ht hW => ⟨⟨(), rfl, trivial, fun i => [0, q1, q2, q3, q4].getD i 0, by rw [ht]; exact hP, va_K.moved hW.alike hK, hD⟩, hS.F ht⟩) hS.2.2 (ct_d vI_X9_init 24 rfl)
def pI_X7_init : List (Nat × Instr × Nat) := [(0, .aload_n 0, 1), (1, .invokespecial 3, 3), (4, .aload_n 0, 1), (5, .sipush 320, 3), (8, .newarray .boolean, 2), (10, .putfield 9, 3), (13, .aload_n 0, 1), (14, .bipush 24, 2), (16, .newarray .int, 2), (18, .putfield 15, 3), (21, .aload_n 0, 1), (22, .bipush 24, 2), (24, .newarray .long, 2), (26, .putfield 19, 3), (29, .aload_n 0, 1), (30, .bipush 24, 2), (32, .newarray .int, 2), (34, .putfield 23, 3), (37, .aload_n 0, 1), (38, .aload_n 1, 1), (39, .putfield 26, 3), (42, .aload_n 0, 1), (43, .aload_n 2, 1), (44, .putfield 30, 3), (47, .return_, 1)]
set_option maxRecDepth 100000 in
theorem vI_X7_init : pI_X7_init.all (fun q => decide (decode cX7_init q.1 = .ok (q.2.1, q.2.2))) = true := by decide +kernel
set_option maxRecDepth 100000 in
theorem wI_X7_init : ∀ w ∈ ([.methodLink RX7 3 objectInit, .instanceMethod objectInit, .code objectInit ⟨#[0xb1]⟩ 1 none, .arrayClass .boolean, .fieldLink RX7 9 "CostFlow$Router" "open" "[Z", .arrayClass .int, .fieldLink RX7 15 "CostFlow$Router" "via" "[I", .arrayClass .long, .fieldLink RX7 19 "CostFlow$Router" "carried" "[J", .fieldLink RX7 23 "CostFlow$Router" "queue" "[I", .fieldLink RX7 26 "CostFlow$Router" "net" "LCostFlow$Net;", .fieldLink RX7 30 "CostFlow$Router" "lanes" "LCostFlow$Lanes;"] : List Cond), w ∈ dm_tt := dm_mem [263, 87, 88, 162, 266, 161, 267, 160, 269, 270, 264, 265] (by decide +kernel) (by decide +kernel)
set_option maxRecDepth 100000 in
theorem wg_X7_init : ∀ w ∈ (Cond.code yX7_init cX7_init 3 none :: dm_tt), w ∈ dm_tt := fun w h => by
  rcases List.mem_cons.mp h with rfl | h
  · exact dm_mem (ws := [.code yX7_init cX7_init 3 none]) [262] (by decide +kernel) (by decide +kernel) _ List.mem_cons_self
  · exact h
theorem bl_X7 : ∀ j, j < 7 → defaultValue (tyX7 j) = vp_V [.null, .null, .null, .null, .null, .null, .int 0] j := by decide
set_option maxHeartbeats 4000000 in
set_option maxRecDepth 100000 in
theorem c_X7_init (l : Launch) (D : va_G) (cA : Nat → ClassId) (h0 a1 a2 : Nat) (sz : Nat) : Met l yX7_init (Cond.code yX7_init cX7_init 3 none :: dm_tt) ({ frames := 1, cells := 4, slots := 392, locals := 12 } : Room) (va_Pc [.ref h0, .ref a1, .ref a2] (fun U => U.heap.size = sz ∧ va_P D dm_cl [(h0, .inr (7, [.null, .null, .null, .null, .null, .null, .int 0]))] U.heap ∧ va_K D dm_cl (dm_tys cA) U ∧ va_D (fun _ => True) [(h0, .inr (7, [.null, .null, .null, .null, .null, .null, .int 0]))])) (va_Qv (fun _ : Unit => True) (fun _ t => ∃ g : Nat → Nat, va_P D dm_cl [(h0, .inr (7, [.ref a1, .ref a2, .ref (g 1), .ref (g 2), .ref (g 3), .ref (g 4), .int 0])), (g 1, .inl (cA 2, 320, .inl (fun _ => 0))), (g 2, .inl (cA 0, 24, .inl (fun _ => 0))), (g 3, .inl (cA 1, 24, .inr (.inl (fun _ => 0)))), (g 4, .inl (cA 0, 24, .inl (fun _ => 0)))] t.heap ∧ va_K D dm_cl (dm_tys cA) t ∧ va_D (va_A [(h0, .inr (7, [.null, .null, .null, .null, .null, .null, .int 0]))] sz) [(h0, .inr (7, [.ref a1, .ref a2, .ref (g 1), .ref (g 2), .ref (g 3), .ref (g 4), .int 0])), (g 1, .inl (cA 2, 320, .inl (fun _ => 0))), (g 2, .inl (cA 0, 24, .inl (fun _ => 0))), (g 3, .inl (cA 1, 24, .inr (.inl (fun _ => 0)))), (g 4, .inl (cA 0, 24, .inl (fun _ => 0)))]) (va_A [(h0, .inr (7, [.null, .null, .null, .null, .null, .null, .int 0]))] sz)) 4 392 (va_A [(h0, .inr (7, [.null, .null, .null, .null, .null, .null, .int 0]))] sz) := by
  refine Met.ofW (cc := cX7_init) (maxL := 3) (ret := none) (by decide) rfl ?_
  intro p e s m args below meth c s₁ B hml hv
  obtain ⟨rfl, hsz, hP, hK, hD0⟩ := hv
  have hx := B.exec
  have hb := B.bytes
  have hr := B.returns
  have hts := atoms_spec (ws := Cond.code yX7_init cX7_init 3 none :: dm_tt) B.pre
  have hown : s.vm.findClass RX7 = some m.cls := findClass_of_methodNamed B.named
  have hlocks := B.notSynchronized
  have hin : meth.name = "<init>" := (name_of_methodNamed B.named B.method).1
  subst hsz
  have hD := hD0.self (sz := s.heap.size)
  generalize hAe : va_A [(h0, .inr (7, [.null, .null, .null, .null, .null, .null, .int 0]))] s.heap.size = A at hD ⊢
  have hA : ∀ q : Nat, s.heap.size ≤ q → A q := fun q h => by rw [← hAe]; exact Or.inr h
  have hS : va_S A s.heap s.heap [] := va_S.rf
  have hP : va_P D dm_cl [(h0, .inr (7, [.null, .null, .null, .null, .null, .null, .int 0]))] s.heap := hP
  have hl := lv_entry ([.ref h0, .ref a1, .ref a2]) (n := 3) (Nat.le_of_ble_eq_true rfl)
  rw [lg_entry_eq]
  generalize (lg_sl ([.ref h0, .ref a1, .ref a2]) ++ List.replicate (3 - (lg_sl ([.ref h0, .ref a1, .ref a2])).length) Slot.unset).toArray = ls at hl ⊢
  have hl : lv_has ls 3 [(0, .ref h0), (1, .ref a1), (2, .ref a2)] := hl
  refine lv_aload_n hx hb (ct_d vI_X7_init 0 rfl) rfl (lv_at hl 0 rfl) ?_
  refine W.objInit hx hb hown (hts (.methodLink RX7 3 objectInit) (dm_hT _ (wI_X7_init _ (List.mem_of_getElem? (i := 0) rfl)))) (hts (.instanceMethod objectInit) (dm_hT _ (wI_X7_init _ (List.mem_of_getElem? (i := 1) rfl)))) (hts (.code objectInit ⟨#[0xb1]⟩ 1 none) (dm_hT _ (wI_X7_init _ (List.mem_of_getElem? (i := 2) rfl)))) rfl (by rw [hml]; exact hl.1) rfl (ct_d vI_X7_init 1 rfl) (Nat.le_of_ble_eq_true rfl) (Nat.le_of_ble_eq_true rfl) ?_
  refine W.eq (g2 := F0 m 4 ls []) rfl ?_
  refine lv_aload_n hx hb (ct_d vI_X7_init 2 rfl) rfl (lv_at hl 0 rfl) ?_
  refine lv_sipush (v := 320) hx hb (ct_d vI_X7_init 3 rfl) (by decide +kernel) ?_
  refine dm_newa (atype := .boolean) (ty := .boolean) (N' := 320) (a0 := (320, .inl (fun _ => 0))) hx hb (hts (.arrayClass .boolean) (dm_hT _ (wI_X7_init _ (List.mem_of_getElem? (i := 3) rfl)))) rfl 2 rfl (fun _ z => by cases z) hK hP hD hS hA (fun _ => rfl) (by decide) (by decide +kernel) (by decide) (Nat.le_of_ble_eq_true rfl) (Nat.le_of_ble_eq_true rfl) (ct_d vI_X7_init 4 rfl) (fun q1 H hP hD hS => ?_)
  have hP : va_P D dm_cl [(h0, .inr (7, [.null, .null, .null, .null, .null, .null, .int 0])), (q1, .inl (cA 2, 320, .inl (fun _ => 0)))] H := hP
  have hD : va_D A [(h0, .inr (7, [.null, .null, .null, .null, .null, .null, .int 0])), (q1, .inl (cA 2, 320, .inl (fun _ => 0)))] := hD
  refine W.widen (k := 1) (n := 320) (Nat.le_of_ble_eq_true rfl) (Nat.le_of_ble_eq_true rfl) ?_
  refine va_putF (D := D) (ci := 7) (v := .ref q1) (ty := tyX7 2) (C := RX7) (T := TX7) (N := 7) hx hb hts (fun w h => dm_hT w (dm_u7 w h)) tyX7 tyX7_ok nmX7 hown hK hP hD hS 0 rfl rfl 2 (by decide) (hts (.fieldLink RX7 9 "CostFlow$Router" "open" "[Z") (dm_hT _ (wI_X7_init _ (List.mem_of_getElem? (i := 4) rfl)))) (fun _ h9 => h9) rfl hin rfl (tyX7_ok 2 (by decide)) rfl rfl (Nat.le_of_ble_eq_true rfl) (ct_d vI_X7_init 5 rfl) (fun H locs hP hD hS => ?_)
  have hP : va_P D dm_cl [(h0, .inr (7, [.null, .null, .ref q1, .null, .null, .null, .int 0])), (q1, .inl (cA 2, 320, .inl (fun _ => 0)))] H := hP
  have hD : va_D A [(h0, .inr (7, [.null, .null, .ref q1, .null, .null, .null, .int 0])), (q1, .inl (cA 2, 320, .inl (fun _ => 0)))] := hD
  refine lv_aload_n hx hb (ct_d vI_X7_init 6 rfl) rfl (lv_at hl 0 rfl) ?_
  refine lv_bipush (v := 24) hx hb (ct_d vI_X7_init 7 rfl) (by decide +kernel) ?_
  refine dm_newa (atype := .int) (ty := .int) (N' := 24) (a0 := (24, .inl (fun _ => 0))) hx hb (hts (.arrayClass .int) (dm_hT _ (wI_X7_init _ (List.mem_of_getElem? (i := 5) rfl)))) rfl 0 rfl (fun _ z => by cases z) hK hP hD hS hA (fun _ => rfl) (by decide) (by decide +kernel) (by decide) (Nat.le_of_ble_eq_true rfl) (Nat.le_of_ble_eq_true rfl) (ct_d vI_X7_init 8 rfl) (fun q2 H hP hD hS => ?_)
  have hP : va_P D dm_cl [(h0, .inr (7, [.null, .null, .ref q1, .null, .null, .null, .int 0])), (q1, .inl (cA 2, 320, .inl (fun _ => 0))), (q2, .inl (cA 0, 24, .inl (fun _ => 0)))] H := hP
  have hD : va_D A [(h0, .inr (7, [.null, .null, .ref q1, .null, .null, .null, .int 0])), (q1, .inl (cA 2, 320, .inl (fun _ => 0))), (q2, .inl (cA 0, 24, .inl (fun _ => 0)))] := hD
  refine W.widen (k := 2) (n := 344) (Nat.le_of_ble_eq_true rfl) (Nat.le_of_ble_eq_true rfl) ?_
  refine va_putF (D := D) (ci := 7) (v := .ref q2) (ty := tyX7 3) (C := RX7) (T := TX7) (N := 7) hx hb hts (fun w h => dm_hT w (dm_u7 w h)) tyX7 tyX7_ok nmX7 hown hK hP hD hS 0 rfl rfl 3 (by decide) (hts (.fieldLink RX7 15 "CostFlow$Router" "via" "[I") (dm_hT _ (wI_X7_init _ (List.mem_of_getElem? (i := 6) rfl)))) (fun _ h9 => h9) rfl hin rfl (tyX7_ok 3 (by decide)) rfl rfl (Nat.le_of_ble_eq_true rfl) (ct_d vI_X7_init 9 rfl) (fun H locs hP hD hS => ?_)
  have hP : va_P D dm_cl [(h0, .inr (7, [.null, .null, .ref q1, .ref q2, .null, .null, .int 0])), (q1, .inl (cA 2, 320, .inl (fun _ => 0))), (q2, .inl (cA 0, 24, .inl (fun _ => 0)))] H := hP
  have hD : va_D A [(h0, .inr (7, [.null, .null, .ref q1, .ref q2, .null, .null, .int 0])), (q1, .inl (cA 2, 320, .inl (fun _ => 0))), (q2, .inl (cA 0, 24, .inl (fun _ => 0)))] := hD
  refine lv_aload_n hx hb (ct_d vI_X7_init 10 rfl) rfl (lv_at hl 0 rfl) ?_
  refine lv_bipush (v := 24) hx hb (ct_d vI_X7_init 11 rfl) (by decide +kernel) ?_
  refine dm_newa (atype := .long) (ty := .long) (N' := 24) (a0 := (24, .inr (.inl (fun _ => 0)))) hx hb (hts (.arrayClass .long) (dm_hT _ (wI_X7_init _ (List.mem_of_getElem? (i := 7) rfl)))) rfl 1 rfl (fun _ z => by cases z) hK hP hD hS hA (fun _ => rfl) (by decide) (by decide +kernel) (by decide) (Nat.le_of_ble_eq_true rfl) (Nat.le_of_ble_eq_true rfl) (ct_d vI_X7_init 12 rfl) (fun q3 H hP hD hS => ?_)
  have hP : va_P D dm_cl [(h0, .inr (7, [.null, .null, .ref q1, .ref q2, .null, .null, .int 0])), (q1, .inl (cA 2, 320, .inl (fun _ => 0))), (q2, .inl (cA 0, 24, .inl (fun _ => 0))), (q3, .inl (cA 1, 24, .inr (.inl (fun _ => 0))))] H := hP
  have hD : va_D A [(h0, .inr (7, [.null, .null, .ref q1, .ref q2, .null, .null, .int 0])), (q1, .inl (cA 2, 320, .inl (fun _ => 0))), (q2, .inl (cA 0, 24, .inl (fun _ => 0))), (q3, .inl (cA 1, 24, .inr (.inl (fun _ => 0))))] := hD
  refine W.widen (k := 3) (n := 368) (Nat.le_of_ble_eq_true rfl) (Nat.le_of_ble_eq_true rfl) ?_
  refine va_putF (D := D) (ci := 7) (v := .ref q3) (ty := tyX7 4) (C := RX7) (T := TX7) (N := 7) hx hb hts (fun w h => dm_hT w (dm_u7 w h)) tyX7 tyX7_ok nmX7 hown hK hP hD hS 0 rfl rfl 4 (by decide) (hts (.fieldLink RX7 19 "CostFlow$Router" "carried" "[J") (dm_hT _ (wI_X7_init _ (List.mem_of_getElem? (i := 8) rfl)))) (fun _ h9 => h9) rfl hin rfl (tyX7_ok 4 (by decide)) rfl rfl (Nat.le_of_ble_eq_true rfl) (ct_d vI_X7_init 13 rfl) (fun H locs hP hD hS => ?_)
  have hP : va_P D dm_cl [(h0, .inr (7, [.null, .null, .ref q1, .ref q2, .ref q3, .null, .int 0])), (q1, .inl (cA 2, 320, .inl (fun _ => 0))), (q2, .inl (cA 0, 24, .inl (fun _ => 0))), (q3, .inl (cA 1, 24, .inr (.inl (fun _ => 0))))] H := hP
  have hD : va_D A [(h0, .inr (7, [.null, .null, .ref q1, .ref q2, .ref q3, .null, .int 0])), (q1, .inl (cA 2, 320, .inl (fun _ => 0))), (q2, .inl (cA 0, 24, .inl (fun _ => 0))), (q3, .inl (cA 1, 24, .inr (.inl (fun _ => 0))))] := hD
  refine lv_aload_n hx hb (ct_d vI_X7_init 14 rfl) rfl (lv_at hl 0 rfl) ?_
  refine lv_bipush (v := 24) hx hb (ct_d vI_X7_init 15 rfl) (by decide +kernel) ?_
  refine dm_newa (atype := .int) (ty := .int) (N' := 24) (a0 := (24, .inl (fun _ => 0))) hx hb (hts (.arrayClass .int) (dm_hT _ (wI_X7_init _ (List.mem_of_getElem? (i := 5) rfl)))) rfl 0 rfl (fun _ z => by cases z) hK hP hD hS hA (fun _ => rfl) (by decide) (by decide +kernel) (by decide) (Nat.le_of_ble_eq_true rfl) (Nat.le_of_ble_eq_true rfl) (ct_d vI_X7_init 16 rfl) (fun q4 H hP hD hS => ?_)
  have hP : va_P D dm_cl [(h0, .inr (7, [.null, .null, .ref q1, .ref q2, .ref q3, .null, .int 0])), (q1, .inl (cA 2, 320, .inl (fun _ => 0))), (q2, .inl (cA 0, 24, .inl (fun _ => 0))), (q3, .inl (cA 1, 24, .inr (.inl (fun _ => 0)))), (q4, .inl (cA 0, 24, .inl (fun _ => 0)))] H := hP
  have hD : va_D A [(h0, .inr (7, [.null, .null, .ref q1, .ref q2, .ref q3, .null, .int 0])), (q1, .inl (cA 2, 320, .inl (fun _ => 0))), (q2, .inl (cA 0, 24, .inl (fun _ => 0))), (q3, .inl (cA 1, 24, .inr (.inl (fun _ => 0)))), (q4, .inl (cA 0, 24, .inl (fun _ => 0)))] := hD
  refine W.widen (k := 4) (n := 392) (Nat.le_of_ble_eq_true rfl) (Nat.le_of_ble_eq_true rfl) ?_
  refine va_putF (D := D) (ci := 7) (v := .ref q4) (ty := tyX7 5) (C := RX7) (T := TX7) (N := 7) hx hb hts (fun w h => dm_hT w (dm_u7 w h)) tyX7 tyX7_ok nmX7 hown hK hP hD hS 0 rfl rfl 5 (by decide) (hts (.fieldLink RX7 23 "CostFlow$Router" "queue" "[I") (dm_hT _ (wI_X7_init _ (List.mem_of_getElem? (i := 9) rfl)))) (fun _ h9 => h9) rfl hin rfl (tyX7_ok 5 (by decide)) rfl rfl (Nat.le_of_ble_eq_true rfl) (ct_d vI_X7_init 17 rfl) (fun H locs hP hD hS => ?_)
  have hP : va_P D dm_cl [(h0, .inr (7, [.null, .null, .ref q1, .ref q2, .ref q3, .ref q4, .int 0])), (q1, .inl (cA 2, 320, .inl (fun _ => 0))), (q2, .inl (cA 0, 24, .inl (fun _ => 0))), (q3, .inl (cA 1, 24, .inr (.inl (fun _ => 0)))), (q4, .inl (cA 0, 24, .inl (fun _ => 0)))] H := hP
  have hD : va_D A [(h0, .inr (7, [.null, .null, .ref q1, .ref q2, .ref q3, .ref q4, .int 0])), (q1, .inl (cA 2, 320, .inl (fun _ => 0))), (q2, .inl (cA 0, 24, .inl (fun _ => 0))), (q3, .inl (cA 1, 24, .inr (.inl (fun _ => 0)))), (q4, .inl (cA 0, 24, .inl (fun _ => 0)))] := hD
  refine lv_aload_n hx hb (ct_d vI_X7_init 18 rfl) rfl (lv_at hl 0 rfl) ?_
  refine lv_aload_n hx hb (ct_d vI_X7_init 19 rfl) rfl (lv_at hl 1 rfl) ?_
  refine va_putF (D := D) (ci := 7) (v := .ref a1) (ty := tyX7 0) (C := RX7) (T := TX7) (N := 7) hx hb hts (fun w h => dm_hT w (dm_u7 w h)) tyX7 tyX7_ok nmX7 hown hK hP hD hS 0 rfl rfl 0 (by decide) (hts (.fieldLink RX7 26 "CostFlow$Router" "net" "LCostFlow$Net;") (dm_hT _ (wI_X7_init _ (List.mem_of_getElem? (i := 10) rfl)))) (fun _ h9 => h9) rfl hin rfl (tyX7_ok 0 (by decide)) rfl rfl (Nat.le_of_ble_eq_true rfl) (ct_d vI_X7_init 20 rfl) (fun H locs hP hD hS => ?_)
  have hP : va_P D dm_cl [(h0, .inr (7, [.ref a1, .null, .ref q1, .ref q2, .ref q3, .ref q4, .int 0])), (q1, .inl (cA 2, 320, .inl (fun _ => 0))), (q2, .inl (cA 0, 24, .inl (fun _ => 0))), (q3, .inl (cA 1, 24, .inr (.inl (fun _ => 0)))), (q4, .inl (cA 0, 24, .inl (fun _ => 0)))] H := hP
  have hD : va_D A [(h0, .inr (7, [.ref a1, .null, .ref q1, .ref q2, .ref q3, .ref q4, .int 0])), (q1, .inl (cA 2, 320, .inl (fun _ => 0))), (q2, .inl (cA 0, 24, .inl (fun _ => 0))), (q3, .inl (cA 1, 24, .inr (.inl (fun _ => 0)))), (q4, .inl (cA 0, 24, .inl (fun _ => 0)))] := hD
  refine lv_aload_n hx hb (ct_d vI_X7_init 21 rfl) rfl (lv_at hl 0 rfl) ?_
  refine lv_aload_n hx hb (ct_d vI_X7_init 22 rfl) rfl (lv_at hl 2 rfl) ?_
  refine va_putF (D := D) (ci := 7) (v := .ref a2) (ty := tyX7 1) (C := RX7) (T := TX7) (N := 7) hx hb hts (fun w h => dm_hT w (dm_u7 w h)) tyX7 tyX7_ok nmX7 hown hK hP hD hS 0 rfl rfl 1 (by decide) (hts (.fieldLink RX7 30 "CostFlow$Router" "lanes" "LCostFlow$Lanes;") (dm_hT _ (wI_X7_init _ (List.mem_of_getElem? (i := 11) rfl)))) (fun _ h9 => h9) rfl hin rfl (tyX7_ok 1 (by decide)) rfl rfl (Nat.le_of_ble_eq_true rfl) (ct_d vI_X7_init 23 rfl) (fun H locs hP hD hS => ?_)
  have hP : va_P D dm_cl [(h0, .inr (7, [.ref a1, .ref a2, .ref q1, .ref q2, .ref q3, .ref q4, .int 0])), (q1, .inl (cA 2, 320, .inl (fun _ => 0))), (q2, .inl (cA 0, 24, .inl (fun _ => 0))), (q3, .inl (cA 1, 24, .inr (.inl (fun _ => 0)))), (q4, .inl (cA 0, 24, .inl (fun _ => 0)))] H := hP
  have hD : va_D A [(h0, .inr (7, [.ref a1, .ref a2, .ref q1, .ref q2, .ref q3, .ref q4, .int 0])), (q1, .inl (cA 2, 320, .inl (fun _ => 0))), (q2, .inl (cA 0, 24, .inl (fun _ => 0))), (q3, .inl (cA 1, 24, .inr (.inl (fun _ => 0)))), (q4, .inl (cA 0, 24, .inl (fun _ => 0)))] := hD
  refine W.widen (k := 4) (n := 392) (Nat.le_of_ble_eq_true rfl) (Nat.le_of_ble_eq_true rfl) ?_
  exact W.vret hx hb hr (fun t ht hW => ⟨⟨(), rfl, trivial, fun i => [0, q1, q2, q3, q4].getD i 0, by rw [ht]; exact hP, va_K.moved hW.alike hK, hD⟩, hS.F ht⟩) hS.2.2 (ct_d vI_X7_init 24 rfl)
def pI_X5_init : List (Nat × Instr × Nat) := [(0, .aload_n 0, 1), (1, .invokespecial 3, 3), (4, .aload_n 0, 1), (5, .bipush 24, 2), (7, .newarray .long, 2), (9, .putfield 9, 3), (12, .aload_n 0, 1), (13, .bipush 24, 2), (15, .newarray .long, 2), (17, .putfield 15, 3), (20, .aload_n 0, 1), (21, .aload_n 1, 1), (22, .putfield 18, 3), (25, .aload_n 0, 1), (26, .aload_n 2, 1), (27, .putfield 22, 3), (30, .aload_n 0, 1), (31, .aload_n 3, 1), (32, .putfield 26, 3), (35, .return_, 1)]
set_option maxRecDepth 100000 in
theorem vI_X5_init : pI_X5_init.all (fun q => decide (decode cX5_init q.1 = .ok (q.2.1, q.2.2))) = true := by decide +kernel
set_option maxRecDepth 100000 in
theorem wI_X5_init : ∀ w ∈ ([.methodLink RX5 3 objectInit, .instanceMethod objectInit, .code objectInit ⟨#[0xb1]⟩ 1 none, .arrayClass .long, .fieldLink RX5 9 "CostFlow$Prices" "values" "[J", .fieldLink RX5 15 "CostFlow$Prices" "distances" "[J", .fieldLink RX5 18 "CostFlow$Prices" "net" "LCostFlow$Net;", .fieldLink RX5 22 "CostFlow$Prices" "lanes" "LCostFlow$Lanes;", .fieldLink RX5 26 "CostFlow$Prices" "ways" "LCostFlow$Ways;"] : List Cond), w ∈ dm_tt := dm_mem [292, 87, 88, 160, 296, 298, 293, 294, 295] (by decide +kernel) (by decide +kernel)
set_option maxRecDepth 100000 in
theorem wg_X5_init : ∀ w ∈ (Cond.code yX5_init cX5_init 4 none :: dm_tt), w ∈ dm_tt := fun w h => by
  rcases List.mem_cons.mp h with rfl | h
  · exact dm_mem (ws := [.code yX5_init cX5_init 4 none]) [291] (by decide +kernel) (by decide +kernel) _ List.mem_cons_self
  · exact h
theorem bl_X5 : ∀ j, j < 5 → defaultValue (tyX5 j) = vp_V [.null, .null, .null, .null, .null] j := by decide
set_option maxHeartbeats 4000000 in
set_option maxRecDepth 100000 in
theorem c_X5_init (l : Launch) (D : va_G) (cA : Nat → ClassId) (h0 a1 a2 a3 : Nat) (sz : Nat) : Met l yX5_init (Cond.code yX5_init cX5_init 4 none :: dm_tt) ({ frames := 1, cells := 2, slots := 48, locals := 12 } : Room) (va_Pc [.ref h0, .ref a1, .ref a2, .ref a3] (fun U => U.heap.size = sz ∧ va_P D dm_cl [(h0, .inr (5, [.null, .null, .null, .null, .null]))] U.heap ∧ va_K D dm_cl (dm_tys cA) U ∧ va_D (fun _ => True) [(h0, .inr (5, [.null, .null, .null, .null, .null]))])) (va_Qv (fun _ : Unit => True) (fun _ t => ∃ g : Nat → Nat, va_P D dm_cl [(h0, .inr (5, [.ref a1, .ref a2, .ref a3, .ref (g 1), .ref (g 2)])), (g 1, .inl (cA 1, 24, .inr (.inl (fun _ => 0)))), (g 2, .inl (cA 1, 24, .inr (.inl (fun _ => 0))))] t.heap ∧ va_K D dm_cl (dm_tys cA) t ∧ va_D (va_A [(h0, .inr (5, [.null, .null, .null, .null, .null]))] sz) [(h0, .inr (5, [.ref a1, .ref a2, .ref a3, .ref (g 1), .ref (g 2)])), (g 1, .inl (cA 1, 24, .inr (.inl (fun _ => 0)))), (g 2, .inl (cA 1, 24, .inr (.inl (fun _ => 0))))]) (va_A [(h0, .inr (5, [.null, .null, .null, .null, .null]))] sz)) 2 48 (va_A [(h0, .inr (5, [.null, .null, .null, .null, .null]))] sz) := by
  refine Met.ofW (cc := cX5_init) (maxL := 4) (ret := none) (by decide) rfl ?_
  intro p e s m args below meth c s₁ B hml hv
  obtain ⟨rfl, hsz, hP, hK, hD0⟩ := hv
  have hx := B.exec
  have hb := B.bytes
  have hr := B.returns
  have hts := atoms_spec (ws := Cond.code yX5_init cX5_init 4 none :: dm_tt) B.pre
  have hown : s.vm.findClass RX5 = some m.cls := findClass_of_methodNamed B.named
  have hlocks := B.notSynchronized
  have hin : meth.name = "<init>" := (name_of_methodNamed B.named B.method).1
  subst hsz
  have hD := hD0.self (sz := s.heap.size)
  generalize hAe : va_A [(h0, .inr (5, [.null, .null, .null, .null, .null]))] s.heap.size = A at hD ⊢
  have hA : ∀ q : Nat, s.heap.size ≤ q → A q := fun q h => by rw [← hAe]; exact Or.inr h
  have hS : va_S A s.heap s.heap [] := va_S.rf
  have hP : va_P D dm_cl [(h0, .inr (5, [.null, .null, .null, .null, .null]))] s.heap := hP
  have hl := lv_entry ([.ref h0, .ref a1, .ref a2, .ref a3]) (n := 4) (Nat.le_of_ble_eq_true rfl)
  rw [lg_entry_eq]
  generalize (lg_sl ([.ref h0, .ref a1, .ref a2, .ref a3]) ++ List.replicate (4 - (lg_sl ([.ref h0, .ref a1, .ref a2, .ref a3])).length) Slot.unset).toArray = ls at hl ⊢
  have hl : lv_has ls 4 [(0, .ref h0), (1, .ref a1), (2, .ref a2), (3, .ref a3)] := hl
  refine lv_aload_n hx hb (ct_d vI_X5_init 0 rfl) rfl (lv_at hl 0 rfl) ?_
  refine W.objInit hx hb hown (hts (.methodLink RX5 3 objectInit) (dm_hT _ (wI_X5_init _ (List.mem_of_getElem? (i := 0) rfl)))) (hts (.instanceMethod objectInit) (dm_hT _ (wI_X5_init _ (List.mem_of_getElem? (i := 1) rfl)))) (hts (.code objectInit ⟨#[0xb1]⟩ 1 none) (dm_hT _ (wI_X5_init _ (List.mem_of_getElem? (i := 2) rfl)))) rfl (by rw [hml]; exact hl.1) rfl (ct_d vI_X5_init 1 rfl) (Nat.le_of_ble_eq_true rfl) (Nat.le_of_ble_eq_true rfl) ?_
  refine W.eq (g2 := F0 m 4 ls []) rfl ?_
  refine lv_aload_n hx hb (ct_d vI_X5_init 2 rfl) rfl (lv_at hl 0 rfl) ?_
  refine lv_bipush (v := 24) hx hb (ct_d vI_X5_init 3 rfl) (by decide +kernel) ?_
  refine dm_newa (atype := .long) (ty := .long) (N' := 24) (a0 := (24, .inr (.inl (fun _ => 0)))) hx hb (hts (.arrayClass .long) (dm_hT _ (wI_X5_init _ (List.mem_of_getElem? (i := 3) rfl)))) rfl 1 rfl (fun _ z => by cases z) hK hP hD hS hA (fun _ => rfl) (by decide) (by decide +kernel) (by decide) (Nat.le_of_ble_eq_true rfl) (Nat.le_of_ble_eq_true rfl) (ct_d vI_X5_init 4 rfl) (fun q1 H hP hD hS => ?_)
  have hP : va_P D dm_cl [(h0, .inr (5, [.null, .null, .null, .null, .null])), (q1, .inl (cA 1, 24, .inr (.inl (fun _ => 0))))] H := hP
  have hD : va_D A [(h0, .inr (5, [.null, .null, .null, .null, .null])), (q1, .inl (cA 1, 24, .inr (.inl (fun _ => 0))))] := hD
  refine W.widen (k := 1) (n := 24) (Nat.le_of_ble_eq_true rfl) (Nat.le_of_ble_eq_true rfl) ?_
  refine va_putF (D := D) (ci := 5) (v := .ref q1) (ty := tyX5 3) (C := RX5) (T := TX5) (N := 5) hx hb hts (fun w h => dm_hT w (dm_u5 w h)) tyX5 tyX5_ok nmX5 hown hK hP hD hS 0 rfl rfl 3 (by decide) (hts (.fieldLink RX5 9 "CostFlow$Prices" "values" "[J") (dm_hT _ (wI_X5_init _ (List.mem_of_getElem? (i := 4) rfl)))) (fun _ h9 => h9) rfl hin rfl (tyX5_ok 3 (by decide)) rfl rfl (Nat.le_of_ble_eq_true rfl) (ct_d vI_X5_init 5 rfl) (fun H locs hP hD hS => ?_)
  have hP : va_P D dm_cl [(h0, .inr (5, [.null, .null, .null, .ref q1, .null])), (q1, .inl (cA 1, 24, .inr (.inl (fun _ => 0))))] H := hP
  have hD : va_D A [(h0, .inr (5, [.null, .null, .null, .ref q1, .null])), (q1, .inl (cA 1, 24, .inr (.inl (fun _ => 0))))] := hD
  refine lv_aload_n hx hb (ct_d vI_X5_init 6 rfl) rfl (lv_at hl 0 rfl) ?_
  refine lv_bipush (v := 24) hx hb (ct_d vI_X5_init 7 rfl) (by decide +kernel) ?_
  refine dm_newa (atype := .long) (ty := .long) (N' := 24) (a0 := (24, .inr (.inl (fun _ => 0)))) hx hb (hts (.arrayClass .long) (dm_hT _ (wI_X5_init _ (List.mem_of_getElem? (i := 3) rfl)))) rfl 1 rfl (fun _ z => by cases z) hK hP hD hS hA (fun _ => rfl) (by decide) (by decide +kernel) (by decide) (Nat.le_of_ble_eq_true rfl) (Nat.le_of_ble_eq_true rfl) (ct_d vI_X5_init 8 rfl) (fun q2 H hP hD hS => ?_)
  have hP : va_P D dm_cl [(h0, .inr (5, [.null, .null, .null, .ref q1, .null])), (q1, .inl (cA 1, 24, .inr (.inl (fun _ => 0)))), (q2, .inl (cA 1, 24, .inr (.inl (fun _ => 0))))] H := hP
  have hD : va_D A [(h0, .inr (5, [.null, .null, .null, .ref q1, .null])), (q1, .inl (cA 1, 24, .inr (.inl (fun _ => 0)))), (q2, .inl (cA 1, 24, .inr (.inl (fun _ => 0))))] := hD
  refine W.widen (k := 2) (n := 48) (Nat.le_of_ble_eq_true rfl) (Nat.le_of_ble_eq_true rfl) ?_
  refine va_putF (D := D) (ci := 5) (v := .ref q2) (ty := tyX5 4) (C := RX5) (T := TX5) (N := 5) hx hb hts (fun w h => dm_hT w (dm_u5 w h)) tyX5 tyX5_ok nmX5 hown hK hP hD hS 0 rfl rfl 4 (by decide) (hts (.fieldLink RX5 15 "CostFlow$Prices" "distances" "[J") (dm_hT _ (wI_X5_init _ (List.mem_of_getElem? (i := 5) rfl)))) (fun _ h9 => h9) rfl hin rfl (tyX5_ok 4 (by decide)) rfl rfl (Nat.le_of_ble_eq_true rfl) (ct_d vI_X5_init 9 rfl) (fun H locs hP hD hS => ?_)
  have hP : va_P D dm_cl [(h0, .inr (5, [.null, .null, .null, .ref q1, .ref q2])), (q1, .inl (cA 1, 24, .inr (.inl (fun _ => 0)))), (q2, .inl (cA 1, 24, .inr (.inl (fun _ => 0))))] H := hP
  have hD : va_D A [(h0, .inr (5, [.null, .null, .null, .ref q1, .ref q2])), (q1, .inl (cA 1, 24, .inr (.inl (fun _ => 0)))), (q2, .inl (cA 1, 24, .inr (.inl (fun _ => 0))))] := hD
  refine lv_aload_n hx hb (ct_d vI_X5_init 10 rfl) rfl (lv_at hl 0 rfl) ?_
  refine lv_aload_n hx hb (ct_d vI_X5_init 11 rfl) rfl (lv_at hl 1 rfl) ?_
  refine va_putF (D := D) (ci := 5) (v := .ref a1) (ty := tyX5 0) (C := RX5) (T := TX5) (N := 5) hx hb hts (fun w h => dm_hT w (dm_u5 w h)) tyX5 tyX5_ok nmX5 hown hK hP hD hS 0 rfl rfl 0 (by decide) (hts (.fieldLink RX5 18 "CostFlow$Prices" "net" "LCostFlow$Net;") (dm_hT _ (wI_X5_init _ (List.mem_of_getElem? (i := 6) rfl)))) (fun _ h9 => h9) rfl hin rfl (tyX5_ok 0 (by decide)) rfl rfl (Nat.le_of_ble_eq_true rfl) (ct_d vI_X5_init 12 rfl) (fun H locs hP hD hS => ?_)
  have hP : va_P D dm_cl [(h0, .inr (5, [.ref a1, .null, .null, .ref q1, .ref q2])), (q1, .inl (cA 1, 24, .inr (.inl (fun _ => 0)))), (q2, .inl (cA 1, 24, .inr (.inl (fun _ => 0))))] H := hP
  have hD : va_D A [(h0, .inr (5, [.ref a1, .null, .null, .ref q1, .ref q2])), (q1, .inl (cA 1, 24, .inr (.inl (fun _ => 0)))), (q2, .inl (cA 1, 24, .inr (.inl (fun _ => 0))))] := hD
  refine lv_aload_n hx hb (ct_d vI_X5_init 13 rfl) rfl (lv_at hl 0 rfl) ?_
  refine lv_aload_n hx hb (ct_d vI_X5_init 14 rfl) rfl (lv_at hl 2 rfl) ?_
  refine va_putF (D := D) (ci := 5) (v := .ref a2) (ty := tyX5 1) (C := RX5) (T := TX5) (N := 5) hx hb hts (fun w h => dm_hT w (dm_u5 w h)) tyX5 tyX5_ok nmX5 hown hK hP hD hS 0 rfl rfl 1 (by decide) (hts (.fieldLink RX5 22 "CostFlow$Prices" "lanes" "LCostFlow$Lanes;") (dm_hT _ (wI_X5_init _ (List.mem_of_getElem? (i := 7) rfl)))) (fun _ h9 => h9) rfl hin rfl (tyX5_ok 1 (by decide)) rfl rfl (Nat.le_of_ble_eq_true rfl) (ct_d vI_X5_init 15 rfl) (fun H locs hP hD hS => ?_)
  have hP : va_P D dm_cl [(h0, .inr (5, [.ref a1, .ref a2, .null, .ref q1, .ref q2])), (q1, .inl (cA 1, 24, .inr (.inl (fun _ => 0)))), (q2, .inl (cA 1, 24, .inr (.inl (fun _ => 0))))] H := hP
  have hD : va_D A [(h0, .inr (5, [.ref a1, .ref a2, .null, .ref q1, .ref q2])), (q1, .inl (cA 1, 24, .inr (.inl (fun _ => 0)))), (q2, .inl (cA 1, 24, .inr (.inl (fun _ => 0))))] := hD
  refine lv_aload_n hx hb (ct_d vI_X5_init 16 rfl) rfl (lv_at hl 0 rfl) ?_
  refine lv_aload_n hx hb (ct_d vI_X5_init 17 rfl) rfl (lv_at hl 3 rfl) ?_
  refine va_putF (D := D) (ci := 5) (v := .ref a3) (ty := tyX5 2) (C := RX5) (T := TX5) (N := 5) hx hb hts (fun w h => dm_hT w (dm_u5 w h)) tyX5 tyX5_ok nmX5 hown hK hP hD hS 0 rfl rfl 2 (by decide) (hts (.fieldLink RX5 26 "CostFlow$Prices" "ways" "LCostFlow$Ways;") (dm_hT _ (wI_X5_init _ (List.mem_of_getElem? (i := 8) rfl)))) (fun _ h9 => h9) rfl hin rfl (tyX5_ok 2 (by decide)) rfl rfl (Nat.le_of_ble_eq_true rfl) (ct_d vI_X5_init 18 rfl) (fun H locs hP hD hS => ?_)
  have hP : va_P D dm_cl [(h0, .inr (5, [.ref a1, .ref a2, .ref a3, .ref q1, .ref q2])), (q1, .inl (cA 1, 24, .inr (.inl (fun _ => 0)))), (q2, .inl (cA 1, 24, .inr (.inl (fun _ => 0))))] H := hP
  have hD : va_D A [(h0, .inr (5, [.ref a1, .ref a2, .ref a3, .ref q1, .ref q2])), (q1, .inl (cA 1, 24, .inr (.inl (fun _ => 0)))), (q2, .inl (cA 1, 24, .inr (.inl (fun _ => 0))))] := hD
  refine W.widen (k := 2) (n := 48) (Nat.le_of_ble_eq_true rfl) (Nat.le_of_ble_eq_true rfl) ?_
  exact W.vret hx hb hr (fun t ht hW => ⟨⟨(), rfl, trivial, fun i => [0, q1, q2].getD i 0, by rw [ht]; exact hP, va_K.moved hW.alike hK, hD⟩, hS.F ht⟩) hS.2.2 (ct_d vI_X5_init 19 rfl)
def pI_X4_init : List (Nat × Instr × Nat) := [(0, .aload_n 0, 1), (1, .invokespecial 3, 3), (4, .aload_n 0, 1), (5, .bipush 24, 2), (7, .newarray .long, 2), (9, .putfield 9, 3), (12, .aload_n 0, 1), (13, .bipush 24, 2), (15, .newarray .boolean, 2), (17, .putfield 15, 3), (20, .aload_n 0, 1), (21, .bipush 24, 2), (23, .newarray .int, 2), (25, .putfield 19, 3), (28, .aload_n 0, 1), (29, .bipush 24, 2), (31, .newarray .long, 2), (33, .putfield 23, 3), (36, .aload_n 0, 1), (37, .aload_n 1, 1), (38, .putfield 26, 3), (41, .aload_n 0, 1), (42, .aload_n 2, 1), (43, .putfield 30, 3), (46, .aload_n 0, 1), (47, .aload_n 3, 1), (48, .putfield 34, 3), (51, .return_, 1)]
set_option maxRecDepth 100000 in
theorem vI_X4_init : pI_X4_init.all (fun q => decide (decode cX4_init q.1 = .ok (q.2.1, q.2.2))) = true := by decide +kernel
set_option maxRecDepth 100000 in
theorem wI_X4_init : ∀ w ∈ ([.methodLink RX4 3 objectInit, .instanceMethod objectInit, .code objectInit ⟨#[0xb1]⟩ 1 none, .arrayClass .long, .fieldLink RX4 9 "CostFlow$Paths" "distances" "[J", .arrayClass .boolean, .fieldLink RX4 15 "CostFlow$Paths" "done" "[Z", .arrayClass .int, .fieldLink RX4 19 "CostFlow$Paths" "via" "[I", .fieldLink RX4 23 "CostFlow$Paths" "carried" "[J", .fieldLink RX4 26 "CostFlow$Paths" "net" "LCostFlow$Net;", .fieldLink RX4 30 "CostFlow$Paths" "lanes" "LCostFlow$Lanes;", .fieldLink RX4 34 "CostFlow$Paths" "prices" "[J"] : List Cond), w ∈ dm_tt := dm_mem [315, 87, 88, 160, 319, 162, 320, 161, 321, 322, 316, 317, 318] (by decide +kernel) (by decide +kernel)
set_option maxRecDepth 100000 in
theorem wg_X4_init : ∀ w ∈ (Cond.code yX4_init cX4_init 4 none :: dm_tt), w ∈ dm_tt := fun w h => by
  rcases List.mem_cons.mp h with rfl | h
  · exact dm_mem (ws := [.code yX4_init cX4_init 4 none]) [314] (by decide +kernel) (by decide +kernel) _ List.mem_cons_self
  · exact h
theorem bl_X4 : ∀ j, j < 7 → defaultValue (tyX4 j) = vp_V [.null, .null, .null, .null, .null, .null, .null] j := by decide
set_option maxHeartbeats 4000000 in
set_option maxRecDepth 100000 in
theorem c_X4_init (l : Launch) (D : va_G) (cA : Nat → ClassId) (h0 a1 a2 a3 : Nat) (sz : Nat) : Met l yX4_init (Cond.code yX4_init cX4_init 4 none :: dm_tt) ({ frames := 1, cells := 4, slots := 96, locals := 12 } : Room) (va_Pc [.ref h0, .ref a1, .ref a2, .ref a3] (fun U => U.heap.size = sz ∧ va_P D dm_cl [(h0, .inr (4, [.null, .null, .null, .null, .null, .null, .null]))] U.heap ∧ va_K D dm_cl (dm_tys cA) U ∧ va_D (fun _ => True) [(h0, .inr (4, [.null, .null, .null, .null, .null, .null, .null]))])) (va_Qv (fun _ : Unit => True) (fun _ t => ∃ g : Nat → Nat, va_P D dm_cl [(h0, .inr (4, [.ref a1, .ref a2, .ref a3, .ref (g 1), .ref (g 2), .ref (g 3), .ref (g 4)])), (g 1, .inl (cA 1, 24, .inr (.inl (fun _ => 0)))), (g 2, .inl (cA 2, 24, .inl (fun _ => 0))), (g 3, .inl (cA 0, 24, .inl (fun _ => 0))), (g 4, .inl (cA 1, 24, .inr (.inl (fun _ => 0))))] t.heap ∧ va_K D dm_cl (dm_tys cA) t ∧ va_D (va_A [(h0, .inr (4, [.null, .null, .null, .null, .null, .null, .null]))] sz) [(h0, .inr (4, [.ref a1, .ref a2, .ref a3, .ref (g 1), .ref (g 2), .ref (g 3), .ref (g 4)])), (g 1, .inl (cA 1, 24, .inr (.inl (fun _ => 0)))), (g 2, .inl (cA 2, 24, .inl (fun _ => 0))), (g 3, .inl (cA 0, 24, .inl (fun _ => 0))), (g 4, .inl (cA 1, 24, .inr (.inl (fun _ => 0))))]) (va_A [(h0, .inr (4, [.null, .null, .null, .null, .null, .null, .null]))] sz)) 4 96 (va_A [(h0, .inr (4, [.null, .null, .null, .null, .null, .null, .null]))] sz) := by
  refine Met.ofW (cc := cX4_init) (maxL := 4) (ret := none) (by decide) rfl ?_
  intro p e s m args below meth c s₁ B hml hv
  obtain ⟨rfl, hsz, hP, hK, hD0⟩ := hv
  have hx := B.exec
  have hb := B.bytes
  have hr := B.returns
  have hts := atoms_spec (ws := Cond.code yX4_init cX4_init 4 none :: dm_tt) B.pre
  have hown : s.vm.findClass RX4 = some m.cls := findClass_of_methodNamed B.named
  have hlocks := B.notSynchronized
  have hin : meth.name = "<init>" := (name_of_methodNamed B.named B.method).1
  subst hsz
  have hD := hD0.self (sz := s.heap.size)
  generalize hAe : va_A [(h0, .inr (4, [.null, .null, .null, .null, .null, .null, .null]))] s.heap.size = A at hD ⊢
  have hA : ∀ q : Nat, s.heap.size ≤ q → A q := fun q h => by rw [← hAe]; exact Or.inr h
  have hS : va_S A s.heap s.heap [] := va_S.rf
  have hP : va_P D dm_cl [(h0, .inr (4, [.null, .null, .null, .null, .null, .null, .null]))] s.heap := hP
  have hl := lv_entry ([.ref h0, .ref a1, .ref a2, .ref a3]) (n := 4) (Nat.le_of_ble_eq_true rfl)
  rw [lg_entry_eq]
  generalize (lg_sl ([.ref h0, .ref a1, .ref a2, .ref a3]) ++ List.replicate (4 - (lg_sl ([.ref h0, .ref a1, .ref a2, .ref a3])).length) Slot.unset).toArray = ls at hl ⊢
  have hl : lv_has ls 4 [(0, .ref h0), (1, .ref a1), (2, .ref a2), (3, .ref a3)] := hl
  refine lv_aload_n hx hb (ct_d vI_X4_init 0 rfl) rfl (lv_at hl 0 rfl) ?_
  refine W.objInit hx hb hown (hts (.methodLink RX4 3 objectInit) (dm_hT _ (wI_X4_init _ (List.mem_of_getElem? (i := 0) rfl)))) (hts (.instanceMethod objectInit) (dm_hT _ (wI_X4_init _ (List.mem_of_getElem? (i := 1) rfl)))) (hts (.code objectInit ⟨#[0xb1]⟩ 1 none) (dm_hT _ (wI_X4_init _ (List.mem_of_getElem? (i := 2) rfl)))) rfl (by rw [hml]; exact hl.1) rfl (ct_d vI_X4_init 1 rfl) (Nat.le_of_ble_eq_true rfl) (Nat.le_of_ble_eq_true rfl) ?_
  refine W.eq (g2 := F0 m 4 ls []) rfl ?_
  refine lv_aload_n hx hb (ct_d vI_X4_init 2 rfl) rfl (lv_at hl 0 rfl) ?_
  refine lv_bipush (v := 24) hx hb (ct_d vI_X4_init 3 rfl) (by decide +kernel) ?_
  refine dm_newa (atype := .long) (ty := .long) (N' := 24) (a0 := (24, .inr (.inl (fun _ => 0)))) hx hb (hts (.arrayClass .long) (dm_hT _ (wI_X4_init _ (List.mem_of_getElem? (i := 3) rfl)))) rfl 1 rfl (fun _ z => by cases z) hK hP hD hS hA (fun _ => rfl) (by decide) (by decide +kernel) (by decide) (Nat.le_of_ble_eq_true rfl) (Nat.le_of_ble_eq_true rfl) (ct_d vI_X4_init 4 rfl) (fun q1 H hP hD hS => ?_)
  have hP : va_P D dm_cl [(h0, .inr (4, [.null, .null, .null, .null, .null, .null, .null])), (q1, .inl (cA 1, 24, .inr (.inl (fun _ => 0))))] H := hP
  have hD : va_D A [(h0, .inr (4, [.null, .null, .null, .null, .null, .null, .null])), (q1, .inl (cA 1, 24, .inr (.inl (fun _ => 0))))] := hD
  refine W.widen (k := 1) (n := 24) (Nat.le_of_ble_eq_true rfl) (Nat.le_of_ble_eq_true rfl) ?_
  refine va_putF (D := D) (ci := 4) (v := .ref q1) (ty := tyX4 3) (C := RX4) (T := TX4) (N := 7) hx hb hts (fun w h => dm_hT w (dm_u4 w h)) tyX4 tyX4_ok nmX4 hown hK hP hD hS 0 rfl rfl 3 (by decide) (hts (.fieldLink RX4 9 "CostFlow$Paths" "distances" "[J") (dm_hT _ (wI_X4_init _ (List.mem_of_getElem? (i := 4) rfl)))) (fun _ h9 => h9) rfl hin rfl (tyX4_ok 3 (by decide)) rfl rfl (Nat.le_of_ble_eq_true rfl) (ct_d vI_X4_init 5 rfl) (fun H locs hP hD hS => ?_)
  have hP : va_P D dm_cl [(h0, .inr (4, [.null, .null, .null, .ref q1, .null, .null, .null])), (q1, .inl (cA 1, 24, .inr (.inl (fun _ => 0))))] H := hP
  have hD : va_D A [(h0, .inr (4, [.null, .null, .null, .ref q1, .null, .null, .null])), (q1, .inl (cA 1, 24, .inr (.inl (fun _ => 0))))] := hD
  refine lv_aload_n hx hb (ct_d vI_X4_init 6 rfl) rfl (lv_at hl 0 rfl) ?_
  refine lv_bipush (v := 24) hx hb (ct_d vI_X4_init 7 rfl) (by decide +kernel) ?_
  refine dm_newa (atype := .boolean) (ty := .boolean) (N' := 24) (a0 := (24, .inl (fun _ => 0))) hx hb (hts (.arrayClass .boolean) (dm_hT _ (wI_X4_init _ (List.mem_of_getElem? (i := 5) rfl)))) rfl 2 rfl (fun _ z => by cases z) hK hP hD hS hA (fun _ => rfl) (by decide) (by decide +kernel) (by decide) (Nat.le_of_ble_eq_true rfl) (Nat.le_of_ble_eq_true rfl) (ct_d vI_X4_init 8 rfl) (fun q2 H hP hD hS => ?_)
  have hP : va_P D dm_cl [(h0, .inr (4, [.null, .null, .null, .ref q1, .null, .null, .null])), (q1, .inl (cA 1, 24, .inr (.inl (fun _ => 0)))), (q2, .inl (cA 2, 24, .inl (fun _ => 0)))] H := hP
  have hD : va_D A [(h0, .inr (4, [.null, .null, .null, .ref q1, .null, .null, .null])), (q1, .inl (cA 1, 24, .inr (.inl (fun _ => 0)))), (q2, .inl (cA 2, 24, .inl (fun _ => 0)))] := hD
  refine W.widen (k := 2) (n := 48) (Nat.le_of_ble_eq_true rfl) (Nat.le_of_ble_eq_true rfl) ?_
  refine va_putF (D := D) (ci := 4) (v := .ref q2) (ty := tyX4 4) (C := RX4) (T := TX4) (N := 7) hx hb hts (fun w h => dm_hT w (dm_u4 w h)) tyX4 tyX4_ok nmX4 hown hK hP hD hS 0 rfl rfl 4 (by decide) (hts (.fieldLink RX4 15 "CostFlow$Paths" "done" "[Z") (dm_hT _ (wI_X4_init _ (List.mem_of_getElem? (i := 6) rfl)))) (fun _ h9 => h9) rfl hin rfl (tyX4_ok 4 (by decide)) rfl rfl (Nat.le_of_ble_eq_true rfl) (ct_d vI_X4_init 9 rfl) (fun H locs hP hD hS => ?_)
  have hP : va_P D dm_cl [(h0, .inr (4, [.null, .null, .null, .ref q1, .ref q2, .null, .null])), (q1, .inl (cA 1, 24, .inr (.inl (fun _ => 0)))), (q2, .inl (cA 2, 24, .inl (fun _ => 0)))] H := hP
  have hD : va_D A [(h0, .inr (4, [.null, .null, .null, .ref q1, .ref q2, .null, .null])), (q1, .inl (cA 1, 24, .inr (.inl (fun _ => 0)))), (q2, .inl (cA 2, 24, .inl (fun _ => 0)))] := hD
  refine lv_aload_n hx hb (ct_d vI_X4_init 10 rfl) rfl (lv_at hl 0 rfl) ?_
  refine lv_bipush (v := 24) hx hb (ct_d vI_X4_init 11 rfl) (by decide +kernel) ?_
  refine dm_newa (atype := .int) (ty := .int) (N' := 24) (a0 := (24, .inl (fun _ => 0))) hx hb (hts (.arrayClass .int) (dm_hT _ (wI_X4_init _ (List.mem_of_getElem? (i := 7) rfl)))) rfl 0 rfl (fun _ z => by cases z) hK hP hD hS hA (fun _ => rfl) (by decide) (by decide +kernel) (by decide) (Nat.le_of_ble_eq_true rfl) (Nat.le_of_ble_eq_true rfl) (ct_d vI_X4_init 12 rfl) (fun q3 H hP hD hS => ?_)
  have hP : va_P D dm_cl [(h0, .inr (4, [.null, .null, .null, .ref q1, .ref q2, .null, .null])), (q1, .inl (cA 1, 24, .inr (.inl (fun _ => 0)))), (q2, .inl (cA 2, 24, .inl (fun _ => 0))), (q3, .inl (cA 0, 24, .inl (fun _ => 0)))] H := hP
  have hD : va_D A [(h0, .inr (4, [.null, .null, .null, .ref q1, .ref q2, .null, .null])), (q1, .inl (cA 1, 24, .inr (.inl (fun _ => 0)))), (q2, .inl (cA 2, 24, .inl (fun _ => 0))), (q3, .inl (cA 0, 24, .inl (fun _ => 0)))] := hD
  refine W.widen (k := 3) (n := 72) (Nat.le_of_ble_eq_true rfl) (Nat.le_of_ble_eq_true rfl) ?_
  refine va_putF (D := D) (ci := 4) (v := .ref q3) (ty := tyX4 5) (C := RX4) (T := TX4) (N := 7) hx hb hts (fun w h => dm_hT w (dm_u4 w h)) tyX4 tyX4_ok nmX4 hown hK hP hD hS 0 rfl rfl 5 (by decide) (hts (.fieldLink RX4 19 "CostFlow$Paths" "via" "[I") (dm_hT _ (wI_X4_init _ (List.mem_of_getElem? (i := 8) rfl)))) (fun _ h9 => h9) rfl hin rfl (tyX4_ok 5 (by decide)) rfl rfl (Nat.le_of_ble_eq_true rfl) (ct_d vI_X4_init 13 rfl) (fun H locs hP hD hS => ?_)
  have hP : va_P D dm_cl [(h0, .inr (4, [.null, .null, .null, .ref q1, .ref q2, .ref q3, .null])), (q1, .inl (cA 1, 24, .inr (.inl (fun _ => 0)))), (q2, .inl (cA 2, 24, .inl (fun _ => 0))), (q3, .inl (cA 0, 24, .inl (fun _ => 0)))] H := hP
  have hD : va_D A [(h0, .inr (4, [.null, .null, .null, .ref q1, .ref q2, .ref q3, .null])), (q1, .inl (cA 1, 24, .inr (.inl (fun _ => 0)))), (q2, .inl (cA 2, 24, .inl (fun _ => 0))), (q3, .inl (cA 0, 24, .inl (fun _ => 0)))] := hD
  refine lv_aload_n hx hb (ct_d vI_X4_init 14 rfl) rfl (lv_at hl 0 rfl) ?_
  refine lv_bipush (v := 24) hx hb (ct_d vI_X4_init 15 rfl) (by decide +kernel) ?_
  refine dm_newa (atype := .long) (ty := .long) (N' := 24) (a0 := (24, .inr (.inl (fun _ => 0)))) hx hb (hts (.arrayClass .long) (dm_hT _ (wI_X4_init _ (List.mem_of_getElem? (i := 3) rfl)))) rfl 1 rfl (fun _ z => by cases z) hK hP hD hS hA (fun _ => rfl) (by decide) (by decide +kernel) (by decide) (Nat.le_of_ble_eq_true rfl) (Nat.le_of_ble_eq_true rfl) (ct_d vI_X4_init 16 rfl) (fun q4 H hP hD hS => ?_)
  have hP : va_P D dm_cl [(h0, .inr (4, [.null, .null, .null, .ref q1, .ref q2, .ref q3, .null])), (q1, .inl (cA 1, 24, .inr (.inl (fun _ => 0)))), (q2, .inl (cA 2, 24, .inl (fun _ => 0))), (q3, .inl (cA 0, 24, .inl (fun _ => 0))), (q4, .inl (cA 1, 24, .inr (.inl (fun _ => 0))))] H := hP
  have hD : va_D A [(h0, .inr (4, [.null, .null, .null, .ref q1, .ref q2, .ref q3, .null])), (q1, .inl (cA 1, 24, .inr (.inl (fun _ => 0)))), (q2, .inl (cA 2, 24, .inl (fun _ => 0))), (q3, .inl (cA 0, 24, .inl (fun _ => 0))), (q4, .inl (cA 1, 24, .inr (.inl (fun _ => 0))))] := hD
  refine W.widen (k := 4) (n := 96) (Nat.le_of_ble_eq_true rfl) (Nat.le_of_ble_eq_true rfl) ?_
  refine va_putF (D := D) (ci := 4) (v := .ref q4) (ty := tyX4 6) (C := RX4) (T := TX4) (N := 7) hx hb hts (fun w h => dm_hT w (dm_u4 w h)) tyX4 tyX4_ok nmX4 hown hK hP hD hS 0 rfl rfl 6 (by decide) (hts (.fieldLink RX4 23 "CostFlow$Paths" "carried" "[J") (dm_hT _ (wI_X4_init _ (List.mem_of_getElem? (i := 9) rfl)))) (fun _ h9 => h9) rfl hin rfl (tyX4_ok 6 (by decide)) rfl rfl (Nat.le_of_ble_eq_true rfl) (ct_d vI_X4_init 17 rfl) (fun H locs hP hD hS => ?_)
  have hP : va_P D dm_cl [(h0, .inr (4, [.null, .null, .null, .ref q1, .ref q2, .ref q3, .ref q4])), (q1, .inl (cA 1, 24, .inr (.inl (fun _ => 0)))), (q2, .inl (cA 2, 24, .inl (fun _ => 0))), (q3, .inl (cA 0, 24, .inl (fun _ => 0))), (q4, .inl (cA 1, 24, .inr (.inl (fun _ => 0))))] H := hP
  have hD : va_D A [(h0, .inr (4, [.null, .null, .null, .ref q1, .ref q2, .ref q3, .ref q4])), (q1, .inl (cA 1, 24, .inr (.inl (fun _ => 0)))), (q2, .inl (cA 2, 24, .inl (fun _ => 0))), (q3, .inl (cA 0, 24, .inl (fun _ => 0))), (q4, .inl (cA 1, 24, .inr (.inl (fun _ => 0))))] := hD
  refine lv_aload_n hx hb (ct_d vI_X4_init 18 rfl) rfl (lv_at hl 0 rfl) ?_
  refine lv_aload_n hx hb (ct_d vI_X4_init 19 rfl) rfl (lv_at hl 1 rfl) ?_
  refine va_putF (D := D) (ci := 4) (v := .ref a1) (ty := tyX4 0) (C := RX4) (T := TX4) (N := 7) hx hb hts (fun w h => dm_hT w (dm_u4 w h)) tyX4 tyX4_ok nmX4 hown hK hP hD hS 0 rfl rfl 0 (by decide) (hts (.fieldLink RX4 26 "CostFlow$Paths" "net" "LCostFlow$Net;") (dm_hT _ (wI_X4_init _ (List.mem_of_getElem? (i := 10) rfl)))) (fun _ h9 => h9) rfl hin rfl (tyX4_ok 0 (by decide)) rfl rfl (Nat.le_of_ble_eq_true rfl) (ct_d vI_X4_init 20 rfl) (fun H locs hP hD hS => ?_)
  have hP : va_P D dm_cl [(h0, .inr (4, [.ref a1, .null, .null, .ref q1, .ref q2, .ref q3, .ref q4])), (q1, .inl (cA 1, 24, .inr (.inl (fun _ => 0)))), (q2, .inl (cA 2, 24, .inl (fun _ => 0))), (q3, .inl (cA 0, 24, .inl (fun _ => 0))), (q4, .inl (cA 1, 24, .inr (.inl (fun _ => 0))))] H := hP
  have hD : va_D A [(h0, .inr (4, [.ref a1, .null, .null, .ref q1, .ref q2, .ref q3, .ref q4])), (q1, .inl (cA 1, 24, .inr (.inl (fun _ => 0)))), (q2, .inl (cA 2, 24, .inl (fun _ => 0))), (q3, .inl (cA 0, 24, .inl (fun _ => 0))), (q4, .inl (cA 1, 24, .inr (.inl (fun _ => 0))))] := hD
  refine lv_aload_n hx hb (ct_d vI_X4_init 21 rfl) rfl (lv_at hl 0 rfl) ?_
  refine lv_aload_n hx hb (ct_d vI_X4_init 22 rfl) rfl (lv_at hl 2 rfl) ?_
  refine va_putF (D := D) (ci := 4) (v := .ref a2) (ty := tyX4 1) (C := RX4) (T := TX4) (N := 7) hx hb hts (fun w h => dm_hT w (dm_u4 w h)) tyX4 tyX4_ok nmX4 hown hK hP hD hS 0 rfl rfl 1 (by decide) (hts (.fieldLink RX4 30 "CostFlow$Paths" "lanes" "LCostFlow$Lanes;") (dm_hT _ (wI_X4_init _ (List.mem_of_getElem? (i := 11) rfl)))) (fun _ h9 => h9) rfl hin rfl (tyX4_ok 1 (by decide)) rfl rfl (Nat.le_of_ble_eq_true rfl) (ct_d vI_X4_init 23 rfl) (fun H locs hP hD hS => ?_)
  have hP : va_P D dm_cl [(h0, .inr (4, [.ref a1, .ref a2, .null, .ref q1, .ref q2, .ref q3, .ref q4])), (q1, .inl (cA 1, 24, .inr (.inl (fun _ => 0)))), (q2, .inl (cA 2, 24, .inl (fun _ => 0))), (q3, .inl (cA 0, 24, .inl (fun _ => 0))), (q4, .inl (cA 1, 24, .inr (.inl (fun _ => 0))))] H := hP
  have hD : va_D A [(h0, .inr (4, [.ref a1, .ref a2, .null, .ref q1, .ref q2, .ref q3, .ref q4])), (q1, .inl (cA 1, 24, .inr (.inl (fun _ => 0)))), (q2, .inl (cA 2, 24, .inl (fun _ => 0))), (q3, .inl (cA 0, 24, .inl (fun _ => 0))), (q4, .inl (cA 1, 24, .inr (.inl (fun _ => 0))))] := hD
  refine lv_aload_n hx hb (ct_d vI_X4_init 24 rfl) rfl (lv_at hl 0 rfl) ?_
  refine lv_aload_n hx hb (ct_d vI_X4_init 25 rfl) rfl (lv_at hl 3 rfl) ?_
  refine va_putF (D := D) (ci := 4) (v := .ref a3) (ty := tyX4 2) (C := RX4) (T := TX4) (N := 7) hx hb hts (fun w h => dm_hT w (dm_u4 w h)) tyX4 tyX4_ok nmX4 hown hK hP hD hS 0 rfl rfl 2 (by decide) (hts (.fieldLink RX4 34 "CostFlow$Paths" "prices" "[J") (dm_hT _ (wI_X4_init _ (List.mem_of_getElem? (i := 12) rfl)))) (fun _ h9 => h9) rfl hin rfl (tyX4_ok 2 (by decide)) rfl rfl (Nat.le_of_ble_eq_true rfl) (ct_d vI_X4_init 26 rfl) (fun H locs hP hD hS => ?_)
  have hP : va_P D dm_cl [(h0, .inr (4, [.ref a1, .ref a2, .ref a3, .ref q1, .ref q2, .ref q3, .ref q4])), (q1, .inl (cA 1, 24, .inr (.inl (fun _ => 0)))), (q2, .inl (cA 2, 24, .inl (fun _ => 0))), (q3, .inl (cA 0, 24, .inl (fun _ => 0))), (q4, .inl (cA 1, 24, .inr (.inl (fun _ => 0))))] H := hP
  have hD : va_D A [(h0, .inr (4, [.ref a1, .ref a2, .ref a3, .ref q1, .ref q2, .ref q3, .ref q4])), (q1, .inl (cA 1, 24, .inr (.inl (fun _ => 0)))), (q2, .inl (cA 2, 24, .inl (fun _ => 0))), (q3, .inl (cA 0, 24, .inl (fun _ => 0))), (q4, .inl (cA 1, 24, .inr (.inl (fun _ => 0))))] := hD
  refine W.widen (k := 4) (n := 96) (Nat.le_of_ble_eq_true rfl) (Nat.le_of_ble_eq_true rfl) ?_
  exact W.vret hx hb hr (fun t ht hW => ⟨⟨(), rfl, trivial, fun i => [0, q1, q2, q3, q4].getD i 0, by rw [ht]; exact hP, va_K.moved hW.alike hK, hD⟩, hS.F ht⟩) hS.2.2 (ct_d vI_X4_init 27 rfl)
def pI_X6_init : List (Nat × Instr × Nat) := [(0, .aload_n 0, 1), (1, .invokespecial 3, 3), (4, .aload_n 0, 1), (5, .sipush 600, 3), (8, .newarray .long, 2), (10, .putfield 9, 3), (13, .aload_n 0, 1), (14, .sipush 600, 3), (17, .newarray .int, 2), (19, .putfield 15, 3), (22, .aload_n 0, 1), (23, .bipush 24, 2), (25, .newarray .int, 2), (27, .putfield 19, 3), (30, .aload_n 0, 1), (31, .bipush 24, 2), (33, .newarray .int, 2), (35, .putfield 22, 3), (38, .aload_n 0, 1), (39, .aload_n 1, 1), (40, .putfield 25, 3), (43, .aload_n 0, 1), (44, .aload_n 2, 1), (45, .putfield 29, 3), (48, .aload_n 0, 1), (49, .aload_n 3, 1), (50, .putfield 33, 3), (53, .return_, 1)]
set_option maxRecDepth 100000 in
theorem vI_X6_init : pI_X6_init.all (fun q => decide (decode cX6_init q.1 = .ok (q.2.1, q.2.2))) = true := by decide +kernel
set_option maxRecDepth 100000 in
theorem wI_X6_init : ∀ w ∈ ([.methodLink RX6 3 objectInit, .instanceMethod objectInit, .code objectInit ⟨#[0xb1]⟩ 1 none, .arrayClass .long, .fieldLink RX6 9 "CostFlow$Rings" "costs" "[J", .arrayClass .int, .fieldLink RX6 15 "CostFlow$Rings" "lasts" "[I", .fieldLink RX6 19 "CostFlow$Rings" "trail" "[I", .fieldLink RX6 22 "CostFlow$Rings" "metAt" "[I", .fieldLink RX6 25 "CostFlow$Rings" "net" "LCostFlow$Net;", .fieldLink RX6 29 "CostFlow$Rings" "lanes" "LCostFlow$Lanes;", .fieldLink RX6 33 "CostFlow$Rings" "ways" "LCostFlow$Ways;"] : List Cond), w ∈ dm_tt := dm_mem [343, 87, 88, 160, 347, 161, 348, 349, 350, 344, 345, 346] (by decide +kernel) (by decide +kernel)
set_option maxRecDepth 100000 in
theorem wg_X6_init : ∀ w ∈ (Cond.code yX6_init cX6_init 4 none :: dm_tt), w ∈ dm_tt := fun w h => by
  rcases List.mem_cons.mp h with rfl | h
  · exact dm_mem (ws := [.code yX6_init cX6_init 4 none]) [342] (by decide +kernel) (by decide +kernel) _ List.mem_cons_self
  · exact h
theorem bl_X6 : ∀ j, j < 7 → defaultValue (tyX6 j) = vp_V [.null, .null, .null, .null, .null, .null, .null] j := by decide
set_option maxHeartbeats 4000000 in
set_option maxRecDepth 100000 in
theorem c_X6_init (l : Launch) (D : va_G) (cA : Nat → ClassId) (h0 a1 a2 a3 : Nat) (sz : Nat) : Met l yX6_init (Cond.code yX6_init cX6_init 4 none :: dm_tt) ({ frames := 1, cells := 4, slots := 1248, locals := 12 } : Room) (va_Pc [.ref h0, .ref a1, .ref a2, .ref a3] (fun U => U.heap.size = sz ∧ va_P D dm_cl [(h0, .inr (6, [.null, .null, .null, .null, .null, .null, .null]))] U.heap ∧ va_K D dm_cl (dm_tys cA) U ∧ va_D (fun _ => True) [(h0, .inr (6, [.null, .null, .null, .null, .null, .null, .null]))])) (va_Qv (fun _ : Unit => True) (fun _ t => ∃ g : Nat → Nat, va_P D dm_cl [(h0, .inr (6, [.ref a1, .ref a2, .ref a3, .ref (g 1), .ref (g 2), .ref (g 3), .ref (g 4)])), (g 1, .inl (cA 1, 600, .inr (.inl (fun _ => 0)))), (g 2, .inl (cA 0, 600, .inl (fun _ => 0))), (g 3, .inl (cA 0, 24, .inl (fun _ => 0))), (g 4, .inl (cA 0, 24, .inl (fun _ => 0)))] t.heap ∧ va_K D dm_cl (dm_tys cA) t ∧ va_D (va_A [(h0, .inr (6, [.null, .null, .null, .null, .null, .null, .null]))] sz) [(h0, .inr (6, [.ref a1, .ref a2, .ref a3, .ref (g 1), .ref (g 2), .ref (g 3), .ref (g 4)])), (g 1, .inl (cA 1, 600, .inr (.inl (fun _ => 0)))), (g 2, .inl (cA 0, 600, .inl (fun _ => 0))), (g 3, .inl (cA 0, 24, .inl (fun _ => 0))), (g 4, .inl (cA 0, 24, .inl (fun _ => 0)))]) (va_A [(h0, .inr (6, [.null, .null, .null, .null, .null, .null, .null]))] sz)) 4 1248 (va_A [(h0, .inr (6, [.null, .null, .null, .null, .null, .null, .null]))] sz) := by
  refine Met.ofW (cc := cX6_init) (maxL := 4) (ret := none) (by decide) rfl ?_
  intro p e s m args below meth c s₁ B hml hv
  obtain ⟨rfl, hsz, hP, hK, hD0⟩ := hv
  have hx := B.exec
  have hb := B.bytes
  have hr := B.returns
  have hts := atoms_spec (ws := Cond.code yX6_init cX6_init 4 none :: dm_tt) B.pre
  have hown : s.vm.findClass RX6 = some m.cls := findClass_of_methodNamed B.named
  have hlocks := B.notSynchronized
  have hin : meth.name = "<init>" := (name_of_methodNamed B.named B.method).1
  subst hsz
  have hD := hD0.self (sz := s.heap.size)
  generalize hAe : va_A [(h0, .inr (6, [.null, .null, .null, .null, .null, .null, .null]))] s.heap.size = A at hD ⊢
  have hA : ∀ q : Nat, s.heap.size ≤ q → A q := fun q h => by rw [← hAe]; exact Or.inr h
  have hS : va_S A s.heap s.heap [] := va_S.rf
  have hP : va_P D dm_cl [(h0, .inr (6, [.null, .null, .null, .null, .null, .null, .null]))] s.heap := hP
  have hl := lv_entry ([.ref h0, .ref a1, .ref a2, .ref a3]) (n := 4) (Nat.le_of_ble_eq_true rfl)
  rw [lg_entry_eq]
  generalize (lg_sl ([.ref h0, .ref a1, .ref a2, .ref a3]) ++ List.replicate (4 - (lg_sl ([.ref h0, .ref a1, .ref a2, .ref a3])).length) Slot.unset).toArray = ls at hl ⊢
  have hl : lv_has ls 4 [(0, .ref h0), (1, .ref a1), (2, .ref a2), (3, .ref a3)] := hl
  refine lv_aload_n hx hb (ct_d vI_X6_init 0 rfl) rfl (lv_at hl 0 rfl) ?_
  refine W.objInit hx hb hown (hts (.methodLink RX6 3 objectInit) (dm_hT _ (wI_X6_init _ (List.mem_of_getElem? (i := 0) rfl)))) (hts (.instanceMethod objectInit) (dm_hT _ (wI_X6_init _ (List.mem_of_getElem? (i := 1) rfl)))) (hts (.code objectInit ⟨#[0xb1]⟩ 1 none) (dm_hT _ (wI_X6_init _ (List.mem_of_getElem? (i := 2) rfl)))) rfl (by rw [hml]; exact hl.1) rfl (ct_d vI_X6_init 1 rfl) (Nat.le_of_ble_eq_true rfl) (Nat.le_of_ble_eq_true rfl) ?_
  refine W.eq (g2 := F0 m 4 ls []) rfl ?_
  refine lv_aload_n hx hb (ct_d vI_X6_init 2 rfl) rfl (lv_at hl 0 rfl) ?_
  refine lv_sipush (v := 600) hx hb (ct_d vI_X6_init 3 rfl) (by decide +kernel) ?_
  refine dm_newa (atype := .long) (ty := .long) (N' := 600) (a0 := (600, .inr (.inl (fun _ => 0)))) hx hb (hts (.arrayClass .long) (dm_hT _ (wI_X6_init _ (List.mem_of_getElem? (i := 3) rfl)))) rfl 1 rfl (fun _ z => by cases z) hK hP hD hS hA (fun _ => rfl) (by decide) (by decide +kernel) (by decide) (Nat.le_of_ble_eq_true rfl) (Nat.le_of_ble_eq_true rfl) (ct_d vI_X6_init 4 rfl) (fun q1 H hP hD hS => ?_)
  have hP : va_P D dm_cl [(h0, .inr (6, [.null, .null, .null, .null, .null, .null, .null])), (q1, .inl (cA 1, 600, .inr (.inl (fun _ => 0))))] H := hP
  have hD : va_D A [(h0, .inr (6, [.null, .null, .null, .null, .null, .null, .null])), (q1, .inl (cA 1, 600, .inr (.inl (fun _ => 0))))] := hD
  refine W.widen (k := 1) (n := 600) (Nat.le_of_ble_eq_true rfl) (Nat.le_of_ble_eq_true rfl) ?_
  refine va_putF (D := D) (ci := 6) (v := .ref q1) (ty := tyX6 3) (C := RX6) (T := TX6) (N := 7) hx hb hts (fun w h => dm_hT w (dm_u6 w h)) tyX6 tyX6_ok nmX6 hown hK hP hD hS 0 rfl rfl 3 (by decide) (hts (.fieldLink RX6 9 "CostFlow$Rings" "costs" "[J") (dm_hT _ (wI_X6_init _ (List.mem_of_getElem? (i := 4) rfl)))) (fun _ h9 => h9) rfl hin rfl (tyX6_ok 3 (by decide)) rfl rfl (Nat.le_of_ble_eq_true rfl) (ct_d vI_X6_init 5 rfl) (fun H locs hP hD hS => ?_)
  have hP : va_P D dm_cl [(h0, .inr (6, [.null, .null, .null, .ref q1, .null, .null, .null])), (q1, .inl (cA 1, 600, .inr (.inl (fun _ => 0))))] H := hP
  have hD : va_D A [(h0, .inr (6, [.null, .null, .null, .ref q1, .null, .null, .null])), (q1, .inl (cA 1, 600, .inr (.inl (fun _ => 0))))] := hD
  refine lv_aload_n hx hb (ct_d vI_X6_init 6 rfl) rfl (lv_at hl 0 rfl) ?_
  refine lv_sipush (v := 600) hx hb (ct_d vI_X6_init 7 rfl) (by decide +kernel) ?_
  refine dm_newa (atype := .int) (ty := .int) (N' := 600) (a0 := (600, .inl (fun _ => 0))) hx hb (hts (.arrayClass .int) (dm_hT _ (wI_X6_init _ (List.mem_of_getElem? (i := 5) rfl)))) rfl 0 rfl (fun _ z => by cases z) hK hP hD hS hA (fun _ => rfl) (by decide) (by decide +kernel) (by decide) (Nat.le_of_ble_eq_true rfl) (Nat.le_of_ble_eq_true rfl) (ct_d vI_X6_init 8 rfl) (fun q2 H hP hD hS => ?_)
  have hP : va_P D dm_cl [(h0, .inr (6, [.null, .null, .null, .ref q1, .null, .null, .null])), (q1, .inl (cA 1, 600, .inr (.inl (fun _ => 0)))), (q2, .inl (cA 0, 600, .inl (fun _ => 0)))] H := hP
  have hD : va_D A [(h0, .inr (6, [.null, .null, .null, .ref q1, .null, .null, .null])), (q1, .inl (cA 1, 600, .inr (.inl (fun _ => 0)))), (q2, .inl (cA 0, 600, .inl (fun _ => 0)))] := hD
  refine W.widen (k := 2) (n := 1200) (Nat.le_of_ble_eq_true rfl) (Nat.le_of_ble_eq_true rfl) ?_
  refine va_putF (D := D) (ci := 6) (v := .ref q2) (ty := tyX6 4) (C := RX6) (T := TX6) (N := 7) hx hb hts (fun w h => dm_hT w (dm_u6 w h)) tyX6 tyX6_ok nmX6 hown hK hP hD hS 0 rfl rfl 4 (by decide) (hts (.fieldLink RX6 15 "CostFlow$Rings" "lasts" "[I") (dm_hT _ (wI_X6_init _ (List.mem_of_getElem? (i := 6) rfl)))) (fun _ h9 => h9) rfl hin rfl (tyX6_ok 4 (by decide)) rfl rfl (Nat.le_of_ble_eq_true rfl) (ct_d vI_X6_init 9 rfl) (fun H locs hP hD hS => ?_)
  have hP : va_P D dm_cl [(h0, .inr (6, [.null, .null, .null, .ref q1, .ref q2, .null, .null])), (q1, .inl (cA 1, 600, .inr (.inl (fun _ => 0)))), (q2, .inl (cA 0, 600, .inl (fun _ => 0)))] H := hP
  have hD : va_D A [(h0, .inr (6, [.null, .null, .null, .ref q1, .ref q2, .null, .null])), (q1, .inl (cA 1, 600, .inr (.inl (fun _ => 0)))), (q2, .inl (cA 0, 600, .inl (fun _ => 0)))] := hD
  refine lv_aload_n hx hb (ct_d vI_X6_init 10 rfl) rfl (lv_at hl 0 rfl) ?_
  refine lv_bipush (v := 24) hx hb (ct_d vI_X6_init 11 rfl) (by decide +kernel) ?_
  refine dm_newa (atype := .int) (ty := .int) (N' := 24) (a0 := (24, .inl (fun _ => 0))) hx hb (hts (.arrayClass .int) (dm_hT _ (wI_X6_init _ (List.mem_of_getElem? (i := 5) rfl)))) rfl 0 rfl (fun _ z => by cases z) hK hP hD hS hA (fun _ => rfl) (by decide) (by decide +kernel) (by decide) (Nat.le_of_ble_eq_true rfl) (Nat.le_of_ble_eq_true rfl) (ct_d vI_X6_init 12 rfl) (fun q3 H hP hD hS => ?_)
  have hP : va_P D dm_cl [(h0, .inr (6, [.null, .null, .null, .ref q1, .ref q2, .null, .null])), (q1, .inl (cA 1, 600, .inr (.inl (fun _ => 0)))), (q2, .inl (cA 0, 600, .inl (fun _ => 0))), (q3, .inl (cA 0, 24, .inl (fun _ => 0)))] H := hP
  have hD : va_D A [(h0, .inr (6, [.null, .null, .null, .ref q1, .ref q2, .null, .null])), (q1, .inl (cA 1, 600, .inr (.inl (fun _ => 0)))), (q2, .inl (cA 0, 600, .inl (fun _ => 0))), (q3, .inl (cA 0, 24, .inl (fun _ => 0)))] := hD
  refine W.widen (k := 3) (n := 1224) (Nat.le_of_ble_eq_true rfl) (Nat.le_of_ble_eq_true rfl) ?_
  refine va_putF (D := D) (ci := 6) (v := .ref q3) (ty := tyX6 5) (C := RX6) (T := TX6) (N := 7) hx hb hts (fun w h => dm_hT w (dm_u6 w h)) tyX6 tyX6_ok nmX6 hown hK hP hD hS 0 rfl rfl 5 (by decide) (hts (.fieldLink RX6 19 "CostFlow$Rings" "trail" "[I") (dm_hT _ (wI_X6_init _ (List.mem_of_getElem? (i := 7) rfl)))) (fun _ h9 => h9) rfl hin rfl (tyX6_ok 5 (by decide)) rfl rfl (Nat.le_of_ble_eq_true rfl) (ct_d vI_X6_init 13 rfl) (fun H locs hP hD hS => ?_)
  have hP : va_P D dm_cl [(h0, .inr (6, [.null, .null, .null, .ref q1, .ref q2, .ref q3, .null])), (q1, .inl (cA 1, 600, .inr (.inl (fun _ => 0)))), (q2, .inl (cA 0, 600, .inl (fun _ => 0))), (q3, .inl (cA 0, 24, .inl (fun _ => 0)))] H := hP
  have hD : va_D A [(h0, .inr (6, [.null, .null, .null, .ref q1, .ref q2, .ref q3, .null])), (q1, .inl (cA 1, 600, .inr (.inl (fun _ => 0)))), (q2, .inl (cA 0, 600, .inl (fun _ => 0))), (q3, .inl (cA 0, 24, .inl (fun _ => 0)))] := hD
  refine lv_aload_n hx hb (ct_d vI_X6_init 14 rfl) rfl (lv_at hl 0 rfl) ?_
  refine lv_bipush (v := 24) hx hb (ct_d vI_X6_init 15 rfl) (by decide +kernel) ?_
  refine dm_newa (atype := .int) (ty := .int) (N' := 24) (a0 := (24, .inl (fun _ => 0))) hx hb (hts (.arrayClass .int) (dm_hT _ (wI_X6_init _ (List.mem_of_getElem? (i := 5) rfl)))) rfl 0 rfl (fun _ z => by cases z) hK hP hD hS hA (fun _ => rfl) (by decide) (by decide +kernel) (by decide) (Nat.le_of_ble_eq_true rfl) (Nat.le_of_ble_eq_true rfl) (ct_d vI_X6_init 16 rfl) (fun q4 H hP hD hS => ?_)
  have hP : va_P D dm_cl [(h0, .inr (6, [.null, .null, .null, .ref q1, .ref q2, .ref q3, .null])), (q1, .inl (cA 1, 600, .inr (.inl (fun _ => 0)))), (q2, .inl (cA 0, 600, .inl (fun _ => 0))), (q3, .inl (cA 0, 24, .inl (fun _ => 0))), (q4, .inl (cA 0, 24, .inl (fun _ => 0)))] H := hP
  have hD : va_D A [(h0, .inr (6, [.null, .null, .null, .ref q1, .ref q2, .ref q3, .null])), (q1, .inl (cA 1, 600, .inr (.inl (fun _ => 0)))), (q2, .inl (cA 0, 600, .inl (fun _ => 0))), (q3, .inl (cA 0, 24, .inl (fun _ => 0))), (q4, .inl (cA 0, 24, .inl (fun _ => 0)))] := hD
  refine W.widen (k := 4) (n := 1248) (Nat.le_of_ble_eq_true rfl) (Nat.le_of_ble_eq_true rfl) ?_
  refine va_putF (D := D) (ci := 6) (v := .ref q4) (ty := tyX6 6) (C := RX6) (T := TX6) (N := 7) hx hb hts (fun w h => dm_hT w (dm_u6 w h)) tyX6 tyX6_ok nmX6 hown hK hP hD hS 0 rfl rfl 6 (by decide) (hts (.fieldLink RX6 22 "CostFlow$Rings" "metAt" "[I") (dm_hT _ (wI_X6_init _ (List.mem_of_getElem? (i := 8) rfl)))) (fun _ h9 => h9) rfl hin rfl (tyX6_ok 6 (by decide)) rfl rfl (Nat.le_of_ble_eq_true rfl) (ct_d vI_X6_init 17 rfl) (fun H locs hP hD hS => ?_)
  have hP : va_P D dm_cl [(h0, .inr (6, [.null, .null, .null, .ref q1, .ref q2, .ref q3, .ref q4])), (q1, .inl (cA 1, 600, .inr (.inl (fun _ => 0)))), (q2, .inl (cA 0, 600, .inl (fun _ => 0))), (q3, .inl (cA 0, 24, .inl (fun _ => 0))), (q4, .inl (cA 0, 24, .inl (fun _ => 0)))] H := hP
  have hD : va_D A [(h0, .inr (6, [.null, .null, .null, .ref q1, .ref q2, .ref q3, .ref q4])), (q1, .inl (cA 1, 600, .inr (.inl (fun _ => 0)))), (q2, .inl (cA 0, 600, .inl (fun _ => 0))), (q3, .inl (cA 0, 24, .inl (fun _ => 0))), (q4, .inl (cA 0, 24, .inl (fun _ => 0)))] := hD
  refine lv_aload_n hx hb (ct_d vI_X6_init 18 rfl) rfl (lv_at hl 0 rfl) ?_
  refine lv_aload_n hx hb (ct_d vI_X6_init 19 rfl) rfl (lv_at hl 1 rfl) ?_
  refine va_putF (D := D) (ci := 6) (v := .ref a1) (ty := tyX6 0) (C := RX6) (T := TX6) (N := 7) hx hb hts (fun w h => dm_hT w (dm_u6 w h)) tyX6 tyX6_ok nmX6 hown hK hP hD hS 0 rfl rfl 0 (by decide) (hts (.fieldLink RX6 25 "CostFlow$Rings" "net" "LCostFlow$Net;") (dm_hT _ (wI_X6_init _ (List.mem_of_getElem? (i := 9) rfl)))) (fun _ h9 => h9) rfl hin rfl (tyX6_ok 0 (by decide)) rfl rfl (Nat.le_of_ble_eq_true rfl) (ct_d vI_X6_init 20 rfl) (fun H locs hP hD hS => ?_)
  have hP : va_P D dm_cl [(h0, .inr (6, [.ref a1, .null, .null, .ref q1, .ref q2, .ref q3, .ref q4])), (q1, .inl (cA 1, 600, .inr (.inl (fun _ => 0)))), (q2, .inl (cA 0, 600, .inl (fun _ => 0))), (q3, .inl (cA 0, 24, .inl (fun _ => 0))), (q4, .inl (cA 0, 24, .inl (fun _ => 0)))] H := hP
  have hD : va_D A [(h0, .inr (6, [.ref a1, .null, .null, .ref q1, .ref q2, .ref q3, .ref q4])), (q1, .inl (cA 1, 600, .inr (.inl (fun _ => 0)))), (q2, .inl (cA 0, 600, .inl (fun _ => 0))), (q3, .inl (cA 0, 24, .inl (fun _ => 0))), (q4, .inl (cA 0, 24, .inl (fun _ => 0)))] := hD
  refine lv_aload_n hx hb (ct_d vI_X6_init 21 rfl) rfl (lv_at hl 0 rfl) ?_
  refine lv_aload_n hx hb (ct_d vI_X6_init 22 rfl) rfl (lv_at hl 2 rfl) ?_
  refine va_putF (D := D) (ci := 6) (v := .ref a2) (ty := tyX6 1) (C := RX6) (T := TX6) (N := 7) hx hb hts (fun w h => dm_hT w (dm_u6 w h)) tyX6 tyX6_ok nmX6 hown hK hP hD hS 0 rfl rfl 1 (by decide) (hts (.fieldLink RX6 29 "CostFlow$Rings" "lanes" "LCostFlow$Lanes;") (dm_hT _ (wI_X6_init _ (List.mem_of_getElem? (i := 10) rfl)))) (fun _ h9 => h9) rfl hin rfl (tyX6_ok 1 (by decide)) rfl rfl (Nat.le_of_ble_eq_true rfl) (ct_d vI_X6_init 23 rfl) (fun H locs hP hD hS => ?_)
  have hP : va_P D dm_cl [(h0, .inr (6, [.ref a1, .ref a2, .null, .ref q1, .ref q2, .ref q3, .ref q4])), (q1, .inl (cA 1, 600, .inr (.inl (fun _ => 0)))), (q2, .inl (cA 0, 600, .inl (fun _ => 0))), (q3, .inl (cA 0, 24, .inl (fun _ => 0))), (q4, .inl (cA 0, 24, .inl (fun _ => 0)))] H := hP
  have hD : va_D A [(h0, .inr (6, [.ref a1, .ref a2, .null, .ref q1, .ref q2, .ref q3, .ref q4])), (q1, .inl (cA 1, 600, .inr (.inl (fun _ => 0)))), (q2, .inl (cA 0, 600, .inl (fun _ => 0))), (q3, .inl (cA 0, 24, .inl (fun _ => 0))), (q4, .inl (cA 0, 24, .inl (fun _ => 0)))] := hD
  refine lv_aload_n hx hb (ct_d vI_X6_init 24 rfl) rfl (lv_at hl 0 rfl) ?_
  refine lv_aload_n hx hb (ct_d vI_X6_init 25 rfl) rfl (lv_at hl 3 rfl) ?_
  refine va_putF (D := D) (ci := 6) (v := .ref a3) (ty := tyX6 2) (C := RX6) (T := TX6) (N := 7) hx hb hts (fun w h => dm_hT w (dm_u6 w h)) tyX6 tyX6_ok nmX6 hown hK hP hD hS 0 rfl rfl 2 (by decide) (hts (.fieldLink RX6 33 "CostFlow$Rings" "ways" "LCostFlow$Ways;") (dm_hT _ (wI_X6_init _ (List.mem_of_getElem? (i := 11) rfl)))) (fun _ h9 => h9) rfl hin rfl (tyX6_ok 2 (by decide)) rfl rfl (Nat.le_of_ble_eq_true rfl) (ct_d vI_X6_init 26 rfl) (fun H locs hP hD hS => ?_)
  have hP : va_P D dm_cl [(h0, .inr (6, [.ref a1, .ref a2, .ref a3, .ref q1, .ref q2, .ref q3, .ref q4])), (q1, .inl (cA 1, 600, .inr (.inl (fun _ => 0)))), (q2, .inl (cA 0, 600, .inl (fun _ => 0))), (q3, .inl (cA 0, 24, .inl (fun _ => 0))), (q4, .inl (cA 0, 24, .inl (fun _ => 0)))] H := hP
  have hD : va_D A [(h0, .inr (6, [.ref a1, .ref a2, .ref a3, .ref q1, .ref q2, .ref q3, .ref q4])), (q1, .inl (cA 1, 600, .inr (.inl (fun _ => 0)))), (q2, .inl (cA 0, 600, .inl (fun _ => 0))), (q3, .inl (cA 0, 24, .inl (fun _ => 0))), (q4, .inl (cA 0, 24, .inl (fun _ => 0)))] := hD
  refine W.widen (k := 4) (n := 1248) (Nat.le_of_ble_eq_true rfl) (Nat.le_of_ble_eq_true rfl) ?_
  exact W.vret hx hb hr (fun t ht hW => ⟨⟨(), rfl, trivial, fun i => [0, q1, q2, q3, q4].getD i 0, by rw [ht]; exact hP, va_K.moved hW.alike hK, hD⟩, hS.F ht⟩) hS.2.2 (ct_d vI_X6_init 27 rfl)
def pI_X0_init : List (Nat × Instr × Nat) := [(0, .aload_n 0, 1), (1, .invokespecial 3, 3), (4, .aload_n 0, 1), (5, .bipush 24, 2), (7, .newarray .int, 2), (9, .putfield 9, 3), (12, .aload_n 0, 1), (13, .sipush 600, 3), (16, .newarray .long, 2), (18, .putfield 15, 3), (21, .aload_n 0, 1), (22, .aload_n 1, 1), (23, .putfield 19, 3), (26, .return_, 1)]
set_option maxRecDepth 100000 in
theorem vI_X0_init : pI_X0_init.all (fun q => decide (decode cX0_init q.1 = .ok (q.2.1, q.2.2))) = true := by decide +kernel
set_option maxRecDepth 100000 in
theorem wI_X0_init : ∀ w ∈ ([.methodLink RX0 3 objectInit, .instanceMethod objectInit, .code objectInit ⟨#[0xb1]⟩ 1 none, .arrayClass .int, .fieldLink RX0 9 "CostFlow$Falling" "arcs" "[I", .arrayClass .long, .fieldLink RX0 15 "CostFlow$Falling" "costs" "[J", .fieldLink RX0 19 "CostFlow$Falling" "net" "LCostFlow$Net;"] : List Cond), w ∈ dm_tt := dm_mem [371, 87, 88, 161, 373, 160, 375, 372] (by decide +kernel) (by decide +kernel)
set_option maxRecDepth 100000 in
theorem wg_X0_init : ∀ w ∈ (Cond.code yX0_init cX0_init 2 none :: dm_tt), w ∈ dm_tt := fun w h => by
  rcases List.mem_cons.mp h with rfl | h
  · exact dm_mem (ws := [.code yX0_init cX0_init 2 none]) [370] (by decide +kernel) (by decide +kernel) _ List.mem_cons_self
  · exact h
theorem bl_X0 : ∀ j, j < 4 → defaultValue (tyX0 j) = vp_V [.null, .null, .null, .int 0] j := by decide
set_option maxHeartbeats 4000000 in
set_option maxRecDepth 100000 in
theorem c_X0_init (l : Launch) (D : va_G) (cA : Nat → ClassId) (h0 a1 : Nat) (sz : Nat) : Met l yX0_init (Cond.code yX0_init cX0_init 2 none :: dm_tt) ({ frames := 1, cells := 2, slots := 624, locals := 12 } : Room) (va_Pc [.ref h0, .ref a1] (fun U => U.heap.size = sz ∧ va_P D dm_cl [(h0, .inr (0, [.null, .null, .null, .int 0]))] U.heap ∧ va_K D dm_cl (dm_tys cA) U ∧ va_D (fun _ => True) [(h0, .inr (0, [.null, .null, .null, .int 0]))])) (va_Qv (fun _ : Unit => True) (fun _ t => ∃ g : Nat → Nat, va_P D dm_cl [(h0, .inr (0, [.ref a1, .ref (g 1), .ref (g 2), .int 0])), (g 1, .inl (cA 0, 24, .inl (fun _ => 0))), (g 2, .inl (cA 1, 600, .inr (.inl (fun _ => 0))))] t.heap ∧ va_K D dm_cl (dm_tys cA) t ∧ va_D (va_A [(h0, .inr (0, [.null, .null, .null, .int 0]))] sz) [(h0, .inr (0, [.ref a1, .ref (g 1), .ref (g 2), .int 0])), (g 1, .inl (cA 0, 24, .inl (fun _ => 0))), (g 2, .inl (cA 1, 600, .inr (.inl (fun _ => 0))))]) (va_A [(h0, .inr (0, [.null, .null, .null, .int 0]))] sz)) 2 624 (va_A [(h0, .inr (0, [.null, .null, .null, .int 0]))] sz) := by
  refine Met.ofW (cc := cX0_init) (maxL := 2) (ret := none) (by decide) rfl ?_
  intro p e s m args below meth c s₁ B hml hv
  obtain ⟨rfl, hsz, hP, hK, hD0⟩ := hv
  have hx := B.exec
  have hb := B.bytes
  have hr := B.returns
  have hts := atoms_spec (ws := Cond.code yX0_init cX0_init 2 none :: dm_tt) B.pre
  have hown : s.vm.findClass RX0 = some m.cls := findClass_of_methodNamed B.named
  have hlocks := B.notSynchronized
  have hin : meth.name = "<init>" := (name_of_methodNamed B.named B.method).1
  subst hsz
  have hD := hD0.self (sz := s.heap.size)
  generalize hAe : va_A [(h0, .inr (0, [.null, .null, .null, .int 0]))] s.heap.size = A at hD ⊢
  have hA : ∀ q : Nat, s.heap.size ≤ q → A q := fun q h => by rw [← hAe]; exact Or.inr h
  have hS : va_S A s.heap s.heap [] := va_S.rf
  have hP : va_P D dm_cl [(h0, .inr (0, [.null, .null, .null, .int 0]))] s.heap := hP
  have hl := lv_entry ([.ref h0, .ref a1]) (n := 2) (Nat.le_of_ble_eq_true rfl)
  rw [lg_entry_eq]
  generalize (lg_sl ([.ref h0, .ref a1]) ++ List.replicate (2 - (lg_sl ([.ref h0, .ref a1])).length) Slot.unset).toArray = ls at hl ⊢
  have hl : lv_has ls 2 [(0, .ref h0), (1, .ref a1)] := hl
  refine lv_aload_n hx hb (ct_d vI_X0_init 0 rfl) rfl (lv_at hl 0 rfl) ?_
  refine W.objInit hx hb hown (hts (.methodLink RX0 3 objectInit) (dm_hT _ (wI_X0_init _ (List.mem_of_getElem? (i := 0) rfl)))) (hts (.instanceMethod objectInit) (dm_hT _ (wI_X0_init _ (List.mem_of_getElem? (i := 1) rfl)))) (hts (.code objectInit ⟨#[0xb1]⟩ 1 none) (dm_hT _ (wI_X0_init _ (List.mem_of_getElem? (i := 2) rfl)))) rfl (by rw [hml]; exact hl.1) rfl (ct_d vI_X0_init 1 rfl) (Nat.le_of_ble_eq_true rfl) (Nat.le_of_ble_eq_true rfl) ?_
  refine W.eq (g2 := F0 m 4 ls []) rfl ?_
  refine lv_aload_n hx hb (ct_d vI_X0_init 2 rfl) rfl (lv_at hl 0 rfl) ?_
  refine lv_bipush (v := 24) hx hb (ct_d vI_X0_init 3 rfl) (by decide +kernel) ?_
  refine dm_newa (atype := .int) (ty := .int) (N' := 24) (a0 := (24, .inl (fun _ => 0))) hx hb (hts (.arrayClass .int) (dm_hT _ (wI_X0_init _ (List.mem_of_getElem? (i := 3) rfl)))) rfl 0 rfl (fun _ z => by cases z) hK hP hD hS hA (fun _ => rfl) (by decide) (by decide +kernel) (by decide) (Nat.le_of_ble_eq_true rfl) (Nat.le_of_ble_eq_true rfl) (ct_d vI_X0_init 4 rfl) (fun q1 H hP hD hS => ?_)
  have hP : va_P D dm_cl [(h0, .inr (0, [.null, .null, .null, .int 0])), (q1, .inl (cA 0, 24, .inl (fun _ => 0)))] H := hP
  have hD : va_D A [(h0, .inr (0, [.null, .null, .null, .int 0])), (q1, .inl (cA 0, 24, .inl (fun _ => 0)))] := hD
  refine W.widen (k := 1) (n := 24) (Nat.le_of_ble_eq_true rfl) (Nat.le_of_ble_eq_true rfl) ?_
  refine va_putF (D := D) (ci := 0) (v := .ref q1) (ty := tyX0 1) (C := RX0) (T := TX0) (N := 4) hx hb hts (fun w h => dm_hT w (dm_u0 w h)) tyX0 tyX0_ok nmX0 hown hK hP hD hS 0 rfl rfl 1 (by decide) (hts (.fieldLink RX0 9 "CostFlow$Falling" "arcs" "[I") (dm_hT _ (wI_X0_init _ (List.mem_of_getElem? (i := 4) rfl)))) (fun _ h9 => h9) rfl hin rfl (tyX0_ok 1 (by decide)) rfl rfl (Nat.le_of_ble_eq_true rfl) (ct_d vI_X0_init 5 rfl) (fun H locs hP hD hS => ?_)
  have hP : va_P D dm_cl [(h0, .inr (0, [.null, .ref q1, .null, .int 0])), (q1, .inl (cA 0, 24, .inl (fun _ => 0)))] H := hP
  have hD : va_D A [(h0, .inr (0, [.null, .ref q1, .null, .int 0])), (q1, .inl (cA 0, 24, .inl (fun _ => 0)))] := hD
  refine lv_aload_n hx hb (ct_d vI_X0_init 6 rfl) rfl (lv_at hl 0 rfl) ?_
  refine lv_sipush (v := 600) hx hb (ct_d vI_X0_init 7 rfl) (by decide +kernel) ?_
  refine dm_newa (atype := .long) (ty := .long) (N' := 600) (a0 := (600, .inr (.inl (fun _ => 0)))) hx hb (hts (.arrayClass .long) (dm_hT _ (wI_X0_init _ (List.mem_of_getElem? (i := 5) rfl)))) rfl 1 rfl (fun _ z => by cases z) hK hP hD hS hA (fun _ => rfl) (by decide) (by decide +kernel) (by decide) (Nat.le_of_ble_eq_true rfl) (Nat.le_of_ble_eq_true rfl) (ct_d vI_X0_init 8 rfl) (fun q2 H hP hD hS => ?_)
  have hP : va_P D dm_cl [(h0, .inr (0, [.null, .ref q1, .null, .int 0])), (q1, .inl (cA 0, 24, .inl (fun _ => 0))), (q2, .inl (cA 1, 600, .inr (.inl (fun _ => 0))))] H := hP
  have hD : va_D A [(h0, .inr (0, [.null, .ref q1, .null, .int 0])), (q1, .inl (cA 0, 24, .inl (fun _ => 0))), (q2, .inl (cA 1, 600, .inr (.inl (fun _ => 0))))] := hD
  refine W.widen (k := 2) (n := 624) (Nat.le_of_ble_eq_true rfl) (Nat.le_of_ble_eq_true rfl) ?_
  refine va_putF (D := D) (ci := 0) (v := .ref q2) (ty := tyX0 2) (C := RX0) (T := TX0) (N := 4) hx hb hts (fun w h => dm_hT w (dm_u0 w h)) tyX0 tyX0_ok nmX0 hown hK hP hD hS 0 rfl rfl 2 (by decide) (hts (.fieldLink RX0 15 "CostFlow$Falling" "costs" "[J") (dm_hT _ (wI_X0_init _ (List.mem_of_getElem? (i := 6) rfl)))) (fun _ h9 => h9) rfl hin rfl (tyX0_ok 2 (by decide)) rfl rfl (Nat.le_of_ble_eq_true rfl) (ct_d vI_X0_init 9 rfl) (fun H locs hP hD hS => ?_)
  have hP : va_P D dm_cl [(h0, .inr (0, [.null, .ref q1, .ref q2, .int 0])), (q1, .inl (cA 0, 24, .inl (fun _ => 0))), (q2, .inl (cA 1, 600, .inr (.inl (fun _ => 0))))] H := hP
  have hD : va_D A [(h0, .inr (0, [.null, .ref q1, .ref q2, .int 0])), (q1, .inl (cA 0, 24, .inl (fun _ => 0))), (q2, .inl (cA 1, 600, .inr (.inl (fun _ => 0))))] := hD
  refine lv_aload_n hx hb (ct_d vI_X0_init 10 rfl) rfl (lv_at hl 0 rfl) ?_
  refine lv_aload_n hx hb (ct_d vI_X0_init 11 rfl) rfl (lv_at hl 1 rfl) ?_
  refine va_putF (D := D) (ci := 0) (v := .ref a1) (ty := tyX0 0) (C := RX0) (T := TX0) (N := 4) hx hb hts (fun w h => dm_hT w (dm_u0 w h)) tyX0 tyX0_ok nmX0 hown hK hP hD hS 0 rfl rfl 0 (by decide) (hts (.fieldLink RX0 19 "CostFlow$Falling" "net" "LCostFlow$Net;") (dm_hT _ (wI_X0_init _ (List.mem_of_getElem? (i := 7) rfl)))) (fun _ h9 => h9) rfl hin rfl (tyX0_ok 0 (by decide)) rfl rfl (Nat.le_of_ble_eq_true rfl) (ct_d vI_X0_init 12 rfl) (fun H locs hP hD hS => ?_)
  have hP : va_P D dm_cl [(h0, .inr (0, [.ref a1, .ref q1, .ref q2, .int 0])), (q1, .inl (cA 0, 24, .inl (fun _ => 0))), (q2, .inl (cA 1, 600, .inr (.inl (fun _ => 0))))] H := hP
  have hD : va_D A [(h0, .inr (0, [.ref a1, .ref q1, .ref q2, .int 0])), (q1, .inl (cA 0, 24, .inl (fun _ => 0))), (q2, .inl (cA 1, 600, .inr (.inl (fun _ => 0))))] := hD
  refine W.widen (k := 2) (n := 624) (Nat.le_of_ble_eq_true rfl) (Nat.le_of_ble_eq_true rfl) ?_
  exact W.vret hx hb hr (fun t ht hW => ⟨⟨(), rfl, trivial, fun i => [0, q1, q2].getD i 0, by rw [ht]; exact hP, va_K.moved hW.alike hK, hD⟩, hS.F ht⟩) hS.2.2 (ct_d vI_X0_init 13 rfl)
def pI_X8_init : List (Nat × Instr × Nat) := [(0, .aload_n 0, 1), (1, .invokespecial 3, 3), (4, .aload_n 0, 1), (5, .bipush 24, 2), (7, .newarray .int, 2), (9, .putfield 9, 3), (12, .aload_n 0, 1), (13, .aload_n 1, 1), (14, .putfield 15, 3), (17, .return_, 1)]
set_option maxRecDepth 100000 in
theorem vI_X8_init : pI_X8_init.all (fun q => decide (decode cX8_init q.1 = .ok (q.2.1, q.2.2))) = true := by decide +kernel
set_option maxRecDepth 100000 in
theorem wI_X8_init : ∀ w ∈ ([.methodLink RX8 3 objectInit, .instanceMethod objectInit, .code objectInit ⟨#[0xb1]⟩ 1 none, .arrayClass .int, .fieldLink RX8 9 "CostFlow$Unserved" "members" "[I", .fieldLink RX8 15 "CostFlow$Unserved" "net" "LCostFlow$Net;"] : List Cond), w ∈ dm_tt := dm_mem [392, 87, 88, 161, 394, 393] (by decide +kernel) (by decide +kernel)
set_option maxRecDepth 100000 in
theorem wg_X8_init : ∀ w ∈ (Cond.code yX8_init cX8_init 2 none :: dm_tt), w ∈ dm_tt := fun w h => by
  rcases List.mem_cons.mp h with rfl | h
  · exact dm_mem (ws := [.code yX8_init cX8_init 2 none]) [391] (by decide +kernel) (by decide +kernel) _ List.mem_cons_self
  · exact h
theorem bl_X8 : ∀ j, j < 3 → defaultValue (tyX8 j) = vp_V [.null, .null, .int 0] j := by decide
set_option maxHeartbeats 4000000 in
set_option maxRecDepth 100000 in
theorem c_X8_init (l : Launch) (D : va_G) (cA : Nat → ClassId) (h0 a1 : Nat) (sz : Nat) : Met l yX8_init (Cond.code yX8_init cX8_init 2 none :: dm_tt) ({ frames := 1, cells := 1, slots := 24, locals := 12 } : Room) (va_Pc [.ref h0, .ref a1] (fun U => U.heap.size = sz ∧ va_P D dm_cl [(h0, .inr (8, [.null, .null, .int 0]))] U.heap ∧ va_K D dm_cl (dm_tys cA) U ∧ va_D (fun _ => True) [(h0, .inr (8, [.null, .null, .int 0]))])) (va_Qv (fun _ : Unit => True) (fun _ t => ∃ g : Nat → Nat, va_P D dm_cl [(h0, .inr (8, [.ref a1, .ref (g 1), .int 0])), (g 1, .inl (cA 0, 24, .inl (fun _ => 0)))] t.heap ∧ va_K D dm_cl (dm_tys cA) t ∧ va_D (va_A [(h0, .inr (8, [.null, .null, .int 0]))] sz) [(h0, .inr (8, [.ref a1, .ref (g 1), .int 0])), (g 1, .inl (cA 0, 24, .inl (fun _ => 0)))]) (va_A [(h0, .inr (8, [.null, .null, .int 0]))] sz)) 1 24 (va_A [(h0, .inr (8, [.null, .null, .int 0]))] sz) := by
  refine Met.ofW (cc := cX8_init) (maxL := 2) (ret := none) (by decide) rfl ?_
  intro p e s m args below meth c s₁ B hml hv
  obtain ⟨rfl, hsz, hP, hK, hD0⟩ := hv
  have hx := B.exec
  have hb := B.bytes
  have hr := B.returns
  have hts := atoms_spec (ws := Cond.code yX8_init cX8_init 2 none :: dm_tt) B.pre
  have hown : s.vm.findClass RX8 = some m.cls := findClass_of_methodNamed B.named
  have hlocks := B.notSynchronized
  have hin : meth.name = "<init>" := (name_of_methodNamed B.named B.method).1
  subst hsz
  have hD := hD0.self (sz := s.heap.size)
  generalize hAe : va_A [(h0, .inr (8, [.null, .null, .int 0]))] s.heap.size = A at hD ⊢
  have hA : ∀ q : Nat, s.heap.size ≤ q → A q := fun q h => by rw [← hAe]; exact Or.inr h
  have hS : va_S A s.heap s.heap [] := va_S.rf
  have hP : va_P D dm_cl [(h0, .inr (8, [.null, .null, .int 0]))] s.heap := hP
  have hl := lv_entry ([.ref h0, .ref a1]) (n := 2) (Nat.le_of_ble_eq_true rfl)
  rw [lg_entry_eq]
  generalize (lg_sl ([.ref h0, .ref a1]) ++ List.replicate (2 - (lg_sl ([.ref h0, .ref a1])).length) Slot.unset).toArray = ls at hl ⊢
  have hl : lv_has ls 2 [(0, .ref h0), (1, .ref a1)] := hl
  refine lv_aload_n hx hb (ct_d vI_X8_init 0 rfl) rfl (lv_at hl 0 rfl) ?_
  refine W.objInit hx hb hown (hts (.methodLink RX8 3 objectInit) (dm_hT _ (wI_X8_init _ (List.mem_of_getElem? (i := 0) rfl)))) (hts (.instanceMethod objectInit) (dm_hT _ (wI_X8_init _ (List.mem_of_getElem? (i := 1) rfl)))) (hts (.code objectInit ⟨#[0xb1]⟩ 1 none) (dm_hT _ (wI_X8_init _ (List.mem_of_getElem? (i := 2) rfl)))) rfl (by rw [hml]; exact hl.1) rfl (ct_d vI_X8_init 1 rfl) (Nat.le_of_ble_eq_true rfl) (Nat.le_of_ble_eq_true rfl) ?_
  refine W.eq (g2 := F0 m 4 ls []) rfl ?_
  refine lv_aload_n hx hb (ct_d vI_X8_init 2 rfl) rfl (lv_at hl 0 rfl) ?_
  refine lv_bipush (v := 24) hx hb (ct_d vI_X8_init 3 rfl) (by decide +kernel) ?_
  refine dm_newa (atype := .int) (ty := .int) (N' := 24) (a0 := (24, .inl (fun _ => 0))) hx hb (hts (.arrayClass .int) (dm_hT _ (wI_X8_init _ (List.mem_of_getElem? (i := 3) rfl)))) rfl 0 rfl (fun _ z => by cases z) hK hP hD hS hA (fun _ => rfl) (by decide) (by decide +kernel) (by decide) (Nat.le_of_ble_eq_true rfl) (Nat.le_of_ble_eq_true rfl) (ct_d vI_X8_init 4 rfl) (fun q1 H hP hD hS => ?_)
  have hP : va_P D dm_cl [(h0, .inr (8, [.null, .null, .int 0])), (q1, .inl (cA 0, 24, .inl (fun _ => 0)))] H := hP
  have hD : va_D A [(h0, .inr (8, [.null, .null, .int 0])), (q1, .inl (cA 0, 24, .inl (fun _ => 0)))] := hD
  refine W.widen (k := 1) (n := 24) (Nat.le_of_ble_eq_true rfl) (Nat.le_of_ble_eq_true rfl) ?_
  refine va_putF (D := D) (ci := 8) (v := .ref q1) (ty := tyX8 1) (C := RX8) (T := TX8) (N := 3) hx hb hts (fun w h => dm_hT w (dm_u8 w h)) tyX8 tyX8_ok nmX8 hown hK hP hD hS 0 rfl rfl 1 (by decide) (hts (.fieldLink RX8 9 "CostFlow$Unserved" "members" "[I") (dm_hT _ (wI_X8_init _ (List.mem_of_getElem? (i := 4) rfl)))) (fun _ h9 => h9) rfl hin rfl (tyX8_ok 1 (by decide)) rfl rfl (Nat.le_of_ble_eq_true rfl) (ct_d vI_X8_init 5 rfl) (fun H locs hP hD hS => ?_)
  have hP : va_P D dm_cl [(h0, .inr (8, [.null, .ref q1, .int 0])), (q1, .inl (cA 0, 24, .inl (fun _ => 0)))] H := hP
  have hD : va_D A [(h0, .inr (8, [.null, .ref q1, .int 0])), (q1, .inl (cA 0, 24, .inl (fun _ => 0)))] := hD
  refine lv_aload_n hx hb (ct_d vI_X8_init 6 rfl) rfl (lv_at hl 0 rfl) ?_
  refine lv_aload_n hx hb (ct_d vI_X8_init 7 rfl) rfl (lv_at hl 1 rfl) ?_
  refine va_putF (D := D) (ci := 8) (v := .ref a1) (ty := tyX8 0) (C := RX8) (T := TX8) (N := 3) hx hb hts (fun w h => dm_hT w (dm_u8 w h)) tyX8 tyX8_ok nmX8 hown hK hP hD hS 0 rfl rfl 0 (by decide) (hts (.fieldLink RX8 15 "CostFlow$Unserved" "net" "LCostFlow$Net;") (dm_hT _ (wI_X8_init _ (List.mem_of_getElem? (i := 5) rfl)))) (fun _ h9 => h9) rfl hin rfl (tyX8_ok 0 (by decide)) rfl rfl (Nat.le_of_ble_eq_true rfl) (ct_d vI_X8_init 8 rfl) (fun H locs hP hD hS => ?_)
  have hP : va_P D dm_cl [(h0, .inr (8, [.ref a1, .ref q1, .int 0])), (q1, .inl (cA 0, 24, .inl (fun _ => 0)))] H := hP
  have hD : va_D A [(h0, .inr (8, [.ref a1, .ref q1, .int 0])), (q1, .inl (cA 0, 24, .inl (fun _ => 0)))] := hD
  refine W.widen (k := 1) (n := 24) (Nat.le_of_ble_eq_true rfl) (Nat.le_of_ble_eq_true rfl) ?_
  exact W.vret hx hb hr (fun t ht hW => ⟨⟨(), rfl, trivial, fun i => [0, q1].getD i 0, by rw [ht]; exact hP, va_K.moved hW.alike hK, hD⟩, hS.F ht⟩) hS.2.2 (ct_d vI_X8_init 9 rfl)
def pI_X3_init : List (Nat × Instr × Nat) := [(0, .aload_n 0, 1), (1, .invokespecial 3, 3), (4, .aload_n 0, 1), (5, .bipush 64, 2), (7, .newarray .long, 2), (9, .putfield 9, 3), (12, .aload_n 0, 1), (13, .bipush 8, 2), (15, .newarray .int, 2), (17, .putfield 15, 3), (20, .aload_n 0, 1), (21, .sipush 256, 3), (24, .newarray .long, 2), (26, .putfield 19, 3), (29, .return_, 1)]
set_option maxRecDepth 100000 in
theorem vI_X3_init : pI_X3_init.all (fun q => decide (decode cX3_init q.1 = .ok (q.2.1, q.2.2))) = true := by decide +kernel
set_option maxRecDepth 100000 in
theorem wI_X3_init : ∀ w ∈ ([.methodLink RX3 3 objectInit, .instanceMethod objectInit, .code objectInit ⟨#[0xb1]⟩ 1 none, .arrayClass .long, .fieldLink RX3 9 "CostFlow$Pairing" "costs" "[J", .arrayClass .int, .fieldLink RX3 15 "CostFlow$Pairing" "mates" "[I", .fieldLink RX3 19 "CostFlow$Pairing" "sums" "[J"] : List Cond), w ∈ dm_tt := dm_mem [410, 87, 88, 160, 411, 161, 412, 414] (by decide +kernel) (by decide +kernel)
set_option maxRecDepth 100000 in
theorem wg_X3_init : ∀ w ∈ (Cond.code yX3_init cX3_init 1 none :: dm_tt), w ∈ dm_tt := fun w h => by
  rcases List.mem_cons.mp h with rfl | h
  · exact dm_mem (ws := [.code yX3_init cX3_init 1 none]) [409] (by decide +kernel) (by decide +kernel) _ List.mem_cons_self
  · exact h
theorem bl_X3 : ∀ j, j < 5 → defaultValue (tyX3 j) = vp_V [.null, .null, .null, .int 0, .int 0] j := by decide
set_option maxHeartbeats 4000000 in
set_option maxRecDepth 100000 in
theorem c_X3_init (l : Launch) (D : va_G) (cA : Nat → ClassId) (h0 : Nat) (sz : Nat) : Met l yX3_init (Cond.code yX3_init cX3_init 1 none :: dm_tt) ({ frames := 1, cells := 3, slots := 328, locals := 12 } : Room) (va_Pc [.ref h0] (fun U => U.heap.size = sz ∧ va_P D dm_cl [(h0, .inr (3, [.null, .null, .null, .int 0, .int 0]))] U.heap ∧ va_K D dm_cl (dm_tys cA) U ∧ va_D (fun _ => True) [(h0, .inr (3, [.null, .null, .null, .int 0, .int 0]))])) (va_Qv (fun _ : Unit => True) (fun _ t => ∃ g : Nat → Nat, va_P D dm_cl [(h0, .inr (3, [.ref (g 1), .ref (g 2), .ref (g 3), .int 0, .int 0])), (g 1, .inl (cA 1, 64, .inr (.inl (fun _ => 0)))), (g 2, .inl (cA 0, 8, .inl (fun _ => 0))), (g 3, .inl (cA 1, 256, .inr (.inl (fun _ => 0))))] t.heap ∧ va_K D dm_cl (dm_tys cA) t ∧ va_D (va_A [(h0, .inr (3, [.null, .null, .null, .int 0, .int 0]))] sz) [(h0, .inr (3, [.ref (g 1), .ref (g 2), .ref (g 3), .int 0, .int 0])), (g 1, .inl (cA 1, 64, .inr (.inl (fun _ => 0)))), (g 2, .inl (cA 0, 8, .inl (fun _ => 0))), (g 3, .inl (cA 1, 256, .inr (.inl (fun _ => 0))))]) (va_A [(h0, .inr (3, [.null, .null, .null, .int 0, .int 0]))] sz)) 3 328 (va_A [(h0, .inr (3, [.null, .null, .null, .int 0, .int 0]))] sz) := by
  refine Met.ofW (cc := cX3_init) (maxL := 1) (ret := none) (by decide) rfl ?_
  intro p e s m args below meth c s₁ B hml hv
  obtain ⟨rfl, hsz, hP, hK, hD0⟩ := hv
  have hx := B.exec
  have hb := B.bytes
  have hr := B.returns
  have hts := atoms_spec (ws := Cond.code yX3_init cX3_init 1 none :: dm_tt) B.pre
  have hown : s.vm.findClass RX3 = some m.cls := findClass_of_methodNamed B.named
  have hlocks := B.notSynchronized
  have hin : meth.name = "<init>" := (name_of_methodNamed B.named B.method).1
  subst hsz
  have hD := hD0.self (sz := s.heap.size)
  generalize hAe : va_A [(h0, .inr (3, [.null, .null, .null, .int 0, .int 0]))] s.heap.size = A at hD ⊢
  have hA : ∀ q : Nat, s.heap.size ≤ q → A q := fun q h => by rw [← hAe]; exact Or.inr h
  have hS : va_S A s.heap s.heap [] := va_S.rf
  have hP : va_P D dm_cl [(h0, .inr (3, [.null, .null, .null, .int 0, .int 0]))] s.heap := hP
  have hl := lv_entry ([.ref h0]) (n := 1) (Nat.le_of_ble_eq_true rfl)
  rw [lg_entry_eq]
  generalize (lg_sl ([.ref h0]) ++ List.replicate (1 - (lg_sl ([.ref h0])).length) Slot.unset).toArray = ls at hl ⊢
  have hl : lv_has ls 1 [(0, .ref h0)] := hl
  refine lv_aload_n hx hb (ct_d vI_X3_init 0 rfl) rfl (lv_at hl 0 rfl) ?_
  refine W.objInit hx hb hown (hts (.methodLink RX3 3 objectInit) (dm_hT _ (wI_X3_init _ (List.mem_of_getElem? (i := 0) rfl)))) (hts (.instanceMethod objectInit) (dm_hT _ (wI_X3_init _ (List.mem_of_getElem? (i := 1) rfl)))) (hts (.code objectInit ⟨#[0xb1]⟩ 1 none) (dm_hT _ (wI_X3_init _ (List.mem_of_getElem? (i := 2) rfl)))) rfl (by rw [hml]; exact hl.1) rfl (ct_d vI_X3_init 1 rfl) (Nat.le_of_ble_eq_true rfl) (Nat.le_of_ble_eq_true rfl) ?_
  refine W.eq (g2 := F0 m 4 ls []) rfl ?_
  refine lv_aload_n hx hb (ct_d vI_X3_init 2 rfl) rfl (lv_at hl 0 rfl) ?_
  refine lv_bipush (v := 64) hx hb (ct_d vI_X3_init 3 rfl) (by decide +kernel) ?_
  refine dm_newa (atype := .long) (ty := .long) (N' := 64) (a0 := (64, .inr (.inl (fun _ => 0)))) hx hb (hts (.arrayClass .long) (dm_hT _ (wI_X3_init _ (List.mem_of_getElem? (i := 3) rfl)))) rfl 1 rfl (fun _ z => by cases z) hK hP hD hS hA (fun _ => rfl) (by decide) (by decide +kernel) (by decide) (Nat.le_of_ble_eq_true rfl) (Nat.le_of_ble_eq_true rfl) (ct_d vI_X3_init 4 rfl) (fun q1 H hP hD hS => ?_)
  have hP : va_P D dm_cl [(h0, .inr (3, [.null, .null, .null, .int 0, .int 0])), (q1, .inl (cA 1, 64, .inr (.inl (fun _ => 0))))] H := hP
  have hD : va_D A [(h0, .inr (3, [.null, .null, .null, .int 0, .int 0])), (q1, .inl (cA 1, 64, .inr (.inl (fun _ => 0))))] := hD
  refine W.widen (k := 1) (n := 64) (Nat.le_of_ble_eq_true rfl) (Nat.le_of_ble_eq_true rfl) ?_
  refine va_putF (D := D) (ci := 3) (v := .ref q1) (ty := tyX3 0) (C := RX3) (T := TX3) (N := 5) hx hb hts (fun w h => dm_hT w (dm_u3 w h)) tyX3 tyX3_ok nmX3 hown hK hP hD hS 0 rfl rfl 0 (by decide) (hts (.fieldLink RX3 9 "CostFlow$Pairing" "costs" "[J") (dm_hT _ (wI_X3_init _ (List.mem_of_getElem? (i := 4) rfl)))) (fun _ h9 => h9) rfl hin rfl (tyX3_ok 0 (by decide)) rfl rfl (Nat.le_of_ble_eq_true rfl) (ct_d vI_X3_init 5 rfl) (fun H locs hP hD hS => ?_)
  have hP : va_P D dm_cl [(h0, .inr (3, [.ref q1, .null, .null, .int 0, .int 0])), (q1, .inl (cA 1, 64, .inr (.inl (fun _ => 0))))] H := hP
  have hD : va_D A [(h0, .inr (3, [.ref q1, .null, .null, .int 0, .int 0])), (q1, .inl (cA 1, 64, .inr (.inl (fun _ => 0))))] := hD
  refine lv_aload_n hx hb (ct_d vI_X3_init 6 rfl) rfl (lv_at hl 0 rfl) ?_
  refine lv_bipush (v := 8) hx hb (ct_d vI_X3_init 7 rfl) (by decide +kernel) ?_
  refine dm_newa (atype := .int) (ty := .int) (N' := 8) (a0 := (8, .inl (fun _ => 0))) hx hb (hts (.arrayClass .int) (dm_hT _ (wI_X3_init _ (List.mem_of_getElem? (i := 5) rfl)))) rfl 0 rfl (fun _ z => by cases z) hK hP hD hS hA (fun _ => rfl) (by decide) (by decide +kernel) (by decide) (Nat.le_of_ble_eq_true rfl) (Nat.le_of_ble_eq_true rfl) (ct_d vI_X3_init 8 rfl) (fun q2 H hP hD hS => ?_)
  have hP : va_P D dm_cl [(h0, .inr (3, [.ref q1, .null, .null, .int 0, .int 0])), (q1, .inl (cA 1, 64, .inr (.inl (fun _ => 0)))), (q2, .inl (cA 0, 8, .inl (fun _ => 0)))] H := hP
  have hD : va_D A [(h0, .inr (3, [.ref q1, .null, .null, .int 0, .int 0])), (q1, .inl (cA 1, 64, .inr (.inl (fun _ => 0)))), (q2, .inl (cA 0, 8, .inl (fun _ => 0)))] := hD
  refine W.widen (k := 2) (n := 72) (Nat.le_of_ble_eq_true rfl) (Nat.le_of_ble_eq_true rfl) ?_
  refine va_putF (D := D) (ci := 3) (v := .ref q2) (ty := tyX3 1) (C := RX3) (T := TX3) (N := 5) hx hb hts (fun w h => dm_hT w (dm_u3 w h)) tyX3 tyX3_ok nmX3 hown hK hP hD hS 0 rfl rfl 1 (by decide) (hts (.fieldLink RX3 15 "CostFlow$Pairing" "mates" "[I") (dm_hT _ (wI_X3_init _ (List.mem_of_getElem? (i := 6) rfl)))) (fun _ h9 => h9) rfl hin rfl (tyX3_ok 1 (by decide)) rfl rfl (Nat.le_of_ble_eq_true rfl) (ct_d vI_X3_init 9 rfl) (fun H locs hP hD hS => ?_)
  have hP : va_P D dm_cl [(h0, .inr (3, [.ref q1, .ref q2, .null, .int 0, .int 0])), (q1, .inl (cA 1, 64, .inr (.inl (fun _ => 0)))), (q2, .inl (cA 0, 8, .inl (fun _ => 0)))] H := hP
  have hD : va_D A [(h0, .inr (3, [.ref q1, .ref q2, .null, .int 0, .int 0])), (q1, .inl (cA 1, 64, .inr (.inl (fun _ => 0)))), (q2, .inl (cA 0, 8, .inl (fun _ => 0)))] := hD
  refine lv_aload_n hx hb (ct_d vI_X3_init 10 rfl) rfl (lv_at hl 0 rfl) ?_
  refine lv_sipush (v := 256) hx hb (ct_d vI_X3_init 11 rfl) (by decide +kernel) ?_
  refine dm_newa (atype := .long) (ty := .long) (N' := 256) (a0 := (256, .inr (.inl (fun _ => 0)))) hx hb (hts (.arrayClass .long) (dm_hT _ (wI_X3_init _ (List.mem_of_getElem? (i := 3) rfl)))) rfl 1 rfl (fun _ z => by cases z) hK hP hD hS hA (fun _ => rfl) (by decide) (by decide +kernel) (by decide) (Nat.le_of_ble_eq_true rfl) (Nat.le_of_ble_eq_true rfl) (ct_d vI_X3_init 12 rfl) (fun q3 H hP hD hS => ?_)
  have hP : va_P D dm_cl [(h0, .inr (3, [.ref q1, .ref q2, .null, .int 0, .int 0])), (q1, .inl (cA 1, 64, .inr (.inl (fun _ => 0)))), (q2, .inl (cA 0, 8, .inl (fun _ => 0))), (q3, .inl (cA 1, 256, .inr (.inl (fun _ => 0))))] H := hP
  have hD : va_D A [(h0, .inr (3, [.ref q1, .ref q2, .null, .int 0, .int 0])), (q1, .inl (cA 1, 64, .inr (.inl (fun _ => 0)))), (q2, .inl (cA 0, 8, .inl (fun _ => 0))), (q3, .inl (cA 1, 256, .inr (.inl (fun _ => 0))))] := hD
  refine W.widen (k := 3) (n := 328) (Nat.le_of_ble_eq_true rfl) (Nat.le_of_ble_eq_true rfl) ?_
  refine va_putF (D := D) (ci := 3) (v := .ref q3) (ty := tyX3 2) (C := RX3) (T := TX3) (N := 5) hx hb hts (fun w h => dm_hT w (dm_u3 w h)) tyX3 tyX3_ok nmX3 hown hK hP hD hS 0 rfl rfl 2 (by decide) (hts (.fieldLink RX3 19 "CostFlow$Pairing" "sums" "[J") (dm_hT _ (wI_X3_init _ (List.mem_of_getElem? (i := 7) rfl)))) (fun _ h9 => h9) rfl hin rfl (tyX3_ok 2 (by decide)) rfl rfl (Nat.le_of_ble_eq_true rfl) (ct_d vI_X3_init 13 rfl) (fun H locs hP hD hS => ?_)
  have hP : va_P D dm_cl [(h0, .inr (3, [.ref q1, .ref q2, .ref q3, .int 0, .int 0])), (q1, .inl (cA 1, 64, .inr (.inl (fun _ => 0)))), (q2, .inl (cA 0, 8, .inl (fun _ => 0))), (q3, .inl (cA 1, 256, .inr (.inl (fun _ => 0))))] H := hP
  have hD : va_D A [(h0, .inr (3, [.ref q1, .ref q2, .ref q3, .int 0, .int 0])), (q1, .inl (cA 1, 64, .inr (.inl (fun _ => 0)))), (q2, .inl (cA 0, 8, .inl (fun _ => 0))), (q3, .inl (cA 1, 256, .inr (.inl (fun _ => 0))))] := hD
  refine W.widen (k := 3) (n := 328) (Nat.le_of_ble_eq_true rfl) (Nat.le_of_ble_eq_true rfl) ?_
  exact W.vret hx hb hr (fun t ht hW => ⟨⟨(), rfl, trivial, fun i => [0, q1, q2, q3].getD i 0, by rw [ht]; exact hP, va_K.moved hW.alike hK, hD⟩, hS.F ht⟩) hS.2.2 (ct_d vI_X3_init 14 rfl)
