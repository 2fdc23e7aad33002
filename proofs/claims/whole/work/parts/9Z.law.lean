/-! ===== the law's calls (written by wip/tools/genlaw.py) ===== -/
/-! the skeleton's rows -/
def R_law : String := "CostFlowLaw"
def lw_P (b : Addr) (xs : List Int32) (args : Array Value) (s : State) : Prop := args = #[.ref b] ∧ s.IntsAt b xs ∧ xs.length ≤ 4608 ∧ (Jvm.Cond.and given_1 narrow_1).before args s = true
def lw_Q (_ : Array Value) (s : State) (o : Outcome) (t : State) : Prop := o = .returned (some (.int 1)) ∧ Framed s o t [] 82 11860
def lw_Z (below : List Frame) (a : Array Value) (s : State) : State → Prop := fun t => ∃ o, t.status = .running ∧ Ended t below o ∧ lw_Q a s o t
/-- the law's own end, with 1 on the stack, nothing written that was there before, its room as the claim has it -/
theorem lw_ret {p : Program} {l : Launch} {e : Env} {s : State} {m : MethodId} {below : List Frame} {meth : Method} {c : Code} {b : Nat} (hx : p.tables.exec = Jvm.exec) (hb : c.code = code) (hr : meth.sig.returnType = ret) (hlocks : meth.locks = false) {pc : Nat} {H : Heap} {ls : Array Slot} (hdg : decode code pc = .ok (.ireturn, 1)) : W p l e room_1 s m #[Value.ref b] below meth c H [] 82 11860 (lw_Z below #[Value.ref b] s) (F0 m pc ls [.int 1]) := by
  intro T hT X
  obtain ⟨fs, hret, hrun, hended, hW, hframe⟩ := X.leave (v := some (.int 1)) (hlocks := hlocks) (fun h => by rw [hr] at h; cases h)
  have hmeth' : T.vm.method? m = some meth := X.method'
  refine ⟨T.setFrames fs, ?_, .returned (some (.int 1)), hrun, hended, rfl, ⟨_, rfl⟩, hW, hframe⟩
  jvm_step X.here [X.here.top, hx, hb, hdg, hmeth', hr, ret, narrow_b1]
  (try refine ⟨rfl, ?_⟩); (try refine ⟨rfl, ?_⟩)
  first | (intro acts; rw [hret _ acts rfl rfl rfl]) | rw [hret _ _ rfl rfl rfl]
  exact Steps.refl _
/-- what holds at the law's entry: the machine, the code, the tables' words (any of lw_tbl by 'hts w (by decide +kernel)'), the script of L ints xs at the cell b, what the Statement gives of the start (any of its parts by flat_of_before) -/
def lw_At (p : Program) (s : State) (m : MethodId) (meth : Method) (c : Code) (b L : Nat) (xs : Nat → Int32) : Prop :=
  p.tables.exec = Jvm.exec ∧ c.code = code ∧ meth.sig.returnType = ret ∧ c.maxLocals = 4 ∧ s.vm.findClass R_law = some m.cls ∧ (∀ w ∈ lw_tbl, w.before #[Value.ref b] s = true) ∧ va_X b L xs s s.heap ∧ b < s.heap.size ∧ meth.locks = false ∧ (Jvm.Cond.and given_1 narrow_1).before #[Value.ref b] s = true
theorem lw_hT : ∀ w ∈ dm_tt, w ∈ lw_tbl := fun _ h => (List.mem_filter.mp h).1
set_option maxRecDepth 100000 in
theorem lw_kl : Cond.constantLong R_law 13 4294967295 ∈ lw_tbl := lw_hT _ (dm_mem (ws := [.constantLong R_law 13 4294967295]) [1266] (by decide +kernel) (by decide +kernel) _ List.mem_cons_self)
/-- the two worlds: known classes, apart -/
def lw_W (s : State) (D : va_G) (cA : Nat → ClassId) (adC adM : Nat → Nat) : Prop := va_K D dm_cl (dm_tys cA) s ∧ (∀ u, va_D (fun q : Nat => s.heap.size ≤ q) (dm_w adC cA shC u)) ∧ (∀ v, va_D (fun q : Nat => s.heap.size ≤ q) (dm_w adM cA shM v)) ∧ ∀ i j, i < 52 → j < 30 → adC i ≠ adM j
theorem lw_apC {s : State} {D : va_G} {cA : Nat → ClassId} {adC adM : Nat → Nat} (h : lw_W s D cA adC adM) {v : dm_S} (k : Nat) (q : Nat × va_E) (hq : (dm_w adM cA shM v)[k]? = some q) (c : Nat) (x : dm_H) (hc : shC[c]? = some x) : adC c ≠ q.1 := by
  obtain ⟨y, h1, rfl⟩ := dm_w_of hq
  exact h.2.2.2 c k (List.getElem?_eq_some_iff.mp hc).1 (List.getElem?_eq_some_iff.mp h1).1
theorem lw_apM {s : State} {D : va_G} {cA : Nat → ClassId} {adC adM : Nat → Nat} (h : lw_W s D cA adC adM) {u : dm_S} (k : Nat) (q : Nat × va_E) (hq : (dm_w adC cA shC u)[k]? = some q) (c : Nat) (x : dm_H) (hc : shM[c]? = some x) : adM c ≠ q.1 := by
  obtain ⟨y, h1, rfl⟩ := dm_w_of hq
  exact fun z => h.2.2.2 k c (List.getElem?_eq_some_iff.mp h1).1 (List.getElem?_eq_some_iff.mp hc).1 z.symm
/-- what comes behind a case -/
def lw_kk (p : Program) (l : Launch) (e : Env) (s : State) (m : MethodId) (below : List Frame) (meth : Method) (c : Code) (b : Nat) (D : va_G) (cA : Nat → ClassId) (adC adM : Nat → Nat) (pc : Nat) (ls : Array Slot) : Prop := ∀ (u v : dm_S) (H : Heap) (locs : List Loc), Inv u v → va_P D dm_cl (dm_w adC cA shC u) H → va_P D dm_cl (dm_w adM cA shM v) H → va_S (fun q : Nat => s.heap.size ≤ q) s.heap H locs → W p l e room_1 s m #[Value.ref b] below meth c H locs 82 11860 (lw_Z below #[Value.ref b] s) (F0 m pc ls [])
/-- a call in the law: one world changes by the contract, the other stays -/
theorem lw_call {p : Program} {l : Launch} {e : Env} {s : State} {m : MethodId} {below : List Frame} {meth : Method} {c : Code} {b L : Nat} {xs : Nat → Int32} {D : va_G} {cA : Nat → ClassId} {ad : Nat → Nat} {sh : List dm_H} {P : List Value → dm_S → (Option Value → dm_S → Prop) → Prop} {j n ci : Nat} {fs : List Nat} {As rest st0 : List Value} {u : dm_S} {Qp : Option Value → dm_S → Prop} {wr : va_W} {H : Heap} {locs : List Loc} {ls : Array Slot} {pc : Nat} {Q : State → Prop} (C0 : lw_At p s m meth c b L xs) (hKK : va_K D dm_cl (dm_tys cA) s) (h1 : dm_M1 l room_1 lw_tbl R_law D dm_cl cA ad sh P j n ci) (hci : ci < 1000) (hc : sh[0]? = some (.inr (ci, fs))) (hsp : P (.ref 0 :: As) u Qp) (hAs : As.map (dm_cv ad) = As) (hn : As.length = n) (hD : va_D (fun q : Nat => s.heap.size ≤ q) (dm_w ad cA sh u)) (hP : va_P D dm_cl (dm_w ad cA sh u) H) (hPr : va_P D dm_cl wr H) (hap : ∀ (k : Nat) (q : Nat × va_E), wr[k]? = some q → ∀ (c : Nat) (x : dm_H), sh[c]? = some x → ad c ≠ q.1) (hS : va_S (fun q : Nat => s.heap.size ≤ q) s.heap H locs) (hls : ls.size = 4) (hstk : st0 = As.reverse ++ .ref (ad 0) :: rest) (hrest : (rest.map fun v => v.category).sum ≤ 8) (hdg : decode code pc = .ok (.invokevirtual j, 3))
    (kk : ∀ (r : Option Value) (u' : dm_S) (H1 : Heap) (locs1 : List Loc), Qp r u' → va_P D dm_cl (dm_w ad cA sh u') H1 → va_P D dm_cl wr H1 → va_S (fun q : Nat => s.heap.size ≤ q) s.heap H1 locs1 → W p l e room_1 s m #[Value.ref b] below meth c H1 locs1 82 11860 Q (F0 m (pc + 3) ls (r.toList ++ rest))) : W p l e room_1 s m #[Value.ref b] below meth c H locs 82 11860 Q (F0 m pc ls st0) := by
  obtain ⟨hx, hb, hr, hml, hown, hts, hX, hbl, hlocks, hgv⟩ := C0
  obtain ⟨y, bytes, maxL, ret, ws', rm, hMet, hG, ⟨hrc, hrs⟩, hRoom, ⟨hini, hlink⟩, hd3, -, hvirt⟩ := h1
  obtain ⟨⟨hinst, hsel⟩, T, N, hcl⟩ := hvirt hci
  have hw := dm_w_at (ad := ad) (cA := cA) (u := u) hc
  have hcw : CallW room_1 s #[Value.ref b] R_law y.cls j y bytes maxL ret (Cond.code y bytes maxL ret :: ws') rm 0 0 n := ⟨callB_of n hts hG rfl hrc hrs (hts _ hini) (hts _ hlink) hd3 hRoom, hts _ hinst, hts _ hsel⟩
  have hA : ∀ q : Nat, s.heap.size ≤ q → (fun q : Nat => s.heap.size ≤ q) q := fun _ h => h
  have hFr := dm_freeA hD hA hS
  have hR := va_runV (rest := rest) (g := F0 m pc ls st0) (locs := locs) (cells := 82) (slots := 11860) (below := below) (meth := meth) (e := e) ⟨hx, hb, hml, hown, hts⟩ (hMet H.size (.ref 0 :: As) u _ hsp) hcw (b := ad 0) (As := As) ⟨dm_blind, va_recv hKK hP hcl hw, fun U hU hW => ⟨by rw [List.map_cons, hAs]; rfl, by rw [hU], by rw [hU]; exact hP, va_K.moved hW.alike hKK, hD.weaken (fun _ _ _ _ => trivial)⟩⟩ rfl hn hls hstk (lv_room hrest) hdg ⟨by decide, by decide⟩
  intro T0 hT X
  obtain ⟨v, st₀, t, T', L0, h0, X', hL, e1, e2, ⟨⟨r, u', hv, hnr, hp, hb'⟩, hz, hk⟩, st⟩ := hR T0 hT X
  cases hv
  rw [h0] at hz hk
  have hPr' : va_P D dm_cl wr T'.heap := hPr.kept (fun k q hq => by
    have hlt := (hPr k q hq).lt
    rw [e1]
    refine hk q.1 hlt (fun h => ?_)
    rcases h with ⟨k2, e9, h⟩ | h
    · obtain ⟨x, g1, g2⟩ := dm_w_of h
      rw [Prod.mk.injEq] at g2
      exact hap k q hq k2 x g1 g2.1.symm
    · omega)
  obtain ⟨t2, a1, b1⟩ := kk v u' T'.heap (locs ++ L0) hp (by rw [e1]; exact hb'.1) hPr'
    ⟨Nat.le_trans hS.1 (by rw [e1]; exact hz), fun q h1 h2 => by rw [e1, hk q (Nat.lt_of_lt_of_le h1 hS.1) (fun z => h2 (hFr q z))]; exact hS.2.1 q h1 h2, fun q hq => by
      rcases List.mem_append.mp hq with h | h
      · exact hS.2.2 q h
      · exact hFr _ (hL q h)⟩ T' rfl X'
  exact ⟨t2, st t2 a1, b1⟩
/-! a new object beside a world -/
theorem lw_split {D : va_G} {cl : List vw_C} {w : va_W} {x : Nat × va_E} {H : Heap} {A : Nat → Prop} (hP : va_P D cl (w ++ [x]) H) (hD : va_D A (w ++ [x])) : va_P D cl w H ∧ va_P D cl [x] H ∧ va_D A [x] ∧ ∀ (k : Nat) (q : Nat × va_E), w[k]? = some q → q.1 ≠ x.1 := by
  have hx : (w ++ [x])[w.length]? = some x := by simp
  have hw : ∀ (k : Nat) (q : Nat × va_E), w[k]? = some q → (w ++ [x])[k]? = some q := fun k q hq => by
    rw [List.getElem?_append_left (List.getElem?_eq_some_iff.mp hq).1]; exact hq
  have one : ∀ (k : Nat) (q : Nat × va_E), [x][k]? = some q → k = 0 ∧ q = x := fun k q hq => by
    have h0 : k < 1 := (List.getElem?_eq_some_iff.mp hq).1
    have : k = 0 := by omega
    subst this
    exact ⟨rfl, (Option.some.inj hq).symm⟩
  refine ⟨fun k q hq => hP k q (hw k q hq), fun k q hq => ?_, ⟨fun i j p q hp hq _ => ?_, fun k q hq => ?_⟩, fun k q hq z => ?_⟩
  · rw [(one k q hq).2]; exact hP _ _ hx
  · rw [(one i p hp).1, (one j q hq).1]
  · rw [(one k q hq).2]; exact hD.2 _ _ hx
  · have := hD.1 k w.length q x (hw k q hq) hx z
    have := (List.getElem?_eq_some_iff.mp hq).1
    omega
theorem lw_in1 {w : Nat × va_E} {sz q : Nat} (h : va_A [w] sz q) : q = w.1 ∨ sz ≤ q := by
  rcases h with ⟨k, e, h⟩ | h
  · have h0 : k < 1 := (List.getElem?_eq_some_iff.mp h).1
    have : k = 0 := by omega
    subst this
    have := Option.some.inj h
    exact Or.inl (by rw [this])
  · exact Or.inr h
theorem lw_stays {D : va_G} {cl : List vw_C} {w : va_W} {x : Nat × va_E} {H H1 : Heap} (hP : va_P D cl w H) (hne : ∀ (k : Nat) (q : Nat × va_E), w[k]? = some q → q.1 ≠ x.1) (hk : ∀ q : Nat, q < H.size → ¬ va_A [x] H.size q → H1[q]? = H[q]?) : va_P D cl w H1 := hP.kept (fun k q hq => by
  have hlt := (hP k q hq).lt
  refine hk q.1 hlt (fun h => ?_)
  rcases lw_in1 h with h | h
  · exact hne k q hq h
  · omega)
theorem lw_apart {D : va_G} {cl : List vw_C} {cA : Nat → ClassId} {adC adM : Nat → Nat} {u v : dm_S} {x : Nat × va_E} {H : Heap} (hP : va_P D cl (dm_w adC cA shC u) H) (hne : ∀ (k : Nat) (q : Nat × va_E), (dm_w adC cA shC u)[k]? = some q → q.1 ≠ x.1) (hM : va_D (va_A [x] H.size) (dm_w adM cA shM v)) : ∀ i j, i < 52 → j < 30 → adC i ≠ adM j := fun i j hi hj z => by
  have hx := dm_w_at (ad := adC) (cA := cA) (u := u) (List.getElem?_eq_getElem (show i < shC.length from hi))
  have hy := dm_w_at (ad := adM) (cA := cA) (u := v) (List.getElem?_eq_getElem (show j < shM.length from hj))
  have h1 := (hP i _ hx).lt
  have h2 := hne i _ hx
  rcases lw_in1 (hM.2 j _ hy) with h | h
  · exact h2 (z.trans h)
  · have h1 : adC i < H.size := h1
    have h : H.size ≤ adM j := h
    omega

set_option maxRecDepth 100000 in
theorem kl_X10_node (l : Launch) (D : va_G) (cA : Nat → ClassId) (ad : Nat → Nat) : dm_M1 l room_1 lw_tbl R_law D dm_cl cA ad shC sp_X10_node 15 1 10 := dm_M1_of (t_X10_node l D cA ad) lw_hT (dm_mem [467, 66, 464] (by decide +kernel) (by decide +kernel)) (by decide) (by decide +kernel) (Or.inr ⟨by decide, dm_mem [465, 466] (by decide +kernel) (by decide +kernel), rfl⟩)
set_option maxRecDepth 100000 in
theorem kl_X11_node (l : Launch) (D : va_G) (cA : Nat → ClassId) (ad : Nat → Nat) : dm_M1 l room_1 lw_tbl R_law D dm_cl cA ad shM sp_X11_node 19 1 11 := dm_M1_of (t_X11_node l D cA ad) lw_hT (dm_mem [1067, 77, 1064] (by decide +kernel) (by decide +kernel)) (by decide) (by decide +kernel) (Or.inr ⟨by decide, dm_mem [1065, 1066] (by decide +kernel) (by decide +kernel), rfl⟩)
set_option maxHeartbeats 1600000 in
set_option maxRecDepth 100000 in
theorem lw_node {p : Program} {l : Launch} {e : Env} {s : State} {m : MethodId} {below : List Frame} {meth : Method} {c : Code} {b L : Nat} {xs : Nat → Int32} {D : va_G} {cA : Nat → ClassId} {adC adM : Nat → Nat} (C0 : lw_At p s m meth c b L xs) (C1 : lw_W s D cA adC adM) {x3 : Int32} (hi : ∀ k : Nat, k ≤ 8 → vp_in (x3 + nI k) L) {ls : Array Slot} (hl : lv_has ls 4 [(0, .ref b), (1, .ref (adC 0)), (2, .ref (adM 0)), (3, .int x3)]) {H : Heap} {locs : List Loc} {u v : dm_S} (hI : Inv u v) (hP : va_P D dm_cl (dm_w adC cA shC u) H) (hR : va_P D dm_cl (dm_w adM cA shM v) H) (hS : va_S (fun q : Nat => s.heap.size ≤ q) s.heap H locs) (kk : lw_kk p l e s m below meth c b D cA adC adM 978 ls) : W p l e room_1 s m #[Value.ref b] below meth c H locs 82 11860 (lw_Z below #[Value.ref b] s) (F0 m 128 ls []) := by
  obtain ⟨hx, hb, hr, hml, hown, hts, hX, hbl, hlocks, hgv⟩ := id C0
  obtain ⟨hK, hDC, hDM, -⟩ := id C1
  have hbA : ¬ (fun q : Nat => s.heap.size ≤ q) b := Nat.not_le.mpr hbl
  refine lv_aload_n hx hb (ct_d vL0 22 rfl) rfl (lv_at hl 1 rfl) ?_
  refine lv_aload_n hx hb (ct_d vL0 23 rfl) rfl (lv_at hl 0 rfl) ?_
  refine lv_iload_n hx hb (ct_d vL0 24 rfl) rfl (lv_at hl 3 rfl) ?_
  refine lv_iconst (v := 1) hx hb (ct_d vL0 25 rfl) (by decide +kernel) ?_
  refine lv_iadd hx hb (ct_d vL0 26 rfl) ?_
  refine va_sld hx hb hX hbl hbA hS (hi 1 (by decide)) (ct_d vL0 27 rfl) ?_
  refine lv_i2l hx hb (ct_d vL0 28 rfl) rfl ?_
  refine lv_bipush (v := 32) hx hb (ct_d vL0 29 rfl) (by decide +kernel) ?_
  refine lv_lshl hx hb (ct_d vL1 0 rfl) rfl ?_
  refine lv_aload_n hx hb (ct_d vL1 1 rfl) rfl (lv_at hl 0 rfl) ?_
  refine lv_iload_n hx hb (ct_d vL1 2 rfl) rfl (lv_at hl 3 rfl) ?_
  refine lv_iconst (v := 2) hx hb (ct_d vL1 3 rfl) (by decide +kernel) ?_
  refine lv_iadd hx hb (ct_d vL1 4 rfl) ?_
  refine va_sld hx hb hX hbl hbA hS (hi 2 (by decide)) (ct_d vL1 5 rfl) ?_
  refine lv_i2l hx hb (ct_d vL1 6 rfl) rfl ?_
  refine lv_ldc2 (v := 4294967295) hx hb hown (hts _ lw_kl) (ct_d vL1 7 rfl) ?_
  refine lv_land hx hb (ct_d vL1 8 rfl) ?_
  refine lv_lor hx hb (ct_d vL1 9 rfl) ?_
  have hs : sp_X10_node [.ref 0, .long (((xs (x3 + 1).toNatClampNeg).toInt64 <<< ((32 : Int32).toInt64 &&& 63)) ||| ((xs (x3 + 2).toNatClampNeg).toInt64 &&& 4294967295))] u (fun r u' => tyI r ∧ sp_X11_node [.ref 0, .long (((xs (x3 + 1).toNatClampNeg).toInt64 <<< ((32 : Int32).toInt64 &&& 63)) ||| ((xs (x3 + 2).toNatClampNeg).toInt64 &&& 4294967295))] v (fun r' v' => r = r' ∧ Inv u' v')) := s_node hI
  refine lw_call (As := [.long (((xs (x3 + 1).toNatClampNeg).toInt64 <<< ((32 : Int32).toInt64 &&& 63)) ||| ((xs (x3 + 2).toNatClampNeg).toInt64 &&& 4294967295))]) (rest := []) C0 hK (kl_X10_node l D cA adC) (by decide) sC_0 hs rfl rfl (hDC u) hP hR (lw_apC C1) hS hl.1 rfl (Nat.le_of_ble_eq_true rfl) (ct_d vL1 10 rfl) (fun r u1 H locs hq hP hR hS => ?_)
  obtain ⟨⟨x, rfl⟩, hs⟩ := hq
  refine W.eq (g2 := F0 m 152 ls [.int x]) rfl ?_
  refine lv_aload_n hx hb (ct_d vL1 11 rfl) rfl (lv_at hl 2 rfl) ?_
  refine lv_aload_n hx hb (ct_d vL1 12 rfl) rfl (lv_at hl 0 rfl) ?_
  refine lv_iload_n hx hb (ct_d vL1 13 rfl) rfl (lv_at hl 3 rfl) ?_
  refine lv_iconst (v := 1) hx hb (ct_d vL1 14 rfl) (by decide +kernel) ?_
  refine lv_iadd hx hb (ct_d vL1 15 rfl) ?_
  refine va_sld hx hb hX hbl hbA hS (hi 1 (by decide)) (ct_d vL1 16 rfl) ?_
  refine lv_i2l hx hb (ct_d vL1 17 rfl) rfl ?_
  refine lv_bipush (v := 32) hx hb (ct_d vL1 18 rfl) (by decide +kernel) ?_
  refine lv_lshl hx hb (ct_d vL1 19 rfl) rfl ?_
  refine lv_aload_n hx hb (ct_d vL1 20 rfl) rfl (lv_at hl 0 rfl) ?_
  refine lv_iload_n hx hb (ct_d vL1 21 rfl) rfl (lv_at hl 3 rfl) ?_
  refine lv_iconst (v := 2) hx hb (ct_d vL1 22 rfl) (by decide +kernel) ?_
  refine lv_iadd hx hb (ct_d vL1 23 rfl) ?_
  refine va_sld hx hb hX hbl hbA hS (hi 2 (by decide)) (ct_d vL1 24 rfl) ?_
  refine lv_i2l hx hb (ct_d vL1 25 rfl) rfl ?_
  refine lv_ldc2 (v := 4294967295) hx hb hown (hts _ lw_kl) (ct_d vL1 26 rfl) ?_
  refine lv_land hx hb (ct_d vL1 27 rfl) ?_
  refine lv_lor hx hb (ct_d vL1 28 rfl) ?_
  refine lw_call (As := [.long (((xs (x3 + 1).toNatClampNeg).toInt64 <<< ((32 : Int32).toInt64 &&& 63)) ||| ((xs (x3 + 2).toNatClampNeg).toInt64 &&& 4294967295))]) (rest := [.int x]) C0 hK (kl_X11_node l D cA adM) (by decide) sM_0 hs rfl rfl (hDM v) hR hP (lw_apM C1) hS hl.1 rfl (Nat.le_of_ble_eq_true rfl) (ct_d vL1 29 rfl) (fun r v1 H locs hq hR hP hS => ?_)
  obtain ⟨he, hI⟩ := hq
  subst he
  refine W.eq (g2 := F0 m 176 ls [.int x, .int x]) rfl ?_
  exact lv_icmp_eq (tgt := 978) hx hb (ct_d vL2 0 rfl) (by decide) (fun _ => kk u1 v1 H locs hI hP hR hS) (fun h => absurd rfl h)
set_option maxRecDepth 100000 in
theorem kl_X10_arc (l : Launch) (D : va_G) (cA : Nat → ClassId) (ad : Nat → Nat) : dm_M1 l room_1 lw_tbl R_law D dm_cl cA ad shC sp_X10_arc 20 5 10 := dm_M1_of (t_X10_arc l D cA ad) lw_hT (dm_mem [484, 66, 481] (by decide +kernel) (by decide +kernel)) (by decide) (by decide +kernel) (Or.inr ⟨by decide, dm_mem [482, 483] (by decide +kernel) (by decide +kernel), rfl⟩)
set_option maxRecDepth 100000 in
theorem kl_X11_arc (l : Launch) (D : va_G) (cA : Nat → ClassId) (ad : Nat → Nat) : dm_M1 l room_1 lw_tbl R_law D dm_cl cA ad shM sp_X11_arc 24 5 11 := dm_M1_of (t_X11_arc l D cA ad) lw_hT (dm_mem [1080, 77, 1077] (by decide +kernel) (by decide +kernel)) (by decide) (by decide +kernel) (Or.inr ⟨by decide, dm_mem [1078, 1079] (by decide +kernel) (by decide +kernel), rfl⟩)
set_option maxHeartbeats 1600000 in
set_option maxRecDepth 100000 in
theorem lw_arc {p : Program} {l : Launch} {e : Env} {s : State} {m : MethodId} {below : List Frame} {meth : Method} {c : Code} {b L : Nat} {xs : Nat → Int32} {D : va_G} {cA : Nat → ClassId} {adC adM : Nat → Nat} (C0 : lw_At p s m meth c b L xs) (C1 : lw_W s D cA adC adM) {x3 : Int32} (hi : ∀ k : Nat, k ≤ 8 → vp_in (x3 + nI k) L) {ls : Array Slot} (hl : lv_has ls 4 [(0, .ref b), (1, .ref (adC 0)), (2, .ref (adM 0)), (3, .int x3)]) {H : Heap} {locs : List Loc} {u v : dm_S} (hI : Inv u v) (hP : va_P D dm_cl (dm_w adC cA shC u) H) (hR : va_P D dm_cl (dm_w adM cA shM v) H) (hS : va_S (fun q : Nat => s.heap.size ≤ q) s.heap H locs) (kk : lw_kk p l e s m below meth c b D cA adC adM 978 ls) : W p l e room_1 s m #[Value.ref b] below meth c H locs 82 11860 (lw_Z below #[Value.ref b] s) (F0 m 181 ls []) := by
  obtain ⟨hx, hb, hr, hml, hown, hts, hX, hbl, hlocks, hgv⟩ := id C0
  obtain ⟨hK, hDC, hDM, -⟩ := id C1
  have hbA : ¬ (fun q : Nat => s.heap.size ≤ q) b := Nat.not_le.mpr hbl
  refine lv_aload_n hx hb (ct_d vL2 3 rfl) rfl (lv_at hl 1 rfl) ?_
  refine lv_aload_n hx hb (ct_d vL2 4 rfl) rfl (lv_at hl 0 rfl) ?_
  refine lv_iload_n hx hb (ct_d vL2 5 rfl) rfl (lv_at hl 3 rfl) ?_
  refine lv_iconst (v := 1) hx hb (ct_d vL2 6 rfl) (by decide +kernel) ?_
  refine lv_iadd hx hb (ct_d vL2 7 rfl) ?_
  refine va_sld hx hb hX hbl hbA hS (hi 1 (by decide)) (ct_d vL2 8 rfl) ?_
  refine lv_aload_n hx hb (ct_d vL2 9 rfl) rfl (lv_at hl 0 rfl) ?_
  refine lv_iload_n hx hb (ct_d vL2 10 rfl) rfl (lv_at hl 3 rfl) ?_
  refine lv_iconst (v := 2) hx hb (ct_d vL2 11 rfl) (by decide +kernel) ?_
  refine lv_iadd hx hb (ct_d vL2 12 rfl) ?_
  refine va_sld hx hb hX hbl hbA hS (hi 2 (by decide)) (ct_d vL2 13 rfl) ?_
  refine lv_aload_n hx hb (ct_d vL2 14 rfl) rfl (lv_at hl 0 rfl) ?_
  refine lv_iload_n hx hb (ct_d vL2 15 rfl) rfl (lv_at hl 3 rfl) ?_
  refine lv_iconst (v := 3) hx hb (ct_d vL2 16 rfl) (by decide +kernel) ?_
  refine lv_iadd hx hb (ct_d vL2 17 rfl) ?_
  refine va_sld hx hb hX hbl hbA hS (hi 3 (by decide)) (ct_d vL2 18 rfl) ?_
  refine lv_i2l hx hb (ct_d vL2 19 rfl) rfl ?_
  refine lv_bipush (v := 32) hx hb (ct_d vL2 20 rfl) (by decide +kernel) ?_
  refine lv_lshl hx hb (ct_d vL2 21 rfl) rfl ?_
  refine lv_aload_n hx hb (ct_d vL2 22 rfl) rfl (lv_at hl 0 rfl) ?_
  refine lv_iload_n hx hb (ct_d vL2 23 rfl) rfl (lv_at hl 3 rfl) ?_
  refine lv_iconst (v := 4) hx hb (ct_d vL2 24 rfl) (by decide +kernel) ?_
  refine lv_iadd hx hb (ct_d vL2 25 rfl) ?_
  refine va_sld hx hb hX hbl hbA hS (hi 4 (by decide)) (ct_d vL2 26 rfl) ?_
  refine lv_i2l hx hb (ct_d vL2 27 rfl) rfl ?_
  refine lv_ldc2 (v := 4294967295) hx hb hown (hts _ lw_kl) (ct_d vL2 28 rfl) ?_
  refine lv_land hx hb (ct_d vL2 29 rfl) ?_
  refine lv_lor hx hb (ct_d vL3 0 rfl) ?_
  refine lv_aload_n hx hb (ct_d vL3 1 rfl) rfl (lv_at hl 0 rfl) ?_
  refine lv_iload_n hx hb (ct_d vL3 2 rfl) rfl (lv_at hl 3 rfl) ?_
  refine lv_iconst (v := 5) hx hb (ct_d vL3 3 rfl) (by decide +kernel) ?_
  refine lv_iadd hx hb (ct_d vL3 4 rfl) ?_
  refine va_sld hx hb hX hbl hbA hS (hi 5 (by decide)) (ct_d vL3 5 rfl) ?_
  refine lv_i2l hx hb (ct_d vL3 6 rfl) rfl ?_
  refine lv_bipush (v := 32) hx hb (ct_d vL3 7 rfl) (by decide +kernel) ?_
  refine lv_lshl hx hb (ct_d vL3 8 rfl) rfl ?_
  refine lv_aload_n hx hb (ct_d vL3 9 rfl) rfl (lv_at hl 0 rfl) ?_
  refine lv_iload_n hx hb (ct_d vL3 10 rfl) rfl (lv_at hl 3 rfl) ?_
  refine lv_bipush (v := 6) hx hb (ct_d vL3 11 rfl) (by decide +kernel) ?_
  refine lv_iadd hx hb (ct_d vL3 12 rfl) ?_
  refine va_sld hx hb hX hbl hbA hS (hi 6 (by decide)) (ct_d vL3 13 rfl) ?_
  refine lv_i2l hx hb (ct_d vL3 14 rfl) rfl ?_
  refine lv_ldc2 (v := 4294967295) hx hb hown (hts _ lw_kl) (ct_d vL3 15 rfl) ?_
  refine lv_land hx hb (ct_d vL3 16 rfl) ?_
  refine lv_lor hx hb (ct_d vL3 17 rfl) ?_
  refine lv_aload_n hx hb (ct_d vL3 18 rfl) rfl (lv_at hl 0 rfl) ?_
  refine lv_iload_n hx hb (ct_d vL3 19 rfl) rfl (lv_at hl 3 rfl) ?_
  refine lv_bipush (v := 7) hx hb (ct_d vL3 20 rfl) (by decide +kernel) ?_
  refine lv_iadd hx hb (ct_d vL3 21 rfl) ?_
  refine va_sld hx hb hX hbl hbA hS (hi 7 (by decide)) (ct_d vL3 22 rfl) ?_
  refine lv_i2l hx hb (ct_d vL3 23 rfl) rfl ?_
  refine lv_bipush (v := 32) hx hb (ct_d vL3 24 rfl) (by decide +kernel) ?_
  refine lv_lshl hx hb (ct_d vL3 25 rfl) rfl ?_
  refine lv_aload_n hx hb (ct_d vL3 26 rfl) rfl (lv_at hl 0 rfl) ?_
  refine lv_iload_n hx hb (ct_d vL3 27 rfl) rfl (lv_at hl 3 rfl) ?_
  refine lv_bipush (v := 8) hx hb (ct_d vL3 28 rfl) (by decide +kernel) ?_
  refine lv_iadd hx hb (ct_d vL3 29 rfl) ?_
  refine va_sld hx hb hX hbl hbA hS (hi 8 (by decide)) (ct_d vL4 0 rfl) ?_
  refine lv_i2l hx hb (ct_d vL4 1 rfl) rfl ?_
  refine lv_ldc2 (v := 4294967295) hx hb hown (hts _ lw_kl) (ct_d vL4 2 rfl) ?_
  refine lv_land hx hb (ct_d vL4 3 rfl) ?_
  refine lv_lor hx hb (ct_d vL4 4 rfl) ?_
  have hs : sp_X10_arc [.ref 0, .int (xs (x3 + 1).toNatClampNeg), .int (xs (x3 + 2).toNatClampNeg), .long (((xs (x3 + 3).toNatClampNeg).toInt64 <<< ((32 : Int32).toInt64 &&& 63)) ||| ((xs (x3 + 4).toNatClampNeg).toInt64 &&& 4294967295)), .long (((xs (x3 + 5).toNatClampNeg).toInt64 <<< ((32 : Int32).toInt64 &&& 63)) ||| ((xs (x3 + 6).toNatClampNeg).toInt64 &&& 4294967295)), .long (((xs (x3 + 7).toNatClampNeg).toInt64 <<< ((32 : Int32).toInt64 &&& 63)) ||| ((xs (x3 + 8).toNatClampNeg).toInt64 &&& 4294967295))] u (fun r u' => tyI r ∧ sp_X11_arc [.ref 0, .int (xs (x3 + 1).toNatClampNeg), .int (xs (x3 + 2).toNatClampNeg), .long (((xs (x3 + 3).toNatClampNeg).toInt64 <<< ((32 : Int32).toInt64 &&& 63)) ||| ((xs (x3 + 4).toNatClampNeg).toInt64 &&& 4294967295)), .long (((xs (x3 + 5).toNatClampNeg).toInt64 <<< ((32 : Int32).toInt64 &&& 63)) ||| ((xs (x3 + 6).toNatClampNeg).toInt64 &&& 4294967295)), .long (((xs (x3 + 7).toNatClampNeg).toInt64 <<< ((32 : Int32).toInt64 &&& 63)) ||| ((xs (x3 + 8).toNatClampNeg).toInt64 &&& 4294967295))] v (fun r' v' => r = r' ∧ Inv u' v')) := s_arc hI
  refine lw_call (As := [.int (xs (x3 + 1).toNatClampNeg), .int (xs (x3 + 2).toNatClampNeg), .long (((xs (x3 + 3).toNatClampNeg).toInt64 <<< ((32 : Int32).toInt64 &&& 63)) ||| ((xs (x3 + 4).toNatClampNeg).toInt64 &&& 4294967295)), .long (((xs (x3 + 5).toNatClampNeg).toInt64 <<< ((32 : Int32).toInt64 &&& 63)) ||| ((xs (x3 + 6).toNatClampNeg).toInt64 &&& 4294967295)), .long (((xs (x3 + 7).toNatClampNeg).toInt64 <<< ((32 : Int32).toInt64 &&& 63)) ||| ((xs (x3 + 8).toNatClampNeg).toInt64 &&& 4294967295))]) (rest := []) C0 hK (kl_X10_arc l D cA adC) (by decide) sC_0 hs rfl rfl (hDC u) hP hR (lw_apC C1) hS hl.1 rfl (Nat.le_of_ble_eq_true rfl) (ct_d vL4 5 rfl) (fun r u1 H locs hq hP hR hS => ?_)
  obtain ⟨⟨x, rfl⟩, hs⟩ := hq
  refine W.eq (g2 := F0 m 258 ls [.int x]) rfl ?_
  refine lv_aload_n hx hb (ct_d vL4 6 rfl) rfl (lv_at hl 2 rfl) ?_
  refine lv_aload_n hx hb (ct_d vL4 7 rfl) rfl (lv_at hl 0 rfl) ?_
  refine lv_iload_n hx hb (ct_d vL4 8 rfl) rfl (lv_at hl 3 rfl) ?_
  refine lv_iconst (v := 1) hx hb (ct_d vL4 9 rfl) (by decide +kernel) ?_
  refine lv_iadd hx hb (ct_d vL4 10 rfl) ?_
  refine va_sld hx hb hX hbl hbA hS (hi 1 (by decide)) (ct_d vL4 11 rfl) ?_
  refine lv_aload_n hx hb (ct_d vL4 12 rfl) rfl (lv_at hl 0 rfl) ?_
  refine lv_iload_n hx hb (ct_d vL4 13 rfl) rfl (lv_at hl 3 rfl) ?_
  refine lv_iconst (v := 2) hx hb (ct_d vL4 14 rfl) (by decide +kernel) ?_
  refine lv_iadd hx hb (ct_d vL4 15 rfl) ?_
  refine va_sld hx hb hX hbl hbA hS (hi 2 (by decide)) (ct_d vL4 16 rfl) ?_
  refine lv_aload_n hx hb (ct_d vL4 17 rfl) rfl (lv_at hl 0 rfl) ?_
  refine lv_iload_n hx hb (ct_d vL4 18 rfl) rfl (lv_at hl 3 rfl) ?_
  refine lv_iconst (v := 3) hx hb (ct_d vL4 19 rfl) (by decide +kernel) ?_
  refine lv_iadd hx hb (ct_d vL4 20 rfl) ?_
  refine va_sld hx hb hX hbl hbA hS (hi 3 (by decide)) (ct_d vL4 21 rfl) ?_
  refine lv_i2l hx hb (ct_d vL4 22 rfl) rfl ?_
  refine lv_bipush (v := 32) hx hb (ct_d vL4 23 rfl) (by decide +kernel) ?_
  refine lv_lshl hx hb (ct_d vL4 24 rfl) rfl ?_
  refine lv_aload_n hx hb (ct_d vL4 25 rfl) rfl (lv_at hl 0 rfl) ?_
  refine lv_iload_n hx hb (ct_d vL4 26 rfl) rfl (lv_at hl 3 rfl) ?_
  refine lv_iconst (v := 4) hx hb (ct_d vL4 27 rfl) (by decide +kernel) ?_
  refine lv_iadd hx hb (ct_d vL4 28 rfl) ?_
  refine va_sld hx hb hX hbl hbA hS (hi 4 (by decide)) (ct_d vL4 29 rfl) ?_
  refine lv_i2l hx hb (ct_d vL5 0 rfl) rfl ?_
  refine lv_ldc2 (v := 4294967295) hx hb hown (hts _ lw_kl) (ct_d vL5 1 rfl) ?_
  refine lv_land hx hb (ct_d vL5 2 rfl) ?_
  refine lv_lor hx hb (ct_d vL5 3 rfl) ?_
  refine lv_aload_n hx hb (ct_d vL5 4 rfl) rfl (lv_at hl 0 rfl) ?_
  refine lv_iload_n hx hb (ct_d vL5 5 rfl) rfl (lv_at hl 3 rfl) ?_
  refine lv_iconst (v := 5) hx hb (ct_d vL5 6 rfl) (by decide +kernel) ?_
  refine lv_iadd hx hb (ct_d vL5 7 rfl) ?_
  refine va_sld hx hb hX hbl hbA hS (hi 5 (by decide)) (ct_d vL5 8 rfl) ?_
  refine lv_i2l hx hb (ct_d vL5 9 rfl) rfl ?_
  refine lv_bipush (v := 32) hx hb (ct_d vL5 10 rfl) (by decide +kernel) ?_
  refine lv_lshl hx hb (ct_d vL5 11 rfl) rfl ?_
  refine lv_aload_n hx hb (ct_d vL5 12 rfl) rfl (lv_at hl 0 rfl) ?_
  refine lv_iload_n hx hb (ct_d vL5 13 rfl) rfl (lv_at hl 3 rfl) ?_
  refine lv_bipush (v := 6) hx hb (ct_d vL5 14 rfl) (by decide +kernel) ?_
  refine lv_iadd hx hb (ct_d vL5 15 rfl) ?_
  refine va_sld hx hb hX hbl hbA hS (hi 6 (by decide)) (ct_d vL5 16 rfl) ?_
  refine lv_i2l hx hb (ct_d vL5 17 rfl) rfl ?_
  refine lv_ldc2 (v := 4294967295) hx hb hown (hts _ lw_kl) (ct_d vL5 18 rfl) ?_
  refine lv_land hx hb (ct_d vL5 19 rfl) ?_
  refine lv_lor hx hb (ct_d vL5 20 rfl) ?_
  refine lv_aload_n hx hb (ct_d vL5 21 rfl) rfl (lv_at hl 0 rfl) ?_
  refine lv_iload_n hx hb (ct_d vL5 22 rfl) rfl (lv_at hl 3 rfl) ?_
  refine lv_bipush (v := 7) hx hb (ct_d vL5 23 rfl) (by decide +kernel) ?_
  refine lv_iadd hx hb (ct_d vL5 24 rfl) ?_
  refine va_sld hx hb hX hbl hbA hS (hi 7 (by decide)) (ct_d vL5 25 rfl) ?_
  refine lv_i2l hx hb (ct_d vL5 26 rfl) rfl ?_
  refine lv_bipush (v := 32) hx hb (ct_d vL5 27 rfl) (by decide +kernel) ?_
  refine lv_lshl hx hb (ct_d vL5 28 rfl) rfl ?_
  refine lv_aload_n hx hb (ct_d vL5 29 rfl) rfl (lv_at hl 0 rfl) ?_
  refine lv_iload_n hx hb (ct_d vL6 0 rfl) rfl (lv_at hl 3 rfl) ?_
  refine lv_bipush (v := 8) hx hb (ct_d vL6 1 rfl) (by decide +kernel) ?_
  refine lv_iadd hx hb (ct_d vL6 2 rfl) ?_
  refine va_sld hx hb hX hbl hbA hS (hi 8 (by decide)) (ct_d vL6 3 rfl) ?_
  refine lv_i2l hx hb (ct_d vL6 4 rfl) rfl ?_
  refine lv_ldc2 (v := 4294967295) hx hb hown (hts _ lw_kl) (ct_d vL6 5 rfl) ?_
  refine lv_land hx hb (ct_d vL6 6 rfl) ?_
  refine lv_lor hx hb (ct_d vL6 7 rfl) ?_
  refine lw_call (As := [.int (xs (x3 + 1).toNatClampNeg), .int (xs (x3 + 2).toNatClampNeg), .long (((xs (x3 + 3).toNatClampNeg).toInt64 <<< ((32 : Int32).toInt64 &&& 63)) ||| ((xs (x3 + 4).toNatClampNeg).toInt64 &&& 4294967295)), .long (((xs (x3 + 5).toNatClampNeg).toInt64 <<< ((32 : Int32).toInt64 &&& 63)) ||| ((xs (x3 + 6).toNatClampNeg).toInt64 &&& 4294967295)), .long (((xs (x3 + 7).toNatClampNeg).toInt64 <<< ((32 : Int32).toInt64 &&& 63)) ||| ((xs (x3 + 8).toNatClampNeg).toInt64 &&& 4294967295))]) (rest := [.int x]) C0 hK (kl_X11_arc l D cA adM) (by decide) sM_0 hs rfl rfl (hDM v) hR hP (lw_apM C1) hS hl.1 rfl (Nat.le_of_ble_eq_true rfl) (ct_d vL6 8 rfl) (fun r v1 H locs hq hR hP hS => ?_)
  obtain ⟨he, hI⟩ := hq
  subst he
  refine W.eq (g2 := F0 m 335 ls [.int x, .int x]) rfl ?_
  exact lv_icmp_eq (tgt := 978) hx hb (ct_d vL6 9 rfl) (by decide) (fun _ => kk u1 v1 H locs hI hP hR hS) (fun h => absurd rfl h)
set_option maxRecDepth 100000 in
theorem kl_X10_piece (l : Launch) (D : va_G) (cA : Nat → ClassId) (ad : Nat → Nat) : dm_M1 l room_1 lw_tbl R_law D dm_cl cA ad shC sp_X10_piece 25 3 10 := dm_M1_of (t_X10_piece l D cA ad) lw_hT (dm_mem [499, 66, 496] (by decide +kernel) (by decide +kernel)) (by decide) (by decide +kernel) (Or.inr ⟨by decide, dm_mem [497, 498] (by decide +kernel) (by decide +kernel), rfl⟩)
set_option maxRecDepth 100000 in
theorem kl_X11_piece (l : Launch) (D : va_G) (cA : Nat → ClassId) (ad : Nat → Nat) : dm_M1 l room_1 lw_tbl R_law D dm_cl cA ad shM sp_X11_piece 29 3 11 := dm_M1_of (t_X11_piece l D cA ad) lw_hT (dm_mem [1089, 77, 1086] (by decide +kernel) (by decide +kernel)) (by decide) (by decide +kernel) (Or.inr ⟨by decide, dm_mem [1087, 1088] (by decide +kernel) (by decide +kernel), rfl⟩)
set_option maxHeartbeats 1600000 in
set_option maxRecDepth 100000 in
theorem lw_piece {p : Program} {l : Launch} {e : Env} {s : State} {m : MethodId} {below : List Frame} {meth : Method} {c : Code} {b L : Nat} {xs : Nat → Int32} {D : va_G} {cA : Nat → ClassId} {adC adM : Nat → Nat} (C0 : lw_At p s m meth c b L xs) (C1 : lw_W s D cA adC adM) {x3 : Int32} (hi : ∀ k : Nat, k ≤ 8 → vp_in (x3 + nI k) L) {ls : Array Slot} (hl : lv_has ls 4 [(0, .ref b), (1, .ref (adC 0)), (2, .ref (adM 0)), (3, .int x3)]) {H : Heap} {locs : List Loc} {u v : dm_S} (hI : Inv u v) (hP : va_P D dm_cl (dm_w adC cA shC u) H) (hR : va_P D dm_cl (dm_w adM cA shM v) H) (hS : va_S (fun q : Nat => s.heap.size ≤ q) s.heap H locs) (kk : lw_kk p l e s m below meth c b D cA adC adM 978 ls) : W p l e room_1 s m #[Value.ref b] below meth c H locs 82 11860 (lw_Z below #[Value.ref b] s) (F0 m 340 ls []) := by
  obtain ⟨hx, hb, hr, hml, hown, hts, hX, hbl, hlocks, hgv⟩ := id C0
  obtain ⟨hK, hDC, hDM, -⟩ := id C1
  have hbA : ¬ (fun q : Nat => s.heap.size ≤ q) b := Nat.not_le.mpr hbl
  refine lv_aload_n hx hb (ct_d vL6 12 rfl) rfl (lv_at hl 1 rfl) ?_
  refine lv_aload_n hx hb (ct_d vL6 13 rfl) rfl (lv_at hl 0 rfl) ?_
  refine lv_iload_n hx hb (ct_d vL6 14 rfl) rfl (lv_at hl 3 rfl) ?_
  refine lv_iconst (v := 1) hx hb (ct_d vL6 15 rfl) (by decide +kernel) ?_
  refine lv_iadd hx hb (ct_d vL6 16 rfl) ?_
  refine va_sld hx hb hX hbl hbA hS (hi 1 (by decide)) (ct_d vL6 17 rfl) ?_
  refine lv_aload_n hx hb (ct_d vL6 18 rfl) rfl (lv_at hl 0 rfl) ?_
  refine lv_iload_n hx hb (ct_d vL6 19 rfl) rfl (lv_at hl 3 rfl) ?_
  refine lv_iconst (v := 2) hx hb (ct_d vL6 20 rfl) (by decide +kernel) ?_
  refine lv_iadd hx hb (ct_d vL6 21 rfl) ?_
  refine va_sld hx hb hX hbl hbA hS (hi 2 (by decide)) (ct_d vL6 22 rfl) ?_
  refine lv_i2l hx hb (ct_d vL6 23 rfl) rfl ?_
  refine lv_bipush (v := 32) hx hb (ct_d vL6 24 rfl) (by decide +kernel) ?_
  refine lv_lshl hx hb (ct_d vL6 25 rfl) rfl ?_
  refine lv_aload_n hx hb (ct_d vL6 26 rfl) rfl (lv_at hl 0 rfl) ?_
  refine lv_iload_n hx hb (ct_d vL6 27 rfl) rfl (lv_at hl 3 rfl) ?_
  refine lv_iconst (v := 3) hx hb (ct_d vL6 28 rfl) (by decide +kernel) ?_
  refine lv_iadd hx hb (ct_d vL6 29 rfl) ?_
  refine va_sld hx hb hX hbl hbA hS (hi 3 (by decide)) (ct_d vL7 0 rfl) ?_
  refine lv_i2l hx hb (ct_d vL7 1 rfl) rfl ?_
  refine lv_ldc2 (v := 4294967295) hx hb hown (hts _ lw_kl) (ct_d vL7 2 rfl) ?_
  refine lv_land hx hb (ct_d vL7 3 rfl) ?_
  refine lv_lor hx hb (ct_d vL7 4 rfl) ?_
  refine lv_aload_n hx hb (ct_d vL7 5 rfl) rfl (lv_at hl 0 rfl) ?_
  refine lv_iload_n hx hb (ct_d vL7 6 rfl) rfl (lv_at hl 3 rfl) ?_
  refine lv_iconst (v := 4) hx hb (ct_d vL7 7 rfl) (by decide +kernel) ?_
  refine lv_iadd hx hb (ct_d vL7 8 rfl) ?_
  refine va_sld hx hb hX hbl hbA hS (hi 4 (by decide)) (ct_d vL7 9 rfl) ?_
  refine lv_i2l hx hb (ct_d vL7 10 rfl) rfl ?_
  refine lv_bipush (v := 32) hx hb (ct_d vL7 11 rfl) (by decide +kernel) ?_
  refine lv_lshl hx hb (ct_d vL7 12 rfl) rfl ?_
  refine lv_aload_n hx hb (ct_d vL7 13 rfl) rfl (lv_at hl 0 rfl) ?_
  refine lv_iload_n hx hb (ct_d vL7 14 rfl) rfl (lv_at hl 3 rfl) ?_
  refine lv_iconst (v := 5) hx hb (ct_d vL7 15 rfl) (by decide +kernel) ?_
  refine lv_iadd hx hb (ct_d vL7 16 rfl) ?_
  refine va_sld hx hb hX hbl hbA hS (hi 5 (by decide)) (ct_d vL7 17 rfl) ?_
  refine lv_i2l hx hb (ct_d vL7 18 rfl) rfl ?_
  refine lv_ldc2 (v := 4294967295) hx hb hown (hts _ lw_kl) (ct_d vL7 19 rfl) ?_
  refine lv_land hx hb (ct_d vL7 20 rfl) ?_
  refine lv_lor hx hb (ct_d vL7 21 rfl) ?_
  have hs : sp_X10_piece [.ref 0, .int (xs (x3 + 1).toNatClampNeg), .long (((xs (x3 + 2).toNatClampNeg).toInt64 <<< ((32 : Int32).toInt64 &&& 63)) ||| ((xs (x3 + 3).toNatClampNeg).toInt64 &&& 4294967295)), .long (((xs (x3 + 4).toNatClampNeg).toInt64 <<< ((32 : Int32).toInt64 &&& 63)) ||| ((xs (x3 + 5).toNatClampNeg).toInt64 &&& 4294967295))] u (fun r u' => tyI r ∧ sp_X11_piece [.ref 0, .int (xs (x3 + 1).toNatClampNeg), .long (((xs (x3 + 2).toNatClampNeg).toInt64 <<< ((32 : Int32).toInt64 &&& 63)) ||| ((xs (x3 + 3).toNatClampNeg).toInt64 &&& 4294967295)), .long (((xs (x3 + 4).toNatClampNeg).toInt64 <<< ((32 : Int32).toInt64 &&& 63)) ||| ((xs (x3 + 5).toNatClampNeg).toInt64 &&& 4294967295))] v (fun r' v' => r = r' ∧ Inv u' v')) := s_piece hI
  refine lw_call (As := [.int (xs (x3 + 1).toNatClampNeg), .long (((xs (x3 + 2).toNatClampNeg).toInt64 <<< ((32 : Int32).toInt64 &&& 63)) ||| ((xs (x3 + 3).toNatClampNeg).toInt64 &&& 4294967295)), .long (((xs (x3 + 4).toNatClampNeg).toInt64 <<< ((32 : Int32).toInt64 &&& 63)) ||| ((xs (x3 + 5).toNatClampNeg).toInt64 &&& 4294967295))]) (rest := []) C0 hK (kl_X10_piece l D cA adC) (by decide) sC_0 hs rfl rfl (hDC u) hP hR (lw_apC C1) hS hl.1 rfl (Nat.le_of_ble_eq_true rfl) (ct_d vL7 22 rfl) (fun r u1 H locs hq hP hR hS => ?_)
  obtain ⟨⟨x, rfl⟩, hs⟩ := hq
  refine W.eq (g2 := F0 m 389 ls [.int x]) rfl ?_
  refine lv_aload_n hx hb (ct_d vL7 23 rfl) rfl (lv_at hl 2 rfl) ?_
  refine lv_aload_n hx hb (ct_d vL7 24 rfl) rfl (lv_at hl 0 rfl) ?_
  refine lv_iload_n hx hb (ct_d vL7 25 rfl) rfl (lv_at hl 3 rfl) ?_
  refine lv_iconst (v := 1) hx hb (ct_d vL7 26 rfl) (by decide +kernel) ?_
  refine lv_iadd hx hb (ct_d vL7 27 rfl) ?_
  refine va_sld hx hb hX hbl hbA hS (hi 1 (by decide)) (ct_d vL7 28 rfl) ?_
  refine lv_aload_n hx hb (ct_d vL7 29 rfl) rfl (lv_at hl 0 rfl) ?_
  refine lv_iload_n hx hb (ct_d vL8 0 rfl) rfl (lv_at hl 3 rfl) ?_
  refine lv_iconst (v := 2) hx hb (ct_d vL8 1 rfl) (by decide +kernel) ?_
  refine lv_iadd hx hb (ct_d vL8 2 rfl) ?_
  refine va_sld hx hb hX hbl hbA hS (hi 2 (by decide)) (ct_d vL8 3 rfl) ?_
  refine lv_i2l hx hb (ct_d vL8 4 rfl) rfl ?_
  refine lv_bipush (v := 32) hx hb (ct_d vL8 5 rfl) (by decide +kernel) ?_
  refine lv_lshl hx hb (ct_d vL8 6 rfl) rfl ?_
  refine lv_aload_n hx hb (ct_d vL8 7 rfl) rfl (lv_at hl 0 rfl) ?_
  refine lv_iload_n hx hb (ct_d vL8 8 rfl) rfl (lv_at hl 3 rfl) ?_
  refine lv_iconst (v := 3) hx hb (ct_d vL8 9 rfl) (by decide +kernel) ?_
  refine lv_iadd hx hb (ct_d vL8 10 rfl) ?_
  refine va_sld hx hb hX hbl hbA hS (hi 3 (by decide)) (ct_d vL8 11 rfl) ?_
  refine lv_i2l hx hb (ct_d vL8 12 rfl) rfl ?_
  refine lv_ldc2 (v := 4294967295) hx hb hown (hts _ lw_kl) (ct_d vL8 13 rfl) ?_
  refine lv_land hx hb (ct_d vL8 14 rfl) ?_
  refine lv_lor hx hb (ct_d vL8 15 rfl) ?_
  refine lv_aload_n hx hb (ct_d vL8 16 rfl) rfl (lv_at hl 0 rfl) ?_
  refine lv_iload_n hx hb (ct_d vL8 17 rfl) rfl (lv_at hl 3 rfl) ?_
  refine lv_iconst (v := 4) hx hb (ct_d vL8 18 rfl) (by decide +kernel) ?_
  refine lv_iadd hx hb (ct_d vL8 19 rfl) ?_
  refine va_sld hx hb hX hbl hbA hS (hi 4 (by decide)) (ct_d vL8 20 rfl) ?_
  refine lv_i2l hx hb (ct_d vL8 21 rfl) rfl ?_
  refine lv_bipush (v := 32) hx hb (ct_d vL8 22 rfl) (by decide +kernel) ?_
  refine lv_lshl hx hb (ct_d vL8 23 rfl) rfl ?_
  refine lv_aload_n hx hb (ct_d vL8 24 rfl) rfl (lv_at hl 0 rfl) ?_
  refine lv_iload_n hx hb (ct_d vL8 25 rfl) rfl (lv_at hl 3 rfl) ?_
  refine lv_iconst (v := 5) hx hb (ct_d vL8 26 rfl) (by decide +kernel) ?_
  refine lv_iadd hx hb (ct_d vL8 27 rfl) ?_
  refine va_sld hx hb hX hbl hbA hS (hi 5 (by decide)) (ct_d vL8 28 rfl) ?_
  refine lv_i2l hx hb (ct_d vL8 29 rfl) rfl ?_
  refine lv_ldc2 (v := 4294967295) hx hb hown (hts _ lw_kl) (ct_d vL9 0 rfl) ?_
  refine lv_land hx hb (ct_d vL9 1 rfl) ?_
  refine lv_lor hx hb (ct_d vL9 2 rfl) ?_
  refine lw_call (As := [.int (xs (x3 + 1).toNatClampNeg), .long (((xs (x3 + 2).toNatClampNeg).toInt64 <<< ((32 : Int32).toInt64 &&& 63)) ||| ((xs (x3 + 3).toNatClampNeg).toInt64 &&& 4294967295)), .long (((xs (x3 + 4).toNatClampNeg).toInt64 <<< ((32 : Int32).toInt64 &&& 63)) ||| ((xs (x3 + 5).toNatClampNeg).toInt64 &&& 4294967295))]) (rest := [.int x]) C0 hK (kl_X11_piece l D cA adM) (by decide) sM_0 hs rfl rfl (hDM v) hR hP (lw_apM C1) hS hl.1 rfl (Nat.le_of_ble_eq_true rfl) (ct_d vL9 3 rfl) (fun r v1 H locs hq hR hP hS => ?_)
  obtain ⟨he, hI⟩ := hq
  subst he
  refine W.eq (g2 := F0 m 438 ls [.int x, .int x]) rfl ?_
  exact lv_icmp_eq (tgt := 978) hx hb (ct_d vL9 4 rfl) (by decide) (fun _ => kk u1 v1 H locs hI hP hR hS) (fun h => absurd rfl h)
set_option maxRecDepth 100000 in
theorem kl_X10_supply (l : Launch) (D : va_G) (cA : Nat → ClassId) (ad : Nat → Nat) : dm_M1 l room_1 lw_tbl R_law D dm_cl cA ad shC sp_X10_supply 30 2 10 := dm_M1_of (t_X10_supply l D cA ad) lw_hT (dm_mem [520, 66, 517] (by decide +kernel) (by decide +kernel)) (by decide) (by decide +kernel) (Or.inr ⟨by decide, dm_mem [518, 519] (by decide +kernel) (by decide +kernel), rfl⟩)
set_option maxRecDepth 100000 in
theorem kl_X11_supply (l : Launch) (D : va_G) (cA : Nat → ClassId) (ad : Nat → Nat) : dm_M1 l room_1 lw_tbl R_law D dm_cl cA ad shM sp_X11_supply 34 2 11 := dm_M1_of (t_X11_supply l D cA ad) lw_hT (dm_mem [1098, 77, 1095] (by decide +kernel) (by decide +kernel)) (by decide) (by decide +kernel) (Or.inr ⟨by decide, dm_mem [1096, 1097] (by decide +kernel) (by decide +kernel), rfl⟩)
set_option maxHeartbeats 1600000 in
set_option maxRecDepth 100000 in
theorem lw_supply {p : Program} {l : Launch} {e : Env} {s : State} {m : MethodId} {below : List Frame} {meth : Method} {c : Code} {b L : Nat} {xs : Nat → Int32} {D : va_G} {cA : Nat → ClassId} {adC adM : Nat → Nat} (C0 : lw_At p s m meth c b L xs) (C1 : lw_W s D cA adC adM) {x3 : Int32} (hi : ∀ k : Nat, k ≤ 8 → vp_in (x3 + nI k) L) {ls : Array Slot} (hl : lv_has ls 4 [(0, .ref b), (1, .ref (adC 0)), (2, .ref (adM 0)), (3, .int x3)]) {H : Heap} {locs : List Loc} {u v : dm_S} (hI : Inv u v) (hP : va_P D dm_cl (dm_w adC cA shC u) H) (hR : va_P D dm_cl (dm_w adM cA shM v) H) (hS : va_S (fun q : Nat => s.heap.size ≤ q) s.heap H locs) (kk : lw_kk p l e s m below meth c b D cA adC adM 978 ls) : W p l e room_1 s m #[Value.ref b] below meth c H locs 82 11860 (lw_Z below #[Value.ref b] s) (F0 m 443 ls []) := by
  obtain ⟨hx, hb, hr, hml, hown, hts, hX, hbl, hlocks, hgv⟩ := id C0
  obtain ⟨hK, hDC, hDM, -⟩ := id C1
  have hbA : ¬ (fun q : Nat => s.heap.size ≤ q) b := Nat.not_le.mpr hbl
  refine lv_aload_n hx hb (ct_d vL9 7 rfl) rfl (lv_at hl 1 rfl) ?_
  refine lv_aload_n hx hb (ct_d vL9 8 rfl) rfl (lv_at hl 0 rfl) ?_
  refine lv_iload_n hx hb (ct_d vL9 9 rfl) rfl (lv_at hl 3 rfl) ?_
  refine lv_iconst (v := 1) hx hb (ct_d vL9 10 rfl) (by decide +kernel) ?_
  refine lv_iadd hx hb (ct_d vL9 11 rfl) ?_
  refine va_sld hx hb hX hbl hbA hS (hi 1 (by decide)) (ct_d vL9 12 rfl) ?_
  refine lv_aload_n hx hb (ct_d vL9 13 rfl) rfl (lv_at hl 0 rfl) ?_
  refine lv_iload_n hx hb (ct_d vL9 14 rfl) rfl (lv_at hl 3 rfl) ?_
  refine lv_iconst (v := 2) hx hb (ct_d vL9 15 rfl) (by decide +kernel) ?_
  refine lv_iadd hx hb (ct_d vL9 16 rfl) ?_
  refine va_sld hx hb hX hbl hbA hS (hi 2 (by decide)) (ct_d vL9 17 rfl) ?_
  refine lv_i2l hx hb (ct_d vL9 18 rfl) rfl ?_
  refine lv_bipush (v := 32) hx hb (ct_d vL9 19 rfl) (by decide +kernel) ?_
  refine lv_lshl hx hb (ct_d vL9 20 rfl) rfl ?_
  refine lv_aload_n hx hb (ct_d vL9 21 rfl) rfl (lv_at hl 0 rfl) ?_
  refine lv_iload_n hx hb (ct_d vL9 22 rfl) rfl (lv_at hl 3 rfl) ?_
  refine lv_iconst (v := 3) hx hb (ct_d vL9 23 rfl) (by decide +kernel) ?_
  refine lv_iadd hx hb (ct_d vL9 24 rfl) ?_
  refine va_sld hx hb hX hbl hbA hS (hi 3 (by decide)) (ct_d vL9 25 rfl) ?_
  refine lv_i2l hx hb (ct_d vL9 26 rfl) rfl ?_
  refine lv_ldc2 (v := 4294967295) hx hb hown (hts _ lw_kl) (ct_d vL9 27 rfl) ?_
  refine lv_land hx hb (ct_d vL9 28 rfl) ?_
  refine lv_lor hx hb (ct_d vL9 29 rfl) ?_
  have hs : sp_X10_supply [.ref 0, .int (xs (x3 + 1).toNatClampNeg), .long (((xs (x3 + 2).toNatClampNeg).toInt64 <<< ((32 : Int32).toInt64 &&& 63)) ||| ((xs (x3 + 3).toNatClampNeg).toInt64 &&& 4294967295))] u (fun r u' => tyL r ∧ sp_X11_supply [.ref 0, .int (xs (x3 + 1).toNatClampNeg), .long (((xs (x3 + 2).toNatClampNeg).toInt64 <<< ((32 : Int32).toInt64 &&& 63)) ||| ((xs (x3 + 3).toNatClampNeg).toInt64 &&& 4294967295))] v (fun r' v' => r = r' ∧ Inv u' v')) := s_supply hI
  refine lw_call (As := [.int (xs (x3 + 1).toNatClampNeg), .long (((xs (x3 + 2).toNatClampNeg).toInt64 <<< ((32 : Int32).toInt64 &&& 63)) ||| ((xs (x3 + 3).toNatClampNeg).toInt64 &&& 4294967295))]) (rest := []) C0 hK (kl_X10_supply l D cA adC) (by decide) sC_0 hs rfl rfl (hDC u) hP hR (lw_apC C1) hS hl.1 rfl (Nat.le_of_ble_eq_true rfl) (ct_d vL10 0 rfl) (fun r u1 H locs hq hP hR hS => ?_)
  obtain ⟨⟨x, rfl⟩, hs⟩ := hq
  refine W.eq (g2 := F0 m 472 ls [.long x]) rfl ?_
  refine lv_aload_n hx hb (ct_d vL10 1 rfl) rfl (lv_at hl 2 rfl) ?_
  refine lv_aload_n hx hb (ct_d vL10 2 rfl) rfl (lv_at hl 0 rfl) ?_
  refine lv_iload_n hx hb (ct_d vL10 3 rfl) rfl (lv_at hl 3 rfl) ?_
  refine lv_iconst (v := 1) hx hb (ct_d vL10 4 rfl) (by decide +kernel) ?_
  refine lv_iadd hx hb (ct_d vL10 5 rfl) ?_
  refine va_sld hx hb hX hbl hbA hS (hi 1 (by decide)) (ct_d vL10 6 rfl) ?_
  refine lv_aload_n hx hb (ct_d vL10 7 rfl) rfl (lv_at hl 0 rfl) ?_
  refine lv_iload_n hx hb (ct_d vL10 8 rfl) rfl (lv_at hl 3 rfl) ?_
  refine lv_iconst (v := 2) hx hb (ct_d vL10 9 rfl) (by decide +kernel) ?_
  refine lv_iadd hx hb (ct_d vL10 10 rfl) ?_
  refine va_sld hx hb hX hbl hbA hS (hi 2 (by decide)) (ct_d vL10 11 rfl) ?_
  refine lv_i2l hx hb (ct_d vL10 12 rfl) rfl ?_
  refine lv_bipush (v := 32) hx hb (ct_d vL10 13 rfl) (by decide +kernel) ?_
  refine lv_lshl hx hb (ct_d vL10 14 rfl) rfl ?_
  refine lv_aload_n hx hb (ct_d vL10 15 rfl) rfl (lv_at hl 0 rfl) ?_
  refine lv_iload_n hx hb (ct_d vL10 16 rfl) rfl (lv_at hl 3 rfl) ?_
  refine lv_iconst (v := 3) hx hb (ct_d vL10 17 rfl) (by decide +kernel) ?_
  refine lv_iadd hx hb (ct_d vL10 18 rfl) ?_
  refine va_sld hx hb hX hbl hbA hS (hi 3 (by decide)) (ct_d vL10 19 rfl) ?_
  refine lv_i2l hx hb (ct_d vL10 20 rfl) rfl ?_
  refine lv_ldc2 (v := 4294967295) hx hb hown (hts _ lw_kl) (ct_d vL10 21 rfl) ?_
  refine lv_land hx hb (ct_d vL10 22 rfl) ?_
  refine lv_lor hx hb (ct_d vL10 23 rfl) ?_
  refine lw_call (As := [.int (xs (x3 + 1).toNatClampNeg), .long (((xs (x3 + 2).toNatClampNeg).toInt64 <<< ((32 : Int32).toInt64 &&& 63)) ||| ((xs (x3 + 3).toNatClampNeg).toInt64 &&& 4294967295))]) (rest := [.long x]) C0 hK (kl_X11_supply l D cA adM) (by decide) sM_0 hs rfl rfl (hDM v) hR hP (lw_apM C1) hS hl.1 rfl (Nat.le_of_ble_eq_true rfl) (ct_d vL10 24 rfl) (fun r v1 H locs hq hR hP hS => ?_)
  obtain ⟨he, hI⟩ := hq
  subst he
  refine W.eq (g2 := F0 m 501 ls [.long x, .long x]) rfl ?_
  refine W.lcmp hx hb (ct_d vL10 25 rfl) ?_
  exact lv_if_eq (tgt := 978) hx hb (ct_d vL10 26 rfl) (by decide) (fun _ => kk u1 v1 H locs hI hP hR hS) (fun h => absurd (dm_cm0.mpr rfl) h)
set_option maxRecDepth 100000 in
theorem kl_X10_price (l : Launch) (D : va_G) (cA : Nat → ClassId) (ad : Nat → Nat) : dm_M1 l room_1 lw_tbl R_law D dm_cl cA ad shC sp_X10_price 35 2 10 := dm_M1_of (t_X10_price l D cA ad) lw_hT (dm_mem [525, 66, 522] (by decide +kernel) (by decide +kernel)) (by decide) (by decide +kernel) (Or.inr ⟨by decide, dm_mem [523, 524] (by decide +kernel) (by decide +kernel), rfl⟩)
set_option maxRecDepth 100000 in
theorem kl_X11_price (l : Launch) (D : va_G) (cA : Nat → ClassId) (ad : Nat → Nat) : dm_M1 l room_1 lw_tbl R_law D dm_cl cA ad shM sp_X11_price 39 2 11 := dm_M1_of (t_X11_price l D cA ad) lw_hT (dm_mem [1103, 77, 1100] (by decide +kernel) (by decide +kernel)) (by decide) (by decide +kernel) (Or.inr ⟨by decide, dm_mem [1101, 1102] (by decide +kernel) (by decide +kernel), rfl⟩)
set_option maxHeartbeats 1600000 in
set_option maxRecDepth 100000 in
theorem lw_price {p : Program} {l : Launch} {e : Env} {s : State} {m : MethodId} {below : List Frame} {meth : Method} {c : Code} {b L : Nat} {xs : Nat → Int32} {D : va_G} {cA : Nat → ClassId} {adC adM : Nat → Nat} (C0 : lw_At p s m meth c b L xs) (C1 : lw_W s D cA adC adM) {x3 : Int32} (hi : ∀ k : Nat, k ≤ 8 → vp_in (x3 + nI k) L) {ls : Array Slot} (hl : lv_has ls 4 [(0, .ref b), (1, .ref (adC 0)), (2, .ref (adM 0)), (3, .int x3)]) {H : Heap} {locs : List Loc} {u v : dm_S} (hI : Inv u v) (hP : va_P D dm_cl (dm_w adC cA shC u) H) (hR : va_P D dm_cl (dm_w adM cA shM v) H) (hS : va_S (fun q : Nat => s.heap.size ≤ q) s.heap H locs) (kk : lw_kk p l e s m below meth c b D cA adC adM 978 ls) : W p l e room_1 s m #[Value.ref b] below meth c H locs 82 11860 (lw_Z below #[Value.ref b] s) (F0 m 507 ls []) := by
  obtain ⟨hx, hb, hr, hml, hown, hts, hX, hbl, hlocks, hgv⟩ := id C0
  obtain ⟨hK, hDC, hDM, -⟩ := id C1
  have hbA : ¬ (fun q : Nat => s.heap.size ≤ q) b := Nat.not_le.mpr hbl
  refine lv_aload_n hx hb (ct_d vL10 29 rfl) rfl (lv_at hl 1 rfl) ?_
  refine lv_aload_n hx hb (ct_d vL11 0 rfl) rfl (lv_at hl 0 rfl) ?_
  refine lv_iload_n hx hb (ct_d vL11 1 rfl) rfl (lv_at hl 3 rfl) ?_
  refine lv_iconst (v := 1) hx hb (ct_d vL11 2 rfl) (by decide +kernel) ?_
  refine lv_iadd hx hb (ct_d vL11 3 rfl) ?_
  refine va_sld hx hb hX hbl hbA hS (hi 1 (by decide)) (ct_d vL11 4 rfl) ?_
  refine lv_aload_n hx hb (ct_d vL11 5 rfl) rfl (lv_at hl 0 rfl) ?_
  refine lv_iload_n hx hb (ct_d vL11 6 rfl) rfl (lv_at hl 3 rfl) ?_
  refine lv_iconst (v := 2) hx hb (ct_d vL11 7 rfl) (by decide +kernel) ?_
  refine lv_iadd hx hb (ct_d vL11 8 rfl) ?_
  refine va_sld hx hb hX hbl hbA hS (hi 2 (by decide)) (ct_d vL11 9 rfl) ?_
  refine lv_i2l hx hb (ct_d vL11 10 rfl) rfl ?_
  refine lv_bipush (v := 32) hx hb (ct_d vL11 11 rfl) (by decide +kernel) ?_
  refine lv_lshl hx hb (ct_d vL11 12 rfl) rfl ?_
  refine lv_aload_n hx hb (ct_d vL11 13 rfl) rfl (lv_at hl 0 rfl) ?_
  refine lv_iload_n hx hb (ct_d vL11 14 rfl) rfl (lv_at hl 3 rfl) ?_
  refine lv_iconst (v := 3) hx hb (ct_d vL11 15 rfl) (by decide +kernel) ?_
  refine lv_iadd hx hb (ct_d vL11 16 rfl) ?_
  refine va_sld hx hb hX hbl hbA hS (hi 3 (by decide)) (ct_d vL11 17 rfl) ?_
  refine lv_i2l hx hb (ct_d vL11 18 rfl) rfl ?_
  refine lv_ldc2 (v := 4294967295) hx hb hown (hts _ lw_kl) (ct_d vL11 19 rfl) ?_
  refine lv_land hx hb (ct_d vL11 20 rfl) ?_
  refine lv_lor hx hb (ct_d vL11 21 rfl) ?_
  have hs : sp_X10_price [.ref 0, .int (xs (x3 + 1).toNatClampNeg), .long (((xs (x3 + 2).toNatClampNeg).toInt64 <<< ((32 : Int32).toInt64 &&& 63)) ||| ((xs (x3 + 3).toNatClampNeg).toInt64 &&& 4294967295))] u (fun r u' => tyI r ∧ sp_X11_price [.ref 0, .int (xs (x3 + 1).toNatClampNeg), .long (((xs (x3 + 2).toNatClampNeg).toInt64 <<< ((32 : Int32).toInt64 &&& 63)) ||| ((xs (x3 + 3).toNatClampNeg).toInt64 &&& 4294967295))] v (fun r' v' => r = r' ∧ Inv u' v')) := s_price hI
  refine lw_call (As := [.int (xs (x3 + 1).toNatClampNeg), .long (((xs (x3 + 2).toNatClampNeg).toInt64 <<< ((32 : Int32).toInt64 &&& 63)) ||| ((xs (x3 + 3).toNatClampNeg).toInt64 &&& 4294967295))]) (rest := []) C0 hK (kl_X10_price l D cA adC) (by decide) sC_0 hs rfl rfl (hDC u) hP hR (lw_apC C1) hS hl.1 rfl (Nat.le_of_ble_eq_true rfl) (ct_d vL11 22 rfl) (fun r u1 H locs hq hP hR hS => ?_)
  obtain ⟨⟨x, rfl⟩, hs⟩ := hq
  refine W.eq (g2 := F0 m 536 ls [.int x]) rfl ?_
  refine lv_aload_n hx hb (ct_d vL11 23 rfl) rfl (lv_at hl 2 rfl) ?_
  refine lv_aload_n hx hb (ct_d vL11 24 rfl) rfl (lv_at hl 0 rfl) ?_
  refine lv_iload_n hx hb (ct_d vL11 25 rfl) rfl (lv_at hl 3 rfl) ?_
  refine lv_iconst (v := 1) hx hb (ct_d vL11 26 rfl) (by decide +kernel) ?_
  refine lv_iadd hx hb (ct_d vL11 27 rfl) ?_
  refine va_sld hx hb hX hbl hbA hS (hi 1 (by decide)) (ct_d vL11 28 rfl) ?_
  refine lv_aload_n hx hb (ct_d vL11 29 rfl) rfl (lv_at hl 0 rfl) ?_
  refine lv_iload_n hx hb (ct_d vL12 0 rfl) rfl (lv_at hl 3 rfl) ?_
  refine lv_iconst (v := 2) hx hb (ct_d vL12 1 rfl) (by decide +kernel) ?_
  refine lv_iadd hx hb (ct_d vL12 2 rfl) ?_
  refine va_sld hx hb hX hbl hbA hS (hi 2 (by decide)) (ct_d vL12 3 rfl) ?_
  refine lv_i2l hx hb (ct_d vL12 4 rfl) rfl ?_
  refine lv_bipush (v := 32) hx hb (ct_d vL12 5 rfl) (by decide +kernel) ?_
  refine lv_lshl hx hb (ct_d vL12 6 rfl) rfl ?_
  refine lv_aload_n hx hb (ct_d vL12 7 rfl) rfl (lv_at hl 0 rfl) ?_
  refine lv_iload_n hx hb (ct_d vL12 8 rfl) rfl (lv_at hl 3 rfl) ?_
  refine lv_iconst (v := 3) hx hb (ct_d vL12 9 rfl) (by decide +kernel) ?_
  refine lv_iadd hx hb (ct_d vL12 10 rfl) ?_
  refine va_sld hx hb hX hbl hbA hS (hi 3 (by decide)) (ct_d vL12 11 rfl) ?_
  refine lv_i2l hx hb (ct_d vL12 12 rfl) rfl ?_
  refine lv_ldc2 (v := 4294967295) hx hb hown (hts _ lw_kl) (ct_d vL12 13 rfl) ?_
  refine lv_land hx hb (ct_d vL12 14 rfl) ?_
  refine lv_lor hx hb (ct_d vL12 15 rfl) ?_
  refine lw_call (As := [.int (xs (x3 + 1).toNatClampNeg), .long (((xs (x3 + 2).toNatClampNeg).toInt64 <<< ((32 : Int32).toInt64 &&& 63)) ||| ((xs (x3 + 3).toNatClampNeg).toInt64 &&& 4294967295))]) (rest := [.int x]) C0 hK (kl_X11_price l D cA adM) (by decide) sM_0 hs rfl rfl (hDM v) hR hP (lw_apM C1) hS hl.1 rfl (Nat.le_of_ble_eq_true rfl) (ct_d vL12 16 rfl) (fun r v1 H locs hq hR hP hS => ?_)
  obtain ⟨he, hI⟩ := hq
  subst he
  refine W.eq (g2 := F0 m 565 ls [.int x, .int x]) rfl ?_
  exact lv_icmp_eq (tgt := 978) hx hb (ct_d vL12 17 rfl) (by decide) (fun _ => kk u1 v1 H locs hI hP hR hS) (fun h => absurd rfl h)
set_option maxRecDepth 100000 in
theorem kl_X10_run (l : Launch) (D : va_G) (cA : Nat → ClassId) (ad : Nat → Nat) : dm_M1 l room_1 lw_tbl R_law D dm_cl cA ad shC sp_X10_run 40 1 10 := dm_M1_of (t_X10_run l D cA ad) lw_hT (dm_mem [534, 66, 531] (by decide +kernel) (by decide +kernel)) (by decide) (by decide +kernel) (Or.inr ⟨by decide, dm_mem [532, 533] (by decide +kernel) (by decide +kernel), rfl⟩)
set_option maxRecDepth 100000 in
theorem kl_X11_run (l : Launch) (D : va_G) (cA : Nat → ClassId) (ad : Nat → Nat) : dm_M1 l room_1 lw_tbl R_law D dm_cl cA ad shM sp_X11_run 44 1 11 := dm_M1_of (t_X11_run l D cA ad) lw_hT (dm_mem [1107, 77, 1104] (by decide +kernel) (by decide +kernel)) (by decide) (by decide +kernel) (Or.inr ⟨by decide, dm_mem [1105, 1106] (by decide +kernel) (by decide +kernel), rfl⟩)
set_option maxHeartbeats 1600000 in
set_option maxRecDepth 100000 in
theorem lw_run {p : Program} {l : Launch} {e : Env} {s : State} {m : MethodId} {below : List Frame} {meth : Method} {c : Code} {b L : Nat} {xs : Nat → Int32} {D : va_G} {cA : Nat → ClassId} {adC adM : Nat → Nat} (C0 : lw_At p s m meth c b L xs) (C1 : lw_W s D cA adC adM) {x3 : Int32} (hi : ∀ k : Nat, k ≤ 8 → vp_in (x3 + nI k) L) {ls : Array Slot} (hl : lv_has ls 4 [(0, .ref b), (1, .ref (adC 0)), (2, .ref (adM 0)), (3, .int x3)]) {H : Heap} {locs : List Loc} {u v : dm_S} (hI : Inv u v) (hP : va_P D dm_cl (dm_w adC cA shC u) H) (hR : va_P D dm_cl (dm_w adM cA shM v) H) (hS : va_S (fun q : Nat => s.heap.size ≤ q) s.heap H locs) (kk : lw_kk p l e s m below meth c b D cA adC adM 978 ls) : W p l e room_1 s m #[Value.ref b] below meth c H locs 82 11860 (lw_Z below #[Value.ref b] s) (F0 m 570 ls []) := by
  obtain ⟨hx, hb, hr, hml, hown, hts, hX, hbl, hlocks, hgv⟩ := id C0
  obtain ⟨hK, hDC, hDM, -⟩ := id C1
  have hbA : ¬ (fun q : Nat => s.heap.size ≤ q) b := Nat.not_le.mpr hbl
  refine lv_aload_n hx hb (ct_d vL12 20 rfl) rfl (lv_at hl 1 rfl) ?_
  refine lv_aload_n hx hb (ct_d vL12 21 rfl) rfl (lv_at hl 0 rfl) ?_
  refine lv_iload_n hx hb (ct_d vL12 22 rfl) rfl (lv_at hl 3 rfl) ?_
  refine lv_iconst (v := 1) hx hb (ct_d vL12 23 rfl) (by decide +kernel) ?_
  refine lv_iadd hx hb (ct_d vL12 24 rfl) ?_
  refine va_sld hx hb hX hbl hbA hS (hi 1 (by decide)) (ct_d vL12 25 rfl) ?_
  have hs : sp_X10_run [.ref 0, .int (xs (x3 + 1).toNatClampNeg)] u (fun r u' => tyI r ∧ sp_X11_run [.ref 0, .int (xs (x3 + 1).toNatClampNeg)] v (fun r' v' => r = r' ∧ Inv u' v')) := s_run hI
  refine lw_call (As := [.int (xs (x3 + 1).toNatClampNeg)]) (rest := []) C0 hK (kl_X10_run l D cA adC) (by decide) sC_0 hs rfl rfl (hDC u) hP hR (lw_apC C1) hS hl.1 rfl (Nat.le_of_ble_eq_true rfl) (ct_d vL12 26 rfl) (fun r u1 H locs hq hP hR hS => ?_)
  obtain ⟨⟨x, rfl⟩, hs⟩ := hq
  refine W.eq (g2 := F0 m 579 ls [.int x]) rfl ?_
  refine lv_aload_n hx hb (ct_d vL12 27 rfl) rfl (lv_at hl 2 rfl) ?_
  refine lv_aload_n hx hb (ct_d vL12 28 rfl) rfl (lv_at hl 0 rfl) ?_
  refine lv_iload_n hx hb (ct_d vL12 29 rfl) rfl (lv_at hl 3 rfl) ?_
  refine lv_iconst (v := 1) hx hb (ct_d vL13 0 rfl) (by decide +kernel) ?_
  refine lv_iadd hx hb (ct_d vL13 1 rfl) ?_
  refine va_sld hx hb hX hbl hbA hS (hi 1 (by decide)) (ct_d vL13 2 rfl) ?_
  refine lw_call (As := [.int (xs (x3 + 1).toNatClampNeg)]) (rest := [.int x]) C0 hK (kl_X11_run l D cA adM) (by decide) sM_0 hs rfl rfl (hDM v) hR hP (lw_apM C1) hS hl.1 rfl (Nat.le_of_ble_eq_true rfl) (ct_d vL13 3 rfl) (fun r v1 H locs hq hR hP hS => ?_)
  obtain ⟨he, hI⟩ := hq
  subst he
  refine W.eq (g2 := F0 m 588 ls [.int x, .int x]) rfl ?_
  exact lv_icmp_eq (tgt := 978) hx hb (ct_d vL13 4 rfl) (by decide) (fun _ => kk u1 v1 H locs hI hP hR hS) (fun h => absurd rfl h)
set_option maxRecDepth 100000 in
theorem kl_X10_cost (l : Launch) (D : va_G) (cA : Nat → ClassId) (ad : Nat → Nat) : dm_M1 l room_1 lw_tbl R_law D dm_cl cA ad shC sp_X10_cost 45 0 10 := dm_M1_of (t_X10_cost l D cA ad) lw_hT (dm_mem [823, 66, 820] (by decide +kernel) (by decide +kernel)) (by decide) (by decide +kernel) (Or.inr ⟨by decide, dm_mem [821, 822] (by decide +kernel) (by decide +kernel), rfl⟩)
set_option maxRecDepth 100000 in
theorem kl_X11_cost (l : Launch) (D : va_G) (cA : Nat → ClassId) (ad : Nat → Nat) : dm_M1 l room_1 lw_tbl R_law D dm_cl cA ad shM sp_X11_cost 49 0 11 := dm_M1_of (t_X11_cost l D cA ad) lw_hT (dm_mem [1201, 77, 1198] (by decide +kernel) (by decide +kernel)) (by decide) (by decide +kernel) (Or.inr ⟨by decide, dm_mem [1199, 1200] (by decide +kernel) (by decide +kernel), rfl⟩)
set_option maxHeartbeats 1600000 in
set_option maxRecDepth 100000 in
theorem lw_cost {p : Program} {l : Launch} {e : Env} {s : State} {m : MethodId} {below : List Frame} {meth : Method} {c : Code} {b L : Nat} {xs : Nat → Int32} {D : va_G} {cA : Nat → ClassId} {adC adM : Nat → Nat} (C0 : lw_At p s m meth c b L xs) (C1 : lw_W s D cA adC adM) {x3 : Int32} (hi : ∀ k : Nat, k ≤ 8 → vp_in (x3 + nI k) L) {ls : Array Slot} (hl : lv_has ls 4 [(0, .ref b), (1, .ref (adC 0)), (2, .ref (adM 0)), (3, .int x3)]) {H : Heap} {locs : List Loc} {u v : dm_S} (hI : Inv u v) (hP : va_P D dm_cl (dm_w adC cA shC u) H) (hR : va_P D dm_cl (dm_w adM cA shM v) H) (hS : va_S (fun q : Nat => s.heap.size ≤ q) s.heap H locs) (kk : lw_kk p l e s m below meth c b D cA adC adM 978 ls) : W p l e room_1 s m #[Value.ref b] below meth c H locs 82 11860 (lw_Z below #[Value.ref b] s) (F0 m 593 ls []) := by
  obtain ⟨hx, hb, hr, hml, hown, hts, hX, hbl, hlocks, hgv⟩ := id C0
  obtain ⟨hK, hDC, hDM, -⟩ := id C1
  have hbA : ¬ (fun q : Nat => s.heap.size ≤ q) b := Nat.not_le.mpr hbl
  refine lv_aload_n hx hb (ct_d vL13 7 rfl) rfl (lv_at hl 1 rfl) ?_
  have hs : sp_X10_cost [.ref 0] u (fun r u' => tyL r ∧ sp_X11_cost [.ref 0] v (fun r' v' => r = r' ∧ Inv u' v')) := s_cost hI
  refine lw_call (As := []) (rest := []) C0 hK (kl_X10_cost l D cA adC) (by decide) sC_0 hs rfl rfl (hDC u) hP hR (lw_apC C1) hS hl.1 rfl (Nat.le_of_ble_eq_true rfl) (ct_d vL13 8 rfl) (fun r u1 H locs hq hP hR hS => ?_)
  obtain ⟨⟨x, rfl⟩, hs⟩ := hq
  refine W.eq (g2 := F0 m 597 ls [.long x]) rfl ?_
  refine lv_aload_n hx hb (ct_d vL13 9 rfl) rfl (lv_at hl 2 rfl) ?_
  refine lw_call (As := []) (rest := [.long x]) C0 hK (kl_X11_cost l D cA adM) (by decide) sM_0 hs rfl rfl (hDM v) hR hP (lw_apM C1) hS hl.1 rfl (Nat.le_of_ble_eq_true rfl) (ct_d vL13 10 rfl) (fun r v1 H locs hq hR hP hS => ?_)
  obtain ⟨he, hI⟩ := hq
  subst he
  refine W.eq (g2 := F0 m 601 ls [.long x, .long x]) rfl ?_
  refine W.lcmp hx hb (ct_d vL13 11 rfl) ?_
  exact lv_if_eq (tgt := 978) hx hb (ct_d vL13 12 rfl) (by decide) (fun _ => kk u1 v1 H locs hI hP hR hS) (fun h => absurd (dm_cm0.mpr rfl) h)
set_option maxRecDepth 100000 in
theorem kl_X10_on (l : Launch) (D : va_G) (cA : Nat → ClassId) (ad : Nat → Nat) : dm_M1 l room_1 lw_tbl R_law D dm_cl cA ad shC sp_X10_on 50 1 10 := dm_M1_of (t_X10_on l D cA ad) lw_hT (dm_mem [831, 66, 828] (by decide +kernel) (by decide +kernel)) (by decide) (by decide +kernel) (Or.inr ⟨by decide, dm_mem [829, 830] (by decide +kernel) (by decide +kernel), rfl⟩)
set_option maxRecDepth 100000 in
theorem kl_X11_on (l : Launch) (D : va_G) (cA : Nat → ClassId) (ad : Nat → Nat) : dm_M1 l room_1 lw_tbl R_law D dm_cl cA ad shM sp_X11_on 54 1 11 := dm_M1_of (t_X11_on l D cA ad) lw_hT (dm_mem [1205, 77, 1202] (by decide +kernel) (by decide +kernel)) (by decide) (by decide +kernel) (Or.inr ⟨by decide, dm_mem [1203, 1204] (by decide +kernel) (by decide +kernel), rfl⟩)
set_option maxHeartbeats 1600000 in
set_option maxRecDepth 100000 in
theorem lw_on {p : Program} {l : Launch} {e : Env} {s : State} {m : MethodId} {below : List Frame} {meth : Method} {c : Code} {b L : Nat} {xs : Nat → Int32} {D : va_G} {cA : Nat → ClassId} {adC adM : Nat → Nat} (C0 : lw_At p s m meth c b L xs) (C1 : lw_W s D cA adC adM) {x3 : Int32} (hi : ∀ k : Nat, k ≤ 8 → vp_in (x3 + nI k) L) {ls : Array Slot} (hl : lv_has ls 4 [(0, .ref b), (1, .ref (adC 0)), (2, .ref (adM 0)), (3, .int x3)]) {H : Heap} {locs : List Loc} {u v : dm_S} (hI : Inv u v) (hP : va_P D dm_cl (dm_w adC cA shC u) H) (hR : va_P D dm_cl (dm_w adM cA shM v) H) (hS : va_S (fun q : Nat => s.heap.size ≤ q) s.heap H locs) (kk : lw_kk p l e s m below meth c b D cA adC adM 978 ls) : W p l e room_1 s m #[Value.ref b] below meth c H locs 82 11860 (lw_Z below #[Value.ref b] s) (F0 m 607 ls []) := by
  obtain ⟨hx, hb, hr, hml, hown, hts, hX, hbl, hlocks, hgv⟩ := id C0
  obtain ⟨hK, hDC, hDM, -⟩ := id C1
  have hbA : ¬ (fun q : Nat => s.heap.size ≤ q) b := Nat.not_le.mpr hbl
  refine lv_aload_n hx hb (ct_d vL13 15 rfl) rfl (lv_at hl 1 rfl) ?_
  refine lv_aload_n hx hb (ct_d vL13 16 rfl) rfl (lv_at hl 0 rfl) ?_
  refine lv_iload_n hx hb (ct_d vL13 17 rfl) rfl (lv_at hl 3 rfl) ?_
  refine lv_iconst (v := 1) hx hb (ct_d vL13 18 rfl) (by decide +kernel) ?_
  refine lv_iadd hx hb (ct_d vL13 19 rfl) ?_
  refine va_sld hx hb hX hbl hbA hS (hi 1 (by decide)) (ct_d vL13 20 rfl) ?_
  have hs : sp_X10_on [.ref 0, .int (xs (x3 + 1).toNatClampNeg)] u (fun r u' => tyL r ∧ sp_X11_on [.ref 0, .int (xs (x3 + 1).toNatClampNeg)] v (fun r' v' => r = r' ∧ Inv u' v')) := s_on hI
  refine lw_call (As := [.int (xs (x3 + 1).toNatClampNeg)]) (rest := []) C0 hK (kl_X10_on l D cA adC) (by decide) sC_0 hs rfl rfl (hDC u) hP hR (lw_apC C1) hS hl.1 rfl (Nat.le_of_ble_eq_true rfl) (ct_d vL13 21 rfl) (fun r u1 H locs hq hP hR hS => ?_)
  obtain ⟨⟨x, rfl⟩, hs⟩ := hq
  refine W.eq (g2 := F0 m 616 ls [.long x]) rfl ?_
  refine lv_aload_n hx hb (ct_d vL13 22 rfl) rfl (lv_at hl 2 rfl) ?_
  refine lv_aload_n hx hb (ct_d vL13 23 rfl) rfl (lv_at hl 0 rfl) ?_
  refine lv_iload_n hx hb (ct_d vL13 24 rfl) rfl (lv_at hl 3 rfl) ?_
  refine lv_iconst (v := 1) hx hb (ct_d vL13 25 rfl) (by decide +kernel) ?_
  refine lv_iadd hx hb (ct_d vL13 26 rfl) ?_
  refine va_sld hx hb hX hbl hbA hS (hi 1 (by decide)) (ct_d vL13 27 rfl) ?_
  refine lw_call (As := [.int (xs (x3 + 1).toNatClampNeg)]) (rest := [.long x]) C0 hK (kl_X11_on l D cA adM) (by decide) sM_0 hs rfl rfl (hDM v) hR hP (lw_apM C1) hS hl.1 rfl (Nat.le_of_ble_eq_true rfl) (ct_d vL13 28 rfl) (fun r v1 H locs hq hR hP hS => ?_)
  obtain ⟨he, hI⟩ := hq
  subst he
  refine W.eq (g2 := F0 m 625 ls [.long x, .long x]) rfl ?_
  refine W.lcmp hx hb (ct_d vL13 29 rfl) ?_
  exact lv_if_eq (tgt := 978) hx hb (ct_d vL14 0 rfl) (by decide) (fun _ => kk u1 v1 H locs hI hP hR hS) (fun h => absurd (dm_cm0.mpr rfl) h)
set_option maxRecDepth 100000 in
theorem kl_X10_potential (l : Launch) (D : va_G) (cA : Nat → ClassId) (ad : Nat → Nat) : dm_M1 l room_1 lw_tbl R_law D dm_cl cA ad shC sp_X10_potential 55 1 10 := dm_M1_of (t_X10_potential l D cA ad) lw_hT (dm_mem [837, 66, 834] (by decide +kernel) (by decide +kernel)) (by decide) (by decide +kernel) (Or.inr ⟨by decide, dm_mem [835, 836] (by decide +kernel) (by decide +kernel), rfl⟩)
set_option maxRecDepth 100000 in
theorem kl_X11_potential (l : Launch) (D : va_G) (cA : Nat → ClassId) (ad : Nat → Nat) : dm_M1 l room_1 lw_tbl R_law D dm_cl cA ad shM sp_X11_potential 58 1 11 := dm_M1_of (t_X11_potential l D cA ad) lw_hT (dm_mem [1210, 77, 1207] (by decide +kernel) (by decide +kernel)) (by decide) (by decide +kernel) (Or.inr ⟨by decide, dm_mem [1208, 1209] (by decide +kernel) (by decide +kernel), rfl⟩)
set_option maxHeartbeats 1600000 in
set_option maxRecDepth 100000 in
theorem lw_potential {p : Program} {l : Launch} {e : Env} {s : State} {m : MethodId} {below : List Frame} {meth : Method} {c : Code} {b L : Nat} {xs : Nat → Int32} {D : va_G} {cA : Nat → ClassId} {adC adM : Nat → Nat} (C0 : lw_At p s m meth c b L xs) (C1 : lw_W s D cA adC adM) {x3 : Int32} (hi : ∀ k : Nat, k ≤ 8 → vp_in (x3 + nI k) L) {ls : Array Slot} (hl : lv_has ls 4 [(0, .ref b), (1, .ref (adC 0)), (2, .ref (adM 0)), (3, .int x3)]) {H : Heap} {locs : List Loc} {u v : dm_S} (hI : Inv u v) (hP : va_P D dm_cl (dm_w adC cA shC u) H) (hR : va_P D dm_cl (dm_w adM cA shM v) H) (hS : va_S (fun q : Nat => s.heap.size ≤ q) s.heap H locs) (kk : lw_kk p l e s m below meth c b D cA adC adM 978 ls) : W p l e room_1 s m #[Value.ref b] below meth c H locs 82 11860 (lw_Z below #[Value.ref b] s) (F0 m 631 ls []) := by
  obtain ⟨hx, hb, hr, hml, hown, hts, hX, hbl, hlocks, hgv⟩ := id C0
  obtain ⟨hK, hDC, hDM, -⟩ := id C1
  have hbA : ¬ (fun q : Nat => s.heap.size ≤ q) b := Nat.not_le.mpr hbl
  refine lv_aload_n hx hb (ct_d vL14 3 rfl) rfl (lv_at hl 1 rfl) ?_
  refine lv_aload_n hx hb (ct_d vL14 4 rfl) rfl (lv_at hl 0 rfl) ?_
  refine lv_iload_n hx hb (ct_d vL14 5 rfl) rfl (lv_at hl 3 rfl) ?_
  refine lv_iconst (v := 1) hx hb (ct_d vL14 6 rfl) (by decide +kernel) ?_
  refine lv_iadd hx hb (ct_d vL14 7 rfl) ?_
  refine va_sld hx hb hX hbl hbA hS (hi 1 (by decide)) (ct_d vL14 8 rfl) ?_
  have hs : sp_X10_potential [.ref 0, .int (xs (x3 + 1).toNatClampNeg)] u (fun r u' => tyL r ∧ sp_X11_potential [.ref 0, .int (xs (x3 + 1).toNatClampNeg)] v (fun r' v' => r = r' ∧ Inv u' v')) := s_potential hI
  refine lw_call (As := [.int (xs (x3 + 1).toNatClampNeg)]) (rest := []) C0 hK (kl_X10_potential l D cA adC) (by decide) sC_0 hs rfl rfl (hDC u) hP hR (lw_apC C1) hS hl.1 rfl (Nat.le_of_ble_eq_true rfl) (ct_d vL14 9 rfl) (fun r u1 H locs hq hP hR hS => ?_)
  obtain ⟨⟨x, rfl⟩, hs⟩ := hq
  refine W.eq (g2 := F0 m 640 ls [.long x]) rfl ?_
  refine lv_aload_n hx hb (ct_d vL14 10 rfl) rfl (lv_at hl 2 rfl) ?_
  refine lv_aload_n hx hb (ct_d vL14 11 rfl) rfl (lv_at hl 0 rfl) ?_
  refine lv_iload_n hx hb (ct_d vL14 12 rfl) rfl (lv_at hl 3 rfl) ?_
  refine lv_iconst (v := 1) hx hb (ct_d vL14 13 rfl) (by decide +kernel) ?_
  refine lv_iadd hx hb (ct_d vL14 14 rfl) ?_
  refine va_sld hx hb hX hbl hbA hS (hi 1 (by decide)) (ct_d vL14 15 rfl) ?_
  refine lw_call (As := [.int (xs (x3 + 1).toNatClampNeg)]) (rest := [.long x]) C0 hK (kl_X11_potential l D cA adM) (by decide) sM_0 hs rfl rfl (hDM v) hR hP (lw_apM C1) hS hl.1 rfl (Nat.le_of_ble_eq_true rfl) (ct_d vL14 16 rfl) (fun r v1 H locs hq hR hP hS => ?_)
  obtain ⟨he, hI⟩ := hq
  subst he
  refine W.eq (g2 := F0 m 649 ls [.long x, .long x]) rfl ?_
  refine W.lcmp hx hb (ct_d vL14 17 rfl) ?_
  exact lv_if_eq (tgt := 978) hx hb (ct_d vL14 18 rfl) (by decide) (fun _ => kk u1 v1 H locs hI hP hR hS) (fun h => absurd (dm_cm0.mpr rfl) h)
set_option maxRecDepth 100000 in
theorem kl_X10_check (l : Launch) (D : va_G) (cA : Nat → ClassId) (ad : Nat → Nat) : dm_M1 l room_1 lw_tbl R_law D dm_cl cA ad shC sp_X10_check 59 0 10 := dm_M1_of (t_X10_check l D cA ad) lw_hT (dm_mem [841, 66, 838] (by decide +kernel) (by decide +kernel)) (by decide) (by decide +kernel) (Or.inr ⟨by decide, dm_mem [839, 840] (by decide +kernel) (by decide +kernel), rfl⟩)
set_option maxRecDepth 100000 in
theorem kl_X11_check (l : Launch) (D : va_G) (cA : Nat → ClassId) (ad : Nat → Nat) : dm_M1 l room_1 lw_tbl R_law D dm_cl cA ad shM sp_X11_check 63 0 11 := dm_M1_of (t_X11_check l D cA ad) lw_hT (dm_mem [1214, 77, 1211] (by decide +kernel) (by decide +kernel)) (by decide) (by decide +kernel) (Or.inr ⟨by decide, dm_mem [1212, 1213] (by decide +kernel) (by decide +kernel), rfl⟩)
set_option maxHeartbeats 1600000 in
set_option maxRecDepth 100000 in
theorem lw_check {p : Program} {l : Launch} {e : Env} {s : State} {m : MethodId} {below : List Frame} {meth : Method} {c : Code} {b L : Nat} {xs : Nat → Int32} {D : va_G} {cA : Nat → ClassId} {adC adM : Nat → Nat} (C0 : lw_At p s m meth c b L xs) (C1 : lw_W s D cA adC adM) {x3 : Int32} (hi : ∀ k : Nat, k ≤ 8 → vp_in (x3 + nI k) L) {ls : Array Slot} (hl : lv_has ls 4 [(0, .ref b), (1, .ref (adC 0)), (2, .ref (adM 0)), (3, .int x3)]) {H : Heap} {locs : List Loc} {u v : dm_S} (hI : Inv u v) (hP : va_P D dm_cl (dm_w adC cA shC u) H) (hR : va_P D dm_cl (dm_w adM cA shM v) H) (hS : va_S (fun q : Nat => s.heap.size ≤ q) s.heap H locs) (kk : lw_kk p l e s m below meth c b D cA adC adM 978 ls) : W p l e room_1 s m #[Value.ref b] below meth c H locs 82 11860 (lw_Z below #[Value.ref b] s) (F0 m 655 ls []) := by
  obtain ⟨hx, hb, hr, hml, hown, hts, hX, hbl, hlocks, hgv⟩ := id C0
  obtain ⟨hK, hDC, hDM, -⟩ := id C1
  have hbA : ¬ (fun q : Nat => s.heap.size ≤ q) b := Nat.not_le.mpr hbl
  refine lv_aload_n hx hb (ct_d vL14 21 rfl) rfl (lv_at hl 1 rfl) ?_
  have hs : sp_X10_check [.ref 0] u (fun r u' => tyI r ∧ sp_X11_check [.ref 0] v (fun r' v' => r = r' ∧ Inv u' v')) := s_check hI
  refine lw_call (As := []) (rest := []) C0 hK (kl_X10_check l D cA adC) (by decide) sC_0 hs rfl rfl (hDC u) hP hR (lw_apC C1) hS hl.1 rfl (Nat.le_of_ble_eq_true rfl) (ct_d vL14 22 rfl) (fun r u1 H locs hq hP hR hS => ?_)
  obtain ⟨⟨x, rfl⟩, hs⟩ := hq
  refine W.eq (g2 := F0 m 659 ls [.int x]) rfl ?_
  refine lv_aload_n hx hb (ct_d vL14 23 rfl) rfl (lv_at hl 2 rfl) ?_
  refine lw_call (As := []) (rest := [.int x]) C0 hK (kl_X11_check l D cA adM) (by decide) sM_0 hs rfl rfl (hDM v) hR hP (lw_apM C1) hS hl.1 rfl (Nat.le_of_ble_eq_true rfl) (ct_d vL14 24 rfl) (fun r v1 H locs hq hR hP hS => ?_)
  obtain ⟨he, hI⟩ := hq
  subst he
  refine W.eq (g2 := F0 m 663 ls [.int x, .int x]) rfl ?_
  exact lv_icmp_eq (tgt := 978) hx hb (ct_d vL14 25 rfl) (by decide) (fun _ => kk u1 v1 H locs hI hP hR hS) (fun h => absurd rfl h)
set_option maxRecDepth 100000 in
theorem kl_X10_ring (l : Launch) (D : va_G) (cA : Nat → ClassId) (ad : Nat → Nat) : dm_M1 l room_1 lw_tbl R_law D dm_cl cA ad shC sp_X10_ring 64 1 10 := dm_M1_of (t_X10_ring l D cA ad) lw_hT (dm_mem [851, 66, 848] (by decide +kernel) (by decide +kernel)) (by decide) (by decide +kernel) (Or.inr ⟨by decide, dm_mem [849, 850] (by decide +kernel) (by decide +kernel), rfl⟩)
set_option maxRecDepth 100000 in
theorem kl_X11_ring (l : Launch) (D : va_G) (cA : Nat → ClassId) (ad : Nat → Nat) : dm_M1 l room_1 lw_tbl R_law D dm_cl cA ad shM sp_X11_ring 67 1 11 := dm_M1_of (t_X11_ring l D cA ad) lw_hT (dm_mem [1218, 77, 1215] (by decide +kernel) (by decide +kernel)) (by decide) (by decide +kernel) (Or.inr ⟨by decide, dm_mem [1216, 1217] (by decide +kernel) (by decide +kernel), rfl⟩)
set_option maxHeartbeats 1600000 in
set_option maxRecDepth 100000 in
theorem lw_ring {p : Program} {l : Launch} {e : Env} {s : State} {m : MethodId} {below : List Frame} {meth : Method} {c : Code} {b L : Nat} {xs : Nat → Int32} {D : va_G} {cA : Nat → ClassId} {adC adM : Nat → Nat} (C0 : lw_At p s m meth c b L xs) (C1 : lw_W s D cA adC adM) {x3 : Int32} (hi : ∀ k : Nat, k ≤ 8 → vp_in (x3 + nI k) L) {ls : Array Slot} (hl : lv_has ls 4 [(0, .ref b), (1, .ref (adC 0)), (2, .ref (adM 0)), (3, .int x3)]) {H : Heap} {locs : List Loc} {u v : dm_S} (hI : Inv u v) (hP : va_P D dm_cl (dm_w adC cA shC u) H) (hR : va_P D dm_cl (dm_w adM cA shM v) H) (hS : va_S (fun q : Nat => s.heap.size ≤ q) s.heap H locs) (kk : lw_kk p l e s m below meth c b D cA adC adM 978 ls) : W p l e room_1 s m #[Value.ref b] below meth c H locs 82 11860 (lw_Z below #[Value.ref b] s) (F0 m 668 ls []) := by
  obtain ⟨hx, hb, hr, hml, hown, hts, hX, hbl, hlocks, hgv⟩ := id C0
  obtain ⟨hK, hDC, hDM, -⟩ := id C1
  have hbA : ¬ (fun q : Nat => s.heap.size ≤ q) b := Nat.not_le.mpr hbl
  refine lv_aload_n hx hb (ct_d vL14 28 rfl) rfl (lv_at hl 1 rfl) ?_
  refine lv_aload_n hx hb (ct_d vL14 29 rfl) rfl (lv_at hl 0 rfl) ?_
  refine lv_iload_n hx hb (ct_d vL15 0 rfl) rfl (lv_at hl 3 rfl) ?_
  refine lv_iconst (v := 1) hx hb (ct_d vL15 1 rfl) (by decide +kernel) ?_
  refine lv_iadd hx hb (ct_d vL15 2 rfl) ?_
  refine va_sld hx hb hX hbl hbA hS (hi 1 (by decide)) (ct_d vL15 3 rfl) ?_
  have hs : sp_X10_ring [.ref 0, .int (xs (x3 + 1).toNatClampNeg)] u (fun r u' => tyI r ∧ sp_X11_ring [.ref 0, .int (xs (x3 + 1).toNatClampNeg)] v (fun r' v' => r = r' ∧ Inv u' v')) := s_ring hI
  refine lw_call (As := [.int (xs (x3 + 1).toNatClampNeg)]) (rest := []) C0 hK (kl_X10_ring l D cA adC) (by decide) sC_0 hs rfl rfl (hDC u) hP hR (lw_apC C1) hS hl.1 rfl (Nat.le_of_ble_eq_true rfl) (ct_d vL15 4 rfl) (fun r u1 H locs hq hP hR hS => ?_)
  obtain ⟨⟨x, rfl⟩, hs⟩ := hq
  refine W.eq (g2 := F0 m 677 ls [.int x]) rfl ?_
  refine lv_aload_n hx hb (ct_d vL15 5 rfl) rfl (lv_at hl 2 rfl) ?_
  refine lv_aload_n hx hb (ct_d vL15 6 rfl) rfl (lv_at hl 0 rfl) ?_
  refine lv_iload_n hx hb (ct_d vL15 7 rfl) rfl (lv_at hl 3 rfl) ?_
  refine lv_iconst (v := 1) hx hb (ct_d vL15 8 rfl) (by decide +kernel) ?_
  refine lv_iadd hx hb (ct_d vL15 9 rfl) ?_
  refine va_sld hx hb hX hbl hbA hS (hi 1 (by decide)) (ct_d vL15 10 rfl) ?_
  refine lw_call (As := [.int (xs (x3 + 1).toNatClampNeg)]) (rest := [.int x]) C0 hK (kl_X11_ring l D cA adM) (by decide) sM_0 hs rfl rfl (hDM v) hR hP (lw_apM C1) hS hl.1 rfl (Nat.le_of_ble_eq_true rfl) (ct_d vL15 11 rfl) (fun r v1 H locs hq hR hP hS => ?_)
  obtain ⟨he, hI⟩ := hq
  subst he
  refine W.eq (g2 := F0 m 686 ls [.int x, .int x]) rfl ?_
  exact lv_icmp_eq (tgt := 978) hx hb (ct_d vL15 12 rfl) (by decide) (fun _ => kk u1 v1 H locs hI hP hR hS) (fun h => absurd rfl h)
set_option maxRecDepth 100000 in
theorem kl_X10_set (l : Launch) (D : va_G) (cA : Nat → ClassId) (ad : Nat → Nat) : dm_M1 l room_1 lw_tbl R_law D dm_cl cA ad shC sp_X10_set 68 1 10 := dm_M1_of (t_X10_set l D cA ad) lw_hT (dm_mem [855, 66, 852] (by decide +kernel) (by decide +kernel)) (by decide) (by decide +kernel) (Or.inr ⟨by decide, dm_mem [853, 854] (by decide +kernel) (by decide +kernel), rfl⟩)
set_option maxRecDepth 100000 in
theorem kl_X11_set (l : Launch) (D : va_G) (cA : Nat → ClassId) (ad : Nat → Nat) : dm_M1 l room_1 lw_tbl R_law D dm_cl cA ad shM sp_X11_set 71 1 11 := dm_M1_of (t_X11_set l D cA ad) lw_hT (dm_mem [1222, 77, 1219] (by decide +kernel) (by decide +kernel)) (by decide) (by decide +kernel) (Or.inr ⟨by decide, dm_mem [1220, 1221] (by decide +kernel) (by decide +kernel), rfl⟩)
set_option maxHeartbeats 1600000 in
set_option maxRecDepth 100000 in
theorem lw_set {p : Program} {l : Launch} {e : Env} {s : State} {m : MethodId} {below : List Frame} {meth : Method} {c : Code} {b L : Nat} {xs : Nat → Int32} {D : va_G} {cA : Nat → ClassId} {adC adM : Nat → Nat} (C0 : lw_At p s m meth c b L xs) (C1 : lw_W s D cA adC adM) {x3 : Int32} (hi : ∀ k : Nat, k ≤ 8 → vp_in (x3 + nI k) L) {ls : Array Slot} (hl : lv_has ls 4 [(0, .ref b), (1, .ref (adC 0)), (2, .ref (adM 0)), (3, .int x3)]) {H : Heap} {locs : List Loc} {u v : dm_S} (hI : Inv u v) (hP : va_P D dm_cl (dm_w adC cA shC u) H) (hR : va_P D dm_cl (dm_w adM cA shM v) H) (hS : va_S (fun q : Nat => s.heap.size ≤ q) s.heap H locs) (kk : lw_kk p l e s m below meth c b D cA adC adM 978 ls) : W p l e room_1 s m #[Value.ref b] below meth c H locs 82 11860 (lw_Z below #[Value.ref b] s) (F0 m 691 ls []) := by
  obtain ⟨hx, hb, hr, hml, hown, hts, hX, hbl, hlocks, hgv⟩ := id C0
  obtain ⟨hK, hDC, hDM, -⟩ := id C1
  have hbA : ¬ (fun q : Nat => s.heap.size ≤ q) b := Nat.not_le.mpr hbl
  refine lv_aload_n hx hb (ct_d vL15 15 rfl) rfl (lv_at hl 1 rfl) ?_
  refine lv_aload_n hx hb (ct_d vL15 16 rfl) rfl (lv_at hl 0 rfl) ?_
  refine lv_iload_n hx hb (ct_d vL15 17 rfl) rfl (lv_at hl 3 rfl) ?_
  refine lv_iconst (v := 1) hx hb (ct_d vL15 18 rfl) (by decide +kernel) ?_
  refine lv_iadd hx hb (ct_d vL15 19 rfl) ?_
  refine va_sld hx hb hX hbl hbA hS (hi 1 (by decide)) (ct_d vL15 20 rfl) ?_
  have hs : sp_X10_set [.ref 0, .int (xs (x3 + 1).toNatClampNeg)] u (fun r u' => tyI r ∧ sp_X11_set [.ref 0, .int (xs (x3 + 1).toNatClampNeg)] v (fun r' v' => r = r' ∧ Inv u' v')) := s_set hI
  refine lw_call (As := [.int (xs (x3 + 1).toNatClampNeg)]) (rest := []) C0 hK (kl_X10_set l D cA adC) (by decide) sC_0 hs rfl rfl (hDC u) hP hR (lw_apC C1) hS hl.1 rfl (Nat.le_of_ble_eq_true rfl) (ct_d vL15 21 rfl) (fun r u1 H locs hq hP hR hS => ?_)
  obtain ⟨⟨x, rfl⟩, hs⟩ := hq
  refine W.eq (g2 := F0 m 700 ls [.int x]) rfl ?_
  refine lv_aload_n hx hb (ct_d vL15 22 rfl) rfl (lv_at hl 2 rfl) ?_
  refine lv_aload_n hx hb (ct_d vL15 23 rfl) rfl (lv_at hl 0 rfl) ?_
  refine lv_iload_n hx hb (ct_d vL15 24 rfl) rfl (lv_at hl 3 rfl) ?_
  refine lv_iconst (v := 1) hx hb (ct_d vL15 25 rfl) (by decide +kernel) ?_
  refine lv_iadd hx hb (ct_d vL15 26 rfl) ?_
  refine va_sld hx hb hX hbl hbA hS (hi 1 (by decide)) (ct_d vL15 27 rfl) ?_
  refine lw_call (As := [.int (xs (x3 + 1).toNatClampNeg)]) (rest := [.int x]) C0 hK (kl_X11_set l D cA adM) (by decide) sM_0 hs rfl rfl (hDM v) hR hP (lw_apM C1) hS hl.1 rfl (Nat.le_of_ble_eq_true rfl) (ct_d vL15 28 rfl) (fun r v1 H locs hq hR hP hS => ?_)
  obtain ⟨he, hI⟩ := hq
  subst he
  refine W.eq (g2 := F0 m 709 ls [.int x, .int x]) rfl ?_
  exact lv_icmp_eq (tgt := 978) hx hb (ct_d vL15 29 rfl) (by decide) (fun _ => kk u1 v1 H locs hI hP hR hS) (fun h => absurd rfl h)
set_option maxRecDepth 100000 in
theorem kl_X10_span (l : Launch) (D : va_G) (cA : Nat → ClassId) (ad : Nat → Nat) : dm_M1 l room_1 lw_tbl R_law D dm_cl cA ad shC sp_X10_span 72 2 10 := dm_M1_of (t_X10_span l D cA ad) lw_hT (dm_mem [859, 66, 856] (by decide +kernel) (by decide +kernel)) (by decide) (by decide +kernel) (Or.inr ⟨by decide, dm_mem [857, 858] (by decide +kernel) (by decide +kernel), rfl⟩)
set_option maxRecDepth 100000 in
theorem kl_X11_span (l : Launch) (D : va_G) (cA : Nat → ClassId) (ad : Nat → Nat) : dm_M1 l room_1 lw_tbl R_law D dm_cl cA ad shM sp_X11_span 76 2 11 := dm_M1_of (t_X11_span l D cA ad) lw_hT (dm_mem [1226, 77, 1223] (by decide +kernel) (by decide +kernel)) (by decide) (by decide +kernel) (Or.inr ⟨by decide, dm_mem [1224, 1225] (by decide +kernel) (by decide +kernel), rfl⟩)
set_option maxHeartbeats 1600000 in
set_option maxRecDepth 100000 in
theorem lw_span {p : Program} {l : Launch} {e : Env} {s : State} {m : MethodId} {below : List Frame} {meth : Method} {c : Code} {b L : Nat} {xs : Nat → Int32} {D : va_G} {cA : Nat → ClassId} {adC adM : Nat → Nat} (C0 : lw_At p s m meth c b L xs) (C1 : lw_W s D cA adC adM) {x3 : Int32} (hi : ∀ k : Nat, k ≤ 8 → vp_in (x3 + nI k) L) {ls : Array Slot} (hl : lv_has ls 4 [(0, .ref b), (1, .ref (adC 0)), (2, .ref (adM 0)), (3, .int x3)]) {H : Heap} {locs : List Loc} {u v : dm_S} (hI : Inv u v) (hP : va_P D dm_cl (dm_w adC cA shC u) H) (hR : va_P D dm_cl (dm_w adM cA shM v) H) (hS : va_S (fun q : Nat => s.heap.size ≤ q) s.heap H locs) (kk : lw_kk p l e s m below meth c b D cA adC adM 978 ls) : W p l e room_1 s m #[Value.ref b] below meth c H locs 82 11860 (lw_Z below #[Value.ref b] s) (F0 m 714 ls []) := by
  obtain ⟨hx, hb, hr, hml, hown, hts, hX, hbl, hlocks, hgv⟩ := id C0
  obtain ⟨hK, hDC, hDM, -⟩ := id C1
  have hbA : ¬ (fun q : Nat => s.heap.size ≤ q) b := Nat.not_le.mpr hbl
  refine lv_aload_n hx hb (ct_d vL16 2 rfl) rfl (lv_at hl 1 rfl) ?_
  refine lv_aload_n hx hb (ct_d vL16 3 rfl) rfl (lv_at hl 0 rfl) ?_
  refine lv_iload_n hx hb (ct_d vL16 4 rfl) rfl (lv_at hl 3 rfl) ?_
  refine lv_iconst (v := 1) hx hb (ct_d vL16 5 rfl) (by decide +kernel) ?_
  refine lv_iadd hx hb (ct_d vL16 6 rfl) ?_
  refine va_sld hx hb hX hbl hbA hS (hi 1 (by decide)) (ct_d vL16 7 rfl) ?_
  refine lv_aload_n hx hb (ct_d vL16 8 rfl) rfl (lv_at hl 0 rfl) ?_
  refine lv_iload_n hx hb (ct_d vL16 9 rfl) rfl (lv_at hl 3 rfl) ?_
  refine lv_iconst (v := 2) hx hb (ct_d vL16 10 rfl) (by decide +kernel) ?_
  refine lv_iadd hx hb (ct_d vL16 11 rfl) ?_
  refine va_sld hx hb hX hbl hbA hS (hi 2 (by decide)) (ct_d vL16 12 rfl) ?_
  have hs : sp_X10_span [.ref 0, .int (xs (x3 + 1).toNatClampNeg), .int (xs (x3 + 2).toNatClampNeg)] u (fun r u' => tyL r ∧ sp_X11_span [.ref 0, .int (xs (x3 + 1).toNatClampNeg), .int (xs (x3 + 2).toNatClampNeg)] v (fun r' v' => r = r' ∧ Inv u' v')) := s_span hI
  refine lw_call (As := [.int (xs (x3 + 1).toNatClampNeg), .int (xs (x3 + 2).toNatClampNeg)]) (rest := []) C0 hK (kl_X10_span l D cA adC) (by decide) sC_0 hs rfl rfl (hDC u) hP hR (lw_apC C1) hS hl.1 rfl (Nat.le_of_ble_eq_true rfl) (ct_d vL16 13 rfl) (fun r u1 H locs hq hP hR hS => ?_)
  obtain ⟨⟨x, rfl⟩, hs⟩ := hq
  refine W.eq (g2 := F0 m 728 ls [.long x]) rfl ?_
  refine lv_aload_n hx hb (ct_d vL16 14 rfl) rfl (lv_at hl 2 rfl) ?_
  refine lv_aload_n hx hb (ct_d vL16 15 rfl) rfl (lv_at hl 0 rfl) ?_
  refine lv_iload_n hx hb (ct_d vL16 16 rfl) rfl (lv_at hl 3 rfl) ?_
  refine lv_iconst (v := 1) hx hb (ct_d vL16 17 rfl) (by decide +kernel) ?_
  refine lv_iadd hx hb (ct_d vL16 18 rfl) ?_
  refine va_sld hx hb hX hbl hbA hS (hi 1 (by decide)) (ct_d vL16 19 rfl) ?_
  refine lv_aload_n hx hb (ct_d vL16 20 rfl) rfl (lv_at hl 0 rfl) ?_
  refine lv_iload_n hx hb (ct_d vL16 21 rfl) rfl (lv_at hl 3 rfl) ?_
  refine lv_iconst (v := 2) hx hb (ct_d vL16 22 rfl) (by decide +kernel) ?_
  refine lv_iadd hx hb (ct_d vL16 23 rfl) ?_
  refine va_sld hx hb hX hbl hbA hS (hi 2 (by decide)) (ct_d vL16 24 rfl) ?_
  refine lw_call (As := [.int (xs (x3 + 1).toNatClampNeg), .int (xs (x3 + 2).toNatClampNeg)]) (rest := [.long x]) C0 hK (kl_X11_span l D cA adM) (by decide) sM_0 hs rfl rfl (hDM v) hR hP (lw_apM C1) hS hl.1 rfl (Nat.le_of_ble_eq_true rfl) (ct_d vL16 25 rfl) (fun r v1 H locs hq hR hP hS => ?_)
  obtain ⟨he, hI⟩ := hq
  subst he
  refine W.eq (g2 := F0 m 742 ls [.long x, .long x]) rfl ?_
  refine W.lcmp hx hb (ct_d vL16 26 rfl) ?_
  exact lv_if_eq (tgt := 978) hx hb (ct_d vL16 27 rfl) (by decide) (fun _ => kk u1 v1 H locs hI hP hR hS) (fun h => absurd (dm_cm0.mpr rfl) h)
set_option maxRecDepth 100000 in
theorem kl_X10_keeps (l : Launch) (D : va_G) (cA : Nat → ClassId) (ad : Nat → Nat) : dm_M1 l room_1 lw_tbl R_law D dm_cl cA ad shC sp_X10_keeps 77 2 10 := dm_M1_of (t_X10_keeps l D cA ad) lw_hT (dm_mem [878, 66, 875] (by decide +kernel) (by decide +kernel)) (by decide) (by decide +kernel) (Or.inr ⟨by decide, dm_mem [876, 877] (by decide +kernel) (by decide +kernel), rfl⟩)
set_option maxRecDepth 100000 in
theorem kl_X11_keeps (l : Launch) (D : va_G) (cA : Nat → ClassId) (ad : Nat → Nat) : dm_M1 l room_1 lw_tbl R_law D dm_cl cA ad shM sp_X11_keeps 80 2 11 := dm_M1_of (t_X11_keeps l D cA ad) lw_hT (dm_mem [1232, 77, 1229] (by decide +kernel) (by decide +kernel)) (by decide) (by decide +kernel) (Or.inr ⟨by decide, dm_mem [1230, 1231] (by decide +kernel) (by decide +kernel), rfl⟩)
set_option maxHeartbeats 1600000 in
set_option maxRecDepth 100000 in
theorem lw_keeps {p : Program} {l : Launch} {e : Env} {s : State} {m : MethodId} {below : List Frame} {meth : Method} {c : Code} {b L : Nat} {xs : Nat → Int32} {D : va_G} {cA : Nat → ClassId} {adC adM : Nat → Nat} (C0 : lw_At p s m meth c b L xs) (C1 : lw_W s D cA adC adM) {x3 : Int32} (hi : ∀ k : Nat, k ≤ 8 → vp_in (x3 + nI k) L) {ls : Array Slot} (hl : lv_has ls 4 [(0, .ref b), (1, .ref (adC 0)), (2, .ref (adM 0)), (3, .int x3)]) {H : Heap} {locs : List Loc} {u v : dm_S} (hI : Inv u v) (hP : va_P D dm_cl (dm_w adC cA shC u) H) (hR : va_P D dm_cl (dm_w adM cA shM v) H) (hS : va_S (fun q : Nat => s.heap.size ≤ q) s.heap H locs) (kk : lw_kk p l e s m below meth c b D cA adC adM 978 ls) : W p l e room_1 s m #[Value.ref b] below meth c H locs 82 11860 (lw_Z below #[Value.ref b] s) (F0 m 748 ls []) := by
  obtain ⟨hx, hb, hr, hml, hown, hts, hX, hbl, hlocks, hgv⟩ := id C0
  obtain ⟨hK, hDC, hDM, -⟩ := id C1
  have hbA : ¬ (fun q : Nat => s.heap.size ≤ q) b := Nat.not_le.mpr hbl
  refine lv_aload_n hx hb (ct_d vL17 0 rfl) rfl (lv_at hl 1 rfl) ?_
  refine lv_aload_n hx hb (ct_d vL17 1 rfl) rfl (lv_at hl 0 rfl) ?_
  refine lv_iload_n hx hb (ct_d vL17 2 rfl) rfl (lv_at hl 3 rfl) ?_
  refine lv_iconst (v := 1) hx hb (ct_d vL17 3 rfl) (by decide +kernel) ?_
  refine lv_iadd hx hb (ct_d vL17 4 rfl) ?_
  refine va_sld hx hb hX hbl hbA hS (hi 1 (by decide)) (ct_d vL17 5 rfl) ?_
  refine lv_aload_n hx hb (ct_d vL17 6 rfl) rfl (lv_at hl 0 rfl) ?_
  refine lv_iload_n hx hb (ct_d vL17 7 rfl) rfl (lv_at hl 3 rfl) ?_
  refine lv_iconst (v := 2) hx hb (ct_d vL17 8 rfl) (by decide +kernel) ?_
  refine lv_iadd hx hb (ct_d vL17 9 rfl) ?_
  refine va_sld hx hb hX hbl hbA hS (hi 2 (by decide)) (ct_d vL17 10 rfl) ?_
  refine lv_i2l hx hb (ct_d vL17 11 rfl) rfl ?_
  refine lv_bipush (v := 32) hx hb (ct_d vL17 12 rfl) (by decide +kernel) ?_
  refine lv_lshl hx hb (ct_d vL17 13 rfl) rfl ?_
  refine lv_aload_n hx hb (ct_d vL17 14 rfl) rfl (lv_at hl 0 rfl) ?_
  refine lv_iload_n hx hb (ct_d vL17 15 rfl) rfl (lv_at hl 3 rfl) ?_
  refine lv_iconst (v := 3) hx hb (ct_d vL17 16 rfl) (by decide +kernel) ?_
  refine lv_iadd hx hb (ct_d vL17 17 rfl) ?_
  refine va_sld hx hb hX hbl hbA hS (hi 3 (by decide)) (ct_d vL17 18 rfl) ?_
  refine lv_i2l hx hb (ct_d vL17 19 rfl) rfl ?_
  refine lv_ldc2 (v := 4294967295) hx hb hown (hts _ lw_kl) (ct_d vL17 20 rfl) ?_
  refine lv_land hx hb (ct_d vL17 21 rfl) ?_
  refine lv_lor hx hb (ct_d vL17 22 rfl) ?_
  have hs : sp_X10_keeps [.ref 0, .int (xs (x3 + 1).toNatClampNeg), .long (((xs (x3 + 2).toNatClampNeg).toInt64 <<< ((32 : Int32).toInt64 &&& 63)) ||| ((xs (x3 + 3).toNatClampNeg).toInt64 &&& 4294967295))] u (fun r u' => tyI r ∧ sp_X11_keeps [.ref 0, .int (xs (x3 + 1).toNatClampNeg), .long (((xs (x3 + 2).toNatClampNeg).toInt64 <<< ((32 : Int32).toInt64 &&& 63)) ||| ((xs (x3 + 3).toNatClampNeg).toInt64 &&& 4294967295))] v (fun r' v' => r = r' ∧ Inv u' v')) := s_keeps hI
  refine lw_call (As := [.int (xs (x3 + 1).toNatClampNeg), .long (((xs (x3 + 2).toNatClampNeg).toInt64 <<< ((32 : Int32).toInt64 &&& 63)) ||| ((xs (x3 + 3).toNatClampNeg).toInt64 &&& 4294967295))]) (rest := []) C0 hK (kl_X10_keeps l D cA adC) (by decide) sC_0 hs rfl rfl (hDC u) hP hR (lw_apC C1) hS hl.1 rfl (Nat.le_of_ble_eq_true rfl) (ct_d vL17 23 rfl) (fun r u1 H locs hq hP hR hS => ?_)
  obtain ⟨⟨x, rfl⟩, hs⟩ := hq
  refine W.eq (g2 := F0 m 777 ls [.int x]) rfl ?_
  refine lv_aload_n hx hb (ct_d vL17 24 rfl) rfl (lv_at hl 2 rfl) ?_
  refine lv_aload_n hx hb (ct_d vL17 25 rfl) rfl (lv_at hl 0 rfl) ?_
  refine lv_iload_n hx hb (ct_d vL17 26 rfl) rfl (lv_at hl 3 rfl) ?_
  refine lv_iconst (v := 1) hx hb (ct_d vL17 27 rfl) (by decide +kernel) ?_
  refine lv_iadd hx hb (ct_d vL17 28 rfl) ?_
  refine va_sld hx hb hX hbl hbA hS (hi 1 (by decide)) (ct_d vL17 29 rfl) ?_
  refine lv_aload_n hx hb (ct_d vL18 0 rfl) rfl (lv_at hl 0 rfl) ?_
  refine lv_iload_n hx hb (ct_d vL18 1 rfl) rfl (lv_at hl 3 rfl) ?_
  refine lv_iconst (v := 2) hx hb (ct_d vL18 2 rfl) (by decide +kernel) ?_
  refine lv_iadd hx hb (ct_d vL18 3 rfl) ?_
  refine va_sld hx hb hX hbl hbA hS (hi 2 (by decide)) (ct_d vL18 4 rfl) ?_
  refine lv_i2l hx hb (ct_d vL18 5 rfl) rfl ?_
  refine lv_bipush (v := 32) hx hb (ct_d vL18 6 rfl) (by decide +kernel) ?_
  refine lv_lshl hx hb (ct_d vL18 7 rfl) rfl ?_
  refine lv_aload_n hx hb (ct_d vL18 8 rfl) rfl (lv_at hl 0 rfl) ?_
  refine lv_iload_n hx hb (ct_d vL18 9 rfl) rfl (lv_at hl 3 rfl) ?_
  refine lv_iconst (v := 3) hx hb (ct_d vL18 10 rfl) (by decide +kernel) ?_
  refine lv_iadd hx hb (ct_d vL18 11 rfl) ?_
  refine va_sld hx hb hX hbl hbA hS (hi 3 (by decide)) (ct_d vL18 12 rfl) ?_
  refine lv_i2l hx hb (ct_d vL18 13 rfl) rfl ?_
  refine lv_ldc2 (v := 4294967295) hx hb hown (hts _ lw_kl) (ct_d vL18 14 rfl) ?_
  refine lv_land hx hb (ct_d vL18 15 rfl) ?_
  refine lv_lor hx hb (ct_d vL18 16 rfl) ?_
  refine lw_call (As := [.int (xs (x3 + 1).toNatClampNeg), .long (((xs (x3 + 2).toNatClampNeg).toInt64 <<< ((32 : Int32).toInt64 &&& 63)) ||| ((xs (x3 + 3).toNatClampNeg).toInt64 &&& 4294967295))]) (rest := [.int x]) C0 hK (kl_X11_keeps l D cA adM) (by decide) sM_0 hs rfl rfl (hDM v) hR hP (lw_apM C1) hS hl.1 rfl (Nat.le_of_ble_eq_true rfl) (ct_d vL18 17 rfl) (fun r v1 H locs hq hR hP hS => ?_)
  obtain ⟨he, hI⟩ := hq
  subst he
  refine W.eq (g2 := F0 m 806 ls [.int x, .int x]) rfl ?_
  exact lv_icmp_eq (tgt := 978) hx hb (ct_d vL18 18 rfl) (by decide) (fun _ => kk u1 v1 H locs hI hP hR hS) (fun h => absurd rfl h)
set_option maxRecDepth 100000 in
theorem kl_X10_assign (l : Launch) (D : va_G) (cA : Nat → ClassId) (ad : Nat → Nat) : dm_M1 l room_1 lw_tbl R_law D dm_cl cA ad shC sp_X10_assign 81 1 10 := dm_M1_of (t_X10_assign l D cA ad) lw_hT (dm_mem [883, 66, 880] (by decide +kernel) (by decide +kernel)) (by decide) (by decide +kernel) (Or.inr ⟨by decide, dm_mem [881, 882] (by decide +kernel) (by decide +kernel), rfl⟩)
set_option maxRecDepth 100000 in
theorem kl_X11_assign (l : Launch) (D : va_G) (cA : Nat → ClassId) (ad : Nat → Nat) : dm_M1 l room_1 lw_tbl R_law D dm_cl cA ad shM sp_X11_assign 85 1 11 := dm_M1_of (t_X11_assign l D cA ad) lw_hT (dm_mem [1237, 77, 1234] (by decide +kernel) (by decide +kernel)) (by decide) (by decide +kernel) (Or.inr ⟨by decide, dm_mem [1235, 1236] (by decide +kernel) (by decide +kernel), rfl⟩)
set_option maxHeartbeats 1600000 in
set_option maxRecDepth 100000 in
theorem lw_assign {p : Program} {l : Launch} {e : Env} {s : State} {m : MethodId} {below : List Frame} {meth : Method} {c : Code} {b L : Nat} {xs : Nat → Int32} {D : va_G} {cA : Nat → ClassId} {adC adM : Nat → Nat} (C0 : lw_At p s m meth c b L xs) (C1 : lw_W s D cA adC adM) {x3 : Int32} (hi : ∀ k : Nat, k ≤ 8 → vp_in (x3 + nI k) L) {ls : Array Slot} (hl : lv_has ls 4 [(0, .ref b), (1, .ref (adC 0)), (2, .ref (adM 0)), (3, .int x3)]) {H : Heap} {locs : List Loc} {u v : dm_S} (hI : Inv u v) (hP : va_P D dm_cl (dm_w adC cA shC u) H) (hR : va_P D dm_cl (dm_w adM cA shM v) H) (hS : va_S (fun q : Nat => s.heap.size ≤ q) s.heap H locs) (kk : lw_kk p l e s m below meth c b D cA adC adM 978 ls) : W p l e room_1 s m #[Value.ref b] below meth c H locs 82 11860 (lw_Z below #[Value.ref b] s) (F0 m 811 ls []) := by
  obtain ⟨hx, hb, hr, hml, hown, hts, hX, hbl, hlocks, hgv⟩ := id C0
  obtain ⟨hK, hDC, hDM, -⟩ := id C1
  have hbA : ¬ (fun q : Nat => s.heap.size ≤ q) b := Nat.not_le.mpr hbl
  refine lv_aload_n hx hb (ct_d vL18 21 rfl) rfl (lv_at hl 1 rfl) ?_
  refine lv_aload_n hx hb (ct_d vL18 22 rfl) rfl (lv_at hl 0 rfl) ?_
  refine lv_iload_n hx hb (ct_d vL18 23 rfl) rfl (lv_at hl 3 rfl) ?_
  refine lv_iconst (v := 1) hx hb (ct_d vL18 24 rfl) (by decide +kernel) ?_
  refine lv_iadd hx hb (ct_d vL18 25 rfl) ?_
  refine va_sld hx hb hX hbl hbA hS (hi 1 (by decide)) (ct_d vL18 26 rfl) ?_
  have hs : sp_X10_assign [.ref 0, .int (xs (x3 + 1).toNatClampNeg)] u (fun r u' => tyI r ∧ sp_X11_assign [.ref 0, .int (xs (x3 + 1).toNatClampNeg)] v (fun r' v' => r = r' ∧ Inv u' v')) := s_assign hI
  refine lw_call (As := [.int (xs (x3 + 1).toNatClampNeg)]) (rest := []) C0 hK (kl_X10_assign l D cA adC) (by decide) sC_0 hs rfl rfl (hDC u) hP hR (lw_apC C1) hS hl.1 rfl (Nat.le_of_ble_eq_true rfl) (ct_d vL18 27 rfl) (fun r u1 H locs hq hP hR hS => ?_)
  obtain ⟨⟨x, rfl⟩, hs⟩ := hq
  refine W.eq (g2 := F0 m 820 ls [.int x]) rfl ?_
  refine lv_aload_n hx hb (ct_d vL18 28 rfl) rfl (lv_at hl 2 rfl) ?_
  refine lv_aload_n hx hb (ct_d vL18 29 rfl) rfl (lv_at hl 0 rfl) ?_
  refine lv_iload_n hx hb (ct_d vL19 0 rfl) rfl (lv_at hl 3 rfl) ?_
  refine lv_iconst (v := 1) hx hb (ct_d vL19 1 rfl) (by decide +kernel) ?_
  refine lv_iadd hx hb (ct_d vL19 2 rfl) ?_
  refine va_sld hx hb hX hbl hbA hS (hi 1 (by decide)) (ct_d vL19 3 rfl) ?_
  refine lw_call (As := [.int (xs (x3 + 1).toNatClampNeg)]) (rest := [.int x]) C0 hK (kl_X11_assign l D cA adM) (by decide) sM_0 hs rfl rfl (hDM v) hR hP (lw_apM C1) hS hl.1 rfl (Nat.le_of_ble_eq_true rfl) (ct_d vL19 4 rfl) (fun r v1 H locs hq hR hP hS => ?_)
  obtain ⟨he, hI⟩ := hq
  subst he
  refine W.eq (g2 := F0 m 829 ls [.int x, .int x]) rfl ?_
  exact lv_icmp_eq (tgt := 978) hx hb (ct_d vL19 5 rfl) (by decide) (fun _ => kk u1 v1 H locs hI hP hR hS) (fun h => absurd rfl h)
set_option maxRecDepth 100000 in
theorem kl_X10_put (l : Launch) (D : va_G) (cA : Nat → ClassId) (ad : Nat → Nat) : dm_M1 l room_1 lw_tbl R_law D dm_cl cA ad shC sp_X10_put 86 3 10 := dm_M1_of (t_X10_put l D cA ad) lw_hT (dm_mem [893, 66, 890] (by decide +kernel) (by decide +kernel)) (by decide) (by decide +kernel) (Or.inr ⟨by decide, dm_mem [891, 892] (by decide +kernel) (by decide +kernel), rfl⟩)
set_option maxRecDepth 100000 in
theorem kl_X11_put (l : Launch) (D : va_G) (cA : Nat → ClassId) (ad : Nat → Nat) : dm_M1 l room_1 lw_tbl R_law D dm_cl cA ad shM sp_X11_put 90 3 11 := dm_M1_of (t_X11_put l D cA ad) lw_hT (dm_mem [1241, 77, 1238] (by decide +kernel) (by decide +kernel)) (by decide) (by decide +kernel) (Or.inr ⟨by decide, dm_mem [1239, 1240] (by decide +kernel) (by decide +kernel), rfl⟩)
set_option maxHeartbeats 1600000 in
set_option maxRecDepth 100000 in
theorem lw_put {p : Program} {l : Launch} {e : Env} {s : State} {m : MethodId} {below : List Frame} {meth : Method} {c : Code} {b L : Nat} {xs : Nat → Int32} {D : va_G} {cA : Nat → ClassId} {adC adM : Nat → Nat} (C0 : lw_At p s m meth c b L xs) (C1 : lw_W s D cA adC adM) {x3 : Int32} (hi : ∀ k : Nat, k ≤ 8 → vp_in (x3 + nI k) L) {ls : Array Slot} (hl : lv_has ls 4 [(0, .ref b), (1, .ref (adC 0)), (2, .ref (adM 0)), (3, .int x3)]) {H : Heap} {locs : List Loc} {u v : dm_S} (hI : Inv u v) (hP : va_P D dm_cl (dm_w adC cA shC u) H) (hR : va_P D dm_cl (dm_w adM cA shM v) H) (hS : va_S (fun q : Nat => s.heap.size ≤ q) s.heap H locs) (kk : lw_kk p l e s m below meth c b D cA adC adM 978 ls) : W p l e room_1 s m #[Value.ref b] below meth c H locs 82 11860 (lw_Z below #[Value.ref b] s) (F0 m 834 ls []) := by
  obtain ⟨hx, hb, hr, hml, hown, hts, hX, hbl, hlocks, hgv⟩ := id C0
  obtain ⟨hK, hDC, hDM, -⟩ := id C1
  have hbA : ¬ (fun q : Nat => s.heap.size ≤ q) b := Nat.not_le.mpr hbl
  refine lv_aload_n hx hb (ct_d vL19 8 rfl) rfl (lv_at hl 1 rfl) ?_
  refine lv_aload_n hx hb (ct_d vL19 9 rfl) rfl (lv_at hl 0 rfl) ?_
  refine lv_iload_n hx hb (ct_d vL19 10 rfl) rfl (lv_at hl 3 rfl) ?_
  refine lv_iconst (v := 1) hx hb (ct_d vL19 11 rfl) (by decide +kernel) ?_
  refine lv_iadd hx hb (ct_d vL19 12 rfl) ?_
  refine va_sld hx hb hX hbl hbA hS (hi 1 (by decide)) (ct_d vL19 13 rfl) ?_
  refine lv_aload_n hx hb (ct_d vL19 14 rfl) rfl (lv_at hl 0 rfl) ?_
  refine lv_iload_n hx hb (ct_d vL19 15 rfl) rfl (lv_at hl 3 rfl) ?_
  refine lv_iconst (v := 2) hx hb (ct_d vL19 16 rfl) (by decide +kernel) ?_
  refine lv_iadd hx hb (ct_d vL19 17 rfl) ?_
  refine va_sld hx hb hX hbl hbA hS (hi 2 (by decide)) (ct_d vL19 18 rfl) ?_
  refine lv_aload_n hx hb (ct_d vL19 19 rfl) rfl (lv_at hl 0 rfl) ?_
  refine lv_iload_n hx hb (ct_d vL19 20 rfl) rfl (lv_at hl 3 rfl) ?_
  refine lv_iconst (v := 3) hx hb (ct_d vL19 21 rfl) (by decide +kernel) ?_
  refine lv_iadd hx hb (ct_d vL19 22 rfl) ?_
  refine va_sld hx hb hX hbl hbA hS (hi 3 (by decide)) (ct_d vL19 23 rfl) ?_
  refine lv_i2l hx hb (ct_d vL19 24 rfl) rfl ?_
  refine lv_bipush (v := 32) hx hb (ct_d vL19 25 rfl) (by decide +kernel) ?_
  refine lv_lshl hx hb (ct_d vL19 26 rfl) rfl ?_
  refine lv_aload_n hx hb (ct_d vL19 27 rfl) rfl (lv_at hl 0 rfl) ?_
  refine lv_iload_n hx hb (ct_d vL19 28 rfl) rfl (lv_at hl 3 rfl) ?_
  refine lv_iconst (v := 4) hx hb (ct_d vL19 29 rfl) (by decide +kernel) ?_
  refine lv_iadd hx hb (ct_d vL20 0 rfl) ?_
  refine va_sld hx hb hX hbl hbA hS (hi 4 (by decide)) (ct_d vL20 1 rfl) ?_
  refine lv_i2l hx hb (ct_d vL20 2 rfl) rfl ?_
  refine lv_ldc2 (v := 4294967295) hx hb hown (hts _ lw_kl) (ct_d vL20 3 rfl) ?_
  refine lv_land hx hb (ct_d vL20 4 rfl) ?_
  refine lv_lor hx hb (ct_d vL20 5 rfl) ?_
  have hs : sp_X10_put [.ref 0, .int (xs (x3 + 1).toNatClampNeg), .int (xs (x3 + 2).toNatClampNeg), .long (((xs (x3 + 3).toNatClampNeg).toInt64 <<< ((32 : Int32).toInt64 &&& 63)) ||| ((xs (x3 + 4).toNatClampNeg).toInt64 &&& 4294967295))] u (fun r u' => tyI r ∧ sp_X11_put [.ref 0, .int (xs (x3 + 1).toNatClampNeg), .int (xs (x3 + 2).toNatClampNeg), .long (((xs (x3 + 3).toNatClampNeg).toInt64 <<< ((32 : Int32).toInt64 &&& 63)) ||| ((xs (x3 + 4).toNatClampNeg).toInt64 &&& 4294967295))] v (fun r' v' => r = r' ∧ Inv u' v')) := s_put hI
  refine lw_call (As := [.int (xs (x3 + 1).toNatClampNeg), .int (xs (x3 + 2).toNatClampNeg), .long (((xs (x3 + 3).toNatClampNeg).toInt64 <<< ((32 : Int32).toInt64 &&& 63)) ||| ((xs (x3 + 4).toNatClampNeg).toInt64 &&& 4294967295))]) (rest := []) C0 hK (kl_X10_put l D cA adC) (by decide) sC_0 hs rfl rfl (hDC u) hP hR (lw_apC C1) hS hl.1 rfl (Nat.le_of_ble_eq_true rfl) (ct_d vL20 6 rfl) (fun r u1 H locs hq hP hR hS => ?_)
  obtain ⟨⟨x, rfl⟩, hs⟩ := hq
  refine W.eq (g2 := F0 m 868 ls [.int x]) rfl ?_
  refine lv_aload_n hx hb (ct_d vL20 7 rfl) rfl (lv_at hl 2 rfl) ?_
  refine lv_aload_n hx hb (ct_d vL20 8 rfl) rfl (lv_at hl 0 rfl) ?_
  refine lv_iload_n hx hb (ct_d vL20 9 rfl) rfl (lv_at hl 3 rfl) ?_
  refine lv_iconst (v := 1) hx hb (ct_d vL20 10 rfl) (by decide +kernel) ?_
  refine lv_iadd hx hb (ct_d vL20 11 rfl) ?_
  refine va_sld hx hb hX hbl hbA hS (hi 1 (by decide)) (ct_d vL20 12 rfl) ?_
  refine lv_aload_n hx hb (ct_d vL20 13 rfl) rfl (lv_at hl 0 rfl) ?_
  refine lv_iload_n hx hb (ct_d vL20 14 rfl) rfl (lv_at hl 3 rfl) ?_
  refine lv_iconst (v := 2) hx hb (ct_d vL20 15 rfl) (by decide +kernel) ?_
  refine lv_iadd hx hb (ct_d vL20 16 rfl) ?_
  refine va_sld hx hb hX hbl hbA hS (hi 2 (by decide)) (ct_d vL20 17 rfl) ?_
  refine lv_aload_n hx hb (ct_d vL20 18 rfl) rfl (lv_at hl 0 rfl) ?_
  refine lv_iload_n hx hb (ct_d vL20 19 rfl) rfl (lv_at hl 3 rfl) ?_
  refine lv_iconst (v := 3) hx hb (ct_d vL20 20 rfl) (by decide +kernel) ?_
  refine lv_iadd hx hb (ct_d vL20 21 rfl) ?_
  refine va_sld hx hb hX hbl hbA hS (hi 3 (by decide)) (ct_d vL20 22 rfl) ?_
  refine lv_i2l hx hb (ct_d vL20 23 rfl) rfl ?_
  refine lv_bipush (v := 32) hx hb (ct_d vL20 24 rfl) (by decide +kernel) ?_
  refine lv_lshl hx hb (ct_d vL20 25 rfl) rfl ?_
  refine lv_aload_n hx hb (ct_d vL20 26 rfl) rfl (lv_at hl 0 rfl) ?_
  refine lv_iload_n hx hb (ct_d vL20 27 rfl) rfl (lv_at hl 3 rfl) ?_
  refine lv_iconst (v := 4) hx hb (ct_d vL20 28 rfl) (by decide +kernel) ?_
  refine lv_iadd hx hb (ct_d vL20 29 rfl) ?_
  refine va_sld hx hb hX hbl hbA hS (hi 4 (by decide)) (ct_d vL21 0 rfl) ?_
  refine lv_i2l hx hb (ct_d vL21 1 rfl) rfl ?_
  refine lv_ldc2 (v := 4294967295) hx hb hown (hts _ lw_kl) (ct_d vL21 2 rfl) ?_
  refine lv_land hx hb (ct_d vL21 3 rfl) ?_
  refine lv_lor hx hb (ct_d vL21 4 rfl) ?_
  refine lw_call (As := [.int (xs (x3 + 1).toNatClampNeg), .int (xs (x3 + 2).toNatClampNeg), .long (((xs (x3 + 3).toNatClampNeg).toInt64 <<< ((32 : Int32).toInt64 &&& 63)) ||| ((xs (x3 + 4).toNatClampNeg).toInt64 &&& 4294967295))]) (rest := [.int x]) C0 hK (kl_X11_put l D cA adM) (by decide) sM_0 hs rfl rfl (hDM v) hR hP (lw_apM C1) hS hl.1 rfl (Nat.le_of_ble_eq_true rfl) (ct_d vL21 5 rfl) (fun r v1 H locs hq hR hP hS => ?_)
  obtain ⟨he, hI⟩ := hq
  subst he
  refine W.eq (g2 := F0 m 902 ls [.int x, .int x]) rfl ?_
  exact lv_icmp_eq (tgt := 978) hx hb (ct_d vL21 6 rfl) (by decide) (fun _ => kk u1 v1 H locs hI hP hR hS) (fun h => absurd rfl h)
set_option maxRecDepth 100000 in
theorem kl_X10_mate (l : Launch) (D : va_G) (cA : Nat → ClassId) (ad : Nat → Nat) : dm_M1 l room_1 lw_tbl R_law D dm_cl cA ad shC sp_X10_mate 91 1 10 := dm_M1_of (t_X10_mate l D cA ad) lw_hT (dm_mem [905, 66, 902] (by decide +kernel) (by decide +kernel)) (by decide) (by decide +kernel) (Or.inr ⟨by decide, dm_mem [903, 904] (by decide +kernel) (by decide +kernel), rfl⟩)
set_option maxRecDepth 100000 in
theorem kl_X11_mate (l : Launch) (D : va_G) (cA : Nat → ClassId) (ad : Nat → Nat) : dm_M1 l room_1 lw_tbl R_law D dm_cl cA ad shM sp_X11_mate 94 1 11 := dm_M1_of (t_X11_mate l D cA ad) lw_hT (dm_mem [1245, 77, 1242] (by decide +kernel) (by decide +kernel)) (by decide) (by decide +kernel) (Or.inr ⟨by decide, dm_mem [1243, 1244] (by decide +kernel) (by decide +kernel), rfl⟩)
set_option maxHeartbeats 1600000 in
set_option maxRecDepth 100000 in
theorem lw_mate {p : Program} {l : Launch} {e : Env} {s : State} {m : MethodId} {below : List Frame} {meth : Method} {c : Code} {b L : Nat} {xs : Nat → Int32} {D : va_G} {cA : Nat → ClassId} {adC adM : Nat → Nat} (C0 : lw_At p s m meth c b L xs) (C1 : lw_W s D cA adC adM) {x3 : Int32} (hi : ∀ k : Nat, k ≤ 8 → vp_in (x3 + nI k) L) {ls : Array Slot} (hl : lv_has ls 4 [(0, .ref b), (1, .ref (adC 0)), (2, .ref (adM 0)), (3, .int x3)]) {H : Heap} {locs : List Loc} {u v : dm_S} (hI : Inv u v) (hP : va_P D dm_cl (dm_w adC cA shC u) H) (hR : va_P D dm_cl (dm_w adM cA shM v) H) (hS : va_S (fun q : Nat => s.heap.size ≤ q) s.heap H locs) (kk : lw_kk p l e s m below meth c b D cA adC adM 978 ls) : W p l e room_1 s m #[Value.ref b] below meth c H locs 82 11860 (lw_Z below #[Value.ref b] s) (F0 m 907 ls []) := by
  obtain ⟨hx, hb, hr, hml, hown, hts, hX, hbl, hlocks, hgv⟩ := id C0
  obtain ⟨hK, hDC, hDM, -⟩ := id C1
  have hbA : ¬ (fun q : Nat => s.heap.size ≤ q) b := Nat.not_le.mpr hbl
  refine lv_aload_n hx hb (ct_d vL21 9 rfl) rfl (lv_at hl 1 rfl) ?_
  refine lv_aload_n hx hb (ct_d vL21 10 rfl) rfl (lv_at hl 0 rfl) ?_
  refine lv_iload_n hx hb (ct_d vL21 11 rfl) rfl (lv_at hl 3 rfl) ?_
  refine lv_iconst (v := 1) hx hb (ct_d vL21 12 rfl) (by decide +kernel) ?_
  refine lv_iadd hx hb (ct_d vL21 13 rfl) ?_
  refine va_sld hx hb hX hbl hbA hS (hi 1 (by decide)) (ct_d vL21 14 rfl) ?_
  have hs : sp_X10_mate [.ref 0, .int (xs (x3 + 1).toNatClampNeg)] u (fun r u' => tyI r ∧ sp_X11_mate [.ref 0, .int (xs (x3 + 1).toNatClampNeg)] v (fun r' v' => r = r' ∧ Inv u' v')) := s_mate hI
  refine lw_call (As := [.int (xs (x3 + 1).toNatClampNeg)]) (rest := []) C0 hK (kl_X10_mate l D cA adC) (by decide) sC_0 hs rfl rfl (hDC u) hP hR (lw_apC C1) hS hl.1 rfl (Nat.le_of_ble_eq_true rfl) (ct_d vL21 15 rfl) (fun r u1 H locs hq hP hR hS => ?_)
  obtain ⟨⟨x, rfl⟩, hs⟩ := hq
  refine W.eq (g2 := F0 m 916 ls [.int x]) rfl ?_
  refine lv_aload_n hx hb (ct_d vL21 16 rfl) rfl (lv_at hl 2 rfl) ?_
  refine lv_aload_n hx hb (ct_d vL21 17 rfl) rfl (lv_at hl 0 rfl) ?_
  refine lv_iload_n hx hb (ct_d vL21 18 rfl) rfl (lv_at hl 3 rfl) ?_
  refine lv_iconst (v := 1) hx hb (ct_d vL21 19 rfl) (by decide +kernel) ?_
  refine lv_iadd hx hb (ct_d vL21 20 rfl) ?_
  refine va_sld hx hb hX hbl hbA hS (hi 1 (by decide)) (ct_d vL21 21 rfl) ?_
  refine lw_call (As := [.int (xs (x3 + 1).toNatClampNeg)]) (rest := [.int x]) C0 hK (kl_X11_mate l D cA adM) (by decide) sM_0 hs rfl rfl (hDM v) hR hP (lw_apM C1) hS hl.1 rfl (Nat.le_of_ble_eq_true rfl) (ct_d vL21 22 rfl) (fun r v1 H locs hq hR hP hS => ?_)
  obtain ⟨he, hI⟩ := hq
  subst he
  refine W.eq (g2 := F0 m 925 ls [.int x, .int x]) rfl ?_
  exact lv_icmp_eq (tgt := 978) hx hb (ct_d vL21 23 rfl) (by decide) (fun _ => kk u1 v1 H locs hI hP hR hS) (fun h => absurd rfl h)
set_option maxRecDepth 100000 in
theorem kl_X10_least (l : Launch) (D : va_G) (cA : Nat → ClassId) (ad : Nat → Nat) : dm_M1 l room_1 lw_tbl R_law D dm_cl cA ad shC sp_X10_least 95 0 10 := dm_M1_of (t_X10_least l D cA ad) lw_hT (dm_mem [932, 66, 929] (by decide +kernel) (by decide +kernel)) (by decide) (by decide +kernel) (Or.inr ⟨by decide, dm_mem [930, 931] (by decide +kernel) (by decide +kernel), rfl⟩)
set_option maxRecDepth 100000 in
theorem kl_X11_least (l : Launch) (D : va_G) (cA : Nat → ClassId) (ad : Nat → Nat) : dm_M1 l room_1 lw_tbl R_law D dm_cl cA ad shM sp_X11_least 98 0 11 := dm_M1_of (t_X11_least l D cA ad) lw_hT (dm_mem [1256, 77, 1253] (by decide +kernel) (by decide +kernel)) (by decide) (by decide +kernel) (Or.inr ⟨by decide, dm_mem [1254, 1255] (by decide +kernel) (by decide +kernel), rfl⟩)
set_option maxHeartbeats 1600000 in
set_option maxRecDepth 100000 in
theorem lw_least {p : Program} {l : Launch} {e : Env} {s : State} {m : MethodId} {below : List Frame} {meth : Method} {c : Code} {b L : Nat} {xs : Nat → Int32} {D : va_G} {cA : Nat → ClassId} {adC adM : Nat → Nat} (C0 : lw_At p s m meth c b L xs) (C1 : lw_W s D cA adC adM) {x3 : Int32} (hi : ∀ k : Nat, k ≤ 8 → vp_in (x3 + nI k) L) {ls : Array Slot} (hl : lv_has ls 4 [(0, .ref b), (1, .ref (adC 0)), (2, .ref (adM 0)), (3, .int x3)]) {H : Heap} {locs : List Loc} {u v : dm_S} (hI : Inv u v) (hP : va_P D dm_cl (dm_w adC cA shC u) H) (hR : va_P D dm_cl (dm_w adM cA shM v) H) (hS : va_S (fun q : Nat => s.heap.size ≤ q) s.heap H locs) (kk : lw_kk p l e s m below meth c b D cA adC adM 978 ls) : W p l e room_1 s m #[Value.ref b] below meth c H locs 82 11860 (lw_Z below #[Value.ref b] s) (F0 m 930 ls []) := by
  obtain ⟨hx, hb, hr, hml, hown, hts, hX, hbl, hlocks, hgv⟩ := id C0
  obtain ⟨hK, hDC, hDM, -⟩ := id C1
  have hbA : ¬ (fun q : Nat => s.heap.size ≤ q) b := Nat.not_le.mpr hbl
  refine lv_aload_n hx hb (ct_d vL21 26 rfl) rfl (lv_at hl 1 rfl) ?_
  have hs : sp_X10_least [.ref 0] u (fun r u' => tyL r ∧ sp_X11_least [.ref 0] v (fun r' v' => r = r' ∧ Inv u' v')) := s_least hI
  refine lw_call (As := []) (rest := []) C0 hK (kl_X10_least l D cA adC) (by decide) sC_0 hs rfl rfl (hDC u) hP hR (lw_apC C1) hS hl.1 rfl (Nat.le_of_ble_eq_true rfl) (ct_d vL21 27 rfl) (fun r u1 H locs hq hP hR hS => ?_)
  obtain ⟨⟨x, rfl⟩, hs⟩ := hq
  refine W.eq (g2 := F0 m 934 ls [.long x]) rfl ?_
  refine lv_aload_n hx hb (ct_d vL21 28 rfl) rfl (lv_at hl 2 rfl) ?_
  refine lw_call (As := []) (rest := [.long x]) C0 hK (kl_X11_least l D cA adM) (by decide) sM_0 hs rfl rfl (hDM v) hR hP (lw_apM C1) hS hl.1 rfl (Nat.le_of_ble_eq_true rfl) (ct_d vL21 29 rfl) (fun r v1 H locs hq hR hP hS => ?_)
  obtain ⟨he, hI⟩ := hq
  subst he
  refine W.eq (g2 := F0 m 938 ls [.long x, .long x]) rfl ?_
  refine W.lcmp hx hb (ct_d vL22 0 rfl) ?_
  exact lv_if_eq (tgt := 978) hx hb (ct_d vL22 1 rfl) (by decide) (fun _ => kk u1 v1 H locs hI hP hR hS) (fun h => absurd (dm_cm0.mpr rfl) h)
set_option maxRecDepth 100000 in
theorem kl_X10_told (l : Launch) (D : va_G) (cA : Nat → ClassId) (ad : Nat → Nat) : dm_M1 l room_1 lw_tbl R_law D dm_cl cA ad shC sp_X10_told 99 1 10 := dm_M1_of (t_X10_told l D cA ad) lw_hT (dm_mem [937, 66, 934] (by decide +kernel) (by decide +kernel)) (by decide) (by decide +kernel) (Or.inr ⟨by decide, dm_mem [935, 936] (by decide +kernel) (by decide +kernel), rfl⟩)
set_option maxRecDepth 100000 in
theorem kl_X11_told (l : Launch) (D : va_G) (cA : Nat → ClassId) (ad : Nat → Nat) : dm_M1 l room_1 lw_tbl R_law D dm_cl cA ad shM sp_X11_told 102 1 11 := dm_M1_of (t_X11_told l D cA ad) lw_hT (dm_mem [1261, 77, 1258] (by decide +kernel) (by decide +kernel)) (by decide) (by decide +kernel) (Or.inr ⟨by decide, dm_mem [1259, 1260] (by decide +kernel) (by decide +kernel), rfl⟩)
set_option maxHeartbeats 1600000 in
set_option maxRecDepth 100000 in
theorem lw_told {p : Program} {l : Launch} {e : Env} {s : State} {m : MethodId} {below : List Frame} {meth : Method} {c : Code} {b L : Nat} {xs : Nat → Int32} {D : va_G} {cA : Nat → ClassId} {adC adM : Nat → Nat} (C0 : lw_At p s m meth c b L xs) (C1 : lw_W s D cA adC adM) {x3 : Int32} (hi : ∀ k : Nat, k ≤ 8 → vp_in (x3 + nI k) L) {ls : Array Slot} (hl : lv_has ls 4 [(0, .ref b), (1, .ref (adC 0)), (2, .ref (adM 0)), (3, .int x3)]) {H : Heap} {locs : List Loc} {u v : dm_S} (hI : Inv u v) (hP : va_P D dm_cl (dm_w adC cA shC u) H) (hR : va_P D dm_cl (dm_w adM cA shM v) H) (hS : va_S (fun q : Nat => s.heap.size ≤ q) s.heap H locs) (kk : lw_kk p l e s m below meth c b D cA adC adM 978 ls) : W p l e room_1 s m #[Value.ref b] below meth c H locs 82 11860 (lw_Z below #[Value.ref b] s) (F0 m 944 ls []) := by
  obtain ⟨hx, hb, hr, hml, hown, hts, hX, hbl, hlocks, hgv⟩ := id C0
  obtain ⟨hK, hDC, hDM, -⟩ := id C1
  have hbA : ¬ (fun q : Nat => s.heap.size ≤ q) b := Nat.not_le.mpr hbl
  refine lv_aload_n hx hb (ct_d vL22 4 rfl) rfl (lv_at hl 1 rfl) ?_
  refine lv_aload_n hx hb (ct_d vL22 5 rfl) rfl (lv_at hl 0 rfl) ?_
  refine lv_iload_n hx hb (ct_d vL22 6 rfl) rfl (lv_at hl 3 rfl) ?_
  refine lv_iconst (v := 1) hx hb (ct_d vL22 7 rfl) (by decide +kernel) ?_
  refine lv_iadd hx hb (ct_d vL22 8 rfl) ?_
  refine va_sld hx hb hX hbl hbA hS (hi 1 (by decide)) (ct_d vL22 9 rfl) ?_
  have hs : sp_X10_told [.ref 0, .int (xs (x3 + 1).toNatClampNeg)] u (fun r u' => tyI r ∧ sp_X11_told [.ref 0, .int (xs (x3 + 1).toNatClampNeg)] v (fun r' v' => r = r' ∧ Inv u' v')) := s_told hI
  refine lw_call (As := [.int (xs (x3 + 1).toNatClampNeg)]) (rest := []) C0 hK (kl_X10_told l D cA adC) (by decide) sC_0 hs rfl rfl (hDC u) hP hR (lw_apC C1) hS hl.1 rfl (Nat.le_of_ble_eq_true rfl) (ct_d vL22 10 rfl) (fun r u1 H locs hq hP hR hS => ?_)
  obtain ⟨⟨x, rfl⟩, hs⟩ := hq
  refine W.eq (g2 := F0 m 953 ls [.int x]) rfl ?_
  refine lv_aload_n hx hb (ct_d vL22 11 rfl) rfl (lv_at hl 2 rfl) ?_
  refine lv_aload_n hx hb (ct_d vL22 12 rfl) rfl (lv_at hl 0 rfl) ?_
  refine lv_iload_n hx hb (ct_d vL22 13 rfl) rfl (lv_at hl 3 rfl) ?_
  refine lv_iconst (v := 1) hx hb (ct_d vL22 14 rfl) (by decide +kernel) ?_
  refine lv_iadd hx hb (ct_d vL22 15 rfl) ?_
  refine va_sld hx hb hX hbl hbA hS (hi 1 (by decide)) (ct_d vL22 16 rfl) ?_
  refine lw_call (As := [.int (xs (x3 + 1).toNatClampNeg)]) (rest := [.int x]) C0 hK (kl_X11_told l D cA adM) (by decide) sM_0 hs rfl rfl (hDM v) hR hP (lw_apM C1) hS hl.1 rfl (Nat.le_of_ble_eq_true rfl) (ct_d vL22 17 rfl) (fun r v1 H locs hq hR hP hS => ?_)
  obtain ⟨he, hI⟩ := hq
  subst he
  refine W.eq (g2 := F0 m 962 ls [.int x, .int x]) rfl ?_
  exact lv_icmp_eq (tgt := 978) hx hb (ct_d vL22 18 rfl) (by decide) (fun _ => kk u1 v1 H locs hI hP hR hS) (fun h => absurd rfl h)
set_option maxRecDepth 100000 in
theorem kl_X10_clear (l : Launch) (D : va_G) (cA : Nat → ClassId) (ad : Nat → Nat) : dm_M1 l room_1 lw_tbl R_law D dm_cl cA ad shC sp_X10_clear 103 0 10 := dm_M1_of (t_X10_clear l D cA ad) lw_hT (dm_mem [941, 66, 938] (by decide +kernel) (by decide +kernel)) (by decide) (by decide +kernel) (Or.inr ⟨by decide, dm_mem [939, 940] (by decide +kernel) (by decide +kernel), rfl⟩)
set_option maxRecDepth 100000 in
theorem kl_X11_clear (l : Launch) (D : va_G) (cA : Nat → ClassId) (ad : Nat → Nat) : dm_M1 l room_1 lw_tbl R_law D dm_cl cA ad shM sp_X11_clear 106 0 11 := dm_M1_of (t_X11_clear l D cA ad) lw_hT (dm_mem [1265, 77, 1262] (by decide +kernel) (by decide +kernel)) (by decide) (by decide +kernel) (Or.inr ⟨by decide, dm_mem [1263, 1264] (by decide +kernel) (by decide +kernel), rfl⟩)
set_option maxHeartbeats 1600000 in
set_option maxRecDepth 100000 in
theorem lw_clear {p : Program} {l : Launch} {e : Env} {s : State} {m : MethodId} {below : List Frame} {meth : Method} {c : Code} {b L : Nat} {xs : Nat → Int32} {D : va_G} {cA : Nat → ClassId} {adC adM : Nat → Nat} (C0 : lw_At p s m meth c b L xs) (C1 : lw_W s D cA adC adM) {x3 : Int32} (hi : ∀ k : Nat, k ≤ 8 → vp_in (x3 + nI k) L) {ls : Array Slot} (hl : lv_has ls 4 [(0, .ref b), (1, .ref (adC 0)), (2, .ref (adM 0)), (3, .int x3)]) {H : Heap} {locs : List Loc} {u v : dm_S} (hI : Inv u v) (hP : va_P D dm_cl (dm_w adC cA shC u) H) (hR : va_P D dm_cl (dm_w adM cA shM v) H) (hS : va_S (fun q : Nat => s.heap.size ≤ q) s.heap H locs) (kk : lw_kk p l e s m below meth c b D cA adC adM 978 ls) : W p l e room_1 s m #[Value.ref b] below meth c H locs 82 11860 (lw_Z below #[Value.ref b] s) (F0 m 967 ls []) := by
  obtain ⟨hx, hb, hr, hml, hown, hts, hX, hbl, hlocks, hgv⟩ := id C0
  obtain ⟨hK, hDC, hDM, -⟩ := id C1
  have hbA : ¬ (fun q : Nat => s.heap.size ≤ q) b := Nat.not_le.mpr hbl
  refine lv_aload_n hx hb (ct_d vL22 21 rfl) rfl (lv_at hl 1 rfl) ?_
  have hs : sp_X10_clear [.ref 0] u (fun r u' => (fun r => r = none) r ∧ sp_X11_clear [.ref 0] v (fun r' v' => r = r' ∧ Inv u' v')) := s_clear hI
  refine lw_call (As := []) (rest := []) C0 hK (kl_X10_clear l D cA adC) (by decide) sC_0 hs rfl rfl (hDC u) hP hR (lw_apC C1) hS hl.1 rfl (Nat.le_of_ble_eq_true rfl) (ct_d vL22 22 rfl) (fun r u1 H locs hq hP hR hS => ?_)
  obtain ⟨rfl, hs⟩ := hq
  refine W.eq (g2 := F0 m 971 ls []) rfl ?_
  refine lv_aload_n hx hb (ct_d vL22 23 rfl) rfl (lv_at hl 2 rfl) ?_
  refine lw_call (As := []) (rest := []) C0 hK (kl_X11_clear l D cA adM) (by decide) sM_0 hs rfl rfl (hDM v) hR hP (lw_apM C1) hS hl.1 rfl (Nat.le_of_ble_eq_true rfl) (ct_d vL22 24 rfl) (fun r v1 H locs hq hR hP hS => ?_)
  obtain ⟨he, hI⟩ := hq
  subst he
  refine W.eq (g2 := F0 m 975 ls []) rfl ?_
  exact lv_goto (tgt := 978) hx hb (ct_d vL22 25 rfl) (by decide) (kk u1 v1 H locs hI hP hR hS)
