/-! ===== branches, calls, ends; the machine's soundness ===== -/
section DMU
variable {p : Program} {l : Launch} {e : Env} {R : Room} {s : State} {m : MethodId} {args : Array Value} {below : List Frame} {meth : Method} {c : Code} {D : va_G} {cl : List vw_C} {cA : Nat → ClassId} {ad : Nat → Nat} {sh : List dm_H} {A : Nat → Prop} {cc : ByteArray} {nL : Nat} {Ts : List Cond} {own : String} {X : dm_X} {Sp : dm_Sp} {Q : State → Prop}
variable {K : dm_K} {Qp : Option Value → dm_S → Prop} {pc : Nat} {L : List (Option Value)} {S : List Value} {u : dm_S} {t : List Nat} {rk : Nat}
theorem dm_cs_cv (S : List Value) : ((S.map (dm_cv ad)).map fun v => v.category).sum = dm_cs S := by
  unfold dm_cs
  rw [List.map_map]
  congr 2
  funext v
  exact dm_cv_cat ad v
theorem dm_toList_cv {r : Option Value} (h : ∀ a, r ≠ some (.ref a)) : r.toList.map (dm_cv ad) = r.toList := by
  cases r with
  | none => rfl
  | some v =>
    cases v with
    | ref a => exact absurd rfl (h a)
    | _ => rfl
theorem dm_blind {sz : Nat} {As : List Value} : FrameBlind (dm_Pc D cl cA ad sh sz As u) := fun a U g mk q => by
  obtain ⟨q0, q1, qP, qK, qD⟩ := q
  exact ⟨q0, q1, qP, va_K.moved (u := U) (U := U.calling g mk a) (Vm.Alike.refl U.vm) qK, qD⟩
theorem dm_freeA {H : Heap} {locs : List Loc} (hD : va_D A (dm_w ad cA sh u)) (hA : ∀ q, s.heap.size ≤ q → A q) (hS : va_S A s.heap H locs) : ∀ q, va_A (dm_w ad cA sh u) H.size q → A q := by
  intro q h
  rcases h with ⟨k, e, h⟩ | h
  · exact hD.2 k (q, e) h
  · exact hA q (Nat.le_trans hS.1 h)
theorem dm_T_ifCond (C0 : dm_C p s m args meth c cc nL Ts own D cl cA ad sh A rk) (hK : ∀ pc L S u, K pc L S u → dm_G p l e R s m args below meth c D cl cA ad sh A nL Q pc L S u) {o : Jvm.ClassFile.Cond} {off : Int} {a : Nat} (ht : t = [a]) (hd : decode cc pc = .ok (.ifCond o off, 3)) (ho : (pc : Int) + off = (a : Int)) (h : dm_x sh X Sp K Qp (.ifCond o off) t pc L S u) : dm_G p l e R s m args below meth c D cl cA ad sh A nL Q pc L S u := by
  obtain ⟨⟨hx, hb, hml, hown, hts⟩, hKK, hDD, hA, hret, hlk⟩ := C0
  intro ls H locs hl hP hS
  subst ht
  simp only [dm_x] at h
  split at h
  · rename_i x S'
    obtain ⟨h1, h2⟩ := h
    cases o with
    | eq => exact lv_if_eq hx hb hd ho (fun hc => hK _ _ _ _ (h1 hc) ls H locs hl hP hS) (fun hc => hK _ _ _ _ (h2 hc) ls H locs hl hP hS)
    | ne => exact lv_if_ne hx hb hd ho (fun hc => hK _ _ _ _ (h1 hc) ls H locs hl hP hS) (fun hc => hK _ _ _ _ (h2 (fun q => q hc)) ls H locs hl hP hS)
    | lt => exact lv_if_lt hx hb hd ho (fun hc => hK _ _ _ _ (h1 hc) ls H locs hl hP hS) (fun hc => hK _ _ _ _ (h2 hc) ls H locs hl hP hS)
    | ge => exact lv_if_ge hx hb hd ho (fun hc => hK _ _ _ _ (h1 hc) ls H locs hl hP hS) (fun hc => hK _ _ _ _ (h2 hc) ls H locs hl hP hS)
    | gt => exact lv_if_gt hx hb hd ho (fun hc => hK _ _ _ _ (h1 hc) ls H locs hl hP hS) (fun hc => hK _ _ _ _ (h2 hc) ls H locs hl hP hS)
    | le => exact lv_if_le hx hb hd ho (fun hc => hK _ _ _ _ (h1 hc) ls H locs hl hP hS) (fun hc => hK _ _ _ _ (h2 hc) ls H locs hl hP hS)
  · exact h.elim
theorem dm_T_if_icmp (C0 : dm_C p s m args meth c cc nL Ts own D cl cA ad sh A rk) (hK : ∀ pc L S u, K pc L S u → dm_G p l e R s m args below meth c D cl cA ad sh A nL Q pc L S u) {o : Jvm.ClassFile.Cond} {off : Int} {a : Nat} (ht : t = [a]) (hd : decode cc pc = .ok (.if_icmp o off, 3)) (ho : (pc : Int) + off = (a : Int)) (h : dm_x sh X Sp K Qp (.if_icmp o off) t pc L S u) : dm_G p l e R s m args below meth c D cl cA ad sh A nL Q pc L S u := by
  obtain ⟨⟨hx, hb, hml, hown, hts⟩, hKK, hDD, hA, hret, hlk⟩ := C0
  intro ls H locs hl hP hS
  subst ht
  simp only [dm_x] at h
  split at h
  · rename_i y x S'
    obtain ⟨h1, h2⟩ := h
    cases o with
    | eq => exact lv_icmp_eq hx hb hd ho (fun hc => hK _ _ _ _ (h1 hc) ls H locs hl hP hS) (fun hc => hK _ _ _ _ (h2 hc) ls H locs hl hP hS)
    | ne => exact lv_icmp_ne hx hb hd ho (fun hc => hK _ _ _ _ (h1 hc) ls H locs hl hP hS) (fun hc => hK _ _ _ _ (h2 (fun q => q hc)) ls H locs hl hP hS)
    | lt => exact lv_icmp_lt hx hb hd ho (fun hc => hK _ _ _ _ (h1 hc) ls H locs hl hP hS) (fun hc => hK _ _ _ _ (h2 hc) ls H locs hl hP hS)
    | ge => exact lv_icmp_ge hx hb hd ho (fun hc => hK _ _ _ _ (h1 hc) ls H locs hl hP hS) (fun hc => hK _ _ _ _ (h2 hc) ls H locs hl hP hS)
    | gt => exact lv_icmp_gt hx hb hd ho (fun hc => hK _ _ _ _ (h1 hc) ls H locs hl hP hS) (fun hc => hK _ _ _ _ (h2 hc) ls H locs hl hP hS)
    | le => exact lv_icmp_le hx hb hd ho (fun hc => hK _ _ _ _ (h1 hc) ls H locs hl hP hS) (fun hc => hK _ _ _ _ (h2 hc) ls H locs hl hP hS)
  · exact h.elim
theorem dm_T_goto (C0 : dm_C p s m args meth c cc nL Ts own D cl cA ad sh A rk) (hK : ∀ pc L S u, K pc L S u → dm_G p l e R s m args below meth c D cl cA ad sh A nL Q pc L S u) {off : Int} {a : Nat} (ht : t = [a]) (hd : decode cc pc = .ok (.goto off, 3)) (ho : (pc : Int) + off = (a : Int)) (h : dm_x sh X Sp K Qp (.goto off) t pc L S u) : dm_G p l e R s m args below meth c D cl cA ad sh A nL Q pc L S u := by
  obtain ⟨⟨hx, hb, hml, hown, hts⟩, hKK, hDD, hA, hret, hlk⟩ := C0
  intro ls H locs hl hP hS
  subst ht
  exact lv_goto hx hb hd ho (hK _ _ _ _ h ls H locs hl hP hS)
theorem dm_sw_at {x : Int32} : ∀ (ts : List Nat) (lo : Int), dm_sw x K L S u lo ts → ∀ (j : Nat) (a : Nat), ts[j]? = some a → x.toInt = lo + j → K a L S u := by
  intro ts
  induction ts with
  | nil => intro lo _ j a h; simp at h
  | cons b ts ih =>
    intro lo h j a hj e
    cases j with
    | zero => simp at hj; subst hj; exact h.1 (by simpa using e)
    | succ j => exact ih (lo + 1) h.2 j a (by simpa using hj) (by rw [e]; push_cast; omega)
theorem dm_T_tableswitch (C0 : dm_C p s m args meth c cc nL Ts own D cl cA ad sh A rk) (hK : ∀ pc L S u, K pc L S u → dm_G p l e R s m args below meth c D cl cA ad sh A nL Q pc L S u) {d lo hi : Int} {offs : Array Int} {len : Nat} {t0 : Nat} {ts : List Nat} (ht : t = t0 :: ts) (hd : decode cc pc = .ok (.tableswitch d lo hi offs, len)) (h0 : (pc : Int) + d = (t0 : Int)) (ho : offs.toList.map (fun (o : Int) => (pc : Int) + o) = ts.map (fun (a : Nat) => (a : Int))) (hn : hi + 1 = lo + ts.length) (h : dm_x sh X Sp K Qp (.tableswitch d lo hi offs) t pc L S u) : dm_G p l e R s m args below meth c D cl cA ad sh A nL Q pc L S u := by
  obtain ⟨⟨hx, hb, hml, hown, hts⟩, hKK, hDD, hA, hret, hlk⟩ := C0
  intro ls H locs hl hP hS
  subst ht
  simp only [dm_x] at h
  split at h
  · rename_i x S'
    obtain ⟨h1, h2⟩ := h
    by_cases hin : x.toInt < lo ∨ hi < x.toInt
    · exact lv_tableOut hx hb hd hin h0 (hK _ _ _ _ (h1 hin) ls H locs hl hP hS)
    · have g1 : ¬ x.toInt < lo := fun q => hin (Or.inl q)
      have g2 : ¬ hi < x.toInt := fun q => hin (Or.inr q)
      have hj : (x.toInt - lo).toNat < ts.length := by omega
      have ha : ts[(x.toInt - lo).toNat]? = some ts[(x.toInt - lo).toNat] := List.getElem?_eq_getElem hj
      have hlen : offs.toList.length = ts.length := by
        have := congrArg List.length ho
        simpa using this
      have hj2 : (x.toInt - lo).toNat < offs.toList.length := by omega
      have hb2 : offs.toList[(x.toInt - lo).toNat]? = some offs.toList[(x.toInt - lo).toNat] := List.getElem?_eq_getElem hj2
      have he : (pc : Int) + offs.toList[(x.toInt - lo).toNat] = (ts[(x.toInt - lo).toNat] : Int) := by
        have := congrArg (fun z => z[(x.toInt - lo).toNat]?) ho
        simp only [List.getElem?_map, ha, hb2, Option.map_some, Option.some.injEq] at this
        exact this
      refine lv_tableIn hx hb hd g1 g2 (by rw [← Array.getElem?_toList]; exact hb2) he (hK _ _ _ _ (dm_sw_at ts lo h2 _ _ ha ?_) ls H locs hl hP hS)
      omega
  · exact h.elim
theorem dm_T_invokevirtual (C0 : dm_C p s m args meth c cc nL Ts own D cl cA ad sh A rk) (hK : ∀ pc L S u, K pc L S u → dm_G p l e R s m args below meth c D cl cA ad sh A nL Q pc L S u) (hM : dm_MO l R Ts own D cl cA ad sh X Sp) {j : Nat} (hd : decode cc pc = .ok (.invokevirtual j, dm_len (.invokevirtual j))) (h : dm_x sh X Sp K Qp (.invokevirtual j) t pc L S u) : dm_G p l e R s m args below meth c D cl cA ad sh A nL Q pc L S u := by
  obtain ⟨⟨hx, hb, hml, hown, hts⟩, hKK, hDD, hA, hret, hlk⟩ := C0
  intro ls H locs hl hP hS
  simp only [dm_x] at h
  split at h
  · rename_i mid n ci hj
    split at h
    · rename_i c0 S' hS'
      split at h
      · rename_i ci' fs hc
        obtain ⟨⟨rfl, hci, hcs⟩, hsp⟩ := h
        obtain ⟨y, bytes, maxL, ret, ws', rm, hMet, hG, ⟨hrc, hrs⟩, hRoom, ⟨hini, hlink⟩, hd3, -, hvirt⟩ := hM j mid n ci hj
        obtain ⟨⟨hinst, hsel⟩, T, N, hcl⟩ := hvirt hci
        have hw := dm_w_at (ad := ad) (cA := cA) (u := u) hc
        have hn : n < S.length := by
          have := congrArg List.length hS'
          simp at this
          omega
        have hcw : CallW R s args own y.cls j y bytes maxL ret (Cond.code y bytes maxL ret :: ws') rm 0 0 n := ⟨callB_of n hts hG rfl hrc hrs (hts _ hini) (hts _ hlink) hd3 hRoom, hts _ hinst, hts _ hsel⟩
        have hFr := dm_freeA (hDD u) hA hS
        have hstk : S.map (dm_cv ad) = (((S.take n).reverse).map (dm_cv ad)).reverse ++ Value.ref (ad c0) :: S'.map (dm_cv ad) := by
          conv => lhs; rw [← List.take_append_drop n S, hS']
          simp [dm_cv]
        have hR := va_runV (rest := S'.map (dm_cv ad)) (g := F0 m pc ls (S.map (dm_cv ad))) (locs := locs) (cells := 0) (slots := 0) (below := below) (meth := meth) (e := e) ⟨hx, hb, hml, hown, hts⟩ (hMet H.size (.ref c0 :: (S.take n).reverse) u _ hsp) hcw (b := ad c0) (As := ((S.take n).reverse).map (dm_cv ad)) ⟨dm_blind, va_recv hKK hP hcl hw, fun U hU hW => ⟨rfl, by rw [hU], by rw [hU]; exact hP, va_K.moved hW.alike hKK, (hDD u).weaken (fun _ _ _ _ => trivial)⟩⟩ rfl (by simp; omega) hl.1.1 hstk (lv_room (by rw [dm_cs_cv]; exact hcs)) hd ⟨Nat.zero_le _, Nat.zero_le _⟩
        refine dm_call hR hS (fun q _ h9 => hFr q h9) hFr (fun r v t H1 locs1 ht hvm hnr hq hB hS1 => ?_)
        have hq2 : K (pc + 3) L (r.toList ++ S') v := by cases r <;> exact hq
        have hk := hK _ _ _ _ hq2 ls H1 locs1 hl (by rw [← ht]; exact hB.1) hS1
        rw [List.map_append, dm_toList_cv hnr] at hk
        exact hk
      · exact h.elim
    · exact h.elim
  · exact h.elim
theorem dm_T_invokestatic (C0 : dm_C p s m args meth c cc nL Ts own D cl cA ad sh A rk) (hK : ∀ pc L S u, K pc L S u → dm_G p l e R s m args below meth c D cl cA ad sh A nL Q pc L S u) (hM : dm_MO l R Ts own D cl cA ad sh X Sp) {j : Nat} (hd : decode cc pc = .ok (.invokestatic j, dm_len (.invokestatic j))) (h : dm_x sh X Sp K Qp (.invokestatic j) t pc L S u) : dm_G p l e R s m args below meth c D cl cA ad sh A nL Q pc L S u := by
  obtain ⟨⟨hx, hb, hml, hown, hts⟩, hKK, hDD, hA, hret, hlk⟩ := C0
  intro ls H locs hl hP hS
  simp only [dm_x] at h
  split at h
  · rename_i mid n ci hj
    obtain ⟨⟨rfl, hn, hcs⟩, hsp⟩ := h
    obtain ⟨y, bytes, maxL, ret, ws', rm, hMet, hG, ⟨hrc, hrs⟩, hRoom, ⟨hini, hlink⟩, hd3, hstat, -⟩ := hM j mid n 1000 hj
    have hcw : CallB R s args own j y bytes maxL ret (Cond.code y bytes maxL ret :: ws') rm 0 0 n ∧ (Cond.static y).before args s = true := ⟨callB_of n hts hG rfl hrc hrs (hts _ hini) (hts _ hlink) hd3 hRoom, hts _ (hstat rfl)⟩
    have hFr := dm_freeA (hDD u) hA hS
    have hstk : S.map (dm_cv ad) = (((S.take n).reverse).map (dm_cv ad)).reverse ++ (S.drop n).map (dm_cv ad) := by
      conv => lhs; rw [← List.take_append_drop n S]
      simp
    have hR := va_runS (rest := (S.drop n).map (dm_cv ad)) (g := F0 m pc ls (S.map (dm_cv ad))) (locs := locs) (cells := 0) (slots := 0) (below := below) (meth := meth) (e := e) ⟨hx, hb, hml, hown, hts⟩ (hMet H.size ((S.take n).reverse) u _ hsp) hcw (As := ((S.take n).reverse).map (dm_cv ad)) ⟨dm_blind, fun U hU hW => ⟨rfl, by rw [hU], by rw [hU]; exact hP, va_K.moved hW.alike hKK, (hDD u).weaken (fun _ _ _ _ => trivial)⟩⟩ rfl (by simp; omega) hl.1.1 hstk (lv_room (by rw [dm_cs_cv]; exact hcs)) hd ⟨Nat.zero_le _, Nat.zero_le _⟩
    refine dm_call hR hS (fun q _ h9 => hFr q h9) hFr (fun r v t H1 locs1 ht hvm hnr hq hB hS1 => ?_)
    have hq2 : K (pc + 3) L (r.toList ++ S.drop n) v := by cases r <;> exact hq
    have hk := hK _ _ _ _ hq2 ls H1 locs1 hl (by rw [← ht]; exact hB.1) hS1
    rw [List.map_append, dm_toList_cv hnr] at hk
    exact hk
  · exact h.elim
theorem dm_T_ireturn (C0 : dm_C p s m args meth c cc nL Ts own D cl cA ad sh A rk) (hrk : X.2.2.2.2 = rk) (hd : decode cc pc = .ok (.ireturn, dm_len (.ireturn))) (h : dm_x sh X Sp K Qp (.ireturn) t pc L S u) : dm_G p l e R s m args below meth c D cl cA ad sh A nL (MQ below (dm_Qc D cl cA ad sh A Qp) args s 0 0 A) pc L S u := by
  obtain ⟨⟨hx, hb, hml, hown, hts⟩, hKK, hDD, hA, hret, hlk⟩ := C0
  intro ls H locs hl hP hS
  simp only [dm_x] at h
  split at h
  · rename_i x
    split at h
    · rename_i hq
      rw [← hrk, hq] at hret
      exact W.zret (ty := .int) hx hb hret rfl (fun t ht hW => ⟨⟨some (.int x), u, rfl, (fun a q => by cases q), h, by rw [ht]; exact hP, va_K.moved hW.alike hKK, hDD u⟩, hS.F ht⟩) hS.2.2 hd
    · rename_i hq
      rw [← hrk, hq] at hret
      exact W.zret (ty := .boolean) hx hb hret h.1 (fun t ht hW => ⟨⟨some (.int x), u, rfl, (fun a q => by cases q), h.2, by rw [ht]; exact hP, va_K.moved hW.alike hKK, hDD u⟩, hS.F ht⟩) hS.2.2 hd
    · exact h.elim
  · exact h.elim
theorem dm_T_lreturn (C0 : dm_C p s m args meth c cc nL Ts own D cl cA ad sh A rk) (hrk : X.2.2.2.2 = rk) (hd : decode cc pc = .ok (.lreturn, dm_len (.lreturn))) (h : dm_x sh X Sp K Qp (.lreturn) t pc L S u) : dm_G p l e R s m args below meth c D cl cA ad sh A nL (MQ below (dm_Qc D cl cA ad sh A Qp) args s 0 0 A) pc L S u := by
  obtain ⟨⟨hx, hb, hml, hown, hts⟩, hKK, hDD, hA, hret, hlk⟩ := C0
  intro ls H locs hl hP hS
  simp only [dm_x] at h
  split at h
  · rename_i x
    rw [← hrk, h.1] at hret
    exact W.lret hx hb hret (fun t ht hW => ⟨⟨some (.long x), u, rfl, (fun a q => by cases q), h.2, by rw [ht]; exact hP, va_K.moved hW.alike hKK, hDD u⟩, hS.F ht⟩) hS.2.2 hd
  · exact h.elim
theorem dm_T_return_ (C0 : dm_C p s m args meth c cc nL Ts own D cl cA ad sh A rk) (hrk : X.2.2.2.2 = rk) (hd : decode cc pc = .ok (.return_, dm_len (.return_))) (h : dm_x sh X Sp K Qp (.return_) t pc L S u) : dm_G p l e R s m args below meth c D cl cA ad sh A nL (MQ below (dm_Qc D cl cA ad sh A Qp) args s 0 0 A) pc L S u := by
  obtain ⟨⟨hx, hb, hml, hown, hts⟩, hKK, hDD, hA, hret, hlk⟩ := C0
  intro ls H locs hl hP hS
  simp only [dm_x] at h
  split at h
  · rw [← hrk, h.1] at hret
    exact W.vret hx hb hret (fun t ht hW => ⟨⟨none, u, rfl, (fun a q => by cases q), h.2, by rw [ht]; exact hP, va_K.moved hW.alike hKK, hDD u⟩, hS.F ht⟩) hS.2.2 hd
  · exact h.elim
set_option maxHeartbeats 4000000 in
theorem dm_step (C0 : dm_C p s m args meth c cc nL Ts own D cl cA ad sh A rk) (hrk : X.2.2.2.2 = rk) (hF : dm_FO Ts own cl X) (hI : dm_IO Ts own X) (hSO : dm_SO cl sh) (hM : dm_MO l R Ts own D cl cA ad sh X Sp) (hK : ∀ pc L S u, K pc L S u → dm_G p l e R s m args below meth c D cl cA ad sh A nL (MQ below (dm_Qc D cl cA ad sh A Qp) args s 0 0 A) pc L S u) (i : Instr) (n : Nat) (hv : dm_vb cc (pc, i, n, t) = true) (h : dm_x sh X Sp K Qp i t pc L S u) : dm_G p l e R s m args below meth c D cl cA ad sh A nL (MQ below (dm_Qc D cl cA ad sh A Qp) args s 0 0 A) pc L S u := by
  cases i with
  | iconst a => exact dm_T_iconst C0 hK (dm_vb_1 hv rfl) h
  | bipush a => exact dm_T_bipush C0 hK (dm_vb_1 hv rfl) h
  | sipush a => exact dm_T_sipush C0 hK (dm_vb_1 hv rfl) h
  | lconst a => exact dm_T_lconst C0 hK (dm_vb_1 hv rfl) h
  | iload a => exact dm_T_iload C0 hK (dm_vb_1 hv rfl) h
  | lload a => exact dm_T_lload C0 hK (dm_vb_1 hv rfl) h
  | aload a => exact dm_T_aload C0 hK (dm_vb_1 hv rfl) h
  | istore a => exact dm_T_istore C0 hK (dm_vb_1 hv rfl) h
  | lstore a => exact dm_T_lstore C0 hK (dm_vb_1 hv rfl) h
  | iinc a b => exact dm_T_iinc C0 hK (dm_vb_1 hv rfl) h
  | iadd => exact dm_T_iadd C0 hK (dm_vb_1 hv rfl) h
  | isub => exact dm_T_isub C0 hK (dm_vb_1 hv rfl) h
  | imul => exact dm_T_imul C0 hK (dm_vb_1 hv rfl) h
  | iand => exact dm_T_iand C0 hK (dm_vb_1 hv rfl) h
  | ior => exact dm_T_ior C0 hK (dm_vb_1 hv rfl) h
  | idiv => exact dm_T_idiv C0 hK (dm_vb_1 hv rfl) h
  | irem => exact dm_T_irem C0 hK (dm_vb_1 hv rfl) h
  | ishl => exact dm_T_ishl C0 hK (dm_vb_1 hv rfl) h
  | ishr => exact dm_T_ishr C0 hK (dm_vb_1 hv rfl) h
  | iushr => exact dm_T_iushr C0 hK (dm_vb_1 hv rfl) h
  | ladd => exact dm_T_ladd C0 hK (dm_vb_1 hv rfl) h
  | lsub => exact dm_T_lsub C0 hK (dm_vb_1 hv rfl) h
  | lmul => exact dm_T_lmul C0 hK (dm_vb_1 hv rfl) h
  | lneg => exact dm_T_lneg C0 hK (dm_vb_1 hv rfl) h
  | lshr => exact dm_T_lshr C0 hK (dm_vb_1 hv rfl) h
  | i2l => exact dm_T_i2l C0 hK (dm_vb_1 hv rfl) h
  | l2i => exact dm_T_l2i C0 hK (dm_vb_1 hv rfl) h
  | lcmp => exact dm_T_lcmp C0 hK (dm_vb_1 hv rfl) h
  | dup => exact dm_T_dup C0 hK (dm_vb_1 hv rfl) h
  | pop => exact dm_T_pop C0 hK (dm_vb_1 hv rfl) h
  | dup2 => exact dm_T_dup2 C0 hK (dm_vb_1 hv rfl) h
  | iaload => exact dm_T_iaload C0 hK (dm_vb_1 hv rfl) h
  | baload => exact dm_T_baload C0 hK (dm_vb_1 hv rfl) h
  | laload => exact dm_T_laload C0 hK (dm_vb_1 hv rfl) h
  | iastore => exact dm_T_iastore C0 hK (dm_vb_1 hv rfl) h
  | bastore => exact dm_T_bastore C0 hK (dm_vb_1 hv rfl) h
  | lastore => exact dm_T_lastore C0 hK (dm_vb_1 hv rfl) h
  | arraylength => exact dm_T_arraylength C0 hK (dm_vb_1 hv rfl) h
  | ldc a => exact dm_T_ldc C0 hK hI (dm_vb_1 hv rfl) h
  | ldc_w a => exact dm_T_ldc_w C0 hK hI (dm_vb_1 hv rfl) h
  | ldc2_w a => exact dm_T_ldc2_w C0 hK hI (dm_vb_1 hv rfl) h
  | getfield a => exact dm_T_getfield C0 hK hF (dm_vb_1 hv rfl) h
  | putfield a => exact dm_T_putfield C0 hK hF hSO (dm_vb_1 hv rfl) h
  | invokevirtual a => exact dm_T_invokevirtual C0 hK hM (dm_vb_1 hv rfl) h
  | invokestatic a => exact dm_T_invokestatic C0 hK hM (dm_vb_1 hv rfl) h
  | ireturn => exact dm_T_ireturn C0 hrk (dm_vb_1 hv rfl) h
  | lreturn => exact dm_T_lreturn C0 hrk (dm_vb_1 hv rfl) h
  | return_ => exact dm_T_return_ C0 hrk (dm_vb_1 hv rfl) h
  | iload_n j =>
    obtain ⟨b, rfl, hd, ho⟩ : ∃ b, t = [b] ∧ decode cc pc = .ok (.iload_n j, dm_len (.iload_n j)) ∧ j.val = b := by
      simp only [dm_vb, Bool.and_eq_true, decide_eq_true_eq] at hv
      obtain ⟨h1, h2⟩ := hv
      split at h2 <;> simp_all [dm_len]
    exact dm_T_iload_n C0 hK rfl ho hd h
  | lload_n j =>
    obtain ⟨b, rfl, hd, ho⟩ : ∃ b, t = [b] ∧ decode cc pc = .ok (.lload_n j, dm_len (.lload_n j)) ∧ j.val = b := by
      simp only [dm_vb, Bool.and_eq_true, decide_eq_true_eq] at hv
      obtain ⟨h1, h2⟩ := hv
      split at h2 <;> simp_all [dm_len]
    exact dm_T_lload_n C0 hK rfl ho hd h
  | aload_n j =>
    obtain ⟨b, rfl, hd, ho⟩ : ∃ b, t = [b] ∧ decode cc pc = .ok (.aload_n j, dm_len (.aload_n j)) ∧ j.val = b := by
      simp only [dm_vb, Bool.and_eq_true, decide_eq_true_eq] at hv
      obtain ⟨h1, h2⟩ := hv
      split at h2 <;> simp_all [dm_len]
    exact dm_T_aload_n C0 hK rfl ho hd h
  | istore_n j =>
    obtain ⟨b, rfl, hd, ho⟩ : ∃ b, t = [b] ∧ decode cc pc = .ok (.istore_n j, dm_len (.istore_n j)) ∧ j.val = b := by
      simp only [dm_vb, Bool.and_eq_true, decide_eq_true_eq] at hv
      obtain ⟨h1, h2⟩ := hv
      split at h2 <;> simp_all [dm_len]
    exact dm_T_istore_n C0 hK rfl ho hd h
  | lstore_n j =>
    obtain ⟨b, rfl, hd, ho⟩ : ∃ b, t = [b] ∧ decode cc pc = .ok (.lstore_n j, dm_len (.lstore_n j)) ∧ j.val = b := by
      simp only [dm_vb, Bool.and_eq_true, decide_eq_true_eq] at hv
      obtain ⟨h1, h2⟩ := hv
      split at h2 <;> simp_all [dm_len]
    exact dm_T_lstore_n C0 hK rfl ho hd h
  | ifCond o off =>
    obtain ⟨b, rfl, hd, ho⟩ : ∃ b, t = [b] ∧ decode cc pc = .ok (.ifCond o off, 3) ∧ (pc : Int) + off = (b : Int) := by
      simp only [dm_vb, Bool.and_eq_true, decide_eq_true_eq] at hv
      obtain ⟨h1, h2⟩ := hv
      split at h2 <;> simp_all
    exact dm_T_ifCond C0 hK rfl hd ho h
  | if_icmp o off =>
    obtain ⟨b, rfl, hd, ho⟩ : ∃ b, t = [b] ∧ decode cc pc = .ok (.if_icmp o off, 3) ∧ (pc : Int) + off = (b : Int) := by
      simp only [dm_vb, Bool.and_eq_true, decide_eq_true_eq] at hv
      obtain ⟨h1, h2⟩ := hv
      split at h2 <;> simp_all
    exact dm_T_if_icmp C0 hK rfl hd ho h
  | goto off =>
    obtain ⟨b, rfl, hd, ho⟩ : ∃ b, t = [b] ∧ decode cc pc = .ok (.goto off, 3) ∧ (pc : Int) + off = (b : Int) := by
      simp only [dm_vb, Bool.and_eq_true, decide_eq_true_eq] at hv
      obtain ⟨h1, h2⟩ := hv
      split at h2 <;> simp_all
    exact dm_T_goto C0 hK rfl hd ho h
  | tableswitch d lo hi offs =>
    obtain ⟨t0, ts, rfl, h0, ho, hn⟩ : ∃ t0 ts, t = t0 :: ts ∧ (pc : Int) + d = (t0 : Int) ∧ offs.toList.map (fun (o : Int) => (pc : Int) + o) = ts.map (fun (a : Nat) => (a : Int)) ∧ hi + 1 = lo + ts.length := by
      simp only [dm_vb, Bool.and_eq_true, decide_eq_true_eq] at hv
      obtain ⟨h1, h2⟩ := hv
      cases t with
      | nil => simp at h2
      | cons t0 ts =>
        simp only [Bool.and_eq_true, decide_eq_true_eq] at h2
        exact ⟨t0, ts, rfl, h2.1.1, h2.1.2, h2.2⟩
    have hd : decode cc pc = .ok (.tableswitch d lo hi offs, n) := by
      simp only [dm_vb, Bool.and_eq_true, decide_eq_true_eq] at hv
      exact hv.1
    exact dm_T_tableswitch C0 hK rfl hd h0 ho hn h
  | _ => exact False.elim h
/-- a method's instruction list, walked as far as the cuts: what is left is a condition on what comes behind -/
theorem dm_sound (C0 : dm_C p s m args meth c cc nL Ts own D cl cA ad sh A rk) (hrk : X.2.2.2.2 = rk) (hF : dm_FO Ts own cl X) (hI : dm_IO Ts own X) (hSO : dm_SO cl sh) (hM : dm_MO l R Ts own D cl cA ad sh X Sp) {prog : List dm_I} (hp : prog.all (dm_vb cc) = true) (cut : Nat → Bool) : ∀ (n : Nat) (b : Bool) (rest : List dm_I), (∀ z ∈ rest, z ∈ prog) → ∀ (pc : Nat) (L : List (Option Value)) (S : List Value) (u : dm_S), dm_wp sh X Sp Qp prog cut (dm_G p l e R s m args below meth c D cl cA ad sh A nL (MQ below (dm_Qc D cl cA ad sh A Qp) args s 0 0 A)) n b rest pc L S u → dm_G p l e R s m args below meth c D cl cA ad sh A nL (MQ below (dm_Qc D cl cA ad sh A Qp) args s 0 0 A) pc L S u := by
  intro n
  induction n with
  | zero => intro b rest hr pc L S u h; exact h.elim
  | succ n ih =>
    intro b rest hr pc L S u h
    unfold dm_wp at h
    split at h
    · exact h
    · split at h
      · exact h.elim
      · rename_i q r hq
        obtain ⟨hpc, hmem, hr2⟩ := dm_fn_ok hr hq
        have hv := List.all_eq_true.mp hp q hmem
        obtain ⟨pc', i, len, t⟩ := q
        simp only at hpc
        subst hpc
        exact dm_step C0 hrk hF hI hSO hM (fun pc'' L' S' u' hk => ih true r hr2 pc'' L' S' u' hk) i len hv h
end DMU
