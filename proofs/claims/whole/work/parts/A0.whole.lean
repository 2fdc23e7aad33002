/-! ===== the law's loop, and its start (written by wip/tools/genlaw.py) ===== -/
theorem lw_9 {L i : Nat} (hL : L ≤ 4608) (hi : i ≤ 5000) (h : ¬ Int32.ofNat L - 9 < nI i) : i + 9 ≤ L := by
  have e1 : (Int32.ofNat L - 9 : Int32).toInt = (L : Int) - 9 := by
    have e : (Int32.ofNat L - 9 : Int32) = Int32.ofInt ((L : Int) - 9) := by
      rw [Int32.ofInt_sub]
      rfl
    rw [e, Int32.toInt_ofInt_of_le (by omega) (by omega)]
  rw [Int32.lt_iff_toInt_lt, e1, nI_toInt (by omega)] at h
  omega
set_option maxHeartbeats 1600000 in
set_option maxRecDepth 100000 in
theorem lw_step {p : Program} {l : Launch} {e : Env} {s : State} {m : MethodId} {below : List Frame} {meth : Method} {c : Code} {b L : Nat} {xs : Nat → Int32} {D : va_G} {cA : Nat → ClassId} {adC adM : Nat → Nat} (hL : L ≤ 4608) (C0 : lw_At p s m meth c b L xs) (C1 : lw_W s D cA adC adM) {i : Nat} (hi5 : i ≤ 5000) {ls : Array Slot} (hl : lv_has ls 4 [(0, .ref b), (1, .ref (adC 0)), (2, .ref (adM 0)), (3, .int (nI i))]) {H : Heap} {locs : List Loc} {u v : dm_S} (hI : Inv u v) (hP : va_P D dm_cl (dm_w adC cA shC u) H) (hR : va_P D dm_cl (dm_w adM cA shM v) H) (hS : va_S (fun q : Nat => s.heap.size ≤ q) s.heap H locs)
    (kk : i + 9 ≤ L → ∀ ls : Array Slot, lv_has ls 4 [(0, .ref b), (1, .ref (adC 0)), (2, .ref (adM 0)), (3, .int (nI (i + 9)))] → lw_kk p l e s m below meth c b D cA adC adM 18 ls) : W p l e room_1 s m #[Value.ref b] below meth c H locs 82 11860 (lw_Z below #[Value.ref b] s) (F0 m 18 ls []) := by
  obtain ⟨hx, hb, hr, hml, hown, hts, hX, hbl, hlocks, hgv⟩ := id C0
  have hbA : ¬ (fun q : Nat => s.heap.size ≤ q) b := Nat.not_le.mpr hbl
  refine lv_iload_n hx hb (ct_d vL0 10 rfl) rfl (lv_at hl 3 rfl) ?_
  refine lv_aload_n hx hb (ct_d vL0 11 rfl) rfl (lv_at hl 0 rfl) ?_
  refine va_slen hx hb hX hbl hbA hS (ct_d vL0 12 rfl) ?_
  refine lv_bipush (v := 9) hx hb (ct_d vL0 13 rfl) (by decide +kernel) ?_
  refine lv_isub hx hb (ct_d vL0 14 rfl) ?_
  refine lv_icmp_gt (tgt := 984) hx hb (ct_d vL0 15 rfl) (by decide) (fun _ => ?_) (fun hg => ?_)
  · refine va_forget hS.2.2 ?_
    refine lv_iconst (v := 1) hx hb (ct_d vL22 28 rfl) (by decide +kernel) ?_
    exact lw_ret hx hb hr hlocks (ct_d vL22 29 rfl)
  · have h9 : i + 9 ≤ L := lw_9 hL hi5 hg
    have hi : ∀ k : Nat, k ≤ 8 → vp_in (nI i + nI k) L := fun k hk => by
      rw [nI_add]
      exact vp_in_nI (by omega) (by omega)
    refine lv_aload_n hx hb (ct_d vL0 16 rfl) rfl (lv_at hl 0 rfl) ?_
    refine lv_iload_n hx hb (ct_d vL0 17 rfl) rfl (lv_at hl 3 rfl) ?_
    refine va_sld hx hb hX hbl hbA hS (vp_in_nI (n := i) (by omega) (by omega)) (ct_d vL0 18 rfl) ?_
    refine lv_bipush (v := 31) hx hb (ct_d vL0 19 rfl) (by decide +kernel) ?_
    refine lv_iand hx hb (ct_d vL0 20 rfl) ?_
    refine lv_topi (fun y _ => ?_)
    have kk2 : lw_kk p l e s m below meth c b D cA adC adM 978 ls := fun u v H locs hI hP hR hS => by
      refine lv_iinc (v := nI (i + 9)) (lv' := [(3, .int (nI (i + 9))), (0, .ref b), (1, .ref (adC 0)), (2, .ref (adM 0))]) hx hb (ct_d vL22 26 rfl) hl (k := 3) rfl (nI_add i 9) (by decide) rfl (fun ls hl => ?_)
      refine lv_goto (tgt := 18) hx hb (ct_d vL22 27 rfl) (by decide) ?_
      exact kk h9 ls (lv_sub hl [1, 2, 3, 0] rfl) u v H locs hI hP hR hS
    by_cases ho : y.toInt < 0 ∨ 19 < y.toInt
    · exact lv_tableOut (tgt := 978) hx hb (ct_d vL0 21 rfl) ho (by decide) (kk2 u v H locs hI hP hR hS)
    · obtain ⟨h0, h1⟩ : ¬ y.toInt < 0 ∧ ¬ 19 < y.toInt := ⟨fun z => ho (Or.inl z), fun z => ho (Or.inr z)⟩
      rcases (show y.toInt = 0 ∨ y.toInt = 1 ∨ y.toInt = 2 ∨ y.toInt = 3 ∨ y.toInt = 4 ∨ y.toInt = 5 ∨ y.toInt = 6 ∨ y.toInt = 7 ∨ y.toInt = 8 ∨ y.toInt = 9 ∨ y.toInt = 10 ∨ y.toInt = 11 ∨ y.toInt = 12 ∨ y.toInt = 13 ∨ y.toInt = 14 ∨ y.toInt = 15 ∨ y.toInt = 16 ∨ y.toInt = 17 ∨ y.toInt = 18 ∨ y.toInt = 19 by omega) with h | h | h | h | h | h | h | h | h | h | h | h | h | h | h | h | h | h | h | h
      · exact lv_tableIn (tgt := 128) (off := 95) hx hb (ct_d vL0 21 rfl) h0 h1 (by rw [h]; rfl) (by decide) (lw_node C0 C1 hi hl hI hP hR hS kk2)
      · exact lv_tableIn (tgt := 181) (off := 148) hx hb (ct_d vL0 21 rfl) h0 h1 (by rw [h]; rfl) (by decide) (lw_arc C0 C1 hi hl hI hP hR hS kk2)
      · exact lv_tableIn (tgt := 340) (off := 307) hx hb (ct_d vL0 21 rfl) h0 h1 (by rw [h]; rfl) (by decide) (lw_piece C0 C1 hi hl hI hP hR hS kk2)
      · exact lv_tableIn (tgt := 443) (off := 410) hx hb (ct_d vL0 21 rfl) h0 h1 (by rw [h]; rfl) (by decide) (lw_supply C0 C1 hi hl hI hP hR hS kk2)
      · exact lv_tableIn (tgt := 507) (off := 474) hx hb (ct_d vL0 21 rfl) h0 h1 (by rw [h]; rfl) (by decide) (lw_price C0 C1 hi hl hI hP hR hS kk2)
      · exact lv_tableIn (tgt := 570) (off := 537) hx hb (ct_d vL0 21 rfl) h0 h1 (by rw [h]; rfl) (by decide) (lw_run C0 C1 hi hl hI hP hR hS kk2)
      · exact lv_tableIn (tgt := 593) (off := 560) hx hb (ct_d vL0 21 rfl) h0 h1 (by rw [h]; rfl) (by decide) (lw_cost C0 C1 hi hl hI hP hR hS kk2)
      · exact lv_tableIn (tgt := 607) (off := 574) hx hb (ct_d vL0 21 rfl) h0 h1 (by rw [h]; rfl) (by decide) (lw_on C0 C1 hi hl hI hP hR hS kk2)
      · exact lv_tableIn (tgt := 631) (off := 598) hx hb (ct_d vL0 21 rfl) h0 h1 (by rw [h]; rfl) (by decide) (lw_potential C0 C1 hi hl hI hP hR hS kk2)
      · exact lv_tableIn (tgt := 655) (off := 622) hx hb (ct_d vL0 21 rfl) h0 h1 (by rw [h]; rfl) (by decide) (lw_check C0 C1 hi hl hI hP hR hS kk2)
      · exact lv_tableIn (tgt := 668) (off := 635) hx hb (ct_d vL0 21 rfl) h0 h1 (by rw [h]; rfl) (by decide) (lw_ring C0 C1 hi hl hI hP hR hS kk2)
      · exact lv_tableIn (tgt := 691) (off := 658) hx hb (ct_d vL0 21 rfl) h0 h1 (by rw [h]; rfl) (by decide) (lw_set C0 C1 hi hl hI hP hR hS kk2)
      · exact lv_tableIn (tgt := 714) (off := 681) hx hb (ct_d vL0 21 rfl) h0 h1 (by rw [h]; rfl) (by decide) (lw_span C0 C1 hi hl hI hP hR hS kk2)
      · exact lv_tableIn (tgt := 748) (off := 715) hx hb (ct_d vL0 21 rfl) h0 h1 (by rw [h]; rfl) (by decide) (lw_keeps C0 C1 hi hl hI hP hR hS kk2)
      · exact lv_tableIn (tgt := 811) (off := 778) hx hb (ct_d vL0 21 rfl) h0 h1 (by rw [h]; rfl) (by decide) (lw_assign C0 C1 hi hl hI hP hR hS kk2)
      · exact lv_tableIn (tgt := 834) (off := 801) hx hb (ct_d vL0 21 rfl) h0 h1 (by rw [h]; rfl) (by decide) (lw_put C0 C1 hi hl hI hP hR hS kk2)
      · exact lv_tableIn (tgt := 907) (off := 874) hx hb (ct_d vL0 21 rfl) h0 h1 (by rw [h]; rfl) (by decide) (lw_mate C0 C1 hi hl hI hP hR hS kk2)
      · exact lv_tableIn (tgt := 930) (off := 897) hx hb (ct_d vL0 21 rfl) h0 h1 (by rw [h]; rfl) (by decide) (lw_least C0 C1 hi hl hI hP hR hS kk2)
      · exact lv_tableIn (tgt := 944) (off := 911) hx hb (ct_d vL0 21 rfl) h0 h1 (by rw [h]; rfl) (by decide) (lw_told C0 C1 hi hl hI hP hR hS kk2)
      · exact lv_tableIn (tgt := 967) (off := 934) hx hb (ct_d vL0 21 rfl) h0 h1 (by rw [h]; rfl) (by decide) (lw_clear C0 C1 hi hl hI hP hR hS kk2)
theorem lw_loop {p : Program} {l : Launch} {e : Env} {s : State} {m : MethodId} {below : List Frame} {meth : Method} {c : Code} {b L : Nat} {xs : Nat → Int32} {D : va_G} {cA : Nat → ClassId} {adC adM : Nat → Nat} (hL : L ≤ 4608) (C0 : lw_At p s m meth c b L xs) (C1 : lw_W s D cA adC adM) : ∀ (n i : Nat), L ≤ i + n → i ≤ 5000 → ∀ ls : Array Slot, lv_has ls 4 [(0, .ref b), (1, .ref (adC 0)), (2, .ref (adM 0)), (3, .int (nI i))] → lw_kk p l e s m below meth c b D cA adC adM 18 ls := by
  intro n
  induction n with
  | zero => exact fun i h1 h2 ls hl u v H locs hI hP hR hS => lw_step hL C0 C1 h2 hl hI hP hR hS (fun h => absurd h (by omega))
  | succ n ih => exact fun i h1 h2 ls hl u v H locs hI hP hR hS => lw_step hL C0 C1 h2 hl hI hP hR hS (fun h ls hl => ih (i + 9) (by omega) (by omega) ls hl)
set_option maxRecDepth 100000 in
theorem lw_wi : ∀ w ∈ ([.instantiable RX0 4, .instantiable RX1 11, .instantiable RX2 11, .instantiable RX3 5, .instantiable RX4 7, .instantiable RX5 5, .instantiable RX6 7, .instantiable RX7 7, .instantiable RX8 3, .instantiable RX9 7, .instantiable RX10 11, .instantiable RX11 37, .arrayClass .int, .arrayClass .long, .arrayClass .boolean, .classLink R_law 7 RX10, .instantiable RX10 11, .initialized RX10, .methodLink R_law 9 yX10_init, .instanceMethod yX10_init, .classLink R_law 10 RX11, .instantiable RX11 37, .initialized RX11, .methodLink R_law 12 yX11_init, .instanceMethod yX11_init] : List Cond), w ∈ dm_tt := dm_mem [367, 164, 90, 406, 311, 288, 339, 259, 388, 221, 82, 947, 161, 160, 162, 81, 82, 66, 83, 84, 946, 947, 77, 948, 949] (by decide +kernel) (by decide +kernel)
set_option maxRecDepth 100000 in
theorem lw_n2 : Cond.methodLinkNest RX10 11 yX2_init RX10 ∈ lw_tbl := List.mem_of_getElem? (i := 91) (by decide +kernel)
set_option maxRecDepth 100000 in
theorem lw_n3 : Cond.methodLinkNest RX10 86 yX3_init RX10 ∈ lw_tbl := List.mem_of_getElem? (i := 407) (by decide +kernel)
set_option maxHeartbeats 4000000 in
set_option maxRecDepth 100000 in
/-- from the entry, for every script of at most 4608 ints, the law comes to its end with true -/
theorem whole_start {p : Program} {e : Env} {s : State} {m : MethodId} {below : List Frame} {meth : Method} {c : Code} (l : Launch) {b L : Nat} {xs : Nat → Int32} (hL : L ≤ 4608) (C0 : lw_At p s m meth c b L xs) : W p l e room_1 s m #[Value.ref b] below meth c s.heap [] 0 0 (lw_Z below #[Value.ref b] s) (entryFrame m ([Value.ref b] : List Value).toArray 4) := by
  obtain ⟨hx, hb, hr, hml, hown, hts, hX, hbl, hlocks, hgv⟩ := id C0
  have hA : ∀ q : Nat, s.heap.size ≤ q → (fun q : Nat => s.heap.size ≤ q) q := fun _ h => h
  have hbA : ¬ (fun q : Nat => s.heap.size ≤ q) b := Nat.not_le.mpr hbl
  obtain ⟨c0, i0, k0⟩ := u_known (C := RX0) (T := TX0) (N := 4) (n := 4) hts (fun w h => lw_hT w (dm_u0 w h)) (hts _ (lw_hT _ (lw_wi _ (List.mem_of_getElem? (i := 0) rfl))))
  obtain ⟨c1, i1, k1⟩ := u_known (C := RX1) (T := TX1) (N := 11) (n := 11) hts (fun w h => lw_hT w (dm_u1 w h)) (hts _ (lw_hT _ (lw_wi _ (List.mem_of_getElem? (i := 1) rfl))))
  obtain ⟨c2, i2, k2⟩ := u_known (C := RX2) (T := TX2) (N := 11) (n := 11) hts (fun w h => lw_hT w (dm_u2 w h)) (hts _ (lw_hT _ (lw_wi _ (List.mem_of_getElem? (i := 2) rfl))))
  obtain ⟨c3, i3, k3⟩ := u_known (C := RX3) (T := TX3) (N := 5) (n := 5) hts (fun w h => lw_hT w (dm_u3 w h)) (hts _ (lw_hT _ (lw_wi _ (List.mem_of_getElem? (i := 3) rfl))))
  obtain ⟨c4, i4, k4⟩ := u_known (C := RX4) (T := TX4) (N := 7) (n := 7) hts (fun w h => lw_hT w (dm_u4 w h)) (hts _ (lw_hT _ (lw_wi _ (List.mem_of_getElem? (i := 4) rfl))))
  obtain ⟨c5, i5, k5⟩ := u_known (C := RX5) (T := TX5) (N := 5) (n := 5) hts (fun w h => lw_hT w (dm_u5 w h)) (hts _ (lw_hT _ (lw_wi _ (List.mem_of_getElem? (i := 5) rfl))))
  obtain ⟨c6, i6, k6⟩ := u_known (C := RX6) (T := TX6) (N := 7) (n := 7) hts (fun w h => lw_hT w (dm_u6 w h)) (hts _ (lw_hT _ (lw_wi _ (List.mem_of_getElem? (i := 6) rfl))))
  obtain ⟨c7, i7, k7⟩ := u_known (C := RX7) (T := TX7) (N := 7) (n := 7) hts (fun w h => lw_hT w (dm_u7 w h)) (hts _ (lw_hT _ (lw_wi _ (List.mem_of_getElem? (i := 7) rfl))))
  obtain ⟨c8, i8, k8⟩ := u_known (C := RX8) (T := TX8) (N := 3) (n := 3) hts (fun w h => lw_hT w (dm_u8 w h)) (hts _ (lw_hT _ (lw_wi _ (List.mem_of_getElem? (i := 8) rfl))))
  obtain ⟨c9, i9, k9⟩ := u_known (C := RX9) (T := TX9) (N := 7) (n := 7) hts (fun w h => lw_hT w (dm_u9 w h)) (hts _ (lw_hT _ (lw_wi _ (List.mem_of_getElem? (i := 9) rfl))))
  obtain ⟨c10, i10, k10⟩ := u_known (C := RX10) (T := TX10) (N := 11) (n := 11) hts (fun w h => lw_hT w (dm_u10 w h)) (hts _ (lw_hT _ (lw_wi _ (List.mem_of_getElem? (i := 10) rfl))))
  obtain ⟨c11, i11, k11⟩ := u_known (C := RX11) (T := TX11) (N := 37) (n := 37) hts (fun w h => lw_hT w (dm_u11 w h)) (hts _ (lw_hT _ (lw_wi _ (List.mem_of_getElem? (i := 11) rfl))))
  obtain ⟨D, hKc⟩ : ∃ D : va_G, ∀ (k : Nat) (q : vw_C), dm_cl[k]? = some q → u_Kn s q.1 q.2.1 q.2.2 (D.1 k) (D.2 k) := by
    refine ⟨(fun k => [c0, c1, c2, c3, c4, c5, c6, c7, c8, c9, c10, c11].getD k c0, fun k => [i0, i1, i2, i3, i4, i5, i6, i7, i8, i9, i10, i11].getD k i0), ?_⟩
    intro k q hq
    match k, hq with
    | 0, hq => cases hq; exact k0
    | 1, hq => cases hq; exact k1
    | 2, hq => cases hq; exact k2
    | 3, hq => cases hq; exact k3
    | 4, hq => cases hq; exact k4
    | 5, hq => cases hq; exact k5
    | 6, hq => cases hq; exact k6
    | 7, hq => cases hq; exact k7
    | 8, hq => cases hq; exact k8
    | 9, hq => cases hq; exact k9
    | 10, hq => cases hq; exact k10
    | 11, hq => cases hq; exact k11
    | k + 12, hq => simp [dm_cl] at hq
  obtain ⟨b0, kb0, cb0, fb0, gb0, eb0⟩ := Cond.arrayClass_spec (hts _ (lw_hT _ (lw_wi _ (List.mem_of_getElem? (i := 12) rfl))))
  obtain ⟨b1, kb1, cb1, fb1, gb1, eb1⟩ := Cond.arrayClass_spec (hts _ (lw_hT _ (lw_wi _ (List.mem_of_getElem? (i := 13) rfl))))
  obtain ⟨b2, kb2, cb2, fb2, gb2, eb2⟩ := Cond.arrayClass_spec (hts _ (lw_hT _ (lw_wi _ (List.mem_of_getElem? (i := 14) rfl))))
  obtain ⟨cA, hK⟩ : ∃ cA : Nat → ClassId, va_K D dm_cl (dm_tys cA) s := by
    refine ⟨fun k => [b0, b1, b2].getD k b0, hKc, fun k q h => ?_⟩
    match k, h with
    | 0, h => cases h; exact ⟨fun n z => ⟨fun k h => (by cases h), kb0, gb0, cb0, eb0⟩, fb0⟩
    | 1, h => cases h; exact ⟨fun n z => ⟨fun k h => (by cases h), kb1, gb1, cb1, eb1⟩, fb1⟩
    | 2, h => cases h; exact ⟨fun n z => ⟨fun k h => (by cases h), kb2, gb2, cb2, eb2⟩, fb2⟩
    | k + 3, h => simp [dm_tys] at h
  have hS : va_S (fun q : Nat => s.heap.size ≤ q) s.heap s.heap [] := va_S.rf
  have hP : va_P D dm_cl [] s.heap := fun k q h => by simp at h
  have hD : va_D (fun q : Nat => s.heap.size ≤ q) [] := ⟨fun i j p q h => by simp at h, fun k q h => by simp at h⟩
  have hl := lv_entry ([.ref b]) (n := 4) (Nat.le_of_ble_eq_true rfl)
  rw [lg_entry_eq]
  generalize (lg_sl ([.ref b]) ++ List.replicate (4 - (lg_sl ([.ref b])).length) Slot.unset).toArray = ls at hl ⊢
  have hl : lv_has ls 4 [(0, .ref b)] := hl
  refine va_new (ci := 10) (fs := [.null, .null, .null, .null, .null, .null, .null, .null, .null, .null, .int 0]) (C := RX10) (T := TX10) (N := 11) hx hb hts (fun w h => lw_hT w (dm_u10 w h)) tyX10 tyX10_ok hown (hts _ (lw_hT _ (lw_wi _ (List.mem_of_getElem? (i := 15) rfl)))) (hts _ (lw_hT _ (lw_wi _ (List.mem_of_getElem? (i := 16) rfl)))) (hts _ (lw_hT _ (lw_wi _ (List.mem_of_getElem? (i := 17) rfl)))) hK hP hD hS hA rfl bl_X10 (Nat.le_of_ble_eq_true rfl) (Nat.le_of_ble_eq_true rfl) (ct_d vL0 0 rfl) (fun q0 H hP hD hS => ?_)
  have hP : va_P D dm_cl [(q0, .inr (10, [.null, .null, .null, .null, .null, .null, .null, .null, .null, .null, .int 0]))] H := hP
  have hD : va_D (fun q : Nat => s.heap.size ≤ q) [(q0, .inr (10, [.null, .null, .null, .null, .null, .null, .null, .null, .null, .null, .int 0]))] := hD
  refine W.widen (k := 1) (n := 11) (Nat.le_of_ble_eq_true rfl) (Nat.le_of_ble_eq_true rfl) ?_
  refine lv_dup hx hb (ct_d vL0 1 rfl) rfl ?_
  have hFc := va_free (wc := [(q0, .inr (10, [.null, .null, .null, .null, .null, .null, .null, .null, .null, .null, .int 0]))]) hD hS hA [0] rfl
  refine va_callv (va_runI (As := []) (rest := [.ref q0]) ⟨hx, hb, hml, hown, hts⟩ (c_X10_init l D cA q0 H.size) (cwI 0 hts (dm_goodIn lw_hT wg_X10_init) rfl rfl rfl (hts _ (lw_hT _ (lw_wi _ (List.mem_of_getElem? (i := 17) rfl)))) (hts _ (lw_hT _ (lw_wi _ (List.mem_of_getElem? (i := 18) rfl)))) (hts _ (lw_hT _ (lw_wi _ (List.mem_of_getElem? (i := 19) rfl)))) rfl (by decide +kernel) ⟨Nat.le_of_ble_eq_true rfl, Nat.le_of_ble_eq_true rfl⟩) ⟨fun a U g mk q => by obtain ⟨q0, q1, qP, qK, qD, qM, qN⟩ := q; exact ⟨q0, q1, qP, va_K.moved (u := U) (U := U.calling g mk a) (Vm.Alike.refl U.vm) qK, qD, va_Nw.same rfl rfl qM, va_Nw.same rfl rfl qN⟩, fun U hU hW => ⟨rfl, by rw [hU], by rw [hU]; exact hP, va_K.moved hW.alike hK, hD.weaken (fun _ _ _ _ => trivial), va_Nw.warmM hW (va_Nw.of rfl (hts _ lw_n2)), va_Nw.warmM hW (va_Nw.of rfl (hts _ lw_n3))⟩⟩ rfl rfl hl.1 rfl (lv_room (Nat.le_of_ble_eq_true rfl)) (ct_d vL0 2 rfl) ⟨Nat.le_of_ble_eq_true rfl, Nat.le_of_ble_eq_true rfl⟩) hS (fun q _ h => hFc q h) hFc (fun _ t H1 locs ht hvm hw hB hz1 hk1 hS => ?_)
  obtain ⟨adC, e0, hPC, -, hDC⟩ := hB
  rw [ht] at hPC
  have hDC1 : va_D (fun q : Nat => s.heap.size ≤ q) (dm_w adC cA shC m0) := hDC.weaken (fun k q _ h => hFc q.1 h)
  refine W.widen (k := 52) (n := 6912) (Nat.le_of_ble_eq_true rfl) (Nat.le_of_ble_eq_true rfl) ?_
  refine lv_astore_n (lv' := [(1, .ref q0), (0, .ref b)]) hx hb (ct_d vL0 3 rfl) rfl hl (by decide) rfl (fun ls hl => ?_)
  refine va_new (ci := 11) (fs := [.int 0, .int 0, .null, .null, .null, .null, .null, .null, .null, .null, .int 0, .null, .long 0, .int 0, .null, .int 0, .null, .int 0, .null, .null, .null, .null, .null, .null, .null, .null, .null, .int 0, .null, .null, .null, .null, .null, .null, .null, .null, .null]) (C := RX11) (T := TX11) (N := 37) hx hb hts (fun w h => lw_hT w (dm_u11 w h)) tyX11 tyX11_ok hown (hts _ (lw_hT _ (lw_wi _ (List.mem_of_getElem? (i := 20) rfl)))) (hts _ (lw_hT _ (lw_wi _ (List.mem_of_getElem? (i := 21) rfl)))) (hts _ (lw_hT _ (lw_wi _ (List.mem_of_getElem? (i := 22) rfl)))) hK hPC hDC1 hS hA rfl bl_X11 (Nat.le_of_ble_eq_true rfl) (Nat.le_of_ble_eq_true rfl) (ct_d vL0 4 rfl) (fun q1 H2 hP2 hD2 hS => ?_)
  obtain ⟨hPl, hPn, hDn, hne⟩ := lw_split hP2 hD2
  refine W.widen (k := 53) (n := 6949) (Nat.le_of_ble_eq_true rfl) (Nat.le_of_ble_eq_true rfl) ?_
  refine lv_dup hx hb (ct_d vL0 5 rfl) rfl ?_
  have hFn := va_free (wc := [(q1, .inr (11, [.int 0, .int 0, .null, .null, .null, .null, .null, .null, .null, .null, .int 0, .null, .long 0, .int 0, .null, .int 0, .null, .int 0, .null, .null, .null, .null, .null, .null, .null, .null, .null, .int 0, .null, .null, .null, .null, .null, .null, .null, .null, .null]))]) hDn hS hA [0] rfl
  refine va_callv (va_runI (As := []) (rest := [.ref q1]) ⟨hx, hb, hml, hown, hts⟩ (c_X11_init l D cA q1 H2.size) (cwI 0 hts (dm_goodIn lw_hT wg_X11_init) rfl rfl rfl (hts _ (lw_hT _ (lw_wi _ (List.mem_of_getElem? (i := 22) rfl)))) (hts _ (lw_hT _ (lw_wi _ (List.mem_of_getElem? (i := 23) rfl)))) (hts _ (lw_hT _ (lw_wi _ (List.mem_of_getElem? (i := 24) rfl)))) rfl (by decide +kernel) ⟨Nat.le_of_ble_eq_true rfl, Nat.le_of_ble_eq_true rfl⟩) ⟨fun a U g mk q => by obtain ⟨q0, q1, qP, qK, qD⟩ := q; exact ⟨q0, q1, qP, va_K.moved (u := U) (U := U.calling g mk a) (Vm.Alike.refl U.vm) qK, qD⟩, fun U hU hW => ⟨rfl, by rw [hU], by rw [hU]; exact hPn, va_K.moved hW.alike hK, hDn.weaken (fun _ _ _ _ => trivial)⟩⟩ rfl rfl hl.1 rfl (lv_room (Nat.le_of_ble_eq_true rfl)) (ct_d vL0 6 rfl) ⟨Nat.le_of_ble_eq_true rfl, Nat.le_of_ble_eq_true rfl⟩) hS (fun q _ h => hFn q h) hFn (fun _ t2 H3 locs ht2 hvm2 hw2 hB2 hz2 hk2 hS => ?_)
  obtain ⟨adM, e1, hPM, -, hDM⟩ := hB2
  rw [ht2] at hPM
  have hPC3 := lw_stays hPl hne hk2
  have hap := lw_apart hPl hne hDM
  have hDM1 : va_D (fun q : Nat => s.heap.size ≤ q) (dm_w adM cA shM m0) := hDM.weaken (fun k q _ h => hFn q.1 h)
  refine W.widen (k := 82) (n := 11860) (Nat.le_of_ble_eq_true rfl) (Nat.le_of_ble_eq_true rfl) ?_
  refine lv_astore_n (lv' := [(2, .ref q1), (1, .ref q0), (0, .ref b)]) hx hb (ct_d vL0 7 rfl) rfl hl (by decide) rfl (fun ls hl => ?_)
  refine lv_iconst (v := 0) hx hb (ct_d vL0 8 rfl) (by decide) ?_
  refine lv_istore_n (lv' := [(3, .int 0), (2, .ref q1), (1, .ref q0), (0, .ref b)]) hx hb (ct_d vL0 9 rfl) rfl hl (by decide) rfl (fun ls hl9 => ?_)
  subst e0
  subst e1
  have C1 : lw_W s D cA adC adM := ⟨hK, fun u => dm_D hDC1, fun v => dm_D hDM1, hap⟩
  exact lw_loop hL C0 C1 L 0 (by omega) (by omega) ls (lv_sub hl9 [3, 2, 1, 0] rfl) m0 m0 H3 locs Inv0 hPC3 hPM hS
