/-! ===== Paths: the search, in the cells ===== -/
def pj_fr (u u' : dm_S) : Prop := (∀ c, c ≠ 39 → c ≠ 40 → u'.1 c = u.1 c) ∧ ∀ c, c ≠ 38 → c ≠ 41 → u'.2 c = u.2 c
theorem pj_fr0 (u : dm_S) : pj_fr u u := ⟨fun _ _ _ => rfl, fun _ _ _ => rfl⟩
theorem pj_frt {u u' u'' : dm_S} (h : pj_fr u u') (h2 : pj_fr u' u'') : pj_fr u u'' := ⟨fun c a b => (h2.1 c a b).trans (h.1 c a b), fun c a b => (h2.2 c a b).trans (h.2 c a b)⟩
def ms_vn (dl : Int) (ex : Nat → Int) (v : Nat) : Option (Option Nat) := if dl ≤ ex v then some none else none
def ms_at (u : dm_S) (dl : Int) (ex : Nat → Int) (v : Nat) : Prop := u.1 40 v = cvn (ms_vn dl ex v) ∧ u.2 38 v = lI (if dl ≤ ex v then 0 else fAR) ∧ u.1 39 v = 0 ∧ u.2 41 v = lI (if dl ≤ ex v then ex v else 0)
def sp_X4_markSources (As : List Value) (u : dm_S) (Q : Option Value → dm_S → Prop) : Prop := match As with
  | [.ref 6, .long d] => ∃ (n : Nat) (ex : Nat → Int) (dl : Int), n ≤ 24 ∧ u.1 1 8 = nI n ∧ u.2 25 = lF ex ∧ (∀ v, v < n → lB (ex v)) ∧ lB dl ∧ d = lI dl ∧ ∀ u' : dm_S, pj_fr u u' → (∀ v, v < n → ms_at u' dl ex v) → Q none u'
  | _ => False
def p_X4_markSources : List dm_I := [(0, .iconst 0, 1, []), (1, .istore_n 3, 1, [3]), (2, .iload_n 3, 1, [3]), (3, .aload_n 0, 1, [0]), (4, .getfield 26, 3, []), (7, .getfield 95, 3, []), (10, .if_icmp .ge 96, 3, [106]), (13, .aload_n 0, 1, [0]), (14, .getfield 30, 3, []), (17, .getfield 79, 3, []), (20, .iload_n 3, 1, [3]), (21, .laload, 1, []), (22, .lload_n 1, 1, [1]), (23, .lcmp, 1, []), (24, .ifCond .lt 7, 3, [31]), (27, .iconst 1, 1, []), (28, .goto 4, 3, [32]), (31, .iconst 0, 1, []), (32, .istore 4, 2, []), (34, .aload_n 0, 1, [0]), (35, .getfield 15, 3, []), (38, .iload_n 3, 1, [3]), (39, .iconst 0, 1, []), (40, .bastore, 1, []), (41, .aload_n 0, 1, [0]), (42, .getfield 9, 3, []), (45, .iload_n 3, 1, [3]), (46, .iload 4, 2, []), (48, .ifCond .eq 7, 3, [55]), (51, .lconst 0, 1, []), (52, .goto 6, 3, [58]), (55, .ldc2_w 107, 3, []), (58, .lastore, 1, []), (59, .aload_n 0, 1, [0]), (60, .getfield 19, 3, []), (63, .iload_n 3, 1, [3]), (64, .iload 4, 2, []), (66, .ifCond .eq 7, 3, [73]), (69, .iconst (-1), 1, []), (70, .goto 5, 3, [75]), (73, .bipush (-2), 2, []), (75, .iastore, 1, []), (76, .aload_n 0, 1, [0]), (77, .getfield 23, 3, []), (80, .iload_n 3, 1, [3]), (81, .iload 4, 2, []), (83, .ifCond .eq 15, 3, [98]), (86, .aload_n 0, 1, [0]), (87, .getfield 30, 3, []), (90, .getfield 79, 3, []), (93, .iload_n 3, 1, [3]), (94, .laload, 1, []), (95, .goto 4, 3, [99]), (98, .lconst 0, 1, []), (99, .lastore, 1, []), (100, .iinc 3 1, 3, []), (103, .goto (-101), 3, [2]), (106, .return_, 1, [])]
set_option maxRecDepth 100000 in
theorem v_X4_markSources : p_X4_markSources.all (dm_vb cX4_markSources) = true := by decide +kernel
def k_X4_markSources : dm_Sp := fun a => match a with
  | _ => fun _ _ _ => False
def x_X4_markSources : dm_X := dm_mk [(9, 4, 3), (15, 4, 4), (19, 4, 5), (23, 4, 6), (26, 4, 0), (30, 4, 1), (79, 1, 7), (95, 2, 8)] [] [(107, 1152921504606846976)] [] 0
set_option maxRecDepth 100000 in
set_option maxHeartbeats 800000 in
theorem u_X4_markSources : dm_Pure shC x_X4_markSources k_X4_markSources p_X4_markSources 5 sp_X4_markSources := by
  intro As u Qp h
  unfold sp_X4_markSources at h
  split at h
  · obtain ⟨n, ex, dl, hn, en, e25, hB, hd, rfl, h⟩ := h
    refine ⟨Nat.le_of_ble_eq_true rfl, fun G Wp hW0 hW1 hG => ?_⟩
    have loop : ∀ k i : Nat, i + k = n → ∀ (u' : dm_S) (o4 : Option Value), pj_fr u u' → (∀ v, v < i → ms_at u' dl ex v) → G 2 [some (.ref 6), some (.long (lI dl)), none, some (.int (nI i)), o4] [] u' := by
      intro k
      induction k with
      | zero =>
        intro i hi u' o4 a1 a2
        have e : i = n := by omega
        subst e
        apply hG (fun pc => pc == 2) 60
        simp (config := { maxSteps := 2000000 }) [-Prod.forall, -Prod.exists, -exists_and_left, -exists_and_right, hW0, hW1, dm_fn, dm_fd, dm_x, dm_L0, dm_la, dm_t1, dm_sw, List.headD, dm_ic, dm_mk, dm_s1, dm_s2, dm_clr, dm_cs, dm_cc, dm_nb0, dm_nb1, Value.category, List.lookup, p_X4_markSources, x_X4_markSources, k_X4_markSources, dm_cm, upd, vp_updL, dm_ui_1, dm_ui_2, dm_ul_1, dm_ul_2, sC_0, sC_1, sC_2, sC_3, sC_4, sC_5, sC_6, sC_7, sC_8, sC_9, sC_10, sC_11, sC_12, sC_13, sC_14, sC_15, sC_16, sC_17, sC_18, sC_19, sC_20, sC_21, sC_22, sC_23, sC_24, sC_25, sC_26, sC_27, sC_28, sC_29, sC_30, sC_31, sC_32, sC_33, sC_34, sC_35, sC_36, sC_37, sC_38, sC_39, sC_40, sC_41, sC_42, sC_43, sC_44, sC_45, sC_46, sC_47, sC_48, sC_49, sC_50, sC_51]
        rw [a1.1 1 (by decide) (by decide), en]
        exact ⟨fun _ => h u' a1 a2, fun zq => absurd zq (nI_nlt (Nat.le_refl _) (by omega))⟩
      | succ k ih =>
        intro i hi u' o4 a1 a2
        have ci : (nI i).toNatClampNeg = i := nI_clamp (by omega)
        have ii : vp_in (nI i) 24 := vp_in_nI (by omega) (by omega)
        have step : ∀ (x : Int64) (y : Int32) (z : Int64) (o : Option Value), x = lI (if dl ≤ ex i then 0 else fAR) → y = cvn (ms_vn dl ex i) → z = lI (if dl ≤ ex i then ex i else 0) → G 2 [some (.ref 6), some (.long (lI dl)), none, some (.int (nI (i + 1))), o] [] (dm_ul (dm_ui (dm_ul (dm_ui u' 39 i 0) 38 i x) 40 i y) 41 i z) := by
          intro x y z o hx hy hz
          refine ih (i + 1) (by omega) _ _ ⟨fun c q1 q2 => ?_, fun c q1 q2 => ?_⟩ (fun v hv => ?_)
          · simp only [dm_ui_1, dm_ul_1, if_neg q1, if_neg q2]; exact a1.1 c q1 q2
          · simp only [dm_ui_2, dm_ul_2, if_neg q1, if_neg q2]; exact a1.2 c q1 q2
          · by_cases w : v = i
            · subst w
              unfold ms_at
              simp [dm_ui_1, dm_ul_1, dm_ui_2, dm_ul_2, upd, vp_updL, hx, hy, hz]
            · have := a2 v (by omega)
              unfold ms_at at this ⊢
              simp [dm_ui_1, dm_ul_1, dm_ui_2, dm_ul_2, upd, vp_updL, w]
              exact this
        apply hG (fun pc => pc == 2) 60
        simp (config := { maxSteps := 2000000 }) [-Prod.forall, -Prod.exists, -exists_and_left, -exists_and_right, hW0, hW1, dm_fn, dm_fd, dm_x, dm_L0, dm_la, dm_t1, dm_sw, List.headD, dm_ic, dm_mk, dm_s1, dm_s2, dm_clr, dm_cs, dm_cc, dm_nb0, dm_nb1, Value.category, List.lookup, p_X4_markSources, x_X4_markSources, k_X4_markSources, dm_cm, upd, vp_updL, dm_ui_1, dm_ui_2, dm_ul_1, dm_ul_2, sC_0, sC_1, sC_2, sC_3, sC_4, sC_5, sC_6, sC_7, sC_8, sC_9, sC_10, sC_11, sC_12, sC_13, sC_14, sC_15, sC_16, sC_17, sC_18, sC_19, sC_20, sC_21, sC_22, sC_23, sC_24, sC_25, sC_26, sC_27, sC_28, sC_29, sC_30, sC_31, sC_32, sC_33, sC_34, sC_35, sC_36, sC_37, sC_38, sC_39, sC_40, sC_41, sC_42, sC_43, sC_44, sC_45, sC_46, sC_47, sC_48, sC_49, sC_50, sC_51]
        rw [a1.1 1 (by decide) (by decide), en, a1.2 25 (by decide) (by decide), e25, ci, lF_at, nI_1]
        refine ⟨fun zq => absurd zq (nI_ge (by omega) (by omega)), fun zq => ⟨ii, fun y => ?_, fun y => ?_⟩⟩
        · have y2 : ¬ dl ≤ ex i := by
            have := (lI_lt (hB i (by omega)) hd).mp y; omega
          exact ⟨ii, step _ _ _ _ (by rw [if_neg y2]; rfl) (by unfold ms_vn; rw [if_neg y2]; rfl) (by rw [if_neg y2]; rfl)⟩
        · have y2 : dl ≤ ex i := (lI_le hd (hB i (by omega))).mp y
          exact ⟨ii, step _ _ _ _ (by rw [if_pos y2]; rfl) (by unfold ms_vn; rw [if_pos y2]; rfl) (by rw [if_pos y2])⟩
    apply hG (fun pc => pc == 2) 60
    simp (config := { maxSteps := 2000000 }) [-Prod.forall, -Prod.exists, -exists_and_left, -exists_and_right, hW0, hW1, dm_fn, dm_fd, dm_x, dm_L0, dm_la, dm_t1, dm_sw, List.headD, dm_ic, dm_mk, dm_s1, dm_s2, dm_clr, dm_cs, dm_cc, dm_nb0, dm_nb1, Value.category, List.lookup, p_X4_markSources, x_X4_markSources, k_X4_markSources, dm_cm, upd, vp_updL, dm_ui_1, dm_ui_2, dm_ul_1, dm_ul_2, sC_0, sC_1, sC_2, sC_3, sC_4, sC_5, sC_6, sC_7, sC_8, sC_9, sC_10, sC_11, sC_12, sC_13, sC_14, sC_15, sC_16, sC_17, sC_18, sC_19, sC_20, sC_21, sC_22, sC_23, sC_24, sC_25, sC_26, sC_27, sC_28, sC_29, sC_30, sC_31, sC_32, sC_33, sC_34, sC_35, sC_36, sC_37, sC_38, sC_39, sC_40, sC_41, sC_42, sC_43, sC_44, sC_45, sC_46, sC_47, sC_48, sC_49, sC_50, sC_51]
    exact loop n 0 (by omega) u _ (pj_fr0 u) (fun v hv => by omega)
  · exact h.elim
set_option maxRecDepth 100000 in
theorem t_X4_markSources (l : Launch) (D : va_G) (cA : Nat → ClassId) (ad : Nat → Nat) : dm_Met l D dm_cl cA ad shC yX4_markSources (Cond.code yX4_markSources cX4_markSources 5 (dm_rt 0) :: dm_tt) ({ frames := 0, cells := 0, slots := 0, locals := 0 } : Room) sp_X4_markSources := dm_meth (own := RX4) (X := x_X4_markSources) (Sp := k_X4_markSources) (prog := p_X4_markSources) (by decide +kernel) rfl rfl (dm_FO_s ffX4 [(9, 4, 3), (15, 4, 4), (19, 4, 5), (23, 4, 6), (26, 4, 0), (30, 4, 1), (79, 1, 7), (95, 2, 8)] rfl dm_hT (by decide +kernel)) (dm_IO_s ifX4 jfX4 [] [(107, 1152921504606846976)] rfl rfl dm_hT (by decide +kernel) (by decide +kernel)) soC (dm_MO_of (fun _ h => absurd h List.not_mem_nil)) v_X4_markSources u_X4_markSources
theorem lI_sh5 {z : Int} (h : 0 ≤ z ∧ z ≤ 4611686018427387904) : lI z >>> ((5 : Int64) &&& 63) = lI (z / 32) := by
  apply Int64.toInt_inj.mp
  rw [lI_ti (a := z / 32) (by omega)]
  show (lI z >>> ((5 : Int64) &&& 63)).toBitVec.toInt = z / 32
  rw [Int64.toBitVec_shiftRight]
  have e : (((5 : Int64) &&& 63).toBitVec.smod 64) = 5#64 := by decide
  rw [e]
  show ((lI z).toBitVec.sshiftRight (5#64).toNat).toInt = z / 32
  rw [BitVec.toInt_sshiftRight]
  have e2 : (lI z).toBitVec.toInt = z := lI_ti (by omega)
  rw [e2, show (5#64).toNat = 5 from rfl, Int.shiftRight_eq_div_pow]
  rfl
theorem lI_sh1 {z : Int} (h : 0 ≤ z ∧ z ≤ 4611686018427387904) : lI z >>> ((1 : Int64) &&& 63) = lI (z / 2) := by
  apply Int64.toInt_inj.mp
  rw [lI_ti (a := z / 2) (by omega)]
  show (lI z >>> ((1 : Int64) &&& 63)).toBitVec.toInt = z / 2
  rw [Int64.toBitVec_shiftRight]
  have e : (((1 : Int64) &&& 63).toBitVec.smod 64) = 1#64 := by decide
  rw [e]
  show ((lI z).toBitVec.sshiftRight (1#64).toNat).toInt = z / 2
  rw [BitVec.toInt_sshiftRight]
  have e2 : (lI z).toBitVec.toInt = z := lI_ti (by omega)
  rw [e2, show (1#64).toNat = 1 from rfl, Int.shiftRight_eq_div_pow]
  rfl
def sp_X4_raisePrices (As : List Value) (u : dm_S) (Q : Option Value → dm_S → Prop) : Prop := match As with
  | [.ref 6, .long d] => ∃ (n : Nat) (D p : Nat → Int) (m : Int), n ≤ 24 ∧ u.1 1 8 = nI n ∧ (∀ v, v < n → u.2 38 v = lI (D v) ∧ 0 ≤ D v ∧ D v ≤ 1152921504606846976) ∧ u.2 36 = lF p ∧ d = lI m ∧ lB m ∧ Q none (dm_sj u 36 (lF (fun v => if v < n then p v + mn2 (D v / 32) m else p v)))
  | _ => False
def p_X4_raisePrices : List dm_I := [(0, .iconst 0, 1, []), (1, .istore_n 3, 1, [3]), (2, .iload_n 3, 1, [3]), (3, .aload_n 0, 1, [0]), (4, .getfield 26, 3, []), (7, .getfield 95, 3, []), (10, .if_icmp .ge 30, 3, [40]), (13, .aload_n 0, 1, [0]), (14, .getfield 34, 3, []), (17, .iload_n 3, 1, [3]), (18, .dup2, 1, []), (19, .laload, 1, []), (20, .aload_n 0, 1, [0]), (21, .getfield 9, 3, []), (24, .iload_n 3, 1, [3]), (25, .laload, 1, []), (26, .iconst 5, 1, []), (27, .lshr, 1, []), (28, .lload_n 1, 1, [1]), (29, .invokestatic 82, 3, []), (32, .ladd, 1, []), (33, .lastore, 1, []), (34, .iinc 3 1, 3, []), (37, .goto (-35), 3, [2]), (40, .return_, 1, [])]
set_option maxRecDepth 100000 in
theorem v_X4_raisePrices : p_X4_raisePrices.all (dm_vb cX4_raisePrices) = true := by decide +kernel
def k_X4_raisePrices : dm_Sp := fun a => match a with
  | 0 => sp_J9_min_f86c9
  | _ => fun _ _ _ => False
def x_X4_raisePrices : dm_X := dm_mk [(9, 4, 3), (26, 4, 0), (34, 4, 2), (95, 2, 8)] [] [] [(82, 0, 2, 1000)] 0
set_option maxRecDepth 100000 in
set_option maxHeartbeats 800000 in
theorem u_X4_raisePrices : dm_Pure shC x_X4_raisePrices k_X4_raisePrices p_X4_raisePrices 4 sp_X4_raisePrices := by
  intro As u Qp h
  unfold sp_X4_raisePrices at h
  split at h
  · obtain ⟨n, D, p, m, hn, en, hD, e36, rfl, hm, h⟩ := h
    refine ⟨Nat.le_of_ble_eq_true rfl, fun G Wp hW0 hW1 hG => ?_⟩
    have loop : ∀ k i : Nat, i + k = n → G 2 [some (.ref 6), some (.long (lI m)), none, some (.int (nI i))] [] (dm_sj u 36 (lF (fun v => if v < i then p v + mn2 (D v / 32) m else p v))) := by
      intro k
      induction k with
      | zero =>
        intro i hi
        have e : i = n := by omega
        subst e
        apply hG (fun pc => pc == 2) 60
        simp (config := { maxSteps := 2000000 }) [-Prod.forall, -Prod.exists, -exists_and_left, -exists_and_right, hW0, hW1, dm_fn, dm_fd, dm_x, dm_L0, dm_la, dm_t1, dm_sw, List.headD, dm_ic, dm_mk, dm_s1, dm_s2, dm_clr, dm_cs, dm_cc, dm_nb0, dm_nb1, Value.category, List.lookup, p_X4_raisePrices, x_X4_raisePrices, k_X4_raisePrices, dm_cm, upd, vp_updL, dm_ui_1, dm_ui_2, dm_ul_1, dm_ul_2, sp_J9_min_f86c9, sC_0, sC_1, sC_2, sC_3, sC_4, sC_5, sC_6, sC_7, sC_8, sC_9, sC_10, sC_11, sC_12, sC_13, sC_14, sC_15, sC_16, sC_17, sC_18, sC_19, sC_20, sC_21, sC_22, sC_23, sC_24, sC_25, sC_26, sC_27, sC_28, sC_29, sC_30, sC_31, sC_32, sC_33, sC_34, sC_35, sC_36, sC_37, sC_38, sC_39, sC_40, sC_41, sC_42, sC_43, sC_44, sC_45, sC_46, sC_47, sC_48, sC_49, sC_50, sC_51]
        rw [dm_sj_1, en]
        exact ⟨fun _ => h, fun zq => absurd zq (nI_nlt (Nat.le_refl _) (by omega))⟩
      | succ k ih =>
        intro i hi
        have ci : (nI i).toNatClampNeg = i := nI_clamp (by omega)
        have ii : vp_in (nI i) 24 := vp_in_nI (by omega) (by omega)
        apply hG (fun pc => pc == 2) 60
        simp (config := { maxSteps := 2000000 }) [-Prod.forall, -Prod.exists, -exists_and_left, -exists_and_right, hW0, hW1, dm_fn, dm_fd, dm_x, dm_L0, dm_la, dm_t1, dm_sw, List.headD, dm_ic, dm_mk, dm_s1, dm_s2, dm_clr, dm_cs, dm_cc, dm_nb0, dm_nb1, Value.category, List.lookup, p_X4_raisePrices, x_X4_raisePrices, k_X4_raisePrices, dm_cm, upd, vp_updL, dm_ui_1, dm_ui_2, dm_ul_1, dm_ul_2, sp_J9_min_f86c9, sC_0, sC_1, sC_2, sC_3, sC_4, sC_5, sC_6, sC_7, sC_8, sC_9, sC_10, sC_11, sC_12, sC_13, sC_14, sC_15, sC_16, sC_17, sC_18, sC_19, sC_20, sC_21, sC_22, sC_23, sC_24, sC_25, sC_26, sC_27, sC_28, sC_29, sC_30, sC_31, sC_32, sC_33, sC_34, sC_35, sC_36, sC_37, sC_38, sC_39, sC_40, sC_41, sC_42, sC_43, sC_44, sC_45, sC_46, sC_47, sC_48, sC_49, sC_50, sC_51]
        obtain ⟨d1, d2, d3⟩ := hD i (by omega)
        have e38 : (dm_sj u 36 (lF fun v => if v < i then p v + mn2 (D v / 32) m else p v)).2 38 i = lI (D i) := d1
        have e36' : (dm_sj u 36 (lF fun v => if v < i then p v + mn2 (D v / 32) m else p v)).2 36 i = lI (p i) := by
          show lI (if i < i then p i + mn2 (D i / 32) m else p i) = lI (p i)
          rw [if_neg (by omega)]
        rw [dm_sj_1, en, ci, nI_1, e38, e36', lI_sh5 (by omega), lI_min (by unfold lB; omega) hm, lI_add, dm_sj_u, lF_upd]
        refine ⟨fun zq => absurd zq (nI_ge (by omega) (by omega)), fun zq => ⟨ii, ?_⟩⟩
        have e9 : uI (fun v => if v < i then p v + mn2 (D v / 32) m else p v) i (p i + if D i / 32 ≤ m then D i / 32 else m) = fun v => if v < i + 1 then p v + mn2 (D v / 32) m else p v := by
          funext v
          unfold uI
          by_cases y : v = i
          · rw [if_pos y, if_pos (show v < i + 1 by omega), y]; rfl
          · rw [if_neg y]
            show (if v < i then p v + mn2 (D v / 32) m else p v) = if v < i + 1 then p v + mn2 (D v / 32) m else p v
            by_cases y2 : v < i
            · rw [if_pos y2, if_pos (show v < i + 1 by omega)]
            · rw [if_neg y2, if_neg (show ¬ v < i + 1 by omega)]
        rw [e9]
        exact ih (i + 1) (by omega)
    apply hG (fun pc => pc == 2) 60
    simp (config := { maxSteps := 2000000 }) [-Prod.forall, -Prod.exists, -exists_and_left, -exists_and_right, hW0, hW1, dm_fn, dm_fd, dm_x, dm_L0, dm_la, dm_t1, dm_sw, List.headD, dm_ic, dm_mk, dm_s1, dm_s2, dm_clr, dm_cs, dm_cc, dm_nb0, dm_nb1, Value.category, List.lookup, p_X4_raisePrices, x_X4_raisePrices, k_X4_raisePrices, dm_cm, upd, vp_updL, dm_ui_1, dm_ui_2, dm_ul_1, dm_ul_2, sp_J9_min_f86c9, sC_0, sC_1, sC_2, sC_3, sC_4, sC_5, sC_6, sC_7, sC_8, sC_9, sC_10, sC_11, sC_12, sC_13, sC_14, sC_15, sC_16, sC_17, sC_18, sC_19, sC_20, sC_21, sC_22, sC_23, sC_24, sC_25, sC_26, sC_27, sC_28, sC_29, sC_30, sC_31, sC_32, sC_33, sC_34, sC_35, sC_36, sC_37, sC_38, sC_39, sC_40, sC_41, sC_42, sC_43, sC_44, sC_45, sC_46, sC_47, sC_48, sC_49, sC_50, sC_51]
    have := loop n 0 (by omega)
    have e0 : lF (fun v => if v < 0 then p v + mn2 (D v / 32) m else p v) = u.2 36 := by
      rw [e36]
      congr 1
    rw [e0, dm_sj_self] at this
    exact this
  · exact h.elim
set_option maxRecDepth 100000 in
theorem t_X4_raisePrices (l : Launch) (D : va_G) (cA : Nat → ClassId) (ad : Nat → Nat) : dm_Met l D dm_cl cA ad shC yX4_raisePrices (Cond.code yX4_raisePrices cX4_raisePrices 4 (dm_rt 0) :: dm_tt) ({ frames := 1, cells := 0, slots := 0, locals := 23 } : Room) sp_X4_raisePrices := dm_meth (own := RX4) (X := x_X4_raisePrices) (Sp := k_X4_raisePrices) (prog := p_X4_raisePrices) (by decide +kernel) rfl rfl (dm_FO_s ffX4 [(9, 4, 3), (26, 4, 0), (34, 4, 2), (95, 2, 8)] rfl dm_hT (by decide +kernel)) (dm_IO_s ifX4 jfX4 [] [] rfl rfl dm_hT (by decide +kernel) (by decide +kernel)) soC (dm_MO_of (List.forall_mem_cons.mpr ⟨dm_M1_of (t_J9_min_f86c9 l D cA ad) dm_hT (dm_mem [621, 79, 781] (by decide +kernel) (by decide +kernel)) (by decide) (by decide +kernel) (Or.inl ⟨rfl, dm_mem (ws := [.static yJ9_min_f86c9]) [620] (by decide +kernel) (by decide +kernel) _ List.mem_cons_self⟩), fun _ h => absurd h List.not_mem_nil⟩)) v_X4_raisePrices u_X4_raisePrices
def sp_X4_nearestNotDone (As : List Value) (u : dm_S) (Q : Option Value → dm_S → Prop) : Prop := match As with
  | [.ref 6] => ∃ (n : Nat) (D : Nat → Int) (dn : Nat → Bool), n ≤ 24 ∧ u.1 1 8 = nI n ∧ (∀ v, v < n → u.2 38 v = lI (D v) ∧ lB (D v) ∧ u.1 39 v = if dn v then 1 else 0) ∧ ((∀ v, v < n → dn v = false → fAR ≤ D v) → Q (some (.int (-1))) u) ∧ ∀ v, v < n → dn v = false → D v < fAR → (∀ x, x < n → dn x = false → D v ≤ D x) → Q (some (.int (nI v))) u
  | _ => False
def p_X4_nearestNotDone : List dm_I := [(0, .iconst (-1), 1, []), (1, .istore_n 1, 1, [1]), (2, .ldc2_w 107, 3, []), (5, .lstore_n 2, 1, [2]), (6, .iconst 0, 1, []), (7, .istore 4, 2, []), (9, .iload 4, 2, []), (11, .aload_n 0, 1, [0]), (12, .getfield 26, 3, []), (15, .getfield 95, 3, []), (18, .if_icmp .ge 42, 3, [60]), (21, .aload_n 0, 1, [0]), (22, .getfield 15, 3, []), (25, .iload 4, 2, []), (27, .baload, 1, []), (28, .ifCond .ne 26, 3, [54]), (31, .aload_n 0, 1, [0]), (32, .getfield 9, 3, []), (35, .iload 4, 2, []), (37, .laload, 1, []), (38, .lload_n 2, 1, [2]), (39, .lcmp, 1, []), (40, .ifCond .ge 14, 3, [54]), (43, .iload 4, 2, []), (45, .istore_n 1, 1, [1]), (46, .aload_n 0, 1, [0]), (47, .getfield 9, 3, []), (50, .iload 4, 2, []), (52, .laload, 1, []), (53, .lstore_n 2, 1, [2]), (54, .iinc 4 1, 3, []), (57, .goto (-48), 3, [9]), (60, .iload_n 1, 1, [1]), (61, .ireturn, 1, [])]
set_option maxRecDepth 100000 in
theorem v_X4_nearestNotDone : p_X4_nearestNotDone.all (dm_vb cX4_nearestNotDone) = true := by decide +kernel
def k_X4_nearestNotDone : dm_Sp := fun a => match a with
  | _ => fun _ _ _ => False
def x_X4_nearestNotDone : dm_X := dm_mk [(9, 4, 3), (15, 4, 4), (26, 4, 0), (95, 2, 8)] [] [(107, 1152921504606846976)] [] 1
set_option maxRecDepth 100000 in
set_option maxHeartbeats 800000 in
theorem u_X4_nearestNotDone : dm_Pure shC x_X4_nearestNotDone k_X4_nearestNotDone p_X4_nearestNotDone 5 sp_X4_nearestNotDone := by
  intro As u Qp h
  unfold sp_X4_nearestNotDone at h
  split at h
  · obtain ⟨n, D, dn, hn, en, hD, h1, h2⟩ := h
    have hF : lB fAR := by unfold lB fAR; omega
    refine ⟨Nat.le_of_ble_eq_true rfl, fun G Wp hW0 hW1 hG => ?_⟩
    have loop : ∀ k i : Nat, i + k = n → ∀ (x : Int32) (y : Int), ((x = -1 ∧ y = fAR ∧ ∀ v, v < i → dn v = false → fAR ≤ D v) ∨ ∃ v, v < i ∧ x = nI v ∧ y = D v ∧ dn v = false ∧ D v < fAR ∧ ∀ z, z < i → dn z = false → D v ≤ D z) → G 9 [some (.ref 6), some (.int x), some (.long (lI y)), none, some (.int (nI i))] [] u := by
      intro k
      induction k with
      | zero =>
        intro i hi x y hxy
        have e : i = n := by omega
        subst e
        apply hG (fun pc => pc == 9) 60
        simp (config := { maxSteps := 2000000 }) [-Prod.forall, -Prod.exists, -exists_and_left, -exists_and_right, hW0, hW1, dm_fn, dm_fd, dm_x, dm_L0, dm_la, dm_t1, dm_sw, List.headD, dm_ic, dm_mk, dm_s1, dm_s2, dm_clr, dm_cs, dm_cc, dm_nb0, dm_nb1, Value.category, List.lookup, p_X4_nearestNotDone, x_X4_nearestNotDone, k_X4_nearestNotDone, dm_cm, upd, vp_updL, dm_ui_1, dm_ui_2, dm_ul_1, dm_ul_2, sC_0, sC_1, sC_2, sC_3, sC_4, sC_5, sC_6, sC_7, sC_8, sC_9, sC_10, sC_11, sC_12, sC_13, sC_14, sC_15, sC_16, sC_17, sC_18, sC_19, sC_20, sC_21, sC_22, sC_23, sC_24, sC_25, sC_26, sC_27, sC_28, sC_29, sC_30, sC_31, sC_32, sC_33, sC_34, sC_35, sC_36, sC_37, sC_38, sC_39, sC_40, sC_41, sC_42, sC_43, sC_44, sC_45, sC_46, sC_47, sC_48, sC_49, sC_50, sC_51]
        rw [en]
        refine ⟨fun _ => ?_, fun zq => absurd zq (nI_nlt (Nat.le_refl _) (by omega))⟩
        rcases hxy with ⟨rfl, _, q⟩ | ⟨v, q1, rfl, q3, q4, q5, q6⟩
        · exact h1 q
        · exact h2 v q1 q4 q5 q6
      | succ k ih =>
        intro i hi x y hxy
        have ci : (nI i).toNatClampNeg = i := nI_clamp (by omega)
        have ii : vp_in (nI i) 24 := vp_in_nI (by omega) (by omega)
        obtain ⟨d1, d2, d3⟩ := hD i (by omega)
        have hBy : lB y := by
          rcases hxy with ⟨_, q, _⟩ | ⟨v, q1, _, q3, _⟩
          · rw [q]; exact hF
          · rw [q3]; exact (hD v (by omega)).2.1
        apply hG (fun pc => pc == 9) 60
        simp (config := { maxSteps := 2000000 }) [-Prod.forall, -Prod.exists, -exists_and_left, -exists_and_right, hW0, hW1, dm_fn, dm_fd, dm_x, dm_L0, dm_la, dm_t1, dm_sw, List.headD, dm_ic, dm_mk, dm_s1, dm_s2, dm_clr, dm_cs, dm_cc, dm_nb0, dm_nb1, Value.category, List.lookup, p_X4_nearestNotDone, x_X4_nearestNotDone, k_X4_nearestNotDone, dm_cm, upd, vp_updL, dm_ui_1, dm_ui_2, dm_ul_1, dm_ul_2, sC_0, sC_1, sC_2, sC_3, sC_4, sC_5, sC_6, sC_7, sC_8, sC_9, sC_10, sC_11, sC_12, sC_13, sC_14, sC_15, sC_16, sC_17, sC_18, sC_19, sC_20, sC_21, sC_22, sC_23, sC_24, sC_25, sC_26, sC_27, sC_28, sC_29, sC_30, sC_31, sC_32, sC_33, sC_34, sC_35, sC_36, sC_37, sC_38, sC_39, sC_40, sC_41, sC_42, sC_43, sC_44, sC_45, sC_46, sC_47, sC_48, sC_49, sC_50, sC_51]
        rw [en, ci, d1, d3, nI_1]
        have keep : (dn i = false → y ≤ D i) → G 9 [some (.ref 6), some (.int x), some (.long (lI y)), none, some (.int (nI (i + 1)))] [] u := by
          intro hk
          refine ih (i + 1) (by omega) x y ?_
          rcases hxy with ⟨q1, q2, q3⟩ | ⟨v, q1, q2, q3, q4, q5, q6⟩
          · refine Or.inl ⟨q1, q2, fun v hv hd => ?_⟩
            rcases Nat.lt_or_ge v i with z | z
            · exact q3 v z hd
            · rw [show v = i by omega] at hd ⊢; rw [← q2]; exact hk hd
          · refine Or.inr ⟨v, by omega, q2, q3, q4, q5, fun z hz hd => ?_⟩
            rcases Nat.lt_or_ge z i with z' | z'
            · exact q6 z z' hd
            · rw [show z = i by omega] at hd ⊢; rw [← q3]; exact hk hd
        refine ⟨fun zq => absurd zq (nI_ge (by omega) (by omega)), fun zq => ⟨ii, fun z => keep (fun q => ?_), fun z => ⟨ii, fun z2 => keep (fun _ => (lI_le hBy d2).mp z2), fun z2 => ⟨ii, ?_⟩⟩⟩⟩
        · rw [q] at z; exact absurd rfl z
        · have z3 : dn i = false := by
            cases q : dn i
            · rfl
            · rw [q] at z; cases z
          have z4 := (lI_lt d2 hBy).mp z2
          refine ih (i + 1) (by omega) (nI i) (D i) (Or.inr ⟨i, by omega, rfl, rfl, z3, ?_, fun v hv hd => ?_⟩)
          · rcases hxy with ⟨_, q2, _⟩ | ⟨v, _, _, q3, _, q5, _⟩ <;> omega
          · rcases Nat.lt_or_ge v i with w | w
            · rcases hxy with ⟨_, q2, q3⟩ | ⟨v', _, _, q3, _, q5, q6⟩
              · have := q3 v w hd; omega
              · have := q6 v w hd; omega
            · rw [show v = i by omega]; exact Int.le_refl _
    apply hG (fun pc => pc == 9) 60
    simp (config := { maxSteps := 2000000 }) [-Prod.forall, -Prod.exists, -exists_and_left, -exists_and_right, hW0, hW1, dm_fn, dm_fd, dm_x, dm_L0, dm_la, dm_t1, dm_sw, List.headD, dm_ic, dm_mk, dm_s1, dm_s2, dm_clr, dm_cs, dm_cc, dm_nb0, dm_nb1, Value.category, List.lookup, p_X4_nearestNotDone, x_X4_nearestNotDone, k_X4_nearestNotDone, dm_cm, upd, vp_updL, dm_ui_1, dm_ui_2, dm_ul_1, dm_ul_2, sC_0, sC_1, sC_2, sC_3, sC_4, sC_5, sC_6, sC_7, sC_8, sC_9, sC_10, sC_11, sC_12, sC_13, sC_14, sC_15, sC_16, sC_17, sC_18, sC_19, sC_20, sC_21, sC_22, sC_23, sC_24, sC_25, sC_26, sC_27, sC_28, sC_29, sC_30, sC_31, sC_32, sC_33, sC_34, sC_35, sC_36, sC_37, sC_38, sC_39, sC_40, sC_41, sC_42, sC_43, sC_44, sC_45, sC_46, sC_47, sC_48, sC_49, sC_50, sC_51]
    exact loop n 0 (by omega) (-1) fAR (Or.inl ⟨rfl, rfl, fun v hv => by omega⟩)
  · exact h.elim
set_option maxRecDepth 100000 in
theorem t_X4_nearestNotDone (l : Launch) (D : va_G) (cA : Nat → ClassId) (ad : Nat → Nat) : dm_Met l D dm_cl cA ad shC yX4_nearestNotDone (Cond.code yX4_nearestNotDone cX4_nearestNotDone 5 (dm_rt 1) :: dm_tt) ({ frames := 0, cells := 0, slots := 0, locals := 0 } : Room) sp_X4_nearestNotDone := dm_meth (own := RX4) (X := x_X4_nearestNotDone) (Sp := k_X4_nearestNotDone) (prog := p_X4_nearestNotDone) (by decide +kernel) rfl rfl (dm_FO_s ffX4 [(9, 4, 3), (15, 4, 4), (26, 4, 0), (95, 2, 8)] rfl dm_hT (by decide +kernel)) (dm_IO_s ifX4 jfX4 [] [(107, 1152921504606846976)] rfl rfl dm_hT (by decide +kernel) (by decide +kernel)) soC (dm_MO_of (fun _ h => absurd h List.not_mem_nil)) v_X4_nearestNotDone u_X4_nearestNotDone
