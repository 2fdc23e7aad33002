/-- what span and keeps need of the state, an ARC a given -/
def sp_lim (u : dm_S) (x : Int32) (N M : Nat) (fr tr pt : Nat → Nat) (C : Nat) (nb bg en : Nat → Nat) (a p : Nat) : Prop := cn_ok u N M fr tr pt ∧ wg_ok u C nb bg en ∧ (a < M ∧ x = nI a) ∧ (p < 320 ∧ u.1 19 a = nI p)
def lm_lo (u : dm_S) (N : Nat) (fr tr : Nat → Nat) (C : Nat) (nb bg en : Nat → Nat) (a p : Nat) : Int64 := if wg_ds u N C nb bg en (nI p) (tr a) (fr a) = 1152921504606846976 then -1000000002 else -wg_ds u N C nb bg en (nI p) (tr a) (fr a)
def lm_hi (u : dm_S) (N : Nat) (fr tr : Nat → Nat) (C : Nat) (nb bg en : Nat → Nat) (a p : Nat) : Int64 := if wg_ds u N C nb bg en (nI p) (fr a) (tr a) = 1152921504606846976 then -1000000002 else wg_ds u N C nb bg en (nI p) (fr a) (tr a)
def sp_X10_span (As : List Value) (u : dm_S) (Q : Option Value → dm_S → Prop) : Prop := match As with
  | [.ref 0, .int x, .int y] => (0 ≤ x ∧ x < u.1 1 9 → vp_in x 80) ∧ ((u.1 0 10 = 0 ∧ (0 ≤ x ∧ x < u.1 1 9) ∧ u.1 16 x.toNatClampNeg = 1 ∧ 0 ≤ y ∧ y ≤ 1) → ∃ (N M : Nat) (fr tr pt : Nat → Nat) (C : Nat) (nb bg en : Nat → Nat) (a p : Nat), sp_lim u x N M fr tr pt C nb bg en a p ∧ (y = 0 → (lw_m u (2 * p) = 0 → Q (some (.long (-1000000002))) u) ∧ (¬ lw_m u (2 * p) = 0 → Q (some (.long (lm_lo u N fr tr C nb bg en a p))) (dm_sj u 37 (wg_ds u N C nb bg en (nI p) (tr a))))) ∧ (¬ y = 0 → (lw_m u (2 * p + 1) = 0 → Q (some (.long (-1000000002))) u) ∧ (¬ lw_m u (2 * p + 1) = 0 → Q (some (.long (lm_hi u N fr tr C nb bg en a p))) (dm_sj u 37 (wg_ds u N C nb bg en (nI p) (fr a)))))) ∧ (¬ (u.1 0 10 = 0 ∧ (0 ≤ x ∧ x < u.1 1 9) ∧ u.1 16 x.toNatClampNeg = 1 ∧ 0 ≤ y ∧ y ≤ 1) → Q (some (.long (-1000000001))) u)
  | _ => False
def p_X10_span : List dm_I := [(0, .aload_n 0, 1, [0]), (1, .getfield 91, 3, []), (4, .ifCond .ne 23, 3, [27]), (7, .aload_n 0, 1, [0]), (8, .getfield 12, 3, []), (11, .iload_n 1, 1, [1]), (12, .invokevirtual 140, 3, []), (15, .ifCond .eq 12, 3, [27]), (18, .iload_n 2, 1, [2]), (19, .ifCond .lt 8, 3, [27]), (22, .iload_n 2, 1, [2]), (23, .iconst 1, 1, []), (24, .if_icmp .le 7, 3, [31]), (27, .ldc2_w 179, 3, []), (30, .lreturn, 1, []), (31, .iload_n 2, 1, [2]), (32, .ifCond .ne 14, 3, [46]), (35, .aload_n 0, 1, [0]), (36, .getfield 46, 3, []), (39, .iload_n 1, 1, [1]), (40, .invokevirtual 181, 3, []), (43, .goto 11, 3, [54]), (46, .aload_n 0, 1, [0]), (47, .getfield 46, 3, []), (50, .iload_n 1, 1, [1]), (51, .invokevirtual 184, 3, []), (54, .lreturn, 1, [])]
set_option maxRecDepth 100000 in
theorem v_X10_span : p_X10_span.all (dm_vb cX10_span) = true := by decide +kernel
def k_X10_span : dm_Sp := fun a => match a with
  | 0 => sp_X2_isPlain
  | 1 => sp_X5_leastRate
  | 2 => sp_X5_greatestRate
  | _ => fun _ _ _ => False
def x_X10_span : dm_X := dm_mk [(12, 10, 0), (46, 10, 4), (91, 10, 10)] [] [(179, -1000000001)] [(140, 0, 1, 2), (181, 1, 1, 5), (184, 2, 1, 5)] 2
set_option maxRecDepth 100000 in
set_option maxHeartbeats 400000 in
theorem u_X10_span : dm_Pure shC x_X10_span k_X10_span p_X10_span 3 sp_X10_span := by
  intro As u Qp h
  unfold sp_X10_span at h
  split at h
  · refine ⟨Nat.le_of_ble_eq_true rfl, fun G Wp hW0 hW1 hG => ?_⟩
    apply hG (fun _ => false) 28
    simp (config := { maxSteps := 2000000 }) [hW0, hW1, dm_fn, dm_fd, dm_x, dm_L0, dm_la, dm_t1, dm_sw, List.headD, dm_ic, dm_mk, dm_s1, dm_s2, dm_clr, dm_cs, dm_cc, dm_nb0, dm_nb1, Value.category, List.lookup, p_X10_span, x_X10_span, k_X10_span, dm_cm, upd, vp_updL, dm_ui_1, dm_ui_2, dm_ul_1, dm_ul_2, sp_X2_isPlain, sp_X5_leastRate, sp_X5_greatestRate, sC_0, sC_1, sC_2, sC_3, sC_4, sC_5, sC_6, sC_7, sC_8, sC_9, sC_10, sC_11, sC_12, sC_13, sC_14, sC_15, sC_16, sC_17, sC_18, sC_19, sC_20, sC_21, sC_22, sC_23, sC_24, sC_25, sC_26, sC_27, sC_28, sC_29, sC_30, sC_31, sC_32, sC_33, sC_34, sC_35, sC_36, sC_37, sC_38, sC_39, sC_40, sC_41, sC_42, sC_43, sC_44, sC_45, sC_46, sC_47, sC_48, sC_49, sC_50, sC_51]
    obtain ⟨h0, h1, h2⟩ := h
    refine ⟨fun q => h2 (fun z => q z.1), fun q => ⟨fun a1 a2 => h0 ⟨a1, a2⟩, fun q1 => h2 (fun z => q1 z.2.1.1 z.2.1.2 z.2.2.1), fun a1 a2 a3 => ⟨fun q1 => h2 (fun z => dm_i_le.mpr q1 z.2.2.2.1), fun y1 => ⟨fun y2 => ?_, fun q1 => h2 (fun z => dm_i_le.mpr q1 z.2.2.2.2)⟩⟩⟩⟩
    obtain ⟨N, M, fr, tr, pt, C, nb, bg, en, a, p, ⟨g1, g2, g3, g4⟩, g5, g6⟩ := h1 ⟨q, ⟨a1, a2⟩, a3, y1, y2⟩
    clear h1 h2 h0 hG hW0 hW1
    refine ⟨fun z => ?_, fun z => ?_⟩
    · refine ⟨N, M, fr, tr, ⟨pt, g1⟩, C, nb, bg, en, g2, a, g3, p, g4, ?_⟩
      exact (g6 z)
    · refine ⟨N, M, fr, tr, ⟨pt, g1⟩, C, nb, bg, en, g2, a, g3, p, g4, ?_⟩
      exact (g5 z)
  · exact h.elim
set_option maxRecDepth 100000 in
theorem t_X10_span (l : Launch) (D : va_G) (cA : Nat → ClassId) (ad : Nat → Nat) : dm_Met l D dm_cl cA ad shC yX10_span (Cond.code yX10_span cX10_span 3 (dm_rt 2) :: dm_tt) ({ frames := 4, cells := 0, slots := 0, locals := 96 } : Room) sp_X10_span := dm_meth (own := RX10) (X := x_X10_span) (Sp := k_X10_span) (prog := p_X10_span) (by decide +kernel) rfl rfl (dm_FO_s ffX10 [(12, 10, 0), (46, 10, 4), (91, 10, 10)] rfl dm_hT (by decide +kernel)) (dm_IO_s ifX10 jfX10 [] [(179, -1000000001)] rfl rfl dm_hT (by decide +kernel) (by decide +kernel)) soC (dm_MO_of (List.forall_mem_cons.mpr ⟨dm_M1_of (t_X2_isPlain l D cA ad) dm_hT (dm_mem [529, 67, 526] (by decide +kernel) (by decide +kernel)) (by decide) (by decide +kernel) (Or.inr ⟨by decide, dm_mem [527, 528] (by decide +kernel) (by decide +kernel), rfl⟩), List.forall_mem_cons.mpr ⟨dm_M1_of (t_X5_leastRate l D cA ad) dm_hT (dm_mem [864, 71, 861] (by decide +kernel) (by decide +kernel)) (by decide) (by decide +kernel) (Or.inr ⟨by decide, dm_mem [862, 863] (by decide +kernel) (by decide +kernel), rfl⟩), List.forall_mem_cons.mpr ⟨dm_M1_of (t_X5_greatestRate l D cA ad) dm_hT (dm_mem [874, 71, 871] (by decide +kernel) (by decide +kernel)) (by decide) (by decide +kernel) (Or.inr ⟨by decide, dm_mem [872, 873] (by decide +kernel) (by decide +kernel), rfl⟩), fun _ h => absurd h List.not_mem_nil⟩⟩⟩)) v_X10_span u_X10_span
