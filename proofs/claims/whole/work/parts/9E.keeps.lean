/-! ===== the reference: keeps ===== -/
def lm0 (A : AN) (f V : Nat → Int) (a : Nat) : Int := if A.yo f (2 * a) = true ∧ V (A.fr a) ≠ fAR then -V (A.fr a) else -1000000002
def lm1 (A : AN) (f V : Nat → Int) (a : Nat) : Int := if A.yo f (2 * a + 1) = true ∧ V (A.tr a) ≠ fAR then V (A.tr a) else -1000000002
def kpr (p q c : Int64) : Prop := (p = -1000000002 ∨ p ≤ c) ∧ (q = -1000000002 ∨ c ≤ q)
theorem ds_ok_fr {u u' : dm_S} {A : AN} {f U : Nat → Int} {bt : Int32} (h : ds_ok u A f U bt) (hf : ds_fr u u') : ds_ok u' A f U bt := ⟨h.1, MR_fr h.2.1 (ds_mn hf), fun a ha => by rw [hf.2 9 (by decide)]; exact h.2.2.1 a ha, h.2.2.2⟩
theorem ds_V {u : dm_S} {A : AN} {f U V : Nat → Int} {bt s : Int32} (h : ds_ok u A f U bt) (hI : dI A.n (2 * A.M) (wb A.fr A.tr) (we A.fr A.tr) (A.yc f) (yn A f bt) (ys s) V) (hR : dR (2 * A.M) (wb A.fr A.tr) (we A.fr A.tr) (A.yc f) (yn A f bt) V) {v : Nat} (hv : v < A.n) : V v = fAR ∨ (-24000000 ≤ V v ∧ V v ≤ 24000000) := by
  obtain ⟨hA, -, -, -, hU⟩ := h
  have l1 := dI_lo hA.1.1 (AN.dFy hA) hU ys_0 hI v hv
  have l2 := dB_up hA.1.1 (AN.dFy hA) ys_0 hI hR v hv
  rcases l2 with y | y
  · exact Or.inl y
  · exact Or.inr ⟨l1, y⟩
def sp_X11_keeps (As : List Value) (u : dm_S) (Q : Option Value → dm_S → Prop) : Prop := match As with
  | [.ref 0, .int x, .long c] => (0 ≤ x → x < u.1 0 1 → vp_in x 80) ∧ (¬ (u.1 0 10 = 0 ∧ (0 ≤ x ∧ x < u.1 0 1) ∧ u.1 6 x.toNatClampNeg ≤ 0) → Q (some (.int 0)) u) ∧ (u.1 0 10 = 0 ∧ (0 ≤ x ∧ x < u.1 0 1) ∧ u.1 6 x.toNatClampNeg ≤ 0 → ∃ (A : AN) (f U : Nat → Int) (a : Nat), ds_ok u A f U x ∧ (a < A.M ∧ x = nI a) ∧ ∀ (u' : dm_S) (V W : Nat → Int), ds_fr u u' → dI A.n (2 * A.M) (wb A.fr A.tr) (we A.fr A.tr) (A.yc f) (yn A f x) (ys (nI (A.tr a))) V → dR (2 * A.M) (wb A.fr A.tr) (we A.fr A.tr) (A.yc f) (yn A f x) V → dI A.n (2 * A.M) (wb A.fr A.tr) (we A.fr A.tr) (A.yc f) (yn A f x) (ys (nI (A.fr a))) W → dR (2 * A.M) (wb A.fr A.tr) (we A.fr A.tr) (A.yc f) (yn A f x) W → (kpr (lI (lm0 A f V a)) (lI (lm1 A f W a)) c → Q (some (.int 1)) u') ∧ (¬ kpr (lI (lm0 A f V a)) (lI (lm1 A f W a)) c → Q (some (.int 0)) u'))
  | _ => False
def p_X11_keeps : List dm_I := [(0, .aload_n 0, 1, [0]), (1, .iload_n 1, 1, [1]), (2, .iconst 0, 1, []), (3, .invokevirtual 235, 3, []), (6, .lstore 4, 2, []), (8, .lload 4, 2, []), (10, .ldc2_w 231, 3, []), (13, .lcmp, 1, []), (14, .ifCond .ne 5, 3, [19]), (17, .iconst 0, 1, []), (18, .ireturn, 1, []), (19, .aload_n 0, 1, [0]), (20, .iload_n 1, 1, [1]), (21, .iconst 1, 1, []), (22, .invokevirtual 235, 3, []), (25, .lstore 6, 2, []), (27, .lload 4, 2, []), (29, .ldc2_w 233, 3, []), (32, .lcmp, 1, []), (33, .ifCond .eq 10, 3, [43]), (36, .lload_n 2, 1, [2]), (37, .lload 4, 2, []), (39, .lcmp, 1, []), (40, .ifCond .lt 23, 3, [63]), (43, .lload 6, 2, []), (45, .ldc2_w 233, 3, []), (48, .lcmp, 1, []), (49, .ifCond .eq 10, 3, [59]), (52, .lload_n 2, 1, [2]), (53, .lload 6, 2, []), (55, .lcmp, 1, []), (56, .ifCond .gt 7, 3, [63]), (59, .iconst 1, 1, []), (60, .goto 4, 3, [64]), (63, .iconst 0, 1, []), (64, .ireturn, 1, [])]
set_option maxRecDepth 100000 in
theorem v_X11_keeps : p_X11_keeps.all (dm_vb cX11_keeps) = true := by decide +kernel
def k_X11_keeps : dm_Sp := fun a => match a with
  | 0 => sp_X11_span
  | _ => fun _ _ _ => False
def x_X11_keeps : dm_X := dm_mk [] [] [(231, -1000000001), (233, -1000000002)] [(235, 0, 2, 11)] 3
set_option maxRecDepth 100000 in
set_option maxHeartbeats 1600000 in
theorem u_X11_keeps : dm_Pure shM x_X11_keeps k_X11_keeps p_X11_keeps 8 sp_X11_keeps := by
  intro As u Qp hh
  unfold sp_X11_keeps at hh
  split at hh
  · rename_i x c
    obtain ⟨h0, h1, h2⟩ := hh
    refine ⟨Nat.le_of_ble_eq_true rfl, fun G Wp hW0 hW1 hG => ?_⟩
    apply hG (fun _ => false) 60
    simp (config := { maxSteps := 2000000 }) [-Prod.forall, -Prod.exists, -exists_and_left, -exists_and_right, hW0, hW1, dm_fn, dm_fd, dm_x, dm_L0, dm_la, dm_t1, dm_sw, List.headD, dm_ic, dm_mk, dm_s1, dm_s2, dm_clr, dm_cs, dm_cc, dm_nb0, dm_nb1, Value.category, List.lookup, p_X11_keeps, x_X11_keeps, k_X11_keeps, dm_cm, upd, vp_updL, dm_ui_1, dm_ui_2, dm_ul_1, dm_ul_2, sp_X11_span, sM_0, sM_1, sM_2, sM_3, sM_4, sM_5, sM_6, sM_7, sM_8, sM_9, sM_10, sM_11, sM_12, sM_13, sM_14, sM_15, sM_16, sM_17, sM_18, sM_19, sM_20, sM_21, sM_22, sM_23, sM_24, sM_25, sM_26, sM_27, sM_28, sM_29]
    refine ⟨h0, fun z => h1 (fun q => dm_i_le.mpr (z q.1 q.2.1.1 q.2.1.2) q.2.2), fun z z2 z3 z4 => ?_⟩
    obtain ⟨A, f, U, a, ok, ⟨ha, rfl⟩, hq⟩ := h2 ⟨z, ⟨z2, z3⟩, z4⟩
    obtain ⟨⟨r1, r2, r3⟩, -⟩ := ok.1.2.1 a ha
    refine ⟨A, f, U, a, ok, ⟨ha, rfl⟩, fun u' V b1 b2 b3 b4 => ?_⟩
    have vb := ds_V ok b3 b4 r1
    have n1 : ¬ lI (lm0 A f V a) = -1000000001 := fun q => by
      have e : (-1000000001 : Int64) = lI (-1000000001) := rfl
      rw [e, lI_eq (by unfold lm0 lB; split <;> omega) (by unfold lB; omega)] at q
      unfold lm0 at q
      split at q <;> omega
    refine ⟨fun _ => ⟨fun _ _ => h0 z2 z3, fun q => ?_, fun q1 q2 q3 q4 => ?_⟩, fun q => absurd q n1⟩
    · exfalso
      rw [b1.1] at q
      exact dm_i_le.mpr (q z z2 z3) z4
    · refine ⟨A, f, U, a, ds_ok_fr ok b1, ⟨ha, rfl⟩, fun u2 W c1 c2 c3 c4 => ?_⟩
      obtain ⟨k1, k2⟩ := hq u2 V W (ds_frt b1 c1) b3 b4 c3 c4
      exact ⟨fun e0 => ⟨fun e1 => k1 ⟨Or.inl e0, Or.inl e1⟩, fun e1 => ⟨fun l => k2 (fun q => q.2.elim e1 (fun g => dm_l_le.mpr l g)), fun l => k1 ⟨Or.inl e0, Or.inr l⟩⟩⟩, fun e0 => ⟨fun l => k2 (fun q => q.1.elim e0 (fun g => dm_l_le.mpr l g)), fun l0 => ⟨fun e1 => k1 ⟨Or.inr l0, Or.inl e1⟩, fun e1 => ⟨fun l => k2 (fun q => q.2.elim e1 (fun g => dm_l_le.mpr l g)), fun l => k1 ⟨Or.inr l0, Or.inr l⟩⟩⟩⟩⟩
  · exact hh.elim
set_option maxRecDepth 100000 in
theorem t_X11_keeps (l : Launch) (D : va_G) (cA : Nat → ClassId) (ad : Nat → Nat) : dm_Met l D dm_cl cA ad shM yX11_keeps (Cond.code yX11_keeps cX11_keeps 8 (dm_rt 3) :: dm_tt) ({ frames := 3, cells := 0, slots := 0, locals := 70 } : Room) sp_X11_keeps := dm_meth (own := RX11) (X := x_X11_keeps) (Sp := k_X11_keeps) (prog := p_X11_keeps) (by decide +kernel) rfl rfl (dm_FO_s ffX11 [] rfl dm_hT (by decide +kernel)) (dm_IO_s ifX11 jfX11 [] [(231, -1000000001), (233, -1000000002)] rfl rfl dm_hT (by decide +kernel) (by decide +kernel)) soM (dm_MO_of (List.forall_mem_cons.mpr ⟨dm_M1_of (t_X11_span l D cA ad) dm_hT (dm_mem [1226, 77, 1233] (by decide +kernel) (by decide +kernel)) (by decide) (by decide +kernel) (Or.inr ⟨by decide, dm_mem [1224, 1225] (by decide +kernel) (by decide +kernel), rfl⟩), fun _ h => absurd h List.not_mem_nil⟩)) v_X11_keeps u_X11_keeps
