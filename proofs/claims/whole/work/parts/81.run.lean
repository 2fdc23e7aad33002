/-! ===== CostFlow.run ===== -/
/-- the ends of a run: a the answer, u2 the state but for the answer's field -/
def lko (A : AN) (mm : Nat → Int) (u : dm_S) (R : Int32 → dm_S → Prop) : Prop :=
    (sI A.su A.n ≠ 0 → R 2 (dm_co u (fun _ => true) A.n)) ∧
    (sI A.su A.n = 0 → ∀ (u1 : dm_S) (lo : Nat → Int) (S : Nat → Bool), ff_fr u u1 → fits A.K mm lo → stk A.n A.K A.b A.e A.ln mm A.s lo S → (∃ v, v < A.n ∧ A.s v - dv A.K A.b A.e lo v ≠ 0) → (∀ v, v < A.n → (u1.1 33 v = -2 ↔ S v = false)) → R 2 (dm_co u1 (fun j => !decide (u1.1 33 j = -2)) A.n)) ∧
    (sI A.su A.n = 0 → ∀ lo, fits A.K mm lo → bal A.n A.K A.b A.e A.s lo → (∀ U, ¬ A.nor U) → ∀ f rq, rqok A f rq → ∀ u' : dm_S, lk_fr u u' → u'.1 8 3 = nI f → (∀ i, i < f → u'.1 46 i = nI (rq i)) → R 1 u') ∧
    (sI A.su A.n = 0 → ∀ lo0, fits A.K mm lo0 → bal A.n A.K A.b A.e A.s lo0 → ∀ U, A.nor U → ∀ (u' : dm_S) (lo p : Nat → Int) (C : Nat) (nb : Nat → Nat), lb_fr u u' → u'.2 24 = lF lo → u'.2 36 = lF p → A.opt mm p lo → A.lex mm p lo A.M → A.prc mm lo p → WG u' A mm lo C nb → R 0 u')
theorem nI_of3 {x : Int32} (h : 0 ≤ x) : nI x.toNatClampNeg = x := by
  have h1 := Int32.le_iff_toInt_le.mp h
  have e : (0 : Int32).toInt = 0 := rfl
  rw [e] at h1
  unfold nI Int32.toNatClampNeg
  apply Int32.toInt_inj.mp
  rw [Int32.toInt_ofNat_of_lt (by have := Int32.toInt_lt x; omega)]
  omega
def sp_X10_run (As : List Value) (u : dm_S) (Q : Option Value → dm_S → Prop) : Prop := match As with
  | [.ref 0, .int x] => (¬ (0 ≤ x ∧ x ≤ 2) → Q (some (.int (-1))) u) ∧ (0 ≤ x ∧ x ≤ 2 → ∃ A : AN, A.ok ∧ CR u A ∧ ∀ (u1 : dm_S) (mm : Nat → Int) (hd sr : Nat → Nat), ly_fr (dm_fg u) u1 → LN u1 A → so_ok u1 A.n A.K A.b A.e hd sr → u1.2 22 = lF mm → (∀ l, l < A.K → mm l = A.w 1000000000 l) → lko A mm u1 (fun a u2 => Q (some (.int a)) (dm_ui u2 0 10 a)))
  | _ => False
def p_X10_run : List dm_I := [(0, .iload_n 1, 1, [1]), (1, .ifCond .lt 8, 3, [9]), (4, .iload_n 1, 1, [1]), (5, .iconst 2, 1, []), (6, .if_icmp .le 5, 3, [11]), (9, .iconst (-1), 1, []), (10, .ireturn, 1, []), (11, .aload_n 0, 1, [0]), (12, .invokevirtual 102, 3, []), (15, .aload_n 0, 1, [0]), (16, .getfield 21, 3, []), (19, .invokevirtual 146, 3, []), (22, .aload_n 0, 1, [0]), (23, .aload_n 0, 1, [0]), (24, .iload_n 1, 1, [1]), (25, .invokevirtual 149, 3, []), (28, .putfield 91, 3, []), (31, .aload_n 0, 1, [0]), (32, .getfield 91, 3, []), (35, .ireturn, 1, [])]
set_option maxRecDepth 100000 in
theorem v_X10_run : p_X10_run.all (dm_vb cX10_run) = true := by decide +kernel
def k_X10_run : dm_Sp := fun a => match a with
  | 0 => sp_X10_forget
  | 1 => sp_X1_lay
  | 2 => sp_X10_lookFor
  | _ => fun _ _ _ => False
def x_X10_run : dm_X := dm_mk [(21, 10, 1), (91, 10, 10)] [] [] [(102, 0, 0, 10), (146, 1, 0, 1), (149, 2, 1, 10)] 1
set_option maxRecDepth 100000 in
set_option maxHeartbeats 1600000 in
theorem u_X10_run : dm_Pure shC x_X10_run k_X10_run p_X10_run 2 sp_X10_run := by
  intro As u Qp hh
  unfold sp_X10_run at hh
  split at hh
  · rename_i x
    obtain ⟨h1, h2⟩ := hh
    refine ⟨Nat.le_of_ble_eq_true rfl, fun G Wp hW0 hW1 hG => ?_⟩
    apply hG (fun _ => false) 40
    simp (config := { maxSteps := 2000000 }) [-Prod.forall, -Prod.exists, -exists_and_left, -exists_and_right, hW0, hW1, dm_fn, dm_fd, dm_x, dm_L0, dm_la, dm_t1, dm_sw, List.headD, dm_ic, dm_mk, dm_s1, dm_s2, dm_clr, dm_cs, dm_cc, dm_nb0, dm_nb1, Value.category, List.lookup, p_X10_run, x_X10_run, k_X10_run, dm_cm, upd, vp_updL, dm_ui_1, dm_ui_2, dm_ul_1, dm_ul_2, sp_X10_forget, sp_X1_lay, sp_X10_lookFor, sC_0, sC_1, sC_2, sC_3, sC_4, sC_5, sC_6, sC_7, sC_8, sC_9, sC_10, sC_11, sC_12, sC_13, sC_14, sC_15, sC_16, sC_17, sC_18, sC_19, sC_20, sC_21, sC_22, sC_23, sC_24, sC_25, sC_26, sC_27, sC_28, sC_29, sC_30, sC_31, sC_32, sC_33, sC_34, sC_35, sC_36, sC_37, sC_38, sC_39, sC_40, sC_41, sC_42, sC_43, sC_44, sC_45, sC_46, sC_47, sC_48, sC_49, sC_50, sC_51]
    refine ⟨fun z => h1 (fun q => dm_i_le.mpr z q.1), fun z => ⟨fun z2 => ?_, fun z2 => h1 (fun q => dm_i_le.mpr z2 q.2)⟩⟩
    obtain ⟨A, hA, hC, h⟩ := h2 ⟨z, z2⟩
    have f0 : nt_fr u (dm_fg u) := by
      refine ⟨fun c hc => ?_, fun c hc => rfl⟩
      have y0 : c ≠ 0 := by intro y; subst y; revert hc; decide
      have y8 : c ≠ 8 := by intro y; subst y; revert hc; decide
      have y9 : c ≠ 9 := by intro y; subst y; revert hc; decide
      rw [dm_ui_1, if_neg y9, dm_ui_1, if_neg y8, dm_ui_1, if_neg y0]
    have hC0 := CR_fr hC f0
    refine ⟨A, hA, hC0, fun u1 hd sr b1 b2 b3 => ?_⟩
    obtain ⟨mm, e22, hm⟩ := LN_mm b2 hA
    obtain ⟨q1, q2, q3, q4⟩ := h u1 mm hd sr b1 b2 b3 e22 hm
    refine ⟨A, mm, hd, sr, x.toNatClampNeg, hA, CR_fr hC0 (ly_nt b1), b2, b3, ⟨e22, hm⟩, (nI_of3 z).symm, ?_, q1, fun z0 u2 lo S c1 c2 c3 v c4 c5 c6 => q2 z0 u2 lo S c1 c2 c3 ⟨v, c4, c5⟩ c6, fun z0 lo c1 c2 c3 => ?_, q4⟩
    · have := Int32.le_iff_toInt_le.mp z2
      have e : (2 : Int32).toInt = 2 := rfl
      rw [e] at this
      unfold Int32.toNatClampNeg
      omega
    · obtain ⟨f, rq, hr⟩ := ring_ex hA c3
      exact ⟨f, rq, hr, fun u2 d1 d2 d3 => q3 z0 lo c1 c2 c3 f rq hr u2 d1 d2 d3⟩
  · exact hh.elim
set_option maxRecDepth 100000 in
theorem t_X10_run (l : Launch) (D : va_G) (cA : Nat → ClassId) (ad : Nat → Nat) : dm_Met l D dm_cl cA ad shC yX10_run (Cond.code yX10_run cX10_run 2 (dm_rt 1) :: dm_tt) ({ frames := 6, cells := 0, slots := 0, locals := 147 } : Room) sp_X10_run := dm_meth (own := RX10) (X := x_X10_run) (Sp := k_X10_run) (prog := p_X10_run) (by decide +kernel) rfl rfl (dm_FO_s ffX10 [(21, 10, 1), (91, 10, 10)] rfl dm_hT (by decide +kernel)) (dm_IO_s ifX10 jfX10 [] [] rfl rfl dm_hT (by decide +kernel) (by decide +kernel)) soC (dm_MO_of (List.forall_mem_cons.mpr ⟨dm_M1_of (t_X10_forget l D cA ad) dm_hT (dm_mem [476, 66, 473] (by decide +kernel) (by decide +kernel)) (by decide) (by decide +kernel) (Or.inr ⟨by decide, dm_mem [475, 0] (by decide +kernel) (by decide +kernel), rfl⟩), List.forall_mem_cons.mpr ⟨dm_M1_of (t_X1_lay l D cA ad) dm_hT (dm_mem [538, 68, 535] (by decide +kernel) (by decide +kernel)) (by decide) (by decide +kernel) (Or.inr ⟨by decide, dm_mem [536, 537] (by decide +kernel) (by decide +kernel), rfl⟩), List.forall_mem_cons.mpr ⟨dm_M1_of (t_X10_lookFor l D cA ad) dm_hT (dm_mem [557, 66, 554] (by decide +kernel) (by decide +kernel)) (by decide) (by decide +kernel) (Or.inr ⟨by decide, dm_mem [556, 3] (by decide +kernel) (by decide +kernel), rfl⟩), fun _ h => absurd h List.not_mem_nil⟩⟩⟩)) v_X10_run u_X10_run
