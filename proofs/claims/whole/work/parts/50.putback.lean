/-! ===== Router.putBack ===== -/
/-- what is left behind the first k lanes from p on; the loads then -/
def pbL (p : Nat) (mm lo : Nat → Int) (r : Int) : Nat → Int
  | 0 => r
  | k + 1 => pbL p mm lo r k - mn2 (pbL p mm lo r k) (mm (p + k) - lo (p + k))
def pbX (p : Nat) (mm lo : Nat → Int) (r : Int) (k : Nat) : Nat → Int := fun l => if p ≤ l ∧ l < p + k then lo l + mn2 (pbL p mm lo r (l - p)) (mm l - lo l) else lo l
theorem pbL_bd {p : Nat} {mm lo : Nat → Int} {r : Int} (hr : 0 ≤ r) : ∀ {k : Nat}, (∀ j, j < k → 0 ≤ mm (p + j) - lo (p + j)) → 0 ≤ pbL p mm lo r k ∧ pbL p mm lo r k ≤ r
  | 0, _ => ⟨hr, Int.le_refl _⟩
  | k + 1, h => by
    obtain ⟨h1, h2⟩ := pbL_bd (p := p) (mm := mm) (lo := lo) hr (k := k) (fun j hj => h j (by omega))
    have h3 := h k (by omega)
    show 0 ≤ pbL p mm lo r k - mn2 (pbL p mm lo r k) (mm (p + k) - lo (p + k)) ∧ pbL p mm lo r k - mn2 (pbL p mm lo r k) (mm (p + k) - lo (p + k)) ≤ r
    unfold mn2
    split <;> omega
def pbE (A : AN) (a : Nat) (ex : Nat → Int) (d : Int) : Nat → Int := fun v => ex v - (if A.fr a = v then d else 0) + (if A.tr a = v then d else 0)
def sp_X7_putBack (As : List Value) (u : dm_S) (Q : Option Value → dm_S → Prop) : Prop := match As with
  | [.ref 4, .int x] => ∃ (A : AN) (mm lo ex : Nat → Int) (a : Nat), A.ok ∧ CR u A ∧ LN u A ∧ u.2 22 = lF mm ∧ u.2 24 = lF lo ∧ u.2 25 = lF ex ∧ a < A.M ∧ x = nI a ∧ (0 ≤ ex (A.fr a) ∧ ex (A.fr a) ≤ 1152921504606846976) ∧ (∀ l, l < A.K → 0 ≤ mm l - lo l ∧ mm l - lo l ≤ 1152921504606846976) ∧
    Q none (st_x u (pbX (cn_fs A.pt a) mm lo (ex (A.fr a)) (A.pt a)) (pbE A a ex (ex (A.fr a) - pbL (cn_fs A.pt a) mm lo (ex (A.fr a)) (A.pt a))))
  | _ => False
def p_X7_putBack : List dm_I := [(0, .aload_n 0, 1, [0]), (1, .getfield 30, 3, []), (4, .getfield 72, 3, []), (7, .iload_n 1, 1, [1]), (8, .iaload, 1, []), (9, .istore_n 2, 1, [2]), (10, .iload_n 2, 1, [2]), (11, .aload_n 0, 1, [0]), (12, .getfield 30, 3, []), (15, .getfield 72, 3, []), (18, .iload_n 1, 1, [1]), (19, .iconst 1, 1, []), (20, .iadd, 1, []), (21, .iaload, 1, []), (22, .if_icmp .ge 51, 3, [73]), (25, .aload_n 0, 1, [0]), (26, .getfield 30, 3, []), (29, .getfield 78, 3, []), (32, .aload_n 0, 1, [0]), (33, .getfield 26, 3, []), (36, .getfield 81, 3, []), (39, .iload_n 1, 1, [1]), (40, .iaload, 1, []), (41, .laload, 1, []), (42, .lstore_n 3, 1, [3]), (43, .aload_n 0, 1, [0]), (44, .getfield 30, 3, []), (47, .iconst 2, 1, []), (48, .iload_n 2, 1, [2]), (49, .imul, 1, []), (50, .lload_n 3, 1, [3]), (51, .aload_n 0, 1, [0]), (52, .getfield 30, 3, []), (55, .iconst 2, 1, []), (56, .iload_n 2, 1, [2]), (57, .imul, 1, []), (58, .invokevirtual 87, 3, []), (61, .invokestatic 91, 3, []), (64, .invokevirtual 97, 3, []), (67, .iinc 2 1, 3, []), (70, .goto (-60), 3, [10]), (73, .return_, 1, [])]
set_option maxRecDepth 100000 in
theorem v_X7_putBack : p_X7_putBack.all (dm_vb cX7_putBack) = true := by decide +kernel
def k_X7_putBack : dm_Sp := fun a => match a with
  | 0 => sp_X1_roomOf
  | 1 => sp_J9_min_f86c9
  | 2 => sp_X1_push
  | _ => fun _ _ _ => False
def x_X7_putBack : dm_X := dm_mk [(26, 7, 0), (30, 7, 1), (72, 1, 1), (78, 1, 7), (81, 2, 1)] [] [] [(87, 0, 1, 1), (91, 1, 2, 1000), (97, 2, 2, 1)] 0
set_option maxRecDepth 100000 in
set_option maxHeartbeats 800000 in
theorem u_X7_putBack : dm_Pure shC x_X7_putBack k_X7_putBack p_X7_putBack 5 sp_X7_putBack := by
  intro As u Qp h
  unfold sp_X7_putBack at h
  split at h
  · obtain ⟨A, mm, lo, ex, a, hA, hC, hL, e22, e24, e25, ha, rfl, hr, hm, h⟩ := h
    obtain ⟨hn, hM⟩ := hA.1
    have hK := A.K_le hA
    have hfs := AN.fs_le hA ha
    obtain ⟨⟨c1, c2⟩, -, c5, -⟩ := hC.2.2 a ha
    obtain ⟨⟨d1, d2, d3⟩, ⟨d4, d5⟩, -⟩ := hA.2.1 a ha
    have f1 := hL.1 a (by omega)
    have f2 : u.1 19 (a + 1) = nI (cn_fs A.pt a + A.pt a) := hL.1 (a + 1) (by omega)
    have ca : (nI a).toNatClampNeg = a := nI_clamp (by omega)
    have ca1 : (nI (a + 1)).toNatClampNeg = a + 1 := nI_clamp (by omega)
    have cf : (nI (A.fr a)).toNatClampNeg = A.fr a := nI_clamp (by omega)
    generalize hr0 : ex (A.fr a) = r at *
    generalize hp : cn_fs A.pt a = p at *
    refine ⟨Nat.le_of_ble_eq_true rfl, fun G Wp hW0 hW1 hG => ?_⟩
    have loop : ∀ k2 k : Nat, k + k2 = A.pt a → ∀ (o3 o4 : Option Value), G 10 [some (.ref 4), some (.int (nI a)), some (.int (nI (p + k))), o3, o4] [] (st_x u (pbX p mm lo r k) (pbE A a ex (r - pbL p mm lo r k))) := by
      intro k2
      induction k2 with
      | zero =>
        intro k hk o3 o4
        have e : k = A.pt a := by omega
        subst e
        apply hG (fun pc => pc == 10) 60
        simp (config := { maxSteps := 2000000 }) [-Prod.forall, -Prod.exists, -exists_and_left, -exists_and_right, hW0, hW1, dm_fn, dm_fd, dm_x, dm_L0, dm_la, dm_t1, dm_sw, List.headD, dm_ic, dm_mk, dm_s1, dm_s2, dm_clr, dm_cs, dm_cc, dm_nb0, dm_nb1, Value.category, List.lookup, p_X7_putBack, x_X7_putBack, k_X7_putBack, dm_cm, upd, vp_updL, dm_ui_1, dm_ui_2, dm_ul_1, dm_ul_2, sp_X1_roomOf, sp_J9_min_f86c9, sp_X1_push, sC_0, sC_1, sC_2, sC_3, sC_4, sC_5, sC_6, sC_7, sC_8, sC_9, sC_10, sC_11, sC_12, sC_13, sC_14, sC_15, sC_16, sC_17, sC_18, sC_19, sC_20, sC_21, sC_22, sC_23, sC_24, sC_25, sC_26, sC_27, sC_28, sC_29, sC_30, sC_31, sC_32, sC_33, sC_34, sC_35, sC_36, sC_37, sC_38, sC_39, sC_40, sC_41, sC_42, sC_43, sC_44, sC_45, sC_46, sC_47, sC_48, sC_49, sC_50, sC_51]
        rw [st_x1, nI_1, ca1, f2]
        exact ⟨vp_in_nI (by omega) (by omega), fun _ => h, fun zq => absurd zq (nI_nlt (Nat.le_refl _) (by omega))⟩
      | succ k2 ih =>
        intro k hk o3 o4
        have hb := pbL_bd (p := p) (mm := mm) (lo := lo) hr.1 (k := k) (fun j hj => (hm (p + j) (by omega)).1)
        have hmk := hm (p + k) (by omega)
        apply hG (fun pc => pc == 10) 60
        simp (config := { maxSteps := 2000000 }) [-Prod.forall, -Prod.exists, -exists_and_left, -exists_and_right, hW0, hW1, dm_fn, dm_fd, dm_x, dm_L0, dm_la, dm_t1, dm_sw, List.headD, dm_ic, dm_mk, dm_s1, dm_s2, dm_clr, dm_cs, dm_cc, dm_nb0, dm_nb1, Value.category, List.lookup, p_X7_putBack, x_X7_putBack, k_X7_putBack, dm_cm, upd, vp_updL, dm_ui_1, dm_ui_2, dm_ul_1, dm_ul_2, sp_X1_roomOf, sp_J9_min_f86c9, sp_X1_push, sC_0, sC_1, sC_2, sC_3, sC_4, sC_5, sC_6, sC_7, sC_8, sC_9, sC_10, sC_11, sC_12, sC_13, sC_14, sC_15, sC_16, sC_17, sC_18, sC_19, sC_20, sC_21, sC_22, sC_23, sC_24, sC_25, sC_26, sC_27, sC_28, sC_29, sC_30, sC_31, sC_32, sC_33, sC_34, sC_35, sC_36, sC_37, sC_38, sC_39, sC_40, sC_41, sC_42, sC_43, sC_44, sC_45, sC_46, sC_47, sC_48, sC_49, sC_50, sC_51]
        have hxk : pbX p mm lo r k (p + k) = lo (p + k) := if_neg (by omega)
        have hlm : lw_m (st_x u (pbX p mm lo r k) (pbE A a ex (r - pbL p mm lo r k))) (2 * (p + k)) = lI (mm (p + k) - lo (p + k)) := by
          unfold lw_m
          rw [if_pos (by omega), st_x24, st_xo (by decide) (by decide), e22, show 2 * (p + k) / 2 = p + k by omega, lF_at, lF_at, hxk, lI_sub]
        have hpe : pbE A a ex (r - pbL p mm lo r k) (A.fr a) = pbL p mm lo r k := by
          unfold pbE
          rw [if_pos rfl, if_neg (Ne.symm d3), hr0]; omega
        rw [st_x1, nI_1, nI_1, ca1, ca, f2, c1, cf, st_x25, lF_at, hpe, show (2 : Int32) = nI 2 from rfl, pk_mul]
        obtain ⟨e1, l1⟩ := ln_b hL.2.1 (w := 2 * (p + k)) (by omega)
        obtain ⟨e2, l2⟩ := ln_e hL.2.1 (w := 2 * (p + k)) (by omega)
        refine ⟨vp_in_nI (by omega) (by omega), fun zq => absurd zq (nI_ge (by omega) (by omega)), fun zq => ⟨vp_in_nI (by omega) (by omega), vp_in_nI (by omega) (by omega), 2 * (p + k), by omega, rfl, 2 * (p + k), by omega, rfl, ?_, ?_, ?_⟩⟩
        · show vp_in (lw_b u _) 24
          rw [e1]; exact vp_in_nI (by omega) (by omega)
        · show vp_in (lw_e u _) 24
          rw [e2]; exact vp_in_nI (by omega) (by omega)
        · rw [hlm, lI_min (by unfold lB; omega) (by unfold lB; omega), ln_pu hL.2.1 (by omega)]
          obtain ⟨l1, l2, l3⟩ := A.l_at ha (show k < A.pt a by omega)
          rw [hp] at l1 l2 l3
          have hwb : wb A.b A.e (2 * (p + k)) = A.fr a := by
            unfold wb AN.b
            rw [if_pos (by omega), show 2 * (p + k) / 2 = p + k by omega, l2]
          have hwe : we A.b A.e (2 * (p + k)) = A.tr a := by
            unfold we AN.e
            rw [if_pos (by omega), show 2 * (p + k) / 2 = p + k by omega, l2]
          have hs1 : pX (2 * (p + k)) (if pbL p mm lo r k ≤ mm (p + k) - lo (p + k) then pbL p mm lo r k else mm (p + k) - lo (p + k)) (pbX p mm lo r k) = pbX p mm lo r (k + 1) := by
            funext l
            have hsg : sg (2 * (p + k)) = 1 := if_pos (by omega)
            unfold pX uI
            rw [show 2 * (p + k) / 2 = p + k by omega, hsg, hxk, Int.one_mul]
            by_cases y : l = p + k
            · have e9 : pbX p mm lo r (k + 1) (p + k) = lo (p + k) + mn2 (pbL p mm lo r k) (mm (p + k) - lo (p + k)) := by
                unfold pbX
                rw [if_pos (by omega), show p + k - p = k by omega]
              rw [if_pos y, y, e9]
              rfl
            · rw [if_neg y]
              unfold pbX
              by_cases y2 : p ≤ l ∧ l < p + k
              · rw [if_pos y2, if_pos (by omega)]
              · rw [if_neg y2, if_neg (by omega)]
          have hs2 : pE A.b A.e (2 * (p + k)) (if pbL p mm lo r k ≤ mm (p + k) - lo (p + k) then pbL p mm lo r k else mm (p + k) - lo (p + k)) (pbE A a ex (r - pbL p mm lo r k)) = pbE A a ex (r - pbL p mm lo r (k + 1)) := by
            funext v
            have hk1 : pbL p mm lo r (k + 1) = pbL p mm lo r k - (if pbL p mm lo r k ≤ mm (p + k) - lo (p + k) then pbL p mm lo r k else mm (p + k) - lo (p + k)) := rfl
            unfold pE pbE
            rw [hwb, hwe, hk1]
            generalize (if pbL p mm lo r k ≤ mm (p + k) - lo (p + k) then pbL p mm lo r k else mm (p + k) - lo (p + k)) = t
            split <;> split <;> omega
          rw [hs1, hs2]
          exact ih (k + 1) (by omega) _ _
    apply hG (fun pc => pc == 10) 60
    simp (config := { maxSteps := 2000000 }) [-Prod.forall, -Prod.exists, -exists_and_left, -exists_and_right, hW0, hW1, dm_fn, dm_fd, dm_x, dm_L0, dm_la, dm_t1, dm_sw, List.headD, dm_ic, dm_mk, dm_s1, dm_s2, dm_clr, dm_cs, dm_cc, dm_nb0, dm_nb1, Value.category, List.lookup, p_X7_putBack, x_X7_putBack, k_X7_putBack, dm_cm, upd, vp_updL, dm_ui_1, dm_ui_2, dm_ul_1, dm_ul_2, sp_X1_roomOf, sp_J9_min_f86c9, sp_X1_push, sC_0, sC_1, sC_2, sC_3, sC_4, sC_5, sC_6, sC_7, sC_8, sC_9, sC_10, sC_11, sC_12, sC_13, sC_14, sC_15, sC_16, sC_17, sC_18, sC_19, sC_20, sC_21, sC_22, sC_23, sC_24, sC_25, sC_26, sC_27, sC_28, sC_29, sC_30, sC_31, sC_32, sC_33, sC_34, sC_35, sC_36, sC_37, sC_38, sC_39, sC_40, sC_41, sC_42, sC_43, sC_44, sC_45, sC_46, sC_47, sC_48, sC_49, sC_50, sC_51]
    rw [ca, f1]
    refine ⟨vp_in_nI (by omega) (by omega), ?_⟩
    have e0 := loop (A.pt a) 0 (by omega) none none
    have e1 : pbX p mm lo r 0 = lo := by
      funext l
      exact if_neg (by omega)
    have e2 : pbE A a ex (r - pbL p mm lo r 0) = ex := by
      funext v
      unfold pbE
      show ex v - (if A.fr a = v then r - r else 0) + (if A.tr a = v then r - r else 0) = ex v
      split <;> split <;> omega
    rw [e1, e2, st_xs e24 e25] at e0
    exact e0
  · exact h.elim
set_option maxRecDepth 100000 in
theorem t_X7_putBack (l : Launch) (D : va_G) (cA : Nat → ClassId) (ad : Nat → Nat) : dm_Met l D dm_cl cA ad shC yX7_putBack (Cond.code yX7_putBack cX7_putBack 5 (dm_rt 0) :: dm_tt) ({ frames := 2, cells := 0, slots := 0, locals := 44 } : Room) sp_X7_putBack := dm_meth (own := RX7) (X := x_X7_putBack) (Sp := k_X7_putBack) (prog := p_X7_putBack) (by decide +kernel) rfl rfl (dm_FO_s ffX7 [(26, 7, 0), (30, 7, 1), (72, 1, 1), (78, 1, 7), (81, 2, 1)] rfl dm_hT (by decide +kernel)) (dm_IO_s ifX7 jfX7 [] [] rfl rfl dm_hT (by decide +kernel) (by decide +kernel)) soC (dm_MO_of (List.forall_mem_cons.mpr ⟨dm_M1_of (t_X1_roomOf l D cA ad) dm_hT (dm_mem [618, 68, 615] (by decide +kernel) (by decide +kernel)) (by decide) (by decide +kernel) (Or.inr ⟨by decide, dm_mem [616, 617] (by decide +kernel) (by decide +kernel), rfl⟩), List.forall_mem_cons.mpr ⟨dm_M1_of (t_J9_min_f86c9 l D cA ad) dm_hT (dm_mem [621, 79, 619] (by decide +kernel) (by decide +kernel)) (by decide) (by decide +kernel) (Or.inl ⟨rfl, dm_mem (ws := [.static yJ9_min_f86c9]) [620] (by decide +kernel) (by decide +kernel) _ List.mem_cons_self⟩), List.forall_mem_cons.mpr ⟨dm_M1_of (t_X1_push l D cA ad) dm_hT (dm_mem [629, 68, 819] (by decide +kernel) (by decide +kernel)) (by decide) (by decide +kernel) (Or.inr ⟨by decide, dm_mem [627, 628] (by decide +kernel) (by decide +kernel), rfl⟩), fun _ h => absurd h List.not_mem_nil⟩⟩⟩)) v_X7_putBack u_X7_putBack
