/-! ===== Lanes.fillCheapFirst ===== -/
theorem pbL_max {p : Nat} {mm : Nat → Int} {r : Int} (hr : 0 ≤ r) : ∀ {k : Nat}, (∀ j, j < k → 0 ≤ mm (p + j)) → pbL p mm (fun _ => 0) r k = if r ≤ sI (fun j => mm (p + j)) k then 0 else r - sI (fun j => mm (p + j)) k
  | 0, _ => by
    show r = if r ≤ 0 then 0 else r - 0
    split <;> omega
  | k + 1, h => by
    have ih := pbL_max (p := p) (mm := mm) hr (k := k) (fun j hj => h j (by omega))
    have hk := h k (by omega)
    show pbL p mm (fun _ => 0) r k - mn2 (pbL p mm (fun _ => 0) r k) (mm (p + k) - 0) = if r ≤ sI (fun j => mm (p + j)) k + mm (p + k) then 0 else r - (sI (fun j => mm (p + j)) k + mm (p + k))
    rw [ih]
    unfold mn2
    split <;> split <;> split <;> omega
/-- arc a filled anew, its first k lanes -/
def flX (p : Nat) (mm : Nat → Int) (r : Int) (x : Nat → Int) (k : Nat) : Nat → Int := fun l => if p ≤ l ∧ l < p + k then mn2 (pbL p mm (fun _ => 0) r (l - p)) (mm l) else x l
def sp_X1_fillCheapFirst (As : List Value) (u : dm_S) (Q : Option Value → dm_S → Prop) : Prop := match As with
  | [.ref 2] => ∃ (A : AN) (mm lo : Nat → Int), A.ok ∧ CR u A ∧ LN u A ∧ (u.2 22 = lF mm ∧ ∀ l, l < A.K → mm l = A.w 1000000000 l) ∧ u.2 24 = lF lo ∧ fits A.K mm lo ∧ ∀ lo' : Nat → Int, fits A.K mm lo' → (∀ a, a < A.M → A.am lo' a = A.am lo a) → Q none (dm_sj u 24 (lF lo'))
  | _ => False
def p_X1_fillCheapFirst : List dm_I := [(0, .iconst 0, 1, []), (1, .istore_n 1, 1, [1]), (2, .iload_n 1, 1, [1]), (3, .aload_n 0, 1, [0]), (4, .getfield 40, 3, []), (7, .getfield 48, 3, []), (10, .if_icmp .ge 79, 3, [89]), (13, .aload_n 0, 1, [0]), (14, .iload_n 1, 1, [1]), (15, .invokevirtual 95, 3, []), (18, .aload_n 0, 1, [0]), (19, .getfield 40, 3, []), (22, .iload_n 1, 1, [1]), (23, .invokevirtual 105, 3, []), (26, .lsub, 1, []), (27, .lstore_n 2, 1, [2]), (28, .aload_n 0, 1, [0]), (29, .getfield 9, 3, []), (32, .iload_n 1, 1, [1]), (33, .iaload, 1, []), (34, .istore 4, 2, []), (36, .iload 4, 2, []), (38, .aload_n 0, 1, [0]), (39, .getfield 9, 3, []), (42, .iload_n 1, 1, [1]), (43, .iconst 1, 1, []), (44, .iadd, 1, []), (45, .iaload, 1, []), (46, .if_icmp .ge 37, 3, [83]), (49, .aload_n 0, 1, [0]), (50, .getfield 28, 3, []), (53, .iload 4, 2, []), (55, .lload_n 2, 1, [2]), (56, .aload_n 0, 1, [0]), (57, .getfield 21, 3, []), (60, .iload 4, 2, []), (62, .laload, 1, []), (63, .invokestatic 108, 3, []), (66, .lastore, 1, []), (67, .lload_n 2, 1, [2]), (68, .aload_n 0, 1, [0]), (69, .getfield 28, 3, []), (72, .iload 4, 2, []), (74, .laload, 1, []), (75, .lsub, 1, []), (76, .lstore_n 2, 1, [2]), (77, .iinc 4 1, 3, []), (80, .goto (-44), 3, [36]), (83, .iinc 1 1, 3, []), (86, .goto (-84), 3, [2]), (89, .return_, 1, [])]
set_option maxRecDepth 100000 in
theorem v_X1_fillCheapFirst : p_X1_fillCheapFirst.all (dm_vb cX1_fillCheapFirst) = true := by decide +kernel
def k_X1_fillCheapFirst : dm_Sp := fun a => match a with
  | 0 => sp_X1_amountOn
  | 1 => sp_X2_lowOf
  | 2 => sp_J9_min_f86c9
  | _ => fun _ _ _ => False
def x_X1_fillCheapFirst : dm_X := dm_mk [(9, 1, 1), (21, 1, 4), (28, 1, 6), (40, 1, 0), (48, 2, 9)] [] [] [(95, 0, 1, 1), (105, 1, 1, 2), (108, 2, 2, 1000)] 0
set_option maxRecDepth 100000 in
set_option maxHeartbeats 1600000 in
theorem u_X1_fillCheapFirst : dm_Pure shC x_X1_fillCheapFirst k_X1_fillCheapFirst p_X1_fillCheapFirst 5 sp_X1_fillCheapFirst := by
  intro As u Qp hh
  unfold sp_X1_fillCheapFirst at hh
  split at hh
  · obtain ⟨A, mm, lo, hA, hC, hL, ⟨e22, hm⟩, e24, hl, h⟩ := hh
    obtain ⟨hn, hM⟩ := hA.1
    have hK := A.K_le hA
    have hwb := fun l hl => A.w_bd hA (B := 1000000000) (l := l) (by omega) hl
    have hm0 : ∀ l, l < A.K → 0 ≤ mm l ∧ mm l ≤ 1000000000 := fun l hl => by rw [hm l hl]; have := hwb l hl; omega
    refine ⟨Nat.le_of_ble_eq_true rfl, fun G Wp hW0 hW1 hG => ?_⟩
    have outer : ∀ k2 a : Nat, a + k2 = A.M → ∀ (x : Nat → Int) (o2 o3 o4 : Option Value), fits A.K mm x → (∀ i, i < A.M → A.am x i = A.am lo i) → G 2 [some (.ref 2), some (.int (nI a)), o2, o3, o4] [] (dm_sj u 24 (lF x)) := by
      intro k2
      induction k2 with
      | zero =>
        intro a ha x o2 o3 o4 a1 a2
        have e : a = A.M := by omega
        subst e
        apply hG (fun pc => pc == 2) 60
        simp (config := { maxSteps := 2000000 }) [-Prod.forall, -Prod.exists, -exists_and_left, -exists_and_right, hW0, hW1, dm_fn, dm_fd, dm_x, dm_L0, dm_la, dm_t1, dm_sw, List.headD, dm_ic, dm_mk, dm_s1, dm_s2, dm_clr, dm_cs, dm_cc, dm_nb0, dm_nb1, Value.category, List.lookup, p_X1_fillCheapFirst, x_X1_fillCheapFirst, k_X1_fillCheapFirst, dm_cm, upd, vp_updL, dm_ui_1, dm_ui_2, dm_ul_1, dm_ul_2, sp_X1_amountOn, sp_X2_lowOf, sp_J9_min_f86c9, sC_0, sC_1, sC_2, sC_3, sC_4, sC_5, sC_6, sC_7, sC_8, sC_9, sC_10, sC_11, sC_12, sC_13, sC_14, sC_15, sC_16, sC_17, sC_18, sC_19, sC_20, sC_21, sC_22, sC_23, sC_24, sC_25, sC_26, sC_27, sC_28, sC_29, sC_30, sC_31, sC_32, sC_33, sC_34, sC_35, sC_36, sC_37, sC_38, sC_39, sC_40, sC_41, sC_42, sC_43, sC_44, sC_45, sC_46, sC_47, sC_48, sC_49, sC_50, sC_51]
        rw [dm_sj_1, hC.1.2]
        exact ⟨fun _ => h x a1 a2, fun zq => absurd zq (nI_nlt (Nat.le_refl _) (by omega))⟩
      | succ k2 ih =>
        intro a ha x o2 o3 o4 a1 a2
        have ham : a < A.M := by omega
        have hfs := AN.fs_le hA ham
        have f1 := hL.1 a (by omega)
        have f2 : u.1 19 (a + 1) = nI (cn_fs A.pt a + A.pt a) := hL.1 (a + 1) (by omega)
        obtain ⟨d4, d5⟩ := (hA.2.1 a ham).2.1
        have ca : (nI a).toNatClampNeg = a := nI_clamp (by omega)
        have ca1 : (nI (a + 1)).toNatClampNeg = a + 1 := nI_clamp (by omega)
        have i1 : vp_in (nI (a + 1)) 81 := vp_in_nI (by omega) (by omega)
        have hr0 : 0 ≤ A.am x a := sI_ge0 (fun k hk => (a1 _ (A.l_at ham hk).1).1)
        have hrm : A.am x a ≤ sI (fun j => mm (cn_fs A.pt a + j)) (A.pt a) := sI_le (fun k hk => (a1 _ (A.l_at ham hk).1).2)
        have hrb : A.am x a ≤ 4000000000 := by
          have q1 : sI (fun j => mm (cn_fs A.pt a + j)) (A.pt a) ≤ A.pt a * 1000000000 := sI_bd (fun j hj => (hm0 _ (A.l_at ham hj).1).2)
          omega
        generalize hr : A.am x a = r at *
        have hpb : ∀ k, k ≤ A.pt a → 0 ≤ pbL (cn_fs A.pt a) mm (fun _ => 0) r k ∧ pbL (cn_fs A.pt a) mm (fun _ => 0) r k ≤ r := fun k hk => pbL_bd hr0 (fun j hj => by have := (hm0 _ (A.l_at ham (show j < A.pt a by omega)).1).1; omega)
        have inner : ∀ m k : Nat, k + m = A.pt a → G 36 [some (.ref 2), some (.int (nI a)), some (.long (lI (pbL (cn_fs A.pt a) mm (fun _ => 0) r k))), none, some (.int (nI (cn_fs A.pt a + k)))] [] (dm_sj u 24 (lF (flX (cn_fs A.pt a) mm r x k))) := by
          intro m
          induction m with
          | zero =>
            intro k hk
            have e : k = A.pt a := by omega
            subst e
            apply hG (fun pc => pc == 2 || pc == 36) 60
            simp (config := { maxSteps := 2000000 }) [-Prod.forall, -Prod.exists, -exists_and_left, -exists_and_right, hW0, hW1, dm_fn, dm_fd, dm_x, dm_L0, dm_la, dm_t1, dm_sw, List.headD, dm_ic, dm_mk, dm_s1, dm_s2, dm_clr, dm_cs, dm_cc, dm_nb0, dm_nb1, Value.category, List.lookup, p_X1_fillCheapFirst, x_X1_fillCheapFirst, k_X1_fillCheapFirst, dm_cm, upd, vp_updL, dm_ui_1, dm_ui_2, dm_ul_1, dm_ul_2, sp_X1_amountOn, sp_X2_lowOf, sp_J9_min_f86c9, sC_0, sC_1, sC_2, sC_3, sC_4, sC_5, sC_6, sC_7, sC_8, sC_9, sC_10, sC_11, sC_12, sC_13, sC_14, sC_15, sC_16, sC_17, sC_18, sC_19, sC_20, sC_21, sC_22, sC_23, sC_24, sC_25, sC_26, sC_27, sC_28, sC_29, sC_30, sC_31, sC_32, sC_33, sC_34, sC_35, sC_36, sC_37, sC_38, sC_39, sC_40, sC_41, sC_42, sC_43, sC_44, sC_45, sC_46, sC_47, sC_48, sC_49, sC_50, sC_51]
            rw [dm_sj_1, nI_1, nI_1, ca1, f2]
            refine ⟨i1, fun _ => ?_, fun zq => absurd zq (nI_nlt (Nat.le_refl _) (by omega))⟩
            refine ih (a + 1) (by omega) _ _ _ _ (fun l hlK => ?_) (fun i hi => ?_)
            · unfold flX
              by_cases z : cn_fs A.pt a ≤ l ∧ l < cn_fs A.pt a + A.pt a
              · rw [if_pos z]
                have q1 := hpb (l - cn_fs A.pt a) (by omega)
                have q2 := hm0 l hlK
                unfold mn2
                split <;> omega
              · rw [if_neg z]; exact a1 l hlK
            · by_cases z : i = a
              · subst z
                rw [← a2 i hi, hr]
                have e1 : A.am (flX (cn_fs A.pt i) mm r x (A.pt i)) i = sI (fun j => mn2 (pbL (cn_fs A.pt i) mm (fun _ => 0) r j) (mm (cn_fs A.pt i + j) - (fun _ => (0 : Int)) (cn_fs A.pt i + j))) (A.pt i) := sI_cg (fun j hj => by
                  show flX (cn_fs A.pt i) mm r x (A.pt i) (cn_fs A.pt i + j) = mn2 (pbL (cn_fs A.pt i) mm (fun _ => 0) r j) (mm (cn_fs A.pt i + j) - 0)
                  unfold flX
                  rw [if_pos (by omega), show cn_fs A.pt i + j - cn_fs A.pt i = j by omega, Int.sub_zero])
                rw [e1, pbX_sum, pbL_max hr0 (fun j hj => (hm0 _ (A.l_at ham hj).1).1), if_pos hrm]
                omega
              · rw [← a2 i hi]
                refine A.am_ne hi (fun l hlK hq => ?_)
                unfold flX
                rw [if_neg (fun y => z (by rw [← hq]; exact (A.in_ar ham hlK).mp y))]
          | succ m ih2 =>
            intro k hk
            have hlk : cn_fs A.pt a + k < A.K := by omega
            have cl : (nI (cn_fs A.pt a + k)).toNatClampNeg = cn_fs A.pt a + k := nI_clamp (by omega)
            have il : vp_in (nI (cn_fs A.pt a + k)) 320 := vp_in_nI (by omega) (by omega)
            have hk1 := hpb k (by omega)
            have hm1 := hm0 _ hlk
            have e22' : (dm_sj u 24 (lF (flX (cn_fs A.pt a) mm r x k))).2 22 = lF mm := e22
            apply hG (fun pc => pc == 2 || pc == 36) 60
            simp (config := { maxSteps := 2000000 }) [-Prod.forall, -Prod.exists, -exists_and_left, -exists_and_right, hW0, hW1, dm_fn, dm_fd, dm_x, dm_L0, dm_la, dm_t1, dm_sw, List.headD, dm_ic, dm_mk, dm_s1, dm_s2, dm_clr, dm_cs, dm_cc, dm_nb0, dm_nb1, Value.category, List.lookup, p_X1_fillCheapFirst, x_X1_fillCheapFirst, k_X1_fillCheapFirst, dm_cm, upd, vp_updL, dm_ui_1, dm_ui_2, dm_ul_1, dm_ul_2, sp_X1_amountOn, sp_X2_lowOf, sp_J9_min_f86c9, sC_0, sC_1, sC_2, sC_3, sC_4, sC_5, sC_6, sC_7, sC_8, sC_9, sC_10, sC_11, sC_12, sC_13, sC_14, sC_15, sC_16, sC_17, sC_18, sC_19, sC_20, sC_21, sC_22, sC_23, sC_24, sC_25, sC_26, sC_27, sC_28, sC_29, sC_30, sC_31, sC_32, sC_33, sC_34, sC_35, sC_36, sC_37, sC_38, sC_39, sC_40, sC_41, sC_42, sC_43, sC_44, sC_45, sC_46, sC_47, sC_48, sC_49, sC_50, sC_51]
            rw [dm_sj_1, nI_1, nI_1, ca1, f2, cl, e22', lF_at, lI_min (by unfold lB; omega) (by unfold lB; omega), dm_sj_u, lF_upd, lI_sub]
            refine ⟨i1, fun zq => absurd zq (nI_ge (by omega) (by omega)), fun zq => ⟨il, ?_⟩⟩
            have e9 : uI (flX (cn_fs A.pt a) mm r x k) (cn_fs A.pt a + k) (if pbL (cn_fs A.pt a) mm (fun _ => 0) r k ≤ mm (cn_fs A.pt a + k) then pbL (cn_fs A.pt a) mm (fun _ => 0) r k else mm (cn_fs A.pt a + k)) = flX (cn_fs A.pt a) mm r x (k + 1) := by
              funext l
              unfold uI
              by_cases y : l = cn_fs A.pt a + k
              · have e8 : flX (cn_fs A.pt a) mm r x (k + 1) (cn_fs A.pt a + k) = mn2 (pbL (cn_fs A.pt a) mm (fun _ => 0) r k) (mm (cn_fs A.pt a + k)) := by
                  unfold flX
                  rw [if_pos (by omega), show cn_fs A.pt a + k - cn_fs A.pt a = k by omega]
                rw [if_pos y, y, e8]; rfl
              · rw [if_neg y]
                unfold flX
                by_cases y2 : cn_fs A.pt a ≤ l ∧ l < cn_fs A.pt a + k
                · rw [if_pos y2, if_pos (by omega)]
                · rw [if_neg y2, if_neg (by omega)]
            have e7 : pbL (cn_fs A.pt a) mm (fun _ => 0) r k - (if pbL (cn_fs A.pt a) mm (fun _ => 0) r k ≤ mm (cn_fs A.pt a + k) then pbL (cn_fs A.pt a) mm (fun _ => 0) r k else mm (cn_fs A.pt a + k)) = pbL (cn_fs A.pt a) mm (fun _ => 0) r (k + 1) := by
              show _ = pbL (cn_fs A.pt a) mm (fun _ => 0) r k - mn2 (pbL (cn_fs A.pt a) mm (fun _ => 0) r k) (mm (cn_fs A.pt a + k) - 0)
              rw [Int.sub_zero]; rfl
            rw [e9, e7]
            exact ih2 (k + 1) (by omega)
        have h17 := ((hC.2.2 a ham).2.2.2 0 (by omega)).1
        rw [Nat.add_zero] at h17
        apply hG (fun pc => pc == 2 || pc == 36) 60
        simp (config := { maxSteps := 2000000 }) [-Prod.forall, -Prod.exists, -exists_and_left, -exists_and_right, hW0, hW1, dm_fn, dm_fd, dm_x, dm_L0, dm_la, dm_t1, dm_sw, List.headD, dm_ic, dm_mk, dm_s1, dm_s2, dm_clr, dm_cs, dm_cc, dm_nb0, dm_nb1, Value.category, List.lookup, p_X1_fillCheapFirst, x_X1_fillCheapFirst, k_X1_fillCheapFirst, dm_cm, upd, vp_updL, dm_ui_1, dm_ui_2, dm_ul_1, dm_ul_2, sp_X1_amountOn, sp_X2_lowOf, sp_J9_min_f86c9, sC_0, sC_1, sC_2, sC_3, sC_4, sC_5, sC_6, sC_7, sC_8, sC_9, sC_10, sC_11, sC_12, sC_13, sC_14, sC_15, sC_16, sC_17, sC_18, sC_19, sC_20, sC_21, sC_22, sC_23, sC_24, sC_25, sC_26, sC_27, sC_28, sC_29, sC_30, sC_31, sC_32, sC_33, sC_34, sC_35, sC_36, sC_37, sC_38, sC_39, sC_40, sC_41, sC_42, sC_43, sC_44, sC_45, sC_46, sC_47, sC_48, sC_49, sC_50, sC_51]
        rw [dm_sj_1, hC.1.2]
        refine ⟨fun zq => absurd zq (nI_ge (by omega) (by omega)), fun zq => ⟨a, cn_fs A.pt a, A.pt a, by omega, rfl, f1, f2, by omega, ?_⟩⟩
        rw [dm_l4 (by omega), nI_clamp (n := 4 * a) (by omega), ca, f1]
        have e17 : (dm_sj u 24 (lF x)).2 17 (4 * a) = lI (A.st (4 * a)) := h17
        have e24' : (dm_sj u 24 (lF x)).2 24 = lF x := rfl
        have e5 : lI (A.st (4 * a)) + lI (sI (fun k => x (cn_fs A.pt a + k)) (A.pt a)) - lI (A.st (4 * a)) = lI r := by
          rw [lI_add, lI_sub, ← hr]
          congr 1
          show A.st (4 * a) + A.am x a - A.st (4 * a) = A.am x a
          omega
        rw [e17, e24', dm_sg_I, e5]
        refine ⟨vp_in_nI (by omega) (by omega), vp_in_nI (by omega) (by omega), ?_⟩
        have e6 := inner (A.pt a) 0 (by omega)
        have e8 : flX (cn_fs A.pt a) mm r x 0 = x := by
          funext l
          exact if_neg (by omega)
        rw [e8] at e6
        exact e6
    apply hG (fun pc => pc == 2) 60
    simp (config := { maxSteps := 2000000 }) [-Prod.forall, -Prod.exists, -exists_and_left, -exists_and_right, hW0, hW1, dm_fn, dm_fd, dm_x, dm_L0, dm_la, dm_t1, dm_sw, List.headD, dm_ic, dm_mk, dm_s1, dm_s2, dm_clr, dm_cs, dm_cc, dm_nb0, dm_nb1, Value.category, List.lookup, p_X1_fillCheapFirst, x_X1_fillCheapFirst, k_X1_fillCheapFirst, dm_cm, upd, vp_updL, dm_ui_1, dm_ui_2, dm_ul_1, dm_ul_2, sp_X1_amountOn, sp_X2_lowOf, sp_J9_min_f86c9, sC_0, sC_1, sC_2, sC_3, sC_4, sC_5, sC_6, sC_7, sC_8, sC_9, sC_10, sC_11, sC_12, sC_13, sC_14, sC_15, sC_16, sC_17, sC_18, sC_19, sC_20, sC_21, sC_22, sC_23, sC_24, sC_25, sC_26, sC_27, sC_28, sC_29, sC_30, sC_31, sC_32, sC_33, sC_34, sC_35, sC_36, sC_37, sC_38, sC_39, sC_40, sC_41, sC_42, sC_43, sC_44, sC_45, sC_46, sC_47, sC_48, sC_49, sC_50, sC_51]
    have := outer A.M 0 (by omega) lo none none none hl (fun _ _ => rfl)
    rw [← e24, dm_sj_self] at this
    exact this
  · exact hh.elim
set_option maxRecDepth 100000 in
theorem t_X1_fillCheapFirst (l : Launch) (D : va_G) (cA : Nat → ClassId) (ad : Nat → Nat) : dm_Met l D dm_cl cA ad shC yX1_fillCheapFirst (Cond.code yX1_fillCheapFirst cX1_fillCheapFirst 5 (dm_rt 0) :: dm_tt) ({ frames := 2, cells := 0, slots := 0, locals := 45 } : Room) sp_X1_fillCheapFirst := dm_meth (own := RX1) (X := x_X1_fillCheapFirst) (Sp := k_X1_fillCheapFirst) (prog := p_X1_fillCheapFirst) (by decide +kernel) rfl rfl (dm_FO_s ffX1 [(9, 1, 1), (21, 1, 4), (28, 1, 6), (40, 1, 0), (48, 2, 9)] rfl dm_hT (by decide +kernel)) (dm_IO_s ifX1 jfX1 [] [] rfl rfl dm_hT (by decide +kernel) (by decide +kernel)) soC (dm_MO_of (List.forall_mem_cons.mpr ⟨dm_M1_of (t_X1_amountOn l D cA ad) dm_hT (dm_mem [584, 68, 581] (by decide +kernel) (by decide +kernel)) (by decide) (by decide +kernel) (Or.inr ⟨by decide, dm_mem [582, 583] (by decide +kernel) (by decide +kernel), rfl⟩), List.forall_mem_cons.mpr ⟨dm_M1_of (t_X2_lowOf l D cA ad) dm_hT (dm_mem [588, 67, 585] (by decide +kernel) (by decide +kernel)) (by decide) (by decide +kernel) (Or.inr ⟨by decide, dm_mem [586, 587] (by decide +kernel) (by decide +kernel), rfl⟩), List.forall_mem_cons.mpr ⟨dm_M1_of (t_J9_min_f86c9 l D cA ad) dm_hT (dm_mem [621, 79, 686] (by decide +kernel) (by decide +kernel)) (by decide) (by decide +kernel) (Or.inl ⟨rfl, dm_mem (ws := [.static yJ9_min_f86c9]) [620] (by decide +kernel) (by decide +kernel) _ List.mem_cons_self⟩), fun _ h => absurd h List.not_mem_nil⟩⟩⟩)) v_X1_fillCheapFirst u_X1_fillCheapFirst
