/-! ===== Router.closeLanes, putBack ===== -/
theorem cnfs_mono2 {pt : Nat → Nat} {i : Nat} : ∀ k, cn_fs pt i ≤ cn_fs pt (i + k) := fun k => cn_fs_mono k

theorem AN.fs_le {A : AN} (hA : A.ok) {a : Nat} (ha : a < A.M) : cn_fs A.pt a + A.pt a ≤ A.K := by
  have h2 := cnfs_mono2 (pt := A.pt) (i := a + 1) (A.M - (a + 1))
  rw [show a + 1 + (A.M - (a + 1)) = A.M by omega] at h2
  exact h2
def cl_lo (A : AN) (a : Nat) (op : Nat → Bool) (lo : Nat → Int) (k : Nat) : Nat → Int := fun l => if (cn_fs A.pt a ≤ l ∧ l < cn_fs A.pt a + k) ∧ op l = true then 0 else lo l
def cl_op (A : AN) (a : Nat) (op : Nat → Bool) (k : Nat) : Nat → Bool := fun l => if cn_fs A.pt a ≤ l ∧ l < cn_fs A.pt a + k then false else op l
def cl_tk (A : AN) (a : Nat) (op : Nat → Bool) (lo : Nat → Int) (k : Nat) : Int := sI (fun j => if op (cn_fs A.pt a + j) then lo (cn_fs A.pt a + j) else 0) k
def cl_fr (u u' : dm_S) : Prop := (∀ c, c ≠ 32 → u'.1 c = u.1 c) ∧ ∀ c, c ≠ 24 → c ≠ 25 → u'.2 c = u.2 c
def sp_X7_closeLanes (As : List Value) (u : dm_S) (Q : Option Value → dm_S → Prop) : Prop := match As with
  | [.ref 4, .int x] => ∃ (A : AN) (op : Nat → Bool) (lo ex : Nat → Int) (a : Nat), A.ok ∧ CR u A ∧ LN u A ∧ op_ok u A.K op ∧ u.2 24 = lF lo ∧ u.2 25 = lF ex ∧ a < A.M ∧ x = nI a ∧ lB (cl_tk A a op lo (A.pt a)) ∧
    ∀ u' : dm_S, cl_fr u u' → op_ok u' A.K (cl_op A a op (A.pt a)) → u'.2 24 = lF (cl_lo A a op lo (A.pt a)) → u'.2 25 = lF (fun v => ex v + (if A.fr a = v then cl_tk A a op lo (A.pt a) else 0) - (if A.tr a = v then cl_tk A a op lo (A.pt a) else 0)) → Q (some (.int (if 0 < cl_tk A a op lo (A.pt a) then 1 else 0))) u'
  | _ => False
def p_X7_closeLanes : List dm_I := [(0, .lconst 0, 1, []), (1, .lstore_n 2, 1, [2]), (2, .aload_n 0, 1, [0]), (3, .getfield 30, 3, []), (6, .getfield 72, 3, []), (9, .iload_n 1, 1, [1]), (10, .iaload, 1, []), (11, .istore 4, 2, []), (13, .iload 4, 2, []), (15, .aload_n 0, 1, [0]), (16, .getfield 30, 3, []), (19, .getfield 72, 3, []), (22, .iload_n 1, 1, [1]), (23, .iconst 1, 1, []), (24, .iadd, 1, []), (25, .iaload, 1, []), (26, .if_icmp .ge 51, 3, [77]), (29, .aload_n 0, 1, [0]), (30, .getfield 9, 3, []), (33, .iload 4, 2, []), (35, .baload, 1, []), (36, .ifCond .eq 35, 3, [71]), (39, .lload_n 2, 1, [2]), (40, .aload_n 0, 1, [0]), (41, .getfield 30, 3, []), (44, .getfield 75, 3, []), (47, .iload 4, 2, []), (49, .laload, 1, []), (50, .ladd, 1, []), (51, .lstore_n 2, 1, [2]), (52, .aload_n 0, 1, [0]), (53, .getfield 30, 3, []), (56, .getfield 75, 3, []), (59, .iload 4, 2, []), (61, .lconst 0, 1, []), (62, .lastore, 1, []), (63, .aload_n 0, 1, [0]), (64, .getfield 9, 3, []), (67, .iload 4, 2, []), (69, .iconst 0, 1, []), (70, .bastore, 1, []), (71, .iinc 4 1, 3, []), (74, .goto (-61), 3, [13]), (77, .aload_n 0, 1, [0]), (78, .getfield 30, 3, []), (81, .getfield 78, 3, []), (84, .aload_n 0, 1, [0]), (85, .getfield 26, 3, []), (88, .getfield 81, 3, []), (91, .iload_n 1, 1, [1]), (92, .iaload, 1, []), (93, .dup2, 1, []), (94, .laload, 1, []), (95, .lload_n 2, 1, [2]), (96, .ladd, 1, []), (97, .lastore, 1, []), (98, .aload_n 0, 1, [0]), (99, .getfield 30, 3, []), (102, .getfield 78, 3, []), (105, .aload_n 0, 1, [0]), (106, .getfield 26, 3, []), (109, .getfield 84, 3, []), (112, .iload_n 1, 1, [1]), (113, .iaload, 1, []), (114, .dup2, 1, []), (115, .laload, 1, []), (116, .lload_n 2, 1, [2]), (117, .lsub, 1, []), (118, .lastore, 1, []), (119, .lload_n 2, 1, [2]), (120, .lconst 0, 1, []), (121, .lcmp, 1, []), (122, .ifCond .le 7, 3, [129]), (125, .iconst 1, 1, []), (126, .goto 4, 3, [130]), (129, .iconst 0, 1, []), (130, .ireturn, 1, [])]
set_option maxRecDepth 100000 in
theorem v_X7_closeLanes : p_X7_closeLanes.all (dm_vb cX7_closeLanes) = true := by decide +kernel
def k_X7_closeLanes : dm_Sp := fun a => match a with
  | _ => fun _ _ _ => False
def x_X7_closeLanes : dm_X := dm_mk [(9, 7, 2), (26, 7, 0), (30, 7, 1), (72, 1, 1), (75, 1, 6), (78, 1, 7), (81, 2, 1), (84, 2, 2)] [] [] [] 3
set_option maxRecDepth 100000 in
set_option maxHeartbeats 800000 in
theorem u_X7_closeLanes : dm_Pure shC x_X7_closeLanes k_X7_closeLanes p_X7_closeLanes 5 sp_X7_closeLanes := by
  intro As u Qp h
  unfold sp_X7_closeLanes at h
  split at h
  · obtain ⟨A, op, lo, ex, a, hA, hC, hL, hO, e24, e25, ha, rfl, hB, h⟩ := h
    obtain ⟨hn, hM⟩ := hA.1
    have hK := A.K_le hA
    have hfs := AN.fs_le hA ha
    obtain ⟨⟨c1, c2⟩, -, c5, -⟩ := hC.2.2 a ha
    obtain ⟨⟨d1, d2, d3⟩, ⟨d4, d5⟩, -⟩ := hA.2.1 a ha
    have f1 := hL.1 a (by omega)
    have f2 : u.1 19 (a + 1) = nI (cn_fs A.pt a + A.pt a) := hL.1 (a + 1) (by omega)
    have ca : (nI a).toNatClampNeg = a := nI_clamp (by omega)
    have ca1 : (nI (a + 1)).toNatClampNeg = a + 1 := nI_clamp (by omega)
    have cf : (nI (A.fr a)).toNatClampNeg = A.fr a := nI_clamp (by omega)
    have ct : (nI (A.tr a)).toNatClampNeg = A.tr a := nI_clamp (by omega)
    refine ⟨Nat.le_of_ble_eq_true rfl, fun G Wp hW0 hW1 hG => ?_⟩
    have loop : ∀ k2 k : Nat, k + k2 = A.pt a → ∀ u' : dm_S, cl_fr u u' → op_ok u' A.K (cl_op A a op k) → u'.2 24 = lF (cl_lo A a op lo k) → u'.2 25 = lF ex → G 13 [some (.ref 4), some (.int (nI a)), some (.long (lI (cl_tk A a op lo k))), none, some (.int (nI (cn_fs A.pt a + k)))] [] u' := by
      intro k2
      induction k2 with
      | zero =>
        intro k hk u' a1 a2 a3 a4
        have e : k = A.pt a := by omega
        subst e
        apply hG (fun pc => pc == 13) 80
        simp (config := { maxSteps := 2000000 }) [-Prod.forall, -Prod.exists, -exists_and_left, -exists_and_right, hW0, hW1, dm_fn, dm_fd, dm_x, dm_L0, dm_la, dm_t1, dm_sw, List.headD, dm_ic, dm_mk, dm_s1, dm_s2, dm_clr, dm_cs, dm_cc, dm_nb0, dm_nb1, Value.category, List.lookup, p_X7_closeLanes, x_X7_closeLanes, k_X7_closeLanes, dm_cm, upd, vp_updL, dm_ui_1, dm_ui_2, dm_ul_1, dm_ul_2, sC_0, sC_1, sC_2, sC_3, sC_4, sC_5, sC_6, sC_7, sC_8, sC_9, sC_10, sC_11, sC_12, sC_13, sC_14, sC_15, sC_16, sC_17, sC_18, sC_19, sC_20, sC_21, sC_22, sC_23, sC_24, sC_25, sC_26, sC_27, sC_28, sC_29, sC_30, sC_31, sC_32, sC_33, sC_34, sC_35, sC_36, sC_37, sC_38, sC_39, sC_40, sC_41, sC_42, sC_43, sC_44, sC_45, sC_46, sC_47, sC_48, sC_49, sC_50, sC_51]
        rw [a1.1 19 (by decide), a1.1 12 (by decide), a1.1 13 (by decide), nI_1, ca1, ca, f2, c1, c2, cf, ct, a4, if_neg (Ne.symm d3), lF_at, lF_at, lI_add, lI_sub]
        have hst : dm_ul (dm_ul u' 25 (A.fr a) (lI (ex (A.fr a) + cl_tk A a op lo (A.pt a)))) 25 (A.tr a) (lI (ex (A.tr a) - cl_tk A a op lo (A.pt a))) = dm_sj u' 25 (lF (fun v => ex v + (if A.fr a = v then cl_tk A a op lo (A.pt a) else 0) - (if A.tr a = v then cl_tk A a op lo (A.pt a) else 0))) := by
          rw [dm_ul_sj, dm_ul_sj, a4, lF_upd, dm_sj_2s]
          show dm_sj u' 25 (vp_updL (lF (uI ex (A.fr a) (ex (A.fr a) + cl_tk A a op lo (A.pt a)))) (A.tr a) (lI (ex (A.tr a) - cl_tk A a op lo (A.pt a)))) = _
          rw [lF_upd]
          congr 2
          funext v
          unfold uI
          by_cases q1 : v = A.tr a
          · rw [if_pos q1, if_neg (by rw [q1]; exact d3), if_pos q1.symm, q1]; omega
          · rw [if_neg q1, if_neg (Ne.symm q1)]
            by_cases q2 : v = A.fr a
            · rw [if_pos q2, if_pos q2.symm, q2]; omega
            · rw [if_neg q2, if_neg (Ne.symm q2)]; omega
        rw [hst]
        have hq := h (dm_sj u' 25 (lF (fun v => ex v + (if A.fr a = v then cl_tk A a op lo (A.pt a) else 0) - (if A.tr a = v then cl_tk A a op lo (A.pt a) else 0)))) ⟨a1.1, fun c q1 q2 => by rw [dm_sj_2, if_neg q2]; exact a1.2 c q1 q2⟩ a2 a3 rfl
        have hB0 : lB 0 := by unfold lB; omega
        have h0 : (0 : Int64) = lI 0 := rfl
        refine ⟨vp_in_nI (by omega) (by omega), fun _ => ⟨vp_in_nI (by omega) (by omega), vp_in_nI (by omega) (by omega), vp_in_nI (by omega) (by omega), vp_in_nI (by omega) (by omega), fun z => ?_, fun z => ?_⟩, fun zq => absurd zq (nI_nlt (Nat.le_refl _) (by omega))⟩
        · rw [h0, lI_le hB hB0] at z
          rw [if_neg (by omega)] at hq; exact hq
        · rw [h0, lI_lt hB0 hB] at z
          rw [if_pos z] at hq; exact hq
      | succ k2 ih =>
        intro k hk u' a1 a2 a3 a4
        have hlk : cn_fs A.pt a + k < A.K := by omega
        have cl : (nI (cn_fs A.pt a + k)).toNatClampNeg = cn_fs A.pt a + k := nI_clamp (by omega)
        apply hG (fun pc => pc == 13) 80
        simp (config := { maxSteps := 2000000 }) [-Prod.forall, -Prod.exists, -exists_and_left, -exists_and_right, hW0, hW1, dm_fn, dm_fd, dm_x, dm_L0, dm_la, dm_t1, dm_sw, List.headD, dm_ic, dm_mk, dm_s1, dm_s2, dm_clr, dm_cs, dm_cc, dm_nb0, dm_nb1, Value.category, List.lookup, p_X7_closeLanes, x_X7_closeLanes, k_X7_closeLanes, dm_cm, upd, vp_updL, dm_ui_1, dm_ui_2, dm_ul_1, dm_ul_2, sC_0, sC_1, sC_2, sC_3, sC_4, sC_5, sC_6, sC_7, sC_8, sC_9, sC_10, sC_11, sC_12, sC_13, sC_14, sC_15, sC_16, sC_17, sC_18, sC_19, sC_20, sC_21, sC_22, sC_23, sC_24, sC_25, sC_26, sC_27, sC_28, sC_29, sC_30, sC_31, sC_32, sC_33, sC_34, sC_35, sC_36, sC_37, sC_38, sC_39, sC_40, sC_41, sC_42, sC_43, sC_44, sC_45, sC_46, sC_47, sC_48, sC_49, sC_50, sC_51]
        rw [a1.1 19 (by decide), nI_1, nI_1, ca1, f2, cl, a2 _ hlk, a3]
        have il : vp_in (nI (cn_fs A.pt a + k)) 320 := vp_in_nI (by omega) (by omega)
        have hop : cl_op A a op k (cn_fs A.pt a + k) = op (cn_fs A.pt a + k) := if_neg (by omega)
        have hlo : cl_lo A a op lo k (cn_fs A.pt a + k) = lo (cn_fs A.pt a + k) := if_neg (by omega)
        rw [hop, lF_at, hlo, lI_add]
        have ht : cl_tk A a op lo (k + 1) = cl_tk A a op lo k + (if op (cn_fs A.pt a + k) = true then lo (cn_fs A.pt a + k) else 0) := rfl
        have e := ih (k + 1) (by omega)
        refine ⟨vp_in_nI (by omega) (by omega), fun zq => absurd zq (nI_ge (by omega) (by omega)), fun zq => ⟨il, fun z => ?_, fun z => ⟨il, ?_⟩⟩⟩
        · have z1 : ¬ op (cn_fs A.pt a + k) = true := fun y => by rw [if_pos y] at z; cases z
          rw [if_neg z1, Int.add_zero] at ht
          have e2 := e u' a1 (fun l hl => ?_) ?_ a4
          · rw [ht] at e2; exact e2
          · rw [a2 l hl]
            congr 2
            unfold cl_op
            by_cases y : l = cn_fs A.pt a + k
            · rw [if_neg (by omega), y, if_pos (by omega)]
              simpa using z1
            · by_cases y2 : cn_fs A.pt a ≤ l ∧ l < cn_fs A.pt a + k
              · rw [if_pos y2, if_pos (by omega)]
              · rw [if_neg y2, if_neg (by omega)]
          · rw [a3]
            congr 1
            funext l
            unfold cl_lo
            by_cases y : l = cn_fs A.pt a + k
            · rw [if_neg (by omega), y, if_neg (fun y2 => z1 y2.2)]
            · by_cases y2 : (cn_fs A.pt a ≤ l ∧ l < cn_fs A.pt a + k) ∧ op l = true
              · rw [if_pos y2, if_pos ⟨by omega, y2.2⟩]
              · rw [if_neg y2, if_neg (fun y3 => y2 ⟨by omega, y3.2⟩)]
        · have z1 : op (cn_fs A.pt a + k) = true := by
            cases y : op (cn_fs A.pt a + k)
            · rw [y] at z; exact absurd rfl z
            · rfl
          rw [if_pos z1] at ht
          have e2 := e (dm_ui (dm_ul u' 24 (cn_fs A.pt a + k) 0) 32 (cn_fs A.pt a + k) 0) ⟨fun c hc => ?_, fun c q1 q2 => ?_⟩ (fun l hl => ?_) ?_ ?_
          · rw [ht] at e2; exact e2
          · rw [dm_ui_1, if_neg hc]; exact a1.1 c hc
          · rw [dm_ui_2, dm_ul_2, if_neg q1]; exact a1.2 c q1 q2
          · rw [dm_ui_1, if_pos rfl]
            by_cases y : l = cn_fs A.pt a + k
            · have e3 : cl_op A a op (k + 1) l = false := if_pos (by omega)
              rw [e3, y]
              unfold upd
              rw [if_pos rfl]; rfl
            · have e3 : cl_op A a op (k + 1) l = cl_op A a op k l := by
                unfold cl_op
                by_cases y2 : cn_fs A.pt a ≤ l ∧ l < cn_fs A.pt a + k
                · rw [if_pos y2, if_pos (by omega)]
                · rw [if_neg y2, if_neg (by omega)]
              rw [e3, ← a2 l hl]
              unfold upd
              rw [if_neg y]; rfl
          · rw [dm_ui_2, dm_ul_2, if_pos rfl, a3, show (0 : Int64) = lI 0 from rfl, lF_upd]
            congr 1
            funext l
            unfold uI cl_lo
            by_cases y : l = cn_fs A.pt a + k
            · rw [if_pos y, if_pos ⟨by omega, by rw [y]; exact z1⟩]
            · rw [if_neg y]
              by_cases y2 : (cn_fs A.pt a ≤ l ∧ l < cn_fs A.pt a + k) ∧ op l = true
              · rw [if_pos y2, if_pos ⟨by omega, y2.2⟩]
              · rw [if_neg y2, if_neg (fun y3 => y2 ⟨by omega, y3.2⟩)]
          · rw [dm_ui_2, dm_ul_2, if_neg (by decide)]; exact a4
    apply hG (fun pc => pc == 13) 80
    simp (config := { maxSteps := 2000000 }) [-Prod.forall, -Prod.exists, -exists_and_left, -exists_and_right, hW0, hW1, dm_fn, dm_fd, dm_x, dm_L0, dm_la, dm_t1, dm_sw, List.headD, dm_ic, dm_mk, dm_s1, dm_s2, dm_clr, dm_cs, dm_cc, dm_nb0, dm_nb1, Value.category, List.lookup, p_X7_closeLanes, x_X7_closeLanes, k_X7_closeLanes, dm_cm, upd, vp_updL, dm_ui_1, dm_ui_2, dm_ul_1, dm_ul_2, sC_0, sC_1, sC_2, sC_3, sC_4, sC_5, sC_6, sC_7, sC_8, sC_9, sC_10, sC_11, sC_12, sC_13, sC_14, sC_15, sC_16, sC_17, sC_18, sC_19, sC_20, sC_21, sC_22, sC_23, sC_24, sC_25, sC_26, sC_27, sC_28, sC_29, sC_30, sC_31, sC_32, sC_33, sC_34, sC_35, sC_36, sC_37, sC_38, sC_39, sC_40, sC_41, sC_42, sC_43, sC_44, sC_45, sC_46, sC_47, sC_48, sC_49, sC_50, sC_51]
    rw [ca, f1]
    refine ⟨vp_in_nI (by omega) (by omega), loop (A.pt a) 0 (by omega) u ⟨fun _ _ => rfl, fun _ _ _ => rfl⟩ (fun l hl => ?_) ?_ e25⟩
    · have e0 : cl_op A a op 0 l = op l := if_neg (by omega)
      rw [hO l hl, e0]
    · rw [e24]
      congr 1
      funext l
      unfold cl_lo
      rw [if_neg (by omega)]
  · exact h.elim
set_option maxRecDepth 100000 in
theorem t_X7_closeLanes (l : Launch) (D : va_G) (cA : Nat → ClassId) (ad : Nat → Nat) : dm_Met l D dm_cl cA ad shC yX7_closeLanes (Cond.code yX7_closeLanes cX7_closeLanes 5 (dm_rt 3) :: dm_tt) ({ frames := 0, cells := 0, slots := 0, locals := 0 } : Room) sp_X7_closeLanes := dm_meth (own := RX7) (X := x_X7_closeLanes) (Sp := k_X7_closeLanes) (prog := p_X7_closeLanes) (by decide +kernel) rfl rfl (dm_FO_s ffX7 [(9, 7, 2), (26, 7, 0), (30, 7, 1), (72, 1, 1), (75, 1, 6), (78, 1, 7), (81, 2, 1), (84, 2, 2)] rfl dm_hT (by decide +kernel)) (dm_IO_s ifX7 jfX7 [] [] rfl rfl dm_hT (by decide +kernel) (by decide +kernel)) soC (dm_MO_of (fun _ h => absurd h List.not_mem_nil)) v_X7_closeLanes u_X7_closeLanes
