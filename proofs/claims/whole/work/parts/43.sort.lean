/-! ===== Lanes.sortWays ===== -/
def sr_fr (u u' : dm_S) : Prop := (∀ c, c ≠ 26 → c ≠ 27 → u'.1 c = u.1 c) ∧ u'.2 = u.2
theorem sr_ln {u u' : dm_S} {n K : Nat} {b e : Nat → Nat} (h : ln_ok u n K b e) (hf : sr_fr u u') : ln_ok u' n K b e := by
  refine ⟨?_, fun l hl => ?_⟩
  · rw [hf.1 1 (by decide) (by decide), hf.1 2 (by decide) (by decide)]; exact h.1
  · rw [hf.1 20 (by decide) (by decide), hf.1 21 (by decide) (by decide)]; exact h.2 l hl
theorem sr_u26 {u u' : dm_S} {j : Nat} {x : Int32} (hf : sr_fr u u') : sr_fr u (dm_ui u' 26 j x) := ⟨fun c a b => by rw [dm_ui_1, if_neg a]; exact hf.1 c a b, hf.2⟩
theorem sr_u27 {u u' : dm_S} {j : Nat} {x : Int32} (hf : sr_fr u u') : sr_fr u (dm_ui u' 27 j x) := ⟨fun c a b => by rw [dm_ui_1, if_neg b]; exact hf.1 c a b, hf.2⟩
theorem nI_sub1 {a : Nat} (h : 1 ≤ a) : nI a - 1 = nI (a - 1) := by
  rw [show a = (a - 1) + 1 by omega, nI_pred, Nat.add_sub_cancel]
def sp_X1_sortWays (As : List Value) (u : dm_S) (Q : Option Value → dm_S → Prop) : Prop := match As with
  | [.ref 2] => ∃ (n K : Nat) (b e : Nat → Nat), ln_ok u n K b e ∧ ∀ (u' : dm_S) (hd sr : Nat → Nat), sr_fr u u' → so_ok u' n K b e hd sr → Q none u'
  | _ => False
def p_X1_sortWays : List dm_I := [(0, .aload_n 0, 1, [0]), (1, .getfield 34, 3, []), (4, .iconst 0, 1, []), (5, .invokestatic 73, 3, []), (8, .iconst 0, 1, []), (9, .istore_n 1, 1, [1]), (10, .iload_n 1, 1, [1]), (11, .iconst 2, 1, []), (12, .aload_n 0, 1, [0]), (13, .getfield 44, 3, []), (16, .imul, 1, []), (17, .if_icmp .ge 23, 3, [40]), (20, .aload_n 0, 1, [0]), (21, .getfield 34, 3, []), (24, .aload_n 0, 1, [0]), (25, .iload_n 1, 1, [1]), (26, .invokevirtual 79, 3, []), (29, .dup2, 1, []), (30, .iaload, 1, []), (31, .iconst 1, 1, []), (32, .iadd, 1, []), (33, .iastore, 1, []), (34, .iinc 1 1, 3, []), (37, .goto (-27), 3, [10]), (40, .iconst 1, 1, []), (41, .istore_n 1, 1, [1]), (42, .iload_n 1, 1, [1]), (43, .bipush 24, 2, []), (45, .if_icmp .gt 26, 3, [71]), (48, .aload_n 0, 1, [0]), (49, .getfield 34, 3, []), (52, .iload_n 1, 1, [1]), (53, .dup2, 1, []), (54, .iaload, 1, []), (55, .aload_n 0, 1, [0]), (56, .getfield 34, 3, []), (59, .iload_n 1, 1, [1]), (60, .iconst 1, 1, []), (61, .isub, 1, []), (62, .iaload, 1, []), (63, .iadd, 1, []), (64, .iastore, 1, []), (65, .iinc 1 1, 3, []), (68, .goto (-26), 3, [42]), (71, .iconst 2, 1, []), (72, .aload_n 0, 1, [0]), (73, .getfield 44, 3, []), (76, .imul, 1, []), (77, .iconst 1, 1, []), (78, .isub, 1, []), (79, .istore_n 1, 1, [1]), (80, .iload_n 1, 1, [1]), (81, .ifCond .lt 37, 3, [118]), (84, .aload_n 0, 1, [0]), (85, .iload_n 1, 1, [1]), (86, .invokevirtual 79, 3, []), (89, .istore_n 2, 1, [2]), (90, .aload_n 0, 1, [0]), (91, .getfield 34, 3, []), (94, .iload_n 2, 1, [2]), (95, .dup2, 1, []), (96, .iaload, 1, []), (97, .iconst 1, 1, []), (98, .isub, 1, []), (99, .iastore, 1, []), (100, .aload_n 0, 1, [0]), (101, .getfield 37, 3, []), (104, .aload_n 0, 1, [0]), (105, .getfield 34, 3, []), (108, .iload_n 2, 1, [2]), (109, .iaload, 1, []), (110, .iload_n 1, 1, [1]), (111, .iastore, 1, []), (112, .iinc 1 (-1), 3, []), (115, .goto (-35), 3, [80]), (118, .return_, 1, [])]
set_option maxRecDepth 100000 in
theorem v_X1_sortWays : p_X1_sortWays.all (dm_vb cX1_sortWays) = true := by decide +kernel
def k_X1_sortWays : dm_Sp := fun a => match a with
  | 0 => sp_J7_fill_53178
  | 1 => sp_X1_beginOf
  | _ => fun _ _ _ => False
def x_X1_sortWays : dm_X := dm_mk [(34, 1, 8), (37, 1, 9), (44, 1, 10)] [] [] [(73, 0, 2, 1000), (79, 1, 1, 1)] 0
set_option maxRecDepth 100000 in
set_option maxHeartbeats 800000 in
theorem u_X1_sortWays : dm_Pure shC x_X1_sortWays k_X1_sortWays p_X1_sortWays 3 sp_X1_sortWays := by
  intro As u Qp h
  unfold sp_X1_sortWays at h
  split at h
  · obtain ⟨n, K, b, e, hl, h⟩ := h
    obtain ⟨hn, hK, en, eK⟩ := hl.1
    refine ⟨Nat.le_of_ble_eq_true rfl, fun G Wp hW0 hW1 hG => ?_⟩
    have hg : ∀ w, w < 2 * K → wb b e w < 24 := fun w hw => by have := (ln_b hl hw).2; omega
    have hN := kp_all (g := wb b e) (V := 24) (N := 2 * K) hg
    have hkp : ∀ v, v ≤ 24 → kp (wb b e) (2 * K) v ≤ 2 * K := fun v hv => by
      have := kp_mono (g := wb b e) (N := 2 * K) (i := v) (24 - v)
      rw [show v + (24 - v) = 24 by omega, hN] at this
      exact this
    have hkq : ∀ t v, kq (wb b e) t v ≤ t := fun t v => cN_le
    have loop3 : ∀ t : Nat, t ≤ 2 * K → ∀ (u' : dm_S) (o2 : Option Value), sr_fr u u' → (∀ v, v < 25 → u'.1 26 v = nI (kp (wb b e) (2 * K) v + kq (wb b e) t v)) → (∀ w, t ≤ w → w < 2 * K → u'.1 27 (kw (wb b e) (2 * K) w) = nI w) → G 80 [some (.ref 2), some (.int (nI t - 1)), o2] [] u' := by
      intro t
      induction t with
      | zero =>
        intro ht u' o2 a1 a2 a3
        apply hG (fun pc => pc == 80) 60
        simp (config := { maxSteps := 2000000 }) [-Prod.forall, -Prod.exists, -exists_and_left, -exists_and_right, hW0, hW1, dm_fn, dm_fd, dm_x, dm_L0, dm_la, dm_t1, dm_sw, List.headD, dm_ic, dm_mk, dm_s1, dm_s2, dm_clr, dm_cs, dm_cc, dm_nb0, dm_nb1, Value.category, List.lookup, p_X1_sortWays, x_X1_sortWays, k_X1_sortWays, dm_cm, upd, vp_updL, dm_ui_1, dm_ui_2, dm_ul_1, dm_ul_2, sp_J7_fill_53178, sp_X1_beginOf, sC_0, sC_1, sC_2, sC_3, sC_4, sC_5, sC_6, sC_7, sC_8, sC_9, sC_10, sC_11, sC_12, sC_13, sC_14, sC_15, sC_16, sC_17, sC_18, sC_19, sC_20, sC_21, sC_22, sC_23, sC_24, sC_25, sC_26, sC_27, sC_28, sC_29, sC_30, sC_31, sC_32, sC_33, sC_34, sC_35, sC_36, sC_37, sC_38, sC_39, sC_40, sC_41, sC_42, sC_43, sC_44, sC_45, sC_46, sC_47, sC_48, sC_49, sC_50, sC_51]
        refine ⟨fun _ => h u' (kp (wb b e) (2 * K)) (fun i => (u'.1 27 i).toNatClampNeg) a1 ⟨fun v hv => ?_, fun v hv => ⟨kp_mono 1, hkp _ (by omega)⟩, fun v t hv t1 t2 => ?_, fun w hw => ?_⟩, fun zq => absurd zq (by decide)⟩
        · rw [a2 v (by omega)]; rfl
        · obtain ⟨w, w1, w2, w3⟩ := kw_sur t1 t2
          have := a3 w (by omega) w1
          rw [w3] at this
          show u'.1 27 t = nI ((u'.1 27 t).toNatClampNeg) ∧ (u'.1 27 t).toNatClampNeg < 2 * K ∧ wb b e ((u'.1 27 t).toNatClampNeg) = v
          rw [this, nI_clamp (by omega)]
          exact ⟨rfl, w1, w2⟩
        · obtain ⟨k1, k2⟩ := kw_in (g := wb b e) hw
          refine ⟨kw (wb b e) (2 * K) w, k1, k2, ?_⟩
          show (u'.1 27 (kw (wb b e) (2 * K) w)).toNatClampNeg = w
          rw [a3 w (by omega) hw, nI_clamp (by omega)]
      | succ t ih =>
        intro ht u' o2 a1 a2 a3
        rw [nI_pred]
        obtain ⟨e1, l1⟩ := ln_b (sr_ln hl a1) (w := t) (by omega)
        obtain ⟨k1, k2⟩ := kw_in (g := wb b e) (N := 2 * K) (w := t) (by omega)
        have hq1 : kq (wb b e) (t + 1) (wb b e t) = kq (wb b e) t (wb b e t) + 1 := by
          unfold kq
          rw [cN_s, if_pos (by simp)]
        have hk2 := hkp (wb b e t + 1) (by omega)
        apply hG (fun pc => pc == 80) 60
        simp (config := { maxSteps := 2000000 }) [-Prod.forall, -Prod.exists, -exists_and_left, -exists_and_right, hW0, hW1, dm_fn, dm_fd, dm_x, dm_L0, dm_la, dm_t1, dm_sw, List.headD, dm_ic, dm_mk, dm_s1, dm_s2, dm_clr, dm_cs, dm_cc, dm_nb0, dm_nb1, Value.category, List.lookup, p_X1_sortWays, x_X1_sortWays, k_X1_sortWays, dm_cm, upd, vp_updL, dm_ui_1, dm_ui_2, dm_ul_1, dm_ul_2, sp_J7_fill_53178, sp_X1_beginOf, sC_0, sC_1, sC_2, sC_3, sC_4, sC_5, sC_6, sC_7, sC_8, sC_9, sC_10, sC_11, sC_12, sC_13, sC_14, sC_15, sC_16, sC_17, sC_18, sC_19, sC_20, sC_21, sC_22, sC_23, sC_24, sC_25, sC_26, sC_27, sC_28, sC_29, sC_30, sC_31, sC_32, sC_33, sC_34, sC_35, sC_36, sC_37, sC_38, sC_39, sC_40, sC_41, sC_42, sC_43, sC_44, sC_45, sC_46, sC_47, sC_48, sC_49, sC_50, sC_51]
        refine ⟨fun zq => absurd zq (nI_pos (by omega)), fun zq => ⟨t, by omega, rfl, ?_⟩⟩
        rw [e1, nI_clamp (n := wb b e t) (by omega), a2 _ (by omega), hq1, dm_m1]
        have e2 : nI (kp (wb b e) (2 * K) (wb b e t) + (kq (wb b e) t (wb b e t) + 1)) - 1 = nI (kw (wb b e) (2 * K) t) := by
          rw [← Nat.add_assoc, nI_pred]; rfl
        rw [e2, nI_clamp (n := kw (wb b e) (2 * K) t) (by omega)]
        refine ⟨vp_in_nI (by omega) (by omega), vp_in_nI (by omega) (by omega), ?_⟩
        refine ih (by omega) _ _ (sr_u27 (sr_u26 a1)) (fun v hv => ?_) (fun w w1 w2 => ?_)
        · rw [dm_ui_1, if_neg (by decide), dm_ui_1, if_pos rfl]
          unfold upd
          by_cases y : v = wb b e t
          · rw [if_pos y, y]; rfl
          · rw [if_neg y, a2 v hv]
            congr 2
            unfold kq
            rw [cN_s, if_neg (by simp; exact fun z => y z.symm)]
            rfl
        · rw [dm_ui_1, if_pos rfl]
          unfold upd
          by_cases y : w = t
          · rw [if_pos (by rw [y]), y]
          · rw [if_neg (fun z => y (kw_inj w2 (by omega) z)), dm_ui_1, if_neg (by decide)]
            exact a3 w (by omega) w2
    have loop2 : ∀ k i : Nat, i + k = 25 → 1 ≤ i → ∀ (u' : dm_S) (o2 : Option Value), sr_fr u u' → (∀ v, v < i → u'.1 26 v = nI (kp (wb b e) (2 * K) (v + 1))) → (∀ v, i ≤ v → v < 25 → u'.1 26 v = nI (kq (wb b e) (2 * K) v)) → G 42 [some (.ref 2), some (.int (nI i)), o2] [] u' := by
      intro k
      induction k with
      | zero =>
        intro i hi hi1 u' o2 a1 a2 a3
        have e1 : u'.1 2 10 = nI K := by rw [a1.1 2 (by decide) (by decide)]; exact eK
        apply hG (fun pc => pc == 42 || pc == 80) 60
        simp (config := { maxSteps := 2000000 }) [-Prod.forall, -Prod.exists, -exists_and_left, -exists_and_right, hW0, hW1, dm_fn, dm_fd, dm_x, dm_L0, dm_la, dm_t1, dm_sw, List.headD, dm_ic, dm_mk, dm_s1, dm_s2, dm_clr, dm_cs, dm_cc, dm_nb0, dm_nb1, Value.category, List.lookup, p_X1_sortWays, x_X1_sortWays, k_X1_sortWays, dm_cm, upd, vp_updL, dm_ui_1, dm_ui_2, dm_ul_1, dm_ul_2, sp_J7_fill_53178, sp_X1_beginOf, sC_0, sC_1, sC_2, sC_3, sC_4, sC_5, sC_6, sC_7, sC_8, sC_9, sC_10, sC_11, sC_12, sC_13, sC_14, sC_15, sC_16, sC_17, sC_18, sC_19, sC_20, sC_21, sC_22, sC_23, sC_24, sC_25, sC_26, sC_27, sC_28, sC_29, sC_30, sC_31, sC_32, sC_33, sC_34, sC_35, sC_36, sC_37, sC_38, sC_39, sC_40, sC_41, sC_42, sC_43, sC_44, sC_45, sC_46, sC_47, sC_48, sC_49, sC_50, sC_51]
        rw [e1, show (2 : Int32) = nI 2 from rfl, pk_mul]
        have e : i = 25 := by omega
        subst e
        exact ⟨fun _ => loop3 (2 * K) (Nat.le_refl _) u' _ a1 (fun v hv => a2 v hv) (fun w w1 w2 => by omega), fun zq => absurd zq (by decide)⟩
      | succ k ih =>
        intro i hi hi1 u' o2 a1 a2 a3
        apply hG (fun pc => pc == 42 || pc == 80) 60
        simp (config := { maxSteps := 2000000 }) [-Prod.forall, -Prod.exists, -exists_and_left, -exists_and_right, hW0, hW1, dm_fn, dm_fd, dm_x, dm_L0, dm_la, dm_t1, dm_sw, List.headD, dm_ic, dm_mk, dm_s1, dm_s2, dm_clr, dm_cs, dm_cc, dm_nb0, dm_nb1, Value.category, List.lookup, p_X1_sortWays, x_X1_sortWays, k_X1_sortWays, dm_cm, upd, vp_updL, dm_ui_1, dm_ui_2, dm_ul_1, dm_ul_2, sp_J7_fill_53178, sp_X1_beginOf, sC_0, sC_1, sC_2, sC_3, sC_4, sC_5, sC_6, sC_7, sC_8, sC_9, sC_10, sC_11, sC_12, sC_13, sC_14, sC_15, sC_16, sC_17, sC_18, sC_19, sC_20, sC_21, sC_22, sC_23, sC_24, sC_25, sC_26, sC_27, sC_28, sC_29, sC_30, sC_31, sC_32, sC_33, sC_34, sC_35, sC_36, sC_37, sC_38, sC_39, sC_40, sC_41, sC_42, sC_43, sC_44, sC_45, sC_46, sC_47, sC_48, sC_49, sC_50, sC_51]
        rw [nI_sub1 hi1, nI_1, nI_clamp (n := i) (by omega), nI_clamp (n := i - 1) (by omega), a3 i (Nat.le_refl _) (by omega), a2 (i - 1) (by omega), nI_add, show i - 1 + 1 = i by omega]
        have iv : vp_in (nI i) 25 := vp_in_nI (by omega) (by omega)
        refine ⟨fun zq => ?_, fun zq => ⟨iv, vp_in_nI (by omega) (by omega), iv, ?_⟩⟩
        · exact absurd zq (nI_nlt (a := 24) (b := i) (by omega) (by omega))
        · refine ih (i + 1) (by omega) (by omega) _ _ (sr_u26 a1) (fun v hv => ?_) (fun v h1 h2 => ?_)
          · rw [dm_ui_1, if_pos rfl]
            unfold upd
            by_cases y : v = i
            · rw [if_pos y, y, Nat.add_comm]; rfl
            · rw [if_neg y]; exact a2 v (by omega)
          · rw [dm_ui_1, if_pos rfl]
            unfold upd
            rw [if_neg (by omega)]
            exact a3 v (by omega) h2
    have loop1 : ∀ k t : Nat, t + k = 2 * K → ∀ (u' : dm_S) (o2 : Option Value), sr_fr u u' → (∀ v, v < 25 → u'.1 26 v = nI (kq (wb b e) t v)) → G 10 [some (.ref 2), some (.int (nI t)), o2] [] u' := by
      intro k
      induction k with
      | zero =>
        intro t ht u' o2 a1 a2
        have e1 : u'.1 2 10 = nI K := by rw [a1.1 2 (by decide) (by decide)]; exact eK
        apply hG (fun pc => pc == 10 || pc == 42) 60
        simp (config := { maxSteps := 2000000 }) [-Prod.forall, -Prod.exists, -exists_and_left, -exists_and_right, hW0, hW1, dm_fn, dm_fd, dm_x, dm_L0, dm_la, dm_t1, dm_sw, List.headD, dm_ic, dm_mk, dm_s1, dm_s2, dm_clr, dm_cs, dm_cc, dm_nb0, dm_nb1, Value.category, List.lookup, p_X1_sortWays, x_X1_sortWays, k_X1_sortWays, dm_cm, upd, vp_updL, dm_ui_1, dm_ui_2, dm_ul_1, dm_ul_2, sp_J7_fill_53178, sp_X1_beginOf, sC_0, sC_1, sC_2, sC_3, sC_4, sC_5, sC_6, sC_7, sC_8, sC_9, sC_10, sC_11, sC_12, sC_13, sC_14, sC_15, sC_16, sC_17, sC_18, sC_19, sC_20, sC_21, sC_22, sC_23, sC_24, sC_25, sC_26, sC_27, sC_28, sC_29, sC_30, sC_31, sC_32, sC_33, sC_34, sC_35, sC_36, sC_37, sC_38, sC_39, sC_40, sC_41, sC_42, sC_43, sC_44, sC_45, sC_46, sC_47, sC_48, sC_49, sC_50, sC_51]
        rw [e1, show (2 : Int32) = nI 2 from rfl, pk_mul]
        have e : t = 2 * K := by omega
        subst e
        refine ⟨fun _ => loop2 24 1 (by omega) (by omega) u' _ a1 (fun v hv => ?_) (fun v _ h2 => a2 v h2), fun zq => absurd zq (nI_nlt (Nat.le_refl _) (by omega))⟩
        rw [show v = 0 by omega, a2 0 (by omega)]
        congr 1
        show _ = kp _ _ 0 + _
        simp [kp]
      | succ k ih =>
        intro t ht u' o2 a1 a2
        have e1 : u'.1 2 10 = nI K := by rw [a1.1 2 (by decide) (by decide)]; exact eK
        obtain ⟨e2, l1⟩ := ln_b (sr_ln hl a1) (w := t) (by omega)
        apply hG (fun pc => pc == 10 || pc == 42) 60
        simp (config := { maxSteps := 2000000 }) [-Prod.forall, -Prod.exists, -exists_and_left, -exists_and_right, hW0, hW1, dm_fn, dm_fd, dm_x, dm_L0, dm_la, dm_t1, dm_sw, List.headD, dm_ic, dm_mk, dm_s1, dm_s2, dm_clr, dm_cs, dm_cc, dm_nb0, dm_nb1, Value.category, List.lookup, p_X1_sortWays, x_X1_sortWays, k_X1_sortWays, dm_cm, upd, vp_updL, dm_ui_1, dm_ui_2, dm_ul_1, dm_ul_2, sp_J7_fill_53178, sp_X1_beginOf, sC_0, sC_1, sC_2, sC_3, sC_4, sC_5, sC_6, sC_7, sC_8, sC_9, sC_10, sC_11, sC_12, sC_13, sC_14, sC_15, sC_16, sC_17, sC_18, sC_19, sC_20, sC_21, sC_22, sC_23, sC_24, sC_25, sC_26, sC_27, sC_28, sC_29, sC_30, sC_31, sC_32, sC_33, sC_34, sC_35, sC_36, sC_37, sC_38, sC_39, sC_40, sC_41, sC_42, sC_43, sC_44, sC_45, sC_46, sC_47, sC_48, sC_49, sC_50, sC_51]
        rw [e1, show (2 : Int32) = nI 2 from rfl, pk_mul]
        refine ⟨fun zq => absurd zq (nI_ge (by omega) (by omega)), fun zq => ⟨t, by omega, rfl, ?_⟩⟩
        rw [e2, nI_clamp (n := wb b e t) (by omega), a2 _ (by omega), nI_1, nI_1]
        refine ⟨vp_in_nI (by omega) (by omega), ?_⟩
        refine ih (t + 1) (by omega) _ _ (sr_u26 a1) (fun v hv => ?_)
        rw [dm_ui_1, if_pos rfl]
        unfold upd
        by_cases y : v = wb b e t
        · rw [if_pos y, y]
          congr 1
          unfold kq
          rw [cN_s, if_pos (by simp)]
        · rw [if_neg y, a2 v hv]
          congr 1
          unfold kq
          rw [cN_s, if_neg (by simp; exact fun z => y z.symm)]
          rfl
    apply hG (fun pc => pc == 10) 60
    simp (config := { maxSteps := 2000000 }) [-Prod.forall, -Prod.exists, -exists_and_left, -exists_and_right, hW0, hW1, dm_fn, dm_fd, dm_x, dm_L0, dm_la, dm_t1, dm_sw, List.headD, dm_ic, dm_mk, dm_s1, dm_s2, dm_clr, dm_cs, dm_cc, dm_nb0, dm_nb1, Value.category, List.lookup, p_X1_sortWays, x_X1_sortWays, k_X1_sortWays, dm_cm, upd, vp_updL, dm_ui_1, dm_ui_2, dm_ul_1, dm_ul_2, sp_J7_fill_53178, sp_X1_beginOf, sC_0, sC_1, sC_2, sC_3, sC_4, sC_5, sC_6, sC_7, sC_8, sC_9, sC_10, sC_11, sC_12, sC_13, sC_14, sC_15, sC_16, sC_17, sC_18, sC_19, sC_20, sC_21, sC_22, sC_23, sC_24, sC_25, sC_26, sC_27, sC_28, sC_29, sC_30, sC_31, sC_32, sC_33, sC_34, sC_35, sC_36, sC_37, sC_38, sC_39, sC_40, sC_41, sC_42, sC_43, sC_44, sC_45, sC_46, sC_47, sC_48, sC_49, sC_50, sC_51]
    refine ⟨25, by omega, rfl, loop1 (2 * K) 0 (by omega) _ _ ⟨fun c a _ => ?_, rfl⟩ (fun v hv => ?_)⟩
    · simp only [dm_fi, if_neg a]
    · simp [dm_fi, hv]; rfl
  · exact h.elim
set_option maxRecDepth 100000 in
theorem t_X1_sortWays (l : Launch) (D : va_G) (cA : Nat → ClassId) (ad : Nat → Nat) : dm_Met l D dm_cl cA ad shC yX1_sortWays (Cond.code yX1_sortWays cX1_sortWays 3 (dm_rt 0) :: dm_tt) ({ frames := 1, cells := 0, slots := 0, locals := 23 } : Room) sp_X1_sortWays := dm_meth (own := RX1) (X := x_X1_sortWays) (Sp := k_X1_sortWays) (prog := p_X1_sortWays) (by decide +kernel) rfl rfl (dm_FO_s ffX1 [(34, 1, 8), (37, 1, 9), (44, 1, 10)] rfl dm_hT (by decide +kernel)) (dm_IO_s ifX1 jfX1 [] [] rfl rfl dm_hT (by decide +kernel) (by decide +kernel)) soC (dm_MO_of (List.forall_mem_cons.mpr ⟨dm_M1_of (t_J7_fill_53178 l D cA ad) dm_hT (dm_mem [549, 78, 547] (by decide +kernel) (by decide +kernel)) (by decide) (by decide +kernel) (Or.inl ⟨rfl, dm_mem (ws := [.static yJ7_fill_53178]) [548] (by decide +kernel) (by decide +kernel) _ List.mem_cons_self⟩), List.forall_mem_cons.mpr ⟨dm_M1_of (t_X1_beginOf l D cA ad) dm_hT (dm_mem [553, 68, 550] (by decide +kernel) (by decide +kernel)) (by decide) (by decide +kernel) (Or.inr ⟨by decide, dm_mem [551, 552] (by decide +kernel) (by decide +kernel), rfl⟩), fun _ h => absurd h List.not_mem_nil⟩⟩)) v_X1_sortWays u_X1_sortWays
