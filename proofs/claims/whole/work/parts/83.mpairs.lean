/-! ===== the reference: THE ASSIGNMENT ===== -/
def sp_X11_bits (As : List Value) (u : dm_S) (Q : Option Value → dm_S → Prop) : Prop := match As with
  | [.int x] => ∃ k : Nat, k < 256 ∧ x = nI k ∧ Q (some (.int (nI (pr_pc k)))) u
  | _ => False
theorem pr_bs : ∀ k, k < 256 → ∀ j, j < 8 → nI k >>> (nI j &&& 31) &&& 1 = nI (k / 2 ^ j % 2) := by decide +kernel
def pr_pk (k : Nat) : Nat → Nat
  | 0 => 0
  | j + 1 => pr_pk k j + k / 2 ^ j % 2
theorem pr_pk8 : ∀ k, k < 256 → pr_pk k 8 = pr_pc k := by decide +kernel
def p_X11_bits : List dm_I := [(0, .iconst 0, 1, []), (1, .istore_n 1, 1, [1]), (2, .iconst 0, 1, []), (3, .istore_n 2, 1, [2]), (4, .iload_n 2, 1, [2]), (5, .bipush 8, 2, []), (7, .if_icmp .ge 17, 3, [24]), (10, .iload_n 1, 1, [1]), (11, .iload_n 0, 1, [0]), (12, .iload_n 2, 1, [2]), (13, .ishr, 1, []), (14, .iconst 1, 1, []), (15, .iand, 1, []), (16, .iadd, 1, []), (17, .istore_n 1, 1, [1]), (18, .iinc 2 1, 3, []), (21, .goto (-17), 3, [4]), (24, .iload_n 1, 1, [1]), (25, .ireturn, 1, [])]
set_option maxRecDepth 100000 in
theorem v_X11_bits : p_X11_bits.all (dm_vb cX11_bits) = true := by decide +kernel
def k_X11_bits : dm_Sp := fun a => match a with
  | _ => fun _ _ _ => False
def x_X11_bits : dm_X := dm_mk [] [] [] [] 1
set_option maxRecDepth 100000 in
set_option maxHeartbeats 400000 in
theorem u_X11_bits : dm_Pure shM x_X11_bits k_X11_bits p_X11_bits 3 sp_X11_bits := by
  intro As u Qp h
  unfold sp_X11_bits at h
  split at h
  · obtain ⟨k, hk, rfl, h⟩ := h
    refine ⟨Nat.le_of_ble_eq_true rfl, fun G Wp hW0 hW1 hG => ?_⟩
    have loop : ∀ t i : Nat, i + t = 8 → G 4 [some (.int (nI k)), some (.int (nI (pr_pk k i))), some (.int (nI i))] [] u := by
      intro t
      induction t with
      | zero =>
        intro i hi
        apply hG (fun pc => pc == 4) 30
        simp (config := { maxSteps := 2000000 }) [hW0, hW1, dm_fn, dm_fd, dm_x, dm_L0, dm_la, dm_t1, dm_sw, List.headD, dm_ic, dm_mk, dm_s1, dm_s2, dm_clr, dm_cs, dm_cc, dm_nb0, dm_nb1, Value.category, List.lookup, p_X11_bits, x_X11_bits, k_X11_bits, dm_cm, upd, vp_updL, dm_ui_1, dm_ui_2, dm_ul_1, dm_ul_2, sM_0, sM_1, sM_2, sM_3, sM_4, sM_5, sM_6, sM_7, sM_8, sM_9, sM_10, sM_11, sM_12, sM_13, sM_14, sM_15, sM_16, sM_17, sM_18, sM_19, sM_20, sM_21, sM_22, sM_23, sM_24, sM_25, sM_26, sM_27, sM_28, sM_29]
        have e : i = 8 := by omega
        subst e
        rw [pr_pk8 k hk]
        exact ⟨fun _ => h, fun q => absurd q (nI_nlt (a := 8) (b := 8) (Nat.le_refl _) (by omega))⟩
      | succ t ih =>
        intro i hi
        apply hG (fun pc => pc == 4) 30
        simp (config := { maxSteps := 2000000 }) [hW0, hW1, dm_fn, dm_fd, dm_x, dm_L0, dm_la, dm_t1, dm_sw, List.headD, dm_ic, dm_mk, dm_s1, dm_s2, dm_clr, dm_cs, dm_cc, dm_nb0, dm_nb1, Value.category, List.lookup, p_X11_bits, x_X11_bits, k_X11_bits, dm_cm, upd, vp_updL, dm_ui_1, dm_ui_2, dm_ul_1, dm_ul_2, sM_0, sM_1, sM_2, sM_3, sM_4, sM_5, sM_6, sM_7, sM_8, sM_9, sM_10, sM_11, sM_12, sM_13, sM_14, sM_15, sM_16, sM_17, sM_18, sM_19, sM_20, sM_21, sM_22, sM_23, sM_24, sM_25, sM_26, sM_27, sM_28, sM_29]
        rw [pr_bs k hk i (by omega), nI_add, nI_1]
        exact ⟨fun q => absurd q (nI_ge (b := 8) (by omega) (by omega)), fun _ => ih (i + 1) (by omega)⟩
    apply hG (fun pc => pc == 4) 30
    simp (config := { maxSteps := 2000000 }) [hW0, hW1, dm_fn, dm_fd, dm_x, dm_L0, dm_la, dm_t1, dm_sw, List.headD, dm_ic, dm_mk, dm_s1, dm_s2, dm_clr, dm_cs, dm_cc, dm_nb0, dm_nb1, Value.category, List.lookup, p_X11_bits, x_X11_bits, k_X11_bits, dm_cm, upd, vp_updL, dm_ui_1, dm_ui_2, dm_ul_1, dm_ul_2, sM_0, sM_1, sM_2, sM_3, sM_4, sM_5, sM_6, sM_7, sM_8, sM_9, sM_10, sM_11, sM_12, sM_13, sM_14, sM_15, sM_16, sM_17, sM_18, sM_19, sM_20, sM_21, sM_22, sM_23, sM_24, sM_25, sM_26, sM_27, sM_28, sM_29]
    exact loop 8 0 (by omega)
  · exact h.elim
set_option maxRecDepth 100000 in
theorem t_X11_bits (l : Launch) (D : va_G) (cA : Nat → ClassId) (ad : Nat → Nat) : dm_Met l D dm_cl cA ad shM yX11_bits (Cond.code yX11_bits cX11_bits 3 (dm_rt 1) :: dm_tt) ({ frames := 0, cells := 0, slots := 0, locals := 0 } : Room) sp_X11_bits := dm_meth (own := RX11) (X := x_X11_bits) (Sp := k_X11_bits) (prog := p_X11_bits) (by decide +kernel) rfl rfl (dm_FO_s ffX11 [] rfl dm_hT (by decide +kernel)) (dm_IO_s ifX11 jfX11 [] [] rfl rfl dm_hT (by decide +kernel) (by decide +kernel)) soM (dm_MO_of (fun _ h => absurd h List.not_mem_nil)) v_X11_bits u_X11_bits
def MP (u : dm_S) (n : Nat) (c : Nat → Int) : Prop := (n < 9 ∧ u.1 0 27 = nI n) ∧ (n ≠ 0 → ∀ k, k < 64 → (u.1 22 k = 0 ∧ c k = pF) ∨ (u.1 22 k = 1 ∧ u.2 21 k = lI (c k) ∧ -1000000 ≤ c k ∧ c k ≤ 1000000))
def bs_fr (u u' : dm_S) : Prop := u'.1 = u.1 ∧ ∀ c, c ≠ 23 → u'.2 c = u.2 c
theorem MP_bs {u u' : dm_S} {n : Nat} {c : Nat → Int} (h : MP u n c) (hf : bs_fr u u') : MP u' n c := by
  unfold MP; rw [hf.1, hf.2 21 (by decide)]; exact h
theorem MP_bd {u : dm_S} {n : Nat} {c : Nat → Int} (h : MP u n c) (hn : n ≠ 0) : pBd c := fun k hk => by
  rcases h.2 hn k hk with z | z
  · exact Or.inl z.2
  · exact Or.inr z.2.2
def sp_X11_bests (As : List Value) (u : dm_S) (Q : Option Value → dm_S → Prop) : Prop := match As with
  | [.ref 0] => ∃ (n : Nat) (c T : Nat → Int), n ≠ 0 ∧ MP u n c ∧ pT n c T ∧ ∀ u' : dm_S, bs_fr u u' → (∀ g, g < 2 ^ n → u'.2 23 g = lI (T g)) → Q none u'
  | _ => False
theorem pr_eq : ∀ g, g < 256 → ∀ j, j < 8 → (g ||| 2 ^ j = g ↔ g / 2 ^ j % 2 = 1) := by decide +kernel
theorem lI_mi {a b : Int} (ha : lB a) (hb : lB b) : (if lI a < lI b then lI a else lI b) = lI (if a ≤ b then a else b) := by
  by_cases z : a < b
  · rw [if_pos ((lI_lt ha hb).mpr z), if_pos (by omega)]
  · rw [if_neg (fun y => z ((lI_lt ha hb).mp y))]
    by_cases w : a ≤ b
    · rw [if_pos w, show a = b by omega]
    · rw [if_neg w]
theorem pmn_le {c T : Nat → Int} {g : Nat} : ∀ j, pmn c T g j ≤ pF
  | 0 => Int.le_refl _
  | j + 1 => by
    have := pmn_le (c := c) (T := T) (g := g) j
    unfold pmn
    split
    · exact this
    · omega
theorem pmn_far {c T : Nat → Int} {g j : Nat} (h : psw c T g j = pF) : pmn c T g (j + 1) = pmn c T g j := by
  show (if _ then _ else _) = _
  rw [h, if_pos (pmn_le j)]
def p_X11_bests : List dm_I := [(0, .iconst 1, 1, []), (1, .aload_n 0, 1, [0]), (2, .getfield 239, 3, []), (5, .ishl, 1, []), (6, .iconst 1, 1, []), (7, .isub, 1, []), (8, .istore_n 1, 1, [1]), (9, .aload_n 0, 1, [0]), (10, .getfield 78, 3, []), (13, .iload_n 1, 1, [1]), (14, .lconst 0, 1, []), (15, .lastore, 1, []), (16, .iload_n 1, 1, [1]), (17, .iconst 1, 1, []), (18, .isub, 1, []), (19, .istore_n 2, 1, [2]), (20, .iload_n 2, 1, [2]), (21, .ifCond .lt 119, 3, [140]), (24, .iload_n 2, 1, [2]), (25, .invokestatic 242, 3, []), (28, .istore_n 3, 1, [3]), (29, .aload_n 0, 1, [0]), (30, .getfield 78, 3, []), (33, .iload_n 2, 1, [2]), (34, .ldc2_w 152, 3, []), (37, .lastore, 1, []), (38, .iconst 0, 1, []), (39, .istore 4, 2, []), (41, .iload 4, 2, []), (43, .aload_n 0, 1, [0]), (44, .getfield 239, 3, []), (47, .if_icmp .ge 87, 3, [134]), (50, .iload_n 2, 1, [2]), (51, .iconst 1, 1, []), (52, .iload 4, 2, []), (54, .ishl, 1, []), (55, .ior, 1, []), (56, .istore 5, 2, []), (58, .iload 5, 2, []), (60, .iload_n 2, 1, [2]), (61, .if_icmp .eq 67, 3, [128]), (64, .aload_n 0, 1, [0]), (65, .getfield 74, 3, []), (68, .bipush 8, 2, []), (70, .iload_n 3, 1, [3]), (71, .imul, 1, []), (72, .iload 4, 2, []), (74, .iadd, 1, []), (75, .baload, 1, []), (76, .ifCond .eq 52, 3, [128]), (79, .aload_n 0, 1, [0]), (80, .getfield 78, 3, []), (83, .iload 5, 2, []), (85, .laload, 1, []), (86, .ldc2_w 152, 3, []), (89, .lcmp, 1, []), (90, .ifCond .ge 38, 3, [128]), (93, .aload_n 0, 1, [0]), (94, .getfield 78, 3, []), (97, .iload_n 2, 1, [2]), (98, .aload_n 0, 1, [0]), (99, .getfield 78, 3, []), (102, .iload_n 2, 1, [2]), (103, .laload, 1, []), (104, .aload_n 0, 1, [0]), (105, .getfield 71, 3, []), (108, .bipush 8, 2, []), (110, .iload_n 3, 1, [3]), (111, .imul, 1, []), (112, .iload 4, 2, []), (114, .iadd, 1, []), (115, .laload, 1, []), (116, .aload_n 0, 1, [0]), (117, .getfield 78, 3, []), (120, .iload 5, 2, []), (122, .laload, 1, []), (123, .ladd, 1, []), (124, .invokestatic 165, 3, []), (127, .lastore, 1, []), (128, .iinc 4 1, 3, []), (131, .goto (-90), 3, [41]), (134, .iinc 2 (-1), 3, []), (137, .goto (-117), 3, [20]), (140, .return_, 1, [])]
set_option maxRecDepth 100000 in
theorem v_X11_bests : p_X11_bests.all (dm_vb cX11_bests) = true := by decide +kernel
def k_X11_bests : dm_Sp := fun a => match a with
  | 0 => sp_X11_bits
  | 1 => sp_X11_lesser
  | _ => fun _ _ _ => False
def x_X11_bests : dm_X := dm_mk [(71, 11, 28), (74, 11, 29), (78, 11, 30), (239, 11, 27)] [] [(152, 1152921504606846976)] [(242, 0, 1, 1000), (165, 1, 2, 1000)] 0
set_option maxRecDepth 100000 in
set_option maxHeartbeats 800000 in
theorem u_X11_bests : dm_Pure shM x_X11_bests k_X11_bests p_X11_bests 6 sp_X11_bests := by
  intro As u Qp hh
  unfold sp_X11_bests at hh
  split at hh
  · obtain ⟨n, c, T, hn0, hC, hT, hQ⟩ := hh
    have hc := MP_bd hC hn0
    obtain ⟨⟨hn, en⟩, hfr⟩ := hC
    have hfr := hfr hn0
    have h2 := pr_2n n hn
    refine ⟨Nat.le_of_ble_eq_true rfl, fun G Wp hW0 hW1 hG => ?_⟩
    have tb : ∀ g, g < 2 ^ n → lB (T g) := fun g hg => by
      have := pT_b hn hc hT hg
      unfold lB; unfold pF at this; omega
    have outer : ∀ g : Nat, g ≤ 2 ^ n - 1 → ∀ (u' : dm_S) (o3 o4 o5 : Option Value), bs_fr u u' → (∀ g', g ≤ g' → g' < 2 ^ n → u'.2 23 g' = lI (T g')) → G 20 [some (.ref 0), some (.int (nI (2 ^ n - 1))), some (.int (nI g - 1)), o3, o4, o5] [] u' := by
      intro g
      induction g with
      | zero =>
        intro hg u' o3 o4 o5 a1 a2
        apply hG (fun pc => pc == 20 || pc == 41) 60
        simp (config := { maxSteps := 2000000 }) [-Prod.forall, -Prod.exists, -exists_and_left, -exists_and_right, hW0, hW1, dm_fn, dm_fd, dm_x, dm_L0, dm_la, dm_t1, dm_sw, List.headD, dm_ic, dm_mk, dm_s1, dm_s2, dm_clr, dm_cs, dm_cc, dm_nb0, dm_nb1, Value.category, List.lookup, p_X11_bests, x_X11_bests, k_X11_bests, dm_cm, upd, vp_updL, dm_ui_1, dm_ui_2, dm_ul_1, dm_ul_2, sp_X11_bits, sp_X11_lesser, sM_0, sM_1, sM_2, sM_3, sM_4, sM_5, sM_6, sM_7, sM_8, sM_9, sM_10, sM_11, sM_12, sM_13, sM_14, sM_15, sM_16, sM_17, sM_18, sM_19, sM_20, sM_21, sM_22, sM_23, sM_24, sM_25, sM_26, sM_27, sM_28, sM_29]
        exact ⟨fun _ => hQ u' a1 (fun g' x => a2 g' (by omega) x), fun z => absurd z (by decide)⟩
      | succ g ih =>
        intro hg u' o3 o4 o5 a1 a2
        have hgn : g < 2 ^ n - 1 := by omega
        have cg : (nI g).toNatClampNeg = g := nI_clamp (by omega)
        have hpc := pr_n1 n hn g (by omega) hgn
        have inner : ∀ k j : Nat, j + k = n → ∀ (u' : dm_S) (o5 : Option Value), bs_fr u u' → (∀ g', g + 1 ≤ g' → g' < 2 ^ n → u'.2 23 g' = lI (T g')) → u'.2 23 g = lI (pmn c T g j) → G 41 [some (.ref 0), some (.int (nI (2 ^ n - 1))), some (.int (nI g)), some (.int (nI (pr_pc g))), some (.int (nI j)), o5] [] u' := by
          intro k
          induction k with
          | zero =>
            intro j hj u' o5 a1 a2 a3
            apply hG (fun pc => pc == 20 || pc == 41) 60
            simp (config := { maxSteps := 2000000 }) [-Prod.forall, -Prod.exists, -exists_and_left, -exists_and_right, hW0, hW1, dm_fn, dm_fd, dm_x, dm_L0, dm_la, dm_t1, dm_sw, List.headD, dm_ic, dm_mk, dm_s1, dm_s2, dm_clr, dm_cs, dm_cc, dm_nb0, dm_nb1, Value.category, List.lookup, p_X11_bests, x_X11_bests, k_X11_bests, dm_cm, upd, vp_updL, dm_ui_1, dm_ui_2, dm_ul_1, dm_ul_2, sp_X11_bits, sp_X11_lesser, sM_0, sM_1, sM_2, sM_3, sM_4, sM_5, sM_6, sM_7, sM_8, sM_9, sM_10, sM_11, sM_12, sM_13, sM_14, sM_15, sM_16, sM_17, sM_18, sM_19, sM_20, sM_21, sM_22, sM_23, sM_24, sM_25, sM_26, sM_27, sM_28, sM_29]
            have e : j = n := by omega
            subst e
            have ej2 : nI g + -1 = nI g - 1 := by rw [Int32.sub_eq_add_neg]
            rw [a1.1, en, ej2]
            refine ⟨fun _ => ih (by omega) u' _ _ _ a1 (fun g' x1 x2 => ?_), fun z => absurd z (nI_nlt (Nat.le_refl _) (by omega))⟩
            rcases Nat.lt_or_ge g g' with y | y
            · exact a2 g' y x2
            · rw [show g' = g by omega, hT.2 g hgn]; exact a3
          | succ k ih2 =>
            intro j hj u' o5 a1 a2 a3
            obtain ⟨o1, o2⟩ := pr_or g (by omega) j (by omega)
            have e8 : (8 : Int32) * nI (pr_pc g) + nI j = nI (8 * pr_pc g + j) := by rw [show (8 : Int32) = nI 8 from rfl, pk_mul, nI_add]
            have c8 : (nI (8 * pr_pc g + j)).toNatClampNeg = 8 * pr_pc g + j := nI_clamp (by omega)
            have co : (nI (g ||| 2 ^ j)).toNatClampNeg = g ||| 2 ^ j := nI_clamp (by omega)
            have i8 : vp_in (nI (8 * pr_pc g + j)) 64 := vp_in_nI (by omega) (by omega)
            have io : vp_in (nI (g ||| 2 ^ j)) 256 := vp_in_nI (by omega) (by omega)
            have ig : vp_in (nI g) 256 := vp_in_nI (by omega) (by omega)
            have no := pr_n2 n hn g (by omega) (by omega) j (by omega)
            have skip : psw c T g j = pF → G 41 [some (.ref 0), some (.int (nI (2 ^ n - 1))), some (.int (nI g)), some (.int (nI (pr_pc g))), some (.int (nI (j + 1))), some (.int (nI (g ||| 2 ^ j)))] [] u' := fun z => ih2 (j + 1) (by omega) u' _ a1 a2 (by rw [pmn_far z]; exact a3)
            apply hG (fun pc => pc == 20 || pc == 41) 60
            simp (config := { maxSteps := 2000000 }) [-Prod.forall, -Prod.exists, -exists_and_left, -exists_and_right, hW0, hW1, dm_fn, dm_fd, dm_x, dm_L0, dm_la, dm_t1, dm_sw, List.headD, dm_ic, dm_mk, dm_s1, dm_s2, dm_clr, dm_cs, dm_cc, dm_nb0, dm_nb1, Value.category, List.lookup, p_X11_bests, x_X11_bests, k_X11_bests, dm_cm, upd, vp_updL, dm_ui_1, dm_ui_2, dm_ul_1, dm_ul_2, sp_X11_bits, sp_X11_lesser, sM_0, sM_1, sM_2, sM_3, sM_4, sM_5, sM_6, sM_7, sM_8, sM_9, sM_10, sM_11, sM_12, sM_13, sM_14, sM_15, sM_16, sM_17, sM_18, sM_19, sM_20, sM_21, sM_22, sM_23, sM_24, sM_25, sM_26, sM_27, sM_28, sM_29]
            rw [a1.1, en, nI_1, o1, co, e8, c8, cg, nI_eq (by omega) (by omega), pr_eq g (by omega) j (by omega), a1.2 21 (by decide)]
            refine ⟨fun z => absurd z (nI_ge (by omega) (by omega)), fun _ => ⟨fun z => skip (if_pos (Or.inl z)), fun z => ⟨i8, fun z2 => ?_, fun z2 => ⟨io, ?_⟩⟩⟩⟩
            · refine skip (if_pos (Or.inr (Or.inl ?_)))
              rcases hfr (8 * pr_pc g + j) (by omega) with y | y
              · exact y.2
              · rw [y.1] at z2; exact absurd z2 (by decide)
            · have e1 := a2 _ (pr_up g (by omega) j (by omega) z).1 no
              have t1 := pT_b hn hc hT no
              have y := (hfr (8 * pr_pc g + j) (by omega)).resolve_left (fun y => z2 y.1)
              rw [e1, ← pF_l, lI_le pF_lB (tb _ no), lI_lt (tb _ no) pF_lB, y.2.1, a3, lI_add]
              refine ⟨fun z3 => skip (if_pos (Or.inr (Or.inr ?_))), fun z3 => ⟨ig, i8, io, ig, ?_⟩⟩
              · unfold pF at z3 t1 ⊢; omega
              · have es : psw c T g j = c (8 * pr_pc g + j) + T (g ||| 2 ^ j) := if_neg (by
                  intro w
                  rcases w with w | w | w
                  · exact z w
                  · unfold pF at w; omega
                  · omega)
                have hb := pmn_bd hn hc hT hgn (j := j) (by omega)
                rw [← es, lI_mi (pmn_b hn hc hT hgn j (by omega)) (by unfold lB; unfold pF at hb; omega)]
                refine ih2 (j + 1) (by omega) _ _ ⟨a1.1, fun k hk => ?_⟩ (fun g' x1 x2 => ?_) ?_
                · rw [dm_ul_2, if_neg hk]; exact a1.2 k hk
                · rw [dm_ul_2, if_pos rfl]
                  show (if _ then _ else _) = _
                  rw [if_neg (by omega)]; exact a2 g' x1 x2
                · rw [dm_ul_2, if_pos rfl]
                  exact if_pos rfl
        apply hG (fun pc => pc == 20 || pc == 41) 60
        simp (config := { maxSteps := 2000000 }) [-Prod.forall, -Prod.exists, -exists_and_left, -exists_and_right, hW0, hW1, dm_fn, dm_fd, dm_x, dm_L0, dm_la, dm_t1, dm_sw, List.headD, dm_ic, dm_mk, dm_s1, dm_s2, dm_clr, dm_cs, dm_cc, dm_nb0, dm_nb1, Value.category, List.lookup, p_X11_bests, x_X11_bests, k_X11_bests, dm_cm, upd, vp_updL, dm_ui_1, dm_ui_2, dm_ul_1, dm_ul_2, sp_X11_bits, sp_X11_lesser, sM_0, sM_1, sM_2, sM_3, sM_4, sM_5, sM_6, sM_7, sM_8, sM_9, sM_10, sM_11, sM_12, sM_13, sM_14, sM_15, sM_16, sM_17, sM_18, sM_19, sM_20, sM_21, sM_22, sM_23, sM_24, sM_25, sM_26, sM_27, sM_28, sM_29]
        have ej : nI (g + 1) - 1 = nI g := nI_sub1 (by omega)
        rw [ej, cg]
        refine ⟨fun z => absurd z (nI_pos (by omega)), fun _ => ⟨g, by omega, rfl, vp_in_nI (by omega) (by omega), inner n 0 (by omega) _ _ ⟨a1.1, fun k hk => ?_⟩ (fun g' x1 x2 => ?_) ?_⟩⟩
        · rw [dm_ul_2, if_neg hk]; exact a1.2 k hk
        · rw [dm_ul_2, if_pos rfl]
          show (if _ then _ else _) = _
          rw [if_neg (by omega)]; exact a2 g' x1 x2
        · rw [dm_ul_2, if_pos rfl]
          exact if_pos rfl
    apply hG (fun pc => pc == 20) 60
    simp (config := { maxSteps := 2000000 }) [-Prod.forall, -Prod.exists, -exists_and_left, -exists_and_right, hW0, hW1, dm_fn, dm_fd, dm_x, dm_L0, dm_la, dm_t1, dm_sw, List.headD, dm_ic, dm_mk, dm_s1, dm_s2, dm_clr, dm_cs, dm_cc, dm_nb0, dm_nb1, Value.category, List.lookup, p_X11_bests, x_X11_bests, k_X11_bests, dm_cm, upd, vp_updL, dm_ui_1, dm_ui_2, dm_ul_1, dm_ul_2, sp_X11_bits, sp_X11_lesser, sM_0, sM_1, sM_2, sM_3, sM_4, sM_5, sM_6, sM_7, sM_8, sM_9, sM_10, sM_11, sM_12, sM_13, sM_14, sM_15, sM_16, sM_17, sM_18, sM_19, sM_20, sM_21, sM_22, sM_23, sM_24, sM_25, sM_26, sM_27, sM_28, sM_29]
    rw [en, pr_sh n hn, nI_clamp (show 2 ^ n - 1 < 2 ^ 31 by omega)]
    refine ⟨vp_in_nI (by omega) (by omega), outer (2 ^ n - 1) (Nat.le_refl _) _ _ _ _ ⟨rfl, fun k hk => ?_⟩ (fun g' x1 x2 => ?_)⟩
    · rw [dm_ul_2, if_neg hk]
    · rw [dm_ul_2, if_pos rfl]
      unfold vp_updL
      rw [if_pos (by omega), show g' = 2 ^ n - 1 by omega, hT.1]; rfl
  · exact hh.elim
set_option maxRecDepth 100000 in
theorem t_X11_bests (l : Launch) (D : va_G) (cA : Nat → ClassId) (ad : Nat → Nat) : dm_Met l D dm_cl cA ad shM yX11_bests (Cond.code yX11_bests cX11_bests 6 (dm_rt 0) :: dm_tt) ({ frames := 1, cells := 0, slots := 0, locals := 23 } : Room) sp_X11_bests := dm_meth (own := RX11) (X := x_X11_bests) (Sp := k_X11_bests) (prog := p_X11_bests) (by decide +kernel) rfl rfl (dm_FO_s ffX11 [(71, 11, 28), (74, 11, 29), (78, 11, 30), (239, 11, 27)] rfl dm_hT (by decide +kernel)) (dm_IO_s ifX11 jfX11 [] [(152, 1152921504606846976)] rfl rfl dm_hT (by decide +kernel) (by decide +kernel)) soM (dm_MO_of (List.forall_mem_cons.mpr ⟨dm_M1_of (t_X11_bits l D cA ad) dm_hT (dm_mem [1252, 77, 1250] (by decide +kernel) (by decide +kernel)) (by decide) (by decide +kernel) (Or.inl ⟨rfl, dm_mem (ws := [.static yX11_bits]) [1251] (by decide +kernel) (by decide +kernel) _ List.mem_cons_self⟩), List.forall_mem_cons.mpr ⟨dm_M1_of (t_X11_lesser l D cA ad) dm_hT (dm_mem [1144, 77, 1142] (by decide +kernel) (by decide +kernel)) (by decide) (by decide +kernel) (Or.inl ⟨rfl, dm_mem (ws := [.static yX11_lesser]) [1143] (by decide +kernel) (by decide +kernel) _ List.mem_cons_self⟩), fun _ h => absurd h List.not_mem_nil⟩⟩)) v_X11_bests u_X11_bests
def sp_X11_least (As : List Value) (u : dm_S) (Q : Option Value → dm_S → Prop) : Prop := match As with
  | [.ref 0] => ∃ (n : Nat) (c T : Nat → Int), MP u n c ∧ pT n c T ∧ (n = 0 → Q (some (.long (-10000001))) u) ∧ (n ≠ 0 → ∀ u' : dm_S, bs_fr u u' → Q (some (.long (if T 0 = pF then -10000001 else lI (T 0)))) u')
  | _ => False
def p_X11_least : List dm_I := [(0, .aload_n 0, 1, [0]), (1, .getfield 239, 3, []), (4, .ifCond .ne 7, 3, [11]), (7, .ldc2_w 249, 3, []), (10, .lreturn, 1, []), (11, .aload_n 0, 1, [0]), (12, .invokevirtual 246, 3, []), (15, .aload_n 0, 1, [0]), (16, .getfield 78, 3, []), (19, .iconst 0, 1, []), (20, .laload, 1, []), (21, .ldc2_w 152, 3, []), (24, .lcmp, 1, []), (25, .ifCond .ne 9, 3, [34]), (28, .ldc2_w 249, 3, []), (31, .goto 9, 3, [40]), (34, .aload_n 0, 1, [0]), (35, .getfield 78, 3, []), (38, .iconst 0, 1, []), (39, .laload, 1, []), (40, .lreturn, 1, [])]
set_option maxRecDepth 100000 in
theorem v_X11_least : p_X11_least.all (dm_vb cX11_least) = true := by decide +kernel
def k_X11_least : dm_Sp := fun a => match a with
  | 0 => sp_X11_bests
  | _ => fun _ _ _ => False
def x_X11_least : dm_X := dm_mk [(78, 11, 30), (239, 11, 27)] [] [(152, 1152921504606846976), (249, -10000001)] [(246, 0, 0, 11)] 2
set_option maxRecDepth 100000 in
set_option maxHeartbeats 400000 in
theorem u_X11_least : dm_Pure shM x_X11_least k_X11_least p_X11_least 1 sp_X11_least := by
  intro As u Qp h
  unfold sp_X11_least at h
  split at h
  · refine ⟨Nat.le_of_ble_eq_true rfl, fun G Wp hW0 hW1 hG => ?_⟩
    apply hG (fun _ => false) 22
    simp (config := { maxSteps := 2000000 }) [hW0, hW1, dm_fn, dm_fd, dm_x, dm_L0, dm_la, dm_t1, dm_sw, List.headD, dm_ic, dm_mk, dm_s1, dm_s2, dm_clr, dm_cs, dm_cc, dm_nb0, dm_nb1, Value.category, List.lookup, p_X11_least, x_X11_least, k_X11_least, dm_cm, upd, vp_updL, dm_ui_1, dm_ui_2, dm_ul_1, dm_ul_2, sp_X11_bests, sM_0, sM_1, sM_2, sM_3, sM_4, sM_5, sM_6, sM_7, sM_8, sM_9, sM_10, sM_11, sM_12, sM_13, sM_14, sM_15, sM_16, sM_17, sM_18, sM_19, sM_20, sM_21, sM_22, sM_23, sM_24, sM_25, sM_26, sM_27, sM_28, sM_29]
    obtain ⟨n, c, T, hP, hT, h1, h2⟩ := h
    have hn := hP.1.1
    have h256 := pr_2n n hn
    have e0 : u.1 0 27 = 0 ↔ n = 0 := by
      rw [hP.1.2, show (0 : Int32) = nI 0 from rfl, nI_eq (by omega) (by omega)]
    rw [e0]
    refine ⟨fun z => ?_, h1⟩
    obtain ⟨m, rfl⟩ : ∃ m, n = m + 1 := ⟨n - 1, by omega⟩
    refine ⟨m, c, hP, T, hT, fun a b b1 b2 => ?_⟩
    have hq := h2 z (a, b) b1
    have t0 : b 23 0 = 1152921504606846976 ↔ T 0 = pF := by
      have := pT_b hn (MP_bd hP z) hT (g := 0) (by omega)
      rw [b2 0 (by omega), ← pF_l, lI_eq ?_ pF_lB]
      unfold lB; unfold pF at this; omega
    refine ⟨vp_0 (by omega), fun y => ⟨vp_0 (by omega), ?_⟩, fun y => ?_⟩
    · rw [if_neg (fun w => y (t0.mpr w)), ← b2 0 (by omega)] at hq; exact hq
    · rw [if_pos (t0.mp y)] at hq; exact hq
  · exact h.elim
set_option maxRecDepth 100000 in
theorem t_X11_least (l : Launch) (D : va_G) (cA : Nat → ClassId) (ad : Nat → Nat) : dm_Met l D dm_cl cA ad shM yX11_least (Cond.code yX11_least cX11_least 1 (dm_rt 2) :: dm_tt) ({ frames := 2, cells := 0, slots := 0, locals := 48 } : Room) sp_X11_least := dm_meth (own := RX11) (X := x_X11_least) (Sp := k_X11_least) (prog := p_X11_least) (by decide +kernel) rfl rfl (dm_FO_s ffX11 [(78, 11, 30), (239, 11, 27)] rfl dm_hT (by decide +kernel)) (dm_IO_s ifX11 jfX11 [] [(152, 1152921504606846976), (249, -10000001)] rfl rfl dm_hT (by decide +kernel) (by decide +kernel)) soM (dm_MO_of (List.forall_mem_cons.mpr ⟨dm_M1_of (t_X11_bests l D cA ad) dm_hT (dm_mem [1249, 77, 1246] (by decide +kernel) (by decide +kernel)) (by decide) (by decide +kernel) (Or.inr ⟨by decide, dm_mem [1248, 64] (by decide +kernel) (by decide +kernel), rfl⟩), fun _ h => absurd h List.not_mem_nil⟩)) v_X11_least u_X11_least
def sp_X11_mate (As : List Value) (u : dm_S) (Q : Option Value → dm_S → Prop) : Prop := match As with
  | [.ref 0, .int x] => ∃ (n : Nat) (c T : Nat → Int), MP u n c ∧ pT n c T ∧ (¬ (0 ≤ x ∧ x < nI n) → Q (some (.int (-1))) u) ∧ (0 ≤ x ∧ x < nI n → ∀ u' : dm_S, bs_fr u u' → (T 0 = pF → Q (some (.int (-1))) u') ∧ (T 0 ≠ pF → ∀ m gv, pMt n c T m gv (x.toNatClampNeg + 1) → Q (some (.int (nI (m x.toNatClampNeg)))) u'))
  | _ => False
def p_X11_mate : List dm_I := [(0, .iload_n 1, 1, [1]), (1, .ifCond .lt 11, 3, [12]), (4, .iload_n 1, 1, [1]), (5, .aload_n 0, 1, [0]), (6, .getfield 239, 3, []), (9, .if_icmp .lt 5, 3, [14]), (12, .iconst (-1), 1, []), (13, .ireturn, 1, []), (14, .aload_n 0, 1, [0]), (15, .invokevirtual 246, 3, []), (18, .aload_n 0, 1, [0]), (19, .getfield 78, 3, []), (22, .iconst 0, 1, []), (23, .laload, 1, []), (24, .ldc2_w 152, 3, []), (27, .lcmp, 1, []), (28, .ifCond .ne 5, 3, [33]), (31, .iconst (-1), 1, []), (32, .ireturn, 1, []), (33, .iconst 0, 1, []), (34, .istore_n 2, 1, [2]), (35, .iconst (-1), 1, []), (36, .istore_n 3, 1, [3]), (37, .iconst 0, 1, []), (38, .istore 4, 2, []), (40, .iload 4, 2, []), (42, .iload_n 1, 1, [1]), (43, .if_icmp .gt 120, 3, [163]), (46, .iconst 0, 1, []), (47, .istore_n 3, 1, [3]), (48, .iconst 1, 1, []), (49, .istore 5, 2, []), (51, .iload 5, 2, []), (53, .ifCond .eq 98, 3, [151]), (56, .iload_n 2, 1, [2]), (57, .iconst 1, 1, []), (58, .iload_n 3, 1, [3]), (59, .ishl, 1, []), (60, .ior, 1, []), (61, .istore 6, 2, []), (63, .iload 6, 2, []), (65, .iload_n 2, 1, [2]), (66, .if_icmp .eq 62, 3, [128]), (69, .aload_n 0, 1, [0]), (70, .getfield 74, 3, []), (73, .bipush 8, 2, []), (75, .iload 4, 2, []), (77, .imul, 1, []), (78, .iload_n 3, 1, [3]), (79, .iadd, 1, []), (80, .baload, 1, []), (81, .ifCond .eq 47, 3, [128]), (84, .aload_n 0, 1, [0]), (85, .getfield 78, 3, []), (88, .iload 6, 2, []), (90, .laload, 1, []), (91, .ldc2_w 152, 3, []), (94, .lcmp, 1, []), (95, .ifCond .eq 33, 3, [128]), (98, .aload_n 0, 1, [0]), (99, .getfield 71, 3, []), (102, .bipush 8, 2, []), (104, .iload 4, 2, []), (106, .imul, 1, []), (107, .iload_n 3, 1, [3]), (108, .iadd, 1, []), (109, .laload, 1, []), (110, .aload_n 0, 1, [0]), (111, .getfield 78, 3, []), (114, .iload 6, 2, []), (116, .laload, 1, []), (117, .ladd, 1, []), (118, .aload_n 0, 1, [0]), (119, .getfield 78, 3, []), (122, .iload_n 2, 1, [2]), (123, .laload, 1, []), (124, .lcmp, 1, []), (125, .ifCond .eq 7, 3, [132]), (128, .iconst 1, 1, []), (129, .goto 4, 3, [133]), (132, .iconst 0, 1, []), (133, .istore 5, 2, []), (135, .iload_n 3, 1, [3]), (136, .iload 5, 2, []), (138, .ifCond .eq 7, 3, [145]), (141, .iconst 1, 1, []), (142, .goto 4, 3, [146]), (145, .iconst 0, 1, []), (146, .iadd, 1, []), (147, .istore_n 3, 1, [3]), (148, .goto (-97), 3, [51]), (151, .iload_n 2, 1, [2]), (152, .iconst 1, 1, []), (153, .iload_n 3, 1, [3]), (154, .ishl, 1, []), (155, .ior, 1, []), (156, .istore_n 2, 1, [2]), (157, .iinc 4 1, 3, []), (160, .goto (-120), 3, [40]), (163, .iload_n 3, 1, [3]), (164, .ireturn, 1, [])]
set_option maxRecDepth 100000 in
theorem v_X11_mate : p_X11_mate.all (dm_vb cX11_mate) = true := by decide +kernel
def k_X11_mate : dm_Sp := fun a => match a with
  | 0 => sp_X11_bests
  | _ => fun _ _ _ => False
def x_X11_mate : dm_X := dm_mk [(71, 11, 28), (74, 11, 29), (78, 11, 30), (239, 11, 27)] [] [(152, 1152921504606846976)] [(246, 0, 0, 11)] 1
set_option maxRecDepth 100000 in
set_option maxHeartbeats 800000 in
theorem u_X11_mate : dm_Pure shM x_X11_mate k_X11_mate p_X11_mate 7 sp_X11_mate := by
  intro As u Qp hh
  unfold sp_X11_mate at hh
  split at hh
  · rename_i x
    obtain ⟨n, c, T, hC, hT, h1, h2⟩ := hh
    have hC0 := hC
    obtain ⟨⟨hn, en⟩, hfr⟩ := hC
    have h256 := pr_2n n hn
    refine ⟨Nat.le_of_ble_eq_true rfl, fun G Wp hW0 hW1 hG => ?_⟩
    have go : 0 ≤ x → x < nI n → ∀ u' : dm_S, bs_fr u u' → (∀ g, g < 2 ^ n → u'.2 23 g = lI (T g)) → T 0 ≠ pF → G 40 [some (.ref 0), some (.int x), some (.int 0), some (.int (-1)), some (.int 0), none, none] [] u' := by
      intro z1 z2 u' b1 b2 b3
      obtain ⟨ex, hx⟩ := i_nI (n := n) (by omega) ⟨z1, z2⟩
      have hq := (h2 ⟨z1, z2⟩ u' b1).2 b3
      generalize hxa : x.toNatClampNeg = xa at ex hx hq
      subst ex
      have hn0 : n ≠ 0 := by omega
      have hc := MP_bd hC0 hn0
      have hfr := hfr hn0
      have tb : ∀ g, g < 2 ^ n → lB (T g) := fun g hg => by
        have := pT_b hn hc hT hg
        unfold lB; unfold pF at this; omega
      have outer : ∀ k i : Nat, i + k = xa + 1 → ∀ (m gv : Nat → Nat) (o5 o6 : Option Value), pMt n c T m gv i → pgo n T (gv i) i → G 40 [some (.ref 0), some (.int (nI xa)), some (.int (nI (gv i))), some (.int (if i = 0 then -1 else nI (m (i - 1)))), some (.int (nI i)), o5, o6] [] u' := by
        intro k
        induction k with
        | zero =>
          intro i hi m gv o5 o6 a1 a2
          apply hG (fun pc => pc == 40 || pc == 51) 80
          simp (config := { maxSteps := 2000000 }) [-Prod.forall, -Prod.exists, -exists_and_left, -exists_and_right, hW0, hW1, dm_fn, dm_fd, dm_x, dm_L0, dm_la, dm_t1, dm_sw, List.headD, dm_ic, dm_mk, dm_s1, dm_s2, dm_clr, dm_cs, dm_cc, dm_nb0, dm_nb1, Value.category, List.lookup, p_X11_mate, x_X11_mate, k_X11_mate, dm_cm, upd, vp_updL, dm_ui_1, dm_ui_2, dm_ul_1, dm_ul_2, sp_X11_bests, sM_0, sM_1, sM_2, sM_3, sM_4, sM_5, sM_6, sM_7, sM_8, sM_9, sM_10, sM_11, sM_12, sM_13, sM_14, sM_15, sM_16, sM_17, sM_18, sM_19, sM_20, sM_21, sM_22, sM_23, sM_24, sM_25, sM_26, sM_27, sM_28, sM_29]
          have e : i = xa + 1 := by omega
          subst e
          rw [if_neg (by omega)]
          exact ⟨fun _ => hq m gv a1, fun z => absurd z (nI_ge (by omega) (by omega))⟩
        | succ k ih =>
          intro i hi m gv o5 o6 a1 a2
          have a2' := a2
          obtain ⟨g1, g2, g3⟩ := a2
          have hgn := pr_full n hn (gv i) (by omega) g1 (by omega)
          have cg : (nI (gv i)).toNatClampNeg = gv i := nI_clamp (by omega)
          have ig : vp_in (nI (gv i)) 256 := vp_in_nI (by omega) (by omega)
          have last : ∀ (j : Nat) (o6 : Option Value), j < n → psw c T (gv i) j = T (gv i) → (∀ j', j' < j → psw c T (gv i) j' ≠ T (gv i)) → G 51 [some (.ref 0), some (.int (nI xa)), some (.int (nI (gv i))), some (.int (nI j)), some (.int (nI i)), some (.int 0), o6] [] u' := by
            intro lo o6 c1 c2 c3
            apply hG (fun pc => pc == 40 || pc == 51) 80
            simp (config := { maxSteps := 2000000 }) [-Prod.forall, -Prod.exists, -exists_and_left, -exists_and_right, hW0, hW1, dm_fn, dm_fd, dm_x, dm_L0, dm_la, dm_t1, dm_sw, List.headD, dm_ic, dm_mk, dm_s1, dm_s2, dm_clr, dm_cs, dm_cc, dm_nb0, dm_nb1, Value.category, List.lookup, p_X11_mate, x_X11_mate, k_X11_mate, dm_cm, upd, vp_updL, dm_ui_1, dm_ui_2, dm_ul_1, dm_ul_2, sp_X11_bests, sM_0, sM_1, sM_2, sM_3, sM_4, sM_5, sM_6, sM_7, sM_8, sM_9, sM_10, sM_11, sM_12, sM_13, sM_14, sM_15, sM_16, sM_17, sM_18, sM_19, sM_20, sM_21, sM_22, sM_23, sM_24, sM_25, sM_26, sM_27, sM_28, sM_29]
            obtain ⟨o1, o2⟩ := pr_or (gv i) (by omega) lo (by omega)
            rw [o1, nI_1]
            have q2 := (pgo_s hn (show i < n by omega) c1 a2' c2).1
            have hw := ih (i + 1) (by omega) (fun t => if t = i then lo else m t) (fun t => if t = i + 1 then gv i ||| 2 ^ lo else gv t) (some (.int 0)) o6 ⟨?_, fun t ht => ?_⟩ (by rw [if_pos rfl]; exact q2)
            · rw [if_pos rfl, if_neg (by omega), if_pos (by omega)] at hw; exact hw
            · show (if _ then _ else _) = _
              rw [if_neg (by omega)]; exact a1.1
            · dsimp only
              rw [if_neg (show ¬ t = i + 1 by omega)]
              by_cases y : t = i
              · subst y
                rw [if_pos rfl, if_pos rfl]
                exact ⟨⟨c1, c2, c3⟩, rfl⟩
              · rw [if_neg y, if_neg (by omega)]
                exact a1.2 t (by omega)
          have step : ∀ (j : Nat) (o6 : Option Value), j < n → (psw c T (gv i) j ≠ T (gv i) → ∀ o6 : Option Value, G 51 [some (.ref 0), some (.int (nI xa)), some (.int (nI (gv i))), some (.int (nI (j + 1))), some (.int (nI i)), some (.int 1), o6] [] u') → (psw c T (gv i) j = T (gv i) → ∀ o6 : Option Value, G 51 [some (.ref 0), some (.int (nI xa)), some (.int (nI (gv i))), some (.int (nI j)), some (.int (nI i)), some (.int 0), o6] [] u') → G 51 [some (.ref 0), some (.int (nI xa)), some (.int (nI (gv i))), some (.int (nI j)), some (.int (nI i)), some (.int 1), o6] [] u' := by
            intro j o6 hj s1 s2
            obtain ⟨o1, o2⟩ := pr_or (gv i) (by omega) j (by omega)
            have e8 : (8 : Int32) * nI i + nI j = nI (8 * i + j) := by rw [show (8 : Int32) = nI 8 from rfl, pk_mul, nI_add]
            have c8 : (nI (8 * i + j)).toNatClampNeg = 8 * i + j := nI_clamp (by omega)
            have co : (nI (gv i ||| 2 ^ j)).toNatClampNeg = gv i ||| 2 ^ j := nI_clamp (by omega)
            have i8 : vp_in (nI (8 * i + j)) 64 := vp_in_nI (by omega) (by omega)
            have io : vp_in (nI (gv i ||| 2 ^ j)) 256 := vp_in_nI (by omega) (by omega)
            have no := pr_n2 n hn (gv i) (by omega) (by omega) j (by omega)
            have far : psw c T (gv i) j = pF → psw c T (gv i) j ≠ T (gv i) := fun y w => g3 (w.symm.trans y)
            apply hG (fun pc => pc == 40 || pc == 51) 80
            simp (config := { maxSteps := 2000000 }) [-Prod.forall, -Prod.exists, -exists_and_left, -exists_and_right, hW0, hW1, dm_fn, dm_fd, dm_x, dm_L0, dm_la, dm_t1, dm_sw, List.headD, dm_ic, dm_mk, dm_s1, dm_s2, dm_clr, dm_cs, dm_cc, dm_nb0, dm_nb1, Value.category, List.lookup, p_X11_mate, x_X11_mate, k_X11_mate, dm_cm, upd, vp_updL, dm_ui_1, dm_ui_2, dm_ul_1, dm_ul_2, sp_X11_bests, sM_0, sM_1, sM_2, sM_3, sM_4, sM_5, sM_6, sM_7, sM_8, sM_9, sM_10, sM_11, sM_12, sM_13, sM_14, sM_15, sM_16, sM_17, sM_18, sM_19, sM_20, sM_21, sM_22, sM_23, sM_24, sM_25, sM_26, sM_27, sM_28, sM_29]
            rw [b1.1, nI_1, o1, co, e8, c8, cg, nI_eq (by omega) (by omega), pr_eq (gv i) (by omega) j (by omega), b1.2 21 (by decide)]
            refine ⟨fun z => s1 (far (if_pos (Or.inl z))) _, fun z => ⟨i8, fun z2 => s1 (far (if_pos (Or.inr (Or.inl ?_)))) _, fun z2 => ⟨io, ?_⟩⟩⟩
            · rw [g2]
              rcases hfr (8 * i + j) (by omega) with y | y
              · exact y.2
              · rw [y.1] at z2; exact absurd z2 (by decide)
            · have e1 := b2 _ no
              have t1 := pT_b hn hc hT no
              have t2 := pT_b hn hc hT g1
              have y := (hfr (8 * i + j) (by omega)).resolve_left (fun y => z2 y.1)
              rw [e1, ← pF_l, lI_eq (tb _ no) pF_lB, y.2.1, lI_add, b2 _ g1]
              refine ⟨fun z3 => s1 (far (if_pos (Or.inr (Or.inr z3)))) _, fun z3 => ⟨i8, io, ig, ?_⟩⟩
              have es : psw c T (gv i) j = c (8 * i + j) + T (gv i ||| 2 ^ j) := by
                unfold psw
                rw [g2]
                exact if_neg (by
                  intro w
                  rcases w with w | w | w
                  · exact z w
                  · unfold pF at w; omega
                  · exact z3 w)
              have t3 := t1.resolve_left z3
              rw [lI_eq (by unfold lB; omega) (by unfold lB; unfold pF at t2; omega), ← es]
              exact ⟨fun w => s2 w _, fun w => s1 w _⟩
          have goes : ∀ (d j : Nat) (o6 : Option Value), j + d < n → psw c T (gv i) (j + d) = T (gv i) → (∀ j', j' < j → psw c T (gv i) j' ≠ T (gv i)) → G 51 [some (.ref 0), some (.int (nI xa)), some (.int (nI (gv i))), some (.int (nI j)), some (.int (nI i)), some (.int 1), o6] [] u' := by
            intro d
            induction d with
            | zero =>
              intro j o6 c1 c2 c3
              exact step j o6 c1 (fun w => absurd c2 w) (fun w o6 => last j o6 c1 w c3)
            | succ d ihd =>
              intro j o6 c1 c2 c3
              refine step j o6 (by omega) (fun w o6 => ihd (j + 1) o6 (by omega) (by rw [show j + 1 + d = j + (d + 1) by omega]; exact c2) (fun j' hj' => ?_)) (fun w o6 => last j o6 (by omega) w c3)
              rcases Nat.lt_or_ge j' j with y | y
              · exact c3 j' y
              · rw [show j' = j by omega]; exact w
          apply hG (fun pc => pc == 40 || pc == 51) 80
          simp (config := { maxSteps := 2000000 }) [-Prod.forall, -Prod.exists, -exists_and_left, -exists_and_right, hW0, hW1, dm_fn, dm_fd, dm_x, dm_L0, dm_la, dm_t1, dm_sw, List.headD, dm_ic, dm_mk, dm_s1, dm_s2, dm_clr, dm_cs, dm_cc, dm_nb0, dm_nb1, Value.category, List.lookup, p_X11_mate, x_X11_mate, k_X11_mate, dm_cm, upd, vp_updL, dm_ui_1, dm_ui_2, dm_ul_1, dm_ul_2, sp_X11_bests, sM_0, sM_1, sM_2, sM_3, sM_4, sM_5, sM_6, sM_7, sM_8, sM_9, sM_10, sM_11, sM_12, sM_13, sM_14, sM_15, sM_16, sM_17, sM_18, sM_19, sM_20, sM_21, sM_22, sM_23, sM_24, sM_25, sM_26, sM_27, sM_28, sM_29]
          obtain ⟨j0, j1, j2⟩ := pgo_ex hn hT (show i < n by omega) a2'
          exact ⟨fun z => absurd z (nI_nlt (by omega) (by omega)), fun _ => goes j0 0 o6 (by omega) (by rw [show 0 + j0 = j0 by omega]; exact j2) (fun j' hj' => by omega)⟩
      have := outer (xa + 1) 0 (by omega) (fun _ => 0) (fun _ => 0) none none ⟨rfl, fun i hi => by omega⟩ ⟨by omega, rfl, b3⟩
      exact this
    apply hG (fun pc => pc == 40) 80
    simp (config := { maxSteps := 2000000 }) [-Prod.forall, -Prod.exists, -exists_and_left, -exists_and_right, hW0, hW1, dm_fn, dm_fd, dm_x, dm_L0, dm_la, dm_t1, dm_sw, List.headD, dm_ic, dm_mk, dm_s1, dm_s2, dm_clr, dm_cs, dm_cc, dm_nb0, dm_nb1, Value.category, List.lookup, p_X11_mate, x_X11_mate, k_X11_mate, dm_cm, upd, vp_updL, dm_ui_1, dm_ui_2, dm_ul_1, dm_ul_2, sp_X11_bests, sM_0, sM_1, sM_2, sM_3, sM_4, sM_5, sM_6, sM_7, sM_8, sM_9, sM_10, sM_11, sM_12, sM_13, sM_14, sM_15, sM_16, sM_17, sM_18, sM_19, sM_20, sM_21, sM_22, sM_23, sM_24, sM_25, sM_26, sM_27, sM_28, sM_29]
    rw [en]
    refine ⟨fun z => h1 (fun q => dm_i_le.mpr z q.1), fun z => ⟨fun z2 => ?_, fun z2 => h1 (fun q => dm_i_lt.mpr z2 q.2)⟩⟩
    have hn0 : n ≠ 0 := by have := (i_nI (n := n) (by omega) ⟨z, z2⟩).2; omega
    refine ⟨n, c, T, hn0, hC0, hT, fun u' b1 b2 => ?_⟩
    have t0 : u'.2 23 0 = 1152921504606846976 ↔ T 0 = pF := by
      have := pT_b hn (MP_bd hC0 hn0) hT (g := 0) (by omega)
      rw [b2 0 (by omega), ← pF_l, lI_eq ?_ pF_lB]
      unfold lB; unfold pF at this; omega
    exact ⟨vp_0 (by omega), fun y => go z z2 u' b1 b2 (fun w => y (t0.mpr w)), fun y => (h2 ⟨z, z2⟩ u' b1).1 (t0.mp y)⟩
  · exact hh.elim
set_option maxRecDepth 100000 in
theorem t_X11_mate (l : Launch) (D : va_G) (cA : Nat → ClassId) (ad : Nat → Nat) : dm_Met l D dm_cl cA ad shM yX11_mate (Cond.code yX11_mate cX11_mate 7 (dm_rt 1) :: dm_tt) ({ frames := 2, cells := 0, slots := 0, locals := 48 } : Room) sp_X11_mate := dm_meth (own := RX11) (X := x_X11_mate) (Sp := k_X11_mate) (prog := p_X11_mate) (by decide +kernel) rfl rfl (dm_FO_s ffX11 [(71, 11, 28), (74, 11, 29), (78, 11, 30), (239, 11, 27)] rfl dm_hT (by decide +kernel)) (dm_IO_s ifX11 jfX11 [] [(152, 1152921504606846976)] rfl rfl dm_hT (by decide +kernel) (by decide +kernel)) soM (dm_MO_of (List.forall_mem_cons.mpr ⟨dm_M1_of (t_X11_bests l D cA ad) dm_hT (dm_mem [1249, 77, 1246] (by decide +kernel) (by decide +kernel)) (by decide) (by decide +kernel) (Or.inr ⟨by decide, dm_mem [1248, 64] (by decide +kernel) (by decide +kernel), rfl⟩), fun _ h => absurd h List.not_mem_nil⟩)) v_X11_mate u_X11_mate
