/-! ===== the reference: the net in its cells; split ===== -/
def MR (u : dm_S) (A : AN) : Prop := (u.1 0 0 = nI A.n ∧ u.1 0 1 = nI A.M) ∧ (∀ v, v < A.n → u.2 1 v = lI (A.su v)) ∧ ∀ a, a < A.M → (u.1 2 a = nI (A.fr a) ∧ u.1 3 a = nI (A.tr a)) ∧ (u.2 4 a = lI (A.st (4 * a)) ∧ u.2 5 a = (if A.en a then -2 else lI (A.tp a))) ∧ u.1 6 a = nI (A.pt a - 1) ∧ (∀ k, k < A.pt a → u.2 7 (4 * a + k) = lI (A.rt (4 * a + k))) ∧ ∀ k, k + 1 < A.pt a → u.2 8 (4 * a + k + 1) = lI (A.st (4 * a + k + 1))
/-- nothing of the net has changed -/
def mn_fr (u u' : dm_S) : Prop := (u'.1 0 0 = u.1 0 0 ∧ u'.1 0 1 = u.1 0 1) ∧ (∀ c, c ∈ [2, 3, 6] → u'.1 c = u.1 c) ∧ ∀ c, c ∈ [1, 4, 5, 7, 8] → u'.2 c = u.2 c
theorem MR_fr {u u' : dm_S} {A : AN} (h : MR u A) (hf : mn_fr u u') : MR u' A := by
  obtain ⟨⟨e1, e2⟩, f1, f2⟩ := hf
  unfold MR at h ⊢
  rw [e1, e2, f1 2 (by decide), f1 3 (by decide), f1 6 (by decide), f2 1 (by decide), f2 4 (by decide), f2 5 (by decide), f2 7 (by decide), f2 8 (by decide)]
  exact h
theorem MR_mn {u : dm_S} {A : AN} (h : MR u A) (hA : A.ok) : mn_ok u A.n A.M A.fr A.tr (fun a => A.pt a - 1) := by
  refine ⟨⟨hA.1.1, hA.1.2, h.1.1, h.1.2⟩, fun a ha => ?_⟩
  obtain ⟨⟨h1, h2⟩, -, h5, -⟩ := h.2.2 a ha
  obtain ⟨⟨a1, a2, -⟩, ⟨a3, a4⟩, -⟩ := hA.2.1 a ha
  exact ⟨⟨h1, a1⟩, ⟨h2, a2⟩, h5, by show A.pt a - 1 ≤ 3; omega⟩
/-- the parts laid, with costs c and flows lo -/
def PL (u : dm_S) (A : AN) (c lo : Nat → Int) (L : Nat) : Prop := u.1 0 17 = nI L ∧ ∀ l, l < L → (u.1 12 l = nI (A.b l) ∧ u.1 13 l = nI (A.e l) ∧ u.1 14 l = nI (A.ar l)) ∧ u.2 15 l = lI (A.w 1000000000000 l) ∧ u.2 16 l = lI (c l) ∧ u.2 17 l = lI (lo l)
def OV (u : dm_S) (n : Nat) (ex : Nat → Int) : Prop := ∀ v, v < n → u.2 18 v = lI (ex v)
def sl_fr (u u' : dm_S) : Prop := (∀ c, c ∉ [0, 12, 13, 14] → u'.1 c = u.1 c) ∧ (∀ k, k ≠ 17 → u'.1 0 k = u.1 0 k) ∧ ∀ c, c ∉ [15, 16, 17, 18] → u'.2 c = u.2 c
theorem sl_mn {u u' : dm_S} (h : sl_fr u u') : mn_fr u u' := by
  refine ⟨⟨h.2.1 0 (by decide), h.2.1 1 (by decide)⟩, fun c hc => h.1 c ?_, fun c hc => h.2.2 c ?_⟩
  · intro z; revert hc z; revert c; decide
  · intro z; revert hc z; revert c; decide
theorem sl_fr0 (u : dm_S) : sl_fr u u := ⟨fun _ _ => rfl, fun _ _ => rfl, fun _ _ => rfl⟩
theorem sl_frt {u u' u'' : dm_S} (h : sl_fr u u') (h2 : sl_fr u' u'') : sl_fr u u'' := ⟨fun c a => (h2.1 c a).trans (h.1 c a), fun c a => (h2.2.1 c a).trans (h.2.1 c a), fun c a => (h2.2.2 c a).trans (h.2.2 c a)⟩
theorem sl_l {u : dm_S} {c j : Nat} {x : Int64} (h : c ∈ [15, 16, 17, 18]) : sl_fr u (dm_ul u c j x) := by
  refine ⟨fun _ _ => rfl, fun _ _ => rfl, fun k hk => ?_⟩
  have y : k ≠ c := fun y => hk (by rw [y]; exact h)
  rw [dm_ul_2, if_neg y]
theorem sl_i {u : dm_S} {c j : Nat} {x : Int32} (h : c ∈ [12, 13, 14]) : sl_fr u (dm_ui u c j x) := by
  refine ⟨fun k hk => ?_, fun k hk => ?_, fun _ _ => rfl⟩
  · have y : k ≠ c := fun y => hk (by rw [y]; exact List.mem_cons_of_mem _ h)
    rw [dm_ui_1, if_neg y]
  · have y : 0 ≠ c := fun y => by subst y; revert h; decide
    rw [dm_ui_1, if_neg y]
theorem sl_17 {u : dm_S} {x : Int32} : sl_fr u (dm_ui u 0 17 x) := ⟨fun k hk => by rw [dm_ui_1, if_neg (by intro z; subst z; exact hk (by decide))], fun k hk => by rw [dm_ui_1, if_pos rfl]; exact if_neg hk, fun _ _ => rfl⟩
/-- what is over when a ARCS have their least on them -/
def AN.so (A : AN) (a v : Nat) : Int := A.su v - dv a A.fr A.tr (fun a => A.st (4 * a)) v
theorem AN.so_s {A : AN} {a v : Nat} (h : A.fr a ≠ A.tr a) : A.so (a + 1) v = if v = A.tr a then A.so a v + A.st (4 * a) else if v = A.fr a then A.so a v - A.st (4 * a) else A.so a v := by
  have e : ∀ v, A.so (a + 1) v = A.so a v - ((if A.fr a = v then A.st (4 * a) else 0) - (if A.tr a = v then A.st (4 * a) else 0)) := fun v => by
    unfold AN.so dv
    show A.su v - (sI _ a + ((if A.fr a = v then A.st (4 * a) else 0) - (if A.tr a = v then A.st (4 * a) else 0))) = _
    omega
  rw [e v]
  by_cases y : v = A.tr a
  · subst y
    rw [if_pos rfl, if_neg h, if_pos rfl]; omega
  · rw [if_neg y]
    by_cases z : v = A.fr a
    · subst z
      rw [if_pos rfl, if_pos rfl, if_neg (fun w => h w.symm)]; omega
    · rw [if_neg z, if_neg (fun w => z w.symm), if_neg (fun w => y w.symm)]; omega
/-- one part more -/
theorem PL_add {u : dm_S} {A : AN} {c : Nat → Int} {L : Nat} {r : Int64} (h : PL u A c (fun _ => 0) L) (hL : L < 400) (hr : r = lI (A.w 1000000000000 L)) : PL (dm_ui (dm_ul (dm_ul (dm_ul (dm_ui (dm_ui (dm_ui u 12 L (nI (A.b L))) 13 L (nI (A.e L))) 14 L (nI (A.ar L))) 15 L r) 16 L (lI (c L))) 17 L 0) 0 17 (nI L + 1)) A c (fun _ => 0) (L + 1) := by
  refine ⟨?_, fun l hl => ?_⟩
  · rw [dm_ui_1, if_pos rfl, nI_1]; exact if_pos rfl
  · by_cases z : l = L
    · subst z
      simp [dm_ui_1, dm_ul_1, dm_ui_2, dm_ul_2, upd, vp_updL, hr]
      rfl
    · simp [dm_ui_1, dm_ul_1, dm_ui_2, dm_ul_2, upd, vp_updL, z]
      exact h.2 l (by omega)
theorem sl_add {u : dm_S} {L : Nat} {x y z w : Int32} {r c0 q : Int64} : sl_fr u (dm_ui (dm_ul (dm_ul (dm_ul (dm_ui (dm_ui (dm_ui u 12 L x) 13 L y) 14 L z) 15 L r) 16 L c0) 17 L q) 0 17 w) :=
  sl_frt (sl_frt (sl_frt (sl_frt (sl_frt (sl_frt (sl_i (by decide)) (sl_i (by decide))) (sl_i (by decide))) (sl_l (by decide))) (sl_l (by decide))) (sl_l (by decide))) sl_17
def sp_X11_split (As : List Value) (u : dm_S) (Q : Option Value → dm_S → Prop) : Prop := match As with
  | [.ref 0] => ∃ A : AN, A.ok ∧ MR u A ∧ ∀ u' : dm_S, sl_fr u u' → PL u' A A.c (fun _ => 0) A.K → OV u' A.n A.s → Q none u'
  | _ => False
def p_X11_split : List dm_I := [(0, .aload_n 0, 1, [0]), (1, .iconst 0, 1, []), (2, .putfield 139, 3, []), (5, .iconst 0, 1, []), (6, .istore_n 1, 1, [1]), (7, .iload_n 1, 1, [1]), (8, .aload_n 0, 1, [0]), (9, .getfield 109, 3, []), (12, .if_icmp .ge 21, 3, [33]), (15, .aload_n 0, 1, [0]), (16, .getfield 62, 3, []), (19, .iload_n 1, 1, [1]), (20, .aload_n 0, 1, [0]), (21, .getfield 7, 3, []), (24, .iload_n 1, 1, [1]), (25, .laload, 1, []), (26, .lastore, 1, []), (27, .iinc 1 1, 3, []), (30, .goto (-23), 3, [7]), (33, .iconst 0, 1, []), (34, .istore_n 1, 1, [1]), (35, .iload_n 1, 1, [1]), (36, .aload_n 0, 1, [0]), (37, .getfield 123, 3, []), (40, .if_icmp .ge 165, 3, [205]), (43, .aload_n 0, 1, [0]), (44, .getfield 62, 3, []), (47, .aload_n 0, 1, [0]), (48, .getfield 13, 3, []), (51, .iload_n 1, 1, [1]), (52, .iaload, 1, []), (53, .dup2, 1, []), (54, .laload, 1, []), (55, .aload_n 0, 1, [0]), (56, .getfield 20, 3, []), (59, .iload_n 1, 1, [1]), (60, .laload, 1, []), (61, .lsub, 1, []), (62, .lastore, 1, []), (63, .aload_n 0, 1, [0]), (64, .getfield 62, 3, []), (67, .aload_n 0, 1, [0]), (68, .getfield 17, 3, []), (71, .iload_n 1, 1, [1]), (72, .iaload, 1, []), (73, .dup2, 1, []), (74, .laload, 1, []), (75, .aload_n 0, 1, [0]), (76, .getfield 20, 3, []), (79, .iload_n 1, 1, [1]), (80, .laload, 1, []), (81, .ladd, 1, []), (82, .lastore, 1, []), (83, .aload_n 0, 1, [0]), (84, .getfield 20, 3, []), (87, .iload_n 1, 1, [1]), (88, .laload, 1, []), (89, .lstore_n 2, 1, [2]), (90, .iconst 0, 1, []), (91, .istore 4, 2, []), (93, .iload 4, 2, []), (95, .aload_n 0, 1, [0]), (96, .getfield 26, 3, []), (99, .iload_n 1, 1, [1]), (100, .iaload, 1, []), (101, .if_icmp .gt 98, 3, [199]), (104, .iload 4, 2, []), (106, .aload_n 0, 1, [0]), (107, .getfield 26, 3, []), (110, .iload_n 1, 1, [1]), (111, .iaload, 1, []), (112, .if_icmp .ge 19, 3, [131]), (115, .aload_n 0, 1, [0]), (116, .getfield 32, 3, []), (119, .iconst 4, 1, []), (120, .iload_n 1, 1, [1]), (121, .imul, 1, []), (122, .iload 4, 2, []), (124, .iadd, 1, []), (125, .iconst 1, 1, []), (126, .iadd, 1, []), (127, .laload, 1, []), (128, .goto 28, 3, [156]), (131, .aload_n 0, 1, [0]), (132, .getfield 23, 3, []), (135, .iload_n 1, 1, [1]), (136, .laload, 1, []), (137, .ldc2_w 130, 3, []), (140, .lcmp, 1, []), (141, .ifCond .ne 9, 3, [150]), (144, .ldc2_w 142, 3, []), (147, .goto 9, 3, [156]), (150, .aload_n 0, 1, [0]), (151, .getfield 23, 3, []), (154, .iload_n 1, 1, [1]), (155, .laload, 1, []), (156, .lstore 5, 2, []), (158, .aload_n 0, 1, [0]), (159, .aload_n 0, 1, [0]), (160, .getfield 13, 3, []), (163, .iload_n 1, 1, [1]), (164, .iaload, 1, []), (165, .aload_n 0, 1, [0]), (166, .getfield 17, 3, []), (169, .iload_n 1, 1, [1]), (170, .iaload, 1, []), (171, .iload_n 1, 1, [1]), (172, .lload 5, 2, []), (174, .lload_n 2, 1, [2]), (175, .lsub, 1, []), (176, .aload_n 0, 1, [0]), (177, .getfield 29, 3, []), (180, .iconst 4, 1, []), (181, .iload_n 1, 1, [1]), (182, .imul, 1, []), (183, .iload 4, 2, []), (185, .iadd, 1, []), (186, .laload, 1, []), (187, .invokevirtual 144, 3, []), (190, .lload 5, 2, []), (192, .lstore_n 2, 1, [2]), (193, .iinc 4 1, 3, []), (196, .goto (-103), 3, [93]), (199, .iinc 1 1, 3, []), (202, .goto (-167), 3, [35]), (205, .return_, 1, [])]
set_option maxRecDepth 100000 in
theorem v_X11_split : p_X11_split.all (dm_vb cX11_split) = true := by decide +kernel
def k_X11_split : dm_Sp := fun a => match a with
  | 0 => sp_X11_addPart
  | _ => fun _ _ _ => False
def x_X11_split : dm_X := dm_mk [(7, 11, 2), (13, 11, 3), (17, 11, 4), (20, 11, 5), (23, 11, 6), (26, 11, 7), (29, 11, 8), (32, 11, 9), (62, 11, 24), (109, 11, 0), (123, 11, 1), (139, 11, 17)] [] [(130, -2), (142, 1000000000000)] [(144, 0, 5, 11)] 0
set_option maxRecDepth 100000 in
set_option maxHeartbeats 1600000 in
theorem u_X11_split : dm_Pure shM x_X11_split k_X11_split p_X11_split 7 sp_X11_split := by
  intro As u Qp h
  unfold sp_X11_split at h
  split at h
  · obtain ⟨A, hA, hC, h⟩ := h
    obtain ⟨hn, hM⟩ := hA.1
    have hK := A.K_le hA
    refine ⟨Nat.le_of_ble_eq_true rfl, fun G Wp hW0 hW1 hG => ?_⟩
    have outer : ∀ k a : Nat, a + k = A.M → ∀ (u' : dm_S) (o2 o4 o5 : Option Value), sl_fr u u' → PL u' A A.c (fun _ => 0) (cn_fs A.pt a) → OV u' A.n (A.so a) → G 35 [some (.ref 0), some (.int (nI a)), o2, none, o4, o5, none] [] u' := by
      intro k
      induction k with
      | zero =>
        intro a ha u' o2 o4 o5 a1 a2 a3
        apply hG (fun pc => pc == 35 || pc == 93) 80
        simp (config := { maxSteps := 2000000 }) [-Prod.forall, -Prod.exists, -exists_and_left, -exists_and_right, hW0, hW1, dm_fn, dm_fd, dm_x, dm_L0, dm_la, dm_t1, dm_sw, List.headD, dm_ic, dm_mk, dm_s1, dm_s2, dm_clr, dm_cs, dm_cc, dm_nb0, dm_nb1, Value.category, List.lookup, p_X11_split, x_X11_split, k_X11_split, dm_cm, upd, vp_updL, dm_ui_1, dm_ui_2, dm_ul_1, dm_ul_2, sp_X11_addPart, sM_0, sM_1, sM_2, sM_3, sM_4, sM_5, sM_6, sM_7, sM_8, sM_9, sM_10, sM_11, sM_12, sM_13, sM_14, sM_15, sM_16, sM_17, sM_18, sM_19, sM_20, sM_21, sM_22, sM_23, sM_24, sM_25, sM_26, sM_27, sM_28, sM_29]
        have e : a = A.M := by omega
        subst e
        rw [a1.2.1 1 (by decide), hC.1.2]
        exact ⟨fun _ => h u' a1 a2 a3, fun z => absurd z (nI_nlt (Nat.le_refl _) (by omega))⟩
      | succ k ih =>
        intro a ha u' o2 o4 o5 a1 a2 a3
        have ham : a < A.M := by omega
        obtain ⟨⟨q1, q2⟩, ⟨q3, q4⟩, q5, q6, q7⟩ := hC.2.2 a ham
        obtain ⟨⟨r1, r2, r3⟩, ⟨r4, r5⟩, -⟩ := hA.2.1 a ham
        have ia : vp_in (nI a) 80 := vp_in_nI (by omega) (by omega)
        have ca : (nI a).toNatClampNeg = a := nI_clamp (by omega)
        have cf : (nI (A.fr a)).toNatClampNeg = A.fr a := nI_clamp (by omega)
        have ct : (nI (A.tr a)).toNatClampNeg = A.tr a := nI_clamp (by omega)
        have if' : vp_in (nI (A.fr a)) 26 := vp_in_nI (by omega) (by omega)
        have it : vp_in (nI (A.tr a)) 26 := vp_in_nI (by omega) (by omega)
        have inner : ∀ k2 k : Nat, k + k2 = A.pt a → ∀ (u' : dm_S) (at0 : Int64) (o5 : Option Value), (k < A.pt a → at0 = lI (A.st (4 * a + k))) → sl_fr u u' → PL u' A A.c (fun _ => 0) (cn_fs A.pt a + k) → OV u' A.n (A.so (a + 1)) → G 93 [some (.ref 0), some (.int (nI a)), some (.long at0), none, some (.int (nI k)), o5, none] [] u' := by
          intro k2
          induction k2 with
          | zero =>
            intro k hk u' at0 o5 a0 a1 a2 a3
            have e : k = A.pt a := by omega
            subst e
            apply hG (fun pc => pc == 35 || pc == 93) 80
            simp (config := { maxSteps := 2000000 }) [-Prod.forall, -Prod.exists, -exists_and_left, -exists_and_right, hW0, hW1, dm_fn, dm_fd, dm_x, dm_L0, dm_la, dm_t1, dm_sw, List.headD, dm_ic, dm_mk, dm_s1, dm_s2, dm_clr, dm_cs, dm_cc, dm_nb0, dm_nb1, Value.category, List.lookup, p_X11_split, x_X11_split, k_X11_split, dm_cm, upd, vp_updL, dm_ui_1, dm_ui_2, dm_ul_1, dm_ul_2, sp_X11_addPart, sM_0, sM_1, sM_2, sM_3, sM_4, sM_5, sM_6, sM_7, sM_8, sM_9, sM_10, sM_11, sM_12, sM_13, sM_14, sM_15, sM_16, sM_17, sM_18, sM_19, sM_20, sM_21, sM_22, sM_23, sM_24, sM_25, sM_26, sM_27, sM_28, sM_29]
            rw [a1.1 6 (by decide), ca, q5, nI_1]
            exact ⟨ia, fun _ => ih (a + 1) (by omega) u' _ _ _ a1 a2 a3, fun z => absurd z (nI_ge (by omega) (by omega))⟩
          | succ k2 ih2 =>
            intro k hk u' at0 o5 a0 a1 a2 a3
            obtain ⟨l1, l2, l3⟩ := A.l_at ham (show k < A.pt a by omega)
            have c4k : (4 : Int32) * nI a + nI k = nI (4 * a + k) := dm_4p
            have ck : (nI (4 * a + k)).toNatClampNeg = 4 * a + k := nI_clamp (by omega)
            have ck1 : (nI (4 * a + k + 1)).toNatClampNeg = 4 * a + k + 1 := nI_clamp (by omega)
            have ik : vp_in (nI (4 * a + k)) 320 := vp_in_nI (by omega) (by omega)
            have il : vp_in (nI (cn_fs A.pt a + k)) 400 := vp_in_nI (by omega) (by omega)
            have cl : (nI (cn_fs A.pt a + k)).toNatClampNeg = cn_fs A.pt a + k := nI_clamp (by omega)
            have e17 : u'.1 0 17 = nI (cn_fs A.pt a + k) := a2.1
            have hb : A.b (cn_fs A.pt a + k) = A.fr a := by unfold AN.b; rw [l2]
            have he : A.e (cn_fs A.pt a + k) = A.tr a := by unfold AN.e; rw [l2]
            have hc : A.c (cn_fs A.pt a + k) = A.rt (4 * a + k) := by unfold AN.c; rw [l3]
            have cont : ∀ x : Int64, x = lI (A.ed 1000000000000 a k) → G 93 [some (.ref 0), some (.int (nI a)), some (.long x), none, some (.int (nI (k + 1))), some (.long x), none] [] (dm_ui (dm_ul (dm_ul (dm_ul (dm_ui (dm_ui (dm_ui u' 12 (cn_fs A.pt a + k) (nI (A.fr a))) 13 (cn_fs A.pt a + k) (nI (A.tr a))) 14 (cn_fs A.pt a + k) (nI a)) 15 (cn_fs A.pt a + k) (x - at0)) 16 (cn_fs A.pt a + k) (lI (A.rt (4 * a + k)))) 17 (cn_fs A.pt a + k) 0) 0 17 (nI (cn_fs A.pt a + k) + 1)) := by
              intro x hx
              refine ih2 (k + 1) (by omega) _ x _ (fun y => ?_) (sl_frt a1 sl_add) ?_ (fun v hv => ?_)
              · rw [hx]; unfold AN.ed; rw [if_pos y]; rfl
              · have := PL_add (r := x - at0) a2 (by omega) (by rw [hx, a0 (by omega), lI_sub, A.w_at ham (by omega)])
                rw [hb, he, hc, l2] at this
                exact this
              · simp only [dm_ui_2, dm_ul_2]
                exact a3 v hv
            apply hG (fun pc => pc == 35 || pc == 93) 80
            simp (config := { maxSteps := 2000000 }) [-Prod.forall, -Prod.exists, -exists_and_left, -exists_and_right, hW0, hW1, dm_fn, dm_fd, dm_x, dm_L0, dm_la, dm_t1, dm_sw, List.headD, dm_ic, dm_mk, dm_s1, dm_s2, dm_clr, dm_cs, dm_cc, dm_nb0, dm_nb1, Value.category, List.lookup, p_X11_split, x_X11_split, k_X11_split, dm_cm, upd, vp_updL, dm_ui_1, dm_ui_2, dm_ul_1, dm_ul_2, sp_X11_addPart, sM_0, sM_1, sM_2, sM_3, sM_4, sM_5, sM_6, sM_7, sM_8, sM_9, sM_10, sM_11, sM_12, sM_13, sM_14, sM_15, sM_16, sM_17, sM_18, sM_19, sM_20, sM_21, sM_22, sM_23, sM_24, sM_25, sM_26, sM_27, sM_28, sM_29]
            rw [a1.1 6 (by decide), a1.1 2 (by decide), a1.1 3 (by decide), a1.2.2 5 (by decide), a1.2.2 7 (by decide), a1.2.2 8 (by decide), ca, q1, q2, q4, q5, e17, c4k, cl, ck, q6 k (by omega), nI_1 k, nI_1 (4 * a + k), ck1]
            simp only [ia, ik, il, true_and]
            refine ⟨fun z => absurd z (nI_nlt (by omega) (by omega)), fun _ => ⟨fun z => ⟨fun z2 => ?_, fun z2 => ?_⟩, fun z => ⟨vp_in_nI ?_ (by omega), ?_⟩⟩⟩
            · have hk1 : ¬ k + 1 < A.pt a := by have := (nI_leI (by omega) (by omega)).mp z; omega
              refine cont _ ?_
              unfold AN.ed
              rw [if_neg hk1]
              by_cases w : A.en a = true
              · rw [if_pos w] at z2; exact absurd rfl z2
              · rw [if_neg w, if_neg w]
            · have hk1 : ¬ k + 1 < A.pt a := by have := (nI_leI (by omega) (by omega)).mp z; omega
              refine cont _ ?_
              unfold AN.ed
              rw [if_neg hk1]
              by_cases w : A.en a = true
              · rw [if_pos w]; rfl
              · rw [if_neg w] at z2
                have t := (hA.2.1 a ham).2.2.2.2.2 (by simpa using w)
                have t2 := A.st_ge hA ham (A.pt a - 1) (by omega)
                have t3 := (hA.2.1 a ham).2.2.1
                rw [show (-2 : Int64) = lI (-2) from rfl, lI_eq (by unfold lB; omega) (by unfold lB; omega)] at z2
                omega
            · have := (nI_ltI (by omega) (by omega)).mp z; omega
            · have hk1 : k + 1 < A.pt a := by have := (nI_ltI (by omega) (by omega)).mp z; omega
              refine cont _ ?_
              unfold AN.ed
              rw [if_pos hk1]; exact q7 k hk1
        apply hG (fun pc => pc == 35 || pc == 93) 80
        simp (config := { maxSteps := 2000000 }) [-Prod.forall, -Prod.exists, -exists_and_left, -exists_and_right, hW0, hW1, dm_fn, dm_fd, dm_x, dm_L0, dm_la, dm_t1, dm_sw, List.headD, dm_ic, dm_mk, dm_s1, dm_s2, dm_clr, dm_cs, dm_cc, dm_nb0, dm_nb1, Value.category, List.lookup, p_X11_split, x_X11_split, k_X11_split, dm_cm, upd, vp_updL, dm_ui_1, dm_ui_2, dm_ul_1, dm_ul_2, sp_X11_addPart, sM_0, sM_1, sM_2, sM_3, sM_4, sM_5, sM_6, sM_7, sM_8, sM_9, sM_10, sM_11, sM_12, sM_13, sM_14, sM_15, sM_16, sM_17, sM_18, sM_19, sM_20, sM_21, sM_22, sM_23, sM_24, sM_25, sM_26, sM_27, sM_28, sM_29]
        rw [a1.2.1 1 (by decide), hC.1.2, a1.1 2 (by decide), a1.1 3 (by decide), a1.2.2 4 (by decide), ca, q1, q2, q3, cf, ct]
        simp only [ia, if', it, true_and]
        refine ⟨fun z => absurd z (nI_ge (by omega) (by omega)), fun _ => ?_⟩
        refine inner (A.pt a) 0 (by omega) _ _ _ (fun _ => rfl) (sl_frt a1 (sl_frt (sl_l (by decide)) (sl_l (by decide)))) ⟨a2.1, fun l hl => ?_⟩ (fun v hv => ?_)
        · simp only [dm_ul_2]
          exact a2.2 l hl
        · have ef := a3 (A.fr a) r1
          have et := a3 (A.tr a) r2
          rw [A.so_s r3]
          simp only [dm_ul_2, if_pos]
          unfold vp_updL
          by_cases y : v = A.tr a
          · rw [if_pos y, if_pos y, if_neg (fun w => r3 w.symm), et, lI_add, y]
          · rw [if_neg y, if_neg y]
            by_cases z : v = A.fr a
            · rw [if_pos z, if_pos z, ef, lI_sub, z]
            · rw [if_neg z, if_neg z]; exact a3 v hv
    have fill : ∀ k i : Nat, i + k = A.n → ∀ u' : dm_S, sl_fr u u' → u'.1 0 17 = 0 → OV u' i A.su → G 7 [some (.ref 0), some (.int (nI i)), none, none, none, none, none] [] u' := by
      intro k
      induction k with
      | zero =>
        intro i hi u' a1 a2 a3
        apply hG (fun pc => pc == 7 || pc == 35) 80
        simp (config := { maxSteps := 2000000 }) [-Prod.forall, -Prod.exists, -exists_and_left, -exists_and_right, hW0, hW1, dm_fn, dm_fd, dm_x, dm_L0, dm_la, dm_t1, dm_sw, List.headD, dm_ic, dm_mk, dm_s1, dm_s2, dm_clr, dm_cs, dm_cc, dm_nb0, dm_nb1, Value.category, List.lookup, p_X11_split, x_X11_split, k_X11_split, dm_cm, upd, vp_updL, dm_ui_1, dm_ui_2, dm_ul_1, dm_ul_2, sp_X11_addPart, sM_0, sM_1, sM_2, sM_3, sM_4, sM_5, sM_6, sM_7, sM_8, sM_9, sM_10, sM_11, sM_12, sM_13, sM_14, sM_15, sM_16, sM_17, sM_18, sM_19, sM_20, sM_21, sM_22, sM_23, sM_24, sM_25, sM_26, sM_27, sM_28, sM_29]
        have e : i = A.n := by omega
        subst e
        rw [a1.2.1 0 (by decide), hC.1.1]
        exact ⟨fun _ => outer A.M 0 (by omega) u' _ _ _ a1 ⟨a2, fun l hl => absurd hl (Nat.not_lt_zero _)⟩ (fun v hv => by rw [a3 v hv]; unfold AN.so dv; show lI _ = lI (_ - 0); rw [Int.sub_zero]), fun z => absurd z (nI_nlt (Nat.le_refl _) (by omega))⟩
      | succ k ih =>
        intro i hi u' a1 a2 a3
        apply hG (fun pc => pc == 7 || pc == 35) 80
        simp (config := { maxSteps := 2000000 }) [-Prod.forall, -Prod.exists, -exists_and_left, -exists_and_right, hW0, hW1, dm_fn, dm_fd, dm_x, dm_L0, dm_la, dm_t1, dm_sw, List.headD, dm_ic, dm_mk, dm_s1, dm_s2, dm_clr, dm_cs, dm_cc, dm_nb0, dm_nb1, Value.category, List.lookup, p_X11_split, x_X11_split, k_X11_split, dm_cm, upd, vp_updL, dm_ui_1, dm_ui_2, dm_ul_1, dm_ul_2, sp_X11_addPart, sM_0, sM_1, sM_2, sM_3, sM_4, sM_5, sM_6, sM_7, sM_8, sM_9, sM_10, sM_11, sM_12, sM_13, sM_14, sM_15, sM_16, sM_17, sM_18, sM_19, sM_20, sM_21, sM_22, sM_23, sM_24, sM_25, sM_26, sM_27, sM_28, sM_29]
        rw [a1.2.1 0 (by decide), hC.1.1, a1.2.2 1 (by decide), nI_clamp (show i < 2 ^ 31 by omega), hC.2.1 i (by omega), nI_1]
        refine ⟨fun z => absurd z (nI_ge (by omega) (by omega)), fun _ => ⟨vp_in_nI (by omega) (by omega), vp_in_nI (by omega) (by omega), ih (i + 1) (by omega) _ (sl_frt a1 (sl_l (by decide))) a2 (fun v hv => ?_)⟩⟩
        rw [dm_ul_2, if_pos rfl]
        unfold vp_updL
        by_cases y : v = i
        · rw [if_pos y, y]
        · rw [if_neg y]; exact a3 v (by omega)
    apply hG (fun pc => pc == 7) 80
    simp (config := { maxSteps := 2000000 }) [-Prod.forall, -Prod.exists, -exists_and_left, -exists_and_right, hW0, hW1, dm_fn, dm_fd, dm_x, dm_L0, dm_la, dm_t1, dm_sw, List.headD, dm_ic, dm_mk, dm_s1, dm_s2, dm_clr, dm_cs, dm_cc, dm_nb0, dm_nb1, Value.category, List.lookup, p_X11_split, x_X11_split, k_X11_split, dm_cm, upd, vp_updL, dm_ui_1, dm_ui_2, dm_ul_1, dm_ul_2, sp_X11_addPart, sM_0, sM_1, sM_2, sM_3, sM_4, sM_5, sM_6, sM_7, sM_8, sM_9, sM_10, sM_11, sM_12, sM_13, sM_14, sM_15, sM_16, sM_17, sM_18, sM_19, sM_20, sM_21, sM_22, sM_23, sM_24, sM_25, sM_26, sM_27, sM_28, sM_29]
    exact fill A.n 0 (by omega) _ sl_17 (by rw [dm_ui_1, if_pos rfl]; exact if_pos rfl) (fun v hv => by omega)
  · exact h.elim
set_option maxRecDepth 100000 in
theorem t_X11_split (l : Launch) (D : va_G) (cA : Nat → ClassId) (ad : Nat → Nat) : dm_Met l D dm_cl cA ad shM yX11_split (Cond.code yX11_split cX11_split 7 (dm_rt 0) :: dm_tt) ({ frames := 1, cells := 0, slots := 0, locals := 27 } : Room) sp_X11_split := dm_meth (own := RX11) (X := x_X11_split) (Sp := k_X11_split) (prog := p_X11_split) (by decide +kernel) rfl rfl (dm_FO_s ffX11 [(7, 11, 2), (13, 11, 3), (17, 11, 4), (20, 11, 5), (23, 11, 6), (26, 11, 7), (29, 11, 8), (32, 11, 9), (62, 11, 24), (109, 11, 0), (123, 11, 1), (139, 11, 17)] rfl dm_hT (by decide +kernel)) (dm_IO_s ifX11 jfX11 [] [(130, -2), (142, 1000000000000)] rfl rfl dm_hT (by decide +kernel) (by decide +kernel)) soM (dm_MO_of (List.forall_mem_cons.mpr ⟨dm_M1_of (t_X11_addPart l D cA ad) dm_hT (dm_mem [1120, 77, 1117] (by decide +kernel) (by decide +kernel)) (by decide) (by decide +kernel) (Or.inr ⟨by decide, dm_mem [1119, 45] (by decide +kernel) (by decide +kernel), rfl⟩), fun _ h => absurd h List.not_mem_nil⟩)) v_X11_split u_X11_split
