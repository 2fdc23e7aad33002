/-! ===== the reference: run ===== -/
theorem mst_nor {u : dm_S} {A : AN} (hA : A.ok) (hC : MR u A) : ∃ p : Nat → Int, (rx_it A.M A.fr A.tr (mn_lw u (fun a => A.pt a - 1)) (mn_en u) (A.n + 1) (mn_z0 u A.n)).1 = lF p ∧ ((rx_it A.M A.fr A.tr (mn_lw u (fun a => A.pt a - 1)) (mn_en u) (A.n + 1) (mn_z0 u A.n)).2 = true → A.nor p ∧ ∀ v, v < A.n → -24000000 ≤ p v ∧ p v ≤ 0) ∧ ((rx_it A.M A.fr A.tr (mn_lw u (fun a => A.pt a - 1)) (mn_en u) (A.n + 1) (mn_z0 u A.n)).2 = true ↔ ∃ U, A.nor U) := by
  obtain ⟨hn, hM⟩ := hA.1
  have hf := AN.dFe hA
  have hen : ∀ a, a < A.M → mn_en u a = A.en a := by
    intro a ha
    have := MR_en hA hC ha
    unfold mn_en
    cases hq : A.en a with
    | true => rw [decide_eq_true_eq]; exact this.mpr hq
    | false => rw [decide_eq_false_iff_not]; intro z; rw [this.mp z] at hq; cases hq
  have hw : ∀ a, a < A.M → mn_lw u (fun a => A.pt a - 1) a = lI (A.lr a) := by
    intro a ha
    have h1 := (hA.2.1 a ha).2.1.1
    exact (hC.2.2 a ha).2.2.2.1 (A.pt a - 1) (by omega)
  have hf2 : dF A.n A.M A.fr A.tr A.lr (mn_en u) := fun a ha ho => hf a ha (by rw [← hen a ha]; exact ho)
  have e0 : mn_z0 u A.n = lF (fun j => if j < A.n then 0 else (u.2 19 j).toInt) := by
    funext j
    show (if j < A.n then (0 : Int64) else u.2 19 j) = lI (if j < A.n then 0 else (u.2 19 j).toInt)
    split
    · rfl
    · exact (lI_to _).symm
  have hz : ∀ v, v < A.n → (fun j => if j < A.n then 0 else (u.2 19 j).toInt) v = 0 := fun v hv => if_pos hv
  have hr := rx_eT hM hf2 hw (A.n + 1) 0 (fun j => if j < A.n then 0 else (u.2 19 j).toInt) (fun v hv => by rw [if_pos hv]; omega) (by omega)
  rw [eT_on hen] at hr
  rw [e0, hr]
  refine ⟨_, rfl, fun h => ?_, ?_⟩
  · obtain ⟨a, b⟩ := eT_end (n := A.n) (V0 := fun j => if j < A.n then 0 else (u.2 19 j).toInt) hf (A.n + 1) _ dI_0 h
    have hd0 : d0 A.n (fun j => if j < A.n then 0 else (u.2 19 j).toInt) := fun v hv => Or.inr (hz v hv)
    have hle : ∀ v, v < A.n → (eT A.M A.fr A.tr A.lr A.en (A.n + 1) (fun j => if j < A.n then 0 else (u.2 19 j).toInt)).1 v ≤ 0 := fun v hv => by
      have := a.1 v hv
      rw [hz v hv] at this
      exact this
    refine ⟨fun i hi ho => b i hi ho (by have := hle _ (hf i hi ho).1.1; unfold fAR; omega), fun v hv => ⟨dB_lo hn hf hd0 a b v hv, hle v hv⟩⟩
  · exact eT_iff hn hf hz
/-- the net and the assignment are as they were -/
def mr_fr (u u' : dm_S) : Prop := (∀ c, c ∈ [2, 3, 6, 22] → u'.1 c = u.1 c) ∧ (∀ k, k ∈ [0, 1, 27] → u'.1 0 k = u.1 0 k) ∧ ∀ c, c ∈ [1, 4, 5, 7, 8, 21] → u'.2 c = u.2 c
theorem mr_frt {u u' u'' : dm_S} (h : mr_fr u u') (h2 : mr_fr u' u'') : mr_fr u u'' := ⟨fun c a => (h2.1 c a).trans (h.1 c a), fun c a => (h2.2.1 c a).trans (h.2.1 c a), fun c a => (h2.2.2 c a).trans (h.2.2 c a)⟩
theorem mr_mn {u u' : dm_S} (h : mr_fr u u') : mn_fr u u' := by
  refine ⟨⟨h.2.1 0 (by decide), h.2.1 1 (by decide)⟩, fun c hc => h.1 c ?_, fun c hc => h.2.2 c ?_⟩
  · simp at hc ⊢; omega
  · simp at hc ⊢; omega
theorem mr_if {u u' : dm_S} (h : if_fr u u') : mr_fr u u' := ⟨fun c hc => h.1 c (by simp at hc ⊢; omega), fun k hk => h.2.1 k (by simp at hk; omega) (by simp at hk; omega), fun c hc => h.2.2 c (by simp at hc ⊢; omega)⟩
theorem mr_sl {u u' : dm_S} (h : sl_fr u u') : mr_fr u u' := mr_if (if_sl h)
theorem mr_fl {u u' : dm_S} (h : fl_fr u u') : mr_fr u u' := mr_if (if_fl h)
theorem mr_tr {u u' : dm_S} (h : tr_fr u u') : mr_fr u u' := ⟨fun c hc => h.1 c (by simp at hc; omega) (by simp at hc; omega), fun k hk => h.2.1 k (by simp at hk; omega), fun c hc => h.2.2 c (by simp at hc; omega)⟩
theorem mr_tf {u u' : dm_S} (h : tf_fr u u') : mr_fr u u' := ⟨fun c hc => by rw [h.1], fun k hk => by rw [h.1], fun c hc => h.2 c (by simp at hc; omega)⟩
theorem mr_lt {u u' : dm_S} (h : lt_fr u u') : mr_fr u u' := ⟨fun c hc => h.1 c (by simp at hc ⊢; omega), fun k hk => by rw [h.1 0 (by decide)], fun c hc => h.2 c (by simp at hc ⊢; omega)⟩
theorem mr_l {u : dm_S} {c j : Nat} {x : Int64} (h : c ∉ [1, 4, 5, 7, 8, 21]) : mr_fr u (dm_ul u c j x) := ⟨fun _ _ => rfl, fun _ _ => rfl, fun k hk => by rw [dm_ul_2, if_neg (fun z => h (by rw [← z]; exact hk))]⟩
theorem mr_0 {u : dm_S} {k : Nat} {x : Int32} (h : k ∉ [0, 1, 27]) : mr_fr u (dm_ui u 0 k x) := ⟨fun c hc => by rw [dm_ui_1, if_neg (by simp at hc; omega)], fun j hj => by rw [dm_ui_1, if_pos rfl]; exact if_neg (fun z => h (by rw [← z]; exact hj)), fun _ _ => rfl⟩
theorem mr_sj {u : dm_S} {f : Nat → Int64} : mr_fr u (dm_sj u 19 f) := ⟨fun _ _ => rfl, fun _ _ => rfl, fun c hc => by show (if c = 19 then f else u.2 c) = u.2 c; rw [if_neg (by simp at hc; omega)]⟩
theorem mr_mg {u : dm_S} : mr_fr u (dm_mg u) := mr_frt (mr_0 (by decide)) (mr_frt (mr_0 (by decide)) (mr_0 (by decide)))
def s3 (u : dm_S) (a b c : Int32) : Prop := u.1 0 10 = a ∧ u.1 0 13 = b ∧ u.1 0 15 = c
def sp_X11_run (As : List Value) (u : dm_S) (Q : Option Value → dm_S → Prop) : Prop := match As with
  | [.ref 0, .int x] => (¬ (0 ≤ x ∧ x ≤ 2) → Q (some (.int (-1))) u) ∧ (0 ≤ x ∧ x ≤ 2 → ∃ A : AN, A.ok ∧ MR u A ∧ (sI A.su A.n ≠ 0 → ∀ u' : dm_S, mr_fr u u' → u'.1 0 10 = 2 → u'.1 0 13 = 0 → MS u' (fun _ => true) A.n → Q (some (.int 2)) u') ∧ (sI A.su A.n = 0 → ∀ (u' : dm_S) (lo : Nat → Int) (S : Nat → Bool), mr_fr u u' → u'.1 0 10 = 2 → u'.1 0 13 = 0 → fits A.K (A.w 1000000000000) lo → stk A.n A.K A.b A.e A.ln (A.w 1000000000000) A.s lo S → (∃ v, v < A.n ∧ A.s v - dv A.K A.b A.e lo v ≠ 0) → MS u' S A.n → Q (some (.int 2)) u') ∧ (sI A.su A.n = 0 → ∀ lo, fits A.K (A.w 1000000000000) lo → bal A.n A.K A.b A.e A.s lo → (∀ U, ¬ A.nor U) → ∀ f rq, rqok A f rq → ∀ u' : dm_S, mr_fr u u' → s3 u' 1 (nI f) 0 → (∀ i, i < f → u'.1 10 i = nI (rq i)) → Q (some (.int 1)) u') ∧ (sI A.su A.n = 0 → ∀ U, A.nor U → ∀ (u' : dm_S) (f P : Nat → Int), mr_fr u u' → s3 u' 0 0 0 → FL u' A.M f → (∀ a, a < A.M → A.bL 1000000000000 P a ≤ f a ∧ f a ≤ A.bH 1000000000000 P a) → (∀ v, v < A.n → dv A.M A.fr A.tr f v = A.su v) → aLex A.n A.M A.fr A.tr (A.bL 1000000000000 P) (A.bH 1000000000000 P) f A.M → u'.2 0 12 = lI (sI (fun a => A.co a (f a)) A.M) → Q (some (.int 0)) u'))
  | _ => False
def p_X11_run : List dm_I := [(0, .iload_n 1, 1, [1]), (1, .ifCond .lt 8, 3, [9]), (4, .iload_n 1, 1, [1]), (5, .iconst 2, 1, []), (6, .if_icmp .le 5, 3, [11]), (9, .iconst (-1), 1, []), (10, .ireturn, 1, []), (11, .aload_n 0, 1, [0]), (12, .invokevirtual 120, 3, []), (15, .aload_n 0, 1, [0]), (16, .invokevirtual 184, 3, []), (19, .ifCond .ne 13, 3, [32]), (22, .aload_n 0, 1, [0]), (23, .iconst 2, 1, []), (24, .putfield 99, 3, []), (27, .aload_n 0, 1, [0]), (28, .getfield 99, 3, []), (31, .ireturn, 1, []), (32, .aload_n 0, 1, [0]), (33, .invokevirtual 187, 3, []), (36, .ifCond .ne 17, 3, [53]), (39, .aload_n 0, 1, [0]), (40, .invokevirtual 190, 3, []), (43, .aload_n 0, 1, [0]), (44, .iconst 1, 1, []), (45, .putfield 99, 3, []), (48, .aload_n 0, 1, [0]), (49, .getfield 99, 3, []), (52, .ireturn, 1, []), (53, .aload_n 0, 1, [0]), (54, .invokevirtual 169, 3, []), (57, .iconst 0, 1, []), (58, .istore_n 2, 1, [2]), (59, .iload_n 2, 1, [2]), (60, .aload_n 0, 1, [0]), (61, .getfield 139, 3, []), (64, .if_icmp .ge 109, 3, [173]), (67, .aload_n 0, 1, [0]), (68, .getfield 56, 3, []), (71, .iload_n 2, 1, [2]), (72, .laload, 1, []), (73, .aload_n 0, 1, [0]), (74, .getfield 65, 3, []), (77, .aload_n 0, 1, [0]), (78, .getfield 44, 3, []), (81, .iload_n 2, 1, [2]), (82, .iaload, 1, []), (83, .laload, 1, []), (84, .ladd, 1, []), (85, .aload_n 0, 1, [0]), (86, .getfield 65, 3, []), (89, .aload_n 0, 1, [0]), (90, .getfield 47, 3, []), (93, .iload_n 2, 1, [2]), (94, .iaload, 1, []), (95, .laload, 1, []), (96, .lsub, 1, []), (97, .lconst 0, 1, []), (98, .lcmp, 1, []), (99, .ifCond .ge 68, 3, [167]), (102, .aload_n 0, 1, [0]), (103, .getfield 53, 3, []), (106, .iload_n 2, 1, [2]), (107, .laload, 1, []), (108, .ldc2_w 193, 3, []), (111, .lcmp, 1, []), (112, .ifCond .ge 55, 3, [167]), (115, .aload_n 0, 1, [0]), (116, .getfield 59, 3, []), (119, .iload_n 2, 1, [2]), (120, .aload_n 0, 1, [0]), (121, .getfield 53, 3, []), (124, .iload_n 2, 1, [2]), (125, .laload, 1, []), (126, .lastore, 1, []), (127, .aload_n 0, 1, [0]), (128, .getfield 62, 3, []), (131, .aload_n 0, 1, [0]), (132, .getfield 44, 3, []), (135, .iload_n 2, 1, [2]), (136, .iaload, 1, []), (137, .dup2, 1, []), (138, .laload, 1, []), (139, .aload_n 0, 1, [0]), (140, .getfield 53, 3, []), (143, .iload_n 2, 1, [2]), (144, .laload, 1, []), (145, .lsub, 1, []), (146, .lastore, 1, []), (147, .aload_n 0, 1, [0]), (148, .getfield 62, 3, []), (151, .aload_n 0, 1, [0]), (152, .getfield 47, 3, []), (155, .iload_n 2, 1, [2]), (156, .iaload, 1, []), (157, .dup2, 1, []), (158, .laload, 1, []), (159, .aload_n 0, 1, [0]), (160, .getfield 53, 3, []), (163, .iload_n 2, 1, [2]), (164, .laload, 1, []), (165, .ladd, 1, []), (166, .lastore, 1, []), (167, .iinc 2 1, 3, []), (170, .goto (-111), 3, [59]), (173, .aload_n 0, 1, [0]), (174, .invokevirtual 172, 3, []), (177, .istore_n 2, 1, [2]), (178, .iload_n 2, 1, [2]), (179, .iconst (-1), 1, []), (180, .if_icmp .eq 16, 3, [196]), (183, .aload_n 0, 1, [0]), (184, .iload_n 2, 1, [2]), (185, .invokevirtual 176, 3, []), (188, .aload_n 0, 1, [0]), (189, .invokevirtual 172, 3, []), (192, .istore_n 2, 1, [2]), (193, .goto (-15), 3, [178]), (196, .aload_n 0, 1, [0]), (197, .invokevirtual 195, 3, []), (200, .aload_n 0, 1, [0]), (201, .invokevirtual 198, 3, []), (204, .aload_n 0, 1, [0]), (205, .iconst 0, 1, []), (206, .putfield 99, 3, []), (209, .aload_n 0, 1, [0]), (210, .lconst 0, 1, []), (211, .putfield 201, 3, []), (214, .iconst 0, 1, []), (215, .istore_n 3, 1, [3]), (216, .iload_n 3, 1, [3]), (217, .aload_n 0, 1, [0]), (218, .getfield 123, 3, []), (221, .if_icmp .ge 29, 3, [250]), (224, .aload_n 0, 1, [0]), (225, .dup, 1, []), (226, .getfield 201, 3, []), (229, .aload_n 0, 1, [0]), (230, .iload_n 3, 1, [3]), (231, .aload_n 0, 1, [0]), (232, .getfield 35, 3, []), (235, .iload_n 3, 1, [3]), (236, .laload, 1, []), (237, .invokevirtual 205, 3, []), (240, .ladd, 1, []), (241, .putfield 201, 3, []), (244, .iinc 3 1, 3, []), (247, .goto (-31), 3, [216]), (250, .aload_n 0, 1, [0]), (251, .getfield 99, 3, []), (254, .ireturn, 1, [])]
set_option maxRecDepth 100000 in
theorem v_X11_run : p_X11_run.all (dm_vb cX11_run) = true := by decide +kernel
def k_X11_run : dm_Sp := fun a => match a with
  | 0 => sp_X11_gone
  | 1 => sp_X11_isFeasible
  | 2 => sp_X11_endless
  | 3 => sp_X11_findRing
  | 4 => sp_X11_split
  | 5 => sp_X11_way
  | 6 => sp_X11_goTo
  | 7 => sp_X11_takeFlow
  | 8 => sp_X11_lowest
  | 9 => sp_X11_costOf
  | _ => fun _ _ _ => False
def x_X11_run : dm_X := dm_mk [(35, 11, 11), (44, 11, 18), (47, 11, 19), (53, 11, 21), (56, 11, 22), (59, 11, 23), (62, 11, 24), (65, 11, 25), (99, 11, 10), (123, 11, 1), (139, 11, 17), (201, 11, 12)] [] [(193, 500000000000)] [(120, 0, 0, 11), (184, 1, 0, 11), (187, 2, 0, 11), (190, 3, 0, 11), (169, 4, 0, 11), (172, 5, 0, 11), (176, 6, 1, 11), (195, 7, 0, 11), (198, 8, 0, 11), (205, 9, 2, 11)] 1
set_option maxRecDepth 100000 in
set_option maxHeartbeats 6400000 in
theorem u_X11_run : dm_Pure shM x_X11_run k_X11_run p_X11_run 4 sp_X11_run := by
  intro As u Qp hh
  unfold sp_X11_run at hh
  split at hh
  · rename_i x
    obtain ⟨hbad, hgood⟩ := hh
    refine ⟨Nat.le_of_ble_eq_true rfl, fun G Wp hW0 hW1 hG => ?_⟩
    apply hG (fun pc => pc == 59) 60
    simp (config := { maxSteps := 2000000 }) [-Prod.forall, -Prod.exists, -exists_and_left, -exists_and_right, hW0, hW1, dm_fn, dm_fd, dm_x, dm_L0, dm_la, dm_t1, dm_sw, List.headD, dm_ic, dm_mk, dm_s1, dm_s2, dm_clr, dm_cs, dm_cc, dm_nb0, dm_nb1, Value.category, List.lookup, p_X11_run, x_X11_run, k_X11_run, dm_cm, upd, vp_updL, dm_ui_1, dm_ui_2, dm_ul_1, dm_ul_2, sp_X11_gone, sp_X11_isFeasible, sp_X11_endless, sp_X11_findRing, sp_X11_split, sp_X11_way, sp_X11_goTo, sp_X11_takeFlow, sp_X11_lowest, sp_X11_costOf, sM_0, sM_1, sM_2, sM_3, sM_4, sM_5, sM_6, sM_7, sM_8, sM_9, sM_10, sM_11, sM_12, sM_13, sM_14, sM_15, sM_16, sM_17, sM_18, sM_19, sM_20, sM_21, sM_22, sM_23, sM_24, sM_25, sM_26, sM_27, sM_28, sM_29]
    refine ⟨fun z => hbad (fun q => dm_i_le.mpr z q.1), fun z => ⟨fun z2 => ?_, fun z2 => hbad (fun q => dm_i_le.mpr z2 q.2)⟩⟩
    obtain ⟨A, hA, hC, g1, g2, g3, g4⟩ := hgood ⟨z, z2⟩
    obtain ⟨hn, hM⟩ := hA.1
    have hK := A.K_le hA
    have hC0 := MR_fr hC (mr_mn mr_mg)
    have h0l : (0 : Int64) = lI 0 := rfl
    have h0b : lB 0 := by unfold lB; omega
    have m13 : (dm_mg u).1 0 13 = 0 := rfl
    refine ⟨A, hA, hC0, fun hs u1 b1 b2 => ?_, fun hs u1 lo S b1 b2 b3 v b4 b5 b6 => ?_, fun hs u1 lo b1 b15 b2 b3 => ?_⟩
    · refine g1 hs _ (mr_frt mr_mg (mr_frt (mr_if b1) (mr_0 (by decide)))) ?_ ?_ ⟨?_, fun k hk hS => ?_⟩
      · rw [dm_ui_1, if_pos rfl]; exact if_pos rfl
      · rw [dm_ui_1, if_pos rfl]; exact (if_neg (by decide)).trans (b1.2.1 13 (by decide) (by decide))
      · rw [dm_ui_1, if_pos rfl]; exact (if_neg (by decide)).trans b2.1
      · rw [dm_ui_1, if_neg (by decide)]; exact b2.2 k hk hS
    · refine g2 hs _ lo S (mr_frt mr_mg (mr_frt (mr_if b1) (mr_0 (by decide)))) ?_ ?_ b2 b3 ⟨v, b4, b5⟩ ⟨?_, fun k hk hS => ?_⟩
      · rw [dm_ui_1, if_pos rfl]; exact if_pos rfl
      · rw [dm_ui_1, if_pos rfl]; exact (if_neg (by decide)).trans (b1.2.1 13 (by decide) (by decide))
      · rw [dm_ui_1, if_pos rfl]; exact (if_neg (by decide)).trans b6.1
      · rw [dm_ui_1, if_neg (by decide)]; exact b6.2 k hk hS
    · have hC1 := MR_fr hC0 (if_mn b1)
      obtain ⟨p, p1, p2, p3⟩ := mst_nor hA hC1
      have e13 : u1.1 0 13 = 0 := b1.2.1 13 (by decide) (by decide)
      refine ⟨A.n, A.M, A.fr, A.tr, fun a => A.pt a - 1, MR_mn hC1 hA, fun hf => ?_, fun hf => ?_⟩
      · obtain ⟨hnor, hpb⟩ := p2 hf
        have hC2 := MR_fr hC1 (mr_mn (mr_sj (f := (rx_it A.M A.fr A.tr (mn_lw u1 (fun a => A.pt a - 1)) (mn_en u1) (A.n + 1) (mn_z0 u1 A.n)).1)))
        refine ⟨A, hA, hC2, fun u2 c1 c2 c3 => ?_⟩
        have f2 : mr_fr u u2 := mr_frt mr_mg (mr_frt (mr_if b1) (mr_frt mr_sj (mr_sl c1)))
        have far2 : FV u2 A.n p := fun v hv => by
          rw [c1.2.2 19 (by decide)]
          show (if (19 : Nat) = 19 then (rx_it A.M A.fr A.tr (mn_lw u1 (fun a => A.pt a - 1)) (mn_en u1) (A.n + 1) (mn_z0 u1 A.n)).1 else u1.2 19) v = _
          rw [if_pos rfl, p1]; rfl
        have e13b : u2.1 0 13 = 0 := (c1.2.1 13 (by decide)).trans e13
        have e15b : u2.1 0 15 = 0 := (c1.2.1 15 (by decide)).trans b15
        obtain ⟨pr1, pr2, pr3⟩ := AN.pre_ok hA hnor
        -- the cost of all
        have last : ∀ (f P : Nat → Int), (∀ a, a < A.M → A.bL 1000000000000 P a ≤ f a ∧ f a ≤ A.bH 1000000000000 P a) → (∀ v, v < A.n → dv A.M A.fr A.tr f v = A.su v) → aLex A.n A.M A.fr A.tr (A.bL 1000000000000 P) (A.bH 1000000000000 P) f A.M → ∀ (k a : Nat), a + k = A.M → ∀ (u' : dm_S) (r : Int32), mr_fr u u' → s3 u' 0 0 0 → FL u' A.M f → u'.2 0 12 = lI (sI (fun a => A.co a (f a)) a) → G 216 [some (.ref 0), some (.int x), some (.int r), some (.int (nI a))] [] u' := by
          intro f P q1 q2 q3 k
          induction k with
          | zero =>
            intro a ha u' r a1 a2 a3 a4
            have e : a = A.M := by omega
            subst e
            apply hG (fun pc => pc == 216) 60
            simp (config := { maxSteps := 2000000 }) [-Prod.forall, -Prod.exists, -exists_and_left, -exists_and_right, hW0, hW1, dm_fn, dm_fd, dm_x, dm_L0, dm_la, dm_t1, dm_sw, List.headD, dm_ic, dm_mk, dm_s1, dm_s2, dm_clr, dm_cs, dm_cc, dm_nb0, dm_nb1, Value.category, List.lookup, p_X11_run, x_X11_run, k_X11_run, dm_cm, upd, vp_updL, dm_ui_1, dm_ui_2, dm_ul_1, dm_ul_2, sp_X11_gone, sp_X11_isFeasible, sp_X11_endless, sp_X11_findRing, sp_X11_split, sp_X11_way, sp_X11_goTo, sp_X11_takeFlow, sp_X11_lowest, sp_X11_costOf, sM_0, sM_1, sM_2, sM_3, sM_4, sM_5, sM_6, sM_7, sM_8, sM_9, sM_10, sM_11, sM_12, sM_13, sM_14, sM_15, sM_16, sM_17, sM_18, sM_19, sM_20, sM_21, sM_22, sM_23, sM_24, sM_25, sM_26, sM_27, sM_28, sM_29]
            rw [a1.2.1 1 (by decide), hC.1.2, a2.1]
            exact ⟨fun _ => g4 hs p hnor u' f P a1 a2 a3 q1 q2 q3 a4, fun z => absurd z (nI_nlt (Nat.le_refl _) (by omega))⟩
          | succ k ih =>
            intro a ha u' r a1 a2 a3 a4
            have ham : a < A.M := by omega
            have ca : (nI a).toNatClampNeg = a := nI_clamp (by omega)
            have ia : vp_in (nI a) 80 := vp_in_nI (by omega) (by omega)
            have bb := AN.b_bd hA (P := P) ham
            have qb := q1 a ham
            apply hG (fun pc => pc == 216) 60
            simp (config := { maxSteps := 2000000 }) [-Prod.forall, -Prod.exists, -exists_and_left, -exists_and_right, hW0, hW1, dm_fn, dm_fd, dm_x, dm_L0, dm_la, dm_t1, dm_sw, List.headD, dm_ic, dm_mk, dm_s1, dm_s2, dm_clr, dm_cs, dm_cc, dm_nb0, dm_nb1, Value.category, List.lookup, p_X11_run, x_X11_run, k_X11_run, dm_cm, upd, vp_updL, dm_ui_1, dm_ui_2, dm_ul_1, dm_ul_2, sp_X11_gone, sp_X11_isFeasible, sp_X11_endless, sp_X11_findRing, sp_X11_split, sp_X11_way, sp_X11_goTo, sp_X11_takeFlow, sp_X11_lowest, sp_X11_costOf, sM_0, sM_1, sM_2, sM_3, sM_4, sM_5, sM_6, sM_7, sM_8, sM_9, sM_10, sM_11, sM_12, sM_13, sM_14, sM_15, sM_16, sM_17, sM_18, sM_19, sM_20, sM_21, sM_22, sM_23, sM_24, sM_25, sM_26, sM_27, sM_28, sM_29]
            rw [a1.2.1 1 (by decide), hC.1.2, ca, nI_1]
            refine ⟨fun z => absurd z (nI_ge (by omega) (by omega)), fun _ => ⟨ia, A, a, f a, hA, MR_fr hC (mr_mn a1), ⟨ham, rfl, a3 a ham, by omega, by omega⟩, ?_⟩⟩
            rw [a4, lI_add]
            refine ih (a + 1) (by omega) _ _ (mr_frt a1 (mr_l (by decide))) a2 (fun i hi => ?_) ?_
            · rw [dm_ul_2, if_neg (by decide)]; exact a3 i hi
            · rw [dm_ul_2, if_pos rfl]; exact if_pos rfl
        -- the last search
        have fin : ∀ (lo U : Nat → Int) (u' : dm_S) (r : Int32), mr_fr u u' → u'.1 0 13 = 0 → u'.1 0 15 = 0 → PL u' A A.c lo A.K → fits A.K (A.w 1000000000000) lo → bal A.n A.K A.b A.e A.s lo → pf A.K A.b A.e (A.w 1000000000000) A.c U lo → (∀ l, l < A.K → lo l ≤ 20000000000) → G 196 [some (.ref 0), some (.int x), some (.int r), none] [] u' := by
          intro lo U u' r a1 a13 a15 a2 a3 a4 a5 a6
          have hon : ∀ a, a < A.M → A.on lo a < 1000000000000 := fun a ha => by
            have q1 := ((hA.2.1 a ha).2.2.2.1 0 (by have := (hA.2.1 a ha).2.1; omega)).1
            have q2 : A.am lo a ≤ (A.pt a : Int) * 20000000000 := sI_bd (fun k hk => a6 _ (A.l_at ha hk).1)
            have q3 := (hA.2.1 a ha).2.1.2
            have q1' : A.st (4 * a) ≤ 1000000 := q1
            unfold AN.on; omega
          apply hG (fun pc => pc == 216) 60
          simp (config := { maxSteps := 2000000 }) [-Prod.forall, -Prod.exists, -exists_and_left, -exists_and_right, hW0, hW1, dm_fn, dm_fd, dm_x, dm_L0, dm_la, dm_t1, dm_sw, List.headD, dm_ic, dm_mk, dm_s1, dm_s2, dm_clr, dm_cs, dm_cc, dm_nb0, dm_nb1, Value.category, List.lookup, p_X11_run, x_X11_run, k_X11_run, dm_cm, upd, vp_updL, dm_ui_1, dm_ui_2, dm_ul_1, dm_ul_2, sp_X11_gone, sp_X11_isFeasible, sp_X11_endless, sp_X11_findRing, sp_X11_split, sp_X11_way, sp_X11_goTo, sp_X11_takeFlow, sp_X11_lowest, sp_X11_costOf, sM_0, sM_1, sM_2, sM_3, sM_4, sM_5, sM_6, sM_7, sM_8, sM_9, sM_10, sM_11, sM_12, sM_13, sM_14, sM_15, sM_16, sM_17, sM_18, sM_19, sM_20, sM_21, sM_22, sM_23, sM_24, sM_25, sM_26, sM_27, sM_28, sM_29]
          refine ⟨A, A.c, lo, hA, MR_fr hC (mr_mn a1), a2, fun u3 d1 d2 => ⟨A, lo, U, hA, MR_fr (MR_fr hC (mr_mn a1)) (tf_mn d1), d2, a3, a5, hon, fun u4 f P e1 e2 e3 e4 e5 => ?_⟩⟩
          have hdv : ∀ v, v < A.n → dv A.M A.fr A.tr f v = A.su v := fun v hv => by
            have := A.bal_on (y := lo) (v := v)
            rw [a4 v hv] at this
            rw [e4 v]; omega
          refine last f P e3 hdv e5 A.M 0 (by omega) _ _ (mr_frt a1 (mr_frt (mr_tf d1) (mr_frt (mr_lt e1) (mr_frt (mr_0 (by decide)) (mr_l (by decide)))))) ⟨?_, ?_, ?_⟩ (fun i hi => ?_) ?_
          · rw [dm_ul_1, dm_ui_1, if_pos rfl]; exact if_pos rfl
          · rw [dm_ul_1, dm_ui_1, if_pos rfl]; exact (if_neg (by decide)).trans (by rw [e1.1 0 (by decide), d1.1]; exact a13)
          · rw [dm_ul_1, dm_ui_1, if_pos rfl]; exact (if_neg (by decide)).trans (by rw [e1.1 0 (by decide), d1.1]; exact a15)
          · rw [dm_ul_2, if_neg (by decide)]; exact e2 i hi
          · rw [dm_ul_2, if_pos rfl]; exact if_pos rfl
        have flow : ∀ (u' : dm_S) (ex : Nat → Int) (y : Int32), mr_fr u u' → u'.1 0 13 = 0 → u'.1 0 15 = 0 → PL u' A A.c (A.pre p) A.K → OV u' A.n ex → (∀ v, v < A.n → ex v = A.s v - dv A.K A.b A.e (A.pre p) v) → G 173 [some (.ref 0), some (.int x), some (.int y), none] [] u' := by
          intro u' ex y a1 a13 a15 a2 a3 a4
          have hok : wy_ok u' A A.c (A.pre p) ex p := ⟨hA, MR_fr hC (mr_mn a1), a2, a3, fun l hl => AN.c_bd hA hl, pr1, fun v hv => by have := AN.ex_bd hA hv pr1; rw [← a4 v hv] at this; unfold lB; omega, pr2⟩
          have pes : pe A.n ex ≤ A.n * 424000000 := sI_bd (fun v hv => by
            have q1 := dv_bd (b := A.b) (e := A.e) (v := v) (w := fun _ => 1000000) (x := A.pre p) (K := A.K) (fun l hl => ⟨(pr1 l hl).1, pr3 l hl⟩) (B := 1000000) (fun _ _ => Int.le_refl _) (by decide)
            have q2 := A.s_bd hA hv
            have q3 := a4 v hv
            show (if 0 ≤ ex v then ex v else 0) ≤ 424000000
            split <;> omega)
          have run := wy_run (A := A) (c := A.c) (Gx := fun r u3 => G 178 [some (.ref 0), some (.int x), some (.int r), none] [] u3) (u := u') (Bd := 20000000000) (fun u1 t tn g => ?_) (fun u0 u3 lo' ex' U' V via f0 f1 ok hx hb fv hw hr he => ?_) (pe A.n ex).toNat u' (A.pre p) ex p (by have := pe_0 (n := A.n) (ex := ex); omega) (fl_fr0 u') hok a4 (fun l hl => by have := pr3 l hl; omega)
          · apply hG (fun pc => pc == 178) 60
            simp (config := { maxSteps := 2000000 }) [-Prod.forall, -Prod.exists, -exists_and_left, -exists_and_right, hW0, hW1, dm_fn, dm_fd, dm_x, dm_L0, dm_la, dm_t1, dm_sw, List.headD, dm_ic, dm_mk, dm_s1, dm_s2, dm_clr, dm_cs, dm_cc, dm_nb0, dm_nb1, Value.category, List.lookup, p_X11_run, x_X11_run, k_X11_run, dm_cm, upd, vp_updL, dm_ui_1, dm_ui_2, dm_ul_1, dm_ul_2, sp_X11_gone, sp_X11_isFeasible, sp_X11_endless, sp_X11_findRing, sp_X11_split, sp_X11_way, sp_X11_goTo, sp_X11_takeFlow, sp_X11_lowest, sp_X11_costOf, sM_0, sM_1, sM_2, sM_3, sM_4, sM_5, sM_6, sM_7, sM_8, sM_9, sM_10, sM_11, sM_12, sM_13, sM_14, sM_15, sM_16, sM_17, sM_18, sM_19, sM_20, sM_21, sM_22, sM_23, sM_24, sM_25, sM_26, sM_27, sM_28, sM_29]
            exact way_G run
          · have nm := nI_nm1 (show t < 2147483648 by omega)
            obtain ⟨A', c', lo', ex', via', rk', t', k', k1, k2, k3, k4, k5, k6, k7, k8, k9, k10, k11⟩ := g
            apply hG (fun pc => pc == 178 || pc == 196) 60
            simp (config := { maxSteps := 2000000 }) [-Prod.forall, -Prod.exists, -exists_and_left, -exists_and_right, hW0, hW1, dm_fn, dm_fd, dm_x, dm_L0, dm_la, dm_t1, dm_sw, List.headD, dm_ic, dm_mk, dm_s1, dm_s2, dm_clr, dm_cs, dm_cc, dm_nb0, dm_nb1, Value.category, List.lookup, p_X11_run, x_X11_run, k_X11_run, dm_cm, upd, vp_updL, dm_ui_1, dm_ui_2, dm_ul_1, dm_ul_2, sp_X11_gone, sp_X11_isFeasible, sp_X11_endless, sp_X11_findRing, sp_X11_split, sp_X11_way, sp_X11_goTo, sp_X11_takeFlow, sp_X11_lowest, sp_X11_costOf, sM_0, sM_1, sM_2, sM_3, sM_4, sM_5, sM_6, sM_7, sM_8, sM_9, sM_10, sM_11, sM_12, sM_13, sM_14, sM_15, sM_16, sM_17, sM_18, sM_19, sM_20, sM_21, sM_22, sM_23, sM_24, sM_25, sM_26, sM_27, sM_28, sM_29]
            refine ⟨fun z => absurd z nm, fun _ => ⟨A', c', lo', ex', via', rk', t', k', k1, k2, k3, k4, k5, k6, k7, k8, k9, k10, fun u2 a b1 b2 b3 b4 b5 b6 b7 => way_G (k11 u2 a b1 b2 b3 b4 b5 b6 b7)⟩⟩
          · obtain ⟨-, hC0', hP0, hO0, hc0, hl0, hE0, hU0⟩ := ok
            have fr : mr_fr u u3 := mr_frt a1 (mr_frt (mr_fl f0) (mr_fl (fl_wy f1)))
            have hbal := AN.ref_bal hA hc0 (fun v _ => rfl) hx hl0 hw.1 hr he hs b2 b3
            apply hG (fun pc => pc == 178 || pc == 196) 60
            simp (config := { maxSteps := 2000000 }) [-Prod.forall, -Prod.exists, -exists_and_left, -exists_and_right, hW0, hW1, dm_fn, dm_fd, dm_x, dm_L0, dm_la, dm_t1, dm_sw, List.headD, dm_ic, dm_mk, dm_s1, dm_s2, dm_clr, dm_cs, dm_cc, dm_nb0, dm_nb1, Value.category, List.lookup, p_X11_run, x_X11_run, k_X11_run, dm_cm, upd, vp_updL, dm_ui_1, dm_ui_2, dm_ul_1, dm_ul_2, sp_X11_gone, sp_X11_isFeasible, sp_X11_endless, sp_X11_findRing, sp_X11_split, sp_X11_way, sp_X11_goTo, sp_X11_takeFlow, sp_X11_lowest, sp_X11_costOf, sM_0, sM_1, sM_2, sM_3, sM_4, sM_5, sM_6, sM_7, sM_8, sM_9, sM_10, sM_11, sM_12, sM_13, sM_14, sM_15, sM_16, sM_17, sM_18, sM_19, sM_20, sM_21, sM_22, sM_23, sM_24, sM_25, sM_26, sM_27, sM_28, sM_29]
            exact fin lo' U' u3 _ fr (by rw [f1.1 0 (by decide), f0.1 0 (by decide)]; exact a13) (by rw [f1.1 0 (by decide), f0.1 0 (by decide)]; exact a15) (PL_wy hP0 f1) hl0 hbal (dP_pf hl0 hU0) (fun l hl => by have := hb l hl; have := pe_0 (n := A.n) (ex := ex'); omega)
        have fill : ∀ (k l : Nat), l + k = A.K → ∀ (u' : dm_S) (ex : Nat → Int), mr_fr u u' → u'.1 0 13 = 0 → u'.1 0 15 = 0 → FV u' A.n p → PL u' A A.c (fun i => if i < l then A.pre p i else 0) A.K → OV u' A.n ex → (∀ v, v < A.n → ex v = A.s v - dv A.K A.b A.e (fun i => if i < l then A.pre p i else 0) v) → G 59 [some (.ref 0), some (.int x), some (.int (nI l)), none] [] u' := by
          intro k
          induction k with
          | zero =>
            intro l hl u' ex a1 a13 a15 a2 a3 a4 a5
            have e : l = A.K := by omega
            subst e
            apply hG (fun pc => pc == 59 || pc == 173) 90
            simp (config := { maxSteps := 2000000 }) [-Prod.forall, -Prod.exists, -exists_and_left, -exists_and_right, hW0, hW1, dm_fn, dm_fd, dm_x, dm_L0, dm_la, dm_t1, dm_sw, List.headD, dm_ic, dm_mk, dm_s1, dm_s2, dm_clr, dm_cs, dm_cc, dm_nb0, dm_nb1, Value.category, List.lookup, p_X11_run, x_X11_run, k_X11_run, dm_cm, upd, vp_updL, dm_ui_1, dm_ui_2, dm_ul_1, dm_ul_2, sp_X11_gone, sp_X11_isFeasible, sp_X11_endless, sp_X11_findRing, sp_X11_split, sp_X11_way, sp_X11_goTo, sp_X11_takeFlow, sp_X11_lowest, sp_X11_costOf, sM_0, sM_1, sM_2, sM_3, sM_4, sM_5, sM_6, sM_7, sM_8, sM_9, sM_10, sM_11, sM_12, sM_13, sM_14, sM_15, sM_16, sM_17, sM_18, sM_19, sM_20, sM_21, sM_22, sM_23, sM_24, sM_25, sM_26, sM_27, sM_28, sM_29]
            rw [a3.1]
            exact ⟨fun _ => flow u' ex _ a1 a13 a15 (PL_cg a3 (fun _ _ => rfl) (fun l hl => (if_pos hl).symm)) a4 (fun v hv => by rw [a5 v hv, dv_cg (fun l hl => if_pos hl)]), fun z => absurd z (nI_nlt (Nat.le_refl _) (by omega))⟩
          | succ k ih =>
            intro l hl u' ex a1 a13 a15 a2 a3 a4 a5
            have hlK : l < A.K := by omega
            obtain ⟨n1, n2⟩ := AN.nd hA l hlK
            have hbe : A.b l ≠ A.e l := (hA.2.1 _ (A.l_in hlK).1).1.2.2
            obtain ⟨⟨q1, q2, -⟩, q4, q5, q6⟩ := a3.2 l hlK
            have cl : (nI l).toNatClampNeg = l := nI_clamp (by omega)
            have il : vp_in (nI l) 400 := vp_in_nI (by omega) (by omega)
            have cb : (nI (A.b l)).toNatClampNeg = A.b l := nI_clamp (by omega)
            have ib : vp_in (nI (A.b l)) 26 := vp_in_nI (by omega) (by omega)
            have ce : (nI (A.e l)).toNatClampNeg = A.e l := nI_clamp (by omega)
            have ie : vp_in (nI (A.e l)) 26 := vp_in_nI (by omega) (by omega)
            have cbd := AN.c_bd hA hlK
            have pb1 := hpb _ n1
            have pb2 := hpb _ n2
            have wbd := A.w_bd hA (B := 1000000000000) (by decide) hlK
            have rb : lB (A.c l + p (A.b l) - p (A.e l)) := by unfold lB; omega
            have wl : lB (A.w 1000000000000 l) := by unfold lB; omega
            have hFh : (500000000000 : Int64) = lI 500000000000 := rfl
            have nbe : ¬ A.e l = A.b l := fun z => hbe z.symm
            have keep : A.pre p l = 0 → G 59 [some (.ref 0), some (.int x), some (.int (nI (l + 1))), none] [] u' := fun g => by
              have ee : ∀ i, (if i < l + 1 then A.pre p i else 0) = (if i < l then A.pre p i else 0) := fun i => by
                by_cases y : i < l
                · rw [if_pos y, if_pos (by omega)]
                · rw [if_neg y]
                  by_cases y2 : i = l
                  · rw [y2, if_pos (by omega)]; exact g
                  · rw [if_neg (by omega)]
              exact ih (l + 1) (by omega) u' ex a1 a13 a15 a2 (PL_cg a3 (fun _ _ => rfl) (fun i _ => ee i)) a4 (fun v hv => by rw [a5 v hv, dv_cg (fun i _ => ee i)])
            apply hG (fun pc => pc == 59 || pc == 173) 90
            simp (config := { maxSteps := 2000000 }) [-Prod.forall, -Prod.exists, -exists_and_left, -exists_and_right, hW0, hW1, dm_fn, dm_fd, dm_x, dm_L0, dm_la, dm_t1, dm_sw, List.headD, dm_ic, dm_mk, dm_s1, dm_s2, dm_clr, dm_cs, dm_cc, dm_nb0, dm_nb1, Value.category, List.lookup, p_X11_run, x_X11_run, k_X11_run, dm_cm, upd, vp_updL, dm_ui_1, dm_ui_2, dm_ul_1, dm_ul_2, sp_X11_gone, sp_X11_isFeasible, sp_X11_endless, sp_X11_findRing, sp_X11_split, sp_X11_way, sp_X11_goTo, sp_X11_takeFlow, sp_X11_lowest, sp_X11_costOf, sM_0, sM_1, sM_2, sM_3, sM_4, sM_5, sM_6, sM_7, sM_8, sM_9, sM_10, sM_11, sM_12, sM_13, sM_14, sM_15, sM_16, sM_17, sM_18, sM_19, sM_20, sM_21, sM_22, sM_23, sM_24, sM_25, sM_26, sM_27, sM_28, sM_29]
            simp only [cl, il, q1, q2, q4, q5, cb, ce, ib, ie, a2 _ n1, a2 _ n2, a4 _ n1, a4 _ n2, lI_add, lI_sub, hFh, h0l, nI_1, nbe, if_false, true_and]
            rw [a3.1]
            refine ⟨fun z => absurd z (nI_ge (by omega) (by omega)), fun _ => ⟨fun z => ?_, fun z => ⟨fun z2 => ?_, fun z2 => ?_⟩⟩⟩
            · rw [lI_le h0b rb] at z
              refine keep ?_
              unfold AN.pre rc
              rw [if_neg (fun q => by have := q.1; omega)]
            · rw [lI_le (by unfold lB; omega) wl] at z2
              refine keep ?_
              unfold AN.pre
              rw [if_neg (fun q => by have := q.2; omega)]
            · rw [lI_lt rb h0b] at z
              rw [lI_lt wl (by unfold lB; omega)] at z2
              have pe1 : A.pre p l = A.w 1000000000000 l := by
                unfold AN.pre rc
                rw [if_pos ⟨z, z2⟩]
              have ee : ∀ i, (fun i => if i < l + 1 then A.pre p i else 0) i = uI (fun i => if i < l then A.pre p i else 0) l (A.w 1000000000000 l) i := fun i => by
                show (if i < l + 1 then A.pre p i else 0) = (if i = l then A.w 1000000000000 l else if i < l then A.pre p i else 0)
                by_cases y : i = l
                · rw [if_pos y, y, if_pos (by omega), pe1]
                · rw [if_neg y]
                  by_cases y2 : i < l
                  · rw [if_pos y2, if_pos (by omega)]
                  · rw [if_neg y2, if_neg (by omega)]
              refine ih (l + 1) (by omega) _ (fun v => if v = A.e l then ex (A.e l) + A.w 1000000000000 l else if v = A.b l then ex (A.b l) - A.w 1000000000000 l else ex v) (mr_frt a1 (mr_frt (mr_l (by decide)) (mr_frt (mr_l (by decide)) (mr_l (by decide))))) a13 a15 (fun v hv => ?_) ?_ (fun v hv => ?_) (fun v hv => ?_)
              · rw [dm_ul_2, if_neg (by decide), dm_ul_2, if_neg (by decide), dm_ul_2, if_neg (by decide)]; exact a2 v hv
              · exact PL_18 (PL_18 (PL_cg (PL_17 a3) (fun _ _ => rfl) (fun i _ => ee i)))
              · rw [dm_ul_2, if_pos rfl, dm_ul_2, if_pos rfl, dm_ul_2, if_neg (by decide)]
                unfold vp_updL
                dsimp only
                by_cases y : v = A.e l
                · rw [if_pos y, if_pos y]
                · rw [if_neg y, if_neg y]
                  by_cases y2 : v = A.b l
                  · rw [if_pos y2, if_pos y2]
                  · rw [if_neg y2, if_neg y2]; exact a4 v hv
              · have d := dv_upd (K := A.K) (b := A.b) (e := A.e) (x := fun i => if i < l then A.pre p i else 0) (v := v) (k := l) (a := A.w 1000000000000 l) hlK
                have x0 : (if l < l then A.pre p l else 0) = 0 := if_neg (by omega)
                rw [x0, Int.zero_add] at d
                rw [dv_cg (fun i _ => ee i), d]
                have h5 := a5 v hv
                by_cases y : v = A.e l
                · subst y
                  rw [if_pos rfl, if_neg hbe, if_pos rfl]; omega
                · rw [if_neg y, if_neg (show ¬ A.e l = v from fun q => y q.symm)]
                  by_cases y2 : v = A.b l
                  · subst y2
                    rw [if_pos rfl, if_pos rfl]; omega
                  · rw [if_neg y2, if_neg (show ¬ A.b l = v from fun q => y2 q.symm)]; omega
        exact fill A.K 0 (by omega) u2 A.s f2 e13b e15b far2 (PL_cg c2 (fun _ _ => rfl) (fun l _ => if_neg (Nat.not_lt_zero _))) c3 (fun v hv => by
          have e : dv A.K A.b A.e (fun i => if i < 0 then A.pre p i else 0) v = dv A.K A.b A.e (fun _ => 0) v := dv_cg (fun l _ => if_neg (Nat.not_lt_zero _))
          rw [e, dv_0]; omega)
      · have hno : ∀ U, ¬ A.nor U := fun U hU => by
          have := p3.mpr ⟨U, hU⟩
          rw [hf] at this
          cases this
        obtain ⟨f, rq, hr⟩ := ring_ex hA hno
        refine ⟨A, f, rq, hA, MR_fr hC1 (mr_mn mr_sj), hr, fun u2 c1 c2 c3 => ?_⟩
        refine g3 hs lo b2 b3 hno f rq hr _ (mr_frt mr_mg (mr_frt (mr_if b1) (mr_frt mr_sj (mr_frt (mr_tr c1) (mr_0 (by decide)))))) ⟨?_, ?_, ?_⟩ (fun i hi => ?_)
        · rw [dm_ui_1, if_pos rfl]; exact if_pos rfl
        · rw [dm_ui_1, if_pos rfl]; exact (if_neg (by decide)).trans c2
        · rw [dm_ui_1, if_pos rfl]; exact (if_neg (by decide)).trans ((c1.2.1 15 (by decide)).trans b15)
        · rw [dm_ui_1, if_neg (by decide)]; exact c3 i hi
  · exact hh.elim
set_option maxRecDepth 100000 in
theorem t_X11_run (l : Launch) (D : va_G) (cA : Nat → ClassId) (ad : Nat → Nat) : dm_Met l D dm_cl cA ad shM yX11_run (Cond.code yX11_run cX11_run 4 (dm_rt 1) :: dm_tt) ({ frames := 3, cells := 0, slots := 0, locals := 85 } : Room) sp_X11_run := dm_meth (own := RX11) (X := x_X11_run) (Sp := k_X11_run) (prog := p_X11_run) (by decide +kernel) rfl rfl (dm_FO_s ffX11 [(35, 11, 11), (44, 11, 18), (47, 11, 19), (53, 11, 21), (56, 11, 22), (59, 11, 23), (62, 11, 24), (65, 11, 25), (99, 11, 10), (123, 11, 1), (139, 11, 17), (201, 11, 12)] rfl dm_hT (by decide +kernel)) (dm_IO_s ifX11 jfX11 [] [(193, 500000000000)] rfl rfl dm_hT (by decide +kernel) (by decide +kernel)) soM (dm_MO_of (List.forall_mem_cons.mpr ⟨dm_M1_of (t_X11_gone l D cA ad) dm_hT (dm_mem [1076, 77, 1073] (by decide +kernel) (by decide +kernel)) (by decide) (by decide +kernel) (Or.inr ⟨by decide, dm_mem [1075, 40] (by decide +kernel) (by decide +kernel), rfl⟩), List.forall_mem_cons.mpr ⟨dm_M1_of (t_X11_isFeasible l D cA ad) dm_hT (dm_mem [1111, 77, 1108] (by decide +kernel) (by decide +kernel)) (by decide) (by decide +kernel) (Or.inr ⟨by decide, dm_mem [1110, 43] (by decide +kernel) (by decide +kernel), rfl⟩), List.forall_mem_cons.mpr ⟨dm_M1_of (t_X11_endless l D cA ad) dm_hT (dm_mem [1152, 77, 1149] (by decide +kernel) (by decide +kernel)) (by decide) (by decide +kernel) (Or.inr ⟨by decide, dm_mem [1151, 52] (by decide +kernel) (by decide +kernel), rfl⟩), List.forall_mem_cons.mpr ⟨dm_M1_of (t_X11_findRing l D cA ad) dm_hT (dm_mem [1160, 77, 1157] (by decide +kernel) (by decide +kernel)) (by decide) (by decide +kernel) (Or.inr ⟨by decide, dm_mem [1159, 54] (by decide +kernel) (by decide +kernel), rfl⟩), List.forall_mem_cons.mpr ⟨dm_M1_of (t_X11_split l D cA ad) dm_hT (dm_mem [1115, 77, 1112] (by decide +kernel) (by decide +kernel)) (by decide) (by decide +kernel) (Or.inr ⟨by decide, dm_mem [1114, 44] (by decide +kernel) (by decide +kernel), rfl⟩), List.forall_mem_cons.mpr ⟨dm_M1_of (t_X11_way l D cA ad) dm_hT (dm_mem [1124, 77, 1121] (by decide +kernel) (by decide +kernel)) (by decide) (by decide +kernel) (Or.inr ⟨by decide, dm_mem [1123, 46] (by decide +kernel) (by decide +kernel), rfl⟩), List.forall_mem_cons.mpr ⟨dm_M1_of (t_X11_goTo l D cA ad) dm_hT (dm_mem [1141, 77, 1138] (by decide +kernel) (by decide +kernel)) (by decide) (by decide +kernel) (Or.inr ⟨by decide, dm_mem [1140, 50] (by decide +kernel) (by decide +kernel), rfl⟩), List.forall_mem_cons.mpr ⟨dm_M1_of (t_X11_takeFlow l D cA ad) dm_hT (dm_mem [1173, 77, 1170] (by decide +kernel) (by decide +kernel)) (by decide) (by decide +kernel) (Or.inr ⟨by decide, dm_mem [1172, 57] (by decide +kernel) (by decide +kernel), rfl⟩), List.forall_mem_cons.mpr ⟨dm_M1_of (t_X11_lowest l D cA ad) dm_hT (dm_mem [1177, 77, 1174] (by decide +kernel) (by decide +kernel)) (by decide) (by decide +kernel) (Or.inr ⟨by decide, dm_mem [1176, 58] (by decide +kernel) (by decide +kernel), rfl⟩), List.forall_mem_cons.mpr ⟨dm_M1_of (t_X11_costOf l D cA ad) dm_hT (dm_mem [1197, 77, 1194] (by decide +kernel) (by decide +kernel)) (by decide) (by decide +kernel) (Or.inr ⟨by decide, dm_mem [1196, 63] (by decide +kernel) (by decide +kernel), rfl⟩), fun _ h => absurd h List.not_mem_nil⟩⟩⟩⟩⟩⟩⟩⟩⟩⟩)) v_X11_run u_X11_run
