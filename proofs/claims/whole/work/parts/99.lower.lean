/-! ===== the reference: lower ===== -/
def lr_fr (u u' : dm_S) : Prop := (∀ c, c ∉ [26, 27, 28] → u'.1 c = u.1 c) ∧ ∀ c, c ≠ 9 → u'.2 c = u.2 c
theorem lr_fr0 (u : dm_S) : lr_fr u u := ⟨fun _ _ => rfl, fun _ _ => rfl⟩
theorem lr_frt {u u' u'' : dm_S} (h : lr_fr u u') (h2 : lr_fr u' u'') : lr_fr u u'' := ⟨fun c a => (h2.1 c a).trans (h.1 c a), fun c a => (h2.2 c a).trans (h.2 c a)⟩
theorem lr_i {u : dm_S} {c j : Nat} {x : Int32} (h : c ∈ [26, 27, 28]) : lr_fr u (dm_ui u c j x) := by
  refine ⟨fun k hk => ?_, fun _ _ => rfl⟩
  have y : k ≠ c := fun y => hk (by rw [y]; exact h)
  rw [dm_ui_1, if_neg y]
theorem lr_9 {u : dm_S} {j : Nat} {x : Int64} : lr_fr u (dm_ul u 9 j x) := ⟨fun _ _ => rfl, fun c hc => by rw [dm_ul_2, if_neg hc]⟩
theorem lr_mn {u u' : dm_S} (h : lr_fr u u') : mn_fr u u' := by
  refine ⟨⟨by rw [h.1 0 (by decide)], by rw [h.1 0 (by decide)]⟩, fun c hc => h.1 c ?_, fun c hc => h.2 c ?_⟩
  · intro z; revert hc z; revert c; decide
  · intro z; subst z; revert hc; decide
/-- bounds of amounts -/
def BX (u : dm_S) (M : Nat) (L H : Nat → Int) : Prop := ∀ a, a < M → u.2 24 a = lI (L a) ∧ u.2 25 a = lI (H a)
def FB (M : Nat) (L H f : Nat → Int) : Prop := ∀ a, a < M → (L a ≤ f a ∧ f a ≤ H a) ∧ 0 ≤ L a ∧ H a ≤ 1000000000000
/-- the ways that a search for less on a0 goes -/
def lon (L H f : Nat → Int) (a0 w : Nat) : Bool := !decide (w / 2 = a0) && decide (0 < wm (fun i => H i - L i) (fun i => f i - L i) w)
theorem lon_t {L H f : Nat → Int} {a0 w : Nat} : lon L H f a0 w = true ↔ ¬ w / 2 = a0 ∧ 0 < wm (fun i => H i - L i) (fun i => f i - L i) w := by
  unfold lon; simp
/-- the search in the cells -/
def BF (u : dm_S) (n : Nat) (line : Nat → Nat) (m : Nat) (sn : Nat → Bool) (via : Nat → Option Nat) : Prop := (∀ j, j < m → u.1 28 j = nI (line j)) ∧ (∀ v, v < n → u.1 27 v = if sn v then 1 else 0) ∧ ∀ v w, v < n → via v = some w → u.1 26 v = nI w
def sp_X11_lower (As : List Value) (u : dm_S) (Q : Option Value → dm_S → Prop) : Prop := match As with
  | [.ref 0, .int x] => ∃ (A : AN) (L H f : Nat → Int) (a0 : Nat), A.ok ∧ MR u A ∧ FL u A.M f ∧ BX u A.M L H ∧ FB A.M L H f ∧ (a0 < A.M ∧ x = nI a0 ∧ L a0 < f a0) ∧ (∀ (u' : dm_S) (S : Nat → Bool), lr_fr u u' → FL u' A.M f → S (A.fr a0) = true → S (A.tr a0) = false → (∀ w, w < 2 * A.M → lon L H f a0 w = true → S (wb A.fr A.tr w) = true → S (we A.fr A.tr w) = true) → Q (some (.int 0)) u') ∧ ∀ (u' : dm_S) (f' : Nat → Int), lr_fr u u' → FL u' A.M f' → (∀ i, i < A.M → L i ≤ f' i ∧ f' i ≤ H i) → (∀ v, dv A.M A.fr A.tr f' v = dv A.M A.fr A.tr f v) → f' a0 < f a0 → Q (some (.int 1)) u'
  | _ => False
def p_X11_lower : List dm_I := [(0, .iconst 0, 1, []), (1, .istore_n 2, 1, [2]), (2, .iload_n 2, 1, [2]), (3, .aload_n 0, 1, [0]), (4, .getfield 109, 3, []), (7, .if_icmp .ge 16, 3, [23]), (10, .aload_n 0, 1, [0]), (11, .getfield 90, 3, []), (14, .iload_n 2, 1, [2]), (15, .iconst 0, 1, []), (16, .bastore, 1, []), (17, .iinc 2 1, 3, []), (20, .goto (-18), 3, [2]), (23, .iconst 1, 1, []), (24, .istore_n 2, 1, [2]), (25, .aload_n 0, 1, [0]), (26, .getfield 93, 3, []), (29, .iconst 0, 1, []), (30, .aload_n 0, 1, [0]), (31, .getfield 13, 3, []), (34, .iload_n 1, 1, [1]), (35, .iaload, 1, []), (36, .iastore, 1, []), (37, .aload_n 0, 1, [0]), (38, .getfield 90, 3, []), (41, .aload_n 0, 1, [0]), (42, .getfield 13, 3, []), (45, .iload_n 1, 1, [1]), (46, .iaload, 1, []), (47, .iconst 1, 1, []), (48, .bastore, 1, []), (49, .iconst 0, 1, []), (50, .istore_n 3, 1, [3]), (51, .iload_n 3, 1, [3]), (52, .iload_n 2, 1, [2]), (53, .if_icmp .ge 199, 3, [252]), (56, .iconst 0, 1, []), (57, .istore 4, 2, []), (59, .iload 4, 2, []), (61, .iconst 2, 1, []), (62, .aload_n 0, 1, [0]), (63, .getfield 123, 3, []), (66, .imul, 1, []), (67, .if_icmp .ge 179, 3, [246]), (70, .iload 4, 2, []), (72, .iconst 2, 1, []), (73, .idiv, 1, []), (74, .istore 5, 2, []), (76, .iload 4, 2, []), (78, .iconst 2, 1, []), (79, .irem, 1, []), (80, .ifCond .ne 7, 3, [87]), (83, .iconst 1, 1, []), (84, .goto 4, 3, [88]), (87, .iconst 0, 1, []), (88, .istore 6, 2, []), (90, .iload 6, 2, []), (92, .ifCond .eq 13, 3, [105]), (95, .aload_n 0, 1, [0]), (96, .getfield 13, 3, []), (99, .iload 5, 2, []), (101, .iaload, 1, []), (102, .goto 10, 3, [112]), (105, .aload_n 0, 1, [0]), (106, .getfield 17, 3, []), (109, .iload 5, 2, []), (111, .iaload, 1, []), (112, .istore 7, 2, []), (114, .iload 6, 2, []), (116, .ifCond .eq 13, 3, [129]), (119, .aload_n 0, 1, [0]), (120, .getfield 17, 3, []), (123, .iload 5, 2, []), (125, .iaload, 1, []), (126, .goto 10, 3, [136]), (129, .aload_n 0, 1, [0]), (130, .getfield 13, 3, []), (133, .iload 5, 2, []), (135, .iaload, 1, []), (136, .istore 8, 2, []), (138, .iload 6, 2, []), (140, .ifCond .eq 21, 3, [161]), (143, .aload_n 0, 1, [0]), (144, .getfield 84, 3, []), (147, .iload 5, 2, []), (149, .laload, 1, []), (150, .aload_n 0, 1, [0]), (151, .getfield 35, 3, []), (154, .iload 5, 2, []), (156, .laload, 1, []), (157, .lsub, 1, []), (158, .goto 18, 3, [176]), (161, .aload_n 0, 1, [0]), (162, .getfield 35, 3, []), (165, .iload 5, 2, []), (167, .laload, 1, []), (168, .aload_n 0, 1, [0]), (169, .getfield 81, 3, []), (172, .iload 5, 2, []), (174, .laload, 1, []), (175, .lsub, 1, []), (176, .lstore 9, 2, []), (178, .iload 5, 2, []), (180, .iload_n 1, 1, [1]), (181, .if_icmp .eq 59, 3, [240]), (184, .iload 7, 2, []), (186, .aload_n 0, 1, [0]), (187, .getfield 93, 3, []), (190, .iload_n 3, 1, [3]), (191, .iaload, 1, []), (192, .if_icmp .ne 48, 3, [240]), (195, .aload_n 0, 1, [0]), (196, .getfield 90, 3, []), (199, .iload 8, 2, []), (201, .baload, 1, []), (202, .ifCond .ne 38, 3, [240]), (205, .lload 9, 2, []), (207, .lconst 0, 1, []), (208, .lcmp, 1, []), (209, .ifCond .le 31, 3, [240]), (212, .aload_n 0, 1, [0]), (213, .getfield 90, 3, []), (216, .iload 8, 2, []), (218, .iconst 1, 1, []), (219, .bastore, 1, []), (220, .aload_n 0, 1, [0]), (221, .getfield 87, 3, []), (224, .iload 8, 2, []), (226, .iload 4, 2, []), (228, .iastore, 1, []), (229, .aload_n 0, 1, [0]), (230, .getfield 93, 3, []), (233, .iload_n 2, 1, [2]), (234, .iload 8, 2, []), (236, .iastore, 1, []), (237, .iinc 2 1, 3, []), (240, .iinc 4 1, 3, []), (243, .goto (-184), 3, [59]), (246, .iinc 3 1, 3, []), (249, .goto (-198), 3, [51]), (252, .aload_n 0, 1, [0]), (253, .getfield 90, 3, []), (256, .aload_n 0, 1, [0]), (257, .getfield 17, 3, []), (260, .iload_n 1, 1, [1]), (261, .iaload, 1, []), (262, .baload, 1, []), (263, .ifCond .ne 5, 3, [268]), (266, .iconst 0, 1, []), (267, .ireturn, 1, []), (268, .aload_n 0, 1, [0]), (269, .getfield 35, 3, []), (272, .iload_n 1, 1, [1]), (273, .laload, 1, []), (274, .aload_n 0, 1, [0]), (275, .getfield 81, 3, []), (278, .iload_n 1, 1, [1]), (279, .laload, 1, []), (280, .lsub, 1, []), (281, .lstore_n 3, 1, [3]), (282, .aload_n 0, 1, [0]), (283, .getfield 17, 3, []), (286, .iload_n 1, 1, [1]), (287, .iaload, 1, []), (288, .istore 5, 2, []), (290, .iload 5, 2, []), (292, .aload_n 0, 1, [0]), (293, .getfield 13, 3, []), (296, .iload_n 1, 1, [1]), (297, .iaload, 1, []), (298, .if_icmp .eq 98, 3, [396]), (301, .aload_n 0, 1, [0]), (302, .getfield 87, 3, []), (305, .iload 5, 2, []), (307, .iaload, 1, []), (308, .istore 6, 2, []), (310, .lload_n 3, 1, [3]), (311, .iload 6, 2, []), (313, .iconst 2, 1, []), (314, .irem, 1, []), (315, .ifCond .ne 25, 3, [340]), (318, .aload_n 0, 1, [0]), (319, .getfield 84, 3, []), (322, .iload 6, 2, []), (324, .iconst 2, 1, []), (325, .idiv, 1, []), (326, .laload, 1, []), (327, .aload_n 0, 1, [0]), (328, .getfield 35, 3, []), (331, .iload 6, 2, []), (333, .iconst 2, 1, []), (334, .idiv, 1, []), (335, .laload, 1, []), (336, .lsub, 1, []), (337, .goto 22, 3, [359]), (340, .aload_n 0, 1, [0]), (341, .getfield 35, 3, []), (344, .iload 6, 2, []), (346, .iconst 2, 1, []), (347, .idiv, 1, []), (348, .laload, 1, []), (349, .aload_n 0, 1, [0]), (350, .getfield 81, 3, []), (353, .iload 6, 2, []), (355, .iconst 2, 1, []), (356, .idiv, 1, []), (357, .laload, 1, []), (358, .lsub, 1, []), (359, .invokestatic 165, 3, []), (362, .lstore_n 3, 1, [3]), (363, .iload 6, 2, []), (365, .iconst 2, 1, []), (366, .irem, 1, []), (367, .ifCond .ne 15, 3, [382]), (370, .aload_n 0, 1, [0]), (371, .getfield 13, 3, []), (374, .iload 6, 2, []), (376, .iconst 2, 1, []), (377, .idiv, 1, []), (378, .iaload, 1, []), (379, .goto 12, 3, [391]), (382, .aload_n 0, 1, [0]), (383, .getfield 17, 3, []), (386, .iload 6, 2, []), (388, .iconst 2, 1, []), (389, .idiv, 1, []), (390, .iaload, 1, []), (391, .istore 5, 2, []), (393, .goto (-103), 3, [290]), (396, .aload_n 0, 1, [0]), (397, .getfield 17, 3, []), (400, .iload_n 1, 1, [1]), (401, .iaload, 1, []), (402, .istore 5, 2, []), (404, .iload 5, 2, []), (406, .aload_n 0, 1, [0]), (407, .getfield 13, 3, []), (410, .iload_n 1, 1, [1]), (411, .iaload, 1, []), (412, .if_icmp .eq 70, 3, [482]), (415, .aload_n 0, 1, [0]), (416, .getfield 87, 3, []), (419, .iload 5, 2, []), (421, .iaload, 1, []), (422, .istore 6, 2, []), (424, .aload_n 0, 1, [0]), (425, .getfield 35, 3, []), (428, .iload 6, 2, []), (430, .iconst 2, 1, []), (431, .idiv, 1, []), (432, .dup2, 1, []), (433, .laload, 1, []), (434, .iload 6, 2, []), (436, .iconst 2, 1, []), (437, .irem, 1, []), (438, .ifCond .ne 7, 3, [445]), (441, .lload_n 3, 1, [3]), (442, .goto 5, 3, [447]), (445, .lload_n 3, 1, [3]), (446, .lneg, 1, []), (447, .ladd, 1, []), (448, .lastore, 1, []), (449, .iload 6, 2, []), (451, .iconst 2, 1, []), (452, .irem, 1, []), (453, .ifCond .ne 15, 3, [468]), (456, .aload_n 0, 1, [0]), (457, .getfield 13, 3, []), (460, .iload 6, 2, []), (462, .iconst 2, 1, []), (463, .idiv, 1, []), (464, .iaload, 1, []), (465, .goto 12, 3, [477]), (468, .aload_n 0, 1, [0]), (469, .getfield 17, 3, []), (472, .iload 6, 2, []), (474, .iconst 2, 1, []), (475, .idiv, 1, []), (476, .iaload, 1, []), (477, .istore 5, 2, []), (479, .goto (-75), 3, [404]), (482, .aload_n 0, 1, [0]), (483, .getfield 35, 3, []), (486, .iload_n 1, 1, [1]), (487, .dup2, 1, []), (488, .laload, 1, []), (489, .lload_n 3, 1, [3]), (490, .lsub, 1, []), (491, .lastore, 1, []), (492, .iconst 1, 1, []), (493, .ireturn, 1, [])]
set_option maxRecDepth 100000 in
theorem v_X11_lower : p_X11_lower.all (dm_vb cX11_lower) = true := by decide +kernel
def k_X11_lower : dm_Sp := fun a => match a with
  | 0 => sp_X11_lesser
  | _ => fun _ _ _ => False
def x_X11_lower : dm_X := dm_mk [(13, 11, 3), (17, 11, 4), (35, 11, 11), (81, 11, 31), (84, 11, 32), (87, 11, 33), (90, 11, 34), (93, 11, 35), (109, 11, 0), (123, 11, 1)] [] [] [(165, 0, 2, 1000)] 3
set_option maxRecDepth 100000 in
set_option maxHeartbeats 3200000 in
theorem u_X11_lower : dm_Pure shM x_X11_lower k_X11_lower p_X11_lower 11 sp_X11_lower := by
  intro As u Qp h
  unfold sp_X11_lower at h
  split at h
  · obtain ⟨A, L, H, f, a0, hA, hC, hFl, hB, hb, ⟨ha0, rfl, hL0⟩, hno, hyes⟩ := h
    obtain ⟨hn, hM⟩ := hA.1
    obtain ⟨⟨r1, r2, r3⟩, -⟩ := hA.2.1 a0 ha0
    have q1 : u.1 2 a0 = nI (A.fr a0) := (hC.2.2 a0 ha0).1.1
    have q2 : u.1 3 a0 = nI (A.tr a0) := (hC.2.2 a0 ha0).1.2
    have ca0 : (nI a0).toNatClampNeg = a0 := nI_clamp (by omega)
    refine ⟨Nat.le_of_ble_eq_true rfl, fun G Wp hW0 hW1 hG => ?_⟩
    have e2 : ∀ u' : dm_S, lr_fr u u' → u'.1 2 a0 = nI (A.fr a0) := fun u' a1 => by rw [a1.1 2 (by decide)]; exact q1
    have e3 : ∀ u' : dm_S, lr_fr u u' → u'.1 3 a0 = nI (A.tr a0) := fun u' a1 => by rw [a1.1 3 (by decide)]; exact q2
    have ia0 : vp_in (nI a0) 80 := vp_in_nI (by omega) (by omega)
    have cell2 : ∀ (u' : dm_S) (a : Nat), lr_fr u u' → a < A.M → u'.1 2 a = nI (A.fr a) ∧ u'.1 3 a = nI (A.tr a) := fun u' a a1 ha => by
      rw [a1.1 2 (by decide), a1.1 3 (by decide)]; exact (hC.2.2 a ha).1
    have tailw : ∀ (u' : dm_S) (w : Nat), lr_fr u u' → w < 2 * A.M → (if w % 2 = 0 then u'.1 2 (w / 2) else u'.1 3 (w / 2)) = nI (wb A.fr A.tr w) := fun u' w a1 hw => by
      obtain ⟨g1, g2⟩ := cell2 u' (w / 2) a1 (by omega)
      unfold wb
      split
      · exact g1
      · exact g2
    have hwm : ∀ w, w < 2 * A.M → lB (wm (fun i => H i - L i) (fun i => f i - L i) w) := fun w hw => by
      have := hb (w / 2) (by omega)
      unfold lB wm
      split <;> (dsimp only; omega)
    have roomw : ∀ (u' : dm_S) (w : Nat), u'.2 = u.2 → w < 2 * A.M → (if w % 2 = 0 then u'.2 25 (w / 2) - u'.2 9 (w / 2) else u'.2 9 (w / 2) - u'.2 24 (w / 2)) = lI (wm (fun i => H i - L i) (fun i => f i - L i) w) := fun u' w a1 hw => by
      obtain ⟨g1, g2⟩ := hB (w / 2) (by omega)
      have g3 := hFl (w / 2) (by omega)
      rw [a1, g1, g2, g3]
      unfold wm
      split
      · rw [lI_sub]; congr 1; dsimp only; omega
      · rw [lI_sub]
    -- sending round
    have round2 : ∀ (via : Nat → Option Nat) (rk : Nat → Nat) (sn : Nat → Bool), tre A.n A.M A.fr A.tr via rk → (∀ v, v < A.n → sn v = true → v ≠ A.fr a0 → ∃ w, via v = some w ∧ sn (wb A.fr A.tr w) = true) → via (A.fr a0) = none → ∀ (k v : Nat) (a : Int) (u' : dm_S) (x : Nat → Int) (o2 o6 o7 o8 o9 : Option Value), v < A.n → rk v ≤ k → sn v = true → lr_fr u u' → FL u' A.M x → (∀ v w, v < A.n → via v = some w → u'.1 26 v = nI w) → (∀ (u'' : dm_S) (o5 o6 : Option Value), lr_fr u u'' → FL u'' A.M (snd A.fr A.tr via k v a x) → G 482 [some (.ref 0), some (.int (nI a0)), o2, some (.long (lI a)), none, o5, o6, o7, o8, o9, none] [] u'') → G 404 [some (.ref 0), some (.int (nI a0)), o2, some (.long (lI a)), none, some (.int (nI v)), o6, o7, o8, o9, none] [] u' := by
      intro via rk sn ht hs hroot
      have fin : ∀ (k : Nat) (a : Int) (u' : dm_S) (x : Nat → Int) (o2 o6 o7 o8 o9 : Option Value), lr_fr u u' → FL u' A.M x → (∀ (u'' : dm_S) (o5 o6 : Option Value), lr_fr u u'' → FL u'' A.M (snd A.fr A.tr via k (A.fr a0) a x) → G 482 [some (.ref 0), some (.int (nI a0)), o2, some (.long (lI a)), none, o5, o6, o7, o8, o9, none] [] u'') → G 404 [some (.ref 0), some (.int (nI a0)), o2, some (.long (lI a)), none, some (.int (nI (A.fr a0))), o6, o7, o8, o9, none] [] u' := by
        intro k a u' x o2 o6 o7 o8 o9 a1 a2 hx
        rw [snd_n hroot] at hx
        apply hG (fun pc => pc == 404 || pc == 482) 80
        simp (config := { maxSteps := 2000000 }) [-Prod.forall, -Prod.exists, -exists_and_left, -exists_and_right, hW0, hW1, dm_fn, dm_fd, dm_x, dm_L0, dm_la, dm_t1, dm_sw, List.headD, dm_ic, dm_mk, dm_s1, dm_s2, dm_clr, dm_cs, dm_cc, dm_nb0, dm_nb1, Value.category, List.lookup, p_X11_lower, x_X11_lower, k_X11_lower, dm_cm, upd, vp_updL, dm_ui_1, dm_ui_2, dm_ul_1, dm_ul_2, sp_X11_lesser, sM_0, sM_1, sM_2, sM_3, sM_4, sM_5, sM_6, sM_7, sM_8, sM_9, sM_10, sM_11, sM_12, sM_13, sM_14, sM_15, sM_16, sM_17, sM_18, sM_19, sM_20, sM_21, sM_22, sM_23, sM_24, sM_25, sM_26, sM_27, sM_28, sM_29]
        simp only [ca0, ia0, e2 u' a1, true_and]
        exact ⟨fun _ => hx u' _ _ a1 a2, fun z => absurd (by trivial) z⟩
      intro k
      induction k with
      | zero =>
        intro v a u' x o2 o6 o7 o8 o9 hv hk hsv a1 a2 a3 hx
        by_cases y : v = A.fr a0
        · subst y; exact fin 0 a u' x _ _ _ _ _ a1 a2 hx
        · obtain ⟨w, hw, -⟩ := hs v hv hsv y
          have := (ht v w hv hw).2.2.2
          omega
      | succ k ih =>
        intro v a u' x o2 o6 o7 o8 o9 hv hk hsv a1 a2 a3 hx
        by_cases y : v = A.fr a0
        · subst y; exact fin (k + 1) a u' x _ _ _ _ _ a1 a2 hx
        · obtain ⟨w, hw, hsw⟩ := hs v hv hsv y
          obtain ⟨w1, w2, w3, w4⟩ := ht v w hv hw
          rw [snd_s hw] at hx
          have cv : (nI v).toNatClampNeg = v := nI_clamp (by omega)
          have iv : vp_in (nI v) 24 := vp_in_nI (by omega) (by omega)
          have ed2 : nI w / 2 = nI (w / 2) := nI_d2 (by omega)
          have cd2 : (nI (w / 2)).toNatClampNeg = w / 2 := nI_clamp (by omega)
          have iw : vp_in (nI (w / 2)) 80 := vp_in_nI (by omega) (by omega)
          have e26 : u'.1 26 v = nI w := a3 v w hv hw
          have nv : ¬ nI v = nI (A.fr a0) := fun z => y ((nI_eq (by omega) (by omega)).mp z)
          have tw := tailw u' w a1 w1
          have e9 := a2 (w / 2) (by omega)
          have go : ∀ z : Int64, z = lI (x (w / 2) + sg w * a) → ∀ o6, G 404 [some (.ref 0), some (.int (nI a0)), o2, some (.long (lI a)), none, some (.int (nI (wb A.fr A.tr w))), o6, o7, o8, o9, none] [] (dm_ul u' 9 (w / 2) z) := fun z hz o6 => by
            rw [hz]
            refine ih (wb A.fr A.tr w) a _ (pX w a x) _ _ _ _ _ w3 (by omega) hsw (lr_frt a1 lr_9) (fun i hi => ?_) (fun v w hv hw => a3 v w hv hw) hx
            rw [dm_ul_2, if_pos rfl]
            unfold vp_updL pX uI
            by_cases yi : i = w / 2
            · rw [if_pos yi, if_pos yi]
            · rw [if_neg yi, if_neg yi]; exact a2 i hi
          by_cases ev : w % 2 = 0
          · have em := nI_m0 ev
            rw [if_pos ev] at tw
            have es : x (w / 2) + a = x (w / 2) + sg w * a := by unfold sg; rw [if_pos ev, Int.one_mul]
            apply hG (fun pc => pc == 404 || pc == 482) 80
            simp (config := { maxSteps := 2000000 }) [-Prod.forall, -Prod.exists, -exists_and_left, -exists_and_right, hW0, hW1, dm_fn, dm_fd, dm_x, dm_L0, dm_la, dm_t1, dm_sw, List.headD, dm_ic, dm_mk, dm_s1, dm_s2, dm_clr, dm_cs, dm_cc, dm_nb0, dm_nb1, Value.category, List.lookup, p_X11_lower, x_X11_lower, k_X11_lower, dm_cm, upd, vp_updL, dm_ui_1, dm_ui_2, dm_ul_1, dm_ul_2, sp_X11_lesser, sM_0, sM_1, sM_2, sM_3, sM_4, sM_5, sM_6, sM_7, sM_8, sM_9, sM_10, sM_11, sM_12, sM_13, sM_14, sM_15, sM_16, sM_17, sM_18, sM_19, sM_20, sM_21, sM_22, sM_23, sM_24, sM_25, sM_26, sM_27, sM_28, sM_29]
            simp only [ca0, ia0, e2 u' a1, cv, iv, e26, ed2, cd2, iw, em, tw, e9, nv, lI_add, es, true_and, not_true_eq_false, not_false_eq_true, false_implies, true_implies, and_true]
            first | exact go _ rfl _ | exact ⟨by decide, go _ rfl _⟩
          · have em := nI_m1 ev
            rw [if_neg ev] at tw
            have es : x (w / 2) + -a = x (w / 2) + sg w * a := by unfold sg; rw [if_neg ev]; omega
            apply hG (fun pc => pc == 404 || pc == 482) 80
            simp (config := { maxSteps := 2000000 }) [-Prod.forall, -Prod.exists, -exists_and_left, -exists_and_right, hW0, hW1, dm_fn, dm_fd, dm_x, dm_L0, dm_la, dm_t1, dm_sw, List.headD, dm_ic, dm_mk, dm_s1, dm_s2, dm_clr, dm_cs, dm_cc, dm_nb0, dm_nb1, Value.category, List.lookup, p_X11_lower, x_X11_lower, k_X11_lower, dm_cm, upd, vp_updL, dm_ui_1, dm_ui_2, dm_ul_1, dm_ul_2, sp_X11_lesser, sM_0, sM_1, sM_2, sM_3, sM_4, sM_5, sM_6, sM_7, sM_8, sM_9, sM_10, sM_11, sM_12, sM_13, sM_14, sM_15, sM_16, sM_17, sM_18, sM_19, sM_20, sM_21, sM_22, sM_23, sM_24, sM_25, sM_26, sM_27, sM_28, sM_29]
            simp only [ca0, ia0, e2 u' a1, cv, iv, e26, ed2, cd2, iw, em, tw, e9, nv, lI_neg, lI_add, es, true_and, not_true_eq_false, not_false_eq_true, false_implies, true_implies, and_true]
            first | exact go _ rfl _ | exact ⟨by decide, go _ rfl _⟩
    have round1 : ∀ (via : Nat → Option Nat) (rk : Nat → Nat) (sn : Nat → Bool), tre A.n A.M A.fr A.tr via rk → (∀ v, v < A.n → sn v = true → v ≠ A.fr a0 → ∃ w, via v = some w ∧ sn (wb A.fr A.tr w) = true) → via (A.fr a0) = none → ∀ (k v : Nat) (r : Int) (u' : dm_S) (x2 : Int32) (o6 o7 o8 o9 : Option Value), v < A.n → rk v ≤ k → sn v = true → lr_fr u u' → u'.2 = u.2 → lB r → (∀ v w, v < A.n → via v = some w → u'.1 26 v = nI w) → (∀ (x5 : Int32) (o6 : Option Value), lB (gm A.fr A.tr via (wm (fun i => H i - L i) (fun i => f i - L i)) k v r) → G 396 [some (.ref 0), some (.int (nI a0)), some (.int x2), some (.long (lI (gm A.fr A.tr via (wm (fun i => H i - L i) (fun i => f i - L i)) k v r))), none, some (.int x5), o6, o7, o8, o9, none] [] u') → G 290 [some (.ref 0), some (.int (nI a0)), some (.int x2), some (.long (lI r)), none, some (.int (nI v)), o6, o7, o8, o9, none] [] u' := by
      intro via rk sn ht hs hroot
      have fin : ∀ (k : Nat) (r : Int) (u' : dm_S) (x2 : Int32) (o6 o7 o8 o9 : Option Value), lr_fr u u' → lB r → (∀ (x5 : Int32) (o6 : Option Value), lB (gm A.fr A.tr via (wm (fun i => H i - L i) (fun i => f i - L i)) k (A.fr a0) r) → G 396 [some (.ref 0), some (.int (nI a0)), some (.int x2), some (.long (lI (gm A.fr A.tr via (wm (fun i => H i - L i) (fun i => f i - L i)) k (A.fr a0) r))), none, some (.int x5), o6, o7, o8, o9, none] [] u') → G 290 [some (.ref 0), some (.int (nI a0)), some (.int x2), some (.long (lI r)), none, some (.int (nI (A.fr a0))), o6, o7, o8, o9, none] [] u' := by
        intro k r u' x2 o6 o7 o8 o9 a1 hr hx
        rw [gm_n hroot] at hx
        apply hG (fun pc => pc == 290 || pc == 396) 80
        simp (config := { maxSteps := 2000000 }) [-Prod.forall, -Prod.exists, -exists_and_left, -exists_and_right, hW0, hW1, dm_fn, dm_fd, dm_x, dm_L0, dm_la, dm_t1, dm_sw, List.headD, dm_ic, dm_mk, dm_s1, dm_s2, dm_clr, dm_cs, dm_cc, dm_nb0, dm_nb1, Value.category, List.lookup, p_X11_lower, x_X11_lower, k_X11_lower, dm_cm, upd, vp_updL, dm_ui_1, dm_ui_2, dm_ul_1, dm_ul_2, sp_X11_lesser, sM_0, sM_1, sM_2, sM_3, sM_4, sM_5, sM_6, sM_7, sM_8, sM_9, sM_10, sM_11, sM_12, sM_13, sM_14, sM_15, sM_16, sM_17, sM_18, sM_19, sM_20, sM_21, sM_22, sM_23, sM_24, sM_25, sM_26, sM_27, sM_28, sM_29]
        simp only [ca0, ia0, e2 u' a1, true_and]
        exact ⟨fun _ => hx _ _ hr, fun z => absurd (by trivial) z⟩
      intro k
      induction k with
      | zero =>
        intro v r u' x2 o6 o7 o8 o9 hv hk hsv a1 a2 hr a3 hx
        by_cases y : v = A.fr a0
        · subst y; exact fin 0 r u' _ _ _ _ _ a1 hr hx
        · obtain ⟨w, hw, -⟩ := hs v hv hsv y
          have := (ht v w hv hw).2.2.2
          omega
      | succ k ih =>
        intro v r u' x2 o6 o7 o8 o9 hv hk hsv a1 a2 hr a3 hx
        by_cases y : v = A.fr a0
        · subst y; exact fin (k + 1) r u' _ _ _ _ _ a1 hr hx
        · obtain ⟨w, hw, hsw⟩ := hs v hv hsv y
          obtain ⟨w1, w2, w3, w4⟩ := ht v w hv hw
          rw [gm_s hw] at hx
          have cv : (nI v).toNatClampNeg = v := nI_clamp (by omega)
          have iv : vp_in (nI v) 24 := vp_in_nI (by omega) (by omega)
          have ed2 : nI w / 2 = nI (w / 2) := nI_d2 (by omega)
          have cd2 : (nI (w / 2)).toNatClampNeg = w / 2 := nI_clamp (by omega)
          have iw : vp_in (nI (w / 2)) 80 := vp_in_nI (by omega) (by omega)
          have e26 : u'.1 26 v = nI w := a3 v w hv hw
          have nv : ¬ nI v = nI (A.fr a0) := fun z => y ((nI_eq (by omega) (by omega)).mp z)
          have tw := tailw u' w a1 w1
          have rw' := roomw u' w a2 w1
          have go : ∀ z : Int64, z = (if lI r < lI (wm (fun i => H i - L i) (fun i => f i - L i) w) then lI r else lI (wm (fun i => H i - L i) (fun i => f i - L i) w)) → ∀ o6, G 290 [some (.ref 0), some (.int (nI a0)), some (.int x2), some (.long z), none, some (.int (nI (wb A.fr A.tr w))), o6, o7, o8, o9, none] [] u' := fun z hz o6 => by
            have e : z = lI (if r < wm (fun i => H i - L i) (fun i => f i - L i) w then r else wm (fun i => H i - L i) (fun i => f i - L i) w) := by
              rw [hz]
              by_cases y : r < wm (fun i => H i - L i) (fun i => f i - L i) w
              · rw [if_pos y, if_pos ((lI_lt hr (hwm w w1)).mpr y)]
              · rw [if_neg y, if_neg (fun q => y ((lI_lt hr (hwm w w1)).mp q))]
            rw [e]
            refine ih _ _ u' _ _ _ _ _ w3 (by omega) hsw a1 a2 ?_ a3 hx
            have := hwm w w1
            unfold lB at hr this ⊢
            split <;> omega
          by_cases ev : w % 2 = 0
          · have em := nI_m0 ev
            rw [if_pos ev] at tw rw'
            apply hG (fun pc => pc == 290 || pc == 396) 80
            simp (config := { maxSteps := 2000000 }) [-Prod.forall, -Prod.exists, -exists_and_left, -exists_and_right, hW0, hW1, dm_fn, dm_fd, dm_x, dm_L0, dm_la, dm_t1, dm_sw, List.headD, dm_ic, dm_mk, dm_s1, dm_s2, dm_clr, dm_cs, dm_cc, dm_nb0, dm_nb1, Value.category, List.lookup, p_X11_lower, x_X11_lower, k_X11_lower, dm_cm, upd, vp_updL, dm_ui_1, dm_ui_2, dm_ul_1, dm_ul_2, sp_X11_lesser, sM_0, sM_1, sM_2, sM_3, sM_4, sM_5, sM_6, sM_7, sM_8, sM_9, sM_10, sM_11, sM_12, sM_13, sM_14, sM_15, sM_16, sM_17, sM_18, sM_19, sM_20, sM_21, sM_22, sM_23, sM_24, sM_25, sM_26, sM_27, sM_28, sM_29]
            simp only [ca0, ia0, e2 u' a1, cv, iv, e26, ed2, cd2, iw, em, tw, rw', nv, true_and, not_true_eq_false, not_false_eq_true, false_implies, true_implies, and_true]
            first | exact go _ rfl _ | exact ⟨by decide, go _ rfl _⟩
          · have em := nI_m1 ev
            rw [if_neg ev] at tw rw'
            apply hG (fun pc => pc == 290 || pc == 396) 80
            simp (config := { maxSteps := 2000000 }) [-Prod.forall, -Prod.exists, -exists_and_left, -exists_and_right, hW0, hW1, dm_fn, dm_fd, dm_x, dm_L0, dm_la, dm_t1, dm_sw, List.headD, dm_ic, dm_mk, dm_s1, dm_s2, dm_clr, dm_cs, dm_cc, dm_nb0, dm_nb1, Value.category, List.lookup, p_X11_lower, x_X11_lower, k_X11_lower, dm_cm, upd, vp_updL, dm_ui_1, dm_ui_2, dm_ul_1, dm_ul_2, sp_X11_lesser, sM_0, sM_1, sM_2, sM_3, sM_4, sM_5, sM_6, sM_7, sM_8, sM_9, sM_10, sM_11, sM_12, sM_13, sM_14, sM_15, sM_16, sM_17, sM_18, sM_19, sM_20, sM_21, sM_22, sM_23, sM_24, sM_25, sM_26, sM_27, sM_28, sM_29]
            simp only [ca0, ia0, e2 u' a1, cv, iv, e26, ed2, cd2, iw, em, tw, rw', nv, true_and, not_true_eq_false, not_false_eq_true, false_implies, true_implies, and_true]
            first | exact go _ rfl _ | exact ⟨by decide, go _ rfl _⟩
    have exitL : ∀ (u' : dm_S) (line : Nat → Nat) (m : Nat) (sn : Nat → Bool) (via : Nat → Option Nat), lr_fr u u' → u'.2 = u.2 → BF u' A.n line m sn via → bI A.n A.M A.fr A.tr (lon L H f a0) (A.fr a0) line m sn via → (∀ j w, j < m → w < 2 * A.M → lon L H f a0 w = true → wb A.fr A.tr w = line j → sn (we A.fr A.tr w) = true) → (sn (A.tr a0) = false → Qp (some (.int 0)) u') ∧ (sn (A.tr a0) = true → ∀ (x2 : Int32) (o6 o7 o8 o9 : Option Value), G 290 [some (.ref 0), some (.int (nI a0)), some (.int x2), some (.long (lI (f a0 - L a0))), none, some (.int (nI (A.tr a0))), o6, o7, o8, o9, none] [] u') := by
      intro u' line m sn via a1 a2 a3 a4 a5
      have hroot : sn (A.fr a0) = true := by
        have := (a4.2.1 0 a4.1.1).2
        rw [a4.1.2] at this
        exact this
      constructor
      · intro hq
        refine hno u' sn a1 (fun a ha => by rw [a2]; exact hFl a ha) hroot hq (fun w hw ho hsw => ?_)
        have hwn : wb A.fr A.tr w < A.n := by
          have := (hA.2.1 (w / 2) (by omega)).1
          unfold wb; split
          · exact this.1
          · exact this.2.1
        obtain ⟨j, j1, j2⟩ := a4.2.2.1 _ hwn hsw
        exact a5 j w j1 hw ho j2.symm
      · intro hq x2 o6 o7 o8 o9
        obtain ⟨rk, t1, t2, t3, t4⟩ := bI_tre a4
        have hs : ∀ v, v < A.n → sn v = true → v ≠ A.fr a0 → ∃ w, via v = some w ∧ sn (wb A.fr A.tr w) = true := fun v hv hsv hne => by
          obtain ⟨j, j1, j2⟩ := a4.2.2.1 v hv hsv
          have j0 : 0 < j := by
            rcases Nat.eq_zero_or_pos j with z | z
            · subst z; rw [a4.1.2] at j2; exact absurd j2.symm hne
            · exact z
          obtain ⟨w, g1, -⟩ := a4.2.2.2.2.2.2 j j0 j1
          rw [j2] at g1
          exact ⟨w, g1, (t3 v w hv g1).2⟩
        have hr0 := hb a0 ha0
        refine round1 via rk sn t1 hs a4.2.2.2.2.1 A.n (A.tr a0) (f a0 - L a0) u' _ _ _ _ _ r2 (t2 _ r2) hq a1 a2 (by unfold lB; omega) a3.2.2 (fun x5 p6 hgb => ?_)
        have hg := gm_le (b := A.fr) (e := A.tr) (via := via) (R := wm (fun i => H i - L i) (fun i => f i - L i)) (k := A.n) (v := A.tr a0) (r := f a0 - L a0)
        have hgp := gm_pos (K := A.M) (rk := rk) (k := A.n) t1 (R := wm (fun i => H i - L i) (fun i => f i - L i)) (fun v w hv hw => (lon_t.mp (t3 v w hv hw).1).2) (v := A.tr a0) (r := f a0 - L a0) r2 (by omega)
        have hal := gm_al (b := A.fr) (e := A.tr) (via := via) (R := wm (fun i => H i - L i) (fun i => f i - L i)) (k := A.n) (v := A.tr a0) (r := f a0 - L a0) (Int.le_refl _)
        obtain ⟨s1, s2, s3⟩ := low_send (k := A.n) t1 r3 r2 (t2 _ r2) (t4 A.n _ r2 (t2 _ r2) hq) (fun i hi => (hb i hi).1) ha0 (fun v w hv hw => (lon_t.mp (t3 v w hv hw).1).1) hgp hg hal
        revert hgb hg hgp s1 s2 s3
        generalize gm A.fr A.tr via (wm (fun i => H i - L i) (fun i => f i - L i)) A.n (A.tr a0) (f a0 - L a0) = a
        intro hgb hg hgp s1 s2 s3
        apply hG (fun pc => pc == 404) 80
        simp (config := { maxSteps := 2000000 }) [-Prod.forall, -Prod.exists, -exists_and_left, -exists_and_right, hW0, hW1, dm_fn, dm_fd, dm_x, dm_L0, dm_la, dm_t1, dm_sw, List.headD, dm_ic, dm_mk, dm_s1, dm_s2, dm_clr, dm_cs, dm_cc, dm_nb0, dm_nb1, Value.category, List.lookup, p_X11_lower, x_X11_lower, k_X11_lower, dm_cm, upd, vp_updL, dm_ui_1, dm_ui_2, dm_ul_1, dm_ul_2, sp_X11_lesser, sM_0, sM_1, sM_2, sM_3, sM_4, sM_5, sM_6, sM_7, sM_8, sM_9, sM_10, sM_11, sM_12, sM_13, sM_14, sM_15, sM_16, sM_17, sM_18, sM_19, sM_20, sM_21, sM_22, sM_23, sM_24, sM_25, sM_26, sM_27, sM_28, sM_29]
        simp only [ca0, ia0, e3 u' a1, true_and]
        refine round2 via rk sn t1 hs a4.2.2.2.2.1 A.n (A.tr a0) a u' f _ _ _ _ _ r2 (t2 _ r2) hq a1 (fun a ha => by rw [a2]; exact hFl a ha) a3.2.2 (fun u2 p5 p6 b1 b2 => ?_)
        apply hG (fun pc => pc == 404) 80
        simp (config := { maxSteps := 2000000 }) [-Prod.forall, -Prod.exists, -exists_and_left, -exists_and_right, hW0, hW1, dm_fn, dm_fd, dm_x, dm_L0, dm_la, dm_t1, dm_sw, List.headD, dm_ic, dm_mk, dm_s1, dm_s2, dm_clr, dm_cs, dm_cc, dm_nb0, dm_nb1, Value.category, List.lookup, p_X11_lower, x_X11_lower, k_X11_lower, dm_cm, upd, vp_updL, dm_ui_1, dm_ui_2, dm_ul_1, dm_ul_2, sp_X11_lesser, sM_0, sM_1, sM_2, sM_3, sM_4, sM_5, sM_6, sM_7, sM_8, sM_9, sM_10, sM_11, sM_12, sM_13, sM_14, sM_15, sM_16, sM_17, sM_18, sM_19, sM_20, sM_21, sM_22, sM_23, sM_24, sM_25, sM_26, sM_27, sM_28, sM_29]
        simp only [ca0, ia0, b2 a0 ha0, lI_sub, true_and]
        refine hyes _ _ (lr_frt b1 lr_9) (fun i hi => ?_) s1 s2 (by rw [s3]; omega)
        rw [dm_ul_2, if_pos rfl]
        unfold vp_updL uI
        by_cases y : i = a0
        · rw [if_pos y, if_pos y]
        · rw [if_neg y, if_neg y]; exact b2 i hi
    have search : ∀ (k i : Nat), i + k = A.n → ∀ (u' : dm_S) (line : Nat → Nat) (m : Nat) (sn : Nat → Bool) (via : Nat → Option Nat) (o4 o5 o6 o7 o8 o9 : Option Value), lr_fr u u' → u'.2 = u.2 → BF u' A.n line m sn via → bI A.n A.M A.fr A.tr (lon L H f a0) (A.fr a0) line m sn via → i ≤ m → (∀ j w, j < i → w < 2 * A.M → lon L H f a0 w = true → wb A.fr A.tr w = line j → sn (we A.fr A.tr w) = true) → G 51 [some (.ref 0), some (.int (nI a0)), some (.int (nI m)), some (.int (nI i)), o4, o5, o6, o7, o8, o9, none] [] u' := by
      have ends : ∀ (u' : dm_S) (line : Nat → Nat) (m : Nat) (sn : Nat → Bool) (via : Nat → Option Nat) (o4 o5 o6 o7 o8 o9 : Option Value), lr_fr u u' → u'.2 = u.2 → BF u' A.n line m sn via → bI A.n A.M A.fr A.tr (lon L H f a0) (A.fr a0) line m sn via → (∀ j w, j < m → w < 2 * A.M → lon L H f a0 w = true → wb A.fr A.tr w = line j → sn (we A.fr A.tr w) = true) → G 51 [some (.ref 0), some (.int (nI a0)), some (.int (nI m)), some (.int (nI m)), o4, o5, o6, o7, o8, o9, none] [] u' := by
        intro u' line m sn via o4 o5 o6 o7 o8 o9 a1 a2 a3 a4 a5
        have hmn := bI_mn a4
        have ctr : (nI (A.tr a0)).toNatClampNeg = A.tr a0 := nI_clamp (by omega)
        have itr : vp_in (nI (A.tr a0)) 24 := vp_in_nI (by omega) (by omega)
        obtain ⟨x1, x2⟩ := exitL u' line m sn via a1 a2 a3 a4 a5
        have e9 : u'.2 9 a0 = lI (f a0) := by rw [a2]; exact hFl a0 ha0
        have e24 : u'.2 24 a0 = lI (L a0) := by rw [a2]; exact (hB a0 ha0).1
        apply hG (fun pc => pc == 59 || pc == 290) 80
        simp (config := { maxSteps := 2000000 }) [-Prod.forall, -Prod.exists, -exists_and_left, -exists_and_right, hW0, hW1, dm_fn, dm_fd, dm_x, dm_L0, dm_la, dm_t1, dm_sw, List.headD, dm_ic, dm_mk, dm_s1, dm_s2, dm_clr, dm_cs, dm_cc, dm_nb0, dm_nb1, Value.category, List.lookup, p_X11_lower, x_X11_lower, k_X11_lower, dm_cm, upd, vp_updL, dm_ui_1, dm_ui_2, dm_ul_1, dm_ul_2, sp_X11_lesser, sM_0, sM_1, sM_2, sM_3, sM_4, sM_5, sM_6, sM_7, sM_8, sM_9, sM_10, sM_11, sM_12, sM_13, sM_14, sM_15, sM_16, sM_17, sM_18, sM_19, sM_20, sM_21, sM_22, sM_23, sM_24, sM_25, sM_26, sM_27, sM_28, sM_29]
        simp only [ca0, ia0, e3 u' a1, ctr, itr, e9, e24, lI_sub, a3.2.1 _ r2, true_and]
        refine ⟨fun z => ?_, fun z => ?_⟩
        · cases hq : sn (A.tr a0) with
          | true => exact x2 hq _ _ _ _ _
          | false => rw [hq] at z; exact absurd rfl z
        · cases hq : sn (A.tr a0) with
          | true => rw [hq] at z; exact absurd z (by decide)
          | false => exact x1 hq
      intro k
      induction k with
      | zero =>
        intro i hi u' line m sn via o4 o5 o6 o7 o8 o9 a1 a2 a3 a4 a5 a6
        have hmn := bI_mn a4
        have e : i = m := by omega
        subst e
        exact ends u' line i sn via _ _ _ _ _ _ a1 a2 a3 a4 a6
      | succ k ih =>
        intro i hi u' line m sn via o4 o5 o6 o7 o8 o9 a1 a2 a3 a4 a5 a6
        by_cases him : i = m
        · subst him
          exact ends u' line i sn via _ _ _ _ _ _ a1 a2 a3 a4 a6
        have ways : ∀ (d p : Nat), p + d = 2 * A.M → ∀ (u' : dm_S) (line : Nat → Nat) (m : Nat) (sn : Nat → Bool) (via : Nat → Option Nat) (o5 o6 o7 o8 o9 : Option Value), lr_fr u u' → u'.2 = u.2 → BF u' A.n line m sn via → bI A.n A.M A.fr A.tr (lon L H f a0) (A.fr a0) line m sn via → i < m → (∀ j w, (j < i ∨ j = i ∧ w < p) → w < 2 * A.M → lon L H f a0 w = true → wb A.fr A.tr w = line j → sn (we A.fr A.tr w) = true) → G 59 [some (.ref 0), some (.int (nI a0)), some (.int (nI m)), some (.int (nI i)), some (.int (nI p)), o5, o6, o7, o8, o9, none] [] u' := by
          intro d
          induction d with
          | zero =>
            intro p hp u' line m sn via o5 o6 o7 o8 o9 a1 a2 a3 a4 a5 a6
            have e2M : (2 : Int32) * nI A.M = nI (2 * A.M) := by rw [show (2 : Int32) = nI 2 from rfl, pk_mul]
            have e1M : u'.1 0 1 = nI A.M := by rw [a1.1 0 (by decide)]; exact hC.1.2
            apply hG (fun pc => pc == 51 || pc == 59) 120
            simp (config := { maxSteps := 2000000 }) [-Prod.forall, -Prod.exists, -exists_and_left, -exists_and_right, hW0, hW1, dm_fn, dm_fd, dm_x, dm_L0, dm_la, dm_t1, dm_sw, List.headD, dm_ic, dm_mk, dm_s1, dm_s2, dm_clr, dm_cs, dm_cc, dm_nb0, dm_nb1, Value.category, List.lookup, p_X11_lower, x_X11_lower, k_X11_lower, dm_cm, upd, vp_updL, dm_ui_1, dm_ui_2, dm_ul_1, dm_ul_2, sp_X11_lesser, sM_0, sM_1, sM_2, sM_3, sM_4, sM_5, sM_6, sM_7, sM_8, sM_9, sM_10, sM_11, sM_12, sM_13, sM_14, sM_15, sM_16, sM_17, sM_18, sM_19, sM_20, sM_21, sM_22, sM_23, sM_24, sM_25, sM_26, sM_27, sM_28, sM_29]
            rw [e1M, e2M, nI_1]
            have e : p = 2 * A.M := by omega
            subst e
            exact ⟨fun _ => ih (i + 1) (by omega) u' line m sn via _ _ _ _ _ _ a1 a2 a3 a4 (by omega) (fun j w hj hw => a6 j w (by omega) hw), fun z => absurd z (nI_nlt (Nat.le_refl _) (by omega))⟩
          | succ d ih2 =>
            intro p hp u' line m sn via o5 o6 o7 o8 o9 a1 a2 a3 a4 a5 a6
            have hpM : p < 2 * A.M := by omega
            have hmn := bI_mn a4
            have e2M : (2 : Int32) * nI A.M = nI (2 * A.M) := by rw [show (2 : Int32) = nI 2 from rfl, pk_mul]
            have e1M : u'.1 0 1 = nI A.M := by rw [a1.1 0 (by decide)]; exact hC.1.2
            have ed2 : nI p / 2 = nI (p / 2) := nI_d2 (by omega)
            have cd2 : (nI (p / 2)).toNatClampNeg = p / 2 := nI_clamp (by omega)
            have iw : vp_in (nI (p / 2)) 80 := vp_in_nI (by omega) (by omega)
            have ci : (nI i).toNatClampNeg = i := nI_clamp (by omega)
            have ii : vp_in (nI i) 24 := vp_in_nI (by omega) (by omega)
            have eli : u'.1 28 i = nI (line i) := a3.1 i a5
            have hli := (a4.2.1 i a5).1
            have hbe : wb A.fr A.tr p < A.n ∧ we A.fr A.tr p < A.n := by
              have := (hA.2.1 (p / 2) (by omega)).1
              unfold wb we
              split
              · exact ⟨this.1, this.2.1⟩
              · exact ⟨this.2.1, this.1⟩
            have ce : (nI (we A.fr A.tr p)).toNatClampNeg = we A.fr A.tr p := nI_clamp (by omega)
            have ie : vp_in (nI (we A.fr A.tr p)) 24 := vp_in_nI (by omega) (by omega)
            have cm : (nI m).toNatClampNeg = m := nI_clamp (by omega)
            have h0l : (0 : Int64) = lI 0 := rfl
            have h0b : lB 0 := by unfold lB; omega
            have nxt : ∀ o5 o6 o7 o8 o9 : Option Value, (lon L H f a0 p = true → wb A.fr A.tr p = line i → sn (we A.fr A.tr p) = true) → G 59 [some (.ref 0), some (.int (nI a0)), some (.int (nI m)), some (.int (nI i)), some (.int (nI (p + 1))), o5, o6, o7, o8, o9, none] [] u' := fun o5 o6 o7 o8 o9 g => ih2 (p + 1) (by omega) u' line m sn via _ _ _ _ _ a1 a2 a3 a4 a5 (fun j w hj hw ho hwb => by
              by_cases y : j < i ∨ j = i ∧ w < p
              · exact a6 j w y hw ho hwb
              · have ej : j = i := by omega
                have ew : w = p := by omega
                subst ej ew
                exact g ho hwb)
            have app : ∀ o5 o6 o7 o8 o9 : Option Value, lon L H f a0 p = true → wb A.fr A.tr p = line i → sn (we A.fr A.tr p) = false → vp_in (nI m) 24 ∧ G 59 [some (.ref 0), some (.int (nI a0)), some (.int (nI (m + 1))), some (.int (nI i)), some (.int (nI (p + 1))), o5, o6, o7, o8, o9, none] [] (dm_ui (dm_ui (dm_ui u' 27 (we A.fr A.tr p) 1) 26 (we A.fr A.tr p) (nI p)) 28 m (nI (we A.fr A.tr p))) := fun o5 o6 o7 o8 o9 g1 g2 g3 => by
              have hm := bI_m a4 hbe.2 g3
              refine ⟨vp_in_nI (by omega) (by omega), ih2 (p + 1) (by omega) _ (uN line m (we A.fr A.tr p)) (m + 1) (uB sn (we A.fr A.tr p)) (uO via (we A.fr A.tr p) p) _ _ _ _ _ (lr_frt a1 (lr_frt (lr_i (by decide)) (lr_frt (lr_i (by decide)) (lr_i (by decide))))) a2 ⟨fun j hj => ?_, fun v hv => ?_, fun v w hv hw => ?_⟩ (bI_s a4 a5 hpM g1 g2 hbe.2 g3) (by omega) (fun j w hj hw ho hwb => ?_)⟩
              · rw [dm_ui_1, if_pos rfl]
                unfold upd uN
                by_cases y : j = m
                · simp [y]
                · simp [y]
                  rw [dm_ui_1, if_neg (by decide), dm_ui_1, if_neg (by decide)]
                  exact a3.1 j (by omega)
              · rw [dm_ui_1, if_neg (by decide), dm_ui_1, if_neg (by decide), dm_ui_1, if_pos rfl]
                unfold upd uB
                by_cases y : v = we A.fr A.tr p
                · simp [y]
                · simp [y]; exact a3.2.1 v hv
              · rw [dm_ui_1, if_neg (by decide), dm_ui_1, if_pos rfl]
                unfold upd
                by_cases y : v = we A.fr A.tr p
                · rw [y, uO_at] at hw
                  cases hw
                  simp [y]
                · rw [uO_ne y] at hw
                  simp [y]
                  rw [dm_ui_1, if_neg (by decide)]
                  exact a3.2.2 v w hv hw
              · have hjm : j < m := by omega
                have el : uN line m (we A.fr A.tr p) j = line j := if_neg (by omega)
                rw [el] at hwb
                unfold uB
                by_cases yv : we A.fr A.tr w = we A.fr A.tr p
                · rw [if_pos yv]
                · rw [if_neg yv]
                  by_cases y : j < i ∨ j = i ∧ w < p
                  · exact a6 j w y hw ho hwb
                  · have ej : j = i := by omega
                    have ew : w = p := by omega
                    subst ej ew
                    exact absurd rfl yv
            have tw := tailw u' p a1 hpM
            have rw' := roomw u' p a2 hpM
            have hd : (if p % 2 = 0 then u'.1 3 (p / 2) else u'.1 2 (p / 2)) = nI (we A.fr A.tr p) := by
              obtain ⟨g1, g2⟩ := cell2 u' (p / 2) a1 (by omega)
              unfold we
              split
              · exact g2
              · exact g1
            have e27 := a3.2.1 _ hbe.2
            by_cases ev : p % 2 = 0
            · have em := nI_m0 ev
              rw [if_pos ev] at tw rw' hd
              apply hG (fun pc => pc == 51 || pc == 59) 120
              simp (config := { maxSteps := 2000000 }) [-Prod.forall, -Prod.exists, -exists_and_left, -exists_and_right, hW0, hW1, dm_fn, dm_fd, dm_x, dm_L0, dm_la, dm_t1, dm_sw, List.headD, dm_ic, dm_mk, dm_s1, dm_s2, dm_clr, dm_cs, dm_cc, dm_nb0, dm_nb1, Value.category, List.lookup, p_X11_lower, x_X11_lower, k_X11_lower, dm_cm, upd, vp_updL, dm_ui_1, dm_ui_2, dm_ul_1, dm_ul_2, sp_X11_lesser, sM_0, sM_1, sM_2, sM_3, sM_4, sM_5, sM_6, sM_7, sM_8, sM_9, sM_10, sM_11, sM_12, sM_13, sM_14, sM_15, sM_16, sM_17, sM_18, sM_19, sM_20, sM_21, sM_22, sM_23, sM_24, sM_25, sM_26, sM_27, sM_28, sM_29]
              simp only [e1M, e2M, ed2, cd2, iw, ci, ii, eli, em, tw, rw', hd, ce, ie, cm, e27, h0l, nI_1, true_and, not_true_eq_false, not_false_eq_true, false_implies, true_implies, and_true]
              refine ⟨fun z => absurd z (nI_ge (by omega) (by omega)), fun _ => ⟨fun z => nxt _ _ _ _ _ (fun q => absurd ((nI_eq (by omega) (by omega)).mp z) (lon_t.mp q).1), fun z => ⟨fun z2 => nxt _ _ _ _ _ (fun _ q => absurd (by rw [q]) z2), fun z2 => ⟨fun z3 => nxt _ _ _ _ _ (fun _ _ => ?_), fun z3 => ⟨fun z4 => nxt _ _ _ _ _ (fun q => ?_), fun z4 => ?_⟩⟩⟩⟩⟩
              · cases hq : sn (we A.fr A.tr p) with
                | true => rfl
                | false => rw [hq] at z3; exact absurd rfl z3
              · rw [lI_le (hwm p hpM) h0b] at z4
                have := (lon_t.mp q).2
                omega
              · rw [lI_lt h0b (hwm p hpM)] at z4
                refine app _ _ _ _ _ (lon_t.mpr ⟨fun q => z (by rw [q]), z4⟩) ((nI_eq (by omega) (by omega)).mp z2) ?_
                cases hq : sn (we A.fr A.tr p) with
                | true => rw [hq] at z3; exact absurd z3 (by decide)
                | false => rfl
            · have em := nI_m1 ev
              rw [if_neg ev] at tw rw' hd
              apply hG (fun pc => pc == 51 || pc == 59) 120
              simp (config := { maxSteps := 2000000 }) [-Prod.forall, -Prod.exists, -exists_and_left, -exists_and_right, hW0, hW1, dm_fn, dm_fd, dm_x, dm_L0, dm_la, dm_t1, dm_sw, List.headD, dm_ic, dm_mk, dm_s1, dm_s2, dm_clr, dm_cs, dm_cc, dm_nb0, dm_nb1, Value.category, List.lookup, p_X11_lower, x_X11_lower, k_X11_lower, dm_cm, upd, vp_updL, dm_ui_1, dm_ui_2, dm_ul_1, dm_ul_2, sp_X11_lesser, sM_0, sM_1, sM_2, sM_3, sM_4, sM_5, sM_6, sM_7, sM_8, sM_9, sM_10, sM_11, sM_12, sM_13, sM_14, sM_15, sM_16, sM_17, sM_18, sM_19, sM_20, sM_21, sM_22, sM_23, sM_24, sM_25, sM_26, sM_27, sM_28, sM_29]
              simp only [e1M, e2M, ed2, cd2, iw, ci, ii, eli, em, tw, rw', hd, ce, ie, cm, e27, h0l, nI_1, true_and, not_true_eq_false, not_false_eq_true, false_implies, true_implies, and_true]
              refine ⟨fun z => absurd z (nI_ge (by omega) (by omega)), fun _ => ⟨fun z => nxt _ _ _ _ _ (fun q => absurd ((nI_eq (by omega) (by omega)).mp z) (lon_t.mp q).1), fun z => ⟨fun z2 => nxt _ _ _ _ _ (fun _ q => absurd (by rw [q]) z2), fun z2 => ⟨fun z3 => nxt _ _ _ _ _ (fun _ _ => ?_), fun z3 => ⟨fun z4 => nxt _ _ _ _ _ (fun q => ?_), fun z4 => ?_⟩⟩⟩⟩⟩
              · cases hq : sn (we A.fr A.tr p) with
                | true => rfl
                | false => rw [hq] at z3; exact absurd rfl z3
              · rw [lI_le (hwm p hpM) h0b] at z4
                have := (lon_t.mp q).2
                omega
              · rw [lI_lt h0b (hwm p hpM)] at z4
                refine app _ _ _ _ _ (lon_t.mpr ⟨fun q => z (by rw [q]), z4⟩) ((nI_eq (by omega) (by omega)).mp z2) ?_
                cases hq : sn (we A.fr A.tr p) with
                | true => rw [hq] at z3; exact absurd z3 (by decide)
                | false => rfl
        have hmn := bI_mn a4
        apply hG (fun pc => pc == 59 || pc == 290) 80
        simp (config := { maxSteps := 2000000 }) [-Prod.forall, -Prod.exists, -exists_and_left, -exists_and_right, hW0, hW1, dm_fn, dm_fd, dm_x, dm_L0, dm_la, dm_t1, dm_sw, List.headD, dm_ic, dm_mk, dm_s1, dm_s2, dm_clr, dm_cs, dm_cc, dm_nb0, dm_nb1, Value.category, List.lookup, p_X11_lower, x_X11_lower, k_X11_lower, dm_cm, upd, vp_updL, dm_ui_1, dm_ui_2, dm_ul_1, dm_ul_2, sp_X11_lesser, sM_0, sM_1, sM_2, sM_3, sM_4, sM_5, sM_6, sM_7, sM_8, sM_9, sM_10, sM_11, sM_12, sM_13, sM_14, sM_15, sM_16, sM_17, sM_18, sM_19, sM_20, sM_21, sM_22, sM_23, sM_24, sM_25, sM_26, sM_27, sM_28, sM_29]
        exact ⟨fun z => absurd z (nI_ge (by omega) (by omega)), fun _ => ways (2 * A.M) 0 (by omega) u' line m sn via _ _ _ _ _ a1 a2 a3 a4 (by omega) (fun j w hj hw => a6 j w (by omega) hw)⟩
    have clr : ∀ (k i : Nat), i + k = A.n → ∀ u' : dm_S, lr_fr u u' → u'.2 = u.2 → (∀ v, v < i → u'.1 27 v = 0) → G 2 [some (.ref 0), some (.int (nI a0)), some (.int (nI i)), none, none, none, none, none, none, none, none] [] u' := by
      intro k
      induction k with
      | zero =>
        intro i hi u' a1 a2 a3
        have e : i = A.n := by omega
        subst e
        have cfr : (nI (A.fr a0)).toNatClampNeg = A.fr a0 := nI_clamp (by omega)
        have ifr : vp_in (nI (A.fr a0)) 24 := vp_in_nI (by omega) (by omega)
        have i0 : vp_in (0 : Int32) 24 := show vp_in (nI 0) 24 from vp_in_nI (by omega) (by omega)
        apply hG (fun pc => pc == 2 || pc == 51) 80
        simp (config := { maxSteps := 2000000 }) [-Prod.forall, -Prod.exists, -exists_and_left, -exists_and_right, hW0, hW1, dm_fn, dm_fd, dm_x, dm_L0, dm_la, dm_t1, dm_sw, List.headD, dm_ic, dm_mk, dm_s1, dm_s2, dm_clr, dm_cs, dm_cc, dm_nb0, dm_nb1, Value.category, List.lookup, p_X11_lower, x_X11_lower, k_X11_lower, dm_cm, upd, vp_updL, dm_ui_1, dm_ui_2, dm_ul_1, dm_ul_2, sp_X11_lesser, sM_0, sM_1, sM_2, sM_3, sM_4, sM_5, sM_6, sM_7, sM_8, sM_9, sM_10, sM_11, sM_12, sM_13, sM_14, sM_15, sM_16, sM_17, sM_18, sM_19, sM_20, sM_21, sM_22, sM_23, sM_24, sM_25, sM_26, sM_27, sM_28, sM_29]
        simp only [ca0, ia0, e2 u' a1, cfr, ifr, i0, true_and]
        rw [a1.1 0 (by decide), hC.1.1]
        refine ⟨fun _ => ?_, fun z => absurd z (nI_nlt (Nat.le_refl _) (by omega))⟩
        refine search A.n 0 (by omega) _ (fun _ => A.fr a0) 1 (fun v => decide (v = A.fr a0)) (fun _ => none) _ _ _ _ _ _ (lr_frt a1 (lr_frt (lr_i (by decide)) (lr_i (by decide)))) a2 ⟨fun j hj => ?_, fun v hv => ?_, fun v w hv hw => (by cases hw)⟩ (bI_0 r1 rfl) (by omega) (fun j w hj => absurd hj (Nat.not_lt_zero _))
        · have : j = 0 := by omega
          subst this
          rw [dm_ui_1, if_neg (by decide), dm_ui_1, if_pos rfl]
          rfl
        · rw [dm_ui_1, if_pos rfl]
          unfold upd
          by_cases y : v = A.fr a0
          · simp [y]
          · simp [y]
            rw [dm_ui_1, if_neg (by decide)]
            exact a3 v hv
      | succ k ih =>
        intro i hi u' a1 a2 a3
        have ci : (nI i).toNatClampNeg = i := nI_clamp (by omega)
        have ii : vp_in (nI i) 24 := vp_in_nI (by omega) (by omega)
        apply hG (fun pc => pc == 2 || pc == 51) 80
        simp (config := { maxSteps := 2000000 }) [-Prod.forall, -Prod.exists, -exists_and_left, -exists_and_right, hW0, hW1, dm_fn, dm_fd, dm_x, dm_L0, dm_la, dm_t1, dm_sw, List.headD, dm_ic, dm_mk, dm_s1, dm_s2, dm_clr, dm_cs, dm_cc, dm_nb0, dm_nb1, Value.category, List.lookup, p_X11_lower, x_X11_lower, k_X11_lower, dm_cm, upd, vp_updL, dm_ui_1, dm_ui_2, dm_ul_1, dm_ul_2, sp_X11_lesser, sM_0, sM_1, sM_2, sM_3, sM_4, sM_5, sM_6, sM_7, sM_8, sM_9, sM_10, sM_11, sM_12, sM_13, sM_14, sM_15, sM_16, sM_17, sM_18, sM_19, sM_20, sM_21, sM_22, sM_23, sM_24, sM_25, sM_26, sM_27, sM_28, sM_29]
        rw [ci, nI_1]
        simp only [ii, true_and]
        rw [a1.1 0 (by decide), hC.1.1]
        refine ⟨fun z => absurd z (nI_ge (by omega) (by omega)), fun _ => ih (i + 1) (by omega) _ (lr_frt a1 (lr_i (by decide))) a2 (fun v hv => ?_)⟩
        rw [dm_ui_1, if_pos rfl]
        unfold upd
        by_cases y : v = i
        · simp [y]
        · simp [y]; exact a3 v (by omega)
    apply hG (fun pc => pc == 2) 80
    simp (config := { maxSteps := 2000000 }) [-Prod.forall, -Prod.exists, -exists_and_left, -exists_and_right, hW0, hW1, dm_fn, dm_fd, dm_x, dm_L0, dm_la, dm_t1, dm_sw, List.headD, dm_ic, dm_mk, dm_s1, dm_s2, dm_clr, dm_cs, dm_cc, dm_nb0, dm_nb1, Value.category, List.lookup, p_X11_lower, x_X11_lower, k_X11_lower, dm_cm, upd, vp_updL, dm_ui_1, dm_ui_2, dm_ul_1, dm_ul_2, sp_X11_lesser, sM_0, sM_1, sM_2, sM_3, sM_4, sM_5, sM_6, sM_7, sM_8, sM_9, sM_10, sM_11, sM_12, sM_13, sM_14, sM_15, sM_16, sM_17, sM_18, sM_19, sM_20, sM_21, sM_22, sM_23, sM_24, sM_25, sM_26, sM_27, sM_28, sM_29]
    exact clr A.n 0 (by omega) u (lr_fr0 u) rfl (fun v hv => absurd hv (Nat.not_lt_zero _))
  · exact h.elim
set_option maxRecDepth 100000 in
theorem t_X11_lower (l : Launch) (D : va_G) (cA : Nat → ClassId) (ad : Nat → Nat) : dm_Met l D dm_cl cA ad shM yX11_lower (Cond.code yX11_lower cX11_lower 11 (dm_rt 3) :: dm_tt) ({ frames := 1, cells := 0, slots := 0, locals := 23 } : Room) sp_X11_lower := dm_meth (own := RX11) (X := x_X11_lower) (Sp := k_X11_lower) (prog := p_X11_lower) (by decide +kernel) rfl rfl (dm_FO_s ffX11 [(13, 11, 3), (17, 11, 4), (35, 11, 11), (81, 11, 31), (84, 11, 32), (87, 11, 33), (90, 11, 34), (93, 11, 35), (109, 11, 0), (123, 11, 1)] rfl dm_hT (by decide +kernel)) (dm_IO_s ifX11 jfX11 [] [] rfl rfl dm_hT (by decide +kernel) (by decide +kernel)) soM (dm_MO_of (List.forall_mem_cons.mpr ⟨dm_M1_of (t_X11_lesser l D cA ad) dm_hT (dm_mem [1144, 77, 1142] (by decide +kernel) (by decide +kernel)) (by decide) (by decide +kernel) (Or.inl ⟨rfl, dm_mem (ws := [.static yX11_lesser]) [1143] (by decide +kernel) (by decide +kernel) _ List.mem_cons_self⟩), fun _ h => absurd h List.not_mem_nil⟩)) v_X11_lower u_X11_lower
