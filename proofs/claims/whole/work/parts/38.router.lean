/-! ===== Router: the search, in the cells ===== -/
def cvn : Option (Option Nat) → Int32
  | none => -2
  | some none => -1
  | some (some w) => nI w
def rq_ok (u : dm_S) (n : Nat) (vn : Nat → Option (Option Nat)) (car : Nat → Int) (q : Nat → Nat) (m : Nat) : Prop := (∀ v, v < 24 → u.1 33 v = cvn (vn v)) ∧ (∀ v, v < n → vn v ≠ none → u.2 34 v = lI (car v)) ∧ (∀ j, j < m → u.1 35 j = nI (q j)) ∧ u.1 4 6 = nI m
def rq_fr (u u' : dm_S) : Prop := (∀ c, c ≠ 33 → c ≠ 35 → c ≠ 4 → u'.1 c = u.1 c) ∧ (∀ k, k ≠ 6 → u'.1 4 k = u.1 4 k) ∧ ∀ c, c ≠ 34 → u'.2 c = u.2 c
theorem rq_fr0 (u : dm_S) : rq_fr u u := ⟨fun _ _ _ _ => rfl, fun _ _ => rfl, fun _ _ => rfl⟩
theorem rq_frt {u u' u'' : dm_S} (h : rq_fr u u') (h2 : rq_fr u' u'') : rq_fr u u'' := ⟨fun c a b d => (h2.1 c a b d).trans (h.1 c a b d), fun k a => (h2.2.1 k a).trans (h.2.1 k a), fun c a => (h2.2.2 c a).trans (h.2.2 c a)⟩
theorem rq_enq {u : dm_S} {n m v : Nat} {vn : Nat → Option (Option Nat)} {car : Nat → Int} {q : Nat → Nat} {x : Option Nat} {z : Int} (h : rq_ok u n vn car q m) (hn : n ≤ 24) (hv : v < n) (hm : m < 24) : rq_fr u (dm_ui (dm_ui (dm_ul (dm_ui u 33 v (cvn (some x))) 34 v (lI z)) 35 m (nI v)) 4 6 (nI m + 1)) ∧ rq_ok (dm_ui (dm_ui (dm_ul (dm_ui u 33 v (cvn (some x))) 34 v (lI z)) 35 m (nI v)) 4 6 (nI m + 1)) n (uF vn v (some x)) (uF car v z) (uF q m v) (m + 1) := by
  obtain ⟨h1, h2, h3, h4⟩ := h
  refine ⟨⟨fun c a b d => ?_, fun k a => ?_, fun c a => ?_⟩, fun w hw => ?_, fun w hw hs => ?_, fun j hj => ?_, ?_⟩
  · simp only [dm_ui_1, dm_ul_1, if_neg a, if_neg b, if_neg d]
  · simp only [dm_ui_1, dm_ul_1, upd]
    simp [a, upd]
  · simp only [dm_ui_2, dm_ul_2, if_neg a]
  · simp only [dm_ui_1, dm_ul_1, upd]
    by_cases e1 : w = v
    · simp [e1, uF_at, upd]
    · simp [e1, uF_ne e1, h1 w hw, upd]
  · simp only [dm_ui_2, dm_ul_2, vp_updL]
    by_cases e1 : w = v
    · simp [e1, uF_at, vp_updL]
    · rw [uF_ne e1] at hs
      simp [e1, uF_ne e1, h2 w hw hs, vp_updL]
  · simp only [dm_ui_1, dm_ul_1, upd]
    by_cases e1 : j = m
    · simp [e1, uF_at, upd]
    · simp [e1, uF_ne e1, h3 j (by omega), upd]
  · simp only [dm_ui_1, dm_ul_1, upd]
    simp [nI_1, upd]
def sp_X7_queueSources (As : List Value) (u : dm_S) (Q : Option Value → dm_S → Prop) : Prop := match As with
  | [.ref 4] => ∃ (n : Nat) (ex : Nat → Int), n ≤ 24 ∧ u.1 1 8 = nI n ∧ u.2 25 = lF ex ∧ (∀ v, v < n → lB (ex v)) ∧ ∀ (u' : dm_S) (vn : Nat → Option (Option Nat)) (lev : Nat → Nat) (car : Nat → Int) (q : Nat → Nat) (m : Nat), rq_fr u u' → rq_ok u' n vn car q m → (∀ (K : Nat) (b e : Nat → Nat) (op : Nat → Bool) (mm lo : Nat → Int), bfI n K b e op mm lo ex vn lev car q m) → (∀ j, j < m → lev (q j) = 0) → bfS n ex vn → (∀ v, n ≤ v → vn v = none) → Q none u'
  | _ => False
def p_X7_queueSources : List dm_I := [(0, .aload_n 0, 1, [0]), (1, .getfield 15, 3, []), (4, .bipush (-2), 2, []), (6, .invokestatic 119, 3, []), (9, .aload_n 0, 1, [0]), (10, .iconst 0, 1, []), (11, .putfield 113, 3, []), (14, .iconst 0, 1, []), (15, .istore_n 1, 1, [1]), (16, .iload_n 1, 1, [1]), (17, .aload_n 0, 1, [0]), (18, .getfield 26, 3, []), (21, .getfield 125, 3, []), (24, .if_icmp .ge 38, 3, [62]), (27, .aload_n 0, 1, [0]), (28, .getfield 30, 3, []), (31, .getfield 78, 3, []), (34, .iload_n 1, 1, [1]), (35, .laload, 1, []), (36, .lconst 0, 1, []), (37, .lcmp, 1, []), (38, .ifCond .le 18, 3, [56]), (41, .aload_n 0, 1, [0]), (42, .iload_n 1, 1, [1]), (43, .iconst (-1), 1, []), (44, .aload_n 0, 1, [0]), (45, .getfield 30, 3, []), (48, .getfield 78, 3, []), (51, .iload_n 1, 1, [1]), (52, .laload, 1, []), (53, .invokevirtual 128, 3, []), (56, .iinc 1 1, 3, []), (59, .goto (-43), 3, [16]), (62, .return_, 1, [])]
set_option maxRecDepth 100000 in
theorem v_X7_queueSources : p_X7_queueSources.all (dm_vb cX7_queueSources) = true := by decide +kernel
def k_X7_queueSources : dm_Sp := fun a => match a with
  | 0 => sp_J7_fill_53178
  | 1 => sp_X7_enqueue
  | _ => fun _ _ _ => False
def x_X7_queueSources : dm_X := dm_mk [(15, 7, 3), (26, 7, 0), (30, 7, 1), (78, 1, 7), (113, 7, 6), (125, 2, 8)] [] [] [(119, 0, 2, 1000), (128, 1, 3, 7)] 0
set_option maxRecDepth 100000 in
set_option maxHeartbeats 400000 in
theorem u_X7_queueSources : dm_Pure shC x_X7_queueSources k_X7_queueSources p_X7_queueSources 2 sp_X7_queueSources := by
  intro As u Qp h
  unfold sp_X7_queueSources at h
  split at h
  · obtain ⟨n, ex, hn, en, hex, hB, h⟩ := h
    refine ⟨Nat.le_of_ble_eq_true rfl, fun G Wp hW0 hW1 hG => ?_⟩
    have loop : ∀ k i : Nat, i + k = n → ∀ (u' : dm_S) (vn : Nat → Option (Option Nat)) (lev : Nat → Nat) (car : Nat → Int) (q : Nat → Nat) (m : Nat), rq_fr u u' → rq_ok u' n vn car q m → (∀ (K : Nat) (b e : Nat → Nat) (op : Nat → Bool) (mm lo : Nat → Int), bfI n K b e op mm lo ex vn lev car q m) → (∀ j, j < m → lev (q j) = 0) → (∀ v, v < i → 0 < ex v → vn v = some none) → (∀ v, i ≤ v → vn v = none) → G 16 [some (.ref 4), some (.int (nI i))] [] u' := by
      intro k
      induction k with
      | zero =>
        intro i hi u' vn lev car q m hf hr hb hz h1 h2
        have e1 := hf.1 1 (by decide) (by decide) (by decide)
        apply hG (fun pc => pc == 16) 40
        simp (config := { maxSteps := 2000000 }) [hW0, hW1, dm_fn, dm_fd, dm_x, dm_L0, dm_la, dm_t1, dm_sw, List.headD, dm_ic, dm_mk, dm_s1, dm_s2, dm_clr, dm_cs, dm_cc, dm_nb0, dm_nb1, Value.category, List.lookup, p_X7_queueSources, x_X7_queueSources, k_X7_queueSources, dm_cm, upd, vp_updL, dm_ui_1, dm_ui_2, dm_ul_1, dm_ul_2, sp_J7_fill_53178, sp_X7_enqueue, sC_0, sC_1, sC_2, sC_3, sC_4, sC_5, sC_6, sC_7, sC_8, sC_9, sC_10, sC_11, sC_12, sC_13, sC_14, sC_15, sC_16, sC_17, sC_18, sC_19, sC_20, sC_21, sC_22, sC_23, sC_24, sC_25, sC_26, sC_27, sC_28, sC_29, sC_30, sC_31, sC_32, sC_33, sC_34, sC_35, sC_36, sC_37, sC_38, sC_39, sC_40, sC_41, sC_42, sC_43, sC_44, sC_45, sC_46, sC_47, sC_48, sC_49, sC_50, sC_51]
        rw [e1, en]
        have e : i = n := by omega
        subst e
        exact ⟨fun _ => h u' vn lev car q m hf hr hb hz h1 h2, fun q => absurd q (nI_nlt (Nat.le_refl _) (by omega))⟩
      | succ k ih =>
        intro i hi u' vn lev car q m hf hr hb hz h1 h2
        have e1 := hf.1 1 (by decide) (by decide) (by decide)
        have e2 := hf.2.2 25 (by decide)
        have e3 := hr.2.2.2
        have ii : vp_in (nI i) 24 := vp_in_nI (by omega) (by omega)
        apply hG (fun pc => pc == 16) 40
        simp (config := { maxSteps := 2000000 }) [hW0, hW1, dm_fn, dm_fd, dm_x, dm_L0, dm_la, dm_t1, dm_sw, List.headD, dm_ic, dm_mk, dm_s1, dm_s2, dm_clr, dm_cs, dm_cc, dm_nb0, dm_nb1, Value.category, List.lookup, p_X7_queueSources, x_X7_queueSources, k_X7_queueSources, dm_cm, upd, vp_updL, dm_ui_1, dm_ui_2, dm_ul_1, dm_ul_2, sp_J7_fill_53178, sp_X7_enqueue, sC_0, sC_1, sC_2, sC_3, sC_4, sC_5, sC_6, sC_7, sC_8, sC_9, sC_10, sC_11, sC_12, sC_13, sC_14, sC_15, sC_16, sC_17, sC_18, sC_19, sC_20, sC_21, sC_22, sC_23, sC_24, sC_25, sC_26, sC_27, sC_28, sC_29, sC_30, sC_31, sC_32, sC_33, sC_34, sC_35, sC_36, sC_37, sC_38, sC_39, sC_40, sC_41, sC_42, sC_43, sC_44, sC_45, sC_46, sC_47, sC_48, sC_49, sC_50, sC_51]
        rw [e1, en, e2, hex, e3, nI_clamp (n := i) (by omega), lF_at, nI_1]
        have hB0 : lB 0 := by unfold lB; omega
        refine ⟨fun zq => absurd zq (nI_ge (by omega) (by omega)), fun zq => ⟨ii, fun y => ?_, fun y => ?_⟩⟩
        · have y2 : ¬ 0 < ex i := by
            have := (lI_le (hB i (by omega)) hB0).mp y
            omega
          exact ih (i + 1) (by omega) u' vn lev car _ m hf hr hb hz (fun v hv hp => by
            rcases Nat.lt_or_ge v i with z | z
            · exact h1 v z hp
            · rw [show v = i by omega] at hp; exact absurd hp y2) (fun v hv => h2 v (by omega))
        · have y2 : 0 < ex i := (lI_lt hB0 (hB i (by omega))).mp y
          have hadd := fun K b e op mm lo => bfI_add (x := none) (a := ex i) (L := 0) (hb K b e op mm lo) (show i < n by omega) (h2 i (Nat.le_refl _)) (fun j hj => by rw [hz j hj]; exact Nat.le_refl _) (Or.inl ⟨rfl, y2, rfl, rfl⟩)
          have hm := (hadd 0 (fun _ => 0) (fun _ => 0) (fun _ => false) (fun _ => 0) (fun _ => 0)).2
          obtain ⟨a1, a2⟩ := rq_enq (x := none) (z := ex i) hr hn (show i < n by omega) (by omega)
          refine ⟨ii, vp_in_nI (by omega) (by omega), ?_⟩
          rw [nI_clamp (by omega)]
          refine ih (i + 1) (by omega) _ _ _ _ _ _ (rq_frt hf a1) a2 (fun K b e op mm lo => (hadd K b e op mm lo).1) (fun j hj => ?_) (fun v hv hp => ?_) (fun v hv => ?_)
          · by_cases z : j = m
            · rw [z, uF_at, uF_at]
            · rw [uF_ne z]
              have hne : q j ≠ i := fun z2 => ((hb 0 (fun _ => 0) (fun _ => 0) (fun _ => false) (fun _ => 0) (fun _ => 0)).2.1 j (by omega)).2.1 (by rw [z2]; exact h2 i (Nat.le_refl _))
              rw [uF_ne hne]
              exact hz j (by omega)
          · by_cases z : v = i
            · rw [z, uF_at]
            · rw [uF_ne z]; exact h1 v (by omega) hp
          · rw [uF_ne (by omega)]; exact h2 v (by omega)
    apply hG (fun pc => pc == 16) 40
    simp (config := { maxSteps := 2000000 }) [hW0, hW1, dm_fn, dm_fd, dm_x, dm_L0, dm_la, dm_t1, dm_sw, List.headD, dm_ic, dm_mk, dm_s1, dm_s2, dm_clr, dm_cs, dm_cc, dm_nb0, dm_nb1, Value.category, List.lookup, p_X7_queueSources, x_X7_queueSources, k_X7_queueSources, dm_cm, upd, vp_updL, dm_ui_1, dm_ui_2, dm_ul_1, dm_ul_2, sp_J7_fill_53178, sp_X7_enqueue, sC_0, sC_1, sC_2, sC_3, sC_4, sC_5, sC_6, sC_7, sC_8, sC_9, sC_10, sC_11, sC_12, sC_13, sC_14, sC_15, sC_16, sC_17, sC_18, sC_19, sC_20, sC_21, sC_22, sC_23, sC_24, sC_25, sC_26, sC_27, sC_28, sC_29, sC_30, sC_31, sC_32, sC_33, sC_34, sC_35, sC_36, sC_37, sC_38, sC_39, sC_40, sC_41, sC_42, sC_43, sC_44, sC_45, sC_46, sC_47, sC_48, sC_49, sC_50, sC_51]
    refine ⟨24, by omega, rfl, ?_⟩
    refine loop n 0 (by omega) _ (fun _ => none) (fun _ => 0) (fun _ => 0) (fun _ => 0) 0 ?_ ?_ (fun K b e op mm lo => bfI_0) (fun j hj => by omega) (fun v hv => by omega) (fun _ _ => rfl)
    · refine ⟨fun c a b d => ?_, fun k a => ?_, fun c a => rfl⟩
      · simp only [dm_ui_1, if_neg d, dm_fi, if_neg a]
      · simp [dm_ui_1, dm_fi, upd, a]
    · refine ⟨fun v hv => ?_, fun v hv hs => absurd rfl hs, fun j hj => by omega, ?_⟩
      · simp [dm_ui_1, dm_fi, hv, cvn]
      · simp [dm_ui_1, upd]; rfl
  · exact h.elim
set_option maxRecDepth 100000 in
theorem t_X7_queueSources (l : Launch) (D : va_G) (cA : Nat → ClassId) (ad : Nat → Nat) : dm_Met l D dm_cl cA ad shC yX7_queueSources (Cond.code yX7_queueSources cX7_queueSources 2 (dm_rt 0) :: dm_tt) ({ frames := 1, cells := 0, slots := 0, locals := 24 } : Room) sp_X7_queueSources := dm_meth (own := RX7) (X := x_X7_queueSources) (Sp := k_X7_queueSources) (prog := p_X7_queueSources) (by decide +kernel) rfl rfl (dm_FO_s ffX7 [(15, 7, 3), (26, 7, 0), (30, 7, 1), (78, 1, 7), (113, 7, 6), (125, 2, 8)] rfl dm_hT (by decide +kernel)) (dm_IO_s ifX7 jfX7 [] [] rfl rfl dm_hT (by decide +kernel) (by decide +kernel)) soC (dm_MO_of (List.forall_mem_cons.mpr ⟨dm_M1_of (t_J7_fill_53178 l D cA ad) dm_hT (dm_mem [549, 78, 602] (by decide +kernel) (by decide +kernel)) (by decide) (by decide +kernel) (Or.inl ⟨rfl, dm_mem (ws := [.static yJ7_fill_53178]) [548] (by decide +kernel) (by decide +kernel) _ List.mem_cons_self⟩), List.forall_mem_cons.mpr ⟨dm_M1_of (t_X7_enqueue l D cA ad) dm_hT (dm_mem [606, 70, 603] (by decide +kernel) (by decide +kernel)) (by decide) (by decide +kernel) (Or.inr ⟨by decide, dm_mem [605, 7] (by decide +kernel) (by decide +kernel), rfl⟩), fun _ h => absurd h List.not_mem_nil⟩⟩)) v_X7_queueSources u_X7_queueSources
/-- loads lo in lanes of width mm, what is too much at the nodes: ex -/
def LA (u : dm_S) (n K : Nat) (b e : Nat → Nat) (mm lo ex : Nat → Int) : Prop := ln_ok u n K b e ∧ u.2 22 = lF mm ∧ u.2 24 = lF lo ∧ u.2 25 = lF ex
/-- numbers so small that no sum of theirs goes round -/
def LB (n K : Nat) (mm lo ex : Nat → Int) : Prop := fits K mm lo ∧ (∀ l, l < K → mm l ≤ 1152921504606846976) ∧ ∀ v, v < n → -1152921504606846976 ≤ ex v ∧ ex v ≤ 1152921504606846976
theorem LB_m {n K w : Nat} {mm lo ex : Nat → Int} (h : LB n K mm lo ex) (hw : w < 2 * K) : 0 ≤ wm mm lo w ∧ wm mm lo w ≤ 1152921504606846976 := by
  obtain ⟨h1, h2⟩ := h.1 (w / 2) (by omega)
  have h3 := h.2.1 (w / 2) (by omega)
  unfold wm
  split <;> omega
theorem LA_m {u : dm_S} {n K w : Nat} {b e : Nat → Nat} {mm lo ex : Nat → Int} (h : LA u n K b e mm lo ex) : lw_m u w = lI (wm mm lo w) := by
  obtain ⟨-, h2, h3, -⟩ := h
  unfold lw_m wm
  rw [h2, h3]
  split
  · rw [lF_at, lF_at, lI_sub]
  · rfl
def op_ok (u : dm_S) (K : Nat) (op : Nat → Bool) : Prop := ∀ l, l < K → u.1 32 l = if op l then 1 else 0
/-- the ways that begin at each node -/
def so_ok (u : dm_S) (n K : Nat) (b e hd sr : Nat → Nat) : Prop := (∀ v, v ≤ 24 → u.1 26 v = nI (hd v)) ∧ (∀ v, v < n → hd v ≤ hd (v + 1) ∧ hd (v + 1) ≤ 2 * K) ∧ (∀ v t, v < n → hd v ≤ t → t < hd (v + 1) → u.1 27 t = nI (sr t) ∧ sr t < 2 * K ∧ wb b e (sr t) = v) ∧ ∀ w, w < 2 * K → ∃ t, hd (wb b e w) ≤ t ∧ t < hd (wb b e w + 1) ∧ sr t = w
theorem LA_fr {u u' : dm_S} {n K : Nat} {b e : Nat → Nat} {mm lo ex : Nat → Int} (h : LA u n K b e mm lo ex) (hf : rq_fr u u') : LA u' n K b e mm lo ex := by
  obtain ⟨h1, h2, h3, h4⟩ := h
  obtain ⟨f1, f2, f3⟩ := hf
  refine ⟨⟨?_, fun l hl => ?_⟩, (f3 22 (by decide)).trans h2, (f3 24 (by decide)).trans h3, (f3 25 (by decide)).trans h4⟩
  · rw [f1 1 (by decide) (by decide) (by decide), f1 2 (by decide) (by decide) (by decide)]
    exact h1.1
  · rw [f1 20 (by decide) (by decide) (by decide), f1 21 (by decide) (by decide) (by decide)]
    exact h1.2 l hl
theorem cvn_ne {o : Option (Option Nat)} (h : ∀ w, o = some (some w) → w < 640) : cvn o = -2 ↔ o = none := by
  cases o with
  | none => simp [cvn]
  | some o =>
    cases o with
    | none => simp [cvn]
    | some w =>
      have := h w rfl
      simp only [cvn, reduceCtorEq, iff_false]
      intro z
      have h2 := nI_pos (n := w) (by omega)
      rw [z] at h2
      exact h2 (by decide)
theorem bfI_w {n K : Nat} {b e : Nat → Nat} {op : Nat → Bool} {mm lo ex : Nat → Int} {vn : Nat → Option (Option Nat)} {lev : Nat → Nat} {car : Nat → Int} {q : Nat → Nat} {m v w : Nat} (h : bfI n K b e op mm lo ex vn lev car q m) (hK : K ≤ 320) (hv : v < n) (hw : vn v = some (some w)) : w < 640 := by
  have := h.2.2.2.2.1 v hv
  unfold bfN at this
  rw [hw] at this
  have := this.1.1
  omega
def sp_X7_queueNeighbours (As : List Value) (u : dm_S) (Q : Option Value → dm_S → Prop) : Prop := match As with
  | [.ref 4, .int x] => ∃ (n K : Nat) (b e : Nat → Nat) (op : Nat → Bool) (mm lo ex : Nat → Int) (hd sr : Nat → Nat) (vn : Nat → Option (Option Nat)) (lev : Nat → Nat) (car : Nat → Int) (q : Nat → Nat) (m v : Nat), LA u n K b e mm lo ex ∧ LB n K mm lo ex ∧ so_ok u n K b e hd sr ∧ op_ok u K op ∧ rq_ok u n vn car q m ∧ bfI n K b e op mm lo ex vn lev car q m ∧ x = nI v ∧ v < n ∧ vn v ≠ none ∧ (∀ j, j < m → lev (q j) ≤ lev v + 1) ∧ (∀ y, n ≤ y → vn y = none) ∧ (∀ y, y < n → vn y ≠ none → lB (car y)) ∧
    ∀ (u' : dm_S) (vn' : Nat → Option (Option Nat)) (lev' : Nat → Nat) (car' : Nat → Int) (q' : Nat → Nat) (m' : Nat), rq_fr u u' → rq_ok u' n vn' car' q' m' → bfI n K b e op mm lo ex vn' lev' car' q' m' → (∀ j, j < m' → lev' (q' j) ≤ lev v + 1) → (∀ y, vn y ≠ none → vn' y = vn y ∧ lev' y = lev y) → (m ≤ m' ∧ ∀ j, j < m → q' j = q j) → (∀ y, n ≤ y → vn' y = none) → (∀ y, y < n → vn' y ≠ none → lB (car' y)) → (∀ w, w < 2 * K → op (w / 2) = true → 0 < wm mm lo w → wb b e w = v → vn' (we b e w) ≠ none ∧ lev' (we b e w) ≤ lev v + 1) → Q none u'
  | _ => False
def p_X7_queueNeighbours : List dm_I := [(0, .aload_n 0, 1, [0]), (1, .getfield 30, 3, []), (4, .getfield 132, 3, []), (7, .iload_n 1, 1, [1]), (8, .iaload, 1, []), (9, .istore_n 2, 1, [2]), (10, .iload_n 2, 1, [2]), (11, .aload_n 0, 1, [0]), (12, .getfield 30, 3, []), (15, .getfield 132, 3, []), (18, .iload_n 1, 1, [1]), (19, .iconst 1, 1, []), (20, .iadd, 1, []), (21, .iaload, 1, []), (22, .if_icmp .ge 91, 3, [113]), (25, .aload_n 0, 1, [0]), (26, .getfield 30, 3, []), (29, .getfield 135, 3, []), (32, .iload_n 2, 1, [2]), (33, .iaload, 1, []), (34, .istore_n 3, 1, [3]), (35, .aload_n 0, 1, [0]), (36, .getfield 30, 3, []), (39, .iload_n 3, 1, [3]), (40, .invokevirtual 138, 3, []), (43, .istore 4, 2, []), (45, .aload_n 0, 1, [0]), (46, .getfield 9, 3, []), (49, .iload_n 3, 1, [3]), (50, .iconst 1, 1, []), (51, .ishr, 1, []), (52, .baload, 1, []), (53, .ifCond .eq 14, 3, [67]), (56, .aload_n 0, 1, [0]), (57, .getfield 30, 3, []), (60, .iload_n 3, 1, [3]), (61, .invokevirtual 87, 3, []), (64, .goto 4, 3, [68]), (67, .lconst 0, 1, []), (68, .lstore 5, 2, []), (70, .lload 5, 2, []), (72, .lconst 0, 1, []), (73, .lcmp, 1, []), (74, .ifCond .le 33, 3, [107]), (77, .aload_n 0, 1, [0]), (78, .getfield 15, 3, []), (81, .iload 4, 2, []), (83, .iaload, 1, []), (84, .bipush (-2), 2, []), (86, .if_icmp .ne 21, 3, [107]), (89, .aload_n 0, 1, [0]), (90, .iload 4, 2, []), (92, .iload_n 3, 1, [3]), (93, .aload_n 0, 1, [0]), (94, .getfield 19, 3, []), (97, .iload_n 1, 1, [1]), (98, .laload, 1, []), (99, .lload 5, 2, []), (101, .invokestatic 91, 3, []), (104, .invokevirtual 128, 3, []), (107, .iinc 2 1, 3, []), (110, .goto (-100), 3, [10]), (113, .return_, 1, [])]
set_option maxRecDepth 100000 in
theorem v_X7_queueNeighbours : p_X7_queueNeighbours.all (dm_vb cX7_queueNeighbours) = true := by decide +kernel
def k_X7_queueNeighbours : dm_Sp := fun a => match a with
  | 0 => sp_X1_endOf
  | 1 => sp_X1_roomOf
  | 2 => sp_J9_min_f86c9
  | 3 => sp_X7_enqueue
  | _ => fun _ _ _ => False
def x_X7_queueNeighbours : dm_X := dm_mk [(9, 7, 2), (15, 7, 3), (19, 7, 4), (30, 7, 1), (132, 1, 8), (135, 1, 9)] [] [] [(138, 0, 1, 1), (87, 1, 1, 1), (91, 2, 2, 1000), (128, 3, 3, 7)] 0
set_option maxRecDepth 100000 in
set_option maxHeartbeats 800000 in
theorem u_X7_queueNeighbours : dm_Pure shC x_X7_queueNeighbours k_X7_queueNeighbours p_X7_queueNeighbours 7 sp_X7_queueNeighbours := by
  intro As u Qp h
  unfold sp_X7_queueNeighbours at h
  split at h
  · obtain ⟨n, K, b, e, op, mm, lo, ex, hd, sr, vn, lev, car, q, m, v, hA, hB, hS, hO, hr, hb, rfl, hv, hvs, hL, hN, hC, h⟩ := h
    obtain ⟨hn, hK, en, eK⟩ := hA.1.1
    obtain ⟨s1, s2, s3, s4⟩ := hS
    obtain ⟨s2a, s2b⟩ := s2 v hv
    refine ⟨Nat.le_of_ble_eq_true rfl, fun G Wp hW0 hW1 hG => ?_⟩
    have loop : ∀ k t : Nat, t + k = hd (v + 1) → hd v ≤ t → ∀ (u' : dm_S) (vn' : Nat → Option (Option Nat)) (lev' : Nat → Nat) (car' : Nat → Int) (q' : Nat → Nat) (m' : Nat) (o3 o4 o5 o6 : Option Value), rq_fr u u' → rq_ok u' n vn' car' q' m' → bfI n K b e op mm lo ex vn' lev' car' q' m' → (∀ j, j < m' → lev' (q' j) ≤ lev v + 1) → (∀ y, vn y ≠ none → vn' y = vn y ∧ lev' y = lev y) → (m ≤ m' ∧ ∀ j, j < m → q' j = q j) → (∀ y, n ≤ y → vn' y = none) → (∀ y, y < n → vn' y ≠ none → lB (car' y)) → (∀ t', hd v ≤ t' → t' < t → op (sr t' / 2) = true → 0 < wm mm lo (sr t') → vn' (we b e (sr t')) ≠ none ∧ lev' (we b e (sr t')) ≤ lev v + 1) → G 10 [some (.ref 4), some (.int (nI v)), some (.int (nI t)), o3, o4, o5, o6] [] u' := by
      intro k
      induction k with
      | zero =>
        intro t ht ht2 u' vn' lev' car' q' m' o3 o4 o5 o6 a1 a2 a3 a4 a5 a6 a7 a8 a9
        apply hG (fun pc => pc == 10) 60
        simp (config := { maxSteps := 2000000 }) [hW0, hW1, dm_fn, dm_fd, dm_x, dm_L0, dm_la, dm_t1, dm_sw, List.headD, dm_ic, dm_mk, dm_s1, dm_s2, dm_clr, dm_cs, dm_cc, dm_nb0, dm_nb1, Value.category, List.lookup, p_X7_queueNeighbours, x_X7_queueNeighbours, k_X7_queueNeighbours, dm_cm, upd, vp_updL, dm_ui_1, dm_ui_2, dm_ul_1, dm_ul_2, sp_X1_endOf, sp_X1_roomOf, sp_J9_min_f86c9, sp_X7_enqueue, sC_0, sC_1, sC_2, sC_3, sC_4, sC_5, sC_6, sC_7, sC_8, sC_9, sC_10, sC_11, sC_12, sC_13, sC_14, sC_15, sC_16, sC_17, sC_18, sC_19, sC_20, sC_21, sC_22, sC_23, sC_24, sC_25, sC_26, sC_27, sC_28, sC_29, sC_30, sC_31, sC_32, sC_33, sC_34, sC_35, sC_36, sC_37, sC_38, sC_39, sC_40, sC_41, sC_42, sC_43, sC_44, sC_45, sC_46, sC_47, sC_48, sC_49, sC_50, sC_51]
        have c1 : (nI (v + 1)).toNatClampNeg = v + 1 := nI_clamp (by omega)
        rw [a1.1 26 (by decide) (by decide) (by decide), nI_1, c1, s1 (v + 1) (by omega)]
        refine ⟨vp_in_nI (by omega) (by omega), fun _ => h u' vn' lev' car' q' m' a1 a2 a3 a4 a5 a6 a7 a8 (fun w hw ho hm hwb => ?_), fun zq => absurd zq (nI_nlt (by omega) (by omega))⟩
        obtain ⟨t', t1, t2, t3⟩ := s4 w hw
        rw [hwb] at t1 t2
        have := a9 t' t1 (by omega)
        rw [t3] at this
        exact this ho hm
      | succ k ih =>
        intro t ht ht2 u' vn' lev' car' q' m' o3 o4 o5 o6 a1 a2 a3 a4 a5 a6 a7 a8 a9
        obtain ⟨r1, r2, r3⟩ := s3 v t hv ht2 (by omega)
        have hA' := LA_fr hA a1
        apply hG (fun pc => pc == 10) 60
        simp (config := { maxSteps := 2000000 }) [hW0, hW1, dm_fn, dm_fd, dm_x, dm_L0, dm_la, dm_t1, dm_sw, List.headD, dm_ic, dm_mk, dm_s1, dm_s2, dm_clr, dm_cs, dm_cc, dm_nb0, dm_nb1, Value.category, List.lookup, p_X7_queueNeighbours, x_X7_queueNeighbours, k_X7_queueNeighbours, dm_cm, upd, vp_updL, dm_ui_1, dm_ui_2, dm_ul_1, dm_ul_2, sp_X1_endOf, sp_X1_roomOf, sp_J9_min_f86c9, sp_X7_enqueue, sC_0, sC_1, sC_2, sC_3, sC_4, sC_5, sC_6, sC_7, sC_8, sC_9, sC_10, sC_11, sC_12, sC_13, sC_14, sC_15, sC_16, sC_17, sC_18, sC_19, sC_20, sC_21, sC_22, sC_23, sC_24, sC_25, sC_26, sC_27, sC_28, sC_29, sC_30, sC_31, sC_32, sC_33, sC_34, sC_35, sC_36, sC_37, sC_38, sC_39, sC_40, sC_41, sC_42, sC_43, sC_44, sC_45, sC_46, sC_47, sC_48, sC_49, sC_50, sC_51]
        have c1 : (nI (v + 1)).toNatClampNeg = v + 1 := nI_clamp (by omega)
        have c2 : (nI t).toNatClampNeg = t := nI_clamp (by omega)
        have c3 : (nI v).toNatClampNeg = v := nI_clamp (by omega)
        rw [a1.1 26 (by decide) (by decide) (by decide), a1.1 27 (by decide) (by decide) (by decide), a1.1 32 (by decide) (by decide) (by decide), nI_1, nI_1, c1, c2, c3, s1 (v + 1) (by omega), r1, a2.2.2.2]
        have d1 : nI (sr t) >>> ((1 : Int32) &&& 31) = nI (sr t / 2) := dm_w2 (by omega)
        have d2 : (nI (sr t / 2)).toNatClampNeg = sr t / 2 := nI_clamp (by omega)
        rw [d1, d2, hO _ (by omega)]
        obtain ⟨e2, l2⟩ := ln_e hA'.1 r2
        have c4 : (nI (we b e (sr t))).toNatClampNeg = we b e (sr t) := nI_clamp (by omega)
        have ie : vp_in (nI (we b e (sr t))) 24 := vp_in_nI (by omega) (by omega)
        refine ⟨vp_in_nI (by omega) (by omega), fun zq => absurd zq (nI_ge (by omega) (by omega)), fun zq => ⟨vp_in_nI (by omega) (by omega), sr t, by omega, rfl, vp_in_nI (by omega) (by omega), fun y => ?_, fun y => ⟨sr t, by omega, rfl, ?_⟩⟩⟩
        · have y2 : ¬ op (sr t / 2) = true := fun z => by rw [if_pos z] at y; cases y
          refine ih (t + 1) (by omega) (by omega) u' vn' lev' car' q' m' _ _ _ _ a1 a2 a3 a4 a5 a6 a7 a8 (fun t' b1 b2 ho hm => ?_)
          rcases Nat.lt_or_ge t' t with z | z
          · exact a9 t' b1 z ho hm
          · rw [show t' = t by omega] at ho; exact absurd ho y2
        · have y2 : op (sr t / 2) = true := by
            cases z : op (sr t / 2)
            · rw [z] at y; exact absurd rfl y
            · rfl
          rw [LA_m hA', e2, c4, a2.1 _ (by omega)]
          obtain ⟨m1, m2⟩ := LB_m hB r2
          have hB0 : lB 0 := by unfold lB; omega
          have hBm : lB (wm mm lo (sr t)) := by unfold lB; omega
          have hq : ∀ w, vn' (we b e (sr t)) = some (some w) → w < 640 := fun w hw => bfI_w a3 hK l2 hw
          refine ⟨fun z => ?_, fun z => ⟨ie, fun z2 => ?_, fun z2 => ?_⟩⟩
          · have z1 : ¬ 0 < wm mm lo (sr t) := by have := (lI_le hBm hB0).mp z; omega
            refine ih (t + 1) (by omega) (by omega) u' vn' lev' car' q' m' _ _ _ _ a1 a2 a3 a4 a5 a6 a7 a8 (fun t' b1 b2 ho hm => ?_)
            rcases Nat.lt_or_ge t' t with x1 | x1
            · exact a9 t' b1 x1 ho hm
            · rw [show t' = t by omega] at hm; exact absurd hm z1
          · have z3 : vn' (we b e (sr t)) ≠ none := fun x1 => z2 ((cvn_ne hq).mpr x1)
            refine ih (t + 1) (by omega) (by omega) u' vn' lev' car' q' m' _ _ _ _ a1 a2 a3 a4 a5 a6 a7 a8 (fun t' b1 b2 ho hm => ?_)
            rcases Nat.lt_or_ge t' t with x1 | x1
            · exact a9 t' b1 x1 ho hm
            · rw [show t' = t by omega]
              obtain ⟨-, j, hj, ej⟩ := a3.2.2.1 _ l2 z3
              exact ⟨z3, by rw [← ej]; exact a4 j hj⟩
          · have z3 : vn' (we b e (sr t)) = none := (cvn_ne hq).mp z2
            have z4 : 0 < wm mm lo (sr t) := (lI_lt hB0 hBm).mp z
            obtain ⟨g1, g2⟩ := a5 v hvs
            have g3 : vn' v ≠ none := by rw [g1]; exact hvs
            have hbv := a8 v hv g3
            rw [a2.2.1 v hv g3, lI_min hbv hBm]
            obtain ⟨p1, p2⟩ := bfI_add (x := some (sr t)) (L := lev v + 1) (a := mn2 (car' v) (wm mm lo (sr t))) a3 l2 z3 a4 (Or.inr ⟨sr t, rfl, ⟨r2, rfl, by rw [r3]; exact hv⟩, by rw [r3]; exact g3, by rw [r3, g2], ⟨y2, z4⟩, by rw [r3]⟩)
            obtain ⟨f1, f2⟩ := rq_enq (x := some (sr t)) (z := mn2 (car' v) (wm mm lo (sr t))) a2 hn l2 (by omega)
            refine ⟨vp_in_nI (by omega) (by omega), ie, vp_in_nI (by omega) (by omega), ?_⟩
            rw [nI_clamp (by omega)]
            have hne : ∀ y, vn' y ≠ none → y ≠ we b e (sr t) := fun y hy x1 => hy (by rw [x1]; exact z3)
            refine ih (t + 1) (by omega) (by omega) _ _ _ _ _ _ _ _ _ _ (rq_frt a1 f1) f2 p1 (fun j hj => ?_) (fun y hy => ?_) ⟨by omega, fun j hj => ?_⟩ (fun y hy => ?_) (fun y hy hs => ?_) (fun t' b1 b2 ho hm => ?_)
            · by_cases x1 : j = m'
              · rw [x1, uF_at, uF_at]; exact Nat.le_refl _
              · rw [uF_ne x1, uF_ne (hne _ (a3.2.1 j (by omega)).2.1)]
                exact a4 j (by omega)
            · have x1 := a5 y hy
              have x2 : y ≠ we b e (sr t) := hne y (by rw [x1.1]; exact hy)
              rw [uF_ne x2, uF_ne x2]; exact x1
            · rw [uF_ne (by omega)]; exact a6.2 j hj
            · rw [uF_ne (by omega)]; exact a7 y hy
            · by_cases x1 : y = we b e (sr t)
              · rw [x1, uF_at]
                rcases (mn2_le (a := car' v) (b := wm mm lo (sr t))).2.2 with x2 | x2
                · rw [x2]; exact hbv
                · rw [x2]; exact hBm
              · rw [uF_ne x1] at hs
                rw [uF_ne x1]; exact a8 y hy hs
            · by_cases x1 : we b e (sr t') = we b e (sr t)
              · rw [x1, uF_at, uF_at]; exact ⟨by simp, Nat.le_refl _⟩
              · rw [uF_ne x1, uF_ne x1]
                rcases Nat.lt_or_ge t' t with x2 | x2
                · exact a9 t' b1 x2 ho hm
                · exact absurd (by rw [show t' = t by omega]) x1
    apply hG (fun pc => pc == 10) 60
    simp (config := { maxSteps := 2000000 }) [hW0, hW1, dm_fn, dm_fd, dm_x, dm_L0, dm_la, dm_t1, dm_sw, List.headD, dm_ic, dm_mk, dm_s1, dm_s2, dm_clr, dm_cs, dm_cc, dm_nb0, dm_nb1, Value.category, List.lookup, p_X7_queueNeighbours, x_X7_queueNeighbours, k_X7_queueNeighbours, dm_cm, upd, vp_updL, dm_ui_1, dm_ui_2, dm_ul_1, dm_ul_2, sp_X1_endOf, sp_X1_roomOf, sp_J9_min_f86c9, sp_X7_enqueue, sC_0, sC_1, sC_2, sC_3, sC_4, sC_5, sC_6, sC_7, sC_8, sC_9, sC_10, sC_11, sC_12, sC_13, sC_14, sC_15, sC_16, sC_17, sC_18, sC_19, sC_20, sC_21, sC_22, sC_23, sC_24, sC_25, sC_26, sC_27, sC_28, sC_29, sC_30, sC_31, sC_32, sC_33, sC_34, sC_35, sC_36, sC_37, sC_38, sC_39, sC_40, sC_41, sC_42, sC_43, sC_44, sC_45, sC_46, sC_47, sC_48, sC_49, sC_50, sC_51]
    rw [nI_clamp (by omega), s1 v (by omega)]
    exact ⟨vp_in_nI (by omega) (by omega), loop (hd (v + 1) - hd v) (hd v) (by omega) (Nat.le_refl _) u vn lev car q m _ _ _ _ (rq_fr0 u) hr hb hL (fun _ _ => ⟨rfl, rfl⟩) ⟨Nat.le_refl _, fun _ _ => rfl⟩ hN hC (fun t' _ _ => by omega)⟩
  · exact h.elim
set_option maxRecDepth 100000 in
theorem t_X7_queueNeighbours (l : Launch) (D : va_G) (cA : Nat → ClassId) (ad : Nat → Nat) : dm_Met l D dm_cl cA ad shC yX7_queueNeighbours (Cond.code yX7_queueNeighbours cX7_queueNeighbours 7 (dm_rt 0) :: dm_tt) ({ frames := 1, cells := 0, slots := 0, locals := 24 } : Room) sp_X7_queueNeighbours := dm_meth (own := RX7) (X := x_X7_queueNeighbours) (Sp := k_X7_queueNeighbours) (prog := p_X7_queueNeighbours) (by decide +kernel) rfl rfl (dm_FO_s ffX7 [(9, 7, 2), (15, 7, 3), (19, 7, 4), (30, 7, 1), (132, 1, 8), (135, 1, 9)] rfl dm_hT (by decide +kernel)) (dm_IO_s ifX7 jfX7 [] [] rfl rfl dm_hT (by decide +kernel) (by decide +kernel)) soC (dm_MO_of (List.forall_mem_cons.mpr ⟨dm_M1_of (t_X1_endOf l D cA ad) dm_hT (dm_mem [614, 68, 611] (by decide +kernel) (by decide +kernel)) (by decide) (by decide +kernel) (Or.inr ⟨by decide, dm_mem [612, 613] (by decide +kernel) (by decide +kernel), rfl⟩), List.forall_mem_cons.mpr ⟨dm_M1_of (t_X1_roomOf l D cA ad) dm_hT (dm_mem [618, 68, 615] (by decide +kernel) (by decide +kernel)) (by decide) (by decide +kernel) (Or.inr ⟨by decide, dm_mem [616, 617] (by decide +kernel) (by decide +kernel), rfl⟩), List.forall_mem_cons.mpr ⟨dm_M1_of (t_J9_min_f86c9 l D cA ad) dm_hT (dm_mem [621, 79, 619] (by decide +kernel) (by decide +kernel)) (by decide) (by decide +kernel) (Or.inl ⟨rfl, dm_mem (ws := [.static yJ9_min_f86c9]) [620] (by decide +kernel) (by decide +kernel) _ List.mem_cons_self⟩), List.forall_mem_cons.mpr ⟨dm_M1_of (t_X7_enqueue l D cA ad) dm_hT (dm_mem [606, 70, 603] (by decide +kernel) (by decide +kernel)) (by decide) (by decide +kernel) (Or.inr ⟨by decide, dm_mem [605, 7] (by decide +kernel) (by decide +kernel), rfl⟩), fun _ h => absurd h List.not_mem_nil⟩⟩⟩⟩)) v_X7_queueNeighbours u_X7_queueNeighbours
