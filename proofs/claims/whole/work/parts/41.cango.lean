/-! ===== Router.sendWhatCanGo ===== -/
def sw_fr (u u' : dm_S) : Prop := (∀ c, c ≠ 33 → c ≠ 35 → c ≠ 4 → u'.1 c = u.1 c) ∧ (∀ k, k ≠ 6 → u'.1 4 k = u.1 4 k) ∧ ∀ c, c ≠ 34 → c ≠ 24 → c ≠ 25 → u'.2 c = u.2 c
theorem sw_fr0 (u : dm_S) : sw_fr u u := ⟨fun _ _ _ _ => rfl, fun _ _ => rfl, fun _ _ _ _ => rfl⟩
theorem sw_frt {u u' u'' : dm_S} (h : sw_fr u u') (h2 : sw_fr u' u'') : sw_fr u u'' := ⟨fun c a b d => (h2.1 c a b d).trans (h.1 c a b d), fun k a => (h2.2.1 k a).trans (h.2.1 k a), fun c a b d => (h2.2.2 c a b d).trans (h.2.2 c a b d)⟩
theorem sw_frq {u u' : dm_S} (h : rq_fr u u') : sw_fr u u' := ⟨h.1, h.2.1, fun c a _ _ => h.2.2 c a⟩
theorem sw_frx {u : dm_S} {x ex : Nat → Int} : sw_fr u (st_x u x ex) := ⟨fun _ _ _ _ => rfl, fun _ _ => rfl, fun _ _ a b => st_xo a b⟩
theorem LA_sw {u u' : dm_S} {n K : Nat} {b e : Nat → Nat} {mm lo ex lo' ex' : Nat → Int} (h : LA u n K b e mm lo ex) (hf : sw_fr u u') (h1 : u'.2 24 = lF lo') (h2 : u'.2 25 = lF ex') : LA u' n K b e mm lo' ex' := by
  obtain ⟨g1, g2, g3, g4⟩ := h
  obtain ⟨f1, f2, f3⟩ := hf
  refine ⟨⟨?_, fun l hl => ?_⟩, (f3 22 (by decide) (by decide) (by decide)).trans g2, h1, h2⟩
  · rw [f1 1 (by decide) (by decide) (by decide), f1 2 (by decide) (by decide) (by decide)]
    exact g1.1
  · rw [f1 20 (by decide) (by decide) (by decide), f1 21 (by decide) (by decide) (by decide)]
    exact g1.2 l hl
theorem so_sw {u u' : dm_S} {n K : Nat} {b e hd sr : Nat → Nat} (h : so_ok u n K b e hd sr) (hf : sw_fr u u') : so_ok u' n K b e hd sr := by
  obtain ⟨h1, h2, h3, h4⟩ := h
  refine ⟨fun v hv => ?_, h2, fun v t a b c => ?_, h4⟩
  · rw [hf.1 26 (by decide) (by decide) (by decide)]; exact h1 v hv
  · rw [hf.1 27 (by decide) (by decide) (by decide)]; exact h3 v t a b c
theorem op_sw {u u' : dm_S} {K : Nat} {op : Nat → Bool} (h : op_ok u K op) (hf : sw_fr u u') : op_ok u' K op := fun l hl => by
  rw [hf.1 32 (by decide) (by decide) (by decide)]; exact h l hl
/-- what is too much, all together -/
def pe (n : Nat) (ex : Nat → Int) : Int := sI (fun v => if 0 ≤ ex v then ex v else 0) n
/-- what sending along open lanes keeps: loads lo', excess ex' out of lo, ex -/
def snt (n K : Nat) (b e : Nat → Nat) (op : Nat → Bool) (mm lo ex lo' ex' : Nat → Int) : Prop :=
  fits K mm lo' ∧ (∀ v, v < n → ex' v + dv K b e lo' v = ex v + dv K b e lo v) ∧ (∀ l, l < K → op l = false → lo' l = lo l) ∧ (∀ v, v < n → (0 ≤ ex v → 0 ≤ ex' v ∧ ex' v ≤ ex v) ∧ (ex v ≤ 0 → ex' v ≤ 0 ∧ ex v ≤ ex' v)) ∧ ∀ l, l < K → lo' l + pe n ex' ≤ lo l + pe n ex
theorem snt_0 {n K : Nat} {b e : Nat → Nat} {op : Nat → Bool} {mm lo ex : Nat → Int} (h : fits K mm lo) : snt n K b e op mm lo ex lo ex := ⟨h, fun _ _ => rfl, fun _ _ _ => rfl, fun _ _ => ⟨fun z => ⟨z, Int.le_refl _⟩, fun z => ⟨z, Int.le_refl _⟩⟩, fun _ _ => Int.le_refl _⟩
theorem snt_t {n K : Nat} {b e : Nat → Nat} {op : Nat → Bool} {mm lo ex lo' ex' lo2 ex2 : Nat → Int} (h : snt n K b e op mm lo ex lo' ex') (h2 : snt n K b e op mm lo' ex' lo2 ex2) : snt n K b e op mm lo ex lo2 ex2 := by
  obtain ⟨a1, a2, a3, a4, a5⟩ := h
  obtain ⟨b1, b2, b3, b4, b5⟩ := h2
  refine ⟨b1, fun v hv => (b2 v hv).trans (a2 v hv), fun l hl ho => (b3 l hl ho).trans (a3 l hl ho), fun v hv => ⟨fun z => ?_, fun z => ?_⟩, fun l hl => Int.le_trans (b5 l hl) (a5 l hl)⟩
  · obtain ⟨c1, c2⟩ := (a4 v hv).1 z
    obtain ⟨d1, d2⟩ := (b4 v hv).1 c1
    exact ⟨d1, by omega⟩
  · obtain ⟨c1, c2⟩ := (a4 v hv).2 z
    obtain ⟨d1, d2⟩ := (b4 v hv).2 c1
    exact ⟨d1, by omega⟩
theorem snt_one {n K : Nat} {b e : Nat → Nat} {op : Nat → Bool} {mm lo ex : Nat → Int} {vn : Nat → Option (Option Nat)} {lev : Nat → Nat} {car : Nat → Int} {q : Nat → Nat} {m v : Nat} (h : bfI n K b e op mm lo ex vn lev car q m) (hl : fits K mm lo) (hv : v < n) (hs : vn v ≠ none) (hne : ex v < 0) (hln : lev v ≤ n) {a : Int} (ha : a = mn2 (car v) (-ex v)) : snt n K b e op mm lo ex (snd b e (bvi vn) n v a lo) (sdE b e (bvi vn) n v a ex) := by
  have ht := bfI_tre h
  obtain ⟨r1, r2, r3, r4⟩ := bfI_rot h hv hs hln
  have hcar := (h.2.2.1 v hv hs).1
  have ha0 : 0 < a := by
    rcases (mn2_le (a := car v) (b := -ex v)).2.2 with y | y
    · rw [ha, y]; exact hcar
    · rw [ha, y]; omega
  have ha1 : a ≤ car v := by rw [ha]; exact mn2_le.1
  have ha2 : a ≤ -ex v := by rw [ha]; exact mn2_le.2.1
  have hrv : rot b e (bvi vn) n v ≠ v := fun z => by rw [z] at r2; omega
  have hE : ∀ j, sdE b e (bvi vn) n v a ex j = ex j + (if v = j then a else 0) - (if rot b e (bvi vn) n v = j then a else 0) := fun j => rfl
  have hpe : pe n (sdE b e (bvi vn) n v a ex) = pe n ex - a := by
    have e1 : sI (fun j => if 0 ≤ sdE b e (bvi vn) n v a ex j then sdE b e (bvi vn) n v a ex j else 0) n = sI (fun j => (if 0 ≤ ex j then ex j else 0) - (if j = rot b e (bvi vn) n v then a else 0)) n := sI_cg (fun j _ => by
      show (if 0 ≤ sdE b e (bvi vn) n v a ex j then sdE b e (bvi vn) n v a ex j else 0) = (if 0 ≤ ex j then ex j else 0) - (if j = rot b e (bvi vn) n v then a else 0)
      rw [hE]
      by_cases z1 : v = j
      · subst z1
        rw [if_pos rfl, if_neg hrv, if_neg (Ne.symm hrv)]
        by_cases z2 : 0 ≤ ex v + a - 0
        · rw [if_pos z2, if_neg (by omega)]; omega
        · rw [if_neg z2, if_neg (by omega)]; omega
      · rw [if_neg z1]
        by_cases z2 : rot b e (bvi vn) n v = j
        · subst z2
          rw [if_pos rfl, if_pos (show 0 ≤ ex (rot b e (bvi vn) n v) + 0 - a by omega), if_pos (show 0 ≤ ex (rot b e (bvi vn) n v) by omega)]; omega
        · rw [if_neg z2, if_neg (Ne.symm z2)]
          by_cases z3 : 0 ≤ ex j
          · rw [if_pos z3, if_pos (by omega)]; omega
          · rw [if_neg z3, if_neg (by omega)]; omega)
    unfold pe
    rw [e1, sI_sub, sI_one, if_pos r1]
  refine ⟨snd_fits ht (bfI_car h) hl hv hln (Int.le_of_lt ha0) ha1, fun j hj => ?_, fun l hl ho => ?_, fun j hj => ?_, fun l hl => ?_⟩
  · rw [snd_dv ht hv hln, hE]
    split <;> split <;> omega
  · unfold snd
    rcases pth_lane2 ht (l := l) n v hv hln with y | ⟨u, w, y1, y2, y3, y4⟩
    · rw [y, Int.mul_zero, Int.add_zero]
    · have := (bfI_via h (bfI_on h hv hs y1).1 y2).2.2.2.1.1
      rw [y3, ho] at this
      cases this
  · rw [hE]
    by_cases z1 : v = j
    · subst z1
      rw [if_pos rfl, if_neg hrv]
      exact ⟨fun z => by omega, fun z => by omega⟩
    · rw [if_neg z1]
      by_cases z2 : rot b e (bvi vn) n v = j
      · subst z2
        rw [if_pos rfl]
        exact ⟨fun z => by omega, fun z => by omega⟩
      · rw [if_neg z2]
        exact ⟨fun z => by omega, fun z => by omega⟩
  · rw [hpe]
    unfold snd
    rcases pth_lane2 ht (l := l) n v hv hln with y | ⟨u, w, y1, y2, y3, y4⟩
    · rw [y, Int.mul_zero]; omega
    · rw [y4]
      unfold sg
      split <;> omega
theorem snt_LB {n K : Nat} {b e : Nat → Nat} {op : Nat → Bool} {mm lo ex lo' ex' : Nat → Int} (h : LB n K mm lo ex) (hs : snt n K b e op mm lo ex lo' ex') : LB n K mm lo' ex' := by
  obtain ⟨h1, h2, h3⟩ := h
  refine ⟨hs.1, h2, fun v hv => ?_⟩
  have h4 := h3 v hv
  have h5 := hs.2.2.2.1 v hv
  rcases Int.le_total 0 (ex v) with y | y
  · have := h5.1 y; omega
  · have := h5.2 y; omega
theorem ln_nd {u : dm_S} {n K : Nat} {b e : Nat → Nat} (h : ln_ok u n K b e) : nd n K b e := fun l hl => ⟨(h.2 l hl).1.2, (h.2 l hl).2.2⟩
theorem vi_bvi {u : dm_S} {n : Nat} {vn : Nat → Option (Option Nat)} {car : Nat → Int} {q : Nat → Nat} {m : Nat} (hn : n ≤ 24) (h : rq_ok u n vn car q m) : vi_ok u 33 n (bvi vn) := by
  intro v hv
  have h1 := h.1 v (by omega)
  unfold bvi
  cases hq : vn v with
  | none => rw [hq] at h1; show u.1 33 v < 0; rw [h1]; decide
  | some o =>
    cases o with
    | none => rw [hq] at h1; show u.1 33 v < 0; rw [h1]; decide
    | some w => rw [hq] at h1; exact h1
def sp_X7_sendWhatCanGo (As : List Value) (u : dm_S) (Q : Option Value → dm_S → Prop) : Prop := match As with
  | [.ref 4] => ∃ (n K : Nat) (b e : Nat → Nat) (op : Nat → Bool) (mm lo ex : Nat → Int) (hd sr : Nat → Nat), LA u n K b e mm lo ex ∧ LB n K mm lo ex ∧ so_ok u n K b e hd sr ∧ op_ok u K op ∧
    ∀ (u' : dm_S) (lo' ex' : Nat → Int) (vn : Nat → Option (Option Nat)) (lev : Nat → Nat) (car : Nat → Int) (q : Nat → Nat) (m : Nat), sw_fr u u' → LA u' n K b e mm lo' ex' → snt n K b e op mm lo ex lo' ex' → rq_ok u' n vn car q m → bfI n K b e op mm lo' ex' vn lev car q m → bfX K b e op mm lo' ex' vn lev q m → bfS n ex' vn → Q none u'
  | _ => False
def p_X7_sendWhatCanGo : List dm_I := [(0, .iconst 0, 1, []), (1, .istore_n 1, 1, [1]), (2, .iload_n 1, 1, [1]), (3, .ldc 101, 2, []), (5, .if_icmp .ge 51, 3, [56]), (8, .aload_n 0, 1, [0]), (9, .invokevirtual 102, 3, []), (12, .istore_n 2, 1, [2]), (13, .iload_n 2, 1, [2]), (14, .iconst (-1), 1, []), (15, .if_icmp .ne 4, 3, [19]), (18, .return_, 1, []), (19, .aload_n 0, 1, [0]), (20, .getfield 30, 3, []), (23, .iload_n 2, 1, [2]), (24, .aload_n 0, 1, [0]), (25, .getfield 15, 3, []), (28, .aload_n 0, 1, [0]), (29, .getfield 19, 3, []), (32, .iload_n 2, 1, [2]), (33, .laload, 1, []), (34, .aload_n 0, 1, [0]), (35, .getfield 30, 3, []), (38, .getfield 78, 3, []), (41, .iload_n 2, 1, [2]), (42, .laload, 1, []), (43, .lneg, 1, []), (44, .invokestatic 91, 3, []), (47, .invokevirtual 106, 3, []), (50, .iinc 1 1, 3, []), (53, .goto (-51), 3, [2]), (56, .return_, 1, [])]
set_option maxRecDepth 100000 in
theorem v_X7_sendWhatCanGo : p_X7_sendWhatCanGo.all (dm_vb cX7_sendWhatCanGo) = true := by decide +kernel
def k_X7_sendWhatCanGo : dm_Sp := fun a => match a with
  | 0 => sp_X7_nearestInNeed
  | 1 => sp_J9_min_f86c9
  | 2 => sp_X1_sendTo
  | _ => fun _ _ _ => False
def x_X7_sendWhatCanGo : dm_X := dm_mk [(15, 7, 3), (19, 7, 4), (30, 7, 1), (78, 1, 7)] [(101, 1000000)] [] [(102, 0, 0, 7), (91, 1, 2, 1000), (106, 2, 3, 1)] 0
set_option maxRecDepth 100000 in
set_option maxHeartbeats 800000 in
theorem u_X7_sendWhatCanGo : dm_Pure shC x_X7_sendWhatCanGo k_X7_sendWhatCanGo p_X7_sendWhatCanGo 3 sp_X7_sendWhatCanGo := by
  intro As u Qp h
  unfold sp_X7_sendWhatCanGo at h
  split at h
  · obtain ⟨n, K, b, e, op, mm, lo, ex, hd, sr, hA, hB, hS, hO, h⟩ := h
    obtain ⟨hn, hK, en, eK⟩ := hA.1.1
    have hnd := ln_nd hA.1
    refine ⟨Nat.le_of_ble_eq_true rfl, fun G Wp hW0 hW1 hG => ?_⟩
    have loop : ∀ k t : Nat, t + k ≤ 50000 → ∀ (u' : dm_S) (lo' ex' : Nat → Int) (d : Nat → Nat) (D : Nat) (o2 : Option Value), sw_fr u u' → LA u' n K b e mm lo' ex' → snt n K b e op mm lo ex lo' ex' → ekI n K b e op mm lo' ex' d D → ekM n K b e op mm lo' ex' d D < k → G 2 [some (.ref 4), some (.int (nI t)), o2] [] u' := by
      intro k
      induction k with
      | zero => intro t ht u' lo' ex' d D o2 a1 a2 a3 a4 a5; omega
      | succ k ih =>
        intro t ht u' lo' ex' d D o2 a1 a2 a3 a4 a5
        have hB' := snt_LB hB a3
        apply hG (fun pc => pc == 2) 40
        simp (config := { maxSteps := 2000000 }) [-Prod.forall, -Prod.exists, -exists_and_left, -exists_and_right, hW0, hW1, dm_fn, dm_fd, dm_x, dm_L0, dm_la, dm_t1, dm_sw, List.headD, dm_ic, dm_mk, dm_s1, dm_s2, dm_clr, dm_cs, dm_cc, dm_nb0, dm_nb1, Value.category, List.lookup, p_X7_sendWhatCanGo, x_X7_sendWhatCanGo, k_X7_sendWhatCanGo, dm_cm, upd, vp_updL, dm_ui_1, dm_ui_2, dm_ul_1, dm_ul_2, sp_X7_nearestInNeed, sp_J9_min_f86c9, sp_X1_sendTo, sC_0, sC_1, sC_2, sC_3, sC_4, sC_5, sC_6, sC_7, sC_8, sC_9, sC_10, sC_11, sC_12, sC_13, sC_14, sC_15, sC_16, sC_17, sC_18, sC_19, sC_20, sC_21, sC_22, sC_23, sC_24, sC_25, sC_26, sC_27, sC_28, sC_29, sC_30, sC_31, sC_32, sC_33, sC_34, sC_35, sC_36, sC_37, sC_38, sC_39, sC_40, sC_41, sC_42, sC_43, sC_44, sC_45, sC_46, sC_47, sC_48, sC_49, sC_50, sC_51]
        refine ⟨fun zq => ?_, fun zq => ⟨n, K, b, e, op, mm, lo', ex', hd, sr, a2, hB', so_sw hS a1, op_sw hO a1, ?_, ?_⟩⟩
        · exact absurd zq (nI_ge (a := t) (b := 1000000) (by omega) (by omega))
        · intro u2 vn lev car q m i b1 b2 b3 b4 b5 b6 hi hne
          obtain ⟨q1, q2, q3⟩ := b3.2.1 i hi
          have hm : m ≤ n := by rw [b3.1]; exact cN_le
          have hA2 := LA_fr a2 b1
          have c1 : (nI (q i)).toNatClampNeg = q i := nI_clamp (by omega)
          rw [c1, b2.2.1 _ q1 q2, hA2.2.2.2, lF_at, lI_neg, nI_1]
          have l1 : lB (-ex' (q i)) := by have := hB'.2.2 _ q1; unfold lB; omega
          rw [lI_min (b6 _ q1 q2) l1]
          refine ⟨fun _ => ⟨vp_in_nI (by omega) (by omega), n, K, b, e, bvi vn, lev, lo', ex', q i, mn2 (car (q i)) (-ex' (q i)), hA2.1, ?_⟩, fun z => ?_⟩
          · refine ⟨vi_bvi hn b2, bfI_tre b3, by omega, q1, rfl, rfl, hA2.2.2.1, rfl, ?_⟩
            obtain ⟨d', D', g1, g2⟩ := ek_step hn hK hnd b3 b4 b5 hi hne a4 (a := mn2 (car (q i)) (-ex' (q i))) rfl (ex' := sdE b e (bvi vn) n (q i) (mn2 (car (q i)) (-ex' (q i))) ex') (fun _ => rfl)
            have f1 := sw_frt (sw_frt a1 (sw_frq b1)) (sw_frx (u := u2) (x := snd b e (bvi vn) n (q i) (mn2 (car (q i)) (-ex' (q i))) lo') (ex := sdE b e (bvi vn) n (q i) (mn2 (car (q i)) (-ex' (q i))) ex'))
            exact ih (t + 1) (by omega) _ _ _ d' D' _ f1 (LA_sw hA f1 st_x24 st_x25) (snt_t a3 (snt_one b3 hB'.1 q1 q2 hne (by omega) rfl)) g1 (by omega)
          · exact absurd (z ▸ nI_pos (n := q i) (by omega)) (by decide)
        · intro u2 vn lev car q m b1 b2 b3 b4 b5
          exact h u2 lo' ex' vn lev car q m (sw_frt a1 (sw_frq b1)) (LA_fr a2 b1) a3 b2 b3 b4 b5
    apply hG (fun pc => pc == 2) 40
    simp (config := { maxSteps := 2000000 }) [-Prod.forall, -Prod.exists, -exists_and_left, -exists_and_right, hW0, hW1, dm_fn, dm_fd, dm_x, dm_L0, dm_la, dm_t1, dm_sw, List.headD, dm_ic, dm_mk, dm_s1, dm_s2, dm_clr, dm_cs, dm_cc, dm_nb0, dm_nb1, Value.category, List.lookup, p_X7_sendWhatCanGo, x_X7_sendWhatCanGo, k_X7_sendWhatCanGo, dm_cm, upd, vp_updL, dm_ui_1, dm_ui_2, dm_ul_1, dm_ul_2, sp_X7_nearestInNeed, sp_J9_min_f86c9, sp_X1_sendTo, sC_0, sC_1, sC_2, sC_3, sC_4, sC_5, sC_6, sC_7, sC_8, sC_9, sC_10, sC_11, sC_12, sC_13, sC_14, sC_15, sC_16, sC_17, sC_18, sC_19, sC_20, sC_21, sC_22, sC_23, sC_24, sC_25, sC_26, sC_27, sC_28, sC_29, sC_30, sC_31, sC_32, sC_33, sC_34, sC_35, sC_36, sC_37, sC_38, sC_39, sC_40, sC_41, sC_42, sC_43, sC_44, sC_45, sC_46, sC_47, sC_48, sC_49, sC_50, sC_51]
    refine loop 20000 0 (by omega) u lo ex (fun _ => 0) 0 _ (sw_fr0 u) hA (snt_0 hB.1) ⟨fun _ _ _ _ => Nat.zero_le _, fun _ _ _ => rfl, fun _ _ _ => Nat.le_refl _⟩ ?_
    have := ekC_le (n := n) (K := K) (b := b) (e := e) (op := op) (mm := mm) (lo := lo) (ex := ex) (d := fun _ => 0) hn hK
    unfold ekM
    omega
  · exact h.elim
set_option maxRecDepth 100000 in
theorem t_X7_sendWhatCanGo (l : Launch) (D : va_G) (cA : Nat → ClassId) (ad : Nat → Nat) : dm_Met l D dm_cl cA ad shC yX7_sendWhatCanGo (Cond.code yX7_sendWhatCanGo cX7_sendWhatCanGo 3 (dm_rt 0) :: dm_tt) ({ frames := 3, cells := 0, slots := 0, locals := 72 } : Room) sp_X7_sendWhatCanGo := dm_meth (own := RX7) (X := x_X7_sendWhatCanGo) (Sp := k_X7_sendWhatCanGo) (prog := p_X7_sendWhatCanGo) (by decide +kernel) rfl rfl (dm_FO_s ffX7 [(15, 7, 3), (19, 7, 4), (30, 7, 1), (78, 1, 7)] rfl dm_hT (by decide +kernel)) (dm_IO_s ifX7 jfX7 [(101, 1000000)] [] rfl rfl dm_hT (by decide +kernel) (by decide +kernel)) soC (dm_MO_of (List.forall_mem_cons.mpr ⟨dm_M1_of (t_X7_nearestInNeed l D cA ad) dm_hT (dm_mem [597, 70, 594] (by decide +kernel) (by decide +kernel)) (by decide) (by decide +kernel) (Or.inr ⟨by decide, dm_mem [596, 5] (by decide +kernel) (by decide +kernel), rfl⟩), List.forall_mem_cons.mpr ⟨dm_M1_of (t_J9_min_f86c9 l D cA ad) dm_hT (dm_mem [621, 79, 619] (by decide +kernel) (by decide +kernel)) (by decide) (by decide +kernel) (Or.inl ⟨rfl, dm_mem (ws := [.static yJ9_min_f86c9]) [620] (by decide +kernel) (by decide +kernel) _ List.mem_cons_self⟩), List.forall_mem_cons.mpr ⟨dm_M1_of (t_X1_sendTo l D cA ad) dm_hT (dm_mem [625, 68, 622] (by decide +kernel) (by decide +kernel)) (by decide) (by decide +kernel) (Or.inr ⟨by decide, dm_mem [623, 624] (by decide +kernel) (by decide +kernel), rfl⟩), fun _ h => absurd h List.not_mem_nil⟩⟩⟩)) v_X7_sendWhatCanGo u_X7_sendWhatCanGo
