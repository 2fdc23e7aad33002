/-! ===== Paths.sendAtLeast ===== -/
def sa_fr (u u' : dm_S) : Prop := (∀ c, c ∉ [39, 40] → u'.1 c = u.1 c) ∧ ∀ c, c ∉ [24, 25, 36, 38, 41] → u'.2 c = u.2 c
theorem sa_fr0 (u : dm_S) : sa_fr u u := ⟨fun _ _ => rfl, fun _ _ => rfl⟩
theorem sa_frt {u u' u'' : dm_S} (h : sa_fr u u') (h2 : sa_fr u' u'') : sa_fr u u'' := ⟨fun c a => (h2.1 c a).trans (h.1 c a), fun c a => (h2.2 c a).trans (h.2 c a)⟩
theorem sa_pj {u u' : dm_S} (h : pj_fr u u') : sa_fr u u' := ⟨fun c hc => by simp at hc; exact h.1 c (by omega) (by omega), fun c hc => by simp at hc; exact h.2 c (by omega) (by omega)⟩
theorem sa_x {u : dm_S} {x ex : Nat → Int} : sa_fr u (st_x u x ex) := ⟨fun _ _ => rfl, fun c hc => by simp at hc; exact st_xo (by omega) (by omega)⟩
theorem sa_sj {u : dm_S} {f : Nat → Int64} : sa_fr u (dm_sj u 36 f) := ⟨fun _ _ => rfl, fun c hc => by simp at hc; rw [dm_sj_2, if_neg (by omega)]⟩
theorem ln_sa {u u' : dm_S} {n K : Nat} {b e : Nat → Nat} (h : ln_ok u n K b e) (hf : sa_fr u u') : ln_ok u' n K b e := by
  refine ⟨?_, fun l hl => ?_⟩
  · rw [hf.1 1 (by decide), hf.1 2 (by decide)]; exact h.1
  · rw [hf.1 20 (by decide), hf.1 21 (by decide)]; exact h.2 l hl
theorem so_sa {u u' : dm_S} {n K : Nat} {b e hd sr : Nat → Nat} (h : so_ok u n K b e hd sr) (hf : sa_fr u u') : so_ok u' n K b e hd sr := so_eq h (hf.1 26 (by decide)) (hf.1 27 (by decide))
theorem vi_dj {u : dm_S} {n : Nat} {vn : Nat → Option (Option Nat)} {D : Nat → Int} {dn : Nat → Bool} {car : Nat → Int} (h : dj_ok u n vn D dn car) : vi_ok u 40 n (bvi vn) := by
  intro v hv
  have h1 := (h v hv).1
  unfold bvi
  cases hq : vn v with
  | none => rw [hq] at h1; show u.1 40 v < 0; rw [h1]; decide
  | some o =>
    cases o with
    | none => rw [hq] at h1; show u.1 40 v < 0; rw [h1]; decide
    | some w => rw [hq] at h1; exact h1
def inv (K : Nat) (b e : Nat → Nat) (c mm lo p : Nat → Int) (dl : Int) : Prop := ∀ w, w < 2 * K → dl ≤ wm mm lo w → 0 ≤ rcw b e c p w
theorem inv_cg {n K : Nat} {b e : Nat → Nat} {c mm lo p q : Nat → Int} {dl : Int} (hb : nd n K b e) (h : inv K b e c mm lo p dl) (hq : ∀ v, v < n → q v = p v) : inv K b e c mm lo q dl := by
  intro w hw hm
  have h1 := h w hw hm
  obtain ⟨c1, c2⟩ := hb (w / 2) (by omega)
  have e1 : q (wb b e w) = p (wb b e w) ∧ q (we b e w) = p (we b e w) := by
    unfold wb we
    split
    · exact ⟨hq _ c1, hq _ c2⟩
    · exact ⟨hq _ c2, hq _ c1⟩
  unfold rcw at h1 ⊢
  rw [e1.1, e1.2]; exact h1
/-- nothing of at least dl can go any more: S is what a search reached -/
def stq (n K : Nat) (b e : Nat → Nat) (mm lo ex : Nat → Int) (dl : Int) (S : Nat → Bool) : Prop := (∀ v, v < n → dl ≤ ex v → S v = true) ∧ (∀ v, v < n → S v = true → -dl < ex v) ∧ ∀ w, w < 2 * K → dl ≤ wm mm lo w → S (wb b e w) = true → S (we b e w) = true
def sp_X4_sendAtLeast (As : List Value) (u : dm_S) (Q : Option Value → dm_S → Prop) : Prop := match As with
  | [.ref 6, .long d, .int x] => ∃ (n K : Nat) (b e : Nat → Nat) (c mm lo ex p : Nat → Int) (dl M : Int) (hd sr : Nat → Nat) (T : Nat), LA u n K b e mm lo ex ∧ LB n K mm lo ex ∧ so_ok u n K b e hd sr ∧ u.2 23 = lF c ∧ (∀ l, l < K → -1000000 ≤ c l ∧ c l ≤ 1000000) ∧ u.2 36 = lF p ∧ (d = lI dl ∧ 1 ≤ dl ∧ dl ≤ 1000000000) ∧ inv K b e c mm lo p dl ∧ ((∀ v, v < n → -24000000 ≤ p v ∧ p v ≤ M - 24000000) ∧ 0 ≤ M ∧ M ≤ 6600000000000000) ∧ x = nI T ∧ T ≤ 1000000 ∧
    (∀ (u' : dm_S) (lo' ex' p' : Nat → Int) (S : Nat → Bool), sa_fr u u' → LA u' n K b e mm lo' ex' → u'.2 36 = lF p' → snt n K b e (fun _ => true) mm lo ex lo' ex' → inv K b e c mm lo' p' dl → (∀ v, v < n → -24000000 ≤ p' v ∧ p' v ≤ 2 * M) → stq n K b e mm lo' ex' dl S → Q (some (.int 1)) u') ∧
    ∀ (u' : dm_S) (lo' ex' p' : Nat → Int), sa_fr u u' → LA u' n K b e mm lo' ex' → u'.2 36 = lF p' → snt n K b e (fun _ => true) mm lo ex lo' ex' → inv K b e c mm lo' p' dl → (∀ v, v < n → -24000000 ≤ p' v ∧ p' v ≤ 2 * M) → T * dl ≤ pe n ex → Q (some (.int 0)) u'
  | _ => False
def p_X4_sendAtLeast : List dm_I := [(0, .iconst 0, 1, []), (1, .istore 4, 2, []), (3, .iload 4, 2, []), (5, .iload_n 3, 1, [3]), (6, .if_icmp .ge 71, 3, [77]), (9, .aload_n 0, 1, [0]), (10, .lload_n 1, 1, [1]), (11, .invokevirtual 72, 3, []), (14, .istore 5, 2, []), (16, .iload 5, 2, []), (18, .iconst (-1), 1, []), (19, .if_icmp .ne 5, 3, [24]), (22, .iconst 1, 1, []), (23, .ireturn, 1, []), (24, .aload_n 0, 1, [0]), (25, .aload_n 0, 1, [0]), (26, .getfield 9, 3, []), (29, .iload 5, 2, []), (31, .laload, 1, []), (32, .iconst 5, 1, []), (33, .lshr, 1, []), (34, .invokevirtual 76, 3, []), (37, .aload_n 0, 1, [0]), (38, .getfield 30, 3, []), (41, .iload 5, 2, []), (43, .aload_n 0, 1, [0]), (44, .getfield 19, 3, []), (47, .aload_n 0, 1, [0]), (48, .getfield 23, 3, []), (51, .iload 5, 2, []), (53, .laload, 1, []), (54, .aload_n 0, 1, [0]), (55, .getfield 30, 3, []), (58, .getfield 79, 3, []), (61, .iload 5, 2, []), (63, .laload, 1, []), (64, .lneg, 1, []), (65, .invokestatic 82, 3, []), (68, .invokevirtual 88, 3, []), (71, .iinc 4 1, 3, []), (74, .goto (-71), 3, [3]), (77, .iconst 0, 1, []), (78, .ireturn, 1, [])]
set_option maxRecDepth 100000 in
theorem v_X4_sendAtLeast : p_X4_sendAtLeast.all (dm_vb cX4_sendAtLeast) = true := by decide +kernel
def k_X4_sendAtLeast : dm_Sp := fun a => match a with
  | 0 => sp_X4_nearestInNeed
  | 1 => sp_X4_raisePrices
  | 2 => sp_J9_min_f86c9
  | 3 => sp_X1_sendTo
  | _ => fun _ _ _ => False
def x_X4_sendAtLeast : dm_X := dm_mk [(9, 4, 3), (19, 4, 5), (23, 4, 6), (30, 4, 1), (79, 1, 7)] [] [] [(72, 0, 1, 4), (76, 1, 1, 4), (82, 2, 2, 1000), (88, 3, 3, 1)] 3
set_option maxRecDepth 100000 in
set_option maxHeartbeats 1600000 in
theorem u_X4_sendAtLeast : dm_Pure shC x_X4_sendAtLeast k_X4_sendAtLeast p_X4_sendAtLeast 6 sp_X4_sendAtLeast := by
  intro As u Qp hh
  unfold sp_X4_sendAtLeast at hh
  split at hh
  · obtain ⟨n, K, b, e, c, mm, lo, ex, p, dl, M, hd, sr, T, hA, hB, hS, e23, hc, e36, ⟨rfl, hdl, hdl2⟩, hinv, ⟨hp, hM0, hM⟩, rfl, hT, hx, hy⟩ := hh
    obtain ⟨hn, hK, en, eK⟩ := hA.1.1
    have hnd := ln_nd hA.1
    have hBd : lB dl := by unfold lB; omega
    refine ⟨Nat.le_of_ble_eq_true rfl, fun G Wp hW0 hW1 hG => ?_⟩
    have loop : ∀ k t : Nat, t + k = T → ∀ (u' : dm_S) (lo' ex' p' : Nat → Int) (Sg : Int) (o5 : Option Value), sa_fr u u' → LA u' n K b e mm lo' ex' → u'.2 36 = lF p' → snt n K b e (fun _ => true) mm lo ex lo' ex' → inv K b e c mm lo' p' dl → pe n ex' + t * dl ≤ pe n ex → (∀ v, v < n → (p v ≤ p' v ∧ p' v ≤ p v + Sg) ∧ (dl ≤ ex' v → p' v = p v) ∧ (ex' v ≤ -dl → p' v = p v + Sg)) → 0 ≤ Sg → Sg ≤ M + 24000000 → G 3 [some (.ref 6), some (.long (lI dl)), none, some (.int (nI T)), some (.int (nI t)), o5] [] u' := by
      intro k
      induction k with
      | zero =>
        intro t ht u' lo' ex' p' Sg o5 a1 a2 a3 a4 a5 a6 a7 a8 a9
        have e0 : t = T := by omega
        subst e0
        apply hG (fun pc => pc == 3) 80
        simp (config := { maxSteps := 2000000 }) [-Prod.forall, -Prod.exists, -exists_and_left, -exists_and_right, hW0, hW1, dm_fn, dm_fd, dm_x, dm_L0, dm_la, dm_t1, dm_sw, List.headD, dm_ic, dm_mk, dm_s1, dm_s2, dm_clr, dm_cs, dm_cc, dm_nb0, dm_nb1, Value.category, List.lookup, p_X4_sendAtLeast, x_X4_sendAtLeast, k_X4_sendAtLeast, dm_cm, upd, vp_updL, dm_ui_1, dm_ui_2, dm_ul_1, dm_ul_2, sp_X4_nearestInNeed, sp_X4_raisePrices, sp_J9_min_f86c9, sp_X1_sendTo, sC_0, sC_1, sC_2, sC_3, sC_4, sC_5, sC_6, sC_7, sC_8, sC_9, sC_10, sC_11, sC_12, sC_13, sC_14, sC_15, sC_16, sC_17, sC_18, sC_19, sC_20, sC_21, sC_22, sC_23, sC_24, sC_25, sC_26, sC_27, sC_28, sC_29, sC_30, sC_31, sC_32, sC_33, sC_34, sC_35, sC_36, sC_37, sC_38, sC_39, sC_40, sC_41, sC_42, sC_43, sC_44, sC_45, sC_46, sC_47, sC_48, sC_49, sC_50, sC_51]
        have hpe : 0 ≤ pe n ex' := sI_ge0 (fun v _ => by show 0 ≤ if 0 ≤ ex' v then ex' v else 0; split <;> omega)
        exact hy u' lo' ex' p' a1 a2 a3 a4 a5 (fun v hv => by have := hp v hv; have := (a7 v hv).1; omega) (by omega)
      | succ k ih =>
        intro t ht u' lo' ex' p' Sg o5 a1 a2 a3 a4 a5 a6 a7 a8 a9
        have hB' := snt_LB hB a4
        have hP : djP n K b e c mm lo' p' dl (M - 24000000) := by
          refine ⟨a5, hc, fun v hv => ?_, hdl⟩
          have := hp v hv
          have := (a7 v hv).1
          omega
        apply hG (fun pc => pc == 3) 80
        simp (config := { maxSteps := 2000000 }) [-Prod.forall, -Prod.exists, -exists_and_left, -exists_and_right, hW0, hW1, dm_fn, dm_fd, dm_x, dm_L0, dm_la, dm_t1, dm_sw, List.headD, dm_ic, dm_mk, dm_s1, dm_s2, dm_clr, dm_cs, dm_cc, dm_nb0, dm_nb1, Value.category, List.lookup, p_X4_sendAtLeast, x_X4_sendAtLeast, k_X4_sendAtLeast, dm_cm, upd, vp_updL, dm_ui_1, dm_ui_2, dm_ul_1, dm_ul_2, sp_X4_nearestInNeed, sp_X4_raisePrices, sp_J9_min_f86c9, sp_X1_sendTo, sC_0, sC_1, sC_2, sC_3, sC_4, sC_5, sC_6, sC_7, sC_8, sC_9, sC_10, sC_11, sC_12, sC_13, sC_14, sC_15, sC_16, sC_17, sC_18, sC_19, sC_20, sC_21, sC_22, sC_23, sC_24, sC_25, sC_26, sC_27, sC_28, sC_29, sC_30, sC_31, sC_32, sC_33, sC_34, sC_35, sC_36, sC_37, sC_38, sC_39, sC_40, sC_41, sC_42, sC_43, sC_44, sC_45, sC_46, sC_47, sC_48, sC_49, sC_50, sC_51]
        rw [nI_1]
        refine ⟨fun zq => absurd zq (nI_ge (by omega) (by omega)), fun zq => ⟨n, K, b, e, c, mm, lo', ex', p', dl, M - 24000000, hd, sr, a2, hB', so_sa hS a1, (a1.2 23 (by decide)).trans e23, a3, rfl, hBd, hP, fun v hv hz => ?_, fun u1 vn D h dn car v b1 b2 b3 b4 b5 b6 hv hs hd0 hne hmin => ?_, fun u1 S b1 b2 b3 b4 => ?_⟩⟩
        · rw [(a7 v hv).2.1 hz]; exact (hp v hv).2
        · have cv : (nI v).toNatClampNeg = v := nI_clamp (by omega)
          have iv : vp_in (nI v) 24 := vp_in_nI (by omega) (by omega)
          have en1 : u1.1 1 8 = nI n := by rw [b1.1 1 (by decide) (by decide), a1.1 1 (by decide)]; exact en
          have hDB : ∀ y, y < n → 0 ≤ D y ∧ D y ≤ 1152921504606846976 := by
            intro y hy
            by_cases q : vn y = none
            · have := b3.1 y hy
              unfold djN at this
              rw [q] at this
              rw [this.1]
              unfold fAR; omega
            · have := dj_far hn hP b3 hy q
              omega
          have hDv := hDB v hv
          obtain ⟨⟨g1, g2, g3⟩, g4, ⟨g5, g6⟩, g7⟩ := dj_send hn hnd hP a4.1 b3 b4 b5 hv hs hd0 hne hmin (a := mn2 (car v) (-ex' v)) rfl
          have hvn := (dj_div hn b3 hv hs).2.2.2
          have l1 : lB (-ex' v) := by have := hB'.2.2 _ hv; unfold lB; omega
          have e36' : u1.2 36 = lF p' := (b1.2 36 (by decide) (by decide)).trans a3
          have hA1 := LA_pj a2 b1
          rw [cv]
          refine ⟨fun _ => ⟨iv, n, D, p', D v / 32, hn, en1, fun y hy => ⟨(b2 y hy).2.1, hDB y hy⟩, e36', by rw [(b2 v hv).2.1, lI_sh5 (by omega)], by unfold lB; omega, iv, n, K, b, e, bvi vn, h, lo', ex', v, mn2 (car v) (-ex' v), ?_⟩, fun z => absurd (z ▸ nI_pos (n := v) (by omega)) (by decide)⟩
          have hmin2 : (if u1.2 41 v ≤ -u1.2 25 v then u1.2 41 v else -u1.2 25 v) = lI (mn2 (car v) (-ex' v)) := by
            rw [(b2 v hv).2.2.2 hs, hA1.2.2.2, lF_at, lI_neg, lI_min (b6 v hv hs) l1]; rfl
          refine ⟨hA1.1, vi_dj b2, dj_tre b3, hvn, hv, rfl, hmin2, hA1.2.2.1, hA1.2.2.2, ?_⟩
          have hf1 := sa_frt (sa_frt (sa_frt a1 (sa_pj b1)) (sa_sj (u := u1) (f := lF fun x => if x < n then p' x + mn2 (D x / 32) (D v / 32) else p' x))) (sa_x (x := snd b e (bvi vn) n v (mn2 (car v) (-ex' v)) lo') (ex := sdE b e (bvi vn) n v (mn2 (car v) (-ex' v)) ex'))
          have hpq : ∀ x, x < n → (if x < n then p' x + mn2 (D x / 32) (D v / 32) else p' x) = djR D p' v x := fun x hx => if_pos hx
          refine ih (t + 1) (by omega) _ _ _ (fun x => if x < n then p' x + mn2 (D x / 32) (D v / 32) else p' x) (Sg + D v / 32) _ hf1 ⟨ln_sa hA.1 hf1, (hf1.2 22 (by decide)).trans hA.2.1, st_x24, st_x25⟩ ((st_xo (by decide) (by decide)).trans rfl) (snt_t a4 g2) (inv_cg hnd g4 hpq) ?_ (fun x hx => ?_) (by omega) ?_
          · have e9 : ((t + 1 : Nat) : Int) * dl = t * dl + dl := by rw [Int.natCast_add, Int.add_mul]; omega
            omega
          · have q1 := a7 x hx
            have q2 := g7 x hx
            have q3 := g2.2.2.2.1 x hx
            show (p x ≤ (if x < n then p' x + mn2 (D x / 32) (D v / 32) else p' x) ∧ (if x < n then p' x + mn2 (D x / 32) (D v / 32) else p' x) ≤ p x + (Sg + D v / 32)) ∧ (dl ≤ sdE b e (bvi vn) n v (mn2 (car v) (-ex' v)) ex' x → (if x < n then p' x + mn2 (D x / 32) (D v / 32) else p' x) = p x) ∧ (sdE b e (bvi vn) n v (mn2 (car v) (-ex' v)) ex' x ≤ -dl → (if x < n then p' x + mn2 (D x / 32) (D v / 32) else p' x) = p x + (Sg + D v / 32))
            rw [hpq x hx]
            refine ⟨by omega, fun z => ?_, fun z => ?_⟩
            · have q4 : dl ≤ ex' x := by
                rcases Int.le_total 0 (ex' x) with y | y
                · have := q3.1 y; omega
                · have := q3.2 y; omega
              rw [q2.2.1 q4]; exact q1.2.1 q4
            · have q4 : ex' x ≤ -dl := by
                rcases Int.le_total 0 (ex' x) with y | y
                · have := q3.1 y; omega
                · have := q3.2 y; omega
              rw [q2.2.2 q4, q1.2.2 q4]; omega
          · have q1 := (a7 v hv).2.2 hne
            have q2 := hp v hv
            omega
        · exact hx u1 lo' ex' p' S (sa_frt a1 (sa_pj b1)) (LA_pj a2 b1) ((b1.2 36 (by decide) (by decide)).trans a3) a4 a5 (fun v hv => by have := hp v hv; have := (a7 v hv).1; omega) ⟨b2, b3, b4⟩
    apply hG (fun pc => pc == 3) 80
    simp (config := { maxSteps := 2000000 }) [-Prod.forall, -Prod.exists, -exists_and_left, -exists_and_right, hW0, hW1, dm_fn, dm_fd, dm_x, dm_L0, dm_la, dm_t1, dm_sw, List.headD, dm_ic, dm_mk, dm_s1, dm_s2, dm_clr, dm_cs, dm_cc, dm_nb0, dm_nb1, Value.category, List.lookup, p_X4_sendAtLeast, x_X4_sendAtLeast, k_X4_sendAtLeast, dm_cm, upd, vp_updL, dm_ui_1, dm_ui_2, dm_ul_1, dm_ul_2, sp_X4_nearestInNeed, sp_X4_raisePrices, sp_J9_min_f86c9, sp_X1_sendTo, sC_0, sC_1, sC_2, sC_3, sC_4, sC_5, sC_6, sC_7, sC_8, sC_9, sC_10, sC_11, sC_12, sC_13, sC_14, sC_15, sC_16, sC_17, sC_18, sC_19, sC_20, sC_21, sC_22, sC_23, sC_24, sC_25, sC_26, sC_27, sC_28, sC_29, sC_30, sC_31, sC_32, sC_33, sC_34, sC_35, sC_36, sC_37, sC_38, sC_39, sC_40, sC_41, sC_42, sC_43, sC_44, sC_45, sC_46, sC_47, sC_48, sC_49, sC_50, sC_51]
    exact loop T 0 (by omega) u lo ex p 0 _ (sa_fr0 u) hA e36 (snt_0 hB.1) hinv (by omega) (fun v hv => ⟨⟨Int.le_refl _, by omega⟩, fun _ => rfl, fun _ => by omega⟩) (Int.le_refl _) (by omega)
  · exact hh.elim
set_option maxRecDepth 100000 in
theorem t_X4_sendAtLeast (l : Launch) (D : va_G) (cA : Nat → ClassId) (ad : Nat → Nat) : dm_Met l D dm_cl cA ad shC yX4_sendAtLeast (Cond.code yX4_sendAtLeast cX4_sendAtLeast 6 (dm_rt 3) :: dm_tt) ({ frames := 3, cells := 0, slots := 0, locals := 79 } : Room) sp_X4_sendAtLeast := dm_meth (own := RX4) (X := x_X4_sendAtLeast) (Sp := k_X4_sendAtLeast) (prog := p_X4_sendAtLeast) (by decide +kernel) rfl rfl (dm_FO_s ffX4 [(9, 4, 3), (19, 4, 5), (23, 4, 6), (30, 4, 1), (79, 1, 7)] rfl dm_hT (by decide +kernel)) (dm_IO_s ifX4 jfX4 [] [] rfl rfl dm_hT (by decide +kernel) (by decide +kernel)) soC (dm_MO_of (List.forall_mem_cons.mpr ⟨dm_M1_of (t_X4_nearestInNeed l D cA ad) dm_hT (dm_mem [766, 72, 763] (by decide +kernel) (by decide +kernel)) (by decide) (by decide +kernel) (Or.inr ⟨by decide, dm_mem [765, 27] (by decide +kernel) (by decide +kernel), rfl⟩), List.forall_mem_cons.mpr ⟨dm_M1_of (t_X4_raisePrices l D cA ad) dm_hT (dm_mem [785, 72, 782] (by decide +kernel) (by decide +kernel)) (by decide) (by decide +kernel) (Or.inr ⟨by decide, dm_mem [784, 31] (by decide +kernel) (by decide +kernel), rfl⟩), List.forall_mem_cons.mpr ⟨dm_M1_of (t_J9_min_f86c9 l D cA ad) dm_hT (dm_mem [621, 79, 781] (by decide +kernel) (by decide +kernel)) (by decide) (by decide +kernel) (Or.inl ⟨rfl, dm_mem (ws := [.static yJ9_min_f86c9]) [620] (by decide +kernel) (by decide +kernel) _ List.mem_cons_self⟩), List.forall_mem_cons.mpr ⟨dm_M1_of (t_X1_sendTo l D cA ad) dm_hT (dm_mem [625, 68, 786] (by decide +kernel) (by decide +kernel)) (by decide) (by decide +kernel) (Or.inr ⟨by decide, dm_mem [623, 624] (by decide +kernel) (by decide +kernel), rfl⟩), fun _ h => absurd h List.not_mem_nil⟩⟩⟩⟩)) v_X4_sendAtLeast u_X4_sendAtLeast
