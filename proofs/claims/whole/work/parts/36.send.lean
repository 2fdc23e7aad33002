/-! ===== Lanes.sendTo: along a tree of ways ===== -/
/-- the tree as cell c holds it: a way's number, or below 0 -/
def vi_ok (u : dm_S) (c n : Nat) (via : Nat → Option Nat) : Prop := ∀ v, v < n → match via v with
  | some w => u.1 c v = nI w
  | none => u.1 c v < 0
theorem snd_s {b e : Nat → Nat} {via : Nat → Option Nat} {k v w : Nat} {a : Int} {x : Nat → Int} (h : via v = some w) : snd b e via (k + 1) v a x = snd b e via k (wb b e w) a (pX w a x) := by
  funext l
  unfold snd pX uI
  rw [pth_s h]
  show x l + a * (pth b e via k (wb b e w) l + (if l = w / 2 then sg w else 0)) = _
  by_cases q : l = w / 2
  · rw [if_pos q, if_pos q, q, Int.mul_add, Int.mul_comm (sg w)]; omega
  · rw [if_neg q, if_neg q, Int.add_zero]
theorem snd_n {b e : Nat → Nat} {via : Nat → Option Nat} {k v : Nat} {a : Int} {x : Nat → Int} (h : via v = none) : snd b e via k v a x = x := by
  funext l
  unfold snd
  rw [pth_n h, Int.mul_zero, Int.add_zero]
/-- the excess behind it -/
def sdE (b e : Nat → Nat) (via : Nat → Option Nat) (k v : Nat) (a : Int) (ex : Nat → Int) : Nat → Int := fun j => ex j + (if v = j then a else 0) - (if rot b e via k v = j then a else 0)
theorem sdE_s {b e : Nat → Nat} {via : Nat → Option Nat} {k v w : Nat} {a : Int} {ex : Nat → Int} (h : via v = some w) (hw : we b e w = v) : sdE b e via (k + 1) v a ex = sdE b e via k (wb b e w) a (pE b e w a ex) := by
  funext j
  unfold sdE pE
  rw [rot_s h, hw]
  show ex j + _ - _ = ex j - _ + _ + _ - _
  omega
theorem sdE_n {b e : Nat → Nat} {via : Nat → Option Nat} {k v : Nat} {a : Int} {ex : Nat → Int} (h : via v = none) : sdE b e via k v a ex = ex := by
  funext j
  unfold sdE
  rw [rot_n h]
  omega
def sp_X1_sendTo (As : List Value) (u : dm_S) (Q : Option Value → dm_S → Prop) : Prop := match As with
  | [.ref 2, .int x, .ref c, .long d] => ∃ (n K : Nat) (b e : Nat → Nat) (via : Nat → Option Nat) (rk : Nat → Nat) (lo ex : Nat → Int) (v : Nat) (a : Int), ln_ok u n K b e ∧ shC[c]? = some (.inl (0, 24)) ∧ vi_ok u c n via ∧ tre n K b e via rk ∧ rk v ≤ n ∧ v < n ∧ x = nI v ∧ d = lI a ∧ u.2 24 = lF lo ∧ u.2 25 = lF ex ∧ Q none (st_x u (snd b e via n v a lo) (sdE b e via n v a ex))
  | _ => False
def p_X1_sendTo : List dm_I := [(0, .iload_n 1, 1, [1]), (1, .istore 5, 2, []), (3, .iconst 0, 1, []), (4, .istore 6, 2, []), (6, .iload 6, 2, []), (8, .aload_n 0, 1, [0]), (9, .getfield 40, 3, []), (12, .getfield 89, 3, []), (15, .if_icmp .ge 37, 3, [52]), (18, .aload_n 2, 1, [2]), (19, .iload 5, 2, []), (21, .iaload, 1, []), (22, .ifCond .lt 30, 3, [52]), (25, .aload_n 2, 1, [2]), (26, .iload 5, 2, []), (28, .iaload, 1, []), (29, .istore 7, 2, []), (31, .aload_n 0, 1, [0]), (32, .iload 7, 2, []), (34, .lload_n 3, 1, [3]), (35, .invokevirtual 101, 3, []), (38, .aload_n 0, 1, [0]), (39, .iload 7, 2, []), (41, .invokevirtual 79, 3, []), (44, .istore 5, 2, []), (46, .iinc 6 1, 3, []), (49, .goto (-43), 3, [6]), (52, .return_, 1, [])]
set_option maxRecDepth 100000 in
theorem v_X1_sendTo : p_X1_sendTo.all (dm_vb cX1_sendTo) = true := by decide +kernel
def k_X1_sendTo : dm_Sp := fun a => match a with
  | 0 => sp_X1_push
  | 1 => sp_X1_beginOf
  | _ => fun _ _ _ => False
def x_X1_sendTo : dm_X := dm_mk [(40, 1, 0), (89, 2, 8)] [] [] [(101, 0, 2, 1), (79, 1, 1, 1)] 0
set_option maxRecDepth 100000 in
set_option maxHeartbeats 400000 in
theorem u_X1_sendTo : dm_Pure shC x_X1_sendTo k_X1_sendTo p_X1_sendTo 8 sp_X1_sendTo := by
  intro As u Qp h
  unfold sp_X1_sendTo at h
  split at h
  · rename_i x c d
    obtain ⟨n, K, b, e, via, rk, lo0, ex0, v0, a, hl, hc, hvi, ht, hrk, hv0, rfl, rfl, hlo, hex, h⟩ := h
    obtain ⟨hn, hK, en, eK⟩ := hl.1
    refine ⟨Nat.le_of_ble_eq_true rfl, fun G Wp hW0 hW1 hG => ?_⟩
    have loop : ∀ (k s v : Nat) (lo ex : Nat → Int) (o : Option Value), s + k = n → rk v ≤ k → v < n → Qp none (st_x u (snd b e via k v a lo) (sdE b e via k v a ex)) → G 6 [some (.ref 2), some (.int (nI v0)), some (.ref c), some (.long (lI a)), none, some (.int (nI v)), some (.int (nI s)), o] [] (st_x u lo ex) := by
      intro k
      induction k with
      | zero =>
        intro s v lo ex o hs hr hv h
        have hq : via v = none := by
          cases hq : via v with
          | none => rfl
          | some w => have := (ht v w hv hq).2.2.2; omega
        rw [snd_n hq, sdE_n hq] at h
        apply hG (fun pc => pc == 6) 40
        simp (config := { maxSteps := 2000000 }) [hW0, hW1, dm_fn, dm_fd, dm_x, dm_L0, dm_la, dm_t1, dm_sw, List.headD, dm_ic, dm_mk, dm_s1, dm_s2, dm_clr, dm_cs, dm_cc, dm_nb0, dm_nb1, Value.category, List.lookup, p_X1_sendTo, x_X1_sendTo, k_X1_sendTo, dm_cm, upd, vp_updL, dm_ui_1, dm_ui_2, dm_ul_1, dm_ul_2, sp_X1_push, sp_X1_beginOf, sC_0, sC_1, sC_2, sC_3, sC_4, sC_5, sC_6, sC_7, sC_8, sC_9, sC_10, sC_11, sC_12, sC_13, sC_14, sC_15, sC_16, sC_17, sC_18, sC_19, sC_20, sC_21, sC_22, sC_23, sC_24, sC_25, sC_26, sC_27, sC_28, sC_29, sC_30, sC_31, sC_32, sC_33, sC_34, sC_35, sC_36, sC_37, sC_38, sC_39, sC_40, sC_41, sC_42, sC_43, sC_44, sC_45, sC_46, sC_47, sC_48, sC_49, sC_50, sC_51]
        simp [hc, st_x1, en]
        have hvv := hvi v hv
        rw [hq] at hvv
        refine ⟨fun _ => h, fun q => absurd q (nI_nlt (by omega) (by omega))⟩
      | succ k ih =>
        intro s v lo ex o hs hr hv h
        have hvv := hvi v hv
        apply hG (fun pc => pc == 6) 40
        simp (config := { maxSteps := 2000000 }) [hW0, hW1, dm_fn, dm_fd, dm_x, dm_L0, dm_la, dm_t1, dm_sw, List.headD, dm_ic, dm_mk, dm_s1, dm_s2, dm_clr, dm_cs, dm_cc, dm_nb0, dm_nb1, Value.category, List.lookup, p_X1_sendTo, x_X1_sendTo, k_X1_sendTo, dm_cm, upd, vp_updL, dm_ui_1, dm_ui_2, dm_ul_1, dm_ul_2, sp_X1_push, sp_X1_beginOf, sC_0, sC_1, sC_2, sC_3, sC_4, sC_5, sC_6, sC_7, sC_8, sC_9, sC_10, sC_11, sC_12, sC_13, sC_14, sC_15, sC_16, sC_17, sC_18, sC_19, sC_20, sC_21, sC_22, sC_23, sC_24, sC_25, sC_26, sC_27, sC_28, sC_29, sC_30, sC_31, sC_32, sC_33, sC_34, sC_35, sC_36, sC_37, sC_38, sC_39, sC_40, sC_41, sC_42, sC_43, sC_44, sC_45, sC_46, sC_47, sC_48, sC_49, sC_50, sC_51]
        simp [hc, st_x1, en]
        have iv : vp_in (nI v) 24 := vp_in_nI (by omega) (by omega)
        rw [nI_clamp (by omega)]
        refine ⟨fun q => absurd q (nI_ge (by omega) (by omega)), fun q => ⟨iv, ?_⟩⟩
        cases hq : via v with
        | none =>
          rw [hq] at hvv
          rw [snd_n hq, sdE_n hq] at h
          exact ⟨fun _ => h, fun z => absurd hvv (dm_i_lt.mpr z)⟩
        | some w =>
          rw [hq] at hvv
          obtain ⟨g1, g2, g3, g4⟩ := ht v w hv hq
          rw [snd_s hq, sdE_s hq g2] at h
          obtain ⟨e1, l1⟩ := ln_b hl g1
          obtain ⟨e2, l2⟩ := ln_e hl g1
          refine ⟨fun z => absurd (hvv ▸ z) (nI_pos (by omega)), fun z => ⟨iv, w, by omega, hvv, ?_, ?_, w, by omega, hvv, ?_⟩⟩
          · show vp_in (lw_b u w) 24
            rw [e1]; exact vp_in_nI (by omega) (by omega)
          · show vp_in (lw_e u w) 24
            rw [e2]; exact vp_in_nI (by omega) (by omega)
          · rw [ln_pu hl g1, show lw_b (st_x u (pX w a lo) (pE b e w a ex)) w = lw_b u w from rfl, e1, nI_1]
            exact ih (s + 1) (wb b e w) _ _ _ (by omega) (by omega) g3 h
    apply hG (fun pc => pc == 6) 40
    simp (config := { maxSteps := 2000000 }) [hW0, hW1, dm_fn, dm_fd, dm_x, dm_L0, dm_la, dm_t1, dm_sw, List.headD, dm_ic, dm_mk, dm_s1, dm_s2, dm_clr, dm_cs, dm_cc, dm_nb0, dm_nb1, Value.category, List.lookup, p_X1_sendTo, x_X1_sendTo, k_X1_sendTo, dm_cm, upd, vp_updL, dm_ui_1, dm_ui_2, dm_ul_1, dm_ul_2, sp_X1_push, sp_X1_beginOf, sC_0, sC_1, sC_2, sC_3, sC_4, sC_5, sC_6, sC_7, sC_8, sC_9, sC_10, sC_11, sC_12, sC_13, sC_14, sC_15, sC_16, sC_17, sC_18, sC_19, sC_20, sC_21, sC_22, sC_23, sC_24, sC_25, sC_26, sC_27, sC_28, sC_29, sC_30, sC_31, sC_32, sC_33, sC_34, sC_35, sC_36, sC_37, sC_38, sC_39, sC_40, sC_41, sC_42, sC_43, sC_44, sC_45, sC_46, sC_47, sC_48, sC_49, sC_50, sC_51]
    have := loop n 0 v0 lo0 ex0 none (by omega) hrk hv0 h
    rw [st_xs hlo hex] at this
    exact this
  · exact h.elim
set_option maxRecDepth 100000 in
theorem t_X1_sendTo (l : Launch) (D : va_G) (cA : Nat → ClassId) (ad : Nat → Nat) : dm_Met l D dm_cl cA ad shC yX1_sendTo (Cond.code yX1_sendTo cX1_sendTo 8 (dm_rt 0) :: dm_tt) ({ frames := 2, cells := 0, slots := 0, locals := 44 } : Room) sp_X1_sendTo := dm_meth (own := RX1) (X := x_X1_sendTo) (Sp := k_X1_sendTo) (prog := p_X1_sendTo) (by decide +kernel) rfl rfl (dm_FO_s ffX1 [(40, 1, 0), (89, 2, 8)] rfl dm_hT (by decide +kernel)) (dm_IO_s ifX1 jfX1 [] [] rfl rfl dm_hT (by decide +kernel) (by decide +kernel)) soC (dm_MO_of (List.forall_mem_cons.mpr ⟨dm_M1_of (t_X1_push l D cA ad) dm_hT (dm_mem [629, 68, 626] (by decide +kernel) (by decide +kernel)) (by decide) (by decide +kernel) (Or.inr ⟨by decide, dm_mem [627, 628] (by decide +kernel) (by decide +kernel), rfl⟩), List.forall_mem_cons.mpr ⟨dm_M1_of (t_X1_beginOf l D cA ad) dm_hT (dm_mem [553, 68, 550] (by decide +kernel) (by decide +kernel)) (by decide) (by decide +kernel) (Or.inr ⟨by decide, dm_mem [551, 552] (by decide +kernel) (by decide +kernel), rfl⟩), fun _ h => absurd h List.not_mem_nil⟩⟩)) v_X1_sendTo u_X1_sendTo
