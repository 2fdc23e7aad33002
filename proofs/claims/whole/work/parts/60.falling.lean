/-! ===== Paths.useFalling ===== -/
def ufS (b e : Nat → Nat) (c mm p : Nat → Int) (dl : Int) (lo ex : Nat → Int) : Nat → (Nat → Int) × (Nat → Int)
  | 0 => (lo, ex)
  | k + 1 => if dl ≤ wm mm (ufS b e c mm p dl lo ex k).1 k ∧ wr c k < p (we b e k) - p (wb b e k) then (pX k (wm mm (ufS b e c mm p dl lo ex k).1 k) (ufS b e c mm p dl lo ex k).1, pE b e k (wm mm (ufS b e c mm p dl lo ex k).1 k) (ufS b e c mm p dl lo ex k).2) else ufS b e c mm p dl lo ex k
/-- what becomes of a lane's load; how much that is -/
def ufL (b e : Nat → Nat) (c mm p : Nat → Int) (dl : Int) (lo : Nat → Int) (l : Nat) : Int := if rc b e c p l < 0 ∧ dl ≤ mm l - lo l then mm l else if 0 < rc b e c p l ∧ dl ≤ lo l then 0 else lo l
def ufP (b e : Nat → Nat) (c mm p : Nat → Int) (dl : Int) (lo : Nat → Int) (l : Nat) : Int := if rc b e c p l < 0 ∧ dl ≤ mm l - lo l then mm l - lo l else if 0 < rc b e c p l ∧ dl ≤ lo l then lo l else 0
theorem ufS_s {b e : Nat → Nat} {c mm p : Nat → Int} {dl : Int} {lo ex : Nat → Int} {k : Nat} : ufS b e c mm p dl lo ex (k + 1) = if dl ≤ wm mm (ufS b e c mm p dl lo ex k).1 k ∧ wr c k < p (we b e k) - p (wb b e k) then (pX k (wm mm (ufS b e c mm p dl lo ex k).1 k) (ufS b e c mm p dl lo ex k).1, pE b e k (wm mm (ufS b e c mm p dl lo ex k).1 k) (ufS b e c mm p dl lo ex k).2) else ufS b e c mm p dl lo ex k := rfl
theorem pX_dv {K : Nat} {b e : Nat → Nat} {w v : Nat} {a : Int} {x ex : Nat → Int} (hw : w < 2 * K) : pE b e w a ex v + dv K b e (pX w a x) v = ex v + dv K b e x v := by
  unfold pX pE
  rw [dv_upd (by omega)]
  unfold sg wb we
  by_cases q : w % 2 = 0
  · simp only [if_pos q, Int.one_mul]; omega
  · simp only [if_neg q]
    split <;> split <;> omega
theorem pE_pe {n : Nat} {b e : Nat → Nat} {w : Nat} {r : Int} {ex : Nat → Int} (hr : 0 ≤ r) (hw : we b e w < n) : pe n (pE b e w r ex) ≤ pe n ex + r := by
  have h1 : pe n (pE b e w r ex) ≤ sI (fun v => (if 0 ≤ ex v then ex v else 0) + (if v = we b e w then r else 0)) n := sI_le (fun v _ => by
    show (if 0 ≤ pE b e w r ex v then pE b e w r ex v else 0) ≤ (if 0 ≤ ex v then ex v else 0) + (if v = we b e w then r else 0)
    unfold pE
    by_cases q1 : we b e w = v
    · rw [if_pos q1, if_pos q1.symm]
      split <;> split <;> split <;> omega
    · rw [if_neg q1, if_neg (Ne.symm q1)]
      split <;> split <;> split <;> omega)
  rw [sI_add, sI_one, if_pos hw] at h1
  exact h1
section
variable {n K : Nat} {b e : Nat → Nat} {c mm p : Nat → Int} {dl : Int} {lo ex : Nat → Int}
theorem ufS_two (hd : 1 ≤ dl) (hl : fits K mm lo) : ∀ j, j ≤ K → ∀ l, (ufS b e c mm p dl lo ex (2 * j)).1 l = if l < j then ufL b e c mm p dl lo l else lo l
  | 0, _, l => by rw [if_neg (Nat.not_lt_zero _)]; rfl
  | j + 1, hj, l => by
    have ih := ufS_two hd hl j (by omega)
    have hj0 := hl j (by omega)
    have hc0 : (ufS b e c mm p dl lo ex (2 * j)).1 j = lo j := by rw [ih j, if_neg (Nat.lt_irrefl _)]
    have d0 : 2 * j / 2 = j := by omega
    have d1 : (2 * j + 1) / 2 = j := by omega
    have w0 : ∀ x : Nat → Int, wm mm x (2 * j) = mm j - x j := fun x => by unfold wm; rw [if_pos (by omega), d0]
    have w1 : ∀ x : Nat → Int, wm mm x (2 * j + 1) = x j := fun x => by unfold wm; rw [if_neg (by omega), d1]
    have r0 : wr c (2 * j) < p (we b e (2 * j)) - p (wb b e (2 * j)) ↔ rc b e c p j < 0 := by
      unfold wr we wb rc
      rw [if_pos (by omega), if_pos (by omega), if_pos (by omega), d0]; omega
    have r1 : wr c (2 * j + 1) < p (we b e (2 * j + 1)) - p (wb b e (2 * j + 1)) ↔ 0 < rc b e c p j := by
      unfold wr we wb rc
      rw [if_neg (by omega), if_neg (by omega), if_neg (by omega), d1]; omega
    have s0 : sg (2 * j) = 1 := if_pos (by omega)
    have s1 : sg (2 * j + 1) = -1 := if_neg (by omega)
    have hA : ∀ x, (ufS b e c mm p dl lo ex (2 * j + 1)).1 x = if x = j ∧ rc b e c p j < 0 ∧ dl ≤ mm j - lo j then mm j else (ufS b e c mm p dl lo ex (2 * j)).1 x := by
      intro x
      rw [ufS_s]
      simp only [w0, r0, hc0]
      by_cases q : dl ≤ mm j - lo j ∧ rc b e c p j < 0
      · rw [if_pos q]
        show pX (2 * j) (mm j - lo j) (ufS b e c mm p dl lo ex (2 * j)).1 x = _
        unfold pX uI
        rw [d0, s0, hc0]
        by_cases y : x = j
        · rw [if_pos y, if_pos ⟨y, q.2, q.1⟩]; omega
        · rw [if_neg y, if_neg (fun z => y z.1)]
      · rw [if_neg q, if_neg (fun z => q ⟨z.2.2, z.2.1⟩)]
    have hB : ∀ x, (ufS b e c mm p dl lo ex (2 * j + 1 + 1)).1 x = if x = j then ufL b e c mm p dl lo j else (ufS b e c mm p dl lo ex (2 * j)).1 x := by
      intro x
      have eL : ufL b e c mm p dl lo j = if rc b e c p j < 0 ∧ dl ≤ mm j - lo j then mm j else if 0 < rc b e c p j ∧ dl ≤ lo j then 0 else lo j := rfl
      rw [ufS_s, eL]
      by_cases q1 : rc b e c p j < 0 ∧ dl ≤ mm j - lo j
      · have hv1 : (ufS b e c mm p dl lo ex (2 * j + 1)).1 j = mm j := by rw [hA j, if_pos ⟨rfl, q1⟩]
        simp only [w1, r1, hv1]
        rw [if_neg (fun z => by omega), hA x]
        by_cases y : x = j
        · rw [if_pos ⟨y, q1⟩, if_pos y, if_pos q1]
        · rw [if_neg (fun z => y z.1), if_neg y]
      · have hv1 : (ufS b e c mm p dl lo ex (2 * j + 1)).1 j = lo j := by rw [hA j, if_neg (fun z => q1 z.2), hc0]
        simp only [w1, r1, hv1]
        by_cases q2 : dl ≤ lo j ∧ 0 < rc b e c p j
        · rw [if_pos q2]
          show pX (2 * j + 1) (lo j) (ufS b e c mm p dl lo ex (2 * j + 1)).1 x = _
          unfold pX uI
          rw [d1, s1, hv1]
          by_cases y : x = j
          · rw [if_pos y, if_pos y, if_neg q1, if_pos ⟨q2.2, q2.1⟩]; omega
          · rw [if_neg y, if_neg y, hA x, if_neg (fun z => y z.1)]
        · rw [if_neg q2, hA x, if_neg (fun z => q1 z.2)]
          by_cases y : x = j
          · rw [if_pos y, if_neg q1, if_neg (fun z => q2 ⟨z.2, z.1⟩), y, hc0]
          · rw [if_neg y]
    rw [show 2 * (j + 1) = 2 * j + 1 + 1 by omega, hB l, ih l]
    by_cases y : l = j
    · rw [if_pos y, if_pos (by omega), y]
    · rw [if_neg y]
      by_cases y2 : l < j
      · rw [if_pos y2, if_pos (by omega)]
      · rw [if_neg y2, if_neg (by omega)]
theorem ufS_ex (hb : nd n K b e) (hl : fits K mm lo) (hd : 1 ≤ dl) (hW : ∀ l, l < K → mm l ≤ 1000000000) : ∀ k, k ≤ 2 * K → fits K mm (ufS b e c mm p dl lo ex k).1 ∧ (∀ v, v < n → (ufS b e c mm p dl lo ex k).2 v + dv K b e (ufS b e c mm p dl lo ex k).1 v = ex v + dv K b e lo v) ∧ (∀ v, v < n → ex v - k * 1000000000 ≤ (ufS b e c mm p dl lo ex k).2 v ∧ (ufS b e c mm p dl lo ex k).2 v ≤ ex v + k * 1000000000)
  | 0, _ => ⟨hl, fun _ _ => rfl, fun v _ => by
    show ex v - ((0 : Nat) : Int) * 1000000000 ≤ ex v ∧ ex v ≤ ex v + ((0 : Nat) : Int) * 1000000000
    omega⟩
  | k + 1, hk => by
    obtain ⟨i1, i2, i3⟩ := ufS_ex hb hl hd hW k (by omega)
    have hk0 := i1 (k / 2) (by omega)
    have hWk := hW (k / 2) (by omega)
    have hm : 0 ≤ wm mm (ufS b e c mm p dl lo ex k).1 k ∧ wm mm (ufS b e c mm p dl lo ex k).1 k ≤ 1000000000 := by
      unfold wm
      split <;> omega
    rw [ufS_s]
    by_cases q : dl ≤ wm mm (ufS b e c mm p dl lo ex k).1 k ∧ wr c k < p (we b e k) - p (wb b e k)
    · rw [if_pos q]
      refine ⟨fun l hl2 => ?_, fun v hv => ?_, fun v hv => ?_⟩
      · show 0 ≤ pX k _ (ufS b e c mm p dl lo ex k).1 l ∧ pX k _ (ufS b e c mm p dl lo ex k).1 l ≤ mm l
        unfold pX uI
        by_cases y : l = k / 2
        · rw [if_pos y, y]
          unfold sg wm
          by_cases y2 : k % 2 = 0
          · rw [if_pos y2, if_pos y2]; omega
          · rw [if_neg y2, if_neg y2]; omega
        · rw [if_neg y]; exact i1 l hl2
      · show pE b e k _ (ufS b e c mm p dl lo ex k).2 v + dv K b e (pX k _ (ufS b e c mm p dl lo ex k).1) v = _
        rw [pX_dv (by omega)]; exact i2 v hv
      · have := i3 v hv
        show _ ≤ pE b e k _ (ufS b e c mm p dl lo ex k).2 v ∧ pE b e k _ (ufS b e c mm p dl lo ex k).2 v ≤ _
        unfold pE
        split <;> split <;> omega
    · rw [if_neg q]
      refine ⟨i1, i2, fun v hv => ?_⟩
      have := i3 v hv
      omega
theorem ufS_pe (hb : nd n K b e) (hl : fits K mm lo) (hd : 1 ≤ dl) (hW : ∀ l, l < K → mm l ≤ 1000000000) : ∀ j, j ≤ K → pe n (ufS b e c mm p dl lo ex (2 * j)).2 ≤ pe n ex + sI (ufP b e c mm p dl lo) j
  | 0, _ => by show pe n ex ≤ pe n ex + 0; omega
  | j + 1, hj => by
    have ih := ufS_pe hb hl hd hW j (by omega)
    have hj0 := hl j (by omega)
    have hc0 : (ufS b e c mm p dl lo ex (2 * j)).1 j = lo j := by rw [ufS_two hd hl j (by omega) j, if_neg (Nat.lt_irrefl _)]
    obtain ⟨b1, b2⟩ := hb j (by omega)
    have d0 : 2 * j / 2 = j := by omega
    have d1 : (2 * j + 1) / 2 = j := by omega
    have w0 : ∀ x : Nat → Int, wm mm x (2 * j) = mm j - x j := fun x => by unfold wm; rw [if_pos (by omega), d0]
    have w1 : ∀ x : Nat → Int, wm mm x (2 * j + 1) = x j := fun x => by unfold wm; rw [if_neg (by omega), d1]
    have r0 : wr c (2 * j) < p (we b e (2 * j)) - p (wb b e (2 * j)) ↔ rc b e c p j < 0 := by
      unfold wr we wb rc
      rw [if_pos (by omega), if_pos (by omega), if_pos (by omega), d0]; omega
    have r1 : wr c (2 * j + 1) < p (we b e (2 * j + 1)) - p (wb b e (2 * j + 1)) ↔ 0 < rc b e c p j := by
      unfold wr we wb rc
      rw [if_neg (by omega), if_neg (by omega), if_neg (by omega), d1]; omega
    have n0 : we b e (2 * j) < n := by unfold we; rw [if_pos (by omega), d0]; exact b2
    have n1 : we b e (2 * j + 1) < n := by unfold we; rw [if_neg (by omega), d1]; exact b1
    rw [show 2 * (j + 1) = 2 * j + 1 + 1 by omega]
    show _ ≤ pe n ex + (sI (ufP b e c mm p dl lo) j + ufP b e c mm p dl lo j)
    have hS1 : ufS b e c mm p dl lo ex (2 * j + 1) = if dl ≤ mm j - lo j ∧ rc b e c p j < 0 then (pX (2 * j) (mm j - lo j) (ufS b e c mm p dl lo ex (2 * j)).1, pE b e (2 * j) (mm j - lo j) (ufS b e c mm p dl lo ex (2 * j)).2) else ufS b e c mm p dl lo ex (2 * j) := by
      rw [ufS_s]
      simp only [w0, r0, hc0]
    have eP : ufP b e c mm p dl lo j = if rc b e c p j < 0 ∧ dl ≤ mm j - lo j then mm j - lo j else if 0 < rc b e c p j ∧ dl ≤ lo j then lo j else 0 := rfl
    rw [ufS_s, eP]
    by_cases q1 : dl ≤ mm j - lo j ∧ rc b e c p j < 0
    · rw [if_pos q1] at hS1
      have hv1 : (ufS b e c mm p dl lo ex (2 * j + 1)).1 j = mm j := by
        rw [hS1]
        show pX (2 * j) (mm j - lo j) (ufS b e c mm p dl lo ex (2 * j)).1 j = mm j
        unfold pX uI
        rw [d0, if_pos rfl, hc0, show sg (2 * j) = 1 from if_pos (by omega)]; omega
      simp only [w1, r1, hv1]
      rw [if_neg (fun z => by omega), if_pos ⟨q1.2, q1.1⟩, hS1]
      have := pE_pe (ex := (ufS b e c mm p dl lo ex (2 * j)).2) (r := mm j - lo j) (by omega) n0
      show pe n (pE b e (2 * j) (mm j - lo j) (ufS b e c mm p dl lo ex (2 * j)).2) ≤ _
      omega
    · rw [if_neg q1] at hS1
      simp only [w1, r1]
      rw [hS1, hc0, if_neg (show ¬ (rc b e c p j < 0 ∧ dl ≤ mm j - lo j) from fun z => q1 ⟨z.2, z.1⟩)]
      by_cases q2 : dl ≤ lo j ∧ 0 < rc b e c p j
      · rw [if_pos q2, if_pos ⟨q2.2, q2.1⟩]
        have := pE_pe (ex := (ufS b e c mm p dl lo ex (2 * j)).2) (r := lo j) (by omega) n1
        show pe n (pE b e (2 * j + 1) (lo j) (ufS b e c mm p dl lo ex (2 * j)).2) ≤ _
        omega
      · rw [if_neg q2, if_neg (show ¬ (0 < rc b e c p j ∧ dl ≤ lo j) from fun z => q2 ⟨z.2, z.1⟩)]
        omega
theorem ufS_inv (hd : 1 ≤ dl) (hl : fits K mm lo) : ∀ w, w < 2 * K → dl ≤ wm mm (ufS b e c mm p dl lo ex (2 * K)).1 w → 0 ≤ rcw b e c p w := by
  intro w hw hm
  have hw2 : w / 2 < K := by omega
  have h0 := hl _ hw2
  have h1 := ufS_two (b := b) (e := e) (c := c) (p := p) (ex := ex) hd hl K (Nat.le_refl _) (w / 2)
  rw [if_pos hw2] at h1
  unfold wm at hm
  rw [h1] at hm
  unfold ufL at hm
  unfold rcw wr wb we
  have hr : rc b e c p (w / 2) = c (w / 2) + p (b (w / 2)) - p (e (w / 2)) := rfl
  by_cases q : w % 2 = 0
  · rw [if_pos q] at hm
    rw [if_pos q, if_pos q, if_pos q, ← hr]
    by_cases y1 : rc b e c p (w / 2) < 0 ∧ dl ≤ mm (w / 2) - lo (w / 2)
    · rw [if_pos y1] at hm; omega
    · rw [if_neg y1] at hm
      by_cases y2 : 0 < rc b e c p (w / 2) ∧ dl ≤ lo (w / 2)
      · omega
      · rw [if_neg y2] at hm; omega
  · rw [if_neg q] at hm
    rw [if_neg q, if_neg q, if_neg q]
    by_cases y1 : rc b e c p (w / 2) < 0 ∧ dl ≤ mm (w / 2) - lo (w / 2)
    · omega
    · rw [if_neg y1] at hm
      by_cases y2 : 0 < rc b e c p (w / 2) ∧ dl ≤ lo (w / 2)
      · rw [if_pos y2] at hm; omega
      · rw [if_neg y2] at hm; omega
end
def sp_X4_useFalling (As : List Value) (u : dm_S) (Q : Option Value → dm_S → Prop) : Prop := match As with
  | [.ref 6, .long d] => ∃ (n K : Nat) (b e : Nat → Nat) (c mm lo ex p : Nat → Int) (dl : Int), LA u n K b e mm lo ex ∧ fits K mm lo ∧ (∀ l, l < K → mm l ≤ 1000000000) ∧ u.2 23 = lF c ∧ (∀ l, l < K → -1000000 ≤ c l ∧ c l ≤ 1000000) ∧ u.2 36 = lF p ∧ (∀ v, v < n → -1152921504606846976 ≤ p v ∧ p v ≤ 1152921504606846976) ∧ d = lI dl ∧ lB dl ∧ 1 ≤ dl ∧ Q none (st_x u (ufS b e c mm p dl lo ex (2 * K)).1 (ufS b e c mm p dl lo ex (2 * K)).2)
  | _ => False
def p_X4_useFalling : List dm_I := [(0, .iconst 0, 1, []), (1, .istore_n 3, 1, [3]), (2, .iload_n 3, 1, [3]), (3, .iconst 2, 1, []), (4, .aload_n 0, 1, [0]), (5, .getfield 30, 3, []), (8, .getfield 48, 3, []), (11, .imul, 1, []), (12, .if_icmp .ge 79, 3, [91]), (15, .aload_n 0, 1, [0]), (16, .getfield 30, 3, []), (19, .iload_n 3, 1, [3]), (20, .invokevirtual 54, 3, []), (23, .lstore 4, 2, []), (25, .aload_n 0, 1, [0]), (26, .getfield 34, 3, []), (29, .aload_n 0, 1, [0]), (30, .getfield 30, 3, []), (33, .iload_n 3, 1, [3]), (34, .invokevirtual 58, 3, []), (37, .laload, 1, []), (38, .aload_n 0, 1, [0]), (39, .getfield 34, 3, []), (42, .aload_n 0, 1, [0]), (43, .getfield 30, 3, []), (46, .iload_n 3, 1, [3]), (47, .invokevirtual 62, 3, []), (50, .laload, 1, []), (51, .lsub, 1, []), (52, .lstore 6, 2, []), (54, .lload 4, 2, []), (56, .lload_n 1, 1, [1]), (57, .lcmp, 1, []), (58, .ifCond .lt 27, 3, [85]), (61, .aload_n 0, 1, [0]), (62, .getfield 30, 3, []), (65, .iload_n 3, 1, [3]), (66, .invokevirtual 65, 3, []), (69, .lload 6, 2, []), (71, .lcmp, 1, []), (72, .ifCond .ge 13, 3, [85]), (75, .aload_n 0, 1, [0]), (76, .getfield 30, 3, []), (79, .iload_n 3, 1, [3]), (80, .lload 4, 2, []), (82, .invokevirtual 68, 3, []), (85, .iinc 3 1, 3, []), (88, .goto (-86), 3, [2]), (91, .return_, 1, [])]
set_option maxRecDepth 100000 in
theorem v_X4_useFalling : p_X4_useFalling.all (dm_vb cX4_useFalling) = true := by decide +kernel
def k_X4_useFalling : dm_Sp := fun a => match a with
  | 0 => sp_X1_roomOf
  | 1 => sp_X1_endOf
  | 2 => sp_X1_beginOf
  | 3 => sp_X1_rateOf
  | 4 => sp_X1_push
  | _ => fun _ _ _ => False
def x_X4_useFalling : dm_X := dm_mk [(30, 4, 1), (34, 4, 2), (48, 1, 10)] [] [] [(54, 0, 1, 1), (58, 1, 1, 1), (62, 2, 1, 1), (65, 3, 1, 1), (68, 4, 2, 1)] 0
set_option maxRecDepth 100000 in
set_option maxHeartbeats 1600000 in
theorem u_X4_useFalling : dm_Pure shC x_X4_useFalling k_X4_useFalling p_X4_useFalling 8 sp_X4_useFalling := by
  intro As u Qp hh
  unfold sp_X4_useFalling at hh
  split at hh
  · obtain ⟨n, K, b, e, c, mm, lo, ex, p, dl, hA, hl, hW, e23, hc, e36, hp, rfl, hdl, hd1, h⟩ := hh
    obtain ⟨hn, hK, en, eK⟩ := hA.1.1
    have hnd := ln_nd hA.1
    refine ⟨Nat.le_of_ble_eq_true rfl, fun G Wp hW0 hW1 hG => ?_⟩
    have loop : ∀ k w : Nat, w + k = 2 * K → ∀ (o4 o5 o6 o7 : Option Value), G 2 [some (.ref 6), some (.long (lI dl)), none, some (.int (nI w)), o4, o5, o6, o7] [] (st_x u (ufS b e c mm p dl lo ex w).1 (ufS b e c mm p dl lo ex w).2) := by
      intro k
      induction k with
      | zero =>
        intro w hw o4 o5 o6 o7
        have e0 : w = 2 * K := by omega
        subst e0
        apply hG (fun pc => pc == 2) 80
        simp (config := { maxSteps := 2000000 }) [-Prod.forall, -Prod.exists, -exists_and_left, -exists_and_right, hW0, hW1, dm_fn, dm_fd, dm_x, dm_L0, dm_la, dm_t1, dm_sw, List.headD, dm_ic, dm_mk, dm_s1, dm_s2, dm_clr, dm_cs, dm_cc, dm_nb0, dm_nb1, Value.category, List.lookup, p_X4_useFalling, x_X4_useFalling, k_X4_useFalling, dm_cm, upd, vp_updL, dm_ui_1, dm_ui_2, dm_ul_1, dm_ul_2, sp_X1_roomOf, sp_X1_endOf, sp_X1_beginOf, sp_X1_rateOf, sp_X1_push, sC_0, sC_1, sC_2, sC_3, sC_4, sC_5, sC_6, sC_7, sC_8, sC_9, sC_10, sC_11, sC_12, sC_13, sC_14, sC_15, sC_16, sC_17, sC_18, sC_19, sC_20, sC_21, sC_22, sC_23, sC_24, sC_25, sC_26, sC_27, sC_28, sC_29, sC_30, sC_31, sC_32, sC_33, sC_34, sC_35, sC_36, sC_37, sC_38, sC_39, sC_40, sC_41, sC_42, sC_43, sC_44, sC_45, sC_46, sC_47, sC_48, sC_49, sC_50, sC_51]
        rw [st_x1, eK, show (2 : Int32) = nI 2 from rfl, pk_mul]
        exact ⟨fun _ => h, fun zq => absurd zq (nI_nlt (Nat.le_refl _) (by omega))⟩
      | succ k ih =>
        intro w hw o4 o5 o6 o7
        have hwK : w < 2 * K := by omega
        obtain ⟨i1, i2, i3⟩ := ufS_ex (n := n) (c := c) (p := p) (ex := ex) hnd hl hd1 hW w (by omega)
        obtain ⟨e1, l1⟩ := ln_b hA.1 hwK
        obtain ⟨e2, l2⟩ := ln_e hA.1 hwK
        have hLA : LA (st_x u (ufS b e c mm p dl lo ex w).1 (ufS b e c mm p dl lo ex w).2) n K b e mm (ufS b e c mm p dl lo ex w).1 (ufS b e c mm p dl lo ex w).2 := ⟨hA.1, (st_xo (by decide) (by decide)).trans hA.2.1, st_x24, st_x25⟩
        have hrm := LA_m (w := w) hLA
        have hr := LA_r (w := w) (u := st_x u (ufS b e c mm p dl lo ex w).1 (ufS b e c mm p dl lo ex w).2) ((st_xo (by decide) (by decide)).trans e23)
        have hb1 : lw_b (st_x u (ufS b e c mm p dl lo ex w).1 (ufS b e c mm p dl lo ex w).2) w = nI (wb b e w) := e1
        have he1 : lw_e (st_x u (ufS b e c mm p dl lo ex w).1 (ufS b e c mm p dl lo ex w).2) w = nI (we b e w) := e2
        have h36 : (st_x u (ufS b e c mm p dl lo ex w).1 (ufS b e c mm p dl lo ex w).2).2 36 = lF p := (st_xo (by decide) (by decide)).trans e36
        have cb : (nI (wb b e w)).toNatClampNeg = wb b e w := nI_clamp (by omega)
        have ce : (nI (we b e w)).toNatClampNeg = we b e w := nI_clamp (by omega)
        have hlw := i1 (w / 2) (by omega)
        have hWw := hW (w / 2) (by omega)
        have hBm : lB (wm mm (ufS b e c mm p dl lo ex w).1 w) := by
          unfold lB wm
          split <;> omega
        have hpb := hp _ l1
        have hpe := hp _ l2
        have hwr := wr_bd hc hwK
        have ib : vp_in (nI (wb b e w)) 24 := vp_in_nI (by omega) (by omega)
        have ie : vp_in (nI (we b e w)) 24 := vp_in_nI (by omega) (by omega)
        have hu := ufS_s (b := b) (e := e) (c := c) (mm := mm) (p := p) (dl := dl) (lo := lo) (ex := ex) (k := w)
        apply hG (fun pc => pc == 2) 80
        simp (config := { maxSteps := 2000000 }) [-Prod.forall, -Prod.exists, -exists_and_left, -exists_and_right, hW0, hW1, dm_fn, dm_fd, dm_x, dm_L0, dm_la, dm_t1, dm_sw, List.headD, dm_ic, dm_mk, dm_s1, dm_s2, dm_clr, dm_cs, dm_cc, dm_nb0, dm_nb1, Value.category, List.lookup, p_X4_useFalling, x_X4_useFalling, k_X4_useFalling, dm_cm, upd, vp_updL, dm_ui_1, dm_ui_2, dm_ul_1, dm_ul_2, sp_X1_roomOf, sp_X1_endOf, sp_X1_beginOf, sp_X1_rateOf, sp_X1_push, sC_0, sC_1, sC_2, sC_3, sC_4, sC_5, sC_6, sC_7, sC_8, sC_9, sC_10, sC_11, sC_12, sC_13, sC_14, sC_15, sC_16, sC_17, sC_18, sC_19, sC_20, sC_21, sC_22, sC_23, sC_24, sC_25, sC_26, sC_27, sC_28, sC_29, sC_30, sC_31, sC_32, sC_33, sC_34, sC_35, sC_36, sC_37, sC_38, sC_39, sC_40, sC_41, sC_42, sC_43, sC_44, sC_45, sC_46, sC_47, sC_48, sC_49, sC_50, sC_51]
        rw [st_x1, eK, show (2 : Int32) = nI 2 from rfl, pk_mul, nI_1]
        refine ⟨fun zq => absurd zq (nI_ge (by omega) (by omega)), fun zq => ⟨w, by omega, rfl, w, by omega, rfl, ?_⟩⟩
        have keep : ¬ (dl ≤ wm mm (ufS b e c mm p dl lo ex w).1 w ∧ wr c w < p (we b e w) - p (wb b e w)) → ∀ (o4 o5 o6 o7 : Option Value), G 2 [some (.ref 6), some (.long (lI dl)), none, some (.int (nI (w + 1))), o4, o5, o6, o7] [] (st_x u (ufS b e c mm p dl lo ex w).1 (ufS b e c mm p dl lo ex w).2) := by
          intro hk o4 o5 o6 o7
          have := ih (w + 1) (by omega) o4 o5 o6 o7
          rw [hu, if_neg hk] at this
          exact this
        have hBw : lB (wr c w) := by unfold lB; omega
        have hBg : lB (p (we b e w) - p (wb b e w)) := by unfold lB; omega
        refine ⟨by rw [he1]; exact ie, w, by omega, rfl, by rw [hb1]; exact ib, fun z => ?_, fun z => ⟨w, by omega, rfl, fun z2 => ?_, fun z2 => ⟨w, by omega, rfl, by rw [hb1]; exact ib, by rw [he1]; exact ie, ?_⟩⟩⟩
        · rw [hrm, lI_lt hBm hdl] at z
          exact keep (fun y => by omega) _ _ _ _
        · rw [hr, h36, he1, hb1, ce, cb, lF_at, lF_at, lI_sub, lI_le hBg hBw] at z2
          exact keep (fun y => by omega) _ _ _ _
        · rw [hrm, lI_le hdl hBm] at z
          rw [hr, h36, he1, hb1, ce, cb, lF_at, lF_at, lI_sub, lI_lt hBw hBg] at z2
          rw [hrm, ln_pu hA.1 hwK]
          have := ih (w + 1) (by omega)
          rw [hu, if_pos ⟨z, z2⟩] at this
          exact this _ _ _ _
    apply hG (fun pc => pc == 2) 80
    simp (config := { maxSteps := 2000000 }) [-Prod.forall, -Prod.exists, -exists_and_left, -exists_and_right, hW0, hW1, dm_fn, dm_fd, dm_x, dm_L0, dm_la, dm_t1, dm_sw, List.headD, dm_ic, dm_mk, dm_s1, dm_s2, dm_clr, dm_cs, dm_cc, dm_nb0, dm_nb1, Value.category, List.lookup, p_X4_useFalling, x_X4_useFalling, k_X4_useFalling, dm_cm, upd, vp_updL, dm_ui_1, dm_ui_2, dm_ul_1, dm_ul_2, sp_X1_roomOf, sp_X1_endOf, sp_X1_beginOf, sp_X1_rateOf, sp_X1_push, sC_0, sC_1, sC_2, sC_3, sC_4, sC_5, sC_6, sC_7, sC_8, sC_9, sC_10, sC_11, sC_12, sC_13, sC_14, sC_15, sC_16, sC_17, sC_18, sC_19, sC_20, sC_21, sC_22, sC_23, sC_24, sC_25, sC_26, sC_27, sC_28, sC_29, sC_30, sC_31, sC_32, sC_33, sC_34, sC_35, sC_36, sC_37, sC_38, sC_39, sC_40, sC_41, sC_42, sC_43, sC_44, sC_45, sC_46, sC_47, sC_48, sC_49, sC_50, sC_51]
    have := loop (2 * K) 0 (by omega) none none none none
    rw [show st_x u (ufS b e c mm p dl lo ex 0).1 (ufS b e c mm p dl lo ex 0).2 = u from st_xs hA.2.2.1 hA.2.2.2] at this
    exact this
  · exact hh.elim
set_option maxRecDepth 100000 in
theorem t_X4_useFalling (l : Launch) (D : va_G) (cA : Nat → ClassId) (ad : Nat → Nat) : dm_Met l D dm_cl cA ad shC yX4_useFalling (Cond.code yX4_useFalling cX4_useFalling 8 (dm_rt 0) :: dm_tt) ({ frames := 2, cells := 0, slots := 0, locals := 44 } : Room) sp_X4_useFalling := dm_meth (own := RX4) (X := x_X4_useFalling) (Sp := k_X4_useFalling) (prog := p_X4_useFalling) (by decide +kernel) rfl rfl (dm_FO_s ffX4 [(30, 4, 1), (34, 4, 2), (48, 1, 10)] rfl dm_hT (by decide +kernel)) (dm_IO_s ifX4 jfX4 [] [] rfl rfl dm_hT (by decide +kernel) (by decide +kernel)) soC (dm_MO_of (List.forall_mem_cons.mpr ⟨dm_M1_of (t_X1_roomOf l D cA ad) dm_hT (dm_mem [618, 68, 754] (by decide +kernel) (by decide +kernel)) (by decide) (by decide +kernel) (Or.inr ⟨by decide, dm_mem [616, 617] (by decide +kernel) (by decide +kernel), rfl⟩), List.forall_mem_cons.mpr ⟨dm_M1_of (t_X1_endOf l D cA ad) dm_hT (dm_mem [614, 68, 755] (by decide +kernel) (by decide +kernel)) (by decide) (by decide +kernel) (Or.inr ⟨by decide, dm_mem [612, 613] (by decide +kernel) (by decide +kernel), rfl⟩), List.forall_mem_cons.mpr ⟨dm_M1_of (t_X1_beginOf l D cA ad) dm_hT (dm_mem [553, 68, 756] (by decide +kernel) (by decide +kernel)) (by decide) (by decide +kernel) (Or.inr ⟨by decide, dm_mem [551, 552] (by decide +kernel) (by decide +kernel), rfl⟩), List.forall_mem_cons.mpr ⟨dm_M1_of (t_X1_rateOf l D cA ad) dm_hT (dm_mem [705, 68, 757] (by decide +kernel) (by decide +kernel)) (by decide) (by decide +kernel) (Or.inr ⟨by decide, dm_mem [703, 704] (by decide +kernel) (by decide +kernel), rfl⟩), List.forall_mem_cons.mpr ⟨dm_M1_of (t_X1_push l D cA ad) dm_hT (dm_mem [629, 68, 758] (by decide +kernel) (by decide +kernel)) (by decide) (by decide +kernel) (Or.inr ⟨by decide, dm_mem [627, 628] (by decide +kernel) (by decide +kernel), rfl⟩), fun _ h => absurd h List.not_mem_nil⟩⟩⟩⟩⟩)) v_X4_useFalling u_X4_useFalling
