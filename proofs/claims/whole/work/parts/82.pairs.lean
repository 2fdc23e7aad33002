/-! ===== THE ASSIGNMENT, as mathematics ===== -/
def pF : Int := 1152921504606846976
def psw (c T : Nat → Int) (g j : Nat) : Int := if g / 2 ^ j % 2 = 1 ∨ c (8 * pr_pc g + j) = pF ∨ T (g ||| 2 ^ j) = pF then pF else c (8 * pr_pc g + j) + T (g ||| 2 ^ j)
def pmn (c T : Nat → Int) (g : Nat) : Nat → Int
  | 0 => pF
  | j + 1 => if pmn c T g j ≤ psw c T g j then pmn c T g j else psw c T g j
def pT (n : Nat) (c T : Nat → Int) : Prop := T (2 ^ n - 1) = 0 ∧ ∀ g, g < 2 ^ n - 1 → T g = pmn c T g n
def pBd (c : Nat → Int) : Prop := ∀ k, k < 64 → c k = pF ∨ (-1000000 ≤ c k ∧ c k ≤ 1000000)
theorem pr_up : ∀ g, g < 256 → ∀ j, j < 8 → g / 2 ^ j % 2 ≠ 1 → g < g ||| 2 ^ j ∧ pr_pc (g ||| 2 ^ j) = pr_pc g + 1 := by decide +kernel
theorem pr_n1 : ∀ n, n < 9 → ∀ g, g < 256 → g < 2 ^ n - 1 → pr_pc g < n := by decide +kernel
theorem pr_n2 : ∀ n, n < 9 → ∀ g, g < 256 → g < 2 ^ n → ∀ j, j < n → g ||| 2 ^ j < 2 ^ n := by decide +kernel
theorem pr_n3 : ∀ n, n < 9 → pr_pc (2 ^ n - 1) = n := by decide +kernel
theorem pr_2n : ∀ n, n < 9 → 2 ^ n ≤ 256 ∧ 1 ≤ 2 ^ n := by decide +kernel
theorem psw_cg {c T T' : Nat → Int} {n g j : Nat} (hn : n < 9) (hg : g < 2 ^ n) (hj : j < n) (h : ∀ g', g < g' → g' < 2 ^ n → T g' = T' g') : psw c T g j = psw c T' g j := by
  have h2 := pr_2n n hn
  unfold psw
  by_cases z : g / 2 ^ j % 2 = 1
  · rw [if_pos (Or.inl z), if_pos (Or.inl z)]
  · rw [h _ (pr_up g (by omega) j (by omega) z).1 (pr_n2 n hn g (by omega) hg j hj)]
theorem pmn_cg {c T T' : Nat → Int} {n g : Nat} (hn : n < 9) (hg : g < 2 ^ n) (h : ∀ g', g < g' → g' < 2 ^ n → T g' = T' g') : ∀ j, j ≤ n → pmn c T g j = pmn c T' g j
  | 0, _ => rfl
  | j + 1, hj => by
    unfold pmn
    rw [pmn_cg hn hg h j (by omega), psw_cg hn hg (by omega) h]
theorem pT_un {n : Nat} {c T T' : Nat → Int} (hn : n < 9) (h : pT n c T) (h' : pT n c T') : ∀ k g, g + k = 2 ^ n - 1 → T g = T' g := by
  have h2 := pr_2n n hn
  have key : ∀ k g, g + k = 2 ^ n - 1 → ∀ g', g ≤ g' → g' < 2 ^ n → T g' = T' g' := by
    intro k
    induction k with
    | zero =>
      intro g hg g' h1 h3
      rw [show g' = 2 ^ n - 1 by omega, h.1, h'.1]
    | succ k ih =>
      intro g hg g' h1 h3
      rcases Nat.lt_or_ge g g' with z | z
      · exact ih (g + 1) (by omega) g' (by omega) h3
      · have e : g' = g := by omega
        subst e
        rw [h.2 g' (by omega), h'.2 g' (by omega)]
        exact pmn_cg hn h3 (fun g2 a b => ih (g' + 1) (by omega) g2 (by omega) b) n (Nat.le_refl _)
  intro k g hg
  exact key k g hg g (Nat.le_refl _) (by omega)
/-- the least is one of them, or FAR -/
theorem pmn_is {c T : Nat → Int} {g : Nat} : ∀ n, pmn c T g n = pF ∨ ∃ j, j < n ∧ psw c T g j = pmn c T g n
  | 0 => Or.inl rfl
  | n + 1 => by
    unfold pmn
    by_cases z : pmn c T g n ≤ psw c T g n
    · rw [if_pos z]
      rcases pmn_is (c := c) (T := T) (g := g) n with y | ⟨j, h1, h2⟩
      · exact Or.inl y
      · exact Or.inr ⟨j, by omega, h2⟩
    · rw [if_neg z]
      exact Or.inr ⟨n, by omega, rfl⟩
theorem pT_bd {n : Nat} {c T : Nat → Int} (hn : n < 9) (hc : pBd c) (h : pT n c T) : ∀ k g : Nat, g + k = 2 ^ n - 1 → T g = pF ∨ (-(1000000 * (k : Int)) ≤ T g ∧ T g ≤ 1000000 * (k : Int)) := by
  have h2 := pr_2n n hn
  have key : ∀ k g : Nat, g + k = 2 ^ n - 1 → ∀ k' g' : Nat, k' ≤ k → g' + k' = 2 ^ n - 1 → T g' = pF ∨ (-(1000000 * (k' : Int)) ≤ T g' ∧ T g' ≤ 1000000 * (k' : Int)) := by
    intro k
    induction k with
    | zero =>
      intro g hg k' g' h1 h3
      rw [show g' = 2 ^ n - 1 by omega, h.1]
      right; omega
    | succ k ih =>
      intro g hg k' g' h1 h3
      rcases Nat.lt_or_ge k k' with z | z
      · have e : k' = k + 1 := by omega
        subst e
        rw [h.2 g' (by omega)]
        rcases pmn_is (c := c) (T := T) (g := g') n with y | ⟨j, j1, j2⟩
        · exact Or.inl y
        · rw [← j2]
          unfold psw
          by_cases w : g' / 2 ^ j % 2 = 1 ∨ c (8 * pr_pc g' + j) = pF ∨ T (g' ||| 2 ^ j) = pF
          · rw [if_pos w]; exact Or.inl rfl
          · rw [if_neg w]
            right
            have w1 : g' / 2 ^ j % 2 ≠ 1 := fun t => w (Or.inl t)
            have w2 : c (8 * pr_pc g' + j) ≠ pF := fun t => w (Or.inr (Or.inl t))
            have w3 : T (g' ||| 2 ^ j) ≠ pF := fun t => w (Or.inr (Or.inr t))
            have u1 := pr_up g' (by omega) j (by omega) w1
            have u2 := pr_n2 n hn g' (by omega) (by omega) j j1
            have u3 := pr_n1 n hn g' (by omega) (by omega)
            have c1 := (hc (8 * pr_pc g' + j) (by omega)).resolve_left w2
            have t1 := (ih (g' + 1) (by omega) (2 ^ n - 1 - (g' ||| 2 ^ j)) (g' ||| 2 ^ j) (by omega) (by omega)).resolve_left w3
            omega
      · exact ih (g + 1) (by omega) k' g' z h3
  intro k g hg
  exact key k g hg k g (Nat.le_refl _) hg
theorem pT_b {n : Nat} {c T : Nat → Int} (hn : n < 9) (hc : pBd c) (h : pT n c T) {g : Nat} (hg : g < 2 ^ n) : T g = pF ∨ (-255000000 ≤ T g ∧ T g ≤ 255000000) := by
  have h2 := pr_2n n hn
  rcases pT_bd hn hc h (2 ^ n - 1 - g) g (by omega) with z | z
  · exact Or.inl z
  · right; omega
/-- the mates -/
def pMt (n : Nat) (c T : Nat → Int) (m gv : Nat → Nat) (k : Nat) : Prop := gv 0 = 0 ∧ ∀ i, i < k → (m i < n ∧ psw c T (gv i) (m i) = T (gv i) ∧ ∀ j, j < m i → psw c T (gv i) j ≠ T (gv i)) ∧ gv (i + 1) = gv i ||| 2 ^ m i
theorem pMt_un {n : Nat} {c T T' : Nat → Int} {m gv m' gv' : Nat → Nat} {k : Nat} (hp : ∀ g j, j < n → g < 2 ^ n → psw c T g j = psw c T' g j) (hT : ∀ g, g < 2 ^ n → T g = T' g) (hg : ∀ i, i < k → gv i < 2 ^ n) (h : pMt n c T m gv k) (h' : pMt n c T' m' gv' k) : ∀ i, i ≤ k → gv i = gv' i ∧ (i < k → m i = m' i) := by
  intro i
  induction i with
  | zero =>
    intro _
    have e : gv 0 = gv' 0 := h.1.trans h'.1.symm
    refine ⟨e, fun hk => ?_⟩
    obtain ⟨⟨a1, a2, a3⟩, -⟩ := h.2 0 hk
    obtain ⟨⟨b1, b2, b3⟩, -⟩ := h'.2 0 hk
    rw [← e] at b2 b3
    have q := hg 0 hk
    rcases Nat.lt_trichotomy (m 0) (m' 0) with z | z | z
    · exact absurd ((hp _ _ a1 q).symm.trans (a2.trans (hT _ q))) (b3 _ z)
    · exact z
    · exact absurd ((hp _ _ b1 q).trans (b2.trans (hT _ q).symm)) (a3 _ z)
  | succ i ih =>
    intro hi
    obtain ⟨e0, e1⟩ := ih (by omega)
    have e : gv (i + 1) = gv' (i + 1) := by
      rw [(h.2 i (by omega)).2, (h'.2 i (by omega)).2, e0, e1 (by omega)]
    refine ⟨e, fun hk => ?_⟩
    obtain ⟨⟨a1, a2, a3⟩, -⟩ := h.2 (i + 1) hk
    obtain ⟨⟨b1, b2, b3⟩, -⟩ := h'.2 (i + 1) hk
    rw [← e] at b2 b3
    have q := hg (i + 1) hk
    rcases Nat.lt_trichotomy (m (i + 1)) (m' (i + 1)) with z | z | z
    · exact absurd ((hp _ _ a1 q).symm.trans (a2.trans (hT _ q))) (b3 _ z)
    · exact z
    · exact absurd ((hp _ _ b1 q).trans (b2.trans (hT _ q).symm)) (a3 _ z)
/-- as long as THE ASSIGNMENT goes on -/
def pgo (n : Nat) (T : Nat → Int) (g i : Nat) : Prop := g < 2 ^ n ∧ pr_pc g = i ∧ T g ≠ pF
theorem pr_full : ∀ n, n < 9 → ∀ g, g < 256 → g < 2 ^ n → pr_pc g < n → g < 2 ^ n - 1 := by decide +kernel
theorem pgo_ex {n : Nat} {c T : Nat → Int} {g i : Nat} (hn : n < 9) (h : pT n c T) (hi : i < n) (hg : pgo n T g i) : ∃ j, j < n ∧ psw c T g j = T g := by
  have h2 := pr_2n n hn
  obtain ⟨g1, g2, g3⟩ := hg
  have g4 := h.2 g (pr_full n hn g (by omega) g1 (by omega))
  rcases pmn_is (c := c) (T := T) (g := g) n with y | ⟨j, j1, j2⟩
  · exact absurd (g4.trans y) g3
  · exact ⟨j, j1, j2.trans g4.symm⟩
theorem pgo_s {n : Nat} {c T : Nat → Int} {g i j : Nat} (hn : n < 9) (hi : i < n) (hj : j < n) (hg : pgo n T g i) (h : psw c T g j = T g) : pgo n T (g ||| 2 ^ j) (i + 1) ∧ g / 2 ^ j % 2 ≠ 1 ∧ c (8 * i + j) ≠ pF ∧ c (8 * i + j) + T (g ||| 2 ^ j) = T g := by
  have h2 := pr_2n n hn
  obtain ⟨g1, g2, g3⟩ := hg
  unfold psw at h
  by_cases w : g / 2 ^ j % 2 = 1 ∨ c (8 * pr_pc g + j) = pF ∨ T (g ||| 2 ^ j) = pF
  · rw [if_pos w] at h; exact absurd h.symm g3
  · rw [if_neg w] at h
    have w1 : g / 2 ^ j % 2 ≠ 1 := fun t => w (Or.inl t)
    have w2 : c (8 * pr_pc g + j) ≠ pF := fun t => w (Or.inr (Or.inl t))
    have w3 : T (g ||| 2 ^ j) ≠ pF := fun t => w (Or.inr (Or.inr t))
    have u1 := pr_up g (by omega) j (by omega) w1
    exact ⟨⟨pr_n2 n hn g (by omega) g1 j hj, by omega, w3⟩, w1, by rw [← g2]; exact w2, by rw [← g2]; exact h⟩
theorem pT_ex {n : Nat} (hn : n < 9) (c : Nat → Int) : ∃ T, pT n c T := by
  have h2 := pr_2n n hn
  have key : ∀ k, k ≤ 2 ^ n - 1 → ∃ T : Nat → Int, T (2 ^ n - 1) = 0 ∧ ∀ g, 2 ^ n - 1 - k ≤ g → g < 2 ^ n - 1 → T g = pmn c T g n := by
    intro k
    induction k with
    | zero => intro _; exact ⟨fun _ => 0, rfl, fun g h1 h3 => by omega⟩
    | succ k ih =>
      intro hk
      obtain ⟨T, t1, t2⟩ := ih (by omega)
      refine ⟨fun g => if g = 2 ^ n - 1 - (k + 1) then pmn c T g n else T g, ?_, fun g h1 h3 => ?_⟩
      · show (if _ then _ else _) = _
        rw [if_neg (by omega)]; exact t1
      · have e : ∀ g', g < g' → g' < 2 ^ n → (fun g => if g = 2 ^ n - 1 - (k + 1) then pmn c T g n else T g) g' = T g' := fun g' a b => by
          show (if _ then _ else _) = _
          rw [if_neg (by omega)]
        rw [pmn_cg hn (by omega) e n (Nat.le_refl _)]
        show (if _ then _ else _) = _
        by_cases z : g = 2 ^ n - 1 - (k + 1)
        · rw [if_pos z]
        · rw [if_neg z]; exact t2 g (by omega) h3
  obtain ⟨T, t1, t2⟩ := key (2 ^ n - 1) (Nat.le_refl _)
  exact ⟨T, t1, fun g hg => t2 g (by omega) hg⟩
theorem pmn_bd {n : Nat} {c T : Nat → Int} (hn : n < 9) (hc : pBd c) (h : pT n c T) {g : Nat} (hg : g < 2 ^ n - 1) {j : Nat} (hj : j < n) : psw c T g j = pF ∨ (-256000000 ≤ psw c T g j ∧ psw c T g j ≤ 256000000) := by
  have h2 := pr_2n n hn
  unfold psw
  by_cases w : g / 2 ^ j % 2 = 1 ∨ c (8 * pr_pc g + j) = pF ∨ T (g ||| 2 ^ j) = pF
  · rw [if_pos w]; exact Or.inl rfl
  · rw [if_neg w]
    right
    have w2 : c (8 * pr_pc g + j) ≠ pF := fun t => w (Or.inr (Or.inl t))
    have w3 : T (g ||| 2 ^ j) ≠ pF := fun t => w (Or.inr (Or.inr t))
    have u2 := pr_n2 n hn g (by omega) (by omega) j hj
    have u3 := pr_n1 n hn g (by omega) hg
    have c1 := (hc (8 * pr_pc g + j) (by omega)).resolve_left w2
    have t1 := (pT_b hn hc h u2).resolve_left w3
    omega
theorem pmn_b {n : Nat} {c T : Nat → Int} (hn : n < 9) (hc : pBd c) (h : pT n c T) {g : Nat} (hg : g < 2 ^ n - 1) : ∀ j, j ≤ n → lB (pmn c T g j)
  | 0, _ => by unfold pmn lB pF; omega
  | j + 1, hj => by
    have h1 := pmn_b hn hc h hg j (by omega)
    have h2 := pmn_bd hn hc h hg (j := j) (by omega)
    unfold pmn
    split
    · exact h1
    · unfold lB; unfold pF at h2; omega
def PC (u : dm_S) (n : Nat) (c : Nat → Int) : Prop := (n < 9 ∧ u.1 10 3 = nI n) ∧ pBd c ∧ ∀ k, k < 64 → u.2 49 k = lI (c k)
theorem pF_lB : lB pF := by unfold lB pF; omega
theorem pF_l : lI pF = 1152921504606846976 := rfl
theorem pr_swI {u : dm_S} {n g j : Nat} {c T : Nat → Int} (hC : PC u n c) (hT : pT n c T) (hg : g < 2 ^ n - 1) (hj : j < n) (h : ∀ g', g < g' → g' < 2 ^ n → u.2 51 g' = lI (T g')) : pr_sw u g j = lI (psw c T g j) := by
  obtain ⟨⟨hn, -⟩, hc, h49⟩ := hC
  have h2 := pr_2n n hn
  have u2 := pr_n2 n hn g (by omega) (by omega) j hj
  have u3 := pr_n1 n hn g (by omega) hg
  have c1 : c (8 * pr_pc g + j) = pF ↔ u.2 49 (8 * pr_pc g + j) = 1152921504606846976 := by
    have := hc (8 * pr_pc g + j) (by omega)
    rw [h49 _ (by omega), ← pF_l, lI_eq ?_ pF_lB]
    unfold lB; unfold pF at this; omega
  unfold pr_sw psw
  by_cases z : g / 2 ^ j % 2 = 1
  · rw [if_pos (Or.inl z), if_pos (Or.inl z)]; rfl
  · have e := h _ (pr_up g (by omega) j (by omega) z).1 u2
    have t1 : T (g ||| 2 ^ j) = pF ↔ u.2 51 (g ||| 2 ^ j) = 1152921504606846976 := by
      have := pT_b hn hc hT u2
      rw [e, ← pF_l, lI_eq ?_ pF_lB]
      unfold lB; unfold pF at this; omega
    by_cases w : g / 2 ^ j % 2 = 1 ∨ c (8 * pr_pc g + j) = pF ∨ T (g ||| 2 ^ j) = pF
    · rw [if_pos w, if_pos (w.imp id (Or.imp c1.mp t1.mp))]; rfl
    · rw [if_neg w, if_neg (fun y => w (y.imp id (Or.imp c1.mpr t1.mpr))), e, h49 _ (by omega), lI_add]
def gl_fr (u u' : dm_S) : Prop := (∀ c, c ≠ 50 → u'.1 c = u.1 c) ∧ u'.2 = u.2
theorem PC_gl {u u' : dm_S} {n : Nat} {c : Nat → Int} (h : PC u n c) (hf : gl_fr u u') : PC u' n c := by
  unfold PC; rw [hf.1 10 (by decide), hf.2]; exact h
theorem vp_0 {n : Nat} (h : 0 < n ∧ n ≤ 256) : vp_in 0 n := vp_in_nI (n := 0) h.1 (by omega)
def sp_X3_giveLowest (As : List Value) (u : dm_S) (Q : Option Value → dm_S → Prop) : Prop := match As with
  | [.ref 10] => ∃ (n : Nat) (c T : Nat → Int), PC u n c ∧ pT n c T ∧ (∀ g, g < 2 ^ n → u.2 51 g = lI (T g)) ∧ T 0 ≠ pF ∧ ∀ (u' : dm_S) (m gv : Nat → Nat), gl_fr u u' → pMt n c T m gv n → (∀ i, i < n → u'.1 50 i = nI (m i)) → Q none u'
  | _ => False
def p_X3_giveLowest : List dm_I := [(0, .iconst 0, 1, []), (1, .istore_n 1, 1, [1]), (2, .iconst 0, 1, []), (3, .istore_n 2, 1, [2]), (4, .iload_n 2, 1, [2]), (5, .aload_n 0, 1, [0]), (6, .getfield 22, 3, []), (9, .if_icmp .ge 63, 3, [72]), (12, .iconst 0, 1, []), (13, .istore_n 3, 1, [3]), (14, .aload_n 0, 1, [0]), (15, .getfield 22, 3, []), (18, .iconst 1, 1, []), (19, .isub, 1, []), (20, .istore 4, 2, []), (22, .iload 4, 2, []), (24, .ifCond .lt 29, 3, [53]), (27, .aload_n 0, 1, [0]), (28, .iload_n 1, 1, [1]), (29, .iload 4, 2, []), (31, .invokevirtual 41, 3, []), (34, .aload_n 0, 1, [0]), (35, .getfield 19, 3, []), (38, .iload_n 1, 1, [1]), (39, .laload, 1, []), (40, .lcmp, 1, []), (41, .ifCond .ne 6, 3, [47]), (44, .iload 4, 2, []), (46, .istore_n 3, 1, [3]), (47, .iinc 4 (-1), 3, []), (50, .goto (-28), 3, [22]), (53, .aload_n 0, 1, [0]), (54, .getfield 15, 3, []), (57, .iload_n 2, 1, [2]), (58, .iload_n 3, 1, [3]), (59, .iastore, 1, []), (60, .iload_n 1, 1, [1]), (61, .iconst 1, 1, []), (62, .iload_n 3, 1, [3]), (63, .ishl, 1, []), (64, .ior, 1, []), (65, .istore_n 1, 1, [1]), (66, .iinc 2 1, 3, []), (69, .goto (-65), 3, [4]), (72, .return_, 1, [])]
set_option maxRecDepth 100000 in
theorem v_X3_giveLowest : p_X3_giveLowest.all (dm_vb cX3_giveLowest) = true := by decide +kernel
def k_X3_giveLowest : dm_Sp := fun a => match a with
  | 0 => sp_X3_sumWith
  | _ => fun _ _ _ => False
def x_X3_giveLowest : dm_X := dm_mk [(15, 3, 1), (19, 3, 2), (22, 3, 3)] [] [] [(41, 0, 2, 3)] 0
set_option maxRecDepth 100000 in
set_option maxHeartbeats 800000 in
theorem u_X3_giveLowest : dm_Pure shC x_X3_giveLowest k_X3_giveLowest p_X3_giveLowest 5 sp_X3_giveLowest := by
  intro As u Qp hh
  unfold sp_X3_giveLowest at hh
  split at hh
  · obtain ⟨n, c, T, hC, hT, hS, hF, hQ⟩ := hh
    obtain ⟨⟨hn, en⟩, hc, h49⟩ := hC
    have h2 := pr_2n n hn
    refine ⟨Nat.le_of_ble_eq_true rfl, fun G Wp hW0 hW1 hG => ?_⟩
    have outer : ∀ k i : Nat, i + k = n → ∀ (u' : dm_S) (m gv : Nat → Nat) (o3 o4 : Option Value), gl_fr u u' → pMt n c T m gv i → (∀ i', i' < i → u'.1 50 i' = nI (m i')) → pgo n T (gv i) i → G 4 [some (.ref 10), some (.int (nI (gv i))), some (.int (nI i)), o3, o4] [] u' := by
      intro k
      induction k with
      | zero =>
        intro i hi u' m gv o3 o4 a1 a2 a3 a4
        apply hG (fun pc => pc == 4 || pc == 22) 60
        simp (config := { maxSteps := 2000000 }) [-Prod.forall, -Prod.exists, -exists_and_left, -exists_and_right, hW0, hW1, dm_fn, dm_fd, dm_x, dm_L0, dm_la, dm_t1, dm_sw, List.headD, dm_ic, dm_mk, dm_s1, dm_s2, dm_clr, dm_cs, dm_cc, dm_nb0, dm_nb1, Value.category, List.lookup, p_X3_giveLowest, x_X3_giveLowest, k_X3_giveLowest, dm_cm, upd, vp_updL, dm_ui_1, dm_ui_2, dm_ul_1, dm_ul_2, sp_X3_sumWith, sC_0, sC_1, sC_2, sC_3, sC_4, sC_5, sC_6, sC_7, sC_8, sC_9, sC_10, sC_11, sC_12, sC_13, sC_14, sC_15, sC_16, sC_17, sC_18, sC_19, sC_20, sC_21, sC_22, sC_23, sC_24, sC_25, sC_26, sC_27, sC_28, sC_29, sC_30, sC_31, sC_32, sC_33, sC_34, sC_35, sC_36, sC_37, sC_38, sC_39, sC_40, sC_41, sC_42, sC_43, sC_44, sC_45, sC_46, sC_47, sC_48, sC_49, sC_50, sC_51]
        have e : i = n := by omega
        subst e
        rw [a1.1 10 (by decide), en]
        exact ⟨fun _ => hQ u' m gv a1 a2 a3, fun z => absurd z (nI_nlt (Nat.le_refl _) (by omega))⟩
      | succ k ih =>
        intro i hi u' m gv o3 o4 a1 a2 a3 a4
        obtain ⟨b1, b2, b3⟩ := a4
        have hgn := pr_full n hn (gv i) (by omega) b1 (by omega)
        have cg : (nI (gv i)).toNatClampNeg = gv i := nI_clamp (by omega)
        have ci : (nI i).toNatClampNeg = i := nI_clamp (by omega)
        have inner : ∀ j lo : Nat, j ≤ n → lo < n → (∀ j', j ≤ j' → j' < n → psw c T (gv i) j' = T (gv i) → psw c T (gv i) lo = T (gv i) ∧ lo ≤ j') → G 22 [some (.ref 10), some (.int (nI (gv i))), some (.int (nI i)), some (.int (nI lo)), some (.int (nI j - 1))] [] u' := by
          intro j
          induction j with
          | zero =>
            intro lo a5 a6 a7
            apply hG (fun pc => pc == 4 || pc == 22) 60
            simp (config := { maxSteps := 2000000 }) [-Prod.forall, -Prod.exists, -exists_and_left, -exists_and_right, hW0, hW1, dm_fn, dm_fd, dm_x, dm_L0, dm_la, dm_t1, dm_sw, List.headD, dm_ic, dm_mk, dm_s1, dm_s2, dm_clr, dm_cs, dm_cc, dm_nb0, dm_nb1, Value.category, List.lookup, p_X3_giveLowest, x_X3_giveLowest, k_X3_giveLowest, dm_cm, upd, vp_updL, dm_ui_1, dm_ui_2, dm_ul_1, dm_ul_2, sp_X3_sumWith, sC_0, sC_1, sC_2, sC_3, sC_4, sC_5, sC_6, sC_7, sC_8, sC_9, sC_10, sC_11, sC_12, sC_13, sC_14, sC_15, sC_16, sC_17, sC_18, sC_19, sC_20, sC_21, sC_22, sC_23, sC_24, sC_25, sC_26, sC_27, sC_28, sC_29, sC_30, sC_31, sC_32, sC_33, sC_34, sC_35, sC_36, sC_37, sC_38, sC_39, sC_40, sC_41, sC_42, sC_43, sC_44, sC_45, sC_46, sC_47, sC_48, sC_49, sC_50, sC_51]
            refine ⟨fun _ => ⟨vp_in_nI (by omega) (by omega), ?_⟩, fun z => absurd z (by decide)⟩
            obtain ⟨o1, o2⟩ := pr_or (gv i) (by omega) lo (by omega)
            rw [o1, nI_1, ci]
            obtain ⟨j0, j1, j2⟩ := pgo_ex hn hT (show i < n by omega) ⟨b1, b2, b3⟩
            have q1 := (a7 j0 (by omega) j1 j2).1
            have q2 := (pgo_s hn (show i < n by omega) a6 ⟨b1, b2, b3⟩ q1).1
            have e1 : (fun t => if t = i + 1 then gv i ||| 2 ^ lo else gv t) (i + 1) = gv i ||| 2 ^ lo := if_pos rfl
            have hw := ih (i + 1) (by omega) (dm_ui u' 50 i (nI lo)) (fun t => if t = i then lo else m t) (fun t => if t = i + 1 then gv i ||| 2 ^ lo else gv t) (some (.int (nI lo))) (some (.int (nI 0 - 1))) ⟨fun k hk => ?_, a1.2⟩ ⟨?_, fun t ht => ?_⟩ (fun t ht => ?_) (by rw [if_pos rfl]; exact q2)
            · rw [if_pos rfl] at hw; exact hw
            · rw [dm_ui_1, if_neg hk]; exact a1.1 k hk
            · show (if _ then _ else _) = _
              rw [if_neg (by omega)]; exact a2.1
            · dsimp only
              rw [if_neg (show ¬ t = i + 1 by omega)]
              by_cases y : t = i
              · subst y
                rw [if_pos rfl, if_pos rfl]
                exact ⟨⟨a6, q1, fun j hj hq => by have := (a7 j (by omega) (by omega) hq).2; omega⟩, rfl⟩
              · rw [if_neg y, if_neg (by omega)]
                exact a2.2 t (by omega)
            · rw [dm_ui_1, if_pos rfl]
              unfold upd
              by_cases y : t = i
              · rw [if_pos y]; show _ = nI (if _ then _ else _); rw [if_pos y]
              · rw [if_neg y]; show _ = nI (if _ then _ else _); rw [if_neg y]; exact a3 t (by omega)
          | succ j ih2 =>
            intro lo a5 a6 a7
            apply hG (fun pc => pc == 4 || pc == 22) 60
            simp (config := { maxSteps := 2000000 }) [-Prod.forall, -Prod.exists, -exists_and_left, -exists_and_right, hW0, hW1, dm_fn, dm_fd, dm_x, dm_L0, dm_la, dm_t1, dm_sw, List.headD, dm_ic, dm_mk, dm_s1, dm_s2, dm_clr, dm_cs, dm_cc, dm_nb0, dm_nb1, Value.category, List.lookup, p_X3_giveLowest, x_X3_giveLowest, k_X3_giveLowest, dm_cm, upd, vp_updL, dm_ui_1, dm_ui_2, dm_ul_1, dm_ul_2, sp_X3_sumWith, sC_0, sC_1, sC_2, sC_3, sC_4, sC_5, sC_6, sC_7, sC_8, sC_9, sC_10, sC_11, sC_12, sC_13, sC_14, sC_15, sC_16, sC_17, sC_18, sC_19, sC_20, sC_21, sC_22, sC_23, sC_24, sC_25, sC_26, sC_27, sC_28, sC_29, sC_30, sC_31, sC_32, sC_33, sC_34, sC_35, sC_36, sC_37, sC_38, sC_39, sC_40, sC_41, sC_42, sC_43, sC_44, sC_45, sC_46, sC_47, sC_48, sC_49, sC_50, sC_51]
            have ej : nI (j + 1) - 1 = nI j := nI_sub1 (by omega)
            have ej2 : nI j + -1 = nI j - 1 := by rw [Int32.sub_eq_add_neg]
            rw [ej, ej2, cg]
            have e1 : pr_sw u' (gv i) j = lI (psw c T (gv i) j) := pr_swI (PC_gl ⟨⟨hn, en⟩, hc, h49⟩ a1) hT hgn (by omega) (fun g' x1 x2 => by rw [a1.2]; exact hS g' x2)
            have e2 : u'.2 51 (gv i) = lI (T (gv i)) := by rw [a1.2]; exact hS _ b1
            refine ⟨fun z => absurd z (nI_pos (by omega)), fun _ => ⟨gv i, j, by omega, by omega, by have := pr_n1 n hn (gv i) (by omega) hgn; omega, rfl, rfl, vp_in_nI (by omega) (by omega), ?_⟩⟩
            rw [e1, e2, lI_eq (by have := pmn_bd hn hc hT hgn (j := j) (by omega); unfold lB; unfold pF at this; omega) (by have := pT_b hn hc hT b1; unfold lB; unfold pF at this; omega)]
            refine ⟨fun z => ih2 lo (by omega) a6 (fun j' x1 x2 x3 => ?_), fun z => ih2 j (by omega) (by omega) (fun j' x1 x2 x3 => ⟨z, x1⟩)⟩
            rcases Nat.lt_or_ge j j' with y | y
            · exact a7 j' y x2 x3
            · exact absurd (show psw c T (gv i) j = T (gv i) by rw [show j = j' by omega]; exact x3) z
        apply hG (fun pc => pc == 4 || pc == 22) 60
        simp (config := { maxSteps := 2000000 }) [-Prod.forall, -Prod.exists, -exists_and_left, -exists_and_right, hW0, hW1, dm_fn, dm_fd, dm_x, dm_L0, dm_la, dm_t1, dm_sw, List.headD, dm_ic, dm_mk, dm_s1, dm_s2, dm_clr, dm_cs, dm_cc, dm_nb0, dm_nb1, Value.category, List.lookup, p_X3_giveLowest, x_X3_giveLowest, k_X3_giveLowest, dm_cm, upd, vp_updL, dm_ui_1, dm_ui_2, dm_ul_1, dm_ul_2, sp_X3_sumWith, sC_0, sC_1, sC_2, sC_3, sC_4, sC_5, sC_6, sC_7, sC_8, sC_9, sC_10, sC_11, sC_12, sC_13, sC_14, sC_15, sC_16, sC_17, sC_18, sC_19, sC_20, sC_21, sC_22, sC_23, sC_24, sC_25, sC_26, sC_27, sC_28, sC_29, sC_30, sC_31, sC_32, sC_33, sC_34, sC_35, sC_36, sC_37, sC_38, sC_39, sC_40, sC_41, sC_42, sC_43, sC_44, sC_45, sC_46, sC_47, sC_48, sC_49, sC_50, sC_51]
        rw [a1.1 10 (by decide), en]
        refine ⟨fun z => absurd z (nI_ge (by omega) (by omega)), fun _ => ?_⟩
        exact inner n 0 (Nat.le_refl _) (by omega) (fun j' x1 x2 => by omega)
    apply hG (fun pc => pc == 4) 60
    simp (config := { maxSteps := 2000000 }) [-Prod.forall, -Prod.exists, -exists_and_left, -exists_and_right, hW0, hW1, dm_fn, dm_fd, dm_x, dm_L0, dm_la, dm_t1, dm_sw, List.headD, dm_ic, dm_mk, dm_s1, dm_s2, dm_clr, dm_cs, dm_cc, dm_nb0, dm_nb1, Value.category, List.lookup, p_X3_giveLowest, x_X3_giveLowest, k_X3_giveLowest, dm_cm, upd, vp_updL, dm_ui_1, dm_ui_2, dm_ul_1, dm_ul_2, sp_X3_sumWith, sC_0, sC_1, sC_2, sC_3, sC_4, sC_5, sC_6, sC_7, sC_8, sC_9, sC_10, sC_11, sC_12, sC_13, sC_14, sC_15, sC_16, sC_17, sC_18, sC_19, sC_20, sC_21, sC_22, sC_23, sC_24, sC_25, sC_26, sC_27, sC_28, sC_29, sC_30, sC_31, sC_32, sC_33, sC_34, sC_35, sC_36, sC_37, sC_38, sC_39, sC_40, sC_41, sC_42, sC_43, sC_44, sC_45, sC_46, sC_47, sC_48, sC_49, sC_50, sC_51]
    exact outer n 0 (by omega) u (fun _ => 0) (fun _ => 0) _ _ ⟨fun _ _ => rfl, rfl⟩ ⟨rfl, fun i hi => by omega⟩ (fun i hi => by omega) ⟨by omega, rfl, hF⟩
  · exact hh.elim
set_option maxRecDepth 100000 in
theorem t_X3_giveLowest (l : Launch) (D : va_G) (cA : Nat → ClassId) (ad : Nat → Nat) : dm_Met l D dm_cl cA ad shC yX3_giveLowest (Cond.code yX3_giveLowest cX3_giveLowest 5 (dm_rt 0) :: dm_tt) ({ frames := 2, cells := 0, slots := 0, locals := 43 } : Room) sp_X3_giveLowest := dm_meth (own := RX3) (X := x_X3_giveLowest) (Sp := k_X3_giveLowest) (prog := p_X3_giveLowest) (by decide +kernel) rfl rfl (dm_FO_s ffX3 [(15, 3, 1), (19, 3, 2), (22, 3, 3)] rfl dm_hT (by decide +kernel)) (dm_IO_s ifX3 jfX3 [] [] rfl rfl dm_hT (by decide +kernel) (by decide +kernel)) soC (dm_MO_of (List.forall_mem_cons.mpr ⟨dm_M1_of (t_X3_sumWith l D cA ad) dm_hT (dm_mem [917, 76, 914] (by decide +kernel) (by decide +kernel)) (by decide) (by decide +kernel) (Or.inr ⟨by decide, dm_mem [916, 38] (by decide +kernel) (by decide +kernel), rfl⟩), fun _ h => absurd h List.not_mem_nil⟩)) v_X3_giveLowest u_X3_giveLowest
def pq_fr (u u' : dm_S) : Prop := (∀ c, c ≠ 50 → u'.1 c = u.1 c) ∧ ∀ c, c ≠ 51 → u'.2 c = u.2 c
theorem PC_pq {u u' : dm_S} {n : Nat} {c : Nat → Int} (h : PC u n c) (hf : pq_fr u u') : PC u' n c := by
  unfold PC; rw [hf.1 10 (by decide), hf.2 49 (by decide)]; exact h
/-- THE ASSIGNMENT found: sums and mates in the cells -/
def PS (u : dm_S) (n : Nat) (c T : Nat → Int) : Prop := pT n c T ∧ (∀ g, g < 2 ^ n → u.2 51 g = lI (T g)) ∧ (T 0 ≠ pF → ∃ m gv : Nat → Nat, pMt n c T m gv n ∧ ∀ i, i < n → u.1 50 i = nI (m i))
def sp_X3_solve (As : List Value) (u : dm_S) (Q : Option Value → dm_S → Prop) : Prop := match As with
  | [.ref 10] => ∃ (n : Nat) (c T : Nat → Int), PC u n c ∧ pT n c T ∧ ∀ u' : dm_S, pq_fr u u' → PS u' n c T → Q none u'
  | _ => False
theorem pr_sh : ∀ n, n < 9 → ((1 : Int32) <<< (nI n &&& 31)) - 1 = nI (2 ^ n - 1) := by decide +kernel
def p_X3_solve : List dm_I := [(0, .iconst 1, 1, []), (1, .aload_n 0, 1, [0]), (2, .getfield 22, 3, []), (5, .ishl, 1, []), (6, .iconst 1, 1, []), (7, .isub, 1, []), (8, .istore_n 1, 1, [1]), (9, .aload_n 0, 1, [0]), (10, .getfield 19, 3, []), (13, .iload_n 1, 1, [1]), (14, .lconst 0, 1, []), (15, .lastore, 1, []), (16, .iload_n 1, 1, [1]), (17, .iconst 1, 1, []), (18, .isub, 1, []), (19, .istore_n 2, 1, [2]), (20, .iload_n 2, 1, [2]), (21, .ifCond .lt 50, 3, [71]), (24, .ldc2_w 30, 3, []), (27, .lstore_n 3, 1, [3]), (28, .iconst 0, 1, []), (29, .istore 5, 2, []), (31, .iload 5, 2, []), (33, .aload_n 0, 1, [0]), (34, .getfield 22, 3, []), (37, .if_icmp .ge 21, 3, [58]), (40, .lload_n 3, 1, [3]), (41, .aload_n 0, 1, [0]), (42, .iload_n 2, 1, [2]), (43, .iload 5, 2, []), (45, .invokevirtual 41, 3, []), (48, .invokestatic 45, 3, []), (51, .lstore_n 3, 1, [3]), (52, .iinc 5 1, 3, []), (55, .goto (-24), 3, [31]), (58, .aload_n 0, 1, [0]), (59, .getfield 19, 3, []), (62, .iload_n 2, 1, [2]), (63, .lload_n 3, 1, [3]), (64, .lastore, 1, []), (65, .iinc 2 (-1), 3, []), (68, .goto (-48), 3, [20]), (71, .aload_n 0, 1, [0]), (72, .getfield 19, 3, []), (75, .iconst 0, 1, []), (76, .laload, 1, []), (77, .ldc2_w 30, 3, []), (80, .lcmp, 1, []), (81, .ifCond .eq 7, 3, [88]), (84, .aload_n 0, 1, [0]), (85, .invokevirtual 51, 3, []), (88, .return_, 1, [])]
set_option maxRecDepth 100000 in
theorem v_X3_solve : p_X3_solve.all (dm_vb cX3_solve) = true := by decide +kernel
def k_X3_solve : dm_Sp := fun a => match a with
  | 0 => sp_X3_sumWith
  | 1 => sp_J9_min_f86c9
  | 2 => sp_X3_giveLowest
  | _ => fun _ _ _ => False
def x_X3_solve : dm_X := dm_mk [(19, 3, 2), (22, 3, 3)] [] [(30, 1152921504606846976)] [(41, 0, 2, 3), (45, 1, 2, 1000), (51, 2, 0, 3)] 0
set_option maxRecDepth 100000 in
set_option maxHeartbeats 800000 in
theorem u_X3_solve : dm_Pure shC x_X3_solve k_X3_solve p_X3_solve 6 sp_X3_solve := by
  intro As u Qp hh
  unfold sp_X3_solve at hh
  split at hh
  · obtain ⟨n, c, T, hC, hT, hQ⟩ := hh
    have hC' := hC
    obtain ⟨⟨hn, en⟩, hc, h49⟩ := hC'
    have h2 := pr_2n n hn
    refine ⟨Nat.le_of_ble_eq_true rfl, fun G Wp hW0 hW1 hG => ?_⟩
    have outer : ∀ g : Nat, g ≤ 2 ^ n - 1 → ∀ (u' : dm_S) (o3 o5 : Option Value), (∀ c, u'.1 c = u.1 c) → (∀ c, c ≠ 51 → u'.2 c = u.2 c) → (∀ g', g ≤ g' → g' < 2 ^ n → u'.2 51 g' = lI (T g')) → G 20 [some (.ref 10), some (.int (nI (2 ^ n - 1))), some (.int (nI g - 1)), o3, none, o5] [] u' := by
      intro g
      induction g with
      | zero =>
        intro hg u' o3 o5 a1 a2 a3
        apply hG (fun pc => pc == 20 || pc == 31) 60
        simp (config := { maxSteps := 2000000 }) [-Prod.forall, -Prod.exists, -exists_and_left, -exists_and_right, hW0, hW1, dm_fn, dm_fd, dm_x, dm_L0, dm_la, dm_t1, dm_sw, List.headD, dm_ic, dm_mk, dm_s1, dm_s2, dm_clr, dm_cs, dm_cc, dm_nb0, dm_nb1, Value.category, List.lookup, p_X3_solve, x_X3_solve, k_X3_solve, dm_cm, upd, vp_updL, dm_ui_1, dm_ui_2, dm_ul_1, dm_ul_2, sp_X3_sumWith, sp_J9_min_f86c9, sp_X3_giveLowest, sC_0, sC_1, sC_2, sC_3, sC_4, sC_5, sC_6, sC_7, sC_8, sC_9, sC_10, sC_11, sC_12, sC_13, sC_14, sC_15, sC_16, sC_17, sC_18, sC_19, sC_20, sC_21, sC_22, sC_23, sC_24, sC_25, sC_26, sC_27, sC_28, sC_29, sC_30, sC_31, sC_32, sC_33, sC_34, sC_35, sC_36, sC_37, sC_38, sC_39, sC_40, sC_41, sC_42, sC_43, sC_44, sC_45, sC_46, sC_47, sC_48, sC_49, sC_50, sC_51]
        have f0 : pq_fr u u' := ⟨fun c _ => a1 c, a2⟩
        have t0 : T 0 = pF ↔ u'.2 51 0 = 1152921504606846976 := by
          have := pT_b hn hc hT (g := 0) (by omega)
          rw [a3 0 (by omega) (by omega), ← pF_l, lI_eq ?_ pF_lB]
          unfold lB; unfold pF at this; omega
        refine ⟨fun _ => ⟨vp_0 (by omega), fun z => hQ u' f0 ⟨hT, fun g' y => a3 g' (by omega) y, fun y => absurd (t0.mpr z) y⟩, fun z => ⟨n, c, T, PC_pq hC f0, hT, fun g' y => a3 g' (by omega) y, fun y => z (t0.mp y), fun u2 m gv b1 b2 b3 => hQ u2 ⟨fun k hk => (b1.1 k hk).trans (a1 k), fun k hk => by rw [b1.2]; exact a2 k hk⟩ ⟨hT, fun g' y => by rw [b1.2]; exact a3 g' (by omega) y, fun _ => ⟨m, gv, b2, b3⟩⟩⟩⟩, fun z => absurd z (by decide)⟩
      | succ g ih =>
        intro hg u' o3 o5 a1 a2 a3
        have hgn : g < 2 ^ n - 1 := by omega
        have f0 : pq_fr u u' := ⟨fun c _ => a1 c, a2⟩
        have cg : (nI g).toNatClampNeg = g := nI_clamp (by omega)
        have inner : ∀ k j : Nat, j + k = n → G 31 [some (.ref 10), some (.int (nI (2 ^ n - 1))), some (.int (nI g)), some (.long (lI (pmn c T g j))), none, some (.int (nI j))] [] u' := by
          intro k
          induction k with
          | zero =>
            intro j hj
            apply hG (fun pc => pc == 20 || pc == 31) 60
            simp (config := { maxSteps := 2000000 }) [-Prod.forall, -Prod.exists, -exists_and_left, -exists_and_right, hW0, hW1, dm_fn, dm_fd, dm_x, dm_L0, dm_la, dm_t1, dm_sw, List.headD, dm_ic, dm_mk, dm_s1, dm_s2, dm_clr, dm_cs, dm_cc, dm_nb0, dm_nb1, Value.category, List.lookup, p_X3_solve, x_X3_solve, k_X3_solve, dm_cm, upd, vp_updL, dm_ui_1, dm_ui_2, dm_ul_1, dm_ul_2, sp_X3_sumWith, sp_J9_min_f86c9, sp_X3_giveLowest, sC_0, sC_1, sC_2, sC_3, sC_4, sC_5, sC_6, sC_7, sC_8, sC_9, sC_10, sC_11, sC_12, sC_13, sC_14, sC_15, sC_16, sC_17, sC_18, sC_19, sC_20, sC_21, sC_22, sC_23, sC_24, sC_25, sC_26, sC_27, sC_28, sC_29, sC_30, sC_31, sC_32, sC_33, sC_34, sC_35, sC_36, sC_37, sC_38, sC_39, sC_40, sC_41, sC_42, sC_43, sC_44, sC_45, sC_46, sC_47, sC_48, sC_49, sC_50, sC_51]
            have e : j = n := by omega
            subst e
            have ej2 : nI g + -1 = nI g - 1 := by rw [Int32.sub_eq_add_neg]
            rw [a1, en, cg, ej2, ← hT.2 g hgn]
            refine ⟨fun _ => ⟨vp_in_nI (by omega) (by omega), ih (by omega) _ _ _ (fun k => a1 k) (fun k hk => ?_) (fun g' x1 x2 => ?_)⟩, fun z => absurd z (nI_nlt (Nat.le_refl _) (by omega))⟩
            · rw [dm_ul_2, if_neg hk]; exact a2 k hk
            · rw [dm_ul_2, if_pos rfl]
              unfold vp_updL
              by_cases y : g' = g
              · rw [if_pos y, y]
              · rw [if_neg y]; exact a3 g' (by omega) x2
          | succ k ih2 =>
            intro j hj
            apply hG (fun pc => pc == 20 || pc == 31) 60
            simp (config := { maxSteps := 2000000 }) [-Prod.forall, -Prod.exists, -exists_and_left, -exists_and_right, hW0, hW1, dm_fn, dm_fd, dm_x, dm_L0, dm_la, dm_t1, dm_sw, List.headD, dm_ic, dm_mk, dm_s1, dm_s2, dm_clr, dm_cs, dm_cc, dm_nb0, dm_nb1, Value.category, List.lookup, p_X3_solve, x_X3_solve, k_X3_solve, dm_cm, upd, vp_updL, dm_ui_1, dm_ui_2, dm_ul_1, dm_ul_2, sp_X3_sumWith, sp_J9_min_f86c9, sp_X3_giveLowest, sC_0, sC_1, sC_2, sC_3, sC_4, sC_5, sC_6, sC_7, sC_8, sC_9, sC_10, sC_11, sC_12, sC_13, sC_14, sC_15, sC_16, sC_17, sC_18, sC_19, sC_20, sC_21, sC_22, sC_23, sC_24, sC_25, sC_26, sC_27, sC_28, sC_29, sC_30, sC_31, sC_32, sC_33, sC_34, sC_35, sC_36, sC_37, sC_38, sC_39, sC_40, sC_41, sC_42, sC_43, sC_44, sC_45, sC_46, sC_47, sC_48, sC_49, sC_50, sC_51]
            rw [a1, en, nI_1]
            refine ⟨fun z => absurd z (nI_ge (by omega) (by omega)), fun _ => ⟨g, j, by omega, by omega, by have := pr_n1 n hn g (by omega) hgn; omega, rfl, rfl, ?_⟩⟩
            have e1 : pr_sw u' g j = lI (psw c T g j) := pr_swI (PC_pq hC f0) hT hgn (by omega) (fun g' x1 x2 => a3 g' (by omega) x2)
            rw [e1, lI_min (pmn_b hn hc hT hgn j (by omega)) (by have := pmn_bd hn hc hT hgn (j := j) (by omega); unfold lB; unfold pF at this; omega)]
            exact ih2 (j + 1) (by omega)
        apply hG (fun pc => pc == 20 || pc == 31) 60
        simp (config := { maxSteps := 2000000 }) [-Prod.forall, -Prod.exists, -exists_and_left, -exists_and_right, hW0, hW1, dm_fn, dm_fd, dm_x, dm_L0, dm_la, dm_t1, dm_sw, List.headD, dm_ic, dm_mk, dm_s1, dm_s2, dm_clr, dm_cs, dm_cc, dm_nb0, dm_nb1, Value.category, List.lookup, p_X3_solve, x_X3_solve, k_X3_solve, dm_cm, upd, vp_updL, dm_ui_1, dm_ui_2, dm_ul_1, dm_ul_2, sp_X3_sumWith, sp_J9_min_f86c9, sp_X3_giveLowest, sC_0, sC_1, sC_2, sC_3, sC_4, sC_5, sC_6, sC_7, sC_8, sC_9, sC_10, sC_11, sC_12, sC_13, sC_14, sC_15, sC_16, sC_17, sC_18, sC_19, sC_20, sC_21, sC_22, sC_23, sC_24, sC_25, sC_26, sC_27, sC_28, sC_29, sC_30, sC_31, sC_32, sC_33, sC_34, sC_35, sC_36, sC_37, sC_38, sC_39, sC_40, sC_41, sC_42, sC_43, sC_44, sC_45, sC_46, sC_47, sC_48, sC_49, sC_50, sC_51]
        have ej : nI (g + 1) - 1 = nI g := nI_sub1 (by omega)
        rw [ej]
        exact ⟨fun z => absurd z (nI_pos (by omega)), fun _ => inner n 0 (by omega)⟩
    apply hG (fun pc => pc == 20) 60
    simp (config := { maxSteps := 2000000 }) [-Prod.forall, -Prod.exists, -exists_and_left, -exists_and_right, hW0, hW1, dm_fn, dm_fd, dm_x, dm_L0, dm_la, dm_t1, dm_sw, List.headD, dm_ic, dm_mk, dm_s1, dm_s2, dm_clr, dm_cs, dm_cc, dm_nb0, dm_nb1, Value.category, List.lookup, p_X3_solve, x_X3_solve, k_X3_solve, dm_cm, upd, vp_updL, dm_ui_1, dm_ui_2, dm_ul_1, dm_ul_2, sp_X3_sumWith, sp_J9_min_f86c9, sp_X3_giveLowest, sC_0, sC_1, sC_2, sC_3, sC_4, sC_5, sC_6, sC_7, sC_8, sC_9, sC_10, sC_11, sC_12, sC_13, sC_14, sC_15, sC_16, sC_17, sC_18, sC_19, sC_20, sC_21, sC_22, sC_23, sC_24, sC_25, sC_26, sC_27, sC_28, sC_29, sC_30, sC_31, sC_32, sC_33, sC_34, sC_35, sC_36, sC_37, sC_38, sC_39, sC_40, sC_41, sC_42, sC_43, sC_44, sC_45, sC_46, sC_47, sC_48, sC_49, sC_50, sC_51]
    rw [en, pr_sh n hn, nI_clamp (show 2 ^ n - 1 < 2 ^ 31 by omega)]
    refine ⟨vp_in_nI (by omega) (by omega), outer (2 ^ n - 1) (Nat.le_refl _) _ _ _ (fun _ => rfl) (fun k hk => ?_) (fun g' x1 x2 => ?_)⟩
    · rw [dm_ul_2, if_neg hk]
    · rw [dm_ul_2, if_pos rfl]
      unfold vp_updL
      rw [if_pos (by omega), show g' = 2 ^ n - 1 by omega, hT.1]; rfl
  · exact hh.elim
set_option maxRecDepth 100000 in
theorem t_X3_solve (l : Launch) (D : va_G) (cA : Nat → ClassId) (ad : Nat → Nat) : dm_Met l D dm_cl cA ad shC yX3_solve (Cond.code yX3_solve cX3_solve 6 (dm_rt 0) :: dm_tt) ({ frames := 3, cells := 0, slots := 0, locals := 67 } : Room) sp_X3_solve := dm_meth (own := RX3) (X := x_X3_solve) (Sp := k_X3_solve) (prog := p_X3_solve) (by decide +kernel) rfl rfl (dm_FO_s ffX3 [(19, 3, 2), (22, 3, 3)] rfl dm_hT (by decide +kernel)) (dm_IO_s ifX3 jfX3 [] [(30, 1152921504606846976)] rfl rfl dm_hT (by decide +kernel) (by decide +kernel)) soC (dm_MO_of (List.forall_mem_cons.mpr ⟨dm_M1_of (t_X3_sumWith l D cA ad) dm_hT (dm_mem [917, 76, 914] (by decide +kernel) (by decide +kernel)) (by decide) (by decide +kernel) (Or.inr ⟨by decide, dm_mem [916, 38] (by decide +kernel) (by decide +kernel), rfl⟩), List.forall_mem_cons.mpr ⟨dm_M1_of (t_J9_min_f86c9 l D cA ad) dm_hT (dm_mem [621, 79, 924] (by decide +kernel) (by decide +kernel)) (by decide) (by decide +kernel) (Or.inl ⟨rfl, dm_mem (ws := [.static yJ9_min_f86c9]) [620] (by decide +kernel) (by decide +kernel) _ List.mem_cons_self⟩), List.forall_mem_cons.mpr ⟨dm_M1_of (t_X3_giveLowest l D cA ad) dm_hT (dm_mem [928, 76, 925] (by decide +kernel) (by decide +kernel)) (by decide) (by decide +kernel) (Or.inr ⟨by decide, dm_mem [927, 39] (by decide +kernel) (by decide +kernel), rfl⟩), fun _ h => absurd h List.not_mem_nil⟩⟩⟩)) v_X3_solve u_X3_solve
def ip_fr (u u' : dm_S) : Prop := (∀ c, c ≠ 50 → c ≠ 10 → u'.1 c = u.1 c) ∧ (∀ k, k ≠ 4 → u'.1 10 k = u.1 10 k) ∧ ∀ c, c ≠ 51 → u'.2 c = u.2 c
/-- what the state holds of THE ASSIGNMENT -/
def PP (u : dm_S) (n : Nat) (c T : Nat → Int) : Prop := PC u n c ∧ pT n c T ∧ (n ≠ 0 → ¬ u.1 10 4 = 0 → PS u n c T)
def sp_X3_isPossible (As : List Value) (u : dm_S) (Q : Option Value → dm_S → Prop) : Prop := match As with
  | [.ref 10] => ∃ (n : Nat) (c T : Nat → Int), PP u n c T ∧ (n = 0 → Q (some (.int 0)) u) ∧ (n ≠ 0 → ∀ u' : dm_S, ip_fr u u' → PC u' n c → PS u' n c T → Q (some (.int (if T 0 = pF then 0 else 1))) u')
  | _ => False
def p_X3_isPossible : List dm_I := [(0, .aload_n 0, 1, [0]), (1, .getfield 22, 3, []), (4, .ifCond .ne 5, 3, [9]), (7, .iconst 0, 1, []), (8, .ireturn, 1, []), (9, .aload_n 0, 1, [0]), (10, .getfield 26, 3, []), (13, .ifCond .ne 12, 3, [25]), (16, .aload_n 0, 1, [0]), (17, .invokevirtual 38, 3, []), (20, .aload_n 0, 1, [0]), (21, .iconst 1, 1, []), (22, .putfield 26, 3, []), (25, .aload_n 0, 1, [0]), (26, .getfield 19, 3, []), (29, .iconst 0, 1, []), (30, .laload, 1, []), (31, .ldc2_w 30, 3, []), (34, .lcmp, 1, []), (35, .ifCond .eq 7, 3, [42]), (38, .iconst 1, 1, []), (39, .goto 4, 3, [43]), (42, .iconst 0, 1, []), (43, .ireturn, 1, [])]
set_option maxRecDepth 100000 in
theorem v_X3_isPossible : p_X3_isPossible.all (dm_vb cX3_isPossible) = true := by decide +kernel
def k_X3_isPossible : dm_Sp := fun a => match a with
  | 0 => sp_X3_solve
  | _ => fun _ _ _ => False
def x_X3_isPossible : dm_X := dm_mk [(19, 3, 2), (22, 3, 3), (26, 3, 4)] [] [(30, 1152921504606846976)] [(38, 0, 0, 3)] 3
set_option maxRecDepth 100000 in
set_option maxHeartbeats 400000 in
theorem u_X3_isPossible : dm_Pure shC x_X3_isPossible k_X3_isPossible p_X3_isPossible 1 sp_X3_isPossible := by
  intro As u Qp h
  unfold sp_X3_isPossible at h
  split at h
  · refine ⟨Nat.le_of_ble_eq_true rfl, fun G Wp hW0 hW1 hG => ?_⟩
    apply hG (fun _ => false) 25
    simp (config := { maxSteps := 2000000 }) [hW0, hW1, dm_fn, dm_fd, dm_x, dm_L0, dm_la, dm_t1, dm_sw, List.headD, dm_ic, dm_mk, dm_s1, dm_s2, dm_clr, dm_cs, dm_cc, dm_nb0, dm_nb1, Value.category, List.lookup, p_X3_isPossible, x_X3_isPossible, k_X3_isPossible, dm_cm, upd, vp_updL, dm_ui_1, dm_ui_2, dm_ul_1, dm_ul_2, sp_X3_solve, sC_0, sC_1, sC_2, sC_3, sC_4, sC_5, sC_6, sC_7, sC_8, sC_9, sC_10, sC_11, sC_12, sC_13, sC_14, sC_15, sC_16, sC_17, sC_18, sC_19, sC_20, sC_21, sC_22, sC_23, sC_24, sC_25, sC_26, sC_27, sC_28, sC_29, sC_30, sC_31, sC_32, sC_33, sC_34, sC_35, sC_36, sC_37, sC_38, sC_39, sC_40, sC_41, sC_42, sC_43, sC_44, sC_45, sC_46, sC_47, sC_48, sC_49, sC_50, sC_51]
    obtain ⟨n, c, T, ⟨hC, hT, hS⟩, h1, h2⟩ := h
    have hn := hC.1.1
    have h256 := pr_2n n hn
    have t0 : ∀ u' : dm_S, PS u' n c T → (u'.2 51 0 = 1152921504606846976 ↔ T 0 = pF) := fun u' hs => by
      have := pT_b hn hC.2.1 hT (g := 0) (by omega)
      rw [hs.2.1 0 (by omega), ← pF_l, lI_eq ?_ pF_lB]
      unfold lB; unfold pF at this; omega
    have e0 : u.1 10 3 = 0 ↔ n = 0 := by
      rw [hC.1.2, show (0 : Int32) = nI 0 from rfl, nI_eq (by omega) (by omega)]
    have fin : n ≠ 0 → ∀ u' : dm_S, ip_fr u u' → PC u' n c → PS u' n c T → vp_in 0 256 ∧ (u'.2 51 0 = 1152921504606846976 → Qp (some (.int 0)) u') ∧ (¬ u'.2 51 0 = 1152921504606846976 → Qp (some (.int 1)) u') := by
      intro z u' b1 b2 b3
      have hq := h2 z u' b1 b2 b3
      refine ⟨vp_0 (by omega), fun y => ?_, fun y => ?_⟩
      · rw [if_pos ((t0 u' b3).mp y)] at hq; exact hq
      · rw [if_neg (fun w => y ((t0 u' b3).mpr w))] at hq; exact hq
    rw [e0]
    refine ⟨fun z => ⟨fun y => fin z u ⟨fun _ _ _ => rfl, fun _ _ => rfl, fun _ _ => rfl⟩ hC (hS z y), fun y => ⟨n, c, hC, T, hT, fun a b b1 b2 => ?_⟩⟩, h1⟩
    refine fin z (dm_ui (a, b) 10 4 1) ⟨fun k k1 k2 => ?_, fun k k1 => ?_, b1.2⟩ ?_ b2
    · rw [dm_ui_1, if_neg k2]; exact b1.1 k k1
    · rw [dm_ui_1, if_pos rfl]
      show (if _ then _ else _) = _
      rw [if_neg k1, b1.1 10 (by decide)]
    · have := PC_pq hC b1
      exact ⟨⟨hn, by rw [dm_ui_1, if_pos rfl]; show (if _ then _ else _) = _; rw [if_neg (by decide)]; exact this.1.2⟩, this.2⟩
  · exact h.elim
set_option maxRecDepth 100000 in
theorem t_X3_isPossible (l : Launch) (D : va_G) (cA : Nat → ClassId) (ad : Nat → Nat) : dm_Met l D dm_cl cA ad shC yX3_isPossible (Cond.code yX3_isPossible cX3_isPossible 1 (dm_rt 3) :: dm_tt) ({ frames := 4, cells := 0, slots := 0, locals := 92 } : Room) sp_X3_isPossible := dm_meth (own := RX3) (X := x_X3_isPossible) (Sp := k_X3_isPossible) (prog := p_X3_isPossible) (by decide +kernel) rfl rfl (dm_FO_s ffX3 [(19, 3, 2), (22, 3, 3), (26, 3, 4)] rfl dm_hT (by decide +kernel)) (dm_IO_s ifX3 jfX3 [] [(30, 1152921504606846976)] rfl rfl dm_hT (by decide +kernel) (by decide +kernel)) soC (dm_MO_of (List.forall_mem_cons.mpr ⟨dm_M1_of (t_X3_solve l D cA ad) dm_hT (dm_mem [913, 76, 910] (by decide +kernel) (by decide +kernel)) (by decide) (by decide +kernel) (Or.inr ⟨by decide, dm_mem [912, 37] (by decide +kernel) (by decide +kernel), rfl⟩), fun _ h => absurd h List.not_mem_nil⟩)) v_X3_isPossible u_X3_isPossible
def sp_X10_least (As : List Value) (u : dm_S) (Q : Option Value → dm_S → Prop) : Prop := match As with
  | [.ref 0] => ∃ (n : Nat) (c T : Nat → Int), PP u n c T ∧ (n = 0 → Q (some (.long (-10000001))) u) ∧ (n ≠ 0 → ∀ u' : dm_S, ip_fr u u' → PC u' n c → PS u' n c T → Q (some (.long (if T 0 = pF then -10000001 else lI (T 0)))) u')
  | _ => False
def p_X10_least : List dm_I := [(0, .aload_n 0, 1, [0]), (1, .getfield 87, 3, []), (4, .invokevirtual 200, 3, []), (7, .ifCond .eq 15, 3, [22]), (10, .aload_n 0, 1, [0]), (11, .getfield 87, 3, []), (14, .getfield 206, 3, []), (17, .iconst 0, 1, []), (18, .laload, 1, []), (19, .goto 6, 3, [25]), (22, .ldc2_w 209, 3, []), (25, .lreturn, 1, [])]
set_option maxRecDepth 100000 in
theorem v_X10_least : p_X10_least.all (dm_vb cX10_least) = true := by decide +kernel
def k_X10_least : dm_Sp := fun a => match a with
  | 0 => sp_X3_isPossible
  | _ => fun _ _ _ => False
def x_X10_least : dm_X := dm_mk [(87, 10, 9), (206, 3, 2)] [] [(209, -10000001)] [(200, 0, 0, 3)] 2
set_option maxRecDepth 100000 in
set_option maxHeartbeats 400000 in
theorem u_X10_least : dm_Pure shC x_X10_least k_X10_least p_X10_least 1 sp_X10_least := by
  intro As u Qp h
  unfold sp_X10_least at h
  split at h
  · refine ⟨Nat.le_of_ble_eq_true rfl, fun G Wp hW0 hW1 hG => ?_⟩
    apply hG (fun _ => false) 13
    simp (config := { maxSteps := 2000000 }) [hW0, hW1, dm_fn, dm_fd, dm_x, dm_L0, dm_la, dm_t1, dm_sw, List.headD, dm_ic, dm_mk, dm_s1, dm_s2, dm_clr, dm_cs, dm_cc, dm_nb0, dm_nb1, Value.category, List.lookup, p_X10_least, x_X10_least, k_X10_least, dm_cm, upd, vp_updL, dm_ui_1, dm_ui_2, dm_ul_1, dm_ul_2, sp_X3_isPossible, sC_0, sC_1, sC_2, sC_3, sC_4, sC_5, sC_6, sC_7, sC_8, sC_9, sC_10, sC_11, sC_12, sC_13, sC_14, sC_15, sC_16, sC_17, sC_18, sC_19, sC_20, sC_21, sC_22, sC_23, sC_24, sC_25, sC_26, sC_27, sC_28, sC_29, sC_30, sC_31, sC_32, sC_33, sC_34, sC_35, sC_36, sC_37, sC_38, sC_39, sC_40, sC_41, sC_42, sC_43, sC_44, sC_45, sC_46, sC_47, sC_48, sC_49, sC_50, sC_51]
    obtain ⟨n, c, T, hP, h1, h2⟩ := h
    refine ⟨n, c, T, hP, h1, fun z a b b1 b2 b3 => ?_⟩
    have hq := h2 z (a, b) b1 b2 b3
    refine ⟨fun y => ?_, fun y => ⟨vp_0 (by omega), ?_⟩⟩
    · rw [if_pos y] at hq; exact hq
    · rw [if_neg y] at hq
      have e := b3.2.1 0 (by have := pr_2n n hP.1.1.1; omega)
      rw [show b 51 0 = lI (T 0) from e]; exact hq
  · exact h.elim
set_option maxRecDepth 100000 in
theorem t_X10_least (l : Launch) (D : va_G) (cA : Nat → ClassId) (ad : Nat → Nat) : dm_Met l D dm_cl cA ad shC yX10_least (Cond.code yX10_least cX10_least 1 (dm_rt 2) :: dm_tt) ({ frames := 5, cells := 0, slots := 0, locals := 112 } : Room) sp_X10_least := dm_meth (own := RX10) (X := x_X10_least) (Sp := k_X10_least) (prog := p_X10_least) (by decide +kernel) rfl rfl (dm_FO_s ffX10 [(87, 10, 9), (206, 3, 2)] rfl dm_hT (by decide +kernel)) (dm_IO_s ifX10 jfX10 [] [(209, -10000001)] rfl rfl dm_hT (by decide +kernel) (by decide +kernel)) soC (dm_MO_of (List.forall_mem_cons.mpr ⟨dm_M1_of (t_X3_isPossible l D cA ad) dm_hT (dm_mem [909, 76, 906] (by decide +kernel) (by decide +kernel)) (by decide) (by decide +kernel) (Or.inr ⟨by decide, dm_mem [907, 908] (by decide +kernel) (by decide +kernel), rfl⟩), fun _ h => absurd h List.not_mem_nil⟩)) v_X10_least u_X10_least
def sp_X10_mate (As : List Value) (u : dm_S) (Q : Option Value → dm_S → Prop) : Prop := match As with
  | [.ref 0, .int x] => ∃ (n : Nat) (c T : Nat → Int), PP u n c T ∧ (¬ (0 ≤ x ∧ x < nI n) → Q (some (.int (-1))) u) ∧ (0 ≤ x ∧ x < nI n → ∀ u' : dm_S, ip_fr u u' → PC u' n c → PS u' n c T → (T 0 = pF → Q (some (.int (-1))) u') ∧ (T 0 ≠ pF → ∀ m gv, pMt n c T m gv n → (∀ i, i < n → u'.1 50 i = nI (m i)) → Q (some (.int (nI (m x.toNatClampNeg)))) u'))
  | _ => False
theorem i_nI {x : Int32} {n : Nat} (hn : n < 2147483648) (h : 0 ≤ x ∧ x < nI n) : x = nI x.toNatClampNeg ∧ x.toNatClampNeg < n := by
  have e := (nI_of3 h.1).symm
  refine ⟨e, ?_⟩
  have h1 := Int32.lt_iff_toInt_lt.mp h.2
  have h3 := Int32.le_iff_toInt_le.mp h.1
  rw [nI_toInt hn] at h1
  unfold Int32.toNatClampNeg
  have e0 : (0 : Int32).toInt = 0 := rfl
  omega
def p_X10_mate : List dm_I := [(0, .aload_n 0, 1, [0]), (1, .getfield 87, 3, []), (4, .iload_n 1, 1, [1]), (5, .invokevirtual 193, 3, []), (8, .ifCond .eq 25, 3, [33]), (11, .aload_n 0, 1, [0]), (12, .getfield 87, 3, []), (15, .invokevirtual 200, 3, []), (18, .ifCond .eq 15, 3, [33]), (21, .aload_n 0, 1, [0]), (22, .getfield 87, 3, []), (25, .getfield 203, 3, []), (28, .iload_n 1, 1, [1]), (29, .iaload, 1, []), (30, .goto 4, 3, [34]), (33, .iconst (-1), 1, []), (34, .ireturn, 1, [])]
set_option maxRecDepth 100000 in
theorem v_X10_mate : p_X10_mate.all (dm_vb cX10_mate) = true := by decide +kernel
def k_X10_mate : dm_Sp := fun a => match a with
  | 0 => sp_X3_has
  | 1 => sp_X3_isPossible
  | _ => fun _ _ _ => False
def x_X10_mate : dm_X := dm_mk [(87, 10, 9), (203, 3, 1)] [] [] [(193, 0, 1, 3), (200, 1, 0, 3)] 1
set_option maxRecDepth 100000 in
set_option maxHeartbeats 400000 in
theorem u_X10_mate : dm_Pure shC x_X10_mate k_X10_mate p_X10_mate 2 sp_X10_mate := by
  intro As u Qp h
  unfold sp_X10_mate at h
  split at h
  · refine ⟨Nat.le_of_ble_eq_true rfl, fun G Wp hW0 hW1 hG => ?_⟩
    apply hG (fun _ => false) 18
    simp (config := { maxSteps := 2000000 }) [hW0, hW1, dm_fn, dm_fd, dm_x, dm_L0, dm_la, dm_t1, dm_sw, List.headD, dm_ic, dm_mk, dm_s1, dm_s2, dm_clr, dm_cs, dm_cc, dm_nb0, dm_nb1, Value.category, List.lookup, p_X10_mate, x_X10_mate, k_X10_mate, dm_cm, upd, vp_updL, dm_ui_1, dm_ui_2, dm_ul_1, dm_ul_2, sp_X3_has, sp_X3_isPossible, sC_0, sC_1, sC_2, sC_3, sC_4, sC_5, sC_6, sC_7, sC_8, sC_9, sC_10, sC_11, sC_12, sC_13, sC_14, sC_15, sC_16, sC_17, sC_18, sC_19, sC_20, sC_21, sC_22, sC_23, sC_24, sC_25, sC_26, sC_27, sC_28, sC_29, sC_30, sC_31, sC_32, sC_33, sC_34, sC_35, sC_36, sC_37, sC_38, sC_39, sC_40, sC_41, sC_42, sC_43, sC_44, sC_45, sC_46, sC_47, sC_48, sC_49, sC_50, sC_51]
    rename_i x
    obtain ⟨n, c, T, hP, h1, h2⟩ := h
    rw [hP.1.1.2]
    have hn := hP.1.1.1
    refine ⟨fun q => h1 (fun z => dm_i_lt.mpr (q z.1) z.2), fun z1 z2 => ⟨n, c, T, hP, fun y => ?_, fun y a b b1 b2 b3 => ?_⟩⟩
    · have := (i_nI (n := n) (by omega) ⟨z1, z2⟩).2; omega
    · obtain ⟨q1, q2⟩ := h2 ⟨z1, z2⟩ (a, b) b1 b2 b3
      obtain ⟨e, hx⟩ := i_nI (n := n) (by omega) ⟨z1, z2⟩
      refine ⟨q1, fun w => ⟨?_, ?_⟩⟩
      · rw [e]; exact vp_in_nI (by omega) (by omega)
      · obtain ⟨m, gv, m1, m2⟩ := b3.2.2 w
        rw [show a 50 x.toNatClampNeg = nI (m x.toNatClampNeg) from m2 _ hx]
        exact q2 w m gv m1 m2
  · exact h.elim
set_option maxRecDepth 100000 in
theorem t_X10_mate (l : Launch) (D : va_G) (cA : Nat → ClassId) (ad : Nat → Nat) : dm_Met l D dm_cl cA ad shC yX10_mate (Cond.code yX10_mate cX10_mate 2 (dm_rt 1) :: dm_tt) ({ frames := 5, cells := 0, slots := 0, locals := 112 } : Room) sp_X10_mate := dm_meth (own := RX10) (X := x_X10_mate) (Sp := k_X10_mate) (prog := p_X10_mate) (by decide +kernel) rfl rfl (dm_FO_s ffX10 [(87, 10, 9), (203, 3, 1)] rfl dm_hT (by decide +kernel)) (dm_IO_s ifX10 jfX10 [] [] rfl rfl dm_hT (by decide +kernel) (by decide +kernel)) soC (dm_MO_of (List.forall_mem_cons.mpr ⟨dm_M1_of (t_X3_has l D cA ad) dm_hT (dm_mem [897, 76, 894] (by decide +kernel) (by decide +kernel)) (by decide) (by decide +kernel) (Or.inr ⟨by decide, dm_mem [895, 896] (by decide +kernel) (by decide +kernel), rfl⟩), List.forall_mem_cons.mpr ⟨dm_M1_of (t_X3_isPossible l D cA ad) dm_hT (dm_mem [909, 76, 906] (by decide +kernel) (by decide +kernel)) (by decide) (by decide +kernel) (Or.inr ⟨by decide, dm_mem [907, 908] (by decide +kernel) (by decide +kernel), rfl⟩), fun _ h => absurd h List.not_mem_nil⟩⟩)) v_X10_mate u_X10_mate
def lm_u0 (u : dm_S) (N : Nat) (tr : Nat → Nat) (C : Nat) (nb bg en : Nat → Nat) (a p : Nat) : dm_S := if lw_m u (2 * p) = 0 then u else dm_sj u 37 (wg_ds u N C nb bg en (nI p) (tr a))
def lm_v0 (u : dm_S) (N : Nat) (fr tr : Nat → Nat) (C : Nat) (nb bg en : Nat → Nat) (a p : Nat) : Int64 := if lw_m u (2 * p) = 0 then -1000000002 else lm_lo u N fr tr C nb bg en a p
def lm_u1 (u : dm_S) (N : Nat) (fr : Nat → Nat) (C : Nat) (nb bg en : Nat → Nat) (a p : Nat) : dm_S := if lw_m u (2 * p + 1) = 0 then u else dm_sj u 37 (wg_ds u N C nb bg en (nI p) (fr a))
def lm_v1 (u : dm_S) (N : Nat) (fr tr : Nat → Nat) (C : Nat) (nb bg en : Nat → Nat) (a p : Nat) : Int64 := if lw_m u (2 * p + 1) = 0 then -1000000002 else lm_hi u N fr tr C nb bg en a p
def lm_k (v w y : Int64) : Prop := (v = -1000000002 ∨ v ≤ y) ∧ (w = -1000000002 ∨ y ≤ w)
def sp_X10_keeps (As : List Value) (u : dm_S) (Q : Option Value → dm_S → Prop) : Prop := match As with
  | [.ref 0, .int x, .long y] => (0 ≤ x ∧ x < u.1 1 9 → vp_in x 80) ∧ ((u.1 0 10 = 0 ∧ (0 ≤ x ∧ x < u.1 1 9) ∧ u.1 16 x.toNatClampNeg = 1) → ∃ (N M : Nat) (fr tr pt : Nat → Nat) (C : Nat) (nb bg en : Nat → Nat) (a p : Nat), sp_lim u x N M fr tr pt C nb bg en a p ∧ ∀ u1 u2 : dm_S, u1 = lm_u0 u N tr C nb bg en a p → u2 = lm_u1 u1 N fr C nb bg en a p → (lm_k (lm_v0 u N fr tr C nb bg en a p) (lm_v1 u1 N fr tr C nb bg en a p) y → Q (some (.int 1)) u2) ∧ (¬ lm_k (lm_v0 u N fr tr C nb bg en a p) (lm_v1 u1 N fr tr C nb bg en a p) y → Q (some (.int 0)) u2)) ∧ (¬ (u.1 0 10 = 0 ∧ (0 ≤ x ∧ x < u.1 1 9) ∧ u.1 16 x.toNatClampNeg = 1) → Q (some (.int 0)) u)
  | _ => False
theorem sp_lim_u0 {u u1 : dm_S} {x : Int32} {N M : Nat} {fr tr pt : Nat → Nat} {C : Nat} {nb bg en : Nat → Nat} {a p : Nat} (h : sp_lim u x N M fr tr pt C nb bg en a p) (hu : u1.1 = u.1) : sp_lim u1 x N M fr tr pt C nb bg en a p := by
  unfold sp_lim cn_ok wg_ok at h ⊢; rw [hu]; exact h
def p_X10_keeps : List dm_I := [(0, .aload_n 0, 1, [0]), (1, .getfield 91, 3, []), (4, .ifCond .ne 14, 3, [18]), (7, .aload_n 0, 1, [0]), (8, .getfield 12, 3, []), (11, .iload_n 1, 1, [1]), (12, .invokevirtual 140, 3, []), (15, .ifCond .ne 5, 3, [20]), (18, .iconst 0, 1, []), (19, .ireturn, 1, []), (20, .aload_n 0, 1, [0]), (21, .getfield 46, 3, []), (24, .iload_n 1, 1, [1]), (25, .invokevirtual 181, 3, []), (28, .lstore 4, 2, []), (30, .aload_n 0, 1, [0]), (31, .getfield 46, 3, []), (34, .iload_n 1, 1, [1]), (35, .invokevirtual 184, 3, []), (38, .lstore 6, 2, []), (40, .lload 4, 2, []), (42, .ldc2_w 187, 3, []), (45, .lcmp, 1, []), (46, .ifCond .eq 10, 3, [56]), (49, .lload 4, 2, []), (51, .lload_n 2, 1, [2]), (52, .lcmp, 1, []), (53, .ifCond .gt 23, 3, [76]), (56, .lload 6, 2, []), (58, .ldc2_w 187, 3, []), (61, .lcmp, 1, []), (62, .ifCond .eq 10, 3, [72]), (65, .lload_n 2, 1, [2]), (66, .lload 6, 2, []), (68, .lcmp, 1, []), (69, .ifCond .gt 7, 3, [76]), (72, .iconst 1, 1, []), (73, .goto 4, 3, [77]), (76, .iconst 0, 1, []), (77, .ireturn, 1, [])]
set_option maxRecDepth 100000 in
theorem v_X10_keeps : p_X10_keeps.all (dm_vb cX10_keeps) = true := by decide +kernel
def k_X10_keeps : dm_Sp := fun a => match a with
  | 0 => sp_X2_isPlain
  | 1 => sp_X5_leastRate
  | 2 => sp_X5_greatestRate
  | _ => fun _ _ _ => False
def x_X10_keeps : dm_X := dm_mk [(12, 10, 0), (46, 10, 4), (91, 10, 10)] [] [(187, -1000000002)] [(140, 0, 1, 2), (181, 1, 1, 5), (184, 2, 1, 5)] 3
set_option maxRecDepth 100000 in
set_option maxHeartbeats 400000 in
theorem u_X10_keeps : dm_Pure shC x_X10_keeps k_X10_keeps p_X10_keeps 8 sp_X10_keeps := by
  intro As u Qp h
  unfold sp_X10_keeps at h
  split at h
  · refine ⟨Nat.le_of_ble_eq_true rfl, fun G Wp hW0 hW1 hG => ?_⟩
    apply hG (fun _ => false) 41
    simp (config := { maxSteps := 2000000 }) [hW0, hW1, dm_fn, dm_fd, dm_x, dm_L0, dm_la, dm_t1, dm_sw, List.headD, dm_ic, dm_mk, dm_s1, dm_s2, dm_clr, dm_cs, dm_cc, dm_nb0, dm_nb1, Value.category, List.lookup, p_X10_keeps, x_X10_keeps, k_X10_keeps, dm_cm, upd, vp_updL, dm_ui_1, dm_ui_2, dm_ul_1, dm_ul_2, sp_X2_isPlain, sp_X5_leastRate, sp_X5_greatestRate, sC_0, sC_1, sC_2, sC_3, sC_4, sC_5, sC_6, sC_7, sC_8, sC_9, sC_10, sC_11, sC_12, sC_13, sC_14, sC_15, sC_16, sC_17, sC_18, sC_19, sC_20, sC_21, sC_22, sC_23, sC_24, sC_25, sC_26, sC_27, sC_28, sC_29, sC_30, sC_31, sC_32, sC_33, sC_34, sC_35, sC_36, sC_37, sC_38, sC_39, sC_40, sC_41, sC_42, sC_43, sC_44, sC_45, sC_46, sC_47, sC_48, sC_49, sC_50, sC_51]
    rename_i x y
    obtain ⟨h0, h1, h2⟩ := h
    refine ⟨fun q => h2 (fun z => q z.1), fun q => ⟨fun a1 a2 => h0 ⟨a1, a2⟩, fun a1 a2 a3 => ?_, fun q1 => h2 (fun z => q1 z.2.1.1 z.2.1.2 z.2.2)⟩⟩
    obtain ⟨N, M, fr, tr, pt, C, nb, bg, en, a, p, hl, g5⟩ := h1 ⟨q, ⟨a1, a2⟩, a3⟩
    clear h1 h2 h0 hG hW0 hW1
    have hl2 := hl
    obtain ⟨g1, g2, g3, g4⟩ := hl2
    refine ⟨N, M, fr, tr, ⟨pt, g1⟩, C, nb, bg, en, g2, a, g3, p, g4, ?_⟩
    have hq := g5 _ _ rfl rfl
    have hs : ∀ f, sp_lim (dm_sj u 37 f) x N M fr tr pt C nb bg en a p := fun f => sp_lim_u0 hl rfl
    have hm : ∀ f, lw_m (dm_sj u 37 f) (2 * p + 1) = lw_m u (2 * p + 1) := fun f => rfl
    have hng : ∀ v : Int64, -v = -1000000002 ↔ v = 1000000002 := fun v => by simp
    have hle : ∀ v w : Int64, v < w ↔ ¬ w ≤ v := fun v w => dm_l_le.symm
    unfold lm_k lm_v0 lm_v1 lm_u0 lm_u1 lm_lo lm_hi at hq
    by_cases z : lw_m u (2 * p) = 0
    · refine ⟨fun _ => ⟨N, M, fr, tr, ⟨pt, g1⟩, C, nb, bg, en, g2, a, g3, p, g4, fun z2 => ?_, fun z2 => ?_⟩, fun y => absurd z y⟩
      · simp only [if_pos z, if_pos z2] at hq
        exact hq.1 ⟨Or.inl trivial, Or.inl trivial⟩
      · simp only [if_pos z, if_neg z2] at hq
        generalize dm_sj u 37 (wg_ds u N C nb bg en (nI p) (fr a)) = u2 at hq ⊢
        generalize wg_ds u N C nb bg en (nI p) (fr a) (tr a) = d1 at hq ⊢
        simp only [hle]
        by_cases e3 : d1 = 1152921504606846976
        · (simp [e3, hng] at hq ⊢; try exact hq)
        · by_cases e4 : d1 = -1000000002
          · (simp [e3, e4, hng] at hq ⊢; try exact hq)
          · by_cases e5 : y ≤ d1
            · (simp [e3, e4, e5, hng] at hq ⊢; try exact hq)
            · (simp [e3, e4, e5, hng] at hq ⊢; try exact hq)
    · refine ⟨fun y => absurd y z, fun _ => ⟨N, M, fr, tr, ⟨pt, (hs _).1⟩, C, nb, bg, en, (hs _).2.1, a, g3, p, (hs _).2.2.2, ?_⟩⟩
      rw [hm]
      simp only [if_neg z, hm] at hq
      generalize dm_sj u 37 (wg_ds u N C nb bg en (nI p) (tr a)) = u1 at hq ⊢
      generalize wg_ds u N C nb bg en (nI p) (tr a) (fr a) = d0 at hq ⊢
      refine ⟨fun z2 => ?_, fun z2 => ?_⟩
      · simp only [if_pos z2] at hq
        simp only [hle]
        by_cases e1 : d0 = 1152921504606846976
        · (simp [e1, hng] at hq ⊢; try exact hq)
        · by_cases e2 : d0 = 1000000002
          · (simp [e1, e2, hng] at hq ⊢; try exact hq)
          · by_cases e5 : -d0 ≤ y
            · (simp [e1, e2, e5, hng] at hq ⊢; try exact hq)
            · (simp [e1, e2, e5, hng] at hq ⊢; try exact hq)
      · simp only [if_neg z2] at hq
        generalize dm_sj u1 37 (wg_ds u1 N C nb bg en (nI p) (fr a)) = u2 at hq ⊢
        generalize wg_ds u1 N C nb bg en (nI p) (fr a) (tr a) = d1 at hq ⊢
        simp only [hle]
        by_cases e1 : d0 = 1152921504606846976
        · by_cases e3 : d1 = 1152921504606846976
          · (simp [e1, e3, hng] at hq ⊢; try exact hq)
          · by_cases e4 : d1 = -1000000002
            · (simp [e1, e3, e4, hng] at hq ⊢; try exact hq)
            · by_cases e6 : y ≤ d1 <;> (simp [e1, e3, e4, e6, hng] at hq ⊢; try exact hq)
        · by_cases e2 : d0 = 1000000002
          · by_cases e3 : d1 = 1152921504606846976
            · (simp [e1, e2, e3, hng] at hq ⊢; try exact hq)
            · by_cases e4 : d1 = -1000000002
              · (simp [e1, e2, e3, e4, hng] at hq ⊢; try exact hq)
              · by_cases e6 : y ≤ d1 <;> (simp [e1, e2, e3, e4, e6, hng] at hq ⊢; try exact hq)
          · by_cases e5 : -d0 ≤ y
            · by_cases e3 : d1 = 1152921504606846976
              · (simp [e1, e2, e3, e5, hng] at hq ⊢; try exact hq)
              · by_cases e4 : d1 = -1000000002
                · (simp [e1, e2, e3, e4, e5, hng] at hq ⊢; try exact hq)
                · by_cases e6 : y ≤ d1 <;> (simp [e1, e2, e3, e4, e5, e6, hng] at hq ⊢; try exact hq)
            · by_cases e3 : d1 = 1152921504606846976
              · (simp [e1, e2, e3, e5, hng] at hq ⊢; try exact hq)
              · by_cases e4 : d1 = -1000000002
                · (simp [e1, e2, e3, e4, e5, hng] at hq ⊢; try exact hq)
                · by_cases e6 : y ≤ d1 <;> (simp [e1, e2, e3, e4, e5, e6, hng] at hq ⊢; try exact hq)
  · exact h.elim
set_option maxRecDepth 100000 in
theorem t_X10_keeps (l : Launch) (D : va_G) (cA : Nat → ClassId) (ad : Nat → Nat) : dm_Met l D dm_cl cA ad shC yX10_keeps (Cond.code yX10_keeps cX10_keeps 8 (dm_rt 3) :: dm_tt) ({ frames := 4, cells := 0, slots := 0, locals := 96 } : Room) sp_X10_keeps := dm_meth (own := RX10) (X := x_X10_keeps) (Sp := k_X10_keeps) (prog := p_X10_keeps) (by decide +kernel) rfl rfl (dm_FO_s ffX10 [(12, 10, 0), (46, 10, 4), (91, 10, 10)] rfl dm_hT (by decide +kernel)) (dm_IO_s ifX10 jfX10 [] [(187, -1000000002)] rfl rfl dm_hT (by decide +kernel) (by decide +kernel)) soC (dm_MO_of (List.forall_mem_cons.mpr ⟨dm_M1_of (t_X2_isPlain l D cA ad) dm_hT (dm_mem [529, 67, 526] (by decide +kernel) (by decide +kernel)) (by decide) (by decide +kernel) (Or.inr ⟨by decide, dm_mem [527, 528] (by decide +kernel) (by decide +kernel), rfl⟩), List.forall_mem_cons.mpr ⟨dm_M1_of (t_X5_leastRate l D cA ad) dm_hT (dm_mem [864, 71, 861] (by decide +kernel) (by decide +kernel)) (by decide) (by decide +kernel) (Or.inr ⟨by decide, dm_mem [862, 863] (by decide +kernel) (by decide +kernel), rfl⟩), List.forall_mem_cons.mpr ⟨dm_M1_of (t_X5_greatestRate l D cA ad) dm_hT (dm_mem [874, 71, 871] (by decide +kernel) (by decide +kernel)) (by decide) (by decide +kernel) (Or.inr ⟨by decide, dm_mem [872, 873] (by decide +kernel) (by decide +kernel), rfl⟩), fun _ h => absurd h List.not_mem_nil⟩⟩⟩)) v_X10_keeps u_X10_keeps
