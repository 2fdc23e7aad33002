/-! ===== piece ===== -/
theorem cn_fs_up {pt pt' : Nat → Nat} {i : Nat} (h1 : ∀ a, a ≠ i → pt' a = pt a) (h2 : pt' i = pt i + 1) : ∀ M, i < M → cn_fs pt' M = cn_fs pt M + 1
  | 0, h => absurd h (Nat.not_lt_zero _)
  | M + 1, h => by
    show cn_fs pt' M + pt' M = cn_fs pt M + pt M + 1
    by_cases q : i = M
    · subst q
      rw [cn_fs_cg2 i (fun a ha => h1 a (by omega)), h2]
      omega
    · rw [cn_fs_up h1 h2 M (by omega), h1 M (fun z => q z.symm)]
      omega
/-- the net with one part more on an arc -/
def AN.pce (A : AN) (i : Nat) (m c : Int) : AN := AN.mk A.n A.M A.fr A.tr (fun a => if a = i then A.pt i + 1 else A.pt a) A.en A.tp (uI A.st (4 * i + A.pt i) m) (uI A.rt (4 * i + A.pt i) c) A.su
theorem AN.pce_ne {A : AN} {i a : Nat} {m c : Int} (hA : A.ok) (hi : i < A.M) (ha : a < A.M) (h : a ≠ i) : (A.pce i m c).pt a = A.pt a ∧ ∀ k, k < 4 → A.pt i < 4 → (A.pce i m c).st (4 * a + k) = A.st (4 * a + k) ∧ (A.pce i m c).rt (4 * a + k) = A.rt (4 * a + k) :=
  ⟨if_neg h, fun k hk hp => ⟨if_neg (by omega), if_neg (by omega)⟩⟩
theorem AN.pce_at {A : AN} {i : Nat} {m c : Int} : (A.pce i m c).pt i = A.pt i + 1 ∧ ((A.pce i m c).st (4 * i + A.pt i) = m ∧ (A.pce i m c).rt (4 * i + A.pt i) = c) ∧ ∀ k, k ≠ A.pt i → (A.pce i m c).st (4 * i + k) = A.st (4 * i + k) ∧ (A.pce i m c).rt (4 * i + k) = A.rt (4 * i + k) :=
  ⟨if_pos rfl, ⟨if_pos rfl, if_pos rfl⟩, fun k hk => ⟨if_neg (by omega), if_neg (by omega)⟩⟩
theorem AN.pce_ok {A : AN} {i : Nat} {m c : Int} (hA : A.ok) (hi : i < A.M) (hp : A.pt i < 4) (h1 : A.st (4 * i + (A.pt i - 1)) < m) (h2 : m ≤ 1000000) (h3 : A.en i = false → m < A.tp i) (h4 : A.rt (4 * i + (A.pt i - 1)) ≤ c) (h5 : c ≤ 1000000) : (A.pce i m c).ok := by
  refine ⟨hA.1, fun a ha => ?_, hA.2.2⟩
  have ha' : a < A.M := ha
  obtain ⟨o1, o2, o3, o4, o5, o6⟩ := hA.2.1 a ha'
  by_cases q : a = i
  · subst q
    obtain ⟨g1, ⟨g2, g3⟩, g4⟩ := AN.pce_at (A := A) (i := a) (m := m) (c := c)
    unfold AN.aok
    rw [g1]
    refine ⟨o1, by omega, ?_, fun k hk => ?_, fun k hk => ?_, fun he => ⟨(o6 he).1, ?_, fun _ => ?_⟩⟩
    · have := (g4 0 (by omega)).1
      rw [Nat.add_zero] at this
      rw [this]; exact o3
    · by_cases y : k = A.pt a
      · subst y
        rw [g2, g3]
        exact ⟨h2, Int.le_trans (o4 (A.pt a - 1) (by omega)).2.1 h4, h5⟩
      · rw [(g4 k y).1, (g4 k y).2]; exact o4 k (by omega)
    · by_cases y : k + 1 = A.pt a
      · have hk1 : A.pt a - 1 = k := by omega
        rw [hk1] at h1 h4
        rw [Nat.add_assoc, y, g2, g3, (g4 k (by omega)).1, (g4 k (by omega)).2]
        exact ⟨h1, h4⟩
      · have w1 := g4 k (by omega)
        have w2 := g4 (k + 1) y
        rw [← Nat.add_assoc] at w2
        rw [w1.1, w1.2, w2.1, w2.2]
        exact o5 k (by omega)
    · rw [Nat.add_sub_cancel, g2]
      exact Int.le_of_lt (h3 he)
    · rw [Nat.add_sub_cancel, g2]
      exact h3 he
  · obtain ⟨g1, g2⟩ := AN.pce_ne (m := m) (c := c) hA hi ha' q
    unfold AN.aok
    rw [g1]
    refine ⟨o1, o2, ?_, fun k hk => ?_, fun k hk => ?_, fun he => ?_⟩
    · have := (g2 0 (by omega) hp).1
      rw [Nat.add_zero] at this
      rw [this]; exact o3
    · have w1 := g2 k (by omega) hp
      rw [w1.1, w1.2]; exact o4 k hk
    · have w1 := g2 k (by omega) hp
      have w2 := g2 (k + 1) (by omega) hp
      rw [← Nat.add_assoc] at w2
      rw [w1.1, w1.2, w2.1, w2.2]; exact o5 k hk
    · have w1 := g2 (A.pt a - 1) (by omega) hp
      rw [w1.1]; exact o6 he
set_option maxHeartbeats 800000 in
theorem b_piece {u v : dm_S} {x : Int32} {m c0 : Int64} (h : Inv u v) : same (sp_X10_piece [.ref 0, .int x, .long m, .long c0] u) (sp_X11_piece [.ref 0, .int x, .long m, .long c0] v) := by
  have hI := h
  obtain ⟨A, hN, ⟨n, c, T, p1, p2⟩, hS⟩ := h
  obtain ⟨hA, hC, hM, hk⟩ := hN
  obtain ⟨hn, hM80⟩ := hA.1
  have e1 := hC.1.2
  have e2 := hM.1.2
  have key : 0 ≤ x ∧ x < nI A.M → ∃ i, i < A.M ∧ x = nI i ∧ (x.toNatClampNeg = i ∧ vp_in x 80) ∧ (u.1 16 i = nI (A.pt i) ∧ v.1 6 i = nI (A.pt i - 1)) ∧ (x * 4 + u.1 16 i - 1 = nI (4 * i + (A.pt i - 1)) ∧ x * 4 + u.1 16 i = nI (4 * i + A.pt i)) ∧ (4 * x + v.1 6 i = nI (4 * i + (A.pt i - 1)) ∧ 4 * x + v.1 6 i + 1 = nI (4 * i + A.pt i)) := fun z => by
    obtain ⟨x1, x2⟩ := i_nI (by omega) z
    have q1 := (hC.2.2 _ x2).2.2.1
    have q2 := (hM.2.2 _ x2).2.2.1
    have q3 := (hA.2.1 _ x2).2.1
    have m1 : x * 4 = nI (4 * x.toNatClampNeg) := by
      have : nI x.toNatClampNeg * 4 = nI (4 * x.toNatClampNeg) := by rw [show (4 : Int32) = nI 4 from rfl, pk_mul, Nat.mul_comm]
      rw [← x1] at this; exact this
    have m2 : 4 * x = nI (4 * x.toNatClampNeg) := by
      have : 4 * nI x.toNatClampNeg = nI (4 * x.toNatClampNeg) := by rw [show (4 : Int32) = nI 4 from rfl, pk_mul]
      rw [← x1] at this; exact this
    have a1 : nI (4 * x.toNatClampNeg) + nI (A.pt x.toNatClampNeg) - 1 = nI (4 * x.toNatClampNeg + (A.pt x.toNatClampNeg - 1)) := by
      rw [nI_add, nI_sub1 (by omega), Nat.add_sub_assoc q3.1]
    have a2 : nI (4 * x.toNatClampNeg) + nI (A.pt x.toNatClampNeg - 1) + 1 = nI (4 * x.toNatClampNeg + A.pt x.toNatClampNeg) := by
      rw [nI_add, nI_1, Nat.add_assoc, Nat.sub_add_cancel q3.1]
    refine ⟨x.toNatClampNeg, x2, x1, ⟨rfl, by rw [x1]; exact vp_in_nI (by omega) (by omega)⟩, ⟨q1, q2⟩, ?_, ?_⟩
    · rw [q1, m1]; exact ⟨a1, nI_add _ _⟩
    · rw [q2, m2]; exact ⟨nI_add _ _, a2⟩
  -- what both test
  have tst : ∀ i, i < A.M → x = nI i → x.toNatClampNeg = i → (0 ≤ x ∧ x < nI A.M) → (u.1 16 i = nI (A.pt i) ∧ v.1 6 i = nI (A.pt i - 1)) → (x * 4 + u.1 16 i - 1 = nI (4 * i + (A.pt i - 1))) → (4 * x + v.1 6 i = nI (4 * i + (A.pt i - 1))) → (dm_pc u x m c0 ↔ (A.pt i < 4 ∧ A.st (4 * i + (A.pt i - 1)) < m.toInt ∧ m.toInt ≤ 1000000 ∧ (A.en i = false → m.toInt < A.tp i) ∧ A.rt (4 * i + (A.pt i - 1)) ≤ c0.toInt ∧ c0.toInt ≤ 1000000)) ∧ (mp_g v x m c0 ↔ (A.pt i < 4 ∧ A.st (4 * i + (A.pt i - 1)) < m.toInt ∧ m.toInt ≤ 1000000 ∧ (A.en i = false → m.toInt < A.tp i) ∧ A.rt (4 * i + (A.pt i - 1)) ≤ c0.toInt ∧ c0.toInt ≤ 1000000)) := by
    intro i hi x1 x2 z q s1 s2
    obtain ⟨o1, o2, o3, o4, o5, o6⟩ := hA.2.1 i hi
    obtain ⟨c1, ⟨c2, c3⟩, c4, c5⟩ := hC.2.2 i hi
    obtain ⟨r1, ⟨r2, r3⟩, r4, r5, r6⟩ := hM.2.2 i hi
    have ob := o4 (A.pt i - 1) (by omega)
    have st0 : ∀ k, k < A.pt i → 0 ≤ A.st (4 * i + k) := fun k => by
      induction k with
      | zero => intro _; exact o3
      | succ k ih => intro hk2; have := ih (by omega); have := (o5 k hk2).1; exact (by rw [← Nat.add_assoc]; omega)
    have sl := st0 (A.pt i - 1) (by omega)
    have bst : lB (A.st (4 * i + (A.pt i - 1))) := ⟨by omega, by omega⟩
    have brt : lB (A.rt (4 * i + (A.pt i - 1))) := ⟨by omega, by omega⟩
    have m6 : ((1000000 : Int64).toInt) = 1000000 := rfl
    have w1 : lI (A.st (4 * i + (A.pt i - 1))) < m ↔ A.st (4 * i + (A.pt i - 1)) < m.toInt := by rw [Int64.lt_iff_toInt_lt, lI_ti bst]
    have w2 : lI (A.rt (4 * i + (A.pt i - 1))) ≤ c0 ↔ A.rt (4 * i + (A.pt i - 1)) ≤ c0.toInt := by rw [Int64.le_iff_toInt_le, lI_ti brt]
    have w3 : m ≤ 1000000 ↔ m.toInt ≤ 1000000 := by rw [Int64.le_iff_toInt_le, m6]
    have w4 : c0 ≤ 1000000 ↔ c0.toInt ≤ 1000000 := by rw [Int64.le_iff_toInt_le, m6]
    have w5 : m < 1000001 ↔ m.toInt ≤ 1000000 := by
      rw [Int64.lt_iff_toInt_lt, show ((1000001 : Int64).toInt) = 1000001 from rfl]; omega
    have ct : (nI (4 * i + (A.pt i - 1))).toNatClampNeg = 4 * i + (A.pt i - 1) := nI_clamp (by omega)
    constructor
    · unfold dm_pc
      rw [x2, s1, ct, q.1, e1, c3, (c5 _ (by omega)).1, (c5 _ (by omega)).2, w1, w2, w3, w4, show (nI (A.pt i) < 4 ↔ A.pt i < 4) from nI_ltI (b := 4) (by omega) (by omega)]
      have w6 : m.toInt ≤ 1000000 → (m < lI (if A.en i then 1000000000 else A.tp i) ↔ (A.en i = false → m.toInt < A.tp i)) := fun hm => by
        cases he : A.en i with
        | true =>
          rw [if_pos rfl, Int64.lt_iff_toInt_lt, lI_ti ⟨by omega, by omega⟩]
          exact ⟨fun _ z => absurd z (by decide), fun _ => by omega⟩
        | false =>
          have := o6 he
          rw [if_neg (by decide), Int64.lt_iff_toInt_lt, lI_ti ⟨by omega, by omega⟩]
          exact ⟨fun z _ => z, fun z => z rfl⟩
      exact ⟨fun ⟨_, y2, y3, y4, y5, y6⟩ => ⟨y2, y3, y5, (w6 y5).mp y4, y6⟩, fun ⟨y2, y3, y4, y5, y6⟩ => ⟨z, y2, y3, (w6 y4).mpr y5, y4, y6⟩⟩
    · unfold mp_g
      have w7 : (if nI (A.pt i - 1) ≤ 0 then v.2 4 i else v.2 8 (4 * i + (A.pt i - 1))) = lI (A.st (4 * i + (A.pt i - 1))) := by
        by_cases y : A.pt i - 1 = 0
        · rw [y, if_pos (by decide), r2, Nat.add_zero]
        · rw [if_neg (fun z => y (by have := (nI_leI (b := 0) (by omega) (by omega)).mp z; omega))]
          have := r6 (A.pt i - 2) (by omega)
          rw [show 4 * i + (A.pt i - 2) + 1 = 4 * i + (A.pt i - 1) by omega] at this
          exact this
      rw [x2, s2, ct, q.2, e2, w7, r5 _ (by omega), w1, w2, w4, show (nI (A.pt i - 1) = 3 ↔ A.pt i - 1 = 3) from nI_eq (b := 3) (by omega) (by omega)]
      have w8 : m < (if v.2 5 i = -2 then 1000001 else v.2 5 i) ↔ m.toInt ≤ 1000000 ∧ (A.en i = false → m.toInt < A.tp i) := by
        rw [r3]
        cases he : A.en i with
        | true =>
          rw [if_pos rfl, if_pos rfl, w5]
          exact ⟨fun z => ⟨z, fun y => absurd y (by decide)⟩, fun z => z.1⟩
        | false =>
          have t := o6 he
          have tn : ¬ lI (A.tp i) = -2 := fun z => by
            have : (lI (A.tp i)).toInt = (-2 : Int64).toInt := by rw [z]
            rw [lI_ti ⟨by omega, by omega⟩, show ((-2 : Int64).toInt) = -2 from rfl] at this
            omega
          rw [if_neg (show ¬ (false = true) by decide), if_neg tn, Int64.lt_iff_toInt_lt, lI_ti ⟨by omega, by omega⟩]
          exact ⟨fun z => ⟨by omega, fun _ => z⟩, fun z => z.2 rfl⟩
      rw [w8]
      exact ⟨fun ⟨_, y2, y3, y4, y6⟩ => ⟨by omega, y3, y4.1, y4.2, y6⟩, fun ⟨y2, y3, y4, y5, y6⟩ => ⟨z, by omega, y3, ⟨y4, y5⟩, y6⟩⟩
  have hq : dm_pc u x m c0 ↔ mp_g v x m c0 := by
    by_cases z : 0 ≤ x ∧ x < nI A.M
    · obtain ⟨i, hi, x1, ⟨x2, -⟩, q, ⟨s1, -⟩, ⟨s2, -⟩⟩ := key z
      obtain ⟨k1, k2⟩ := tst i hi x1 x2 z q s1 s2
      exact k1.trans k2.symm
    · exact ⟨fun y => absurd (by have := y.1; rw [e1] at this; exact this) z, fun y => absurd (by have := y.1; rw [e2] at this; exact this) z⟩
  have d1 : 0 ≤ x ∧ x < u.1 1 9 → vp_in x 80 ∧ (u.1 16 x.toNatClampNeg < 4 → vp_in (x * 4 + u.1 16 x.toNatClampNeg - 1) 320) := fun z => by
    rw [e1] at z
    obtain ⟨i, hi, x1, ⟨x2, x3⟩, q, ⟨s1, -⟩, -⟩ := key z
    have q3 := (hA.2.1 _ hi).2.1
    rw [x2, s1]
    exact ⟨x3, fun _ => vp_in_nI (by omega) (by omega)⟩
  have d2 : 0 ≤ x → x < v.1 0 1 → vp_in x 80 ∧ (¬ v.1 6 x.toNatClampNeg = 3 → vp_in (4 * x + v.1 6 x.toNatClampNeg) 320 ∧ vp_in (4 * x + v.1 6 x.toNatClampNeg + 1) 320) := fun z z0 => by
    rw [e2] at z0
    obtain ⟨i, hi, x1, ⟨x2, x3⟩, q, -, ⟨s1, s2⟩⟩ := key ⟨z, z0⟩
    have q3 := (hA.2.1 _ hi).2.1
    rw [x2, s2, s1, q.2]
    refine ⟨x3, fun y => ⟨vp_in_nI (by omega) (by omega), vp_in_nI ?_ (by omega)⟩⟩
    have : ¬ A.pt i - 1 = 3 := fun w => y (by rw [w]; rfl)
    omega
  refine ⟨d1, fun z => ?_, fun z => ⟨d2, fun _ => ⟨rfl, hI⟩, fun z2 => absurd (hq.mpr z2) z⟩⟩
  have z' := hq.mp z
  have z0 := z.1
  rw [e1] at z0
  obtain ⟨i, hi, x1, ⟨x2, x3⟩, q, ⟨s1, s2⟩, ⟨s3, s4⟩⟩ := key z0
  obtain ⟨y1, y2, y3, y4, y5, y6⟩ := (tst i hi x1 x2 z0 q s1 s3).1.mp z
  have q3 := (hA.2.1 _ hi).2.1
  have hA' := AN.pce_ok (m := m.toInt) (c := c0.toInt) hA hi y1 y2 y3 y4 y5 y6
  have hat := AN.pce_at (A := A) (i := i) (m := m.toInt) (c := c0.toInt)
  have hne := fun a (ha : a < A.M) (h : a ≠ i) => AN.pce_ne (m := m.toInt) (c := c0.toInt) hA hi ha h
  have ct : (nI (4 * i + A.pt i)).toNatClampNeg = 4 * i + A.pt i := nI_clamp (by omega)
  rw [x2, s2, ct]
  refine ⟨vp_in_nI (by omega) (by omega), d2, fun z2 => absurd z' z2, fun _ => ?_⟩
  rw [x2, s4, ct, q.1, q.2]
  refine ⟨by rw [nI_1, Nat.sub_add_cancel q3.1], A.pce i m.toInt c0.toInt, ⟨hA', ⟨hC.1, hC.2.1, fun a ha => ?_⟩, ⟨hM.1, hM.2.1, fun a ha => ?_⟩, ?_⟩, ⟨n, c, T, p1, p2⟩, Or.inl ⟨rfl, ⟨rfl, rfl, rfl⟩, rfl, rfl⟩⟩
  · have ha' : a < A.M := ha
    obtain ⟨o1, o2, o3, o4⟩ := hC.2.2 a ha'
    refine ⟨o1, o2, ?_⟩
    show upd (u.1 16) i (nI (A.pt i) + 1) a = _ ∧ ∀ k, k < _ → vp_updL (u.2 17) (4 * i + A.pt i) m (4 * a + k) = _ ∧ vp_updL (u.2 18) (4 * i + A.pt i) c0 (4 * a + k) = _
    by_cases w : a = i
    · subst w
      obtain ⟨g1, ⟨g2, g3⟩, g4⟩ := hat
      rw [g1, upd_at]
      refine ⟨nI_1 _, fun k hk2 => ?_⟩
      by_cases y : k = A.pt a
      · subst y
        rw [g2, g3, updL_at, updL_at, lI_to, lI_to]
        exact ⟨rfl, rfl⟩
      · rw [(g4 k y).1, (g4 k y).2, updL_ne (by omega), updL_ne (by omega)]
        exact o4 k (by omega)
    · have p4 := (hA.2.1 a ha').2.1.2
      obtain ⟨g1, g2⟩ := hne a ha' w
      rw [g1, upd_ne w]
      refine ⟨o3, fun k hk2 => ?_⟩
      rw [(g2 k (by omega) y1).1, (g2 k (by omega) y1).2, updL_ne (by omega), updL_ne (by omega)]
      exact o4 k hk2
  · have ha' : a < A.M := ha
    obtain ⟨o1, ⟨o2, o2'⟩, o3, o4, o5⟩ := hM.2.2 a ha'
    have p4 := (hA.2.1 a ha').2.1
    show _ ∧ (v.2 4 a = _ ∧ v.2 5 a = _) ∧ upd (v.1 6) i (nI (A.pt i - 1) + 1) a = _ ∧ (∀ k, k < _ → vp_updL (v.2 7) (4 * i + A.pt i) c0 (4 * a + k) = _) ∧ ∀ k, k + 1 < _ → vp_updL (v.2 8) (4 * i + A.pt i) m (4 * a + k + 1) = _
    by_cases w : a = i
    · subst w
      obtain ⟨g1, ⟨g2, g3⟩, g4⟩ := hat
      have s0 := (g4 0 (by omega)).1
      rw [Nat.add_zero] at s0
      rw [g1, upd_at, s0]
      refine ⟨o1, ⟨o2, o2'⟩, by rw [nI_1, Nat.sub_add_cancel q3.1, Nat.add_sub_cancel], fun k hk2 => ?_, fun k hk2 => ?_⟩
      · by_cases y : k = A.pt a
        · subst y
          rw [g3, updL_at, lI_to]
        · rw [(g4 k y).2, updL_ne (by omega)]
          exact o4 k (by omega)
      · rw [Nat.add_assoc]
        by_cases y : k + 1 = A.pt a
        · rw [y, g2, updL_at, lI_to]
        · rw [(g4 (k + 1) y).1, updL_ne (by omega), ← Nat.add_assoc]
          exact o5 k (by omega)
    · obtain ⟨g1, g2⟩ := hne a ha' w
      have s0 := (g2 0 (by omega) y1).1
      rw [Nat.add_zero] at s0
      rw [g1, upd_ne w, s0]
      refine ⟨o1, ⟨o2, o2'⟩, o3, fun k hk2 => ?_, fun k hk2 => ?_⟩
      · rw [(g2 k (by omega) y1).2, updL_ne (by omega)]
        exact o4 k hk2
      · rw [Nat.add_assoc, (g2 (k + 1) (by omega) y1).1, updL_ne (by omega), ← Nat.add_assoc]
        exact o5 k hk2
  · show u.1 1 10 + 1 = nI (cn_fs (A.pce i m.toInt c0.toInt).pt A.M - A.M)
    rw [cn_fs_up (pt := A.pt) (pt' := (A.pce i m.toInt c0.toInt).pt) (i := i) (fun a ha => if_neg ha) hat.1 A.M hi, hk, nI_1]
    have := cn_fs_ge hA A.M (Nat.le_refl _)
    rw [Nat.sub_add_comm this]
