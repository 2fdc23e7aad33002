/-! ===== arc ===== -/
theorem upd_at {f : Nat → Int32} {j : Nat} {x : Int32} : upd f j x j = x := if_pos rfl
theorem upd_ne {f : Nat → Int32} {j i : Nat} {x : Int32} (h : i ≠ j) : upd f j x i = f i := if_neg h
theorem updL_at {f : Nat → Int64} {j : Nat} {x : Int64} : vp_updL f j x j = x := if_pos rfl
theorem updL_ne {f : Nat → Int64} {j i : Nat} {x : Int64} (h : i ≠ j) : vp_updL f j x i = f i := if_neg h
theorem cn_fs_cg2 {pt pt' : Nat → Nat} : ∀ M, (∀ a, a < M → pt' a = pt a) → cn_fs pt' M = cn_fs pt M
  | 0, _ => rfl
  | M + 1, h => by
    show cn_fs pt' M + pt' M = cn_fs pt M + pt M
    rw [cn_fs_cg2 M (fun a ha => h a (by omega)), h M (by omega)]
/-- the net with one arc more -/
def AN.arn (A : AN) (x y : Nat) (e : Bool) (lo mo co : Int) : AN := AN.mk A.n (A.M + 1) (fun a => if a = A.M then x else A.fr a) (fun a => if a = A.M then y else A.tr a) (fun a => if a = A.M then 1 else A.pt a) (fun a => if a = A.M then e else A.en a) (uI A.tp A.M mo) (uI A.st (4 * A.M) lo) (uI A.rt (4 * A.M) co) A.su
theorem AN.arn_lo {A : AN} {x y : Nat} {e : Bool} {lo mo co : Int} {a : Nat} (h : a < A.M) : (A.arn x y e lo mo co).fr a = A.fr a ∧ (A.arn x y e lo mo co).tr a = A.tr a ∧ (A.arn x y e lo mo co).pt a = A.pt a ∧ (A.arn x y e lo mo co).en a = A.en a ∧ (A.arn x y e lo mo co).tp a = A.tp a ∧ ∀ k, k < 4 → (A.arn x y e lo mo co).st (4 * a + k) = A.st (4 * a + k) ∧ (A.arn x y e lo mo co).rt (4 * a + k) = A.rt (4 * a + k) :=
  ⟨if_neg (by omega), if_neg (by omega), if_neg (by omega), if_neg (by omega), if_neg (by omega), fun k hk => ⟨if_neg (by omega), if_neg (by omega)⟩⟩
theorem AN.arn_at {A : AN} {x y : Nat} {e : Bool} {lo mo co : Int} : (A.arn x y e lo mo co).fr A.M = x ∧ (A.arn x y e lo mo co).tr A.M = y ∧ (A.arn x y e lo mo co).pt A.M = 1 ∧ (A.arn x y e lo mo co).en A.M = e ∧ (A.arn x y e lo mo co).tp A.M = mo ∧ (A.arn x y e lo mo co).st (4 * A.M) = lo ∧ (A.arn x y e lo mo co).rt (4 * A.M) = co :=
  ⟨if_pos rfl, if_pos rfl, if_pos rfl, if_pos rfl, if_pos rfl, if_pos rfl, if_pos rfl⟩
theorem AN.arn_ok {A : AN} {x y : Nat} {e : Bool} {lo mo co : Int} (hA : A.ok) (hM : A.M < 80) (hx : x < A.n) (hy : y < A.n) (hne : x ≠ y) (hl : 0 ≤ lo ∧ lo ≤ 1000000) (hc : -1000000 ≤ co ∧ co ≤ 1000000) (hm : e = false → lo ≤ mo ∧ mo ≤ 1000000) : (A.arn x y e lo mo co).ok := by
  refine ⟨⟨hA.1.1, hM⟩, fun a ha => ?_, hA.2.2⟩
  have ha' : a < A.M + 1 := ha
  by_cases q : a = A.M
  · subst q
    obtain ⟨g1, g2, g3, g4, g5, g6, g7⟩ := AN.arn_at (A := A) (x := x) (y := y) (e := e) (lo := lo) (mo := mo) (co := co)
    unfold AN.aok
    rw [g1, g2, g3, g4, g5, g6]
    refine ⟨⟨hx, hy, hne⟩, by decide, hl.1, fun k hk => ?_, fun k hk => absurd hk (by omega), fun he => ⟨(hm he).2, ?_, fun z => absurd z (by decide)⟩⟩
    · have : k = 0 := by omega
      subst this
      rw [Nat.add_zero, g6, g7]
      exact ⟨hl.2, hc⟩
    · show (A.arn x y e lo mo co).st (4 * A.M) ≤ mo
      rw [g6]
      exact (hm he).1
  · have hlt : a < A.M := by omega
    obtain ⟨f1, f2, f3, f4, f5, f6⟩ := AN.arn_lo (A := A) (x := x) (y := y) (e := e) (lo := lo) (mo := mo) (co := co) hlt
    obtain ⟨o1, o2, o3, o4, o5, o6⟩ := hA.2.1 a hlt
    unfold AN.aok
    rw [f1, f2, f3, f4, f5]
    refine ⟨o1, o2, ?_, fun k hk => ?_, fun k hk => ?_, fun he => ?_⟩
    · have := (f6 0 (by omega)).1
      rw [Nat.add_zero] at this
      rw [this]; exact o3
    · rw [(f6 k (by omega)).1, (f6 k (by omega)).2]; exact o4 k hk
    · have h1 := f6 k (by omega)
      have h2 := f6 (k + 1) (by omega)
      rw [← Nat.add_assoc] at h2
      rw [h1.1, h1.2, h2.1, h2.2]; exact o5 k hk
    · rw [(f6 (A.pt a - 1) (by omega)).1]; exact o6 he
set_option maxHeartbeats 800000 in
theorem b_arc {u v : dm_S} {x y : Int32} {lo mo co : Int64} (h : Inv u v) : same (sp_X10_arc [.ref 0, .int x, .int y, .long lo, .long mo, .long co] u) (sp_X11_arc [.ref 0, .int x, .int y, .long lo, .long mo, .long co] v) := by
  have hI := h
  obtain ⟨A, hN, ⟨n, c, T, p1, p2⟩, hS⟩ := h
  obtain ⟨hA, hC, hM, hk⟩ := hN
  obtain ⟨hn, hM80⟩ := hA.1
  have e1 := hC.1.1
  have e1' := hC.1.2
  have e2 := hM.1.1
  have e2' := hM.1.2
  have t1 : u.1 1 9 < 80 ↔ A.M < 80 := by rw [e1']; exact nI_ltI (b := 80) (by omega) (by omega)
  have t2 : v.1 0 1 = 80 ↔ A.M = 80 := by rw [e2']; exact nI_eq (b := 80) (by omega) (by omega)
  have hq : dm_ac u x y lo mo co ↔ dm_am v x y lo mo co := by
    unfold dm_ac dm_am
    rw [t1, t2, e1, e2]
    exact ⟨fun ⟨q1, q2, q3, q4, q5⟩ => ⟨q1, q2, q3, by omega, q5⟩, fun ⟨q1, q2, q3, q4, q5⟩ => ⟨q1, q2, q3, by omega, q5⟩⟩
  refine ⟨fun z => ?_, fun z => ⟨fun z2 => absurd (hq.mpr z2) z, fun _ => ⟨rfl, hI⟩⟩⟩
  obtain ⟨z1, z2, z3, z4, z5, z6, z7⟩ := z
  rw [e1] at z1 z2
  have z' : dm_am v x y lo mo co := hq.mp ⟨by rw [e1]; exact z1, by rw [e1]; exact z2, z3, z4, z5, z6, z7⟩
  rw [t1] at z4
  obtain ⟨x1, x2⟩ := i_nI (by omega) z1
  obtain ⟨y1, y2⟩ := i_nI (by omega) z2
  have hne : x.toNatClampNeg ≠ y.toNatClampNeg := fun q => z3 (by rw [x1, y1, q])
  have hl : 0 ≤ lo.toInt ∧ lo.toInt ≤ 1000000 := ⟨Int64.le_iff_toInt_le.mp z5.1, Int64.le_iff_toInt_le.mp z5.2⟩
  have hc := l_bd z6
  have hm : decide (mo = -2) = false → lo.toInt ≤ mo.toInt ∧ mo.toInt ≤ 1000000 := fun q => by
    rcases z7 with z7 | z7
    · simp [z7] at q
    · exact ⟨Int64.le_iff_toInt_le.mp z7.1, Int64.le_iff_toInt_le.mp z7.2⟩
  have cm : (nI A.M).toNatClampNeg = A.M := nI_clamp (by omega)
  have m1 : nI A.M * 4 = nI (4 * A.M) := by rw [show (4 : Int32) = nI 4 from rfl, pk_mul, Nat.mul_comm]
  have m2 : 4 * nI A.M = nI (4 * A.M) := by rw [show (4 : Int32) = nI 4 from rfl, pk_mul]
  have cm4 : (nI (4 * A.M)).toNatClampNeg = 4 * A.M := nI_clamp (by omega)
  have ix : vp_in (nI A.M) 80 := vp_in_nI (by omega) (by omega)
  have ix4 : vp_in (nI (4 * A.M)) 320 := vp_in_nI (by omega) (by omega)
  have e3 : (dm_fg u).1 1 9 = nI A.M := e1'
  have hA' := AN.arn_ok (x := x.toNatClampNeg) (y := y.toNatClampNeg) (e := decide (mo = -2)) (lo := lo.toInt) (mo := mo.toInt) (co := co.toInt) hA z4 x2 y2 hne hl hc hm
  have hlo := fun a (h : a < A.M) => AN.arn_lo (A := A) (x := x.toNatClampNeg) (y := y.toNatClampNeg) (e := decide (mo = -2)) (lo := lo.toInt) (mo := mo.toInt) (co := co.toInt) h
  have hat := AN.arn_at (A := A) (x := x.toNatClampNeg) (y := y.toNatClampNeg) (e := decide (mo = -2)) (lo := lo.toInt) (mo := mo.toInt) (co := co.toInt)
  unfold sp_X2_addArc
  simp only []
  rw [e3, m1, cm, cm4]
  refine ⟨ix, ix4, fun _ => ?_, fun q => absurd z' q⟩
  rw [e2', m2, cm, cm4]
  refine ⟨ix, ix4, rfl, A.arn x.toNatClampNeg y.toNatClampNeg (decide (mo = -2)) lo.toInt mo.toInt co.toInt, ⟨hA', ⟨⟨e1, ?_⟩, hC.2.1, fun a ha => ?_⟩, ⟨⟨e2, ?_⟩, hM.2.1, fun a ha => ?_⟩, ?_⟩, ⟨n, c, T, p1, p2⟩, Or.inl ⟨rfl, ⟨rfl, rfl, rfl⟩, rfl, rfl⟩⟩
  · show nI A.M + 1 = nI (A.M + 1)
    exact nI_1 _
  · have ha' : a < A.M + 1 := ha
    show (upd (u.1 12) A.M x a = _ ∧ upd (u.1 13) A.M y a = _) ∧ (upd (u.1 14) A.M (if mo = -2 then 1 else 0) a = _ ∧ vp_updL (u.2 15) A.M (if mo = -2 then 1000000000 else mo) a = _) ∧ upd (u.1 16) A.M 1 a = _ ∧ ∀ k, k < _ → vp_updL (u.2 17) (4 * A.M) lo (4 * a + k) = _ ∧ vp_updL (u.2 18) (4 * A.M) co (4 * a + k) = _
    by_cases q : a = A.M
    · subst q
      obtain ⟨g1, g2, g3, g4, g5, g6, g7⟩ := hat
      rw [g1, g2, g3, g4, g5, upd_at, upd_at, upd_at, upd_at, updL_at]
      refine ⟨⟨x1, y1⟩, ⟨?_, ?_⟩, rfl, fun k hk2 => ?_⟩
      · by_cases w : mo = -2
        · rw [if_pos w, if_pos (decide_eq_true w)]
        · rw [if_neg w, if_neg (by simpa using w)]
      · by_cases w : mo = -2
        · rw [if_pos w, if_pos (decide_eq_true w)]; rfl
        · rw [if_neg w, if_neg (by simpa using w), lI_to]
      · have : k = 0 := by omega
        subst this
        rw [Nat.add_zero, g6, g7, updL_at, updL_at, lI_to, lI_to]
        exact ⟨rfl, rfl⟩
    · have hlt : a < A.M := by omega
      obtain ⟨f1, f2, f3, f4, f5, f6⟩ := hlo a hlt
      obtain ⟨⟨q1, q2⟩, ⟨q3, q4⟩, q5, q6⟩ := hC.2.2 a hlt
      have p4 := (hA.2.1 a hlt).2.1.2
      rw [f1, f2, f3, f4, f5, upd_ne q, upd_ne q, upd_ne q, upd_ne q, updL_ne q]
      refine ⟨⟨q1, q2⟩, ⟨q3, q4⟩, q5, fun k hk2 => ?_⟩
      rw [(f6 k (by omega)).1, (f6 k (by omega)).2, updL_ne (by omega), updL_ne (by omega)]
      exact q6 k hk2
  · show nI A.M + 1 = nI (A.M + 1)
    exact nI_1 _
  · have ha' : a < A.M + 1 := ha
    show (upd (v.1 2) A.M x a = _ ∧ upd (v.1 3) A.M y a = _) ∧ (vp_updL (v.2 4) A.M lo a = _ ∧ vp_updL (v.2 5) A.M mo a = _) ∧ upd (v.1 6) A.M 0 a = _ ∧ (∀ k, k < _ → vp_updL (v.2 7) (4 * A.M) co (4 * a + k) = _) ∧ ∀ k, k + 1 < _ → v.2 8 (4 * a + k + 1) = _
    by_cases q : a = A.M
    · subst q
      obtain ⟨g1, g2, g3, g4, g5, g6, g7⟩ := hat
      rw [g1, g2, g3, g4, g5, g6, upd_at, upd_at, upd_at, updL_at, updL_at]
      refine ⟨⟨x1, y1⟩, ⟨(lI_to _).symm, ?_⟩, rfl, fun k hk2 => ?_, fun k hk2 => absurd hk2 (by omega)⟩
      · by_cases w : mo = -2
        · rw [if_pos (decide_eq_true w), w]
        · rw [if_neg (by simpa using w), lI_to]
      · have : k = 0 := by omega
        subst this
        rw [Nat.add_zero, g7, updL_at, lI_to]
    · have hlt : a < A.M := by omega
      obtain ⟨f1, f2, f3, f4, f5, f6⟩ := hlo a hlt
      obtain ⟨⟨q1, q2⟩, ⟨q3, q4⟩, q5, q6, q7⟩ := hM.2.2 a hlt
      have p4 := (hA.2.1 a hlt).2.1.2
      have s0 := (f6 0 (by omega)).1
      rw [Nat.add_zero] at s0
      rw [f1, f2, f3, f4, f5, s0, upd_ne q, upd_ne q, upd_ne q, updL_ne q, updL_ne q]
      refine ⟨⟨q1, q2⟩, ⟨q3, q4⟩, q5, fun k hk2 => ?_, fun k hk2 => ?_⟩
      · rw [(f6 k (by omega)).2, updL_ne (by omega)]
        exact q6 k hk2
      · have h2 := (f6 (k + 1) (by omega)).1
        rw [← Nat.add_assoc] at h2
        rw [h2]
        exact q7 k hk2
  · show u.1 1 10 = nI (cn_fs (A.arn x.toNatClampNeg y.toNatClampNeg (decide (mo = -2)) lo.toInt mo.toInt co.toInt).pt A.M + (A.arn x.toNatClampNeg y.toNatClampNeg (decide (mo = -2)) lo.toInt mo.toInt co.toInt).pt A.M - (A.M + 1))
    rw [cn_fs_cg2 A.M (fun a ha => (hlo a ha).2.2.1), hat.2.2.1, Nat.add_sub_add_right]
    exact hk
