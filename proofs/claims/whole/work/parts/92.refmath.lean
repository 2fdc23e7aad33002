/-! ===== the reference: from prices to flows and back ===== -/
theorem pf_dP {K : Nat} {b e : Nat → Nat} {c mm p lo : Nat → Int} (h : pf K b e mm c p lo) : dP (2 * K) (wb b e) (we b e) (wr c) (onW mm lo) p := fun w hw ho => pf_way h hw (onW_t.mp ho)
theorem dP_pf {K : Nat} {b e : Nat → Nat} {c mm p lo : Nat → Int} (hl : fits K mm lo) (h : dP (2 * K) (wb b e) (we b e) (wr c) (onW mm lo) p) : pf K b e mm c p lo := by
  intro l hl2
  obtain ⟨q1, q2⟩ := hl l hl2
  constructor
  · intro g
    rcases Int.lt_or_le (lo l) (mm l) with y | y
    · have := h (2 * l) (by omega) (onW_t.mpr (by rw [wm_e]; omega))
      rw [wy_e.1, wy_e.2, wr_e] at this
      unfold rc at g
      omega
    · omega
  · intro g
    rcases Int.lt_or_le 0 (lo l) with y | y
    · have := h (2 * l + 1) (by omega) (onW_t.mpr (by rw [wm_o]; omega))
      rw [wy_o.1, wy_o.2, wr_o] at this
      unfold rc at g
      omega
    · omega
/-- what falls under the prices p of ENDLESS arcs is filled -/
def AN.pre (A : AN) (p : Nat → Int) (l : Nat) : Int := if rc A.b A.e A.c p l < 0 ∧ A.w 1000000000000 l < 500000000000 then A.w 1000000000000 l else 0
theorem AN.pre_ok {A : AN} (hA : A.ok) {p : Nat → Int} (hp : A.nor p) : fits A.K (A.w 1000000000000) (A.pre p) ∧ dP (2 * A.K) (wb A.b A.e) (we A.b A.e) (wr A.c) (onW (A.w 1000000000000) (A.pre p)) p ∧ ∀ l, l < A.K → A.pre p l ≤ 1000000 := by
  have hw : ∀ l, l < A.K → 0 ≤ A.w 1000000000000 l := fun l hl => (A.w_bd hA (by decide) hl).1
  have hln : ∀ l, l < A.K → A.ln l = true → 0 ≤ rc A.b A.e A.c p l := fun l hl hn => by
    obtain ⟨g3, g4⟩ := A.c_ln hl hn
    have := hp _ (A.l_in hl).1 g3
    unfold rc
    rw [g4]
    show 0 ≤ _ + p (A.fr (A.ar l)) - p (A.tr (A.ar l))
    omega
  have sm : ∀ l, l < A.K → rc A.b A.e A.c p l < 0 → A.w 1000000000000 l ≤ 1000000 := fun l hl g => by
    cases hq : A.ln l with
    | true => have := hln l hl hq; omega
    | false => exact (A.w_bd hA (by decide) hl).2.2 hq
  have ft : fits A.K (A.w 1000000000000) (A.pre p) := fun l hl => by
    have := hw l hl
    unfold AN.pre
    split <;> omega
  refine ⟨ft, pf_dP (fun l hl => ⟨fun g => ?_, fun g => ?_⟩), fun l hl => ?_⟩
  · unfold AN.pre
    rw [if_pos ⟨g, by have := sm l hl g; omega⟩]
  · unfold AN.pre
    rw [if_neg (by omega)]
  · unfold AN.pre
    split
    · rename_i g; exact sm l hl g.1
    · decide
/-- the ways by arcs fit -/
theorem AN.nc_bd {A : AN} (hA : A.ok) {a : Nat} (ha : a < A.M) {x : Int} : -1000000 ≤ A.nc a x ∧ A.nc a x ≤ 1000000 := by
  have := (AN.nk_NK hA ha (x := x)).1
  exact ((hA.2.1 a ha).2.2.2.1 _ this).2
theorem AN.dFy {A : AN} (hA : A.ok) {f : Nat → Int} {on : Nat → Bool} : dF A.n (2 * A.M) (wb A.fr A.tr) (we A.fr A.tr) (A.yc f) on := by
  intro j hj _
  have h1 := (hA.2.1 (j / 2) (by omega)).1
  have h2 := AN.nc_bd hA (show j / 2 < A.M by omega) (x := f (j / 2))
  have h3 := AN.nc_bd hA (show j / 2 < A.M by omega) (x := f (j / 2) - 1)
  unfold wb we AN.yc
  by_cases y : j % 2 = 0
  · rw [if_pos y, if_pos y, if_pos y]; exact ⟨⟨h1.1, h1.2.1⟩, h2⟩
  · rw [if_neg y, if_neg y, if_neg y]; exact ⟨⟨h1.2.1, h1.1⟩, by omega, by omega⟩
/-- prices for lanes are prices for the ways by arcs -/
theorem AN.y_dP {A : AN} (hA : A.ok) {B : Int} {p lo : Nat → Int} {on : Nat → Bool} (hB : 1000000 ≤ B) (hl : fits A.K (A.w B) lo) (hp : pf A.K A.b A.e (A.w B) A.c p lo) (hs : ∀ a, a < A.M → A.en a = true → A.on lo a < B) (ho : ∀ j, on j = true → A.yo (A.on lo) j = true) : dP (2 * A.M) (wb A.fr A.tr) (we A.fr A.tr) (A.yc (A.on lo)) on p := by
  intro j hj hj2
  obtain ⟨w, g1, -, g2, g3, g4⟩ := AN.y_gat hA hB hl hp hs hj (ho j hj2)
  rw [← g2, ← g3, ← g4]
  exact pf_way hp g1.1 g1.2.1
/-- the values at rest along the ways by arcs are the prices -/
theorem AN.y_prc {A : AN} (hA : A.ok) {B : Int} {p lo V0 V : Nat → Int} {on : Nat → Bool} (hB : 1000000 ≤ B) (hl : fits A.K (A.w B) lo) (hp : pf A.K A.b A.e (A.w B) A.c p lo) (hs : ∀ a, a < A.M → A.en a = true → A.on lo a < B) (hon : ∀ j, j < 2 * A.M → on j = A.yo (A.on lo) j) (h0 : ∀ v, v < A.n → V0 v = 0) (h : dI A.n (2 * A.M) (wb A.fr A.tr) (we A.fr A.tr) (A.yc (A.on lo)) on V0 V) (hr : dR (2 * A.M) (wb A.fr A.tr) (we A.fr A.tr) (A.yc (A.on lo)) on V) : A.prc (A.w B) lo V := by
  have hF : fAR = 1152921504606846976 := rfl
  have hf := AN.dFy hA (f := A.on lo) (on := on)
  have d00 : d0 A.n V0 := fun v hv => Or.inr (h0 v hv)
  have up := fun v hv => h.1 v hv
  have lw := dB_lo hA.1.1 hf d00 h hr
  have nF : ∀ v, v < A.n → V v ≠ fAR := fun v hv => by have := up v hv; rw [h0 v hv] at this; omega
  have le : ∀ w, A.gat (A.w B) lo w → V (we A.b A.e w) ≤ V (wb A.b A.e w) + wr A.c w := by
    intro w hg
    obtain ⟨j, j1, -, j2, j3, j4, j5⟩ := AN.gat_y hA hB hl hp hg
    have hb := (hf j j1 (by rw [hon j j1]; exact j2)).1.1
    have := hr j j1 (by rw [hon j j1]; exact j2) (nF _ hb)
    rw [j3, j4, j5] at this
    exact this
  have pfV : pf A.K A.b A.e (A.w B) A.c V lo := by
    refine dP_pf hl (fun w hw ho => ?_)
    obtain ⟨w', g1, g2, g3, g4⟩ := AN.gat_ex hA hw (onW_t.mp ho)
    have := le w' g1
    rw [g2, g3] at this
    omega
  refine ⟨fun v hv => ⟨lw v hv, by have := up v hv; rw [h0 v hv] at this; exact this⟩, pfV, fun q hq1 hq2 v hv => ?_⟩
  refine (h.2 (fun _ => True) q (fun j hj ho _ => ⟨trivial, ?_⟩) (fun v hv _ => ⟨trivial, by rw [h0 v hv]; exact hq1 v hv⟩) v hv (nF v hv)).2
  have hd := AN.y_dP hA (p := q) (on := fun j => A.yo (A.on lo) j) hB hl hq2 hs (fun _ z => z)
  exact hd j hj ((hon j hj).symm.trans ho)
/-- amounts on arcs out of lanes -/
theorem AN.am_ar {A : AN} {x : Nat → Int} {a : Nat} (ha : a < A.M) : sI (fun l => if A.ar l = a then x l else 0) A.K = A.am x a := by
  unfold AN.K
  rw [sI_lanes]
  have e : sI (fun a' => sI (fun k => (fun l => if A.ar l = a then x l else 0) (cn_fs A.pt a' + k)) (A.pt a')) A.M = sI (fun a' => if a' = a then A.am x a else 0) A.M := sI_cg (fun a' ha' => by
    show sI (fun k => if A.ar (cn_fs A.pt a' + k) = a then x (cn_fs A.pt a' + k) else 0) (A.pt a') = if a' = a then A.am x a else 0
    by_cases z : a' = a
    · subst z
      rw [if_pos rfl]
      exact sI_cg (fun k hk => if_pos (A.l_at ha' hk).2.1)
    · rw [if_neg z]
      exact sI_0 (fun k hk => if_neg (by rw [(A.l_at ha' hk).2.1]; exact z)))
  rw [e, sI_one, if_pos ha]
/-- the cost on an arc with x, part by part: at what the first k parts hold -/
def AN.cA (A : AN) (a : Nat) (x : Int) : Nat → Int × Int
  | 0 => (0, 0)
  | k + 1 =>
    let q := A.cA a x k
    let n := (if x < (if k + 1 < A.pt a then A.st (4 * a + k + 1) else fAR) then x else (if k + 1 < A.pt a then A.st (4 * a + k + 1) else fAR)) - q.2
    if 0 < n then (q.1 + n * A.rt (4 * a + k), q.2 + n) else q
def AN.co (A : AN) (a : Nat) (x : Int) : Int := (A.cA a x (A.pt a)).1
theorem AN.cA_s {A : AN} {a : Nat} {x : Int} {k : Nat} : A.cA a x (k + 1) = if 0 < (if x < (if k + 1 < A.pt a then A.st (4 * a + k + 1) else fAR) then x else (if k + 1 < A.pt a then A.st (4 * a + k + 1) else fAR)) - (A.cA a x k).2 then ((A.cA a x k).1 + ((if x < (if k + 1 < A.pt a then A.st (4 * a + k + 1) else fAR) then x else (if k + 1 < A.pt a then A.st (4 * a + k + 1) else fAR)) - (A.cA a x k).2) * A.rt (4 * a + k), (A.cA a x k).2 + ((if x < (if k + 1 < A.pt a then A.st (4 * a + k + 1) else fAR) then x else (if k + 1 < A.pt a then A.st (4 * a + k + 1) else fAR)) - (A.cA a x k).2)) else A.cA a x k := rfl
theorem AN.cA_nl {A : AN} (hA : A.ok) {B : Int} (hB : 1000000 ≤ B) {f : Nat → Int} {a : Nat} (ha : a < A.M) (h0 : A.st (4 * a) ≤ f a) (h1 : f a ≤ A.cp B a (A.pt a)) (hF : f a < fAR) : ∀ k, k < A.pt a → (A.cA a (f a) (k + 1)).1 = A.rt (4 * a) * A.st (4 * a) + sI (fun i => A.rt (4 * a + i) * A.nl B f (cn_fs A.pt a + i)) (k + 1) ∧ (A.cA a (f a) (k + 1)).2 = A.st (4 * a) + sI (fun i => A.nl B f (cn_fs A.pt a + i)) (k + 1) := by
  have s0 : 0 ≤ A.st (4 * a) := (hA.2.1 a ha).2.2.1
  have ed : ∀ k, k < A.pt a → (if f a < (if k + 1 < A.pt a then A.st (4 * a + k + 1) else fAR) then f a else (if k + 1 < A.pt a then A.st (4 * a + k + 1) else fAR)) = A.st (4 * a) + sI (fun i => A.nl B f (cn_fs A.pt a + i)) (k + 1) := by
    intro k hk
    rw [AN.nl_sum hA hB ha h0 (k + 1) (by omega)]
    by_cases y : k + 1 < A.pt a
    · rw [if_pos y, AN.cp_st ha y, show 4 * a + (k + 1) = 4 * a + k + 1 by omega]
      split <;> split <;> omega
    · rw [if_neg y, if_pos hF, show k + 1 = A.pt a by omega, if_pos h1]
  have nn : ∀ k, k < A.pt a → 0 ≤ A.nl B f (cn_fs A.pt a + k) := fun k hk => (clp_bd (A.w_bd hA hB (A.l_at ha hk).1).1).1
  have st : ∀ k, k < A.pt a → ∀ X Y : Int, A.cA a (f a) k = (X, Y) → 0 ≤ A.st (4 * a) + sI (fun i => A.nl B f (cn_fs A.pt a + i)) (k + 1) - Y → A.cA a (f a) (k + 1) = (X + (A.st (4 * a) + sI (fun i => A.nl B f (cn_fs A.pt a + i)) (k + 1) - Y) * A.rt (4 * a + k), A.st (4 * a) + sI (fun i => A.nl B f (cn_fs A.pt a + i)) (k + 1)) := by
    intro k hk X Y e1 e2
    rw [AN.cA_s, ed k hk, e1]
    by_cases y : 0 < A.st (4 * a) + sI (fun i => A.nl B f (cn_fs A.pt a + i)) (k + 1) - Y
    · rw [if_pos y]
      exact Prod.ext rfl (by show Y + _ = _; omega)
    · rw [if_neg y]
      have e3 : A.st (4 * a) + sI (fun i => A.nl B f (cn_fs A.pt a + i)) (k + 1) - Y = 0 := by omega
      rw [e3, Int.zero_mul]
      exact Prod.ext (by show X = X + 0; omega) (by show Y = _; omega)
  intro k
  induction k with
  | zero =>
    intro hk
    have n0 := nn 0 hk
    have e1 : sI (fun i => A.nl B f (cn_fs A.pt a + i)) (0 + 1) = A.nl B f (cn_fs A.pt a + 0) := Int.zero_add _
    have := st 0 hk 0 0 rfl (by rw [e1]; omega)
    rw [this]
    refine ⟨?_, rfl⟩
    show 0 + (A.st (4 * a) + sI (fun i => A.nl B f (cn_fs A.pt a + i)) (0 + 1) - 0) * A.rt (4 * a + 0) = _
    have e2 : sI (fun i => A.rt (4 * a + i) * A.nl B f (cn_fs A.pt a + i)) (0 + 1) = A.rt (4 * a + 0) * A.nl B f (cn_fs A.pt a + 0) := Int.zero_add _
    rw [e1, e2, Int.sub_zero, Int.add_mul, Int.mul_comm (A.st (4 * a)), Int.mul_comm (A.nl B f (cn_fs A.pt a + 0))]
    show 0 + (A.rt (4 * a) * _ + _) = _
    omega
  | succ k ih =>
    intro hk
    obtain ⟨i1, i2⟩ := ih (by omega)
    have n0 := nn (k + 1) hk
    have e1 : sI (fun i => A.nl B f (cn_fs A.pt a + i)) (k + 1 + 1) = sI (fun i => A.nl B f (cn_fs A.pt a + i)) (k + 1) + A.nl B f (cn_fs A.pt a + (k + 1)) := rfl
    have := st (k + 1) hk _ _ (Prod.ext i1 i2) (by rw [e1]; omega)
    rw [this]
    refine ⟨?_, rfl⟩
    have e2 : sI (fun i => A.rt (4 * a + i) * A.nl B f (cn_fs A.pt a + i)) (k + 1 + 1) = sI (fun i => A.rt (4 * a + i) * A.nl B f (cn_fs A.pt a + i)) (k + 1) + A.rt (4 * a + (k + 1)) * A.nl B f (cn_fs A.pt a + (k + 1)) := rfl
    show _ + _ * A.rt (4 * a + (k + 1)) = _
    rw [e1, e2, show A.st (4 * a) + (sI (fun i => A.nl B f (cn_fs A.pt a + i)) (k + 1) + A.nl B f (cn_fs A.pt a + (k + 1))) - (A.st (4 * a) + sI (fun i => A.nl B f (cn_fs A.pt a + i)) (k + 1)) = A.nl B f (cn_fs A.pt a + (k + 1)) by omega, Int.mul_comm (A.nl B f (cn_fs A.pt a + (k + 1)))]
    omega
/-- all costs -/
theorem AN.co_sum {A : AN} (hA : A.ok) {B : Int} (hB : 1000000 ≤ B) {f : Nat → Int} (h0 : ∀ a, a < A.M → A.st (4 * a) ≤ f a ∧ f a ≤ A.cp B a (A.pt a) ∧ f a < fAR) : sI (fun a => A.co a (f a)) A.M = sI (fun a => A.rt (4 * a) * A.st (4 * a)) A.M + ct A.K A.c (A.nl B f) := by
  unfold ct AN.K
  rw [sI_lanes, ← sI_add]
  refine sI_cg (fun a ha => ?_)
  obtain ⟨a1, a2, a3⟩ := h0 a ha
  obtain ⟨p1, p2⟩ := (hA.2.1 a ha).2.1
  have h := (AN.cA_nl hA hB ha a1 a2 a3 (A.pt a - 1) (by omega)).1
  rw [show A.pt a - 1 + 1 = A.pt a by omega] at h
  show A.co a (f a) = A.rt (4 * a) * A.st (4 * a) + sI (fun k => A.c (cn_fs A.pt a + k) * A.nl B f (cn_fs A.pt a + k)) (A.pt a)
  unfold AN.co
  rw [h]
  congr 1
  refine sI_cg (fun k hk => ?_)
  show A.rt (4 * a + k) * _ = A.c (cn_fs A.pt a + k) * _
  unfold AN.c
  rw [(A.l_at ha hk).2.2]
theorem AN.meet_ct {A : AN} (hA : A.ok) {x p h p' : Nat → Int} (ox : A.opt (A.w 1000000000) p x) (oh : A.opt (A.w 1000000000000) p' h) (hs : ∀ l, l < A.K → A.ln l = true → h l ≤ 424000000) : ct A.K A.c x = ct A.K A.c h := by
  have hnd := AN.nd hA
  obtain ⟨o9, ge⟩ := AN.opt_9 hA oh hs
  have c1 : ct A.K A.c h ≤ ct A.K A.c x := pf_opt hnd o9.2.2 o9.2.1 ox.2.1 ox.1
  have c2 : ct A.K A.c x ≤ ct A.K A.c h := pf_opt hnd ox.2.2 ox.2.1 o9.2.1 o9.1
  omega
