/-! ===== one arc lessened ===== -/
theorem AN.in_ar {A : AN} {a l : Nat} (ha : a < A.M) (hl : l < A.K) : (cn_fs A.pt a ≤ l ∧ l < cn_fs A.pt a + A.pt a) ↔ A.ar l = a := by
  constructor
  · rintro ⟨h1, h2⟩
    have := (A.l_at ha (show l - cn_fs A.pt a < A.pt a by omega)).2.1
    rw [show cn_fs A.pt a + (l - cn_fs A.pt a) = l by omega] at this
    exact this
  · intro h
    obtain ⟨h1, k, h2, h3, h4⟩ := A.l_in hl
    rw [h] at h2 h3
    omega
theorem AN.am_ne {A : AN} {x y : Nat → Int} {i : Nat} (hi : i < A.M) (h : ∀ l, l < A.K → A.ar l = i → x l = y l) : A.am x i = A.am y i := A.am_cg (fun k hk => by
  obtain ⟨h1, h2, h3⟩ := A.l_at hi hk
  exact h _ h1 h2)
theorem dv_tot {n K : Nat} {b e : Nat → Nat} {x : Nat → Int} (hb : ∀ l, l < K → b l < n ∧ e l < n) : sI (fun v => dv K b e x v) n = 0 := by
  have h := dv_sbp (p := fun _ => 1) (x := x) hb
  have h2 : sI (fun v => (fun _ => (1 : Int)) v * dv K b e x v) n = sI (fun v => dv K b e x v) n := sI_cg (fun v _ => by show (1 : Int) * _ = _; omega)
  rw [h2] at h
  rw [h]
  exact sI_0 (fun l _ => by show x l * (1 - 1) = 0; omega)
/-- one arc's amount changed by d -/
theorem AN.dv_one {A : AN} {x y : Nat → Int} {a v : Nat} {d : Int} (ha : a < A.M) (h1 : ∀ l, l < A.K → A.ar l ≠ a → y l = x l) (h2 : A.am y a = A.am x a + d) : dv A.K A.b A.e y v = dv A.K A.b A.e x v + ((if A.fr a = v then d else 0) - (if A.tr a = v then d else 0)) := by
  rw [A.dv_am, A.dv_am]
  have h3 : dv A.M A.fr A.tr (A.am y) v = dv A.M A.fr A.tr (uI (A.am x) a (A.am x a + d)) v := dv_cg (fun i hi => by
    unfold uI
    by_cases q : i = a
    · rw [if_pos q, q]; exact h2
    · rw [if_neg q]
      exact A.am_ne hi (fun l hl e => h1 l hl (by rw [e]; exact q)))
  rw [h3, dv_upd ha]
theorem mn2_0 {a b : Int} (ha : 0 ≤ a) (hb : 0 ≤ b) : 0 ≤ mn2 a b := by
  unfold mn2; split <;> omega
/-- what is taken off arc a -/
theorem AN.cl_facts {A : AN} (hA : A.ok) {mm p lo : Nat → Int} {a : Nat} (ha : a < A.M) (hx : A.opt mm p lo) : (∀ l, l < A.K → cl_op A a (A.opn p a) (A.pt a) l = A.opn p (a + 1) l) ∧ (∀ l, l < A.K → A.ar l = a → A.tgt p l = true → cl_lo A a (A.opn p a) lo (A.pt a) l = 0) ∧ (∀ l, l < A.K → ¬ (A.ar l = a ∧ A.tgt p l = true) → cl_lo A a (A.opn p a) lo (A.pt a) l = lo l) ∧ A.am lo a = A.am (cl_lo A a (A.opn p a) lo (A.pt a)) a + cl_tk A a (A.opn p a) lo (A.pt a) ∧ 0 ≤ cl_tk A a (A.opn p a) lo (A.pt a) ∧ cl_tk A a (A.opn p a) lo (A.pt a) ≤ sI (fun j => if A.tgt p (cn_fs A.pt a + j) then mm (cn_fs A.pt a + j) else 0) (A.pt a) ∧ (cl_tk A a (A.opn p a) lo (A.pt a) = 0 → ∀ l, l < A.K → A.ar l = a → A.tgt p l = true → lo l = 0) := by
  have hop : ∀ k, k < A.pt a → A.opn p a (cn_fs A.pt a + k) = A.tgt p (cn_fs A.pt a + k) := by
    intro k hk
    unfold AN.opn
    rw [(A.l_at ha hk).2.1]
    simp
  have htk : cl_tk A a (A.opn p a) lo (A.pt a) = sI (fun j => if A.tgt p (cn_fs A.pt a + j) then lo (cn_fs A.pt a + j) else 0) (A.pt a) := sI_cg (fun k hk => by
    show (if A.opn p a (cn_fs A.pt a + k) = true then lo (cn_fs A.pt a + k) else 0) = _
    rw [hop k hk])
  have hnn : ∀ k, k < A.pt a → 0 ≤ (if A.tgt p (cn_fs A.pt a + k) then lo (cn_fs A.pt a + k) else 0) := by
    intro k hk
    have := hx.1 _ (A.l_at ha hk).1
    split <;> omega
  refine ⟨fun l hl => ?_, fun l hl e1 e2 => ?_, fun l hl e1 => ?_, ?_, ?_, ?_, fun h0 l hl e1 e2 => ?_⟩
  · unfold cl_op
    by_cases q : A.ar l = a
    · rw [if_pos ((A.in_ar ha hl).mpr q)]
      unfold AN.opn
      rw [q]
      simp
    · rw [if_neg (fun z => q ((A.in_ar ha hl).mp z))]
      unfold AN.opn
      congr 1
      exact decide_eq_decide.mpr (by omega)
  · unfold cl_lo
    rw [if_pos ⟨(A.in_ar ha hl).mpr e1, by unfold AN.opn; rw [e1, e2]; simp⟩]
  · unfold cl_lo
    rw [if_neg]
    rintro ⟨z1, z2⟩
    unfold AN.opn at z2
    simp only [Bool.and_eq_true] at z2
    exact e1 ⟨(A.in_ar ha hl).mp z1, z2.1⟩
  · rw [htk]
    unfold AN.am
    rw [← sI_add]
    refine sI_cg (fun k hk => ?_)
    show lo (cn_fs A.pt a + k) = cl_lo A a (A.opn p a) lo (A.pt a) (cn_fs A.pt a + k) + (if A.tgt p (cn_fs A.pt a + k) then lo (cn_fs A.pt a + k) else 0)
    unfold cl_lo
    rw [hop k hk]
    by_cases q : A.tgt p (cn_fs A.pt a + k) = true
    · rw [if_pos ⟨by omega, q⟩, if_pos q]; omega
    · rw [if_neg (fun z => q z.2), if_neg q]; omega
  · rw [htk]; exact sI_ge0 hnn
  · rw [htk]
    refine sI_le (fun k hk => ?_)
    show (if A.tgt p (cn_fs A.pt a + k) then lo (cn_fs A.pt a + k) else 0) ≤ if A.tgt p (cn_fs A.pt a + k) then mm (cn_fs A.pt a + k) else 0
    have := hx.1 _ (A.l_at ha hk).1
    split <;> omega
  · obtain ⟨g1, k, g2, g3, g4⟩ := A.l_in hl
    rw [e1] at g2 g3
    rw [htk] at h0
    have h5 := sI_term hnn g2
    have h6 := hnn k g2
    have h7 : (if A.tgt p (cn_fs A.pt a + k) then lo (cn_fs A.pt a + k) else 0) = lo l := by rw [← g3, if_pos e2]
    have h8 : (if A.tgt p (cn_fs A.pt a + k) then lo (cn_fs A.pt a + k) else 0) ≤ sI (fun j => if A.tgt p (cn_fs A.pt a + j) then lo (cn_fs A.pt a + j) else 0) (A.pt a) := h5
    omega
theorem AN.lex_zero {A : AN} (hA : A.ok) {mm p lo : Nat → Int} {a : Nat} (ha : a < A.M) (hx : A.opt mm p lo) (hlex : A.lex mm p lo a) (h0 : cl_tk A a (A.opn p a) lo (A.pt a) = 0) : A.opt mm p (cl_lo A a (A.opn p a) lo (A.pt a)) ∧ A.lex mm p (cl_lo A a (A.opn p a) lo (A.pt a)) (a + 1) := by
  obtain ⟨f1, f2, f3, f4, f5, f6, f7⟩ := A.cl_facts hA ha hx
  have he : ∀ l, l < A.K → cl_lo A a (A.opn p a) lo (A.pt a) l = lo l := by
    intro l hl
    by_cases q : A.ar l = a ∧ A.tgt p l = true
    · rw [f2 l hl q.1 q.2, f7 h0 l hl q.1 q.2]
    · exact f3 l hl q
  have ham : ∀ i, i < A.M → A.am (cl_lo A a (A.opn p a) lo (A.pt a)) i = A.am lo i := fun i hi => A.am_ne hi (fun l hl _ => he l hl)
  have hpf : pf A.K A.b A.e mm A.c p (cl_lo A a (A.opn p a) lo (A.pt a)) := fun l hl => by rw [he l hl]; exact hx.2.2 l hl
  refine ⟨⟨fun l hl => by rw [he l hl]; exact hx.1 l hl, fun v hv => by rw [dv_cg he]; exact hx.2.1 v hv, hpf⟩, fun a' ha' y hy hs => ?_⟩
  rcases Nat.lt_or_ge a' a with q | q
  · rw [ham a' (by omega)]
    exact hlex a' q y hy (fun i hi => by rw [hs i hi, ham i (by omega)])
  · have e1 : a' = a := by omega
    subst e1
    exact A.least0 ha hpf (fun k hk ht => by
      obtain ⟨g1, g2, g3⟩ := A.l_at ha hk
      exact f2 _ g1 g2 ht) hy
theorem pbL_0 {A : AN} (hA : A.ok) {mm p lo : Nat → Int} {r : Int} {a : Nat} (ha : a < A.M) (hm : ∀ l, l < A.K → 0 ≤ mm l) (hr : 0 ≤ r) (hlo : pf A.K A.b A.e mm A.c p lo) (h0 : ∀ k, k < A.pt a → A.tgt p (cn_fs A.pt a + k) = true → lo (cn_fs A.pt a + k) = 0) (hT : r ≤ sI (fun j => if A.tgt p (cn_fs A.pt a + j) then mm (cn_fs A.pt a + j) else 0) (A.pt a)) {k : Nat} (hk : k < A.pt a) (q : 0 < rc A.b A.e A.c p (cn_fs A.pt a + k)) : pbL (cn_fs A.pt a) mm lo r k = 0 := by
  rw [pbL_eq hA ha hm hr hlo h0 hT k (by omega), if_pos]
  have e2 := sI_app (f := fun j => if A.tgt p (cn_fs A.pt a + j) then mm (cn_fs A.pt a + j) else 0) (i := k) (k := A.pt a - k)
  rw [show k + (A.pt a - k) = A.pt a by omega] at e2
  have e3 : sI (fun j => if A.tgt p (cn_fs A.pt a + (k + j)) then mm (cn_fs A.pt a + (k + j)) else 0) (A.pt a - k) = 0 := sI_0 (fun j hj => by
    have := AN.rc_mono hA (p := p) (k := k) ha j (by omega)
    show (if A.tgt p (cn_fs A.pt a + (k + j)) then mm (cn_fs A.pt a + (k + j)) else 0) = 0
    rw [if_neg]
    intro z
    have : rc A.b A.e A.c p (cn_fs A.pt a + (k + j)) = 0 := of_decide_eq_true z
    omega)
  omega
