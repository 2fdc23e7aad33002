/-! ===== the net itself: nodes, arcs with their parts ===== -/
/-- part k of arc a has its place 4 * a + k in st (where it begins) and rt (its cost) -/
def AN : Type := Nat × Nat × (Nat → Nat) × (Nat → Nat) × (Nat → Nat) × (Nat → Bool) × (Nat → Int) × (Nat → Int) × (Nat → Int) × (Nat → Int)
def AN.mk (n : Nat) (M : Nat) (fr : Nat → Nat) (tr : Nat → Nat) (pt : Nat → Nat) (en : Nat → Bool) (tp : Nat → Int) (st : Nat → Int) (rt : Nat → Int) (su : Nat → Int) : AN := (n, M, fr, tr, pt, en, tp, st, rt, su)
def AN.n (A : AN) : Nat := Prod.fst A
def AN.M (A : AN) : Nat := Prod.fst (Prod.snd A)
def AN.fr (A : AN) : Nat → Nat := Prod.fst (Prod.snd (Prod.snd A))
def AN.tr (A : AN) : Nat → Nat := Prod.fst (Prod.snd (Prod.snd (Prod.snd A)))
def AN.pt (A : AN) : Nat → Nat := Prod.fst (Prod.snd (Prod.snd (Prod.snd (Prod.snd A))))
def AN.en (A : AN) : Nat → Bool := Prod.fst (Prod.snd (Prod.snd (Prod.snd (Prod.snd (Prod.snd A)))))
def AN.tp (A : AN) : Nat → Int := Prod.fst (Prod.snd (Prod.snd (Prod.snd (Prod.snd (Prod.snd (Prod.snd A))))))
def AN.st (A : AN) : Nat → Int := Prod.fst (Prod.snd (Prod.snd (Prod.snd (Prod.snd (Prod.snd (Prod.snd (Prod.snd A)))))))
def AN.rt (A : AN) : Nat → Int := Prod.fst (Prod.snd (Prod.snd (Prod.snd (Prod.snd (Prod.snd (Prod.snd (Prod.snd (Prod.snd A))))))))
def AN.su (A : AN) : Nat → Int := (Prod.snd (Prod.snd (Prod.snd (Prod.snd (Prod.snd (Prod.snd (Prod.snd (Prod.snd (Prod.snd A)))))))))
def AN.aok (A : AN) (a : Nat) : Prop := (A.fr a < A.n ∧ A.tr a < A.n ∧ A.fr a ≠ A.tr a) ∧ (1 ≤ A.pt a ∧ A.pt a ≤ 4) ∧ (0 ≤ A.st (4 * a)) ∧ (∀ k, k < A.pt a → A.st (4 * a + k) ≤ 1000000 ∧ -1000000 ≤ A.rt (4 * a + k) ∧ A.rt (4 * a + k) ≤ 1000000) ∧ (∀ k, k + 1 < A.pt a → A.st (4 * a + k) < A.st (4 * a + k + 1) ∧ A.rt (4 * a + k) ≤ A.rt (4 * a + k + 1)) ∧ (A.en a = false → A.tp a ≤ 1000000 ∧ A.st (4 * a + (A.pt a - 1)) ≤ A.tp a ∧ (2 ≤ A.pt a → A.st (4 * a + (A.pt a - 1)) < A.tp a))
def AN.ok (A : AN) : Prop := (A.n ≤ 24 ∧ A.M ≤ 80) ∧ (∀ a, a < A.M → A.aok a) ∧ ∀ v, v < A.n → -1000000 ≤ A.su v ∧ A.su v ≤ 1000000
/-- the arc of a lane -/
def arF (pt : Nat → Nat) : Nat → Nat → Nat
  | 0, _ => 0
  | M + 1, l => if cn_fs pt M ≤ l then M else arF pt M l
theorem cn_fs_mono {pt : Nat → Nat} {i : Nat} : ∀ k, cn_fs pt i ≤ cn_fs pt (i + k)
  | 0 => Nat.le_refl _
  | k + 1 => by
    have := cn_fs_mono (pt := pt) (i := i) k
    show cn_fs pt i ≤ cn_fs pt (i + k) + pt (i + k)
    omega
theorem arF_at {pt : Nat → Nat} {a k : Nat} : ∀ {M : Nat}, a < M → k < pt a → arF pt M (cn_fs pt a + k) = a
  | 0, h, _ => absurd h (Nat.not_lt_zero _)
  | M + 1, h, hk => by
    show (if cn_fs pt M ≤ cn_fs pt a + k then M else arF pt M (cn_fs pt a + k)) = a
    rcases Nat.lt_or_ge a M with y | y
    · have h1 := cn_fs_mono (pt := pt) (i := a + 1) (M - (a + 1))
      rw [show a + 1 + (M - (a + 1)) = M by omega] at h1
      have h2 : cn_fs pt (a + 1) = cn_fs pt a + pt a := rfl
      rw [if_neg (by omega)]
      exact arF_at y hk
    · have e : a = M := by omega
      subst e
      rw [if_pos (by omega)]
theorem arF_in {pt : Nat → Nat} {l : Nat} : ∀ {M : Nat}, l < cn_fs pt M → arF pt M l < M ∧ cn_fs pt (arF pt M l) ≤ l ∧ l < cn_fs pt (arF pt M l) + pt (arF pt M l)
  | 0, h => absurd h (Nat.not_lt_zero _)
  | M + 1, h => by
    show (if cn_fs pt M ≤ l then M else arF pt M l) < M + 1 ∧ cn_fs pt (if cn_fs pt M ≤ l then M else arF pt M l) ≤ l ∧ l < cn_fs pt (if cn_fs pt M ≤ l then M else arF pt M l) + pt (if cn_fs pt M ≤ l then M else arF pt M l)
    by_cases y : cn_fs pt M ≤ l
    · rw [if_pos y]
      exact ⟨by omega, y, h⟩
    · rw [if_neg y]
      obtain ⟨h1, h2, h3⟩ := arF_in (pt := pt) (l := l) (M := M) (by omega)
      exact ⟨by omega, h2, h3⟩
def AN.K (A : AN) : Nat := cn_fs A.pt A.M
def AN.ar (A : AN) (l : Nat) : Nat := arF A.pt A.M l
/-- the place of a lane's part -/
def AN.ix (A : AN) (l : Nat) : Nat := 4 * A.ar l + (l - cn_fs A.pt (A.ar l))
def AN.b (A : AN) (l : Nat) : Nat := A.fr (A.ar l)
def AN.e (A : AN) (l : Nat) : Nat := A.tr (A.ar l)
def AN.c (A : AN) (l : Nat) : Int := A.rt (A.ix l)
/-- whether a lane has no end -/
def AN.ln (A : AN) (l : Nat) : Bool := A.en (A.ar l) && decide (l + 1 = cn_fs A.pt (A.ar l + 1))
/-- where the part k of a ends; B stands for ENDLESS -/
def AN.ed (A : AN) (B : Int) (a k : Nat) : Int := if k + 1 < A.pt a then A.st (4 * a + k + 1) else if A.en a then B else A.tp a
def AN.w (A : AN) (B : Int) (l : Nat) : Int := A.ed B (A.ar l) (l - cn_fs A.pt (A.ar l)) - A.st (A.ix l)
theorem cn_fs_le4 {pt : Nat → Nat} {M : Nat} (h : ∀ a, a < M → pt a ≤ 4) : ∀ a, a ≤ M → cn_fs pt a ≤ 4 * a
  | 0, _ => Nat.le_refl _
  | a + 1, ha => by
    have h1 := cn_fs_le4 h a (by omega)
    have h2 := h a (by omega)
    show cn_fs pt a + pt a ≤ _
    omega
theorem AN.K_le {A : AN} (h : A.ok) : A.K ≤ 320 := by
  have := cn_fs_le4 (pt := A.pt) (M := A.M) (fun a ha => (h.2.1 a ha).2.1.2) A.M (Nat.le_refl _)
  have := h.1.2
  unfold AN.K
  omega
theorem AN.l_in {A : AN} {l : Nat} (hl : l < A.K) : A.ar l < A.M ∧ ∃ k, k < A.pt (A.ar l) ∧ l = cn_fs A.pt (A.ar l) + k ∧ A.ix l = 4 * A.ar l + k := by
  obtain ⟨h1, h2, h3⟩ := arF_in hl
  refine ⟨h1, l - cn_fs A.pt (A.ar l), ?_, ?_, rfl⟩
  · show l - cn_fs A.pt (arF A.pt A.M l) < A.pt (arF A.pt A.M l); omega
  · show l = cn_fs A.pt (arF A.pt A.M l) + (l - cn_fs A.pt (arF A.pt A.M l)); omega
theorem AN.l_at {A : AN} {a k : Nat} (ha : a < A.M) (hk : k < A.pt a) : cn_fs A.pt a + k < A.K ∧ A.ar (cn_fs A.pt a + k) = a ∧ A.ix (cn_fs A.pt a + k) = 4 * a + k := by
  have h1 : A.ar (cn_fs A.pt a + k) = a := arF_at ha hk
  refine ⟨?_, h1, ?_⟩
  · have h2 := cn_fs_mono (pt := A.pt) (i := a + 1) (A.M - (a + 1))
    rw [show a + 1 + (A.M - (a + 1)) = A.M by omega] at h2
    have h3 : cn_fs A.pt (a + 1) = cn_fs A.pt a + A.pt a := rfl
    show _ < cn_fs A.pt A.M
    omega
  · unfold AN.ix
    rw [h1]; omega
theorem AN.w_at {A : AN} {B : Int} {a k : Nat} (ha : a < A.M) (hk : k < A.pt a) : A.w B (cn_fs A.pt a + k) = A.ed B a k - A.st (4 * a + k) := by
  obtain ⟨h1, h2, h3⟩ := A.l_at ha hk
  unfold AN.w
  rw [h3, h2, show cn_fs A.pt a + k - cn_fs A.pt a = k by omega]
theorem AN.nd {A : AN} (h : A.ok) : nd A.n A.K A.b A.e := fun l hl => by
  obtain ⟨h1, -⟩ := A.l_in hl
  obtain ⟨⟨a1, a2, -⟩, -⟩ := h.2.1 _ h1
  exact ⟨a1, a2⟩
theorem AN.st_ge {A : AN} (h : A.ok) {a : Nat} (ha : a < A.M) : ∀ k, k < A.pt a → A.st (4 * a) ≤ A.st (4 * a + k)
  | 0, _ => Int.le_refl _
  | k + 1, hk => by
    have h1 := AN.st_ge h ha k (by omega)
    have h2 := ((h.2.1 a ha).2.2.2.2.1 k hk).1
    rw [show 4 * a + (k + 1) = 4 * a + k + 1 from rfl]
    omega
/-- widths: never below 0; at most a million, but where there is no end -/
theorem AN.w_bd {A : AN} (h : A.ok) {B : Int} (hB : 1000000 ≤ B) {l : Nat} (hl : l < A.K) : 0 ≤ A.w B l ∧ A.w B l ≤ B ∧ (A.ln l = false → A.w B l ≤ 1000000) := by
  obtain ⟨h1, k, hk, e1, e2⟩ := A.l_in hl
  obtain ⟨a1, a2, a3, a4, a5, a6⟩ := h.2.1 _ h1
  have hg := AN.st_ge h h1 k hk
  have hs := (a4 k hk).1
  have e3 : A.w B l = A.ed B (A.ar l) k - A.st (4 * A.ar l + k) := by
    unfold AN.w
    rw [e2]
    congr 2
    omega
  rw [e3]
  unfold AN.ed AN.ln
  by_cases y : k + 1 < A.pt (A.ar l)
  · rw [if_pos y]
    have := (a5 k y).1
    have := (a4 (k + 1) y).1
    rw [show 4 * A.ar l + (k + 1) = 4 * A.ar l + k + 1 from rfl] at this
    exact ⟨by omega, by omega, fun _ => by omega⟩
  · rw [if_neg y]
    have hk1 : k = A.pt (A.ar l) - 1 := by omega
    cases he : A.en (A.ar l)
    · obtain ⟨t1, t2, t3⟩ := a6 he
      rw [hk1]
      rw [hk1] at hg
      simp only [Bool.false_eq_true, if_false]
      exact ⟨by omega, by omega, fun _ => by omega⟩
    · simp only [if_true]
      refine ⟨by omega, by omega, fun z => ?_⟩
      have h3 : cn_fs A.pt (A.ar l + 1) = cn_fs A.pt (A.ar l) + A.pt (A.ar l) := rfl
      rw [h3] at z
      simp at z
      omega
/-- sums over lanes, arc by arc -/
theorem sI_app {f : Nat → Int} {i : Nat} : ∀ {k : Nat}, sI f (i + k) = sI f i + sI (fun j => f (i + j)) k
  | 0 => by simp [sI]
  | k + 1 => by
    have := sI_app (f := f) (i := i) (k := k)
    show sI f (i + k) + f (i + k) = sI f i + (sI (fun j => f (i + j)) k + f (i + k))
    omega
theorem sI_lanes {f : Nat → Int} {pt : Nat → Nat} : ∀ {M : Nat}, sI f (cn_fs pt M) = sI (fun a => sI (fun k => f (cn_fs pt a + k)) (pt a)) M
  | 0 => rfl
  | M + 1 => by
    show sI f (cn_fs pt M + pt M) = sI (fun a => sI (fun k => f (cn_fs pt a + k)) (pt a)) M + sI (fun k => f (cn_fs pt M + k)) (pt M)
    rw [sI_app, sI_lanes]
/-- what goes on an arc beyond its LOW -/
def AN.am (A : AN) (x : Nat → Int) (a : Nat) : Int := sI (fun k => x (cn_fs A.pt a + k)) (A.pt a)
theorem AN.dv_am {A : AN} {x : Nat → Int} {v : Nat} : dv A.K A.b A.e x v = dv A.M A.fr A.tr (A.am x) v := by
  unfold dv AN.K
  rw [sI_lanes]
  refine sI_cg (fun a ha => ?_)
  have e1 : sI (fun k => (if A.b (cn_fs A.pt a + k) = v then x (cn_fs A.pt a + k) else 0) - (if A.e (cn_fs A.pt a + k) = v then x (cn_fs A.pt a + k) else 0)) (A.pt a) = sI (fun k => ((if A.fr a = v then 1 else 0) - (if A.tr a = v then 1 else 0)) * x (cn_fs A.pt a + k)) (A.pt a) := sI_cg (fun k hk => by
    have h1 := (A.l_at ha hk).2.1
    show (if A.b (cn_fs A.pt a + k) = v then x (cn_fs A.pt a + k) else 0) - (if A.e (cn_fs A.pt a + k) = v then x (cn_fs A.pt a + k) else 0) = ((if A.fr a = v then 1 else 0) - (if A.tr a = v then 1 else 0)) * x (cn_fs A.pt a + k)
    unfold AN.b AN.e
    rw [h1]
    by_cases q1 : A.fr a = v
    · by_cases q2 : A.tr a = v
      · simp [q1, q2]
      · simp [q1, q2]
    · by_cases q2 : A.tr a = v
      · simp [q1, q2]
      · simp [q1, q2])
  rw [e1, sI_mul]
  show _ = (if A.fr a = v then A.am x a else 0) - (if A.tr a = v then A.am x a else 0)
  unfold AN.am
  by_cases q1 : A.fr a = v
  · by_cases q2 : A.tr a = v
    · simp [q1, q2]
    · simp [q1, q2]
  · by_cases q2 : A.tr a = v
    · simp [q1, q2]
    · simp [q1, q2]
/-- what a node has to send, when every arc has its LOW -/
def AN.s (A : AN) (v : Nat) : Int := A.su v - dv A.M A.fr A.tr (fun a => A.st (4 * a)) v
