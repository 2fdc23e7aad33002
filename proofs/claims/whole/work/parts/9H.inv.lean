/-! ===== what holds between the calls ===== -/
/-- the class: its net and its assignment are as they were -/
def kc_fr (u u' : dm_S) : Prop := (∀ c, c ∈ [1, 10, 12, 13, 14, 16, 50] → u'.1 c = u.1 c) ∧ ∀ c, c ∈ [11, 15, 17, 18, 49, 51] → u'.2 c = u.2 c
theorem kc_frt {u u' u'' : dm_S} (h : kc_fr u u') (h2 : kc_fr u' u'') : kc_fr u u'' := ⟨fun c a => (h2.1 c a).trans (h.1 c a), fun c a => (h2.2 c a).trans (h.2 c a)⟩
theorem kc_nt {u u' : dm_S} (h : kc_fr u u') : nt_fr u u' := ⟨fun c hc => h.1 c (by simp at hc ⊢; omega), fun c hc => h.2 c (by simp at hc ⊢; omega)⟩
theorem kc_ly {u u' : dm_S} (h : ly_fr u u') : kc_fr u u' := ⟨fun c hc => h.1 c (by simp at hc ⊢; omega), fun c hc => h.2.2 c (by simp at hc ⊢; omega)⟩
theorem kc_ff {u u' : dm_S} (h : ff_fr u u') : kc_fr u u' := ⟨fun c hc => h.1 c (by simp at hc ⊢; omega), fun c hc => h.2.2 c (by simp at hc ⊢; omega)⟩
theorem kc_lb {u u' : dm_S} (h : lb_fr u u') : kc_fr u u' := ⟨fun c hc => h.1 c (by simp at hc ⊢; omega), fun c hc => h.2 c (by simp at hc ⊢; omega)⟩
theorem kc_lk {u u' : dm_S} (h : lk_fr u u') : kc_fr u u' := ⟨fun c hc => h.1 c (by simp at hc ⊢; omega), fun c hc => h.2 c (by simp at hc ⊢; omega)⟩
theorem kc_ui {u : dm_S} {c j : Nat} {x : Int32} (h : c ∉ [1, 10, 12, 13, 14, 16, 50]) : kc_fr u (dm_ui u c j x) := ⟨fun k hk => by rw [dm_ui_1, if_neg (fun z => h (by rw [← z]; exact hk))], fun _ _ => rfl⟩
theorem kc_co {u : dm_S} {b : Nat → Bool} {n : Nat} : kc_fr u (dm_co u b n) := ⟨fun c hc => (dm_co_at u b n).2.1 c (by simp at hc; omega) (by simp at hc; omega), fun c _ => by rw [(dm_co_at u b n).2.2]⟩
theorem kc_fg {u : dm_S} : kc_fr u (dm_fg u) := kc_frt (kc_ui (by decide)) (kc_frt (kc_ui (by decide)) (kc_ui (by decide)))
theorem PP_kc {u u' : dm_S} {n : Nat} {c T : Nat → Int} (h : PP u n c T) (hf : kc_fr u u') : PP u' n c T := by
  unfold PP PC PS at h ⊢
  rw [hf.1 10 (by decide), hf.1 50 (by decide), hf.2 49 (by decide), hf.2 51 (by decide)]
  exact h
theorem MP_mr {u u' : dm_S} {n : Nat} {c : Nat → Int} (h : MP u n c) (hf : mr_fr u u') : MP u' n c := by
  unfold MP at h ⊢
  rw [hf.1 22 (by decide), hf.2.1 27 (by decide), hf.2.2 21 (by decide)]
  exact h
def PI (u v : dm_S) : Prop := ∃ (n : Nat) (c T : Nat → Int), PP u n c T ∧ MP v n c
def NI (u v : dm_S) (A : AN) : Prop := A.ok ∧ CR u A ∧ MR v A ∧ u.1 1 10 = nI (cn_fs A.pt A.M - A.M)
theorem PI_fr {u u' v v' : dm_S} (h : PI u v) (h1 : kc_fr u u') (h2 : mr_fr v v') : PI u' v' := by
  obtain ⟨n, c, T, a, b⟩ := h
  exact ⟨n, c, T, PP_kc a h1, MP_mr b h2⟩
theorem NI_fr {u u' v v' : dm_S} {A : AN} (h : NI u v A) (h1 : kc_fr u u') (h2 : mr_fr v v') : NI u' v' A := ⟨h.1, CR_fr h.2.1 (kc_nt h1), MR_fr h.2.2.1 (mr_mn h2), by rw [h1.1 1 (by decide)]; exact h.2.2.2⟩
/-- THE SET in the class's cells -/
def CS (u : dm_S) (S : Nat → Bool) (n : Nat) : Prop := u.1 9 2 = nI (dm_ct S n) ∧ ∀ k, k < n → S k = true → u.1 48 (dm_ct S k) = nI k
theorem dm_co_CS (u : dm_S) (b : Nat → Bool) : ∀ n, CS (dm_co u b n) b n
  | 0 => ⟨rfl, fun k hk => absurd hk (Nat.not_lt_zero _)⟩
  | n + 1 => by
    obtain ⟨h1, h2⟩ := dm_co_CS u b n
    refine ⟨(dm_co_at u b (n + 1)).1, fun k hk hS => ?_⟩
    rw [show dm_co u b (n + 1) = if b n then dm_ui (dm_ui (dm_co u b n) 48 (dm_ct b n) (nI n)) 9 2 (nI (dm_ct b n + 1)) else dm_co u b n from rfl]
    by_cases e : b n = true
    · rw [if_pos e, dm_ui_1, if_neg (by decide), dm_ui_1, if_pos rfl]
      unfold upd
      by_cases y : k = n
      · simp [y]
      · have := dm_ct_lt hS (show k < n by omega)
        rw [if_neg (by omega)]
        exact h2 k (by omega) hS
    · rw [if_neg e]
      have y : k < n := by
        rcases Nat.lt_or_ge k n with y | y
        · exact y
        · rw [show k = n by omega] at hS; exact absurd hS e
      exact h2 k y hS
theorem dm_ct_cg {S S' : Nat → Bool} : ∀ {n : Nat}, (∀ v, v < n → S v = S' v) → dm_ct S n = dm_ct S' n
  | 0, _ => rfl
  | n + 1, h => by
    show dm_ct S n + (if S n then 1 else 0) = dm_ct S' n + (if S' n then 1 else 0)
    rw [dm_ct_cg (fun v hv => h v (by omega)), h n (by omega)]
theorem CS_cg {u : dm_S} {S S' : Nat → Bool} {n : Nat} (h : CS u S n) (e : ∀ v, v < n → S v = S' v) : CS u S' n := by
  refine ⟨by rw [← dm_ct_cg e]; exact h.1, fun k hk hS => ?_⟩
  rw [← dm_ct_cg (fun v hv => e v (by omega))]
  exact h.2 k hk (by rw [e k hk]; exact hS)
/-- BEST, in both -/
def BI (u v : dm_S) (A : AN) : Prop := ∃ (mm lo p : Nat → Int) (C : Nat) (nb : Nat → Nat), (∀ l, l < A.K → mm l = A.w 1000000000 l) ∧ LN u A ∧ u.2 22 = lF mm ∧ u.2 24 = lF lo ∧ u.2 36 = lF p ∧ A.opt mm p lo ∧ A.prc mm lo p ∧ WG u A mm lo C nb ∧ FL v A.M (A.on lo) ∧ (∀ a, a < A.M → A.on lo a ≤ 430000000) ∧ v.2 0 12 = lI (sI (fun a => A.rt (4 * a) * A.st (4 * a)) A.M + ct A.K A.c lo)
def SI (u v : dm_S) (A : AN) : Prop :=
  (u.1 0 10 = -1 ∧ s3 v (-1) 0 0 ∧ u.1 8 3 = 0 ∧ u.1 9 2 = 0) ∨
  (u.1 0 10 = 2 ∧ (v.1 0 10 = 2 ∧ v.1 0 13 = 0) ∧ u.1 8 3 = 0 ∧ ∃ S, CS u S A.n ∧ MS v S A.n) ∨
  (u.1 0 10 = 1 ∧ u.1 9 2 = 0 ∧ ∃ (f : Nat) (rq : Nat → Nat), f ≤ 24 ∧ s3 v 1 (nI f) 0 ∧ u.1 8 3 = nI f ∧ ∀ i, i < f → u.1 46 i = nI (rq i) ∧ v.1 10 i = nI (rq i)) ∨
  (u.1 0 10 = 0 ∧ s3 v 0 0 0 ∧ u.1 8 3 = 0 ∧ u.1 9 2 = 0 ∧ BI u v A)
def Inv (u v : dm_S) : Prop := ∃ A : AN, NI u v A ∧ PI u v ∧ SI u v A
/-- one call: both answer the same, and it holds on -/
def same (P P' : (Option Value → dm_S → Prop) → Prop) : Prop := P (fun r u' => P' (fun r' v' => r = r' ∧ Inv u' v'))
set_option maxHeartbeats 1600000 in
theorem b_run {u v : dm_S} {x : Int32} (h : Inv u v) : same (sp_X10_run [.ref 0, .int x] u) (sp_X11_run [.ref 0, .int x] v) := by
  obtain ⟨A, hN, hP, hS⟩ := h
  have hN' := hN
  obtain ⟨hA, hC, hM, hk⟩ := hN'
  refine ⟨fun hb => ⟨fun _ => ⟨rfl, A, hN, hP, hS⟩, fun hg => absurd hg hb⟩, fun hg => ⟨A, hA, hC, fun u1 mm hd sr f1 hLN hso e22 hm => ?_⟩⟩
  have k1 : kc_fr u u1 := kc_frt kc_fg (kc_ly f1)
  have z8 : u1.1 8 3 = 0 := by rw [f1.1 8 (by decide)]; rfl
  have z9 : u1.1 9 2 = 0 := by rw [f1.1 9 (by decide)]; rfl
  refine ⟨fun hs => ?_, fun hs u2 lo S f2 b1 b2 b3 b4 => ?_, fun hs lo b1 b2 hno f rq hr u2 f2 c1 c2 => ?_, fun hs lo0 d1 d2 U hU u2 lo p C nb f2 e1 e2 e3 e4 e5 e6 => ?_⟩
  · refine ⟨fun hb => absurd hg hb, fun _ => ⟨A, hA, hM, fun _ v1 g1 g2 g3 g4 => ⟨rfl, A, NI_fr hN (kc_frt k1 (kc_frt kc_co (kc_ui (by decide)))) g1, PI_fr hP (kc_frt k1 (kc_frt kc_co (kc_ui (by decide)))) g1, Or.inr (Or.inl ⟨?_, ⟨g2, g3⟩, ?_, fun _ => true, ?_, g4⟩)⟩, fun q => absurd q hs, fun q => absurd q hs, fun q => absurd q hs⟩⟩
    · rw [dm_ui_1, if_pos rfl]; exact if_pos rfl
    · rw [dm_ui_1, if_neg (by decide), (dm_co_at u1 (fun _ => true) A.n).2.1 8 (by decide) (by decide)]; exact z8
    · have := dm_co_CS u1 (fun _ => true) A.n
      exact ⟨by rw [dm_ui_1, if_neg (by decide)]; exact this.1, fun k hk2 hS2 => by rw [dm_ui_1, if_neg (by decide)]; exact this.2 k hk2 hS2⟩
  · have k2 := kc_frt k1 (kc_frt (kc_ff f2) (kc_frt (kc_co (b := fun j => !decide (u2.1 33 j = -2)) (n := A.n)) (kc_ui (c := 0) (j := 10) (x := 2) (by decide))))
    have hw : ∀ l, l < A.K → A.ln l = false → mm l = A.w 1000000000000 l := fun l hl hn => by rw [hm l hl]; exact A.w_nl hl hn
    have nobal : ∀ y, fits A.K (A.w 1000000000000) y → bal A.n A.K A.b A.e A.s y → False := fun y hy1 hy2 => by
      obtain ⟨w, w1, w2⟩ := b3
      have := stk_bal (AN.nd hA) (by rw [AN.s_sum hA]; exact hs) hw hy1 hy2 b2 w w1
      omega
    refine ⟨fun hb => absurd hg hb, fun _ => ⟨A, hA, hM, fun q => absurd hs q, fun _ v1 lo' S' g1 g2 g3 g4 g5 g6 g7 => ⟨rfl, A, NI_fr hN k2 g1, PI_fr hP k2 g1, Or.inr (Or.inl ⟨?_, ⟨g2, g3⟩, ?_, S', ?_, g7⟩)⟩, fun _ y hy1 hy2 => absurd (nobal y hy1 hy2) id, fun _ U hU v1 f P g1 g2 g3 g4 g5 g6 g7 => ?_⟩⟩
    · rw [dm_ui_1, if_pos rfl]; exact if_pos rfl
    · rw [dm_ui_1, if_neg (by decide), (dm_co_at u2 _ A.n).2.1 8 (by decide) (by decide), f2.1 8 (by decide)]; exact z8
    · have e1 : ∀ j, j < A.n → (fun j => !decide (u2.1 33 j = -2)) j = S j := fun j hj => by
        have := b4 j hj
        cases hq : S j with
        | true => simp; intro z; rw [this.mp z] at hq; cases hq
        | false => simp; exact this.mpr hq
      have := CS_cg (CS_cg (dm_co_CS u2 (fun j => !decide (u2.1 33 j = -2)) A.n) e1) (set_uq hA hm b1 g4 b2 g5)
      exact ⟨by rw [dm_ui_1, if_neg (by decide)]; exact this.1, fun k hk2 hS2 => by rw [dm_ui_1, if_neg (by decide)]; exact this.2 k hk2 hS2⟩
    · obtain ⟨oh, -⟩ := AN.lex_of hA (B := 1000000000000) (by decide) g4 g5 g6
      exact absurd (nobal _ oh.1 oh.2.1) id
  · have k2 := kc_frt k1 (kc_frt (kc_lk f2) (kc_ui (c := 0) (j := 10) (x := 1) (by decide)))
    refine ⟨fun hb => absurd hg hb, fun _ => ⟨A, hA, hM, fun q => absurd hs q, fun _ v1 lo' S' g1 g2 g3 g4 g5 g6 g7 => ?_, fun _ y hy1 hy2 hno2 f' rq' hr' v1 g1 g2 g3 => ⟨rfl, A, NI_fr hN k2 g1, PI_fr hP k2 g1, Or.inr (Or.inr (Or.inl ⟨?_, ?_, f', rq', ?_, g2, ?_, fun i hi => ⟨?_, g3 i hi⟩⟩))⟩, fun _ U hU => absurd hU (hno U)⟩⟩
    · exfalso
      obtain ⟨w, w1, w2⟩ := g6
      have := stk_bal (AN.nd hA) (by rw [AN.s_sum hA]; exact hs) (fun l hl hn => by rw [hm l hl]; exact A.w_nl hl hn) b1 b2 g5 w w1
      omega
    · rw [dm_ui_1, if_pos rfl]; exact if_pos rfl
    · rw [dm_ui_1, if_neg (by decide), f2.1 9 (by decide)]; exact z9
    · have := hr'.1.2; have := hA.1.1; omega
    · rw [dm_ui_1, if_neg (by decide), c1, (rqok_uq hr hr').1]
    · obtain ⟨q1, q2⟩ := rqok_uq hr hr'
      rw [dm_ui_1, if_neg (by decide), c2 i (by omega), q2 i (by omega)]
  · have k2 := kc_frt k1 (kc_frt (kc_lb f2) (kc_ui (c := 0) (j := 10) (x := 0) (by decide)))
    refine ⟨fun hb => absurd hg hb, fun _ => ⟨A, hA, hM, fun q => absurd hs q, fun _ v1 lo' S' g1 g2 g3 g4 g5 g6 g7 => ?_, fun _ y hy1 hy2 hno2 => absurd hU (hno2 U), fun _ U2 hU2 v1 f P g1 g2 g3 g4 g5 g6 g7 => ?_⟩⟩
    · exfalso
      obtain ⟨w, w1, w2⟩ := g6
      have := stk_bal (AN.nd hA) (by rw [AN.s_sum hA]; exact hs) (fun l hl hn => by rw [hm l hl]; exact (A.w_nl hl hn).symm) d1 d2 g5 w w1
      omega
    · obtain ⟨m1, m2, m3⟩ := AN.best_meet hA hU hm e3 e4 g4 g5 g6
      refine ⟨rfl, A, NI_fr hN k2 g1, PI_fr hP k2 g1, Or.inr (Or.inr (Or.inr ⟨?_, g2, ?_, ?_, mm, lo, p, C, nb, hm, ?_, ?_, e1, e2, e3, e5, ?_, fun a ha => ?_, fun a ha => ?_, ?_⟩))⟩
      · rw [dm_ui_1, if_pos rfl]; exact if_pos rfl
      · rw [dm_ui_1, if_neg (by decide), f2.1 8 (by decide)]; exact z8
      · rw [dm_ui_1, if_neg (by decide), f2.1 9 (by decide)]; exact z9
      · refine LN_fr hLN (fun c hc => ?_) (fun c hc => f2.2 c (by simp at hc ⊢; omega))
        rw [dm_ui_1, if_neg (by simp at hc; omega)]
        exact f2.1 c (by simp at hc ⊢; omega)
      · show u2.2 22 = _; rw [f2.2 22 (by decide)]; exact e22
      · unfold WG WGp at e6 ⊢
        simp only [dm_ui_1, dm_ui_2]
        exact e6
      · rw [g3 a ha, m1 a ha]
      · rw [← m1 a ha]; exact m2 a ha
      · rw [g7, m3]
