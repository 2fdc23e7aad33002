/-! ===== how far a cost may change ===== -/
theorem dI_cg {n C : Nat} {bg en : Nat → Nat} {wt : Nat → Int} {on : Nat → Bool} {V0 V0' V : Nat → Int} (h : dI n C bg en wt on V0 V) (e : ∀ v, v < n → V0 v = V0' v) : dI n C bg en wt on V0' V := ⟨fun v hv => by rw [← e v hv]; exact h.1 v hv, fun T U h1 h2 => h.2 T U h1 (fun v hv hq => by rw [e v hv] at hq ⊢; exact h2 v hv hq)⟩
theorem AN.gat_cg {A : AN} {mm mm' lo : Nat → Int} {w : Nat} (h : A.gat mm lo w) (e : ∀ l, l < A.K → mm l = mm' l) : A.gat mm' lo w := by
  obtain ⟨h1, h2, h3, h4⟩ := h
  have e1 : wm mm' lo w = wm mm lo w := by unfold wm; rw [e (w / 2) (by omega)]
  exact ⟨h1, by rw [e1]; exact h2, fun q l' a b => by rw [← e l' (by omega)]; exact h3 q l' a b, h4⟩
theorem ds_cl {u : dm_S} {A : AN} {mm lo p V : Nat → Int} {C a s : Nat} {nb : Nat → Nat} (hA : A.ok) (hm : ∀ l, l < A.K → mm l = A.w 1000000000 l) (ho : A.opt mm p lo) (hsm : ∀ a, a < A.M → A.on lo a ≤ 430000000) (hw : WG u A mm lo C nb) (ha : a < A.M) (hpt : A.pt a = 1) (hs : s < A.n) (h : dI A.n (2 * A.M) (wb A.fr A.tr) (we A.fr A.tr) (A.yc (A.on lo)) (yn A (A.on lo) (nI a)) (ys (nI s)) V) (hr : dR (2 * A.M) (wb A.fr A.tr) (we A.fr A.tr) (A.yc (A.on lo)) (yn A (A.on lo) (nI a)) V) : ∀ v, v < A.n → wg_ds u A.n C nb (fun j => wb A.b A.e (nb j)) (fun j => we A.b A.e (nb j)) (nI (cn_fs A.pt a)) s v = lI (V v) := by
  obtain ⟨hn, hM⟩ := hA.1
  have hK := A.K_le hA
  have o9 := AN.opt_cg ho hm
  have g1 : ∀ j, j < C → A.gat (A.w 1000000000) lo (nb j) := fun j hj => AN.gat_cg (hw.1.2 j hj).1 hm
  have g2 : ∀ w, A.gat (A.w 1000000000) lo w → ∃ j, j < C ∧ nb j = w := fun w h => hw.2.2 w (AN.gat_cg h (fun l hl => (hm l hl).symm))
  have hf : dF A.n C (fun j => wb A.b A.e (nb j)) (fun j => we A.b A.e (nb j)) (fun j => wr A.c (nb j)) (wg_on nb (nI (cn_fs A.pt a))) := fun j hj _ => AN.dFw hA (c := A.c) (on := fun _ => true) (fun l hl => AN.c_bd hA hl) (nb j) (g1 j hj).1 rfl
  have hU : dP C (fun j => wb A.b A.e (nb j)) (fun j => we A.b A.e (nb j)) (fun j => wr A.c (nb j)) (wg_on nb (nI (cn_fs A.pt a))) p := fun j hj _ => pf_way o9.2.2 (g1 j hj).1 (g1 j hj).2.1
  have hF : fAR = 1152921504606846976 := rfl
  let V0 : Nat → Int := uI (fun j => if j < 24 then fAR else (u.2 37 j).toInt) s 0
  have e0 : ∀ v, v < A.n → V0 v = ys (nI s) v := fun v hv => by
    show (if v = s then (0 : Int) else if v < 24 then fAR else (u.2 37 v).toInt) = (if nI s = -1 ∨ nI v = nI s then 0 else fAR)
    by_cases y : v = s
    · rw [if_pos y, if_pos (Or.inr (by rw [y]))]
    · rw [if_neg y, if_pos (by omega), if_neg (fun q => q.elim (nI_nm1 (by omega)) (fun q => y ((nI_eq (by omega) (by omega)).mp q)))]
  have h0 : d0 A.n V0 := fun v hv => by rw [e0 v hv]; exact ys_0 v hv
  have eV : vp_updL (fun j => if j < 24 then (1152921504606846976 : Int64) else u.2 37 j) s 0 = lF V0 := by
    funext j
    show (if j = s then (0 : Int64) else if j < 24 then 1152921504606846976 else u.2 37 j) = lI (if j = s then 0 else if j < 24 then fAR else (u.2 37 j).toInt)
    by_cases y : j = s
    · rw [if_pos y, if_pos y]; rfl
    · rw [if_neg y, if_neg y]
      by_cases y2 : j < 24
      · rw [if_pos y2, if_pos y2]; rfl
      · rw [if_neg y2, if_neg y2, lI_to]
  obtain ⟨E, E1, E2, E3⟩ := dT_all hn hf hU h0
  have hrf := rf_dT hn hf hU h0 (w := u.2 31) (fun j hj => (hw.1.2 j hj).2.2.2.2) A.n V0 dI_0
  have key := AN.ds_meet hA (B := 1000000000) (on1 := yn A (A.on lo) (nI a)) (on2 := wg_on nb (nI (cn_fs A.pt a))) (by decide) o9.1 o9.2.2 (fun a ha _ => by have := hsm a ha; omega) g1 g2 ha hpt (fun j hj => by
    unfold yn
    rw [Bool.and_eq_true, Bool.not_eq_true', decide_eq_false_iff_not, nI_eq (by omega) (by omega)]) (fun j hj => by
    have := (g1 j hj).1
    have := AN.fs_le hA ha
    unfold wg_on
    rw [Bool.not_eq_true', decide_eq_false_iff_not, nI_eq (by omega) (by omega)]) ys_0 h hr (dI_cg E1 e0) E2
  intro v hv
  unfold wg_ds
  rw [eV, hrf, lF_at, E3 v hv, key v hv]
