/-! ===== one row an instruction ===== -/
section DMT
variable {p : Program} {l : Launch} {e : Env} {R : Room} {s : State} {m : MethodId} {args : Array Value} {below : List Frame} {meth : Method} {c : Code} {D : va_G} {cl : List vw_C} {cA : Nat → ClassId} {ad : Nat → Nat} {sh : List dm_H} {A : Nat → Prop} {cc : ByteArray} {nL : Nat} {Ts : List Cond} {own : String} {X : dm_X} {Sp : dm_Sp} {Q : State → Prop}
variable {K : dm_K} {Qp : Option Value → dm_S → Prop} {pc : Nat} {L : List (Option Value)} {S : List Value} {u : dm_S} {t : List Nat} {rk : Nat}
theorem dm_lh.st1 {ls : Array Slot} {i : Nat} {v : Value} (h : dm_lh ad ls nL L) {P : Array Slot → Prop} (k : ∀ ls', dm_lh ad ls' nL (dm_s1 L i v) → P ls') : ∀ ls' : Array Slot, lv_has ls' nL ((i, dm_cv ad v) :: (dm_ll ad L).filter (fun q => !(q.1 == i) && !(q.1 + 1 == i && q.2.category == 2))) → P ls' := fun ls' h' => k ls' (h.s1 rfl h')
theorem dm_lh.st2 {ls : Array Slot} {i : Nat} {v : Value} (h : dm_lh ad ls nL L) {P : Array Slot → Prop} (k : ∀ ls', dm_lh ad ls' nL (dm_s2 L i v) → P ls') : ∀ ls' : Array Slot, lv_has ls' nL ((i, dm_cv ad v) :: (dm_ll ad L).filter (fun q => !(q.1 == i) && (!(q.1 == i + 1) && !(q.1 + 1 == i && q.2.category == 2)))) → P ls' := fun ls' h' => k ls' (h.s2 rfl h')
theorem dm_T_iconst (C0 : dm_C p s m args meth c cc nL Ts own D cl cA ad sh A rk) (hK : ∀ pc L S u, K pc L S u → dm_G p l e R s m args below meth c D cl cA ad sh A nL Q pc L S u) {j : Int} (hd : decode cc pc = .ok (.iconst j, dm_len (.iconst j))) (h : dm_x sh X Sp K Qp (.iconst j) t pc L S u) : dm_G p l e R s m args below meth c D cl cA ad sh A nL Q pc L S u := by
  obtain ⟨⟨hx, hb, hml, hown, hts⟩, hKK, hDD, hA, hret, hlk⟩ := C0
  intro ls H locs hl hP hS
  exact lv_iconst hx hb hd rfl (hK _ _ _ _ h ls H locs hl hP hS)
theorem dm_T_bipush (C0 : dm_C p s m args meth c cc nL Ts own D cl cA ad sh A rk) (hK : ∀ pc L S u, K pc L S u → dm_G p l e R s m args below meth c D cl cA ad sh A nL Q pc L S u) {j : Int} (hd : decode cc pc = .ok (.bipush j, dm_len (.bipush j))) (h : dm_x sh X Sp K Qp (.bipush j) t pc L S u) : dm_G p l e R s m args below meth c D cl cA ad sh A nL Q pc L S u := by
  obtain ⟨⟨hx, hb, hml, hown, hts⟩, hKK, hDD, hA, hret, hlk⟩ := C0
  intro ls H locs hl hP hS
  exact lv_bipush hx hb hd rfl (hK _ _ _ _ h ls H locs hl hP hS)
theorem dm_T_sipush (C0 : dm_C p s m args meth c cc nL Ts own D cl cA ad sh A rk) (hK : ∀ pc L S u, K pc L S u → dm_G p l e R s m args below meth c D cl cA ad sh A nL Q pc L S u) {j : Int} (hd : decode cc pc = .ok (.sipush j, dm_len (.sipush j))) (h : dm_x sh X Sp K Qp (.sipush j) t pc L S u) : dm_G p l e R s m args below meth c D cl cA ad sh A nL Q pc L S u := by
  obtain ⟨⟨hx, hb, hml, hown, hts⟩, hKK, hDD, hA, hret, hlk⟩ := C0
  intro ls H locs hl hP hS
  exact lv_sipush hx hb hd rfl (hK _ _ _ _ h ls H locs hl hP hS)
theorem dm_T_lconst (C0 : dm_C p s m args meth c cc nL Ts own D cl cA ad sh A rk) (hK : ∀ pc L S u, K pc L S u → dm_G p l e R s m args below meth c D cl cA ad sh A nL Q pc L S u) {j : Fin 2} (hd : decode cc pc = .ok (.lconst j, dm_len (.lconst j))) (h : dm_x sh X Sp K Qp (.lconst j) t pc L S u) : dm_G p l e R s m args below meth c D cl cA ad sh A nL Q pc L S u := by
  obtain ⟨⟨hx, hb, hml, hown, hts⟩, hKK, hDD, hA, hret, hlk⟩ := C0
  intro ls H locs hl hP hS
  exact lv_lconst hx hb hd rfl (hK _ _ _ _ h ls H locs hl hP hS)
theorem dm_T_ldc (C0 : dm_C p s m args meth c cc nL Ts own D cl cA ad sh A rk) (hK : ∀ pc L S u, K pc L S u → dm_G p l e R s m args below meth c D cl cA ad sh A nL Q pc L S u) (hI : dm_IO Ts own X) {j : Nat} (hd : decode cc pc = .ok (.ldc j, dm_len (.ldc j))) (h : dm_x sh X Sp K Qp (.ldc j) t pc L S u) : dm_G p l e R s m args below meth c D cl cA ad sh A nL Q pc L S u := by
  obtain ⟨⟨hx, hb, hml, hown, hts⟩, hKK, hDD, hA, hret, hlk⟩ := C0
  intro ls H locs hl hP hS
  simp only [dm_x] at h
  split at h
  · rename_i v hv
    exact lv_ldc hx hb hown (hts _ (hI.1 _ _ hv)) hd (hK _ _ _ _ h ls H locs hl hP hS)
  · exact h.elim
theorem dm_T_ldc_w (C0 : dm_C p s m args meth c cc nL Ts own D cl cA ad sh A rk) (hK : ∀ pc L S u, K pc L S u → dm_G p l e R s m args below meth c D cl cA ad sh A nL Q pc L S u) (hI : dm_IO Ts own X) {j : Nat} (hd : decode cc pc = .ok (.ldc_w j, dm_len (.ldc_w j))) (h : dm_x sh X Sp K Qp (.ldc_w j) t pc L S u) : dm_G p l e R s m args below meth c D cl cA ad sh A nL Q pc L S u := by
  obtain ⟨⟨hx, hb, hml, hown, hts⟩, hKK, hDD, hA, hret, hlk⟩ := C0
  intro ls H locs hl hP hS
  simp only [dm_x] at h
  split at h
  · rename_i v hv
    exact lv_ldcw hx hb hown (hts _ (hI.1 _ _ hv)) hd (hK _ _ _ _ h ls H locs hl hP hS)
  · exact h.elim
theorem dm_T_ldc2_w (C0 : dm_C p s m args meth c cc nL Ts own D cl cA ad sh A rk) (hK : ∀ pc L S u, K pc L S u → dm_G p l e R s m args below meth c D cl cA ad sh A nL Q pc L S u) (hI : dm_IO Ts own X) {j : Nat} (hd : decode cc pc = .ok (.ldc2_w j, dm_len (.ldc2_w j))) (h : dm_x sh X Sp K Qp (.ldc2_w j) t pc L S u) : dm_G p l e R s m args below meth c D cl cA ad sh A nL Q pc L S u := by
  obtain ⟨⟨hx, hb, hml, hown, hts⟩, hKK, hDD, hA, hret, hlk⟩ := C0
  intro ls H locs hl hP hS
  simp only [dm_x] at h
  split at h
  · rename_i v hv
    exact lv_ldc2 hx hb hown (hts _ (hI.2 _ _ hv)) hd (hK _ _ _ _ h ls H locs hl hP hS)
  · exact h.elim
theorem dm_T_iload_n (C0 : dm_C p s m args meth c cc nL Ts own D cl cA ad sh A rk) (hK : ∀ pc L S u, K pc L S u → dm_G p l e R s m args below meth c D cl cA ad sh A nL Q pc L S u) {j : Fin 4} {a : Nat} (ht : t = [a]) (ho : j.val = a) (hd : decode cc pc = .ok (.iload_n j, dm_len (.iload_n j))) (h : dm_x sh X Sp K Qp (.iload_n j) t pc L S u) : dm_G p l e R s m args below meth c D cl cA ad sh A nL Q pc L S u := by
  obtain ⟨⟨hx, hb, hml, hown, hts⟩, hKK, hDD, hA, hret, hlk⟩ := C0
  intro ls H locs hl hP hS
  subst ht
  simp only [dm_x] at h
  split at h
  · rename_i x hx0
    exact lv_iload_n hx hb hd ho (hl.2.2 a _ hx0) (hK _ _ _ _ h ls H locs hl hP hS)
  · exact h.elim
theorem dm_T_iload (C0 : dm_C p s m args meth c cc nL Ts own D cl cA ad sh A rk) (hK : ∀ pc L S u, K pc L S u → dm_G p l e R s m args below meth c D cl cA ad sh A nL Q pc L S u) {j : Nat} (hd : decode cc pc = .ok (.iload j, dm_len (.iload j))) (h : dm_x sh X Sp K Qp (.iload j) t pc L S u) : dm_G p l e R s m args below meth c D cl cA ad sh A nL Q pc L S u := by
  obtain ⟨⟨hx, hb, hml, hown, hts⟩, hKK, hDD, hA, hret, hlk⟩ := C0
  intro ls H locs hl hP hS
  simp only [dm_x] at h
  split at h
  · rename_i x hx0
    exact lv_iload hx hb hd (hl.2.2 j _ hx0) (hK _ _ _ _ h ls H locs hl hP hS)
  · exact h.elim
theorem dm_T_lload_n (C0 : dm_C p s m args meth c cc nL Ts own D cl cA ad sh A rk) (hK : ∀ pc L S u, K pc L S u → dm_G p l e R s m args below meth c D cl cA ad sh A nL Q pc L S u) {j : Fin 4} {a : Nat} (ht : t = [a]) (ho : j.val = a) (hd : decode cc pc = .ok (.lload_n j, dm_len (.lload_n j))) (h : dm_x sh X Sp K Qp (.lload_n j) t pc L S u) : dm_G p l e R s m args below meth c D cl cA ad sh A nL Q pc L S u := by
  obtain ⟨⟨hx, hb, hml, hown, hts⟩, hKK, hDD, hA, hret, hlk⟩ := C0
  intro ls H locs hl hP hS
  subst ht
  simp only [dm_x] at h
  split at h
  · rename_i x hx0
    exact lv_lload_n hx hb hd ho (hl.2.2 a _ hx0) (hK _ _ _ _ h ls H locs hl hP hS)
  · exact h.elim
theorem dm_T_lload (C0 : dm_C p s m args meth c cc nL Ts own D cl cA ad sh A rk) (hK : ∀ pc L S u, K pc L S u → dm_G p l e R s m args below meth c D cl cA ad sh A nL Q pc L S u) {j : Nat} (hd : decode cc pc = .ok (.lload j, dm_len (.lload j))) (h : dm_x sh X Sp K Qp (.lload j) t pc L S u) : dm_G p l e R s m args below meth c D cl cA ad sh A nL Q pc L S u := by
  obtain ⟨⟨hx, hb, hml, hown, hts⟩, hKK, hDD, hA, hret, hlk⟩ := C0
  intro ls H locs hl hP hS
  simp only [dm_x] at h
  split at h
  · rename_i x hx0
    exact lv_lload hx hb hd (hl.2.2 j _ hx0) (hK _ _ _ _ h ls H locs hl hP hS)
  · exact h.elim
theorem dm_T_aload_n (C0 : dm_C p s m args meth c cc nL Ts own D cl cA ad sh A rk) (hK : ∀ pc L S u, K pc L S u → dm_G p l e R s m args below meth c D cl cA ad sh A nL Q pc L S u) {j : Fin 4} {a : Nat} (ht : t = [a]) (ho : j.val = a) (hd : decode cc pc = .ok (.aload_n j, dm_len (.aload_n j))) (h : dm_x sh X Sp K Qp (.aload_n j) t pc L S u) : dm_G p l e R s m args below meth c D cl cA ad sh A nL Q pc L S u := by
  obtain ⟨⟨hx, hb, hml, hown, hts⟩, hKK, hDD, hA, hret, hlk⟩ := C0
  intro ls H locs hl hP hS
  subst ht
  simp only [dm_x] at h
  split at h
  · rename_i x hx0
    exact lv_aload_n hx hb hd ho (hl.2.2 a _ hx0) (hK _ _ _ _ h ls H locs hl hP hS)
  · exact h.elim
theorem dm_T_aload (C0 : dm_C p s m args meth c cc nL Ts own D cl cA ad sh A rk) (hK : ∀ pc L S u, K pc L S u → dm_G p l e R s m args below meth c D cl cA ad sh A nL Q pc L S u) {j : Nat} (hd : decode cc pc = .ok (.aload j, dm_len (.aload j))) (h : dm_x sh X Sp K Qp (.aload j) t pc L S u) : dm_G p l e R s m args below meth c D cl cA ad sh A nL Q pc L S u := by
  obtain ⟨⟨hx, hb, hml, hown, hts⟩, hKK, hDD, hA, hret, hlk⟩ := C0
  intro ls H locs hl hP hS
  simp only [dm_x] at h
  split at h
  · rename_i x hx0
    exact lv_aload hx hb hd (hl.2.2 j _ hx0) (hK _ _ _ _ h ls H locs hl hP hS)
  · exact h.elim
theorem dm_T_istore_n (C0 : dm_C p s m args meth c cc nL Ts own D cl cA ad sh A rk) (hK : ∀ pc L S u, K pc L S u → dm_G p l e R s m args below meth c D cl cA ad sh A nL Q pc L S u) {j : Fin 4} {a : Nat} (ht : t = [a]) (ho : j.val = a) (hd : decode cc pc = .ok (.istore_n j, dm_len (.istore_n j))) (h : dm_x sh X Sp K Qp (.istore_n j) t pc L S u) : dm_G p l e R s m args below meth c D cl cA ad sh A nL Q pc L S u := by
  obtain ⟨⟨hx, hb, hml, hown, hts⟩, hKK, hDD, hA, hret, hlk⟩ := C0
  intro ls H locs hl hP hS
  subst ht
  simp only [dm_x] at h
  split at h
  · rename_i x S'
    exact lv_istore_n hx hb hd ho hl.has (by rw [← hl.1.2]; exact h.1) rfl (hl.st1 (v := .int x) fun ls' hl' => hK _ _ _ _ h.2 ls' H locs hl' hP hS)
  · exact h.elim
theorem dm_T_istore (C0 : dm_C p s m args meth c cc nL Ts own D cl cA ad sh A rk) (hK : ∀ pc L S u, K pc L S u → dm_G p l e R s m args below meth c D cl cA ad sh A nL Q pc L S u) {j : Nat} (hd : decode cc pc = .ok (.istore j, dm_len (.istore j))) (h : dm_x sh X Sp K Qp (.istore j) t pc L S u) : dm_G p l e R s m args below meth c D cl cA ad sh A nL Q pc L S u := by
  obtain ⟨⟨hx, hb, hml, hown, hts⟩, hKK, hDD, hA, hret, hlk⟩ := C0
  intro ls H locs hl hP hS
  simp only [dm_x] at h
  split at h
  · rename_i x S'
    exact lv_istore hx hb hd hl.has (by rw [← hl.1.2]; exact h.1) rfl (hl.st1 (v := .int x) fun ls' hl' => hK _ _ _ _ h.2 ls' H locs hl' hP hS)
  · exact h.elim
theorem dm_T_lstore_n (C0 : dm_C p s m args meth c cc nL Ts own D cl cA ad sh A rk) (hK : ∀ pc L S u, K pc L S u → dm_G p l e R s m args below meth c D cl cA ad sh A nL Q pc L S u) {j : Fin 4} {a : Nat} (ht : t = [a]) (ho : j.val = a) (hd : decode cc pc = .ok (.lstore_n j, dm_len (.lstore_n j))) (h : dm_x sh X Sp K Qp (.lstore_n j) t pc L S u) : dm_G p l e R s m args below meth c D cl cA ad sh A nL Q pc L S u := by
  obtain ⟨⟨hx, hb, hml, hown, hts⟩, hKK, hDD, hA, hret, hlk⟩ := C0
  intro ls H locs hl hP hS
  subst ht
  simp only [dm_x] at h
  split at h
  · rename_i x S'
    exact lv_lstore_n hx hb hd ho hl.has (by rw [← hl.1.2]; exact h.1) rfl (hl.st2 (v := .long x) fun ls' hl' => hK _ _ _ _ h.2 ls' H locs hl' hP hS)
  · exact h.elim
theorem dm_T_lstore (C0 : dm_C p s m args meth c cc nL Ts own D cl cA ad sh A rk) (hK : ∀ pc L S u, K pc L S u → dm_G p l e R s m args below meth c D cl cA ad sh A nL Q pc L S u) {j : Nat} (hd : decode cc pc = .ok (.lstore j, dm_len (.lstore j))) (h : dm_x sh X Sp K Qp (.lstore j) t pc L S u) : dm_G p l e R s m args below meth c D cl cA ad sh A nL Q pc L S u := by
  obtain ⟨⟨hx, hb, hml, hown, hts⟩, hKK, hDD, hA, hret, hlk⟩ := C0
  intro ls H locs hl hP hS
  simp only [dm_x] at h
  split at h
  · rename_i x S'
    exact lv_lstore hx hb hd hl.has (by rw [← hl.1.2]; exact h.1) rfl (hl.st2 (v := .long x) fun ls' hl' => hK _ _ _ _ h.2 ls' H locs hl' hP hS)
  · exact h.elim
theorem dm_T_iinc (C0 : dm_C p s m args meth c cc nL Ts own D cl cA ad sh A rk) (hK : ∀ pc L S u, K pc L S u → dm_G p l e R s m args below meth c D cl cA ad sh A nL Q pc L S u) {j : Nat} {k : Int} (hd : decode cc pc = .ok (.iinc j k, dm_len (.iinc j k))) (h : dm_x sh X Sp K Qp (.iinc j k) t pc L S u) : dm_G p l e R s m args below meth c D cl cA ad sh A nL Q pc L S u := by
  obtain ⟨⟨hx, hb, hml, hown, hts⟩, hKK, hDD, hA, hret, hlk⟩ := C0
  intro ls H locs hl hP hS
  simp only [dm_x] at h
  split at h
  · rename_i x h1
    have hm : (j, Value.int x) ∈ dm_ll ad L := dm_ll_mem.mpr ⟨.int x, h1, rfl⟩
    obtain ⟨q, hq⟩ := List.mem_iff_getElem?.mp hm
    exact lv_iinc hx hb hd hl.has hq rfl (by rw [← hl.1.2]; exact (List.getElem?_eq_some_iff.mp h1).1) rfl (hl.st1 (v := .int (x + Int32.ofInt k)) fun ls' hl' => hK _ _ _ _ h ls' H locs hl' hP hS)
  · exact h.elim
theorem dm_T_iadd (C0 : dm_C p s m args meth c cc nL Ts own D cl cA ad sh A rk) (hK : ∀ pc L S u, K pc L S u → dm_G p l e R s m args below meth c D cl cA ad sh A nL Q pc L S u) (hd : decode cc pc = .ok (.iadd, dm_len (.iadd))) (h : dm_x sh X Sp K Qp (.iadd) t pc L S u) : dm_G p l e R s m args below meth c D cl cA ad sh A nL Q pc L S u := by
  obtain ⟨⟨hx, hb, hml, hown, hts⟩, hKK, hDD, hA, hret, hlk⟩ := C0
  intro ls H locs hl hP hS
  simp only [dm_x] at h
  split at h
  · exact lv_iadd hx hb hd (hK _ _ _ _ h ls H locs hl hP hS)
  · exact h.elim
theorem dm_T_isub (C0 : dm_C p s m args meth c cc nL Ts own D cl cA ad sh A rk) (hK : ∀ pc L S u, K pc L S u → dm_G p l e R s m args below meth c D cl cA ad sh A nL Q pc L S u) (hd : decode cc pc = .ok (.isub, dm_len (.isub))) (h : dm_x sh X Sp K Qp (.isub) t pc L S u) : dm_G p l e R s m args below meth c D cl cA ad sh A nL Q pc L S u := by
  obtain ⟨⟨hx, hb, hml, hown, hts⟩, hKK, hDD, hA, hret, hlk⟩ := C0
  intro ls H locs hl hP hS
  simp only [dm_x] at h
  split at h
  · exact lv_isub hx hb hd (hK _ _ _ _ h ls H locs hl hP hS)
  · exact h.elim
theorem dm_T_imul (C0 : dm_C p s m args meth c cc nL Ts own D cl cA ad sh A rk) (hK : ∀ pc L S u, K pc L S u → dm_G p l e R s m args below meth c D cl cA ad sh A nL Q pc L S u) (hd : decode cc pc = .ok (.imul, dm_len (.imul))) (h : dm_x sh X Sp K Qp (.imul) t pc L S u) : dm_G p l e R s m args below meth c D cl cA ad sh A nL Q pc L S u := by
  obtain ⟨⟨hx, hb, hml, hown, hts⟩, hKK, hDD, hA, hret, hlk⟩ := C0
  intro ls H locs hl hP hS
  simp only [dm_x] at h
  split at h
  · exact lv_imul hx hb hd (hK _ _ _ _ h ls H locs hl hP hS)
  · exact h.elim
theorem dm_T_iand (C0 : dm_C p s m args meth c cc nL Ts own D cl cA ad sh A rk) (hK : ∀ pc L S u, K pc L S u → dm_G p l e R s m args below meth c D cl cA ad sh A nL Q pc L S u) (hd : decode cc pc = .ok (.iand, dm_len (.iand))) (h : dm_x sh X Sp K Qp (.iand) t pc L S u) : dm_G p l e R s m args below meth c D cl cA ad sh A nL Q pc L S u := by
  obtain ⟨⟨hx, hb, hml, hown, hts⟩, hKK, hDD, hA, hret, hlk⟩ := C0
  intro ls H locs hl hP hS
  simp only [dm_x] at h
  split at h
  · exact lv_iand hx hb hd (hK _ _ _ _ h ls H locs hl hP hS)
  · exact h.elim
theorem dm_T_ior (C0 : dm_C p s m args meth c cc nL Ts own D cl cA ad sh A rk) (hK : ∀ pc L S u, K pc L S u → dm_G p l e R s m args below meth c D cl cA ad sh A nL Q pc L S u) (hd : decode cc pc = .ok (.ior, dm_len (.ior))) (h : dm_x sh X Sp K Qp (.ior) t pc L S u) : dm_G p l e R s m args below meth c D cl cA ad sh A nL Q pc L S u := by
  obtain ⟨⟨hx, hb, hml, hown, hts⟩, hKK, hDD, hA, hret, hlk⟩ := C0
  intro ls H locs hl hP hS
  simp only [dm_x] at h
  split at h
  · exact lv_ior hx hb hd (hK _ _ _ _ h ls H locs hl hP hS)
  · exact h.elim
theorem dm_T_ishl (C0 : dm_C p s m args meth c cc nL Ts own D cl cA ad sh A rk) (hK : ∀ pc L S u, K pc L S u → dm_G p l e R s m args below meth c D cl cA ad sh A nL Q pc L S u) (hd : decode cc pc = .ok (.ishl, dm_len (.ishl))) (h : dm_x sh X Sp K Qp (.ishl) t pc L S u) : dm_G p l e R s m args below meth c D cl cA ad sh A nL Q pc L S u := by
  obtain ⟨⟨hx, hb, hml, hown, hts⟩, hKK, hDD, hA, hret, hlk⟩ := C0
  intro ls H locs hl hP hS
  simp only [dm_x] at h
  split at h
  · exact lv_ishl hx hb hd (hK _ _ _ _ h ls H locs hl hP hS)
  · exact h.elim
theorem dm_T_ishr (C0 : dm_C p s m args meth c cc nL Ts own D cl cA ad sh A rk) (hK : ∀ pc L S u, K pc L S u → dm_G p l e R s m args below meth c D cl cA ad sh A nL Q pc L S u) (hd : decode cc pc = .ok (.ishr, dm_len (.ishr))) (h : dm_x sh X Sp K Qp (.ishr) t pc L S u) : dm_G p l e R s m args below meth c D cl cA ad sh A nL Q pc L S u := by
  obtain ⟨⟨hx, hb, hml, hown, hts⟩, hKK, hDD, hA, hret, hlk⟩ := C0
  intro ls H locs hl hP hS
  simp only [dm_x] at h
  split at h
  · exact lv_ishr hx hb hd (hK _ _ _ _ h ls H locs hl hP hS)
  · exact h.elim
theorem dm_T_ladd (C0 : dm_C p s m args meth c cc nL Ts own D cl cA ad sh A rk) (hK : ∀ pc L S u, K pc L S u → dm_G p l e R s m args below meth c D cl cA ad sh A nL Q pc L S u) (hd : decode cc pc = .ok (.ladd, dm_len (.ladd))) (h : dm_x sh X Sp K Qp (.ladd) t pc L S u) : dm_G p l e R s m args below meth c D cl cA ad sh A nL Q pc L S u := by
  obtain ⟨⟨hx, hb, hml, hown, hts⟩, hKK, hDD, hA, hret, hlk⟩ := C0
  intro ls H locs hl hP hS
  simp only [dm_x] at h
  split at h
  · exact lv_ladd hx hb hd (hK _ _ _ _ h ls H locs hl hP hS)
  · exact h.elim
theorem dm_T_lsub (C0 : dm_C p s m args meth c cc nL Ts own D cl cA ad sh A rk) (hK : ∀ pc L S u, K pc L S u → dm_G p l e R s m args below meth c D cl cA ad sh A nL Q pc L S u) (hd : decode cc pc = .ok (.lsub, dm_len (.lsub))) (h : dm_x sh X Sp K Qp (.lsub) t pc L S u) : dm_G p l e R s m args below meth c D cl cA ad sh A nL Q pc L S u := by
  obtain ⟨⟨hx, hb, hml, hown, hts⟩, hKK, hDD, hA, hret, hlk⟩ := C0
  intro ls H locs hl hP hS
  simp only [dm_x] at h
  split at h
  · exact lv_lsub hx hb hd (hK _ _ _ _ h ls H locs hl hP hS)
  · exact h.elim
theorem dm_T_lmul (C0 : dm_C p s m args meth c cc nL Ts own D cl cA ad sh A rk) (hK : ∀ pc L S u, K pc L S u → dm_G p l e R s m args below meth c D cl cA ad sh A nL Q pc L S u) (hd : decode cc pc = .ok (.lmul, dm_len (.lmul))) (h : dm_x sh X Sp K Qp (.lmul) t pc L S u) : dm_G p l e R s m args below meth c D cl cA ad sh A nL Q pc L S u := by
  obtain ⟨⟨hx, hb, hml, hown, hts⟩, hKK, hDD, hA, hret, hlk⟩ := C0
  intro ls H locs hl hP hS
  simp only [dm_x] at h
  split at h
  · exact lv_lmul hx hb hd (hK _ _ _ _ h ls H locs hl hP hS)
  · exact h.elim
theorem dm_T_lneg (C0 : dm_C p s m args meth c cc nL Ts own D cl cA ad sh A rk) (hK : ∀ pc L S u, K pc L S u → dm_G p l e R s m args below meth c D cl cA ad sh A nL Q pc L S u) (hd : decode cc pc = .ok (.lneg, dm_len (.lneg))) (h : dm_x sh X Sp K Qp (.lneg) t pc L S u) : dm_G p l e R s m args below meth c D cl cA ad sh A nL Q pc L S u := by
  obtain ⟨⟨hx, hb, hml, hown, hts⟩, hKK, hDD, hA, hret, hlk⟩ := C0
  intro ls H locs hl hP hS
  simp only [dm_x] at h
  split at h
  · exact lv_lneg hx hb hd (hK _ _ _ _ h ls H locs hl hP hS)
  · exact h.elim
theorem dm_T_iushr (C0 : dm_C p s m args meth c cc nL Ts own D cl cA ad sh A rk) (hK : ∀ pc L S u, K pc L S u → dm_G p l e R s m args below meth c D cl cA ad sh A nL Q pc L S u) (hd : decode cc pc = .ok (.iushr, dm_len (.iushr))) (h : dm_x sh X Sp K Qp (.iushr) t pc L S u) : dm_G p l e R s m args below meth c D cl cA ad sh A nL Q pc L S u := by
  obtain ⟨⟨hx, hb, hml, hown, hts⟩, hKK, hDD, hA, hret, hlk⟩ := C0
  intro ls H locs hl hP hS
  simp only [dm_x] at h
  split at h
  · exact lv_iushr hx hb hd rfl (hK _ _ _ _ h ls H locs hl hP hS)
  · exact h.elim
theorem dm_T_i2l (C0 : dm_C p s m args meth c cc nL Ts own D cl cA ad sh A rk) (hK : ∀ pc L S u, K pc L S u → dm_G p l e R s m args below meth c D cl cA ad sh A nL Q pc L S u) (hd : decode cc pc = .ok (.i2l, dm_len (.i2l))) (h : dm_x sh X Sp K Qp (.i2l) t pc L S u) : dm_G p l e R s m args below meth c D cl cA ad sh A nL Q pc L S u := by
  obtain ⟨⟨hx, hb, hml, hown, hts⟩, hKK, hDD, hA, hret, hlk⟩ := C0
  intro ls H locs hl hP hS
  simp only [dm_x] at h
  split at h
  · exact lv_i2l hx hb hd rfl (hK _ _ _ _ h ls H locs hl hP hS)
  · exact h.elim
theorem dm_T_l2i (C0 : dm_C p s m args meth c cc nL Ts own D cl cA ad sh A rk) (hK : ∀ pc L S u, K pc L S u → dm_G p l e R s m args below meth c D cl cA ad sh A nL Q pc L S u) (hd : decode cc pc = .ok (.l2i, dm_len (.l2i))) (h : dm_x sh X Sp K Qp (.l2i) t pc L S u) : dm_G p l e R s m args below meth c D cl cA ad sh A nL Q pc L S u := by
  obtain ⟨⟨hx, hb, hml, hown, hts⟩, hKK, hDD, hA, hret, hlk⟩ := C0
  intro ls H locs hl hP hS
  simp only [dm_x] at h
  split at h
  · exact lv_l2i hx hb hd rfl (hK _ _ _ _ h ls H locs hl hP hS)
  · exact h.elim
theorem dm_T_lshr (C0 : dm_C p s m args meth c cc nL Ts own D cl cA ad sh A rk) (hK : ∀ pc L S u, K pc L S u → dm_G p l e R s m args below meth c D cl cA ad sh A nL Q pc L S u) (hd : decode cc pc = .ok (.lshr, dm_len (.lshr))) (h : dm_x sh X Sp K Qp (.lshr) t pc L S u) : dm_G p l e R s m args below meth c D cl cA ad sh A nL Q pc L S u := by
  obtain ⟨⟨hx, hb, hml, hown, hts⟩, hKK, hDD, hA, hret, hlk⟩ := C0
  intro ls H locs hl hP hS
  simp only [dm_x] at h
  split at h
  · exact lv_lshr hx hb hd rfl (hK _ _ _ _ h ls H locs hl hP hS)
  · exact h.elim
theorem dm_T_idiv (C0 : dm_C p s m args meth c cc nL Ts own D cl cA ad sh A rk) (hK : ∀ pc L S u, K pc L S u → dm_G p l e R s m args below meth c D cl cA ad sh A nL Q pc L S u) (hd : decode cc pc = .ok (.idiv, dm_len (.idiv))) (h : dm_x sh X Sp K Qp (.idiv) t pc L S u) : dm_G p l e R s m args below meth c D cl cA ad sh A nL Q pc L S u := by
  obtain ⟨⟨hx, hb, hml, hown, hts⟩, hKK, hDD, hA, hret, hlk⟩ := C0
  intro ls H locs hl hP hS
  simp only [dm_x] at h
  split at h
  · exact lv_idiv hx hb hd h.1 (hK _ _ _ _ h.2 ls H locs hl hP hS)
  · exact h.elim
theorem dm_T_irem (C0 : dm_C p s m args meth c cc nL Ts own D cl cA ad sh A rk) (hK : ∀ pc L S u, K pc L S u → dm_G p l e R s m args below meth c D cl cA ad sh A nL Q pc L S u) (hd : decode cc pc = .ok (.irem, dm_len (.irem))) (h : dm_x sh X Sp K Qp (.irem) t pc L S u) : dm_G p l e R s m args below meth c D cl cA ad sh A nL Q pc L S u := by
  obtain ⟨⟨hx, hb, hml, hown, hts⟩, hKK, hDD, hA, hret, hlk⟩ := C0
  intro ls H locs hl hP hS
  simp only [dm_x] at h
  split at h
  · exact lv_irem hx hb hd h.1 (hK _ _ _ _ h.2 ls H locs hl hP hS)
  · exact h.elim
theorem dm_T_lcmp (C0 : dm_C p s m args meth c cc nL Ts own D cl cA ad sh A rk) (hK : ∀ pc L S u, K pc L S u → dm_G p l e R s m args below meth c D cl cA ad sh A nL Q pc L S u) (hd : decode cc pc = .ok (.lcmp, dm_len (.lcmp))) (h : dm_x sh X Sp K Qp (.lcmp) t pc L S u) : dm_G p l e R s m args below meth c D cl cA ad sh A nL Q pc L S u := by
  obtain ⟨⟨hx, hb, hml, hown, hts⟩, hKK, hDD, hA, hret, hlk⟩ := C0
  intro ls H locs hl hP hS
  simp only [dm_x] at h
  split at h
  · exact W.lcmp hx hb hd (hK _ _ _ _ h ls H locs hl hP hS)
  · exact h.elim
theorem dm_T_dup (C0 : dm_C p s m args meth c cc nL Ts own D cl cA ad sh A rk) (hK : ∀ pc L S u, K pc L S u → dm_G p l e R s m args below meth c D cl cA ad sh A nL Q pc L S u) (hd : decode cc pc = .ok (.dup, dm_len (.dup))) (h : dm_x sh X Sp K Qp (.dup) t pc L S u) : dm_G p l e R s m args below meth c D cl cA ad sh A nL Q pc L S u := by
  obtain ⟨⟨hx, hb, hml, hown, hts⟩, hKK, hDD, hA, hret, hlk⟩ := C0
  intro ls H locs hl hP hS
  simp only [dm_x] at h
  split at h
  · exact lv_dup hx hb hd rfl (hK _ _ _ _ h ls H locs hl hP hS)
  · exact lv_dup hx hb hd rfl (hK _ _ _ _ h ls H locs hl hP hS)
  · exact h.elim
theorem dm_T_pop (C0 : dm_C p s m args meth c cc nL Ts own D cl cA ad sh A rk) (hK : ∀ pc L S u, K pc L S u → dm_G p l e R s m args below meth c D cl cA ad sh A nL Q pc L S u) (hd : decode cc pc = .ok (.pop, dm_len (.pop))) (h : dm_x sh X Sp K Qp (.pop) t pc L S u) : dm_G p l e R s m args below meth c D cl cA ad sh A nL Q pc L S u := by
  obtain ⟨⟨hx, hb, hml, hown, hts⟩, hKK, hDD, hA, hret, hlk⟩ := C0
  intro ls H locs hl hP hS
  simp only [dm_x] at h
  split at h
  · exact lv_pop hx hb hd rfl (hK _ _ _ _ h ls H locs hl hP hS)
  · exact lv_pop hx hb hd rfl (hK _ _ _ _ h ls H locs hl hP hS)
  · exact h.elim
theorem dm_T_dup2 (C0 : dm_C p s m args meth c cc nL Ts own D cl cA ad sh A rk) (hK : ∀ pc L S u, K pc L S u → dm_G p l e R s m args below meth c D cl cA ad sh A nL Q pc L S u) (hd : decode cc pc = .ok (.dup2, dm_len (.dup2))) (h : dm_x sh X Sp K Qp (.dup2) t pc L S u) : dm_G p l e R s m args below meth c D cl cA ad sh A nL Q pc L S u := by
  obtain ⟨⟨hx, hb, hml, hown, hts⟩, hKK, hDD, hA, hret, hlk⟩ := C0
  intro ls H locs hl hP hS
  simp only [dm_x] at h
  split at h
  · exact lv_dup2_11 hx hb hd rfl rfl (hK _ _ _ _ h ls H locs hl hP hS)
  · exact lv_dup2_2 hx hb hd rfl (hK _ _ _ _ h ls H locs hl hP hS)
  · exact h.elim
theorem dm_T_iaload (C0 : dm_C p s m args meth c cc nL Ts own D cl cA ad sh A rk) (hK : ∀ pc L S u, K pc L S u → dm_G p l e R s m args below meth c D cl cA ad sh A nL Q pc L S u) (hd : decode cc pc = .ok (.iaload, dm_len (.iaload))) (h : dm_x sh X Sp K Qp (.iaload) t pc L S u) : dm_G p l e R s m args below meth c D cl cA ad sh A nL Q pc L S u := by
  obtain ⟨⟨hx, hb, hml, hown, hts⟩, hKK, hDD, hA, hret, hlk⟩ := C0
  intro ls H locs hl hP hS
  simp only [dm_x] at h
  split at h
  · rename_i j c0 S'
    split at h
    · rename_i n hc
      exact va_iald hx hb hKK hP c0 0 (dm_w_at hc) rfl h.1 hd (hK _ _ _ _ h.2 ls H locs hl hP hS)
    · exact h.elim
  · exact h.elim
theorem dm_T_baload (C0 : dm_C p s m args meth c cc nL Ts own D cl cA ad sh A rk) (hK : ∀ pc L S u, K pc L S u → dm_G p l e R s m args below meth c D cl cA ad sh A nL Q pc L S u) (hd : decode cc pc = .ok (.baload, dm_len (.baload))) (h : dm_x sh X Sp K Qp (.baload) t pc L S u) : dm_G p l e R s m args below meth c D cl cA ad sh A nL Q pc L S u := by
  obtain ⟨⟨hx, hb, hml, hown, hts⟩, hKK, hDD, hA, hret, hlk⟩ := C0
  intro ls H locs hl hP hS
  simp only [dm_x] at h
  split at h
  · rename_i j c0 S'
    split at h
    · rename_i n hc
      exact va_zald hx hb hKK hP c0 2 (dm_w_at hc) rfl h.1 hd (hK _ _ _ _ h.2 ls H locs hl hP hS)
    · exact h.elim
  · exact h.elim
theorem dm_T_laload (C0 : dm_C p s m args meth c cc nL Ts own D cl cA ad sh A rk) (hK : ∀ pc L S u, K pc L S u → dm_G p l e R s m args below meth c D cl cA ad sh A nL Q pc L S u) (hd : decode cc pc = .ok (.laload, dm_len (.laload))) (h : dm_x sh X Sp K Qp (.laload) t pc L S u) : dm_G p l e R s m args below meth c D cl cA ad sh A nL Q pc L S u := by
  obtain ⟨⟨hx, hb, hml, hown, hts⟩, hKK, hDD, hA, hret, hlk⟩ := C0
  intro ls H locs hl hP hS
  simp only [dm_x] at h
  split at h
  · rename_i j c0 S'
    split at h
    · rename_i n hc
      exact va_lald hx hb hKK hP c0 1 (dm_w_at hc) rfl h.1 hd (hK _ _ _ _ h.2 ls H locs hl hP hS)
    · exact h.elim
  · exact h.elim
theorem dm_T_iastore (C0 : dm_C p s m args meth c cc nL Ts own D cl cA ad sh A rk) (hK : ∀ pc L S u, K pc L S u → dm_G p l e R s m args below meth c D cl cA ad sh A nL Q pc L S u) (hd : decode cc pc = .ok (.iastore, dm_len (.iastore))) (h : dm_x sh X Sp K Qp (.iastore) t pc L S u) : dm_G p l e R s m args below meth c D cl cA ad sh A nL Q pc L S u := by
  obtain ⟨⟨hx, hb, hml, hown, hts⟩, hKK, hDD, hA, hret, hlk⟩ := C0
  intro ls H locs hl hP hS
  simp only [dm_x] at h
  split at h
  · rename_i x j c0 S'
    split at h
    · rename_i n hc
      refine va_iast hx hb hKK hP (hDD u) hS c0 0 (dm_w_at hc) rfl h.1 hd (fun H1 locs1 hP1 _ hS1 => hK _ _ _ _ h.2 ls H1 locs1 hl ?_ hS1)
      rw [dm_w_set (u := u) (u' := dm_ui u c0 j.toNatClampNeg x) hc (fun c' hn => by simp [dm_ui, hn]) (fun c' hn => by simp [dm_ui, hn])]
      simpa [dm_en, dm_ui] using hP1
    · exact h.elim
  · exact h.elim
theorem dm_T_lastore (C0 : dm_C p s m args meth c cc nL Ts own D cl cA ad sh A rk) (hK : ∀ pc L S u, K pc L S u → dm_G p l e R s m args below meth c D cl cA ad sh A nL Q pc L S u) (hd : decode cc pc = .ok (.lastore, dm_len (.lastore))) (h : dm_x sh X Sp K Qp (.lastore) t pc L S u) : dm_G p l e R s m args below meth c D cl cA ad sh A nL Q pc L S u := by
  obtain ⟨⟨hx, hb, hml, hown, hts⟩, hKK, hDD, hA, hret, hlk⟩ := C0
  intro ls H locs hl hP hS
  simp only [dm_x] at h
  split at h
  · rename_i x j c0 S'
    split at h
    · rename_i n hc
      refine va_last hx hb hKK hP (hDD u) hS c0 1 (dm_w_at hc) rfl h.1 hd (fun H1 locs1 hP1 _ hS1 => hK _ _ _ _ h.2 ls H1 locs1 hl ?_ hS1)
      rw [dm_w_set (u := u) (u' := dm_ul u c0 j.toNatClampNeg x) hc (fun c' hn => by simp [dm_ul, hn]) (fun c' hn => by simp [dm_ul, hn])]
      simpa [dm_en, dm_ul] using hP1
    · exact h.elim
  · exact h.elim
theorem dm_T_bastore (C0 : dm_C p s m args meth c cc nL Ts own D cl cA ad sh A rk) (hK : ∀ pc L S u, K pc L S u → dm_G p l e R s m args below meth c D cl cA ad sh A nL Q pc L S u) (hd : decode cc pc = .ok (.bastore, dm_len (.bastore))) (h : dm_x sh X Sp K Qp (.bastore) t pc L S u) : dm_G p l e R s m args below meth c D cl cA ad sh A nL Q pc L S u := by
  obtain ⟨⟨hx, hb, hml, hown, hts⟩, hKK, hDD, hA, hret, hlk⟩ := C0
  intro ls H locs hl hP hS
  simp only [dm_x] at h
  split at h
  · rename_i x j c0 S'
    split at h
    · rename_i n hc
      refine va_zast hx hb hKK hP (hDD u) hS c0 2 (dm_w_at hc) rfl h.2.1 hd (fun H1 locs1 hP1 _ hS1 => hK _ _ _ _ h.2.2 ls H1 locs1 hl ?_ hS1)
      rw [h.1] at hP1
      rw [dm_w_set (u := u) (u' := dm_ui u c0 j.toNatClampNeg x) hc (fun c' hn => by simp [dm_ui, hn]) (fun c' hn => by simp [dm_ui, hn])]
      simpa [dm_en, dm_ui] using hP1
    · exact h.elim
  · exact h.elim
theorem dm_T_arraylength (C0 : dm_C p s m args meth c cc nL Ts own D cl cA ad sh A rk) (hK : ∀ pc L S u, K pc L S u → dm_G p l e R s m args below meth c D cl cA ad sh A nL Q pc L S u) (hd : decode cc pc = .ok (.arraylength, dm_len (.arraylength))) (h : dm_x sh X Sp K Qp (.arraylength) t pc L S u) : dm_G p l e R s m args below meth c D cl cA ad sh A nL Q pc L S u := by
  obtain ⟨⟨hx, hb, hml, hown, hts⟩, hKK, hDD, hA, hret, hlk⟩ := C0
  intro ls H locs hl hP hS
  simp only [dm_x] at h
  split at h
  · rename_i c0 S'
    split at h
    · rename_i k n hc
      obtain ⟨hk3, h⟩ := h
      have hw := dm_w_at (ad := ad) (cA := cA) (u := u) hc
      have hk : k = 0 ∨ k = 1 ∨ k = 2 := by omega
      rcases hk with rfl | rfl | rfl
      · exact va_alen hx hb hKK hP c0 0 hw rfl rfl hd (hK _ _ _ _ h ls H locs hl hP hS)
      · exact va_alen hx hb hKK hP c0 1 hw rfl rfl hd (hK _ _ _ _ h ls H locs hl hP hS)
      · exact va_alen hx hb hKK hP c0 2 hw rfl rfl hd (hK _ _ _ _ h ls H locs hl hP hS)
    · exact h.elim
  · exact h.elim
theorem dm_T_getfield (C0 : dm_C p s m args meth c cc nL Ts own D cl cA ad sh A rk) (hK : ∀ pc L S u, K pc L S u → dm_G p l e R s m args below meth c D cl cA ad sh A nL Q pc L S u) (hF : dm_FO Ts own cl X) {j : Nat} (hd : decode cc pc = .ok (.getfield j, dm_len (.getfield j))) (h : dm_x sh X Sp K Qp (.getfield j) t pc L S u) : dm_G p l e R s m args below meth c D cl cA ad sh A nL Q pc L S u := by
  obtain ⟨⟨hx, hb, hml, hown, hts⟩, hKK, hDD, hA, hret, hlk⟩ := C0
  intro ls H locs hl hP hS
  simp only [dm_x] at h
  split at h
  · rename_i c0 S'
    split at h
    · rename_i ci k hj
      split at h
      · rename_i ci' fs hc
        obtain ⟨rfl, h⟩ := h
        obtain ⟨C, T, N, ty0, hcl, hkN, hin, hlk, -, -⟩ := hF j ci k hj
        have hw := dm_w_at (ad := ad) (cA := cA) (u := u) hc
        have hfs : ∀ f, fs[k]? = some f → (fs.mapIdx (fun k f => dm_fv ad u c0 k f))[k]? = some (dm_fv ad u c0 k f) := fun f hf => by simp [List.getElem?_mapIdx, hf]
        split at h
        · rename_i hf
          exact va_get hx hb hts hin hown hKK hP c0 hw hcl k hkN (hts _ hlk) (fun _ h9 => h9) (hfs _ hf) hd (hK _ _ _ _ h ls H locs hl hP hS)
        · rename_i hf
          exact va_get hx hb hts hin hown hKK hP c0 hw hcl k hkN (hts _ hlk) (fun _ h9 => h9) (hfs _ hf) hd (hK _ _ _ _ h ls H locs hl hP hS)
        · rename_i hf
          exact va_get hx hb hts hin hown hKK hP c0 hw hcl k hkN (hts _ hlk) (fun _ h9 => h9) (hfs _ hf) hd (hK _ _ _ _ h ls H locs hl hP hS)
        · rename_i hf
          exact va_get hx hb hts hin hown hKK hP c0 hw hcl k hkN (hts _ hlk) (fun _ h9 => h9) (hfs _ hf) hd (hK _ _ _ _ h ls H locs hl hP hS)
        · exact h.elim
      · exact h.elim
    · exact h.elim
  · exact h.elim
theorem dm_en_puti {c0 ci k f : Nat} {fs : List Nat} {x : Int32} (hf : fs[k]? = some f) (h : f = 0 ∨ f = 2) : dm_en ad cA (dm_ui u c0 k x) c0 (.inr (ci, fs)) = .inr (ci, (fs.mapIdx (fun k f => dm_fv ad u c0 k f)).set k (.int x)) := by
  simp only [dm_en]
  congr 2
  apply List.ext_getElem?
  intro i
  by_cases hi : i = k
  · subst hi
    rw [List.getElem?_set_self (by simpa using (List.getElem?_eq_some_iff.mp hf).1), List.getElem?_mapIdx, hf]
    rcases h with rfl | rfl <;> simp [dm_fv, dm_ui, upd]
  · rw [List.getElem?_set_ne (fun q => hi q.symm), List.getElem?_mapIdx, List.getElem?_mapIdx]
    congr 1
    funext g
    unfold dm_fv
    split <;> simp [dm_ui, upd, hi]
theorem dm_en_putl {c0 ci k f : Nat} {fs : List Nat} {x : Int64} (hf : fs[k]? = some f) (h : f = 1) : dm_en ad cA (dm_ul u c0 k x) c0 (.inr (ci, fs)) = .inr (ci, (fs.mapIdx (fun k f => dm_fv ad u c0 k f)).set k (.long x)) := by
  simp only [dm_en]
  congr 2
  apply List.ext_getElem?
  intro i
  by_cases hi : i = k
  · subst hi
    rw [List.getElem?_set_self (by simpa using (List.getElem?_eq_some_iff.mp hf).1), List.getElem?_mapIdx, hf]
    subst h
    simp [dm_fv, dm_ul, vp_updL]
  · rw [List.getElem?_set_ne (fun q => hi q.symm), List.getElem?_mapIdx, List.getElem?_mapIdx]
    congr 1
    funext g
    unfold dm_fv
    split <;> simp [dm_ul, vp_updL, hi]
theorem dm_T_putfield (C0 : dm_C p s m args meth c cc nL Ts own D cl cA ad sh A rk) (hK : ∀ pc L S u, K pc L S u → dm_G p l e R s m args below meth c D cl cA ad sh A nL Q pc L S u) (hF : dm_FO Ts own cl X) (hSO : dm_SO cl sh) {j : Nat} (hd : decode cc pc = .ok (.putfield j, dm_len (.putfield j))) (h : dm_x sh X Sp K Qp (.putfield j) t pc L S u) : dm_G p l e R s m args below meth c D cl cA ad sh A nL Q pc L S u := by
  obtain ⟨⟨hx, hb, hml, hown, hts⟩, hKK, hDD, hA, hret, hlk⟩ := C0
  intro ls H locs hl hP hS
  simp only [dm_x] at h
  split at h
  · rename_i x c0 S'
    split at h
    · rename_i ci k hj
      split at h
      · rename_i ci' fs hc
        obtain ⟨rfl, h⟩ := h
        obtain ⟨C, T, N, ty0, hcl, hkN, hin, hlk, hty, hnm⟩ := hF j ci k hj
        have hw := dm_w_at (ad := ad) (cA := cA) (u := u) hc
        split at h
        · rename_i hf
          refine va_put (ty := .int) hx hb hts hin ty0 hty hnm hown hKK hP (hDD u) hS c0 hw hcl k hkN (hts _ hlk) (fun _ h9 => h9) ((hSO c0 ci fs hc C T N hcl k _ hf).1 rfl).1 ((hSO c0 ci fs hc C T N hcl k _ hf).1 rfl).2 rfl rfl (by simpa using (List.getElem?_eq_some_iff.mp hf).1) hd (fun H1 locs1 hP1 _ hS1 => hK _ _ _ _ h ls H1 locs1 hl ?_ hS1)
          rw [dm_w_set (u := u) (u' := dm_ui u c0 k x) hc (fun c' hn => by simp [dm_ui, hn]) (fun c' hn => by simp [dm_ui, hn])]
          rw [show dm_en ad cA (dm_ui u c0 k x) c0 (.inr (ci, fs)) = .inr (ci, (fs.mapIdx (fun k f => dm_fv ad u c0 k f)).set k (.int x)) from dm_en_puti hf (by decide)]
          exact hP1
        · rename_i hf
          refine va_put (ty := .boolean) hx hb hts hin ty0 hty hnm hown hKK hP (hDD u) hS c0 hw hcl k hkN (hts _ hlk) (fun _ h9 => h9) ((hSO c0 ci fs hc C T N hcl k _ hf).2.2 rfl).1 ((hSO c0 ci fs hc C T N hcl k _ hf).2.2 rfl).2 h.1.1 h.1.2 (by simpa using (List.getElem?_eq_some_iff.mp hf).1) hd (fun H1 locs1 hP1 _ hS1 => hK _ _ _ _ h.2 ls H1 locs1 hl ?_ hS1)
          rw [dm_w_set (u := u) (u' := dm_ui u c0 k x) hc (fun c' hn => by simp [dm_ui, hn]) (fun c' hn => by simp [dm_ui, hn])]
          rw [show dm_en ad cA (dm_ui u c0 k x) c0 (.inr (ci, fs)) = .inr (ci, (fs.mapIdx (fun k f => dm_fv ad u c0 k f)).set k (.int x)) from dm_en_puti hf (by decide)]
          exact hP1
        · exact h.elim
      · exact h.elim
    · exact h.elim
  · rename_i x c0 S'
    split at h
    · rename_i ci k hj
      split at h
      · rename_i ci' fs hc
        obtain ⟨rfl, h⟩ := h
        obtain ⟨C, T, N, ty0, hcl, hkN, hin, hlk, hty, hnm⟩ := hF j ci k hj
        have hw := dm_w_at (ad := ad) (cA := cA) (u := u) hc
        split at h
        · rename_i hf
          refine va_put (ty := .long) hx hb hts hin ty0 hty hnm hown hKK hP (hDD u) hS c0 hw hcl k hkN (hts _ hlk) (fun _ h9 => h9) ((hSO c0 ci fs hc C T N hcl k _ hf).2.1 rfl).1 ((hSO c0 ci fs hc C T N hcl k _ hf).2.1 rfl).2 rfl rfl (by simpa using (List.getElem?_eq_some_iff.mp hf).1) hd (fun H1 locs1 hP1 _ hS1 => hK _ _ _ _ h ls H1 locs1 hl ?_ hS1)
          rw [dm_w_set (u := u) (u' := dm_ul u c0 k x) hc (fun c' hn => by simp [dm_ul, hn]) (fun c' hn => by simp [dm_ul, hn])]
          rw [show dm_en ad cA (dm_ul u c0 k x) c0 (.inr (ci, fs)) = .inr (ci, (fs.mapIdx (fun k f => dm_fv ad u c0 k f)).set k (.long x)) from dm_en_putl hf (by decide)]
          exact hP1
        · exact h.elim
      · exact h.elim
    · exact h.elim
  · exact h.elim
end DMT
