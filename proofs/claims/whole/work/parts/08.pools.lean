/-! ===== the tables' words, by their places ===== -/
def dm_tt : List Cond := lw_tbl.filter goodWord
theorem dm_mem {ws : List Cond} (ps : List Nat) (hp : ws = ps.filterMap (fun i => lw_tbl[i]?)) (hg : ws.all goodWord = true) : ∀ w ∈ ws, w ∈ dm_tt := by
  intro w hw
  refine List.mem_filter.mpr ⟨?_, List.all_eq_true.mp hg w hw⟩
  rw [hp] at hw
  obtain ⟨i, -, hi⟩ := List.mem_filterMap.mp hw
  exact List.mem_of_getElem? hi
theorem dm_goodIn {ws big : List Cond} (hb : ∀ w ∈ dm_tt, w ∈ big) (h : ∀ w ∈ ws, w ∈ dm_tt) : GoodIn big ws := fun w hw => ⟨hb w (h w hw), good_of_word (List.mem_filter.mp (h w hw)).2⟩
theorem dm_lookup_mem {α : Type} {tbl : List (Nat × α)} {j : Nat} {v : α} (h : tbl.lookup j = some v) : (j, v) ∈ tbl := by
  induction tbl with
  | nil => cases h
  | cons q tbl ih =>
    obtain ⟨k, w⟩ := q
    rw [List.lookup_cons] at h
    by_cases e : j = k
    · subst e
      simp at h
      subst h
      exact List.mem_cons_self
    · have : (j == k) = false := by simpa using e
      rw [this] at h
      exact List.mem_cons_of_mem _ (ih h)
set_option maxRecDepth 100000 in
theorem dm_u0 : ∀ w ∈ u_ws RX0 TX0 4, w ∈ dm_tt := dm_mem [378, 380, 382, 384] (by decide +kernel) (by decide +kernel)
set_option maxRecDepth 100000 in
theorem dm_u1 : ∀ w ∈ u_ws RX1 TX1 11, w ∈ dm_tt := dm_mem [197, 199, 201, 203, 205, 207, 209, 211, 213, 215, 217] (by decide +kernel) (by decide +kernel)
set_option maxRecDepth 100000 in
theorem dm_u2 : ∀ w ∈ u_ws RX2 TX2 11, w ∈ dm_tt := dm_mem [137, 139, 141, 143, 145, 147, 149, 151, 153, 155, 157] (by decide +kernel) (by decide +kernel)
set_option maxRecDepth 100000 in
theorem dm_u3 : ∀ w ∈ u_ws RX3 TX3 5, w ∈ dm_tt := dm_mem [419, 421, 423, 425, 427] (by decide +kernel) (by decide +kernel)
set_option maxRecDepth 100000 in
theorem dm_u4 : ∀ w ∈ u_ws RX4 TX4 7, w ∈ dm_tt := dm_mem [323, 325, 327, 329, 331, 333, 335] (by decide +kernel) (by decide +kernel)
set_option maxRecDepth 100000 in
theorem dm_u5 : ∀ w ∈ u_ws RX5 TX5 5, w ∈ dm_tt := dm_mem [299, 301, 303, 305, 307] (by decide +kernel) (by decide +kernel)
set_option maxRecDepth 100000 in
theorem dm_u6 : ∀ w ∈ u_ws RX6 TX6 7, w ∈ dm_tt := dm_mem [351, 353, 355, 357, 359, 361, 363] (by decide +kernel) (by decide +kernel)
set_option maxRecDepth 100000 in
theorem dm_u7 : ∀ w ∈ u_ws RX7 TX7 7, w ∈ dm_tt := dm_mem [272, 274, 276, 278, 280, 282, 284] (by decide +kernel) (by decide +kernel)
set_option maxRecDepth 100000 in
theorem dm_u8 : ∀ w ∈ u_ws RX8 TX8 3, w ∈ dm_tt := dm_mem [398, 400, 402] (by decide +kernel) (by decide +kernel)
set_option maxRecDepth 100000 in
theorem dm_u9 : ∀ w ∈ u_ws RX9 TX9 7, w ∈ dm_tt := dm_mem [243, 245, 247, 249, 251, 253, 255] (by decide +kernel) (by decide +kernel)
set_option maxRecDepth 100000 in
theorem dm_u10 : ∀ w ∈ u_ws RX10 TX10 11, w ∈ dm_tt := dm_mem [441, 443, 445, 447, 449, 451, 453, 455, 457, 459, 461] (by decide +kernel) (by decide +kernel)
set_option maxRecDepth 100000 in
theorem dm_u11 : ∀ w ∈ u_ws RX11 TX11 37, w ∈ dm_tt := dm_mem [989, 991, 993, 995, 997, 999, 1001, 1003, 1005, 1007, 1009, 1011, 1013, 1015, 1017, 1019, 1021, 1023, 1025, 1027, 1029, 1031, 1033, 1035, 1037, 1039, 1041, 1043, 1045, 1047, 1049, 1051, 1053, 1055, 1057, 1059, 1061] (by decide +kernel) (by decide +kernel)
theorem dm_cls : ∀ (ci : Nat) (C : String) (T : u_T) (N : Nat), dm_cl[ci]? = some (C, T, N) → ∃ ty0 : Nat → FieldType, (∀ w ∈ u_ws C T N, w ∈ dm_tt) ∧ (∀ k, k < N → parseFieldDescriptor (T k).2.2.1 = some (ty0 k)) ∧ (∀ a, a < N → ∀ b, b < N → a ≠ b → (T a).2.1 ≠ (T b).2.1) := by
  intro ci C T N h
  match ci, h with
  | 0, h => cases h; exact ⟨tyX0, dm_u0, tyX0_ok, nmX0⟩
  | 1, h => cases h; exact ⟨tyX1, dm_u1, tyX1_ok, nmX1⟩
  | 2, h => cases h; exact ⟨tyX2, dm_u2, tyX2_ok, nmX2⟩
  | 3, h => cases h; exact ⟨tyX3, dm_u3, tyX3_ok, nmX3⟩
  | 4, h => cases h; exact ⟨tyX4, dm_u4, tyX4_ok, nmX4⟩
  | 5, h => cases h; exact ⟨tyX5, dm_u5, tyX5_ok, nmX5⟩
  | 6, h => cases h; exact ⟨tyX6, dm_u6, tyX6_ok, nmX6⟩
  | 7, h => cases h; exact ⟨tyX7, dm_u7, tyX7_ok, nmX7⟩
  | 8, h => cases h; exact ⟨tyX8, dm_u8, tyX8_ok, nmX8⟩
  | 9, h => cases h; exact ⟨tyX9, dm_u9, tyX9_ok, nmX9⟩
  | 10, h => cases h; exact ⟨tyX10, dm_u10, tyX10_ok, nmX10⟩
  | 11, h => cases h; exact ⟨tyX11, dm_u11, tyX11_ok, nmX11⟩
  | k + 12, h => simp at h
def dm_fl (own : String) (q : Nat × Nat × Nat) : Cond := match dm_cl[q.2.1]? with
  | some (_, T, _) => .fieldLink own q.1 (T q.2.2).1 (T q.2.2).2.1 (T q.2.2).2.2.1
  | none => .initialized own
def dm_ff (own : String) (q : Nat × Nat × Nat) : Prop := ∃ (C : String) (T : u_T) (N : Nat) (ty0 : Nat → FieldType), dm_cl[q.2.1]? = some (C, T, N) ∧ q.2.2 < N ∧ (∀ w ∈ u_ws C T N, w ∈ dm_tt) ∧ Cond.fieldLink own q.1 (T q.2.2).1 (T q.2.2).2.1 (T q.2.2).2.2.1 ∈ dm_tt ∧ (∀ k, k < N → parseFieldDescriptor (T k).2.2.1 = some (ty0 k)) ∧ (∀ a, a < N → ∀ b, b < N → a ≠ b → (T a).2.1 ≠ (T b).2.1)
theorem dm_ff_of {own : String} (tbl : List (Nat × Nat × Nat)) (hn : tbl.all (fun q => match dm_cl[q.2.1]? with | some (_, _, N) => decide (q.2.2 < N) | none => false) = true) (hm : ∀ w ∈ tbl.map (dm_fl own), w ∈ dm_tt) : ∀ q ∈ tbl, dm_ff own q := by
  intro q h1
  obtain ⟨j, ci, k⟩ := q
  have h2 := List.all_eq_true.mp hn _ h1
  have h3 := hm _ (List.mem_map_of_mem h1)
  simp only [dm_fl] at h2 h3
  cases hc : dm_cl[ci]? with
  | none => rw [hc] at h2; cases h2
  | some q =>
    obtain ⟨C, T, N⟩ := q
    rw [hc] at h2 h3
    obtain ⟨ty0, a1, a2, a3⟩ := dm_cls ci C T N hc
    exact ⟨C, T, N, ty0, hc, by simpa using h2, a1, h3, a2, a3⟩
theorem dm_FO_s {own : String} {Ts : List Cond} {X : dm_X} {big : List (Nat × Nat × Nat)} (hb : ∀ q ∈ big, dm_ff own q) (sub : List (Nat × Nat × Nat)) (hX : X.1 = fun j => sub.lookup j) (hT : ∀ w ∈ dm_tt, w ∈ Ts) (hs : sub.all (fun q => decide (q ∈ big)) = true) : dm_FO Ts own dm_cl X := by
  intro j ci k h
  rw [hX] at h
  have h1 := dm_lookup_mem h
  have h2 := List.all_eq_true.mp hs _ h1
  obtain ⟨C, T, N, ty0, a1, a2, a3, a4, a5, a6⟩ := hb _ (by simpa using h2)
  exact ⟨C, T, N, ty0, a1, a2, fun w hw => hT w (a3 w hw), hT _ a4, a5, a6⟩
theorem dm_IO_s {own : String} {Ts : List Cond} {X : dm_X} {bi : List (Nat × Int32)} {bj : List (Nat × Int64)} (h1 : ∀ w ∈ bi.map (fun q => Cond.constant own q.1 q.2), w ∈ dm_tt) (h2 : ∀ w ∈ bj.map (fun q => Cond.constantLong own q.1 q.2), w ∈ dm_tt) (ti : List (Nat × Int32)) (tj : List (Nat × Int64)) (hX : X.2.1 = fun j => ti.lookup j) (hY : X.2.2.1 = fun j => tj.lookup j) (hT : ∀ w ∈ dm_tt, w ∈ Ts) (hs : ti.all (fun q => decide (q ∈ bi)) = true) (ht : tj.all (fun q => decide (q ∈ bj)) = true) : dm_IO Ts own X := by
  refine ⟨fun j v h => ?_, fun j v h => ?_⟩
  · rw [hX] at h
    have h3 := List.all_eq_true.mp hs _ (dm_lookup_mem h)
    exact hT _ (h1 _ (List.mem_map_of_mem (f := fun q => Cond.constant own q.1 q.2) (a := (j, v)) (by simpa using h3)))
  · rw [hY] at h
    have h3 := List.all_eq_true.mp ht _ (dm_lookup_mem h)
    exact hT _ (h2 _ (List.mem_map_of_mem (f := fun q => Cond.constantLong own q.1 q.2) (a := (j, v)) (by simpa using h3)))
def fpX0 : List (Nat × Nat × Nat) := [(9, 0, 1), (15, 0, 2), (19, 0, 0), (23, 0, 3), (35, 2, 1), (48, 2, 2), (55, 2, 8), (58, 2, 9), (60, 2, 3)]
def ipX0 : List (Nat × Int32) := []
def jpX0 : List (Nat × Int64) := [(68, 1152921504606846976)]
set_option maxRecDepth 100000 in
theorem ffX0 : ∀ q ∈ fpX0, dm_ff RX0 q := dm_ff_of fpX0 (by decide +kernel) (dm_mem [373, 375, 372, 376, 99, 105, 123, 134, 110] (by decide +kernel) (by decide +kernel))
set_option maxRecDepth 100000 in
theorem ifX0 : ∀ w ∈ ipX0.map (fun q => Cond.constant RX0 q.1 q.2), w ∈ dm_tt := dm_mem [] (by decide +kernel) (by decide +kernel)
set_option maxRecDepth 100000 in
theorem jfX0 : ∀ w ∈ jpX0.map (fun q => Cond.constantLong RX0 q.1 q.2), w ∈ dm_tt := dm_mem [664] (by decide +kernel) (by decide +kernel)
def fpX1 : List (Nat × Nat × Nat) := [(9, 1, 1), (15, 1, 2), (18, 1, 3), (21, 1, 4), (25, 1, 5), (28, 1, 6), (31, 1, 7), (34, 1, 8), (37, 1, 9), (40, 1, 0), (44, 1, 10), (48, 2, 9), (53, 2, 5), (56, 2, 1), (59, 2, 2), (66, 2, 6), (69, 2, 7), (89, 2, 8), (92, 2, 0)]
def ipX1 : List (Nat × Int32) := []
def jpX1 : List (Nat × Int64) := []
set_option maxRecDepth 100000 in
theorem ffX1 : ∀ q ∈ fpX1, dm_ff RX1 q := dm_ff_of fpX1 (by decide +kernel) (dm_mem [170, 174, 176, 178, 180, 182, 185, 188, 191, 169, 194, 128, 113, 100, 104, 115, 117, 127, 97] (by decide +kernel) (by decide +kernel))
set_option maxRecDepth 100000 in
theorem ifX1 : ∀ w ∈ ipX1.map (fun q => Cond.constant RX1 q.1 q.2), w ∈ dm_tt := dm_mem [] (by decide +kernel) (by decide +kernel)
set_option maxRecDepth 100000 in
theorem jfX1 : ∀ w ∈ jpX1.map (fun q => Cond.constantLong RX1 q.1 q.2), w ∈ dm_tt := dm_mem [] (by decide +kernel) (by decide +kernel)
def fpX2 : List (Nat × Nat × Nat) := [(9, 2, 0), (15, 2, 1), (19, 2, 2), (22, 2, 3), (26, 2, 4), (29, 2, 5), (32, 2, 6), (35, 2, 7), (38, 2, 8), (42, 2, 9), (59, 2, 10)]
def ipX2 : List (Nat × Int32) := []
def jpX2 : List (Nat × Int64) := [(49, -2), (51, 1000000000), (57, 1000000)]
set_option maxRecDepth 100000 in
theorem ffX2 : ∀ q ∈ fpX2, dm_ff RX2 q := dm_ff_of fpX2 (by decide +kernel) (dm_mem [95, 98, 103, 108, 111, 112, 114, 116, 120, 130, 135] (by decide +kernel) (by decide +kernel))
set_option maxRecDepth 100000 in
theorem ifX2 : ∀ w ∈ ipX2.map (fun q => Cond.constant RX2 q.1 q.2), w ∈ dm_tt := dm_mem [] (by decide +kernel) (by decide +kernel)
set_option maxRecDepth 100000 in
theorem jfX2 : ∀ w ∈ jpX2.map (fun q => Cond.constantLong RX2 q.1 q.2), w ∈ dm_tt := dm_mem [494, 495, 512] (by decide +kernel) (by decide +kernel)
def fpX3 : List (Nat × Nat × Nat) := [(9, 3, 0), (15, 3, 1), (19, 3, 2), (22, 3, 3), (26, 3, 4)]
def ipX3 : List (Nat × Int32) := []
def jpX3 : List (Nat × Int64) := [(30, 1152921504606846976)]
set_option maxRecDepth 100000 in
theorem ffX3 : ∀ q ∈ fpX3, dm_ff RX3 q := dm_ff_of fpX3 (by decide +kernel) (dm_mem [411, 412, 414, 416, 418] (by decide +kernel) (by decide +kernel))
set_option maxRecDepth 100000 in
theorem ifX3 : ∀ w ∈ ipX3.map (fun q => Cond.constant RX3 q.1 q.2), w ∈ dm_tt := dm_mem [] (by decide +kernel) (by decide +kernel)
set_option maxRecDepth 100000 in
theorem jfX3 : ∀ w ∈ jpX3.map (fun q => Cond.constantLong RX3 q.1 q.2), w ∈ dm_tt := dm_mem [888] (by decide +kernel) (by decide +kernel)
def fpX4 : List (Nat × Nat × Nat) := [(9, 4, 3), (15, 4, 4), (19, 4, 5), (23, 4, 6), (26, 4, 0), (30, 4, 1), (34, 4, 2), (48, 1, 10), (79, 1, 7), (95, 2, 8), (109, 1, 8), (112, 1, 9)]
def ipX4 : List (Nat × Int32) := [(47, 1000000)]
def jpX4 : List (Nat × Int64) := [(45, 67108864), (107, 1152921504606846976), (115, 32)]
set_option maxRecDepth 100000 in
theorem ffX4 : ∀ q ∈ fpX4, dm_ff RX4 q := dm_ff_of fpX4 (by decide +kernel) (dm_mem [319, 320, 321, 322, 316, 317, 318, 196, 187, 125, 190, 193] (by decide +kernel) (by decide +kernel))
set_option maxRecDepth 100000 in
theorem ifX4 : ∀ w ∈ ipX4.map (fun q => Cond.constant RX4 q.1 q.2), w ∈ dm_tt := dm_mem [792] (by decide +kernel) (by decide +kernel)
set_option maxRecDepth 100000 in
theorem jfX4 : ∀ w ∈ jpX4.map (fun q => Cond.constantLong RX4 q.1 q.2), w ∈ dm_tt := dm_mem [791, 771, 780] (by decide +kernel) (by decide +kernel)
def fpX5 : List (Nat × Nat × Nat) := [(9, 5, 3), (15, 5, 4), (18, 5, 0), (22, 5, 1), (26, 5, 2), (36, 2, 8), (46, 2, 9), (49, 2, 1), (57, 2, 3), (61, 2, 2), (68, 9, 6), (73, 9, 4), (76, 9, 3), (79, 9, 5), (90, 1, 1), (104, 9, 2)]
def ipX5 : List (Nat × Int32) := []
def jpX5 : List (Nat × Int64) := [(96, -1000000002), (102, 1152921504606846976)]
set_option maxRecDepth 100000 in
theorem ffX5 : ∀ q ∈ fpX5, dm_ff RX5 q := dm_ff_of fpX5 (by decide +kernel) (dm_mem [296, 298, 293, 294, 295, 122, 131, 101, 109, 106, 242, 236, 233, 239, 173, 230] (by decide +kernel) (by decide +kernel))
set_option maxRecDepth 100000 in
theorem ifX5 : ∀ w ∈ ipX5.map (fun q => Cond.constant RX5 q.1 q.2), w ∈ dm_tt := dm_mem [] (by decide +kernel) (by decide +kernel)
set_option maxRecDepth 100000 in
theorem jfX5 : ∀ w ∈ jpX5.map (fun q => Cond.constantLong RX5 q.1 q.2), w ∈ dm_tt := dm_mem [866, 806] (by decide +kernel) (by decide +kernel)
def fpX6 : List (Nat × Nat × Nat) := [(9, 6, 3), (15, 6, 4), (19, 6, 5), (22, 6, 6), (25, 6, 0), (29, 6, 1), (33, 6, 2), (59, 2, 8), (71, 9, 6), (74, 9, 3), (77, 9, 4), (80, 9, 5), (83, 9, 2)]
def ipX6 : List (Nat × Int32) := [(42, 1000000)]
def jpX6 : List (Nat × Int64) := [(65, 1152921504606846976), (106, 1000000000)]
set_option maxRecDepth 100000 in
theorem ffX6 : ∀ q ∈ fpX6, dm_ff RX6 q := dm_ff_of fpX6 (by decide +kernel) (dm_mem [347, 348, 349, 350, 344, 345, 346, 124, 241, 232, 235, 238, 229] (by decide +kernel) (by decide +kernel))
set_option maxRecDepth 100000 in
theorem ifX6 : ∀ w ∈ ipX6.map (fun q => Cond.constant RX6 q.1 q.2), w ∈ dm_tt := dm_mem [687] (by decide +kernel) (by decide +kernel)
set_option maxRecDepth 100000 in
theorem jfX6 : ∀ w ∈ jpX6.map (fun q => Cond.constantLong RX6 q.1 q.2), w ∈ dm_tt := dm_mem [714, 741] (by decide +kernel) (by decide +kernel)
def fpX7 : List (Nat × Nat × Nat) := [(9, 7, 2), (15, 7, 3), (19, 7, 4), (23, 7, 5), (26, 7, 0), (30, 7, 1), (39, 1, 10), (50, 1, 5), (53, 1, 3), (56, 1, 2), (59, 2, 9), (72, 1, 1), (75, 1, 6), (78, 1, 7), (81, 2, 1), (84, 2, 2), (113, 7, 6), (125, 2, 8), (132, 1, 8), (135, 1, 9)]
def ipX7 : List (Nat × Int32) := [(101, 1000000)]
def jpX7 : List (Nat × Int64) := []
set_option maxRecDepth 100000 in
theorem ffX7 : ∀ q ∈ fpX7, dm_ff RX7 q := dm_ff_of fpX7 (by decide +kernel) (dm_mem [266, 267, 269, 270, 264, 265, 195, 181, 177, 175, 133, 172, 184, 186, 102, 107, 271, 126, 189, 192] (by decide +kernel) (by decide +kernel))
set_option maxRecDepth 100000 in
theorem ifX7 : ∀ w ∈ ipX7.map (fun q => Cond.constant RX7 q.1 q.2), w ∈ dm_tt := dm_mem [593] (by decide +kernel) (by decide +kernel)
set_option maxRecDepth 100000 in
theorem jfX7 : ∀ w ∈ jpX7.map (fun q => Cond.constantLong RX7 q.1 q.2), w ∈ dm_tt := dm_mem [] (by decide +kernel) (by decide +kernel)
def fpX8 : List (Nat × Nat × Nat) := [(9, 8, 1), (15, 8, 0), (19, 8, 2), (23, 2, 8)]
def ipX8 : List (Nat × Int32) := []
def jpX8 : List (Nat × Int64) := []
set_option maxRecDepth 100000 in
theorem ffX8 : ∀ q ∈ fpX8, dm_ff RX8 q := dm_ff_of fpX8 (by decide +kernel) (dm_mem [394, 393, 396, 121] (by decide +kernel) (by decide +kernel))
set_option maxRecDepth 100000 in
theorem ifX8 : ∀ w ∈ ipX8.map (fun q => Cond.constant RX8 q.1 q.2), w ∈ dm_tt := dm_mem [] (by decide +kernel) (by decide +kernel)
set_option maxRecDepth 100000 in
theorem jfX8 : ∀ w ∈ jpX8.map (fun q => Cond.constantLong RX8 q.1 q.2), w ∈ dm_tt := dm_mem [] (by decide +kernel) (by decide +kernel)
def fpX9 : List (Nat × Nat × Nat) := [(9, 9, 2), (15, 9, 3), (18, 9, 4), (21, 9, 5), (25, 9, 0), (29, 9, 1), (33, 9, 6), (37, 2, 9), (49, 1, 1), (54, 1, 6), (57, 1, 4)]
def ipX9 : List (Nat × Int32) := []
def jpX9 : List (Nat × Int64) := []
set_option maxRecDepth 100000 in
theorem ffX9 : ∀ q ∈ fpX9, dm_ff RX9 q := dm_ff_of fpX9 (by decide +kernel) (dm_mem [228, 231, 234, 237, 226, 227, 240, 129, 171, 183, 179] (by decide +kernel) (by decide +kernel))
set_option maxRecDepth 100000 in
theorem ifX9 : ∀ w ∈ ipX9.map (fun q => Cond.constant RX9 q.1 q.2), w ∈ dm_tt := dm_mem [] (by decide +kernel) (by decide +kernel)
set_option maxRecDepth 100000 in
theorem jfX9 : ∀ w ∈ jpX9.map (fun q => Cond.constantLong RX9 q.1 q.2), w ∈ dm_tt := dm_mem [] (by decide +kernel) (by decide +kernel)
def fpX10 : List (Nat × Nat × Nat) := [(12, 10, 0), (21, 10, 1), (30, 10, 2), (37, 10, 3), (46, 10, 4), (52, 5, 3), (59, 10, 5), (66, 10, 6), (73, 10, 7), (80, 10, 8), (87, 10, 9), (91, 10, 10), (95, 2, 8), (113, 2, 9), (137, 2, 0), (143, 2, 7), (167, 0, 3), (170, 0, 1), (173, 8, 2), (176, 8, 1), (203, 3, 1), (206, 3, 2), (211, 2, 10), (214, 3, 3), (231, 7, 3)]
def ipX10 : List (Nat × Int32) := []
def jpX10 : List (Nat × Int64) := [(116, 1000000), (118, -2), (135, -1000001), (161, -1), (179, -1000000001), (187, -1000000002), (209, -10000001), (220, -1000000)]
set_option maxRecDepth 100000 in
theorem ffX10 : ∀ q ∈ fpX10, dm_ff RX10 q := dm_ff_of fpX10 (by decide +kernel) (dm_mem [430, 431, 432, 433, 434, 297, 435, 436, 437, 438, 439, 440, 119, 132, 96, 118, 377, 374, 397, 395, 413, 415, 136, 417, 268] (by decide +kernel) (by decide +kernel))
set_option maxRecDepth 100000 in
theorem ifX10 : ∀ w ∈ ipX10.map (fun q => Cond.constant RX10 q.1 q.2), w ∈ dm_tt := dm_mem [] (by decide +kernel) (by decide +kernel)
set_option maxRecDepth 100000 in
theorem jfX10 : ∀ w ∈ jpX10.map (fun q => Cond.constantLong RX10 q.1 q.2), w ∈ dm_tt := dm_mem [472, 489, 521, 833, 860, 879, 933, 471] (by decide +kernel) (by decide +kernel)
def fpX11 : List (Nat × Nat × Nat) := [(7, 11, 2), (13, 11, 3), (17, 11, 4), (20, 11, 5), (23, 11, 6), (26, 11, 7), (29, 11, 8), (32, 11, 9), (35, 11, 11), (38, 11, 14), (41, 11, 16), (44, 11, 18), (47, 11, 19), (50, 11, 20), (53, 11, 21), (56, 11, 22), (59, 11, 23), (62, 11, 24), (65, 11, 25), (68, 11, 26), (71, 11, 28), (74, 11, 29), (78, 11, 30), (81, 11, 31), (84, 11, 32), (87, 11, 33), (90, 11, 34), (93, 11, 35), (96, 11, 36), (99, 11, 10), (103, 11, 13), (106, 11, 15), (109, 11, 0), (123, 11, 1), (139, 11, 17), (201, 11, 12), (239, 11, 27)]
def ipX11 : List (Nat × Int32) := []
def jpX11 : List (Nat × Int64) := [(112, -1000000), (114, 1000000), (130, -2), (135, 1000001), (137, -1000001), (142, 1000000000000), (152, 1152921504606846976), (193, 500000000000), (229, -1), (231, -1000000001), (233, -1000000002), (249, -10000001)]
set_option maxRecDepth 100000 in
theorem ffX11 : ∀ q ∈ fpX11, dm_ff RX11 q := dm_ff_of fpX11 (by decide +kernel) (dm_mem [954, 955, 956, 957, 958, 959, 960, 961, 963, 966, 968, 970, 971, 972, 973, 974, 975, 976, 977, 978, 980, 981, 982, 983, 984, 985, 986, 987, 988, 962, 965, 967, 952, 953, 969, 964, 979] (by decide +kernel) (by decide +kernel))
set_option maxRecDepth 100000 in
theorem ifX11 : ∀ w ∈ ipX11.map (fun q => Cond.constant RX11 q.1 q.2), w ∈ dm_tt := dm_mem [] (by decide +kernel) (by decide +kernel)
set_option maxRecDepth 100000 in
theorem jfX11 : ∀ w ∈ jpX11.map (fun q => Cond.constantLong RX11 q.1 q.2), w ∈ dm_tt := dm_mem [1068, 1069, 1085, 1094, 1099, 1116, 1125, 1169, 1206, 1227, 1228, 1257] (by decide +kernel) (by decide +kernel)
def fpJ6 : List (Nat × Nat × Nat) := []
def ipJ6 : List (Nat × Int32) := [(265, 1431655765), (266, 858993459), (267, 252645135)]
def jpJ6 : List (Nat × Int64) := []
set_option maxRecDepth 100000 in
theorem ffJ6 : ∀ q ∈ fpJ6, dm_ff RJ6 q := dm_ff_of fpJ6 (by decide +kernel) (dm_mem [] (by decide +kernel) (by decide +kernel))
set_option maxRecDepth 100000 in
theorem ifJ6 : ∀ w ∈ ipJ6.map (fun q => Cond.constant RJ6 q.1 q.2), w ∈ dm_tt := dm_mem [921, 922, 923] (by decide +kernel) (by decide +kernel)
set_option maxRecDepth 100000 in
theorem jfJ6 : ∀ w ∈ jpJ6.map (fun q => Cond.constantLong RJ6 q.1 q.2), w ∈ dm_tt := dm_mem [] (by decide +kernel) (by decide +kernel)
def fpJ9 : List (Nat × Nat × Nat) := []
def ipJ9 : List (Nat × Int32) := []
def jpJ9 : List (Nat × Int64) := []
set_option maxRecDepth 100000 in
theorem ffJ9 : ∀ q ∈ fpJ9, dm_ff RJ9 q := dm_ff_of fpJ9 (by decide +kernel) (dm_mem [] (by decide +kernel) (by decide +kernel))
set_option maxRecDepth 100000 in
theorem ifJ9 : ∀ w ∈ ipJ9.map (fun q => Cond.constant RJ9 q.1 q.2), w ∈ dm_tt := dm_mem [] (by decide +kernel) (by decide +kernel)
set_option maxRecDepth 100000 in
theorem jfJ9 : ∀ w ∈ jpJ9.map (fun q => Cond.constantLong RJ9 q.1 q.2), w ∈ dm_tt := dm_mem [] (by decide +kernel) (by decide +kernel)
def fpJ7 : List (Nat × Nat × Nat) := []
def ipJ7 : List (Nat × Int32) := []
def jpJ7 : List (Nat × Int64) := []
set_option maxRecDepth 100000 in
theorem ffJ7 : ∀ q ∈ fpJ7, dm_ff RJ7 q := dm_ff_of fpJ7 (by decide +kernel) (dm_mem [] (by decide +kernel) (by decide +kernel))
set_option maxRecDepth 100000 in
theorem ifJ7 : ∀ w ∈ ipJ7.map (fun q => Cond.constant RJ7 q.1 q.2), w ∈ dm_tt := dm_mem [] (by decide +kernel) (by decide +kernel)
set_option maxRecDepth 100000 in
theorem jfJ7 : ∀ w ∈ jpJ7.map (fun q => Cond.constantLong RJ7 q.1 q.2), w ∈ dm_tt := dm_mem [] (by decide +kernel) (by decide +kernel)
