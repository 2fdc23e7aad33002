/-! ===== the answers' kinds; what holds at the start ===== -/
def tyI (r : Option Value) : Prop := ∃ x, r = some (.int x)
def tyL (r : Option Value) : Prop := ∃ x, r = some (.long x)
theorem tyI_1 {x : Int32} : tyI (some (.int x)) ↔ True := ⟨fun _ => trivial, fun _ => ⟨x, rfl⟩⟩
theorem tyL_1 {x : Int64} : tyL (some (.long x)) ↔ True := ⟨fun _ => trivial, fun _ => ⟨x, rfl⟩⟩
/-- one call, with the kind of its answer -/
def samt (ty : Option Value → Prop) (P P' : (Option Value → dm_S → Prop) → Prop) : Prop := P (fun r u' => ty r ∧ P' (fun r' v' => r = r' ∧ Inv u' v'))
theorem s_node {u v : dm_S} {d : Int64} (h : Inv u v) : samt tyI (sp_X10_node [.ref 0, .long d] u) (sp_X11_node [.ref 0, .long d] v) := by
  have := b_node (d := d) h
  unfold samt
  unfold same at this
  simp only [sp_X10_node, tyI_1, true_and] at this ⊢
  exact this
theorem s_arc {u v : dm_S} {x y : Int32} {lo mo co : Int64} (h : Inv u v) : samt tyI (sp_X10_arc [.ref 0, .int x, .int y, .long lo, .long mo, .long co] u) (sp_X11_arc [.ref 0, .int x, .int y, .long lo, .long mo, .long co] v) := by
  have := b_arc (x := x) (y := y) (lo := lo) (mo := mo) (co := co) h
  unfold samt
  unfold same at this
  simp only [sp_X10_arc, sp_X2_addArc, tyI_1, true_and] at this ⊢
  exact this
theorem s_piece {u v : dm_S} {x : Int32} {m c0 : Int64} (h : Inv u v) : samt tyI (sp_X10_piece [.ref 0, .int x, .long m, .long c0] u) (sp_X11_piece [.ref 0, .int x, .long m, .long c0] v) := by
  have := b_piece (x := x) (m := m) (c0 := c0) h
  unfold samt
  unfold same at this
  simp only [sp_X10_piece, tyI_1, true_and] at this ⊢
  exact this
theorem s_supply {u v : dm_S} {x : Int32} {d : Int64} (h : Inv u v) : samt tyL (sp_X10_supply [.ref 0, .int x, .long d] u) (sp_X11_supply [.ref 0, .int x, .long d] v) := by
  have := b_supply (x := x) (d := d) h
  unfold samt
  unfold same at this
  simp only [sp_X10_supply, tyL_1, true_and] at this ⊢
  exact this
theorem s_price {u v : dm_S} {x : Int32} {d : Int64} (h : Inv u v) : samt tyI (sp_X10_price [.ref 0, .int x, .long d] u) (sp_X11_price [.ref 0, .int x, .long d] v) := by
  have := b_price (x := x) (d := d) h
  unfold samt
  unfold same at this
  simp only [sp_X10_price, tyI_1, true_and] at this ⊢
  exact this
theorem s_run {u v : dm_S} {x : Int32} (h : Inv u v) : samt tyI (sp_X10_run [.ref 0, .int x] u) (sp_X11_run [.ref 0, .int x] v) := by
  have := b_run (x := x) h
  unfold samt
  unfold same at this
  simp only [sp_X10_run, tyI_1, true_and] at this ⊢
  exact this
theorem s_cost {u v : dm_S} (h : Inv u v) : samt tyL (sp_X10_cost [.ref 0] u) (sp_X11_cost [.ref 0] v) := by
  have := b_cost h
  unfold samt
  unfold same at this
  simp only [sp_X10_cost, tyL_1, true_and] at this ⊢
  exact this
theorem s_on {u v : dm_S} {x : Int32} (h : Inv u v) : samt tyL (sp_X10_on [.ref 0, .int x] u) (sp_X11_on [.ref 0, .int x] v) := by
  have := b_on (x := x) h
  unfold samt
  unfold same at this
  simp only [sp_X10_on, tyL_1, true_and] at this ⊢
  exact this
theorem s_potential {u v : dm_S} {x : Int32} (h : Inv u v) : samt tyL (sp_X10_potential [.ref 0, .int x] u) (sp_X11_potential [.ref 0, .int x] v) := by
  have := b_potential (x := x) h
  unfold samt
  unfold same at this
  simp only [sp_X10_potential, tyL_1, true_and] at this ⊢
  exact this
theorem s_check {u v : dm_S} (h : Inv u v) : samt tyI (sp_X10_check [.ref 0] u) (sp_X11_check [.ref 0] v) := by
  have := b_check h
  unfold samt
  unfold same at this
  simp only [sp_X10_check, tyI_1, true_and] at this ⊢
  exact this
theorem s_ring {u v : dm_S} {x : Int32} (h : Inv u v) : samt tyI (sp_X10_ring [.ref 0, .int x] u) (sp_X11_ring [.ref 0, .int x] v) := by
  have := b_ring (x := x) h
  unfold samt
  unfold same at this
  simp only [sp_X10_ring, tyI_1, true_and] at this ⊢
  exact this
theorem s_set {u v : dm_S} {x : Int32} (h : Inv u v) : samt tyI (sp_X10_set [.ref 0, .int x] u) (sp_X11_set [.ref 0, .int x] v) := by
  have := b_set (x := x) h
  unfold samt
  unfold same at this
  simp only [sp_X10_set, tyI_1, true_and] at this ⊢
  exact this
theorem s_span {u v : dm_S} {x y : Int32} (h : Inv u v) : samt tyL (sp_X10_span [.ref 0, .int x, .int y] u) (sp_X11_span [.ref 0, .int x, .int y] v) := by
  have := b_span (x := x) (y := y) h
  unfold samt
  unfold same at this
  simp only [sp_X10_span, tyL_1, true_and] at this ⊢
  exact this
theorem s_keeps {u v : dm_S} {x : Int32} {y : Int64} (h : Inv u v) : samt tyI (sp_X10_keeps [.ref 0, .int x, .long y] u) (sp_X11_keeps [.ref 0, .int x, .long y] v) := by
  have := b_keeps (x := x) (c := y) h
  unfold samt
  unfold same at this
  simp only [sp_X10_keeps, tyI_1, true_and] at this ⊢
  exact this
theorem s_assign {u v : dm_S} {x : Int32} (h : Inv u v) : samt tyI (sp_X10_assign [.ref 0, .int x] u) (sp_X11_assign [.ref 0, .int x] v) := by
  have := b_assign (x := x) h
  unfold samt
  unfold same at this
  simp only [sp_X10_assign, tyI_1, true_and] at this ⊢
  exact this
theorem s_put {u v : dm_S} {x y : Int32} {d : Int64} (h : Inv u v) : samt tyI (sp_X10_put [.ref 0, .int x, .int y, .long d] u) (sp_X11_put [.ref 0, .int x, .int y, .long d] v) := by
  have := b_put (x := x) (y := y) (d := d) h
  unfold samt
  unfold same at this
  simp only [sp_X10_put, tyI_1, true_and] at this ⊢
  exact this
theorem s_mate {u v : dm_S} {x : Int32} (h : Inv u v) : samt tyI (sp_X10_mate [.ref 0, .int x] u) (sp_X11_mate [.ref 0, .int x] v) := by
  have := b_mate (x := x) h
  unfold samt
  unfold same at this
  simp only [sp_X10_mate, tyI_1, true_and] at this ⊢
  exact this
theorem s_least {u v : dm_S} (h : Inv u v) : samt tyL (sp_X10_least [.ref 0] u) (sp_X11_least [.ref 0] v) := by
  have := b_least h
  unfold samt
  unfold same at this
  simp only [sp_X10_least, tyL_1, true_and] at this ⊢
  exact this
theorem s_told {u v : dm_S} {x : Int32} (h : Inv u v) : samt tyI (sp_X10_told [.ref 0, .int x] u) (sp_X11_told [.ref 0, .int x] v) := by
  have := b_told (x := x) h
  unfold samt
  unfold same at this
  simp only [sp_X10_told, tyI_1, true_and] at this ⊢
  exact this
theorem s_clear {u v : dm_S} (h : Inv u v) : samt (fun r => r = none) (sp_X10_clear [.ref 0] u) (sp_X11_clear [.ref 0] v) := by
  have := b_clear h
  unfold samt
  unfold same at this
  simp only [sp_X10_clear, true_and] at this ⊢
  exact this
/-- at the start -/
theorem Inv0 : Inv m0 m0 := by
  refine ⟨AN.mk 0 0 (fun _ => 0) (fun _ => 0) (fun _ => 0) (fun _ => false) (fun _ => 0) (fun _ => 0) (fun _ => 0) (fun _ => 0), ⟨⟨⟨by decide, by decide⟩, fun a ha => absurd ha (Nat.not_lt_zero _), fun w hw => absurd hw (Nat.not_lt_zero _)⟩, ⟨⟨rfl, rfl⟩, fun w hw => absurd hw (Nat.not_lt_zero _), fun a ha => absurd ha (Nat.not_lt_zero _)⟩, ⟨⟨rfl, rfl⟩, fun w hw => absurd hw (Nat.not_lt_zero _), fun a ha => absurd ha (Nat.not_lt_zero _)⟩, rfl⟩, ⟨0, fun _ => 0, fun _ => 0, ⟨⟨⟨by decide, rfl⟩, fun k _ => Or.inr ⟨show (-1000000 : Int) ≤ 0 by decide, show (0 : Int) ≤ 1000000 by decide⟩, fun k _ => rfl⟩, ⟨rfl, fun g hg => absurd hg (by omega)⟩, fun h => absurd rfl h⟩, ⟨⟨by decide, rfl⟩, fun h => absurd rfl h⟩⟩, Or.inl ⟨rfl, ⟨rfl, rfl, rfl⟩, rfl, rfl⟩⟩
