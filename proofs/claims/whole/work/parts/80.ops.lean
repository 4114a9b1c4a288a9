theorem op_text {x : sp_XS} {y : sp_MS} (h : sp_Rel x y) (p1 p2 p3 p4 : Int32) : ∃ (r : Int32) (x' : sp_XS) (y' : sp_MS), sx_text p1 p2 p3 p4 x = some (r, x') ∧ sm_text p1 p2 p3 p4 y = some (r, y') ∧ sp_Rel x' y' := by
  sorry
theorem op_line {x : sp_XS} {y : sp_MS} (h : sp_Rel x y) (p1 p2 p3 : Int32) : ∃ (r : Int32) (x' : sp_XS) (y' : sp_MS), sx_line p1 p2 p3 x = some (r, x') ∧ sm_line p1 p2 p3 y = some (r, y') ∧ sp_Rel x' y' := by
  sorry
theorem op_size {x : sp_XS} {y : sp_MS} (h : sp_Rel x y) (p1 p2 : Int32) : ∃ (r : Int32) (x' : sp_XS) (y' : sp_MS), sx_size p1 p2 x = some (r, x') ∧ sm_size p1 p2 y = some (r, y') ∧ sp_Rel x' y' := by
  sorry
theorem op_rests {x : sp_XS} {y : sp_MS} (h : sp_Rel x y) (p1 : Int32) : ∃ (r : Int32) (x' : sp_XS) (y' : sp_MS), sx_rests p1 x = some (r, x') ∧ sm_rests p1 y = some (r, y') ∧ sp_Rel x' y' := by
  sorry
theorem op_truly {x : sp_XS} {y : sp_MS} (h : sp_Rel x y) (p1 : Int32) : ∃ (r : Int32) (x' : sp_XS) (y' : sp_MS), sx_truly p1 x = some (r, x') ∧ sm_truly p1 y = some (r, y') ∧ sp_Rel x' y' := by
  sorry
theorem op_fewest {x : sp_XS} {y : sp_MS} (h : sp_Rel x y) (p1 p2 : Int32) : ∃ (r : Int32) (x' : sp_XS) (y' : sp_MS), sx_fewest p1 p2 x = some (r, x') ∧ sm_fewest p1 p2 y = some (r, y') ∧ sp_Rel x' y' := by
  sorry
theorem op_shorter {x : sp_XS} {y : sp_MS} (h : sp_Rel x y) (p1 p2 : Int32) : ∃ (r : Int32) (x' : sp_XS) (y' : sp_MS), sx_shorter p1 p2 x = some (r, x') ∧ sm_shorter p1 p2 y = some (r, y') ∧ sp_Rel x' y' := by
  sorry
theorem op_safe {x : sp_XS} {y : sp_MS} (h : sp_Rel x y) (p1 p2 : Int32) : ∃ (r : Int32) (x' : sp_XS) (y' : sp_MS), sx_safe p1 p2 x = some (r, x') ∧ sm_safe p1 p2 y = some (r, y') ∧ sp_Rel x' y' := by
  sorry
theorem op_twice {x : sp_XS} {y : sp_MS} (h : sp_Rel x y) (p1 : Int32) : ∃ (r : Int32) (x' : sp_XS) (y' : sp_MS), sx_twice p1 x = some (r, x') ∧ sm_twice p1 y = some (r, y') ∧ sp_Rel x' y' := by
  sorry
theorem op_heap {x : sp_XS} {y : sp_MS} (h : sp_Rel x y) (p1 p2 : Int32) : ∃ (r : Int32) (x' : sp_XS) (y' : sp_MS), sx_heap p1 p2 x = some (r, x') ∧ sm_heap p1 p2 y = some (r, y') ∧ sp_Rel x' y' := by
  sorry
theorem op_shared {x : sp_XS} {y : sp_MS} (h : sp_Rel x y) (p1 p2 : Int32) : ∃ (r : Int32) (x' : sp_XS) (y' : sp_MS), sx_shared p1 p2 x = some (r, x') ∧ sm_shared p1 p2 y = some (r, y') ∧ sp_Rel x' y' := by
  sorry
theorem op_core {x : sp_XS} {y : sp_MS} (h : sp_Rel x y) (p1 p2 p3 : Int32) : ∃ (r : Int32) (x' : sp_XS) (y' : sp_MS), sx_core p1 p2 p3 x = some (r, x') ∧ sm_core p1 p2 p3 y = some (r, y') ∧ sp_Rel x' y' := by
  sorry
theorem op_middle {x : sp_XS} {y : sp_MS} (h : sp_Rel x y) (p1 p2 p3 : Int32) : ∃ (r : Int64) (x' : sp_XS) (y' : sp_MS), sx_middle p1 p2 p3 x = some (r, x') ∧ sm_middle p1 p2 p3 y = some (r, y') ∧ sp_Rel x' y' := by
  sorry
theorem op_truths {x : sp_XS} {y : sp_MS} (h : sp_Rel x y) (p1 p2 p3 : Int32) : ∃ (r : Int64) (x' : sp_XS) (y' : sp_MS), sx_truths p1 p2 p3 x = some (r, x') ∧ sm_truths p1 p2 p3 y = some (r, y') ∧ sp_Rel x' y' := by
  sorry
theorem op_cuts {x : sp_XS} {y : sp_MS} (h : sp_Rel x y) (p1 p2 : Int32) : ∃ (r : Int32) (x' : sp_XS) (y' : sp_MS), sx_cuts p1 p2 x = some (r, x') ∧ sm_cuts p1 p2 y = some (r, y') ∧ sp_Rel x' y' := by
  sorry
theorem op_units {x : sp_XS} {y : sp_MS} (h : sp_Rel x y) (p1 p2 : Int32) : ∃ (r : Int32) (x' : sp_XS) (y' : sp_MS), sx_units p1 p2 x = some (r, x') ∧ sm_units p1 p2 y = some (r, y') ∧ sp_Rel x' y' := by
  sorry
theorem op_follows {x : sp_XS} {y : sp_MS} (h : sp_Rel x y) (p1 p2 : Int32) : ∃ (r : Int32) (x' : sp_XS) (y' : sp_MS), sx_follows p1 p2 x = some (r, x') ∧ sm_follows p1 p2 y = some (r, y') ∧ sp_Rel x' y' := by
  sorry
theorem op_cut {x : sp_XS} {y : sp_MS} (h : sp_Rel x y) (p1 p2 p3 : Int32) : ∃ (r : Int32) (x' : sp_XS) (y' : sp_MS), sx_cut p1 p2 p3 x = some (r, x') ∧ sm_cut p1 p2 p3 y = some (r, y') ∧ sp_Rel x' y' := by
  sorry
theorem op_stronger {x : sp_XS} {y : sp_MS} (h : sp_Rel x y) (p1 p2 : Int32) : ∃ (r : Int32) (x' : sp_XS) (y' : sp_MS), sx_stronger p1 p2 x = some (r, x') ∧ sm_stronger p1 p2 y = some (r, y') ∧ sp_Rel x' y' := by
  sorry
theorem op_sheet {x : sp_XS} {y : sp_MS} (h : sp_Rel x y) (p1 p2 p3 : Int32) : ∃ (r : Int32) (x' : sp_XS) (y' : sp_MS), sx_sheet p1 p2 p3 x = some (r, x') ∧ sm_sheet p1 p2 p3 y = some (r, y') ∧ sp_Rel x' y' := by
  sorry
theorem op_lose {x : sp_XS} {y : sp_MS} (h : sp_Rel x y) (p1 : Int32) : ∃ (r : Int32) (x' : sp_XS) (y' : sp_MS), sx_lose p1 x = some (r, x') ∧ sm_lose p1 y = some (r, y') ∧ sp_Rel x' y' := by
  sorry
theorem op_put {x : sp_XS} {y : sp_MS} (h : sp_Rel x y) (p1 p2 p3 : Int32) : ∃ (r : Int32) (x' : sp_XS) (y' : sp_MS), sx_put p1 p2 p3 x = some (r, x') ∧ sm_put p1 p2 p3 y = some (r, y') ∧ sp_Rel x' y' := by
  sorry
theorem op_cell {x : sp_XS} {y : sp_MS} (h : sp_Rel x y) (p1 p2 p3 : Int32) : ∃ (r : Int64) (x' : sp_XS) (y' : sp_MS), sx_cell p1 p2 p3 x = some (r, x') ∧ sm_cell p1 p2 p3 y = some (r, y') ∧ sp_Rel x' y' := by
  sorry
theorem op_copy {x : sp_XS} {y : sp_MS} (h : sp_Rel x y) (p1 p2 p3 p4 p5 : Int32) : ∃ (r : Int32) (x' : sp_XS) (y' : sp_MS), sx_copy p1 p2 p3 p4 p5 x = some (r, x') ∧ sm_copy p1 p2 p3 p4 p5 y = some (r, y') ∧ sp_Rel x' y' := by
  sorry
theorem op_tell {x : sp_XS} {y : sp_MS} (h : sp_Rel x y) (p1 p2 : Int32) : ∃ (r : Int32) (x' : sp_XS) (y' : sp_MS), sx_tell p1 p2 x = some (r, x') ∧ sm_tell p1 p2 y = some (r, y') ∧ sp_Rel x' y' := by
  sorry
theorem op_show {x : sp_XS} {y : sp_MS} (h : sp_Rel x y) (p1 p2 : Int32) : ∃ (r : Int32) (x' : sp_XS) (y' : sp_MS), sx_show p1 p2 x = some (r, x') ∧ sm_show p1 p2 y = some (r, y') ∧ sp_Rel x' y' := by
  sorry
theorem op_as {x : sp_XS} {y : sp_MS} (h : sp_Rel x y) (p1 p2 p3 : Int32) : ∃ (r : Int32) (x' : sp_XS) (y' : sp_MS), sx_as p1 p2 p3 x = some (r, x') ∧ sm_as p1 p2 p3 y = some (r, y') ∧ sp_Rel x' y' := by
  sorry
theorem op_trace {x : sp_XS} {y : sp_MS} (h : sp_Rel x y)  : ∃ (r : Int32) (x' : sp_XS) (y' : sp_MS), sx_trace  x = some (r, x') ∧ sm_trace  y = some (r, y') ∧ sp_Rel x' y' := by
  sorry
theorem op_fault {x : sp_XS} {y : sp_MS} (h : sp_Rel x y)  : ∃ (r : Int32) (x' : sp_XS) (y' : sp_MS), sx_fault  x = some (r, x') ∧ sm_fault  y = some (r, y') ∧ sp_Rel x' y' := by
  sorry
theorem op_many {x : sp_XS} {y : sp_MS} (h : sp_Rel x y) (p1 : Int32) : ∃ (r : Int32) (x' : sp_XS) (y' : sp_MS), sx_many p1 x = some (r, x') ∧ sm_many p1 y = some (r, y') ∧ sp_Rel x' y' := by
  sorry
