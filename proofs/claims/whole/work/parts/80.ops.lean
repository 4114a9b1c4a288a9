theorem op_text {x : sp_XS} {y : sp_MS} (h : sp_Rel x y) (p1 p2 p3 p4 : Int32) : ∃ (r : Int32) (x' : sp_XS) (y' : sp_MS), sx_text p1 p2 p3 p4 x = some (r, x') ∧ sm_text p1 p2 p3 p4 y = some (r, y') ∧ sp_Rel x' y' := by
  sorry
theorem op_fewest {x : sp_XS} {y : sp_MS} (h : sp_Rel x y) (p1 p2 : Int32) : ∃ (r : Int32) (x' : sp_XS) (y' : sp_MS), sx_fewest p1 p2 x = some (r, x') ∧ sm_fewest p1 p2 y = some (r, y') ∧ sp_Rel x' y' := by
  sorry
theorem op_shorter {x : sp_XS} {y : sp_MS} (h : sp_Rel x y) (p1 p2 : Int32) : ∃ (r : Int32) (x' : sp_XS) (y' : sp_MS), sx_shorter p1 p2 x = some (r, x') ∧ sm_shorter p1 p2 y = some (r, y') ∧ sp_Rel x' y' := by
  sorry
theorem op_safe {x : sp_XS} {y : sp_MS} (h : sp_Rel x y) (p1 p2 : Int32) : ∃ (r : Int32) (x' : sp_XS) (y' : sp_MS), sx_safe p1 p2 x = some (r, x') ∧ sm_safe p1 p2 y = some (r, y') ∧ sp_Rel x' y' := by
  sorry
theorem op_heap {x : sp_XS} {y : sp_MS} (h : sp_Rel x y) (p1 p2 : Int32) : ∃ (r : Int32) (x' : sp_XS) (y' : sp_MS), sx_heap p1 p2 x = some (r, x') ∧ sm_heap p1 p2 y = some (r, y') ∧ sp_Rel x' y' := by
  sorry
theorem op_core {x : sp_XS} {y : sp_MS} (h : sp_Rel x y) (p1 p2 p3 : Int32) : ∃ (r : Int32) (x' : sp_XS) (y' : sp_MS), sx_core p1 p2 p3 x = some (r, x') ∧ sm_core p1 p2 p3 y = some (r, y') ∧ sp_Rel x' y' := by
  sorry
theorem op_middle {x : sp_XS} {y : sp_MS} (h : sp_Rel x y) (p1 p2 p3 : Int32) : ∃ (r : Int64) (x' : sp_XS) (y' : sp_MS), sx_middle p1 p2 p3 x = some (r, x') ∧ sm_middle p1 p2 p3 y = some (r, y') ∧ sp_Rel x' y' := by
  sorry
theorem op_truths {x : sp_XS} {y : sp_MS} (h : sp_Rel x y) (p1 p2 p3 : Int32) : ∃ (r : Int64) (x' : sp_XS) (y' : sp_MS), sx_truths p1 p2 p3 x = some (r, x') ∧ sm_truths p1 p2 p3 y = some (r, y') ∧ sp_Rel x' y' := by
  sorry
theorem op_cuts {x : sp_XS} {y : sp_MS} (h : sp_Rel x y) (p1 p2 : Int32) : ∃ (r : Int32) (x' : sp_XS) (y' : sp_MS), sx_cuts p1 p2 x = some (r, x') ∧ sm_cuts p1 p2 y = some (r, y') ∧ sp_Rel x' y' := by
  sorry
theorem op_units {x : sp_XS} {y : sp_MS} (h : sp_Rel x y) (p1 p2 : Int32) : ∃ (r : Int32) (x' : sp_XS) (y' : sp_MS), sx_units p1 p2 x = some (r, x') ∧ sm_units p1 p2 y = some (r, y') ∧ sp_Rel x' y' := by
  sorry
theorem op_follows {x : sp_XS} {y : sp_MS} (h : sp_Rel x y) (p1 p2 : Int32) : ∃ (r : Int32) (x' : sp_XS) (y' : sp_MS), sx_follows p1 p2 x = some (r, x') ∧ sm_follows p1 p2 y = some (r, y') ∧ sp_Rel x' y' := by
  sorry
