/-! calls on sheets, clauses, trace, fault -/
theorem sp_nin {p : Int32} {n : Nat} (hn : n < 1000000) (h : ¬ vp_in p n) : p < 0 ∨ (¬ p < 0 ∧ Int32.ofNat n ≤ p) := by
  by_cases h0 : p < 0
  · exact Or.inl h0
  · refine Or.inr ⟨h0, ?_⟩
    have h1 : n ≤ p.toNatClampNeg := by
      rcases Nat.lt_or_ge p.toNatClampNeg n with hl | hl
      · exact absurd (fun hh => hh.elim h0 (fun q => by omega)) h
      · exact hl
    have h2 := Int32.not_lt.mp h0
    rw [Int32.le_iff_toInt_le] at h2
    have h3 : (0 : Int32).toInt = 0 := rfl
    rw [h3] at h2
    rw [Int32.le_iff_toInt_le, Int32.toInt_ofNat_of_lt (by omega)]
    have e1 : p.toNatClampNeg = p.toInt.toNat := rfl
    omega
theorem sp_vin {p : Int32} {n : Nat} (h : vp_in p n) : ∃ k : Nat, k < n ∧ p = Int32.ofNat k := ⟨p.toNatClampNeg, sp_in_lt h, sp_i_ex (fun h0 => h (Or.inl h0))⟩
theorem sp_sh1 {k : Nat} (hk : k < 4) : f_X9_isSheet (Int32.ofNat k) = some 1 ∧ f_X10_isSheet (Int32.ofNat k) = some 1 := by
  rcases (show k = 0 ∨ k = 1 ∨ k = 2 ∨ k = 3 by omega) with rfl | rfl | rfl | rfl <;> decide
theorem sp_sh0' {p : Int32} (h : ¬ vp_in p 4) : f_X9_isSheet p = some 0 ∧ f_X10_isSheet p = some 0 := by
  rcases sp_nin (by omega) h with h0 | ⟨h0, h1⟩
  · simp [f_X9_isSheet, f_X10_isSheet, f_X10_within, h0, sp_zb]
  · have h1 : (4 : Int32) ≤ p := h1
    have h2 : (3 : Int32) < p := by
      rw [Int32.lt_iff_toInt_lt]; rw [Int32.le_iff_toInt_le] at h1
      have e3 : (3 : Int32).toInt = 3 := rfl
      have e4 : (4 : Int32).toInt = 4 := rfl
      omega
    simp [f_X9_isSheet, f_X10_isSheet, f_X10_within, h0, h1, h2, sp_zb]
theorem sp_lane (p : Int32) : (f_X9_isLane p = some 0 ∧ f_X10_isLane p = some 0) ∨ ((f_X9_isLane p = some 1 ∧ f_X10_isLane p = some 1) ∧ (p = 0 ∨ p = 1 ∨ p = 2)) := by
  by_cases h0 : p < 0
  · left; simp [f_X9_isLane, f_X10_isLane, f_X10_within, h0, sp_zb]
  · by_cases h1 : (2 : Int32) < p
    · left; simp [f_X9_isLane, f_X10_isLane, f_X10_within, h0, h1, sp_zb]
    · right
      refine ⟨by simp [f_X9_isLane, f_X10_isLane, f_X10_within, h0, h1, sp_zb], ?_⟩
      obtain ⟨k, hk, rfl⟩ := sp_i_le_ex (n := 2) (by omega) h0 (Int32.not_lt.mp h1)
      rcases (show k = 0 ∨ k = 1 ∨ k = 2 by omega) with rfl | rfl | rfl
      · exact Or.inl rfl
      · exact Or.inr (Or.inl rfl)
      · exact Or.inr (Or.inr rfl)
theorem sp_relS_up {xs : Nat → sp_ShT} {la sl ce la' sl' ce' : Nat → Int32} {k : Nat} {v : sp_ShT} (hS : ∀ j, j < 4 → sp_RelS (xs j) la sl ce j) (hla : ∀ j, j ≠ k → la' j = la j) (hsl : ∀ j, j ≠ k → sl' j = sl j) (hce : ∀ j, j ≠ k → ∀ i, i < 60 → ce' (60 * j + i) = ce (60 * j + i)) (hnew : sp_RelS v la' sl' ce' k) : ∀ j, j < 4 → sp_RelS (sp_up xs k v j) la' sl' ce' j := by
  intro j hj
  by_cases hjk : j = k
  · subst hjk; rw [sp_up_self]; exact hnew
  · rw [sp_up_ne _ _ hjk]
    obtain ⟨h1, ⟨n, h2, h3, h4⟩, h5⟩ := hS j hj
    refine ⟨?_, ⟨n, h2, h3, by rw [hsl j hjk]; exact h4⟩, fun i hi => by rw [hce j hjk i hi]; exact h5 i hi⟩
    rw [hla j hjk]; exact h1
theorem op_trace {x : sp_XS} {y : sp_MS} (h : sp_Rel x y) : ∃ (r : Int32) (x' : sp_XS) (y' : sp_MS), sx_trace x = some (r, x') ∧ sm_trace y = some (r, y') ∧ sp_Rel x' y' := by
  obtain ⟨N, hN, h1, h2, h3, h4, h5⟩ := id h
  refine ⟨_, x, y, rfl, ?_, h⟩
  show some (y.2.1, y) = _
  rw [← h4]
theorem op_fault {x : sp_XS} {y : sp_MS} (h : sp_Rel x y) : ∃ (r : Int32) (x' : sp_XS) (y' : sp_MS), sx_fault x = some (r, x') ∧ sm_fault y = some (r, y') ∧ sp_Rel x' y' := by
  obtain ⟨N, hN, h1, h2, h3, h4, h5⟩ := id h
  refine ⟨_, x, y, rfl, ?_, h⟩
  show some (y.1, y) = _
  rw [← h3]
theorem sp_cutOf_some (a b c : Int32) : ∃ r, f_X10_cutOf a b c = some r := by
  unfold f_X10_cutOf sp_bnd
  dsimp only
  split
  · exact ⟨_, rfl⟩
  · split
    · exact ⟨_, rfl⟩
    · rcases sp_isClause01 ((a &&& (((1 : Int32) <<< (c &&& 31)) ^^^ (-1 : Int32))) ||| (b &&& (((64 : Int32) <<< (c &&& 31)) ^^^ (-1 : Int32)))) with e | e <;> rw [e] <;> simp
theorem op_cut {x : sp_XS} {y : sp_MS} (h : sp_Rel x y) (p1 p2 p3 : Int32) : ∃ (r : Int32) (x' : sp_XS) (y' : sp_MS), sx_cut p1 p2 p3 x = some (r, x') ∧ sm_cut p1 p2 p3 y = some (r, y') ∧ sp_Rel x' y' := by
  have key : ∃ r, f_X9_cut p1 p2 p3 = some r ∧ f_X10_cut p1 p2 p3 = some r := by
    unfold f_X9_cut f_X10_cut
    rw [sp_isClause, sp_isClause]
    rcases sp_isClause01 p1 with e | e <;> rw [e]
    · exact ⟨-2, by simp, by simp⟩
    rcases sp_isClause01 p2 with e2 | e2 <;> rw [e2]
    · exact ⟨-2, by simp, by simp⟩
    by_cases h0 : p3 < 0
    · exact ⟨-2, by simp [h0], by simp [f_X10_within, h0]⟩
    · by_cases h1 : (5 : Int32) < p3
      · have h2 : ¬ p3 < (6 : Int32) := by
          rw [Int32.not_lt, Int32.le_iff_toInt_le]; rw [Int32.lt_iff_toInt_lt] at h1
          have e3 : (5 : Int32).toInt = 5 := rfl
          have e4 : (6 : Int32).toInt = 6 := rfl
          omega
        exact ⟨-2, by simp [h0, h2], by simp [f_X10_within, h0, h1]⟩
      · have h2 : p3 < (6 : Int32) := by
          rw [Int32.not_lt, Int32.le_iff_toInt_le] at h1; rw [Int32.lt_iff_toInt_lt]
          have e3 : (5 : Int32).toInt = 5 := rfl
          have e4 : (6 : Int32).toInt = 6 := rfl
          omega
        obtain ⟨k, hk, rfl⟩ := sp_i_le_ex (n := 5) (by omega) h0 (Int32.not_lt.mp h1)
        obtain ⟨r, hr⟩ := sp_cutOf_some p1 p2 (Int32.ofNat k)
        have hr' := hr
        rw [← sp_cutOf p1 p2 (show k < 6 by omega)] at hr'
        exact ⟨r, by simp [h0, h2, hr'], by simp [f_X10_within, h0, h1, hr]⟩
  obtain ⟨r, k1, k2⟩ := key
  exact ⟨r, x, y, by unfold sx_cut; rw [k1]; rfl, by unfold sm_cut; rw [k2]; rfl, h⟩
theorem op_stronger {x : sp_XS} {y : sp_MS} (h : sp_Rel x y) (p1 p2 : Int32) : ∃ (r : Int32) (x' : sp_XS) (y' : sp_MS), sx_stronger p1 p2 x = some (r, x') ∧ sm_stronger p1 p2 y = some (r, y') ∧ sp_Rel x' y' := by
  have key : ∃ r, f_X9_stronger p1 p2 = some r ∧ f_X10_stronger p1 p2 = some r := by
    unfold f_X9_stronger f_X10_stronger
    rw [sp_isClause, sp_isClause]
    rcases sp_isClause01 p1 with e | e <;> rw [e]
    · exact ⟨-2, by simp, by simp⟩
    rcases sp_isClause01 p2 with e2 | e2 <;> rw [e2]
    · exact ⟨-2, by simp, by simp⟩
    by_cases hp : (p1 &&& (p2 ^^^ (-1 : Int32))) = 0
    · exact ⟨1, by unfold f_X0_isPart; rw [if_pos hp]; rfl, by unfold f_X10_isStronger; rw [if_pos hp]; rfl⟩
    · exact ⟨0, by unfold f_X0_isPart; rw [if_neg hp]; rfl, by unfold f_X10_isStronger; rw [if_neg hp]; rfl⟩
  obtain ⟨r, k1, k2⟩ := key
  exact ⟨r, x, y, by unfold sx_stronger; rw [k1]; rfl, by unfold sm_stronger; rw [k2]; rfl, h⟩
theorem sp_fin {α : Type} {sx : Option (α × sp_XS)} {sm : Option (α × sp_MS)} {r : α} {x' : sp_XS} {y' : sp_MS} (h1 : sx = some (r, x')) (h2 : sm = some (r, y')) (h3 : sp_Rel x' y') : ∃ (r : α) (x' : sp_XS) (y' : sp_MS), sx = some (r, x') ∧ sm = some (r, y') ∧ sp_Rel x' y' := ⟨r, x', y', h1, h2, h3⟩
theorem op_lose {x : sp_XS} {y : sp_MS} (h : sp_Rel x y) (p1 : Int32) : ∃ (r : Int32) (x' : sp_XS) (y' : sp_MS), sx_lose p1 x = some (r, x') ∧ sm_lose p1 y = some (r, y') ∧ sp_Rel x' y' := by
  obtain ⟨N, hN, h1, h2, h3, h4, hS, hP, hO⟩ := id h
  by_cases hp : vp_in p1 4
  · obtain ⟨k, hk, rfl⟩ := sp_vin hp
    have ei : sp_ix 4 (Int32.ofNat k) = k := by rw [sp_ix_eq hp, sp_i_nat (by omega)]
    obtain ⟨hl, hn, hc⟩ := hS k hk
    rcases hl with ⟨l1, l2⟩ | ⟨l1, l2⟩
    · apply sp_fin (r := 0)
      · unfold sx_lose sx_lose0 f_X9_lose
        rw [(sp_sh1 hk).1, ei]
        simp only [Option.bind_some, sp_ck_at hk (by omega : 4 < 1000000), f_X4_isNothing, l2]
        rfl
      · unfold sm_lose f_X10_lose
        rw [(sp_sh1 hk).2]
        simp only [Option.bind_some, sp_ld_at hk (by omega : 4 < 1000000), sp_bnd, l1, sp_st_at hk (by omega : 4 < 1000000)]
        rfl
      · refine ⟨N, hN, h1, h2, h3, h4, ?_, hP, hO⟩
        exact sp_relS_up hS (fun j hj => by simp [upd, hj]) (fun _ _ => rfl) (fun _ _ _ _ => rfl) ⟨Or.inl ⟨by simp [upd], rfl⟩, hn, hc⟩
    · have hne : ¬ (x.2.1 k).2.1 = -1 := by rcases l2 with e | e | e <;> rw [e] <;> decide
      have hne9 : ¬ y.2.2.1 k = -9 := by rw [l1]; rcases l2 with e | e | e <;> rw [e] <;> decide
      apply sp_fin (r := 1)
      · unfold sx_lose sx_lose0 f_X9_lose
        rw [(sp_sh1 hk).1, ei]
        simp only [Option.bind_some, sp_ck_at hk (by omega : 4 < 1000000), f_X4_isNothing, if_neg hne]
        rfl
      · unfold sm_lose f_X10_lose
        rw [(sp_sh1 hk).2]
        simp only [Option.bind_some, sp_ld_at hk (by omega : 4 < 1000000), sp_bnd, if_neg hne9, sp_st_at hk (by omega : 4 < 1000000)]
        rfl
      · refine ⟨N, hN, h1, h2, h3, h4, ?_, hP, hO⟩
        exact sp_relS_up hS (fun j hj => by simp [upd, hj]) (fun _ _ => rfl) (fun _ _ _ _ => rfl) ⟨Or.inl ⟨by simp [upd], rfl⟩, hn, hc⟩
  · apply sp_fin (r := -1)
    · unfold sx_lose sx_lose0 f_X9_lose
      rw [(sp_sh0' hp).1]
      rfl
    · unfold sm_lose f_X10_lose
      rw [(sp_sh0' hp).2]
      rfl
    · refine ⟨N, hN, h1, h2, h3, h4, ?_, hP, hO⟩
      exact sp_relS_up hS (fun _ _ => rfl) (fun _ _ => rfl) (fun _ _ _ _ => rfl) (hS _ (sp_ix_lt (by omega)))
