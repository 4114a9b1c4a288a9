/-! proofs, lines: line, tell, show, as, many -/
theorem sp_toN {p : Int32} (h : ¬ p < 0) : (p.toNatClampNeg : Int) = p.toInt := by
  have h2 := Int32.not_lt.mp h
  rw [Int32.le_iff_toInt_le] at h2
  have h3 : (0 : Int32).toInt = 0 := rfl
  rw [h3] at h2
  have e1 : p.toNatClampNeg = p.toInt.toNat := rfl
  omega
theorem sp_isPr {N : Nat} (hN : N ≤ 12) (p : Int32) : (f_X9_isProof p (Int32.ofNat N) = some 0) ∨ ∃ k : Nat, k < N ∧ p = Int32.ofNat k ∧ f_X9_isProof p (Int32.ofNat N) = some 1 := by
  unfold f_X9_isProof
  by_cases h0 : p < 0
  · left; rw [if_pos h0]
  · by_cases h1 : Int32.ofNat N ≤ p
    · left; rw [if_neg h0, if_pos h1]
    · right
      have hp := sp_i_ex h0
      have hlt : p.toNatClampNeg < N := by
        rw [Int32.not_le, Int32.lt_iff_toInt_lt, Int32.toInt_ofNat_of_lt (by omega)] at h1
        have e1 := sp_toN h0
        omega
      exact ⟨p.toNatClampNeg, hlt, hp, by rw [if_neg h0, if_neg h1]⟩
theorem sp_isPr_eq (p n : Int32) : f_X10_isProof p n = f_X9_isProof p n := rfl
theorem sp_ix_of {n k : Nat} (hk : k < n) (hn : n < 1000000) : sp_ix n (Int32.ofNat k) = k := by rw [sp_ix_eq (sp_i_in hk hn), sp_i_nat (by omega)]
def sp_same (x : sp_PrT) (cl le ri lt : Nat → Int32) (p n : Nat) : Prop := ∀ l, l < n → cl (24 * p + l) = x.1 l ∧ le (24 * p + l) = x.2.1 l ∧ ri (24 * p + l) = x.2.2.1 l ∧ lt (24 * p + l) = x.2.2.2.1 l
/-- a proof's number: none, or a proof on both sides -/
theorem sp_proof {x : sp_XS} {y : sp_MS} (h : sp_Rel x y) (p1 : Int32) : (f_X9_isProof p1 x.2.2.2.2.2.2.2.2.2.1 = some 0 ∧ f_X10_isProof p1 y.2.2.2.2.2.1 = some 0) ∨ ∃ p n : Nat, p < 12 ∧ p1 = Int32.ofNat p ∧ sp_ix 12 p1 = p ∧ sp_prOK (x.1 p) n ∧ y.2.2.2.2.2.2.1 p = Int32.ofNat n ∧ sp_same (x.1 p) y.2.2.2.2.2.2.2.1 y.2.2.2.2.2.2.2.2.1 y.2.2.2.2.2.2.2.2.2.1 y.2.2.2.2.2.2.2.2.2.2.1 p n ∧ f_X9_isProof p1 x.2.2.2.2.2.2.2.2.2.1 = some 1 ∧ f_X10_isProof p1 y.2.2.2.2.2.1 = some 1 ∧ p1 < x.2.2.2.2.2.2.2.2.2.1 := by
  obtain ⟨N, hN, h1, h2, h3, h4, hS, hP, hO⟩ := id h
  rw [sp_isPr_eq, h1, h2]
  rcases sp_isPr hN p1 with e | ⟨k, hk, rfl, e⟩
  · left; exact ⟨e, e⟩
  · right
    obtain ⟨n, g1, g2, g3⟩ := hP k hk
    exact ⟨k, n, by omega, rfl, sp_ix_of (by omega) (by omega), g1, g2, g3, e, e, (sp_i_lt (by omega) (by omega)).mpr hk⟩
/-- a line's number -/
theorem sp_line {x : sp_XS} {y : sp_MS} (h : sp_Rel x y) (p1 p2 : Int32) : (f_X9_isLine p1 p2 x.2.2.2.2.2.2.2.2.2.1 (x.1 (sp_ix 12 p1)).2.2.2.2.2.1 = some 0 ∧ f_X10_isLine p1 p2 y.2.2.2.2.2.1 y.2.2.2.2.2.2.1 = some 0) ∨ ∃ p l n : Nat, p < 12 ∧ p1 = Int32.ofNat p ∧ sp_ix 12 p1 = p ∧ p2 = Int32.ofNat l ∧ l < n ∧ n ≤ 24 ∧ sp_prOK (x.1 p) n ∧ y.2.2.2.2.2.2.1 p = Int32.ofNat n ∧ sp_same (x.1 p) y.2.2.2.2.2.2.2.1 y.2.2.2.2.2.2.2.2.1 y.2.2.2.2.2.2.2.2.2.1 y.2.2.2.2.2.2.2.2.2.2.1 p n ∧ f_X9_isLine p1 p2 x.2.2.2.2.2.2.2.2.2.1 (x.1 p).2.2.2.2.2.1 = some 1 ∧ f_X10_isLine p1 p2 y.2.2.2.2.2.1 y.2.2.2.2.2.2.1 = some 1 := by
  unfold f_X9_isLine f_X10_isLine
  rcases sp_proof h p1 with ⟨e1, e2⟩ | ⟨p, n, hp, rfl, ei, g1, g2, g3, e1, e2, -⟩
  · left; rw [e1, e2]; exact ⟨rfl, rfl⟩
  · rw [e1, e2, ei]
    obtain ⟨n1, n2, n3, -⟩ := id g1
    simp only [Option.bind_some, sp_ck_at hp (by omega : 12 < 1000000), sp_ld_at hp (by omega : 12 < 1000000), n3, g2]
    by_cases h0 : p2 < 0
    · left; simp [h0]
    · by_cases hle : Int32.ofNat n ≤ p2
      · left; simp [h0, hle]
      · right
        have hlt : p2.toNatClampNeg < n := by
          rw [Int32.not_le, Int32.lt_iff_toInt_lt, Int32.toInt_ofNat_of_lt (by omega)] at hle
          have e3 := sp_toN h0
          omega
        exact ⟨p, p2.toNatClampNeg, n, hp, rfl, rfl, sp_i_ex h0, hlt, n2, g1, g2, g3, by simp [h0, hle, n3], by simp [h0, hle]⟩
theorem sp_ground {x : sp_PrT} {n l : Nat} (h : sp_prOK x n) (hl : l < n) : (x.2.2.2.1 l = -9 ∧ x.2.1 l = -9 ∧ x.2.2.1 l = -9) ∨ (¬ x.2.2.2.1 l = -9 ∧ ∃ i j k : Nat, i < l ∧ j < l ∧ k < 6 ∧ x.2.1 l = Int32.ofNat i ∧ x.2.2.1 l = Int32.ofNat j ∧ x.2.2.2.1 l = Int32.ofNat k ∧ f_X10_cutOf (x.1 i) (x.1 j) (Int32.ofNat k) = some (x.1 l)) := by
  rcases (h.2.2.2.1 l hl).2 with ⟨a, b, c⟩ | ⟨i, j, k, hi, hj, hk, a, b, c, d⟩
  · exact Or.inl ⟨c, a, b⟩
  · exact Or.inr ⟨by rw [c]; exact sp_i_neg (by omega), i, j, k, hi, hj, hk, a, b, c, d⟩
theorem sp_isGround {x : sp_PrT} {n l : Nat} (h : sp_prOK x n) (hl : l < n) : f_X2_isGround (Int32.ofNat l) x.2.1 = some (if x.2.2.2.1 l = -9 then 1 else 0) := by
  have hn := h.2.1
  unfold f_X2_isGround
  rw [sp_ld_at (show l < 48 by omega) (by omega)]
  rcases sp_ground h hl with ⟨a, b, c⟩ | ⟨a, i, j, k, hi, hj, hk, b, -⟩
  · rw [b, if_pos a, if_neg (by decide)]
  · rw [b, if_neg a, if_pos (Int32.not_lt.mp (sp_i_nn (by omega)))]
theorem sp_kind {x : sp_PrT} {n l p : Nat} {mn cl le ri lt : Nat → Int32} (h : sp_prOK x n) (hl : l < n) (hp : p < 12) (hm : mn p = Int32.ofNat n) (hs : sp_same x cl le ri lt p n) : ∃ kd : Int32, (kd = 0 ∨ kd = 1 ∨ kd = 2) ∧ f_X2_kindOf (Int32.ofNat l) x.2.1 x.2.2.2.2.2.1 = some kd ∧ f_X10_kindOf (Int32.ofNat p) (Int32.ofNat l) mn lt = some kd := by
  have hn := h.2.1
  unfold f_X2_kindOf f_X10_kindOf
  rw [sp_isGround h hl, sp_i_24, sp_ld_at (show 24 * p + l < 288 by omega) (by omega), (hs l hl).2.2.2, h.2.2.1]
  by_cases hg : x.2.2.2.1 l = -9
  · rw [if_pos hg, if_pos hg]; exact ⟨0, Or.inl rfl, rfl, rfl⟩
  · rw [if_neg hg, if_neg hg, sp_ld_at hp (by omega), hm]
    by_cases he : Int32.ofNat l = Int32.ofNat n - 1
    · rw [if_pos he]; exact ⟨2, Or.inr (Or.inr rfl), rfl, rfl⟩
    · rw [if_neg he]; exact ⟨1, Or.inr (Or.inl rfl), rfl, rfl⟩
theorem op_line {x : sp_XS} {y : sp_MS} (h : sp_Rel x y) (p1 p2 p3 : Int32) : ∃ (r : Int32) (x' : sp_XS) (y' : sp_MS), sx_line p1 p2 p3 x = some (r, x') ∧ sm_line p1 p2 p3 y = some (r, y') ∧ sp_Rel x' y' := by
  have key : ∃ r, f_X9_line p1 p2 p3 x.2.2.2.2.2.2.2.2.2.1 (x.1 (sp_ix 12 p1)).1 (x.1 (sp_ix 12 p1)).2.1 (x.1 (sp_ix 12 p1)).2.2.1 (x.1 (sp_ix 12 p1)).2.2.2.1 (x.1 (sp_ix 12 p1)).2.2.2.2.2.1 = some r ∧ f_X10_line p1 p2 p3 y.2.2.2.2.2.1 y.2.2.2.2.2.2.1 y.2.2.2.2.2.2.2.1 y.2.2.2.2.2.2.2.2.1 y.2.2.2.2.2.2.2.2.2.1 y.2.2.2.2.2.2.2.2.2.2.1 = some r := by
    unfold f_X9_line f_X10_line
    rcases sp_line h p1 p2 with ⟨e1, e2⟩ | ⟨p, l, n, hp, rfl, ei, rfl, hl, hn, g1, g2, g3, e1, e2⟩
    · rw [e1, e2]; exact ⟨-1, rfl, rfl⟩
    · rw [ei, e1, e2]
      obtain ⟨kd, -, k1, k2⟩ := sp_kind g1 hl hp g2 g3
      obtain ⟨s1, s2, s3, s4⟩ := g3 l hl
      simp only [Option.bind_some, sp_ck_at hp (by omega : 12 < 1000000), sp_bnd, sp_i_24, sp_ld_at (show 24 * p + l < 288 by omega) (by omega : 288 < 1000000), sp_ld_at (show l < 48 by omega) (by omega : 48 < 1000000), k1, k2, s1, s2, s3, s4]
      refine (fun ⟨r, hr⟩ => ⟨r, hr, hr⟩ : (∃ r, _ = some r) → _) ?_
      repeat' split
      all_goals exact ⟨_, rfl⟩
  obtain ⟨r, k1, k2⟩ := key
  exact ⟨r, x, y, by unfold sx_line sx_line0; rw [k1]; rfl, by unfold sm_line; rw [k2]; rfl, h⟩
theorem sp_rel_tr {x : sp_XS} {y : sp_MS} (h : sp_Rel x y) {x' : sp_XS} {y' : sp_MS} (f : Int32) (hx : x' = (x.1, x.2.1, x.2.2.1, x.2.2.2.1, x.2.2.2.2.1, x.2.2.2.2.2.1, x.2.2.2.2.2.2.1, x.2.2.2.2.2.2.2.1, x.2.2.2.2.2.2.2.2.1, (x.2.2.2.2.2.2.2.2.2.1, x.2.2.2.2.2.2.2.2.2.2.1, x.2.2.2.2.2.2.2.2.2.2.2.1, f))) (hy : y' = (y.1, f, y.2.2)) : sp_Rel x' y' := by
  obtain ⟨N, hN, h1, h2, h3, h4, hS0, hP, hO⟩ := h
  subst hx; subst hy
  exact ⟨N, hN, h1, h2, h3, rfl, hS0, hP, hO⟩
theorem op_show {x : sp_XS} {y : sp_MS} (h : sp_Rel x y) (p1 p2 : Int32) : ∃ (r : Int32) (x' : sp_XS) (y' : sp_MS), sx_show p1 p2 x = some (r, x') ∧ sm_show p1 p2 y = some (r, y') ∧ sp_Rel x' y' := by
  have htr : x.2.2.2.2.2.2.2.2.2.2.2.2 = y.2.1 := by obtain ⟨N, hN, h1, h2, h3, h4, h5⟩ := id h; exact h4
  rcases sp_line h p1 p2 with ⟨e1, e2⟩ | ⟨p, l, n, hp, rfl, ei, rfl, hl, hn, g1, g2, g3, e1, e2⟩
  · apply sp_fin (r := -1)
    · unfold sx_show sx_show0 f_X9_show; rw [e1]; rfl
    · unfold sm_show f_X10_show; rw [e2]; rfl
    · exact h
  · obtain ⟨kd, hkd, k1, k2⟩ := sp_kind g1 hl hp g2 g3
    rcases hkd with e | e | e
    · apply sp_fin (r := Int32.ofNat l)
      · unfold sx_show sx_show0 f_X9_show; rw [ei, e1]
        simp only [Option.bind_some, sp_ck_at hp (by omega : 12 < 1000000), k1, e]; rfl
      · unfold sm_show f_X10_show; rw [e2]
        simp only [Option.bind_some, k2, e]; rfl
      · exact sp_rel_tr h _ rfl (by rw [← htr])
    · apply sp_fin (r := Int32.ofNat l)
      · unfold sx_show sx_show0 f_X9_show; rw [ei, e1]
        simp only [Option.bind_some, sp_ck_at hp (by omega : 12 < 1000000), k1, e]; rfl
      · unfold sm_show f_X10_show; rw [e2]
        simp only [Option.bind_some, k2, e]; rfl
      · exact sp_rel_tr h _ rfl (by rw [← htr])
    · apply sp_fin (r := 90)
      · unfold sx_show sx_show0 f_X9_show; rw [ei, e1]
        simp only [Option.bind_some, sp_ck_at hp (by omega : 12 < 1000000), k1, e]; rfl
      · unfold sm_show f_X10_show; rw [e2]
        simp only [Option.bind_some, k2, e]; rfl
      · exact sp_rel_tr h _ rfl (by rw [← htr])
theorem op_as {x : sp_XS} {y : sp_MS} (h : sp_Rel x y) (p1 p2 p3 : Int32) : ∃ (r : Int32) (x' : sp_XS) (y' : sp_MS), sx_as p1 p2 p3 x = some (r, x') ∧ sm_as p1 p2 p3 y = some (r, y') ∧ sp_Rel x' y' := by
  have hS : ∀ k, k < 4 → sp_RelS (x.2.1 k) y.2.2.1 y.2.2.2.1 y.2.2.2.2.1 k := by obtain ⟨N, hN, h1, h2, h3, h4, hS, h5⟩ := id h; exact hS
  rcases sp_line h p1 p2 with ⟨e1, e2⟩ | ⟨p, l, n, hp, rfl, ei, rfl, hl, hn, g1, g2, g3, e1, e2⟩
  · apply sp_fin (r := -1)
    · unfold sx_as sx_as0 f_X9_as; rw [e1]; rfl
    · unfold sm_as f_X10_as; rw [e2]; rfl
    · exact sp_rel_fa h 0 rfl rfl rfl rfl hS
  · obtain ⟨kd, hkd, k1, k2⟩ := sp_kind g1 hl hp g2 g3
    by_cases h0 : p3 < 0
    · apply sp_fin (r := -2)
      · unfold sx_as sx_as0 f_X9_as; rw [ei, e1]
        simp only [Option.bind_some, sp_bnd, if_pos h0]; rfl
      · unfold sm_as f_X10_as f_X10_within; rw [e2]
        simp only [Option.bind_some, if_pos h0]; rfl
      · exact sp_rel_fa h 0 rfl rfl rfl rfl hS
    · by_cases h2 : p3 ≤ (2 : Int32)
      · have h2' : ¬ (2 : Int32) < p3 := Int32.not_lt.mpr h2
        by_cases hk : kd < p3
        · apply sp_fin (r := -12)
          · unfold sx_as sx_as0 f_X9_as; rw [ei, e1]
            simp only [Option.bind_some, sp_bnd, if_neg h0, if_pos h2, sp_ck_at hp (by omega : 12 < 1000000), k1, if_pos hk]; rfl
          · unfold sm_as f_X10_as f_X10_within; rw [e2]
            simp only [Option.bind_some, if_neg h0, if_neg h2', k2, if_pos hk]; rfl
          · exact sp_rel_fa h 2 rfl rfl rfl rfl hS
        · apply sp_fin (r := 1)
          · unfold sx_as sx_as0 f_X9_as; rw [ei, e1]
            simp only [Option.bind_some, sp_bnd, if_neg h0, if_pos h2, sp_ck_at hp (by omega : 12 < 1000000), k1, if_neg hk]; rfl
          · unfold sm_as f_X10_as f_X10_within; rw [e2]
            simp only [Option.bind_some, if_neg h0, if_neg h2', k2, if_neg hk]; rfl
          · exact sp_rel_fa h 0 rfl rfl rfl rfl hS
      · have h2' : (2 : Int32) < p3 := Int32.not_le.mp h2
        apply sp_fin (r := -2)
        · unfold sx_as sx_as0 f_X9_as; rw [ei, e1]
          simp only [Option.bind_some, sp_bnd, if_neg h0, if_neg h2]; rfl
        · unfold sm_as f_X10_as f_X10_within; rw [e2]
          simp only [Option.bind_some, if_neg h0, if_pos h2']; rfl
        · exact sp_rel_fa h 0 rfl rfl rfl rfl hS
