/-! put, cell -/
theorem sp_has {n : Nat} (hn : n ≤ 60) (p : Int32) : (f_X4_hasCell p (Int32.ofNat n) = some 0 ∧ f_X10_within p 0 (Int32.ofNat n - 1) = some 0) ∨ ((f_X4_hasCell p (Int32.ofNat n) = some 1 ∧ f_X10_within p 0 (Int32.ofNat n - 1) = some 1) ∧ ∃ i : Nat, i < n ∧ p = Int32.ofNat i) := by
  unfold f_X4_hasCell f_X10_within
  by_cases h0 : p < 0
  · left; simp [h0]
  · have hp := sp_i_ex h0
    have e1 : p.toNatClampNeg = p.toInt.toNat := rfl
    have h2 := Int32.not_lt.mp h0
    rw [Int32.le_iff_toInt_le] at h2
    have h3 : (0 : Int32).toInt = 0 := rfl
    rw [h3] at h2
    have q1 : (Int32.ofNat n ≤ p) ↔ n ≤ p.toNatClampNeg := by
      rw [Int32.le_iff_toInt_le, Int32.toInt_ofNat_of_lt (by omega)]; omega
    have q2 : (Int32.ofNat n - 1 < p) ↔ n ≤ p.toNatClampNeg := by
      rw [Int32.lt_iff_toInt_lt, Int32.toInt_sub, Int32.toInt_ofNat_of_lt (by omega), show (1 : Int32).toInt = 1 from rfl, Int.bmod_eq_of_le (by omega) (by omega)]; omega
    by_cases hle : n ≤ p.toNatClampNeg
    · left; rw [if_neg h0, if_neg h0, if_pos (q1.mpr hle), if_pos (q2.mpr hle)]; simp
    · right
      rw [if_neg h0, if_neg h0, if_neg (fun h => hle (q1.mp h)), if_neg (fun h => hle (q2.mp h))]
      exact ⟨⟨rfl, rfl⟩, p.toNatClampNeg, by omega, hp⟩
theorem op_put {x : sp_XS} {y : sp_MS} (h : sp_Rel x y) (p1 p2 p3 : Int32) : ∃ (r : Int32) (x' : sp_XS) (y' : sp_MS), sx_put p1 p2 p3 x = some (r, x') ∧ sm_put p1 p2 p3 y = some (r, y') ∧ sp_Rel x' y' := by
  obtain ⟨N, hN, h1, h2, h3, h4, hS, hP, hO⟩ := id h
  have hid : ∀ (k : Nat), k < 4 → ∀ j, j < 4 → sp_RelS (sp_up x.2.1 k ((x.2.1 k).1, (x.2.1 k).2.1, (x.2.1 k).2.2) j) y.2.2.1 y.2.2.2.1 y.2.2.2.2.1 j := fun k hk => sp_relS_up hS (fun _ _ => rfl) (fun _ _ => rfl) (fun _ _ _ _ => rfl) (hS k hk)
  by_cases hp : vp_in p1 4
  · obtain ⟨k, hk, rfl⟩ := sp_vin hp
    have ei : sp_ix 4 (Int32.ofNat k) = k := by rw [sp_ix_eq hp, sp_i_nat (by omega)]
    obtain ⟨hl, ⟨n, hn, n1, n2⟩, hc⟩ := hS k hk
    rcases hl with ⟨l1, l2⟩ | ⟨l1, l2⟩
    · apply sp_fin (r := -11)
      · unfold sx_put sx_put0 f_X9_put
        rw [(sp_sh1 hk).1, ei]
        simp only [Option.bind_some, sp_ck_at hk (by omega : 4 < 1000000), f_X4_isNothing, if_pos l2]
        rfl
      · unfold sm_put f_X10_put
        rw [(sp_sh1 hk).2]
        simp only [Option.bind_some, sp_ld_at hk (by omega : 4 < 1000000), l1]
        rfl
      · exact sp_rel_fa h 1 rfl rfl rfl rfl (hid k hk)
    · have hne : ¬ (x.2.1 k).2.1 = -1 := by rcases l2 with e | e | e <;> rw [e] <;> decide
      have hne9 : ¬ (x.2.1 k).2.1 = -9 := by rcases l2 with e | e | e <;> rw [e] <;> decide
      rcases sp_has hn p2 with ⟨c1, c2⟩ | ⟨⟨c1, c2⟩, i, hi, rfl⟩
      · apply sp_fin (r := -13)
        · unfold sx_put sx_put0 f_X9_put
          rw [(sp_sh1 hk).1, ei, show f_X4_hasCell _ (x.2.1 k).2.2 = _ from n1 ▸ c1]
          simp only [Option.bind_some, sp_ck_at hk (by omega : 4 < 1000000), f_X4_isNothing, if_neg hne]
          rfl
        · unfold sm_put f_X10_put
          rw [(sp_sh1 hk).2]
          simp only [Option.bind_some, sp_ld_at hk (by omega : 4 < 1000000), l1, if_neg hne9, n2, c2]
          rfl
        · exact sp_rel_fa h 3 rfl rfl rfl rfl (hid k hk)
      · have wr : ∃ v, f_X4_write (Int32.ofNat i) p3 (x.2.1 k).1 (x.2.1 k).2.1 = some (upd (x.2.1 k).1 i v) ∧ sm_put (Int32.ofNat k) (Int32.ofNat i) p3 y = some (1, (0, y.2.1, y.2.2.1, y.2.2.2.1, upd y.2.2.2.2.1 (60 * k + i) v, y.2.2.2.2.2)) := by
          unfold f_X4_write sm_put f_X10_put
          rw [(sp_sh1 hk).2]
          simp only [Option.bind_some, sp_ld_at hk (by omega : 4 < 1000000), l1, if_neg hne9, n2, c2, sp_bnd, sp_i_60, sp_st_at (show 60 * k + i < 240 by omega) (by omega : 240 < 1000000), sp_st_at (show i < 60 by omega) (by omega : 60 < 1000000)]
          rcases l2 with e | e | e <;> rw [e]
          · exact ⟨_, rfl, rfl⟩
          · exact ⟨_, rfl, rfl⟩
          · exact ⟨_, rfl, rfl⟩
        obtain ⟨v, w1, w2⟩ := wr
        apply sp_fin (r := 1)
        · unfold sx_put sx_put0 f_X9_put
          rw [(sp_sh1 hk).1, ei, show f_X4_hasCell _ (x.2.1 k).2.2 = _ from n1 ▸ c1]
          simp only [Option.bind_some, sp_ck_at hk (by omega : 4 < 1000000), f_X4_isNothing, if_neg hne, w1]
          rfl
        · exact w2
        · refine sp_rel_fa h 0 rfl rfl rfl rfl ?_
          refine sp_relS_up hS (fun _ _ => rfl) (fun _ _ => rfl) (fun j hj q hq => ?_) ⟨Or.inr ⟨l1, l2⟩, ⟨n, hn, n1, n2⟩, fun q hq => ?_⟩
          · show (if _ then _ else _) = _
            rw [if_neg (by omega)]
          · show (if _ then _ else _) = (if _ then _ else _)
            by_cases hqi : q = i
            · rw [if_pos (by omega), if_pos hqi]
            · rw [if_neg (by omega), if_neg hqi]; exact hc q hq
  · apply sp_fin (r := -1)
    · unfold sx_put sx_put0 f_X9_put
      rw [(sp_sh0' hp).1]
      rfl
    · unfold sm_put f_X10_put
      rw [(sp_sh0' hp).2]
      rfl
    · exact sp_rel_fa h 0 rfl rfl rfl rfl (hid _ (sp_ix_lt (by omega)))
theorem op_cell {x : sp_XS} {y : sp_MS} (h : sp_Rel x y) (p1 p2 p3 : Int32) : ∃ (r : Int64) (x' : sp_XS) (y' : sp_MS), sx_cell p1 p2 p3 x = some (r, x') ∧ sm_cell p1 p2 p3 y = some (r, y') ∧ sp_Rel x' y' := by
  obtain ⟨N, hN, h1, h2, h3, h4, hS, hP, hO⟩ := id h
  by_cases hp : vp_in p1 4
  · obtain ⟨k, hk, rfl⟩ := sp_vin hp
    have ei : sp_ix 4 (Int32.ofNat k) = k := by rw [sp_ix_eq hp, sp_i_nat (by omega)]
    obtain ⟨hl, ⟨n, hn, n1, n2⟩, hc⟩ := hS k hk
    rcases sp_lane p3 with ⟨g1, g2⟩ | ⟨⟨g1, g2⟩, g3⟩
    · apply sp_fin (r := -9223372036854775808)
      · unfold sx_cell sx_cell0 f_X9_cell
        rw [(sp_sh1 hk).1, ei, g1]
        rfl
      · unfold sm_cell f_X10_cell
        rw [(sp_sh1 hk).2, g2]
        rfl
      · exact sp_rel_fa h 0 rfl rfl rfl rfl hS
    · rcases hl with ⟨l1, l2⟩ | ⟨l1, l2⟩
      · apply sp_fin (r := -9223372036854775808)
        · unfold sx_cell sx_cell0 f_X9_cell
          rw [(sp_sh1 hk).1, ei, g1]
          simp only [Option.bind_some, sp_bnd, sp_ck_at hk (by omega : 4 < 1000000), f_X4_faultAs, f_X4_isNothing, if_pos l2]
          rfl
        · unfold sm_cell f_X10_cell
          rw [(sp_sh1 hk).2, g2]
          simp only [Option.bind_some, sp_bnd, sp_ld_at hk (by omega : 4 < 1000000), l1]
          rfl
        · exact sp_rel_fa h 1 rfl rfl rfl rfl hS
      · have hne : ¬ (x.2.1 k).2.1 = -1 := by rcases l2 with e | e | e <;> rw [e] <;> decide
        have hne9 : ¬ (x.2.1 k).2.1 = -9 := by rcases l2 with e | e | e <;> rw [e] <;> decide
        by_cases hla : (x.2.1 k).2.1 = p3
        · rcases sp_has hn p2 with ⟨c1, c2⟩ | ⟨⟨c1, c2⟩, i, hi, rfl⟩
          · apply sp_fin (r := -9223372036854775808)
            · unfold sx_cell sx_cell0 f_X9_cell
              rw [(sp_sh1 hk).1, ei, g1, show f_X4_hasCell _ (x.2.1 k).2.2 = _ from n1 ▸ c1]
              simp only [Option.bind_some, sp_bnd, sp_ck_at hk (by omega : 4 < 1000000), f_X4_faultAs, f_X4_isNothing, if_neg hne, if_pos hla]
              rfl
            · unfold sm_cell f_X10_cell
              rw [(sp_sh1 hk).2, g2]
              simp only [Option.bind_some, sp_bnd, sp_ld_at hk (by omega : 4 < 1000000), l1, if_neg hne9, if_pos hla, n2, c2]
              rfl
            · exact sp_rel_fa h 3 rfl rfl rfl rfl hS
          · apply sp_fin (r := ((x.2.1 k).1 i).toInt64)
            · unfold sx_cell sx_cell0 f_X9_cell
              rw [(sp_sh1 hk).1, ei, g1, show f_X4_hasCell _ (x.2.1 k).2.2 = _ from n1 ▸ c1]
              simp only [Option.bind_some, sp_bnd, sp_ck_at hk (by omega : 4 < 1000000), f_X4_faultAs, f_X4_isNothing, if_neg hne, if_pos hla, sp_ld_at (show i < 60 by omega) (by omega : 60 < 1000000)]
              rfl
            · unfold sm_cell f_X10_cell
              rw [(sp_sh1 hk).2, g2]
              simp only [Option.bind_some, sp_bnd, sp_ld_at hk (by omega : 4 < 1000000), l1, if_neg hne9, if_pos hla, n2, c2, sp_i_60, sp_ld_at (show 60 * k + i < 240 by omega) (by omega : 240 < 1000000)]
              rw [hc i (by omega)]
              rfl
            · exact sp_rel_fa h 0 rfl rfl rfl rfl hS
        · apply sp_fin (r := -9223372036854775808)
          · unfold sx_cell sx_cell0 f_X9_cell
            rw [(sp_sh1 hk).1, ei, g1]
            simp only [Option.bind_some, sp_bnd, sp_ck_at hk (by omega : 4 < 1000000), f_X4_faultAs, f_X4_isNothing, if_neg hne, if_neg hla]
            rfl
          · unfold sm_cell f_X10_cell
            rw [(sp_sh1 hk).2, g2]
            simp only [Option.bind_some, sp_bnd, sp_ld_at hk (by omega : 4 < 1000000), l1, if_neg hne9, if_neg hla]
            rfl
          · exact sp_rel_fa h 2 rfl rfl rfl rfl hS
  · apply sp_fin (r := -9223372036854775808)
    · unfold sx_cell sx_cell0 f_X9_cell
      rw [(sp_sh0' hp).1]
      rfl
    · unfold sm_cell f_X10_cell
      rw [(sp_sh0' hp).2]
      rfl
    · exact sp_rel_fa h 0 rfl rfl rfl rfl hS
