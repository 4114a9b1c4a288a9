/-! tell, many -/
theorem sp_two (c : Int32) : (2 : Int32) * c = c + c := by
  have : (2 : Int32) = 1 + 1 := rfl
  rw [this, Int32.add_mul, Int32.one_mul]
theorem op_tell {x : sp_XS} {y : sp_MS} (h : sp_Rel x y) (p1 p2 : Int32) : ∃ (r : Int32) (x' : sp_XS) (y' : sp_MS), sx_tell p1 p2 x = some (r, x') ∧ sm_tell p1 p2 y = some (r, y') ∧ sp_Rel x' y' := by
  have htr : x.2.2.2.2.2.2.2.2.2.2.2.2 = y.2.1 := by obtain ⟨N, hN, h1, h2, h3, h4, h5⟩ := id h; exact h4
  rcases sp_line h p1 p2 with ⟨e1, e2⟩ | ⟨p, l, n, hp, rfl, ei, rfl, hl, hn, g1, g2, g3, e1, e2⟩
  · apply sp_fin (r := -1)
    · unfold sx_tell sx_tell0 f_X9_tell; rw [e1]; rfl
    · unfold sm_tell f_X10_tell; rw [e2]; rfl
    · exact h
  · obtain ⟨kd, hkd, k1, k2⟩ := sp_kind g1 hl hp g2 g3
    obtain ⟨s1, s2, s3, s4⟩ := g3 l hl
    rcases hkd with e | e | e
    · apply sp_fin (r := (x.1 p).1 l)
      · unfold sx_tell sx_tell0 f_X9_tell f_X9_toldAsGround f_X9_leave; rw [ei, e1]
        simp only [Option.bind_some, sp_bnd, sp_ck_at hp (by omega : 12 < 1000000), sp_ld_at (show l < 48 by omega) (by omega : 48 < 1000000), k1, e]; rfl
      · unfold sm_tell f_X10_tell f_X10_begins; rw [e2]
        simp only [Option.bind_some, sp_bnd, sp_i_24, sp_ld_at (show 24 * p + l < 288 by omega) (by omega : 288 < 1000000), k2, e, s1]; rfl
      · exact sp_rel_tr h _ rfl (by rw [← htr])
    · apply sp_fin (r := (x.1 p).1 l + (x.1 p).2.1 l + (x.1 p).2.2.1 l)
      · unfold sx_tell sx_tell0 f_X9_tell f_X9_toldAsCut f_X9_toldAsGround f_X9_leave; rw [ei, e1]
        simp only [Option.bind_some, sp_bnd, sp_ck_at hp (by omega : 12 < 1000000), sp_ld_at (show l < 48 by omega) (by omega : 48 < 1000000), k1, e]; rfl
      · unfold sm_tell f_X10_tell f_X10_begins; rw [e2]
        simp only [Option.bind_some, sp_bnd, sp_i_24, sp_ld_at (show 24 * p + l < 288 by omega) (by omega : 288 < 1000000), k2, e, s1, s2, s3]; rfl
      · exact sp_rel_tr h _ rfl (by rw [← htr])
    · apply sp_fin (r := (x.1 p).1 l + (x.1 p).2.1 l + (x.1 p).2.2.1 l + (x.1 p).1 l)
      · unfold sx_tell sx_tell0 f_X9_tell f_X9_toldAsEnd f_X9_toldAsCut f_X9_toldAsGround f_X9_leave; rw [ei, e1]
        simp only [Option.bind_some, sp_bnd, sp_ck_at hp (by omega : 12 < 1000000), sp_ld_at (show l < 48 by omega) (by omega : 48 < 1000000), k1, e]; rfl
      · unfold sm_tell f_X10_tell f_X10_begins; rw [e2]
        simp only [Option.bind_some, sp_bnd, sp_i_24, sp_ld_at (show 24 * p + l < 288 by omega) (by omega : 288 < 1000000), k2, e, s1, s2, s3, sp_two]
        rw [show (x.1 p).1 l + (x.1 p).1 l + (x.1 p).2.1 l + (x.1 p).2.2.1 l = (x.1 p).1 l + (x.1 p).2.1 l + (x.1 p).2.2.1 l + (x.1 p).1 l by ac_rfl]
        rfl
      · exact sp_rel_tr h _ rfl (by rw [← htr])
def sp_sum (f : Nat → Int32) : Nat → Int32
  | 0 => 0
  | n + 1 => sp_sum f n + f n
theorem sp_sum_congr {f g : Nat → Int32} : ∀ n : Nat, (∀ i, i < n → f i = g i) → sp_sum f n = sp_sum g n
  | 0, _ => rfl
  | n + 1, h => by rw [sp_sum, sp_sum, sp_sum_congr n (fun i hi => h i (by omega)), h n (by omega)]
theorem sp_manyX {N : Nat} (hN : N ≤ 12) (k : Int32 → Option Int32) (ct : Nat → Int32) : sp_lp (f_X9_many_L21 (Int32.ofNat N) k ct) sp_F ((0 : Int32), (0 : Int32)) = k (sp_sum ct N) := by
  refine sp_lp_fn N (fun i => (sp_sum ct i, Int32.ofNat i)) (fun i hi rec => ?_) (fun rec => ?_) (sp_F_lt (by omega)) rfl
  · rw [f_X9_many_L21_eq, if_neg (fun h => by have := (sp_i_le (by omega) (by omega)).mp h; omega), sp_ld_at (show i < 12 by omega) (by omega)]
    unfold sp_bnd
    rw [sp_i_succ]
    rfl
  · rw [f_X9_many_L21_eq, if_pos ((sp_i_le (by omega) (by omega)).mpr (Nat.le_refl N))]
theorem sp_manyM {N : Nat} (hN : N ≤ 12) (k : Int32 → Option Int32) (mn : Nat → Int32) : sp_lp (f_X10_many_L4 (Int32.ofNat N) k mn) sp_F ((0 : Int32), (0 : Int32)) = k (sp_sum mn N) := by
  refine sp_lp_fn N (fun i => (sp_sum mn i, Int32.ofNat i)) (fun i hi rec => ?_) (fun rec => ?_) (sp_F_lt (by omega)) rfl
  · rw [f_X10_many_L4_eq, if_neg (fun h => by have := (sp_i_le (by omega) (by omega)).mp h; omega), sp_ld_at (show i < 12 by omega) (by omega)]
    unfold sp_bnd
    rw [sp_i_succ]
    rfl
  · rw [f_X10_many_L4_eq, if_pos ((sp_i_le (by omega) (by omega)).mpr (Nat.le_refl N))]
theorem op_many {x : sp_XS} {y : sp_MS} (h : sp_Rel x y) (p1 : Int32) : ∃ (r : Int32) (x' : sp_XS) (y' : sp_MS), sx_many p1 x = some (r, x') ∧ sm_many p1 y = some (r, y') ∧ sp_Rel x' y' := by
  obtain ⟨N, hN, h1, h2, h3, h4, hS, hP, hO⟩ := id h
  have hs : sp_sum y.2.2.2.2.2.2.1 N = sp_sum (fun k => (x.1 k).2.2.2.2.2.1) N := sp_sum_congr N (fun i hi => by
    obtain ⟨n, g1, g2, g3⟩ := hP i hi
    rw [g2]; exact g1.2.2.1.symm)
  have key : ∃ r, f_X9_many p1 x.2.2.2.2.2.2.2.2.2.1 (fun k => (x.1 k).2.2.2.2.2.1) = some r ∧ f_X10_many p1 y.2.2.2.2.2.1 y.2.2.2.2.2.2.1 = some r := by
    unfold f_X9_many f_X10_many sp_bnd
    rw [h1, h2]
    dsimp only
    rw [sp_manyX hN, sp_manyM hN, hs]
    refine (fun ⟨r, hr⟩ => ⟨r, hr, hr⟩ : (∃ r, _ = some r) → _) ?_
    repeat' split
    all_goals exact ⟨_, rfl⟩
  obtain ⟨r, k1, k2⟩ := key
  exact ⟨r, x, y, by unfold sx_many; rw [k1]; rfl, by unfold sm_many; rw [k2]; rfl, h⟩
