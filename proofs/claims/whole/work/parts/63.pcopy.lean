/-! copy: the reference's loops, up and down -/
def sp_cy (ce : Nat → Int32) (S D a b : Nat) : Nat → Int32 := fun t => if D + a ≤ t ∧ t < D + b then ce (S + (t - D)) else ce t
theorem sp_cy_0 (ce : Nat → Int32) (S D a : Nat) : sp_cy ce S D a a = ce := by
  funext t; simp only [sp_cy]; rw [if_neg (by omega)]
theorem sp_copyUp {k o i j n : Nat} {ce : Nat → Int32} (hk : k < 4) (ho : o < 4) (hi : i + n ≤ 60) (hj : j + n ≤ 60) (hij : j ≤ i) (K : (Nat → Int32) → Option (Int32 × Int32 × (Nat → Int32))) : sp_lp (f_X10_copy_L166 (Int32.ofNat n) K (Int32.ofNat k) (Int32.ofNat i) (Int32.ofNat o) (Int32.ofNat j) 0) sp_F ((0 : Int32), ce) = K (sp_cy ce (60 * k + i) (60 * o + j) 0 n) := by
  refine sp_lp_fn n (fun q => (Int32.ofNat q, sp_cy ce (60 * k + i) (60 * o + j) 0 q)) (fun q hq rec => ?_) (fun rec => ?_) (sp_F_lt (by omega)) (by show _ = (Int32.ofNat 0, sp_cy ce (60 * k + i) (60 * o + j) 0 0); rw [sp_cy_0]; rfl)
  · rw [f_X10_copy_L166_eq, if_neg (fun z => by have := (sp_i_le (by omega) (by omega)).mp z; omega)]
    simp only [sp_bnd, sp_i_60, ← Int32.ofNat_add, sp_i_succ]
    rw [if_pos trivial, sp_ld_at (show 60 * k + i + q < 240 by omega) (by omega), sp_st_at (show 60 * o + j + q < 240 by omega) (by omega)]
    refine congrArg (fun f => rec (Int32.ofNat (q + 1), f)) ?_
    funext t
    simp only [upd, sp_cy]
    by_cases ht : t = 60 * o + j + q
    · rw [if_pos ht, if_neg (show ¬ (60 * o + j + 0 ≤ 60 * k + i + q ∧ 60 * k + i + q < 60 * o + j + q) by omega), if_pos (show 60 * o + j + 0 ≤ t ∧ t < 60 * o + j + (q + 1) by omega), show 60 * k + i + (t - (60 * o + j)) = 60 * k + i + q by omega]
    · rw [if_neg ht]
      by_cases h2 : 60 * o + j + 0 ≤ t ∧ t < 60 * o + j + q
      · rw [if_pos h2, if_pos (by omega)]
      · rw [if_neg h2, if_neg (by omega)]
  · rw [f_X10_copy_L166_eq, if_pos ((sp_i_le (by omega) (by omega)).mpr (Nat.le_refl n))]
theorem sp_copyDn {k o i j n : Nat} {ce : Nat → Int32} (hk : k < 4) (ho : o < 4) (hi : i + n ≤ 60) (hj : j + n ≤ 60) (hij : i < j) (K : (Nat → Int32) → Option (Int32 × Int32 × (Nat → Int32))) : sp_lp (f_X10_copy_L166 (Int32.ofNat n) K (Int32.ofNat k) (Int32.ofNat i) (Int32.ofNat o) (Int32.ofNat j) 1) sp_F ((0 : Int32), ce) = K (sp_cy ce (60 * k + i) (60 * o + j) 0 n) := by
  have hend : sp_cy ce (60 * k + i) (60 * o + j) (n - n) n = sp_cy ce (60 * k + i) (60 * o + j) 0 n := by rw [Nat.sub_self]
  refine sp_lp_fn n (fun q => (Int32.ofNat q, sp_cy ce (60 * k + i) (60 * o + j) (n - q) n)) (fun q hq rec => ?_) (fun rec => ?_) (sp_F_lt (by omega)) (by show _ = (Int32.ofNat 0, sp_cy ce (60 * k + i) (60 * o + j) (n - 0) n); rw [Nat.sub_zero, sp_cy_0]; rfl)
  · rw [f_X10_copy_L166_eq, if_neg (fun z => by have := (sp_i_le (by omega) (by omega)).mp z; omega)]
    simp only [sp_bnd, sp_i_60, sp_i_pred (show 1 ≤ n by omega), sp_i_sub (show q ≤ n - 1 by omega), ← Int32.ofNat_add, sp_i_succ]
    rw [if_neg (show ¬ (1 : Int32) = 0 by decide), sp_ld_at (show 60 * k + i + (n - 1 - q) < 240 by omega) (by omega), sp_st_at (show 60 * o + j + (n - 1 - q) < 240 by omega) (by omega)]
    refine congrArg (fun f => rec (Int32.ofNat (q + 1), f)) ?_
    funext t
    simp only [upd, sp_cy]
    by_cases ht : t = 60 * o + j + (n - 1 - q)
    · rw [if_pos ht, if_neg (show ¬ (60 * o + j + (n - q) ≤ 60 * k + i + (n - 1 - q) ∧ 60 * k + i + (n - 1 - q) < 60 * o + j + n) by omega), if_pos (show 60 * o + j + (n - (q + 1)) ≤ t ∧ t < 60 * o + j + n by omega), show 60 * k + i + (t - (60 * o + j)) = 60 * k + i + (n - 1 - q) by omega]
    · rw [if_neg ht]
      by_cases h2 : 60 * o + j + (n - q) ≤ t ∧ t < 60 * o + j + n
      · rw [if_pos h2, if_pos (by omega)]
      · rw [if_neg h2, if_neg (by omega)]
  · rw [f_X10_copy_L166_eq, if_pos ((sp_i_le (by omega) (by omega)).mpr (Nat.le_refl n)), hend]
