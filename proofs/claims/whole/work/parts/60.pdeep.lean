/-! how deep -/
def sp_dt (x : sp_PrT) : Nat → Nat → Nat
  | 0 => fun _ => 0
  | i + 1 => fun j => if j = i then (if x.2.2.2.1 i = -9 then 0 else 1 + (if sp_dt x i (x.2.1 i).toNatClampNeg < sp_dt x i (x.2.2.1 i).toNatClampNeg then sp_dt x i (x.2.2.1 i).toNatClampNeg else sp_dt x i (x.2.1 i).toNatClampNeg)) else sp_dt x i j
theorem sp_dt_le (x : sp_PrT) : ∀ i j, sp_dt x i j ≤ i
  | 0, _ => Nat.le_refl _
  | i + 1, j => by
    have h1 := sp_dt_le x i (x.2.1 i).toNatClampNeg
    have h2 := sp_dt_le x i (x.2.2.1 i).toNatClampNeg
    have h3 := sp_dt_le x i j
    simp only [sp_dt]
    repeat' split
    all_goals omega
/-- the row behind i lines -/
def sp_dr (x : sp_PrT) (de : Nat → Int32) (i : Nat) : Nat → Int32 := fun j => if j < i then Int32.ofNat (sp_dt x i j) else de j
theorem sp_dr_step {x : sp_PrT} {de : Nat → Int32} {i v : Nat} (hv : sp_dt x (i + 1) i = v) : upd (sp_dr x de i) i (Int32.ofNat v) = sp_dr x de (i + 1) := by
  funext j
  simp only [upd, sp_dr]
  by_cases hj : j = i
  · subst hj; rw [if_pos rfl, if_pos (by omega), hv]
  · rw [if_neg hj]
    by_cases h2 : j < i
    · rw [if_pos h2, if_pos (by omega)]; simp [sp_dt, hj]
    · rw [if_neg h2, if_neg (by omega)]
theorem sp_deepL {x : sp_PrT} {n : Nat} {de : Nat → Int32} (h : sp_prOK x n) (k : (Nat → Int32) → Option (Int32 × (Nat → Int32))) : sp_lp (f_X6_deepOf_L2 (Int32.ofNat n) k x.2.1 x.2.2.1) sp_F ((0 : Int32), de) = k (sp_dr x de n) := by
  have hn := h.2.1
  refine sp_lp_fn n (fun i => (Int32.ofNat i, sp_dr x de i)) (fun i hi rec => ?_) (fun rec => ?_) (sp_F_lt (by omega)) ?_
  · rw [f_X6_deepOf_L2_eq, if_neg (fun q => by have := (sp_i_le (by omega) (by omega)).mp q; omega), sp_isGround h hi]
    simp only [Option.bind_some, sp_bnd, sp_i_succ, sp_ld_at (show i < 48 by omega) (by omega : 48 < 1000000), sp_st_at (show i < 48 by omega) (by omega : 48 < 1000000)]
    rcases sp_ground h hi with ⟨a, b, c⟩ | ⟨hg, a, b, c, ha, hb, hc, e1, e2, -⟩
    · rw [if_pos a, if_neg (show ¬ (1 : Int32) = 0 by decide), show (0 : Int32) = Int32.ofNat 0 from rfl, sp_dr_step (by simp [sp_dt, a])]
    · have l1 := sp_dt_le x i a
      have l2 := sp_dt_le x i b
      rw [if_neg hg, if_pos rfl, e1, e2]
      simp only [sp_ld_at (show a < 48 by omega) (by omega : 48 < 1000000), sp_ld_at (show b < 48 by omega) (by omega : 48 < 1000000)]
      rw [show sp_dr x de i a = Int32.ofNat (sp_dt x i a) from if_pos ha, show sp_dr x de i b = Int32.ofNat (sp_dt x i b) from if_pos hb]
      have hv : sp_dt x (i + 1) i = 1 + (if sp_dt x i a < sp_dt x i b then sp_dt x i b else sp_dt x i a) := by
        simp only [sp_dt, if_pos, if_neg hg, e1, e2, sp_i_nat (show a < 1000000 by omega), sp_i_nat (show b < 1000000 by omega)]
      have hw : (1 : Int32) + (if Int32.ofNat (sp_dt x i a) < Int32.ofNat (sp_dt x i b) then Int32.ofNat (sp_dt x i b) else Int32.ofNat (sp_dt x i a)) = Int32.ofNat (1 + (if sp_dt x i a < sp_dt x i b then sp_dt x i b else sp_dt x i a)) := by
        rw [Int32.ofNat_add]
        by_cases q : sp_dt x i a < sp_dt x i b
        · rw [if_pos q, if_pos ((sp_i_lt (by omega) (by omega)).mpr q)]; rfl
        · rw [if_neg q, if_neg (fun z => q ((sp_i_lt (by omega) (by omega)).mp z))]; rfl
      rw [hw, sp_dr_step hv]
  · rw [f_X6_deepOf_L2_eq, if_pos ((sp_i_le (by omega) (by omega)).mpr (Nat.le_refl n))]
  · have : sp_dr x de 0 = de := by funext j; simp [sp_dr]
    rw [this]; rfl
theorem sp_deepX {x : sp_PrT} {n : Nat} {de : Nat → Int32} (h : sp_prOK x n) : f_X6_deepOf de x.2.1 x.2.2.1 (Int32.ofNat n) = some (Int32.ofNat (sp_dt x n (n - 1)), sp_dr x de n) := by
  have h1 := h.1
  have hn := h.2.1
  unfold f_X6_deepOf
  rw [sp_bnd, sp_deepL h, sp_i_pred h1, sp_ld_at (show n - 1 < 48 by omega) (by omega), show sp_dr x de n (n - 1) = _ from if_pos (by omega)]
theorem sp_deepLM {x : sp_PrT} {n p : Nat} {de mn cl le ri lt : Nat → Int32} (h : sp_prOK x n) (hp : p < 12) (hm : mn p = Int32.ofNat n) (hs : sp_same x cl le ri lt p n) (k : (Nat → Int32) → Option (Int32 × (Nat → Int32))) : sp_lp (f_X10_deep_L2 mn (Int32.ofNat p) k lt le ri) sp_F ((0 : Int32), de) = k (sp_dr x de n) := by
  have hn := h.2.1
  refine sp_lp_fn n (fun i => (Int32.ofNat i, sp_dr x de i)) (fun i hi rec => ?_) (fun rec => ?_) (sp_F_lt (by omega)) ?_
  · obtain ⟨-, s2, s3, s4⟩ := hs i hi
    rw [f_X10_deep_L2_eq, sp_ld_at hp (by omega), hm, if_neg (fun q => by have := (sp_i_le (by omega) (by omega)).mp q; omega)]
    simp only [sp_bnd, sp_i_24, sp_i_succ, sp_st_at (show i < 24 by omega) (by omega : 24 < 1000000), sp_ld_at (show 24 * p + i < 288 by omega) (by omega : 288 < 1000000), s2, s3, s4]
    rcases sp_ground h hi with ⟨a, b, c⟩ | ⟨hg, a, b, c, ha, hb, hc, e1, e2, -⟩
    · rw [if_pos a, show (0 : Int32) = Int32.ofNat 0 from rfl, sp_dr_step (by simp [sp_dt, a])]
    · have l1 := sp_dt_le x i a
      have l2 := sp_dt_le x i b
      rw [if_neg hg, e1, e2]
      simp only [sp_ld_at (show a < 24 by omega) (by omega : 24 < 1000000), sp_ld_at (show b < 24 by omega) (by omega : 24 < 1000000)]
      rw [show upd (sp_dr x de i) i 0 a = Int32.ofNat (sp_dt x i a) from by simp only [upd, sp_dr]; rw [if_neg (by omega), if_pos ha], show upd (sp_dr x de i) i 0 b = Int32.ofNat (sp_dt x i b) from by simp only [upd, sp_dr]; rw [if_neg (by omega), if_pos hb]]
      have hv : sp_dt x (i + 1) i = 1 + (if sp_dt x i a < sp_dt x i b then sp_dt x i b else sp_dt x i a) := by
        simp only [sp_dt, if_pos, if_neg hg, e1, e2, sp_i_nat (show a < 1000000 by omega), sp_i_nat (show b < 1000000 by omega)]
      have hu : ∀ v : Nat, sp_dt x (i + 1) i = v → upd (upd (sp_dr x de i) i 0) i ((1 : Int32) + Int32.ofNat (v - 1)) = sp_dr x de (i + 1) := by
        intro v hv2
        rw [← sp_dr_step hv2]
        have : (1 : Int32) + Int32.ofNat (v - 1) = Int32.ofNat v := by
          rw [show (1 : Int32) = Int32.ofNat 1 from rfl, ← Int32.ofNat_add]; congr 1; rw [hv] at hv2; omega
        rw [this]
        funext j
        simp only [upd]
        split <;> rfl
      have hu := hu _ hv
      by_cases q : sp_dt x i a < sp_dt x i b
      · rw [if_pos ((sp_i_le (by omega) (by omega)).mpr (by omega))]
        rw [if_pos q, show 1 + sp_dt x i b - 1 = sp_dt x i b by omega] at hu
        rw [hu]
      · by_cases q2 : sp_dt x i a ≤ sp_dt x i b
        · rw [if_pos ((sp_i_le (by omega) (by omega)).mpr q2)]
          rw [if_neg q, show 1 + sp_dt x i a - 1 = sp_dt x i b by omega] at hu
          rw [hu]
        · rw [if_neg (fun z => q2 ((sp_i_le (by omega) (by omega)).mp z))]
          rw [if_neg q, show 1 + sp_dt x i a - 1 = sp_dt x i a by omega] at hu
          rw [hu]
  · rw [f_X10_deep_L2_eq, sp_ld_at hp (by omega), hm, if_pos ((sp_i_le (by omega) (by omega)).mpr (Nat.le_refl n))]
  · have : sp_dr x de 0 = de := by funext j; simp [sp_dr]
    rw [this]; rfl
theorem sp_deepM {x : sp_PrT} {n p : Nat} {de mn cl le ri lt : Nat → Int32} (h : sp_prOK x n) (hp : p < 12) (hm : mn p = Int32.ofNat n) (hs : sp_same x cl le ri lt p n) : f_X10_deep (Int32.ofNat p) mn le ri lt de = some (Int32.ofNat (sp_dt x n (n - 1)), sp_dr x de n) := by
  have h1 := h.1
  have hn := h.2.1
  unfold f_X10_deep
  rw [sp_bnd, sp_deepLM h hp hm hs, sp_ld_at hp (by omega), hm, sp_i_pred h1, sp_ld_at (show n - 1 < 24 by omega) (by omega), show sp_dr x de n (n - 1) = _ from if_pos (by omega)]
