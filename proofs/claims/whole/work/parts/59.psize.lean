/-! sizes: how many signs -/
def sp_pc (n : Nat) : Nat → Nat
  | 0 => 0
  | i + 1 => sp_pc n i + (if n.testBit i then 1 else 0)
theorem sp_pc_le (n : Nat) : ∀ i, sp_pc n i ≤ i
  | 0 => Nat.le_refl _
  | i + 1 => by have := sp_pc_le n i; rw [sp_pc]; split <;> omega
theorem sp_bitsL {n : Nat} (hn : n < 2 ^ 31) (k : Int32 → Option Int32) : sp_lp (f_X10_bitsOf_L4 k (Int32.ofNat n)) sp_F ((0 : Int32), (0 : Int32)) = k (Int32.ofNat (sp_pc n 24)) := by
  refine sp_lp_fn 24 (fun i => (Int32.ofNat (sp_pc n i), Int32.ofNat i)) (fun i hi rec => ?_) (fun rec => ?_) (sp_F_lt (by omega)) rfl
  · rw [f_X10_bitsOf_L4_eq, if_neg (fun h => by have := (sp_i_lit_le (c := (24 : Int32)) (m := 24) rfl (by omega) (by omega)).mp h; omega), sb_bit32 hn (by omega)]
    simp only [sp_bnd, sp_i_succ]
    rw [sp_pc]
    by_cases hb : n.testBit i = true
    · rw [if_pos hb, if_pos hb, sp_i_succ]
    · rw [if_neg hb, if_neg hb]; simp
  · rw [f_X10_bitsOf_L4_eq, if_pos ((sp_i_lit_le (c := (24 : Int32)) (m := 24) (i := 24) rfl (by omega) (by omega)).mpr (by omega))]
theorem sp_bitsOf {n : Nat} (hn : n < 2 ^ 31) : f_X10_bitsOf (Int32.ofNat n) = some (Int32.ofNat (sp_pc n 24)) := by
  unfold f_X10_bitsOf
  rw [sp_bnd, sp_bitsL hn]
theorem sp_bc_all : (List.range 4096).all (fun n => decide (f_J6_bitCount_0f7a4 (Int32.ofNat n) = some (Int32.ofNat (sp_pc n 24)))) = true := by decide +kernel
theorem sp_bitCount {n : Nat} (hn : n < 4096) : f_J6_bitCount_0f7a4 (Int32.ofNat n) = some (Int32.ofNat (sp_pc n 24)) := of_decide_eq_true (sp_4096 _ sp_bc_all n hn)
/-- a clause of a line, as a number -/
theorem sp_clN {x : sp_PrT} {n l : Nat} (h : sp_prOK x n) (hl : l < n) : ∃ c : Nat, c < 4096 ∧ x.1 l = Int32.ofNat c := sp_isClause1 (h.2.2.2.1 l hl).1
/-- how many signs a line has -/
def sp_w (x : sp_PrT) (l : Nat) : Nat := sp_pc (x.1 l).toNatClampNeg 24
theorem sp_wX {x : sp_PrT} {n l : Nat} (h : sp_prOK x n) (hl : l < n) : f_J6_bitCount_0f7a4 (x.1 l) = some (Int32.ofNat (sp_w x l)) ∧ f_X10_bitsOf (x.1 l) = some (Int32.ofNat (sp_w x l)) := by
  obtain ⟨c, hc, e⟩ := sp_clN h hl
  unfold sp_w
  rw [e, sp_i_nat (by omega)]
  exact ⟨sp_bitCount hc, sp_bitsOf (by omega)⟩
theorem sp_w_le (x : sp_PrT) (l : Nat) : sp_w x l ≤ 24 := sp_pc_le _ _
def sp_ws (x : sp_PrT) : Nat → Nat
  | 0 => 0
  | l + 1 => sp_ws x l + sp_w x l
def sp_wm (x : sp_PrT) : Nat → Nat
  | 0 => 0
  | l + 1 => if sp_wm x l < sp_w x l then sp_w x l else sp_wm x l
theorem sp_wm_le (x : sp_PrT) : ∀ l, sp_wm x l ≤ 24
  | 0 => by simp [sp_wm]
  | l + 1 => by have := sp_wm_le x l; have := sp_w_le x l; rw [sp_wm]; split <;> omega
theorem sp_signs {x : sp_PrT} {n : Nat} (h : sp_prOK x n) : f_X6_signsOf x.1 (Int32.ofNat n) = some (Int32.ofNat (sp_ws x n)) := by
  have hn := h.2.1
  unfold f_X6_signsOf
  rw [sp_bnd]
  refine sp_lp_fn n (fun i => (Int32.ofNat (sp_ws x i), Int32.ofNat i)) (fun i hi rec => ?_) (fun rec => ?_) (sp_F_lt (by omega)) rfl
  · rw [f_X6_signsOf_L4_eq, if_neg (fun q => by have := (sp_i_le (by omega) (by omega)).mp q; omega), sp_ld_at (show i < 48 by omega) (by omega), (sp_wX h hi).1]
    simp only [Option.bind_some, sp_bnd, sp_i_succ, ← Int32.ofNat_add]
    rfl
  · rw [f_X6_signsOf_L4_eq, if_pos ((sp_i_le (by omega) (by omega)).mpr (Nat.le_refl n))]
theorem sp_signsM {x : sp_PrT} {n p : Nat} {mn cl le ri lt : Nat → Int32} (h : sp_prOK x n) (hp : p < 12) (hm : mn p = Int32.ofNat n) (hs : sp_same x cl le ri lt p n) : f_X10_signs (Int32.ofNat p) mn cl = some (Int32.ofNat (sp_ws x n)) := by
  have hn := h.2.1
  unfold f_X10_signs
  rw [sp_bnd]
  refine sp_lp_fn n (fun i => (Int32.ofNat (sp_ws x i), Int32.ofNat i)) (fun i hi rec => ?_) (fun rec => ?_) (sp_F_lt (by omega)) rfl
  · rw [f_X10_signs_L4_eq, sp_ld_at hp (by omega), hm, if_neg (fun q => by have := (sp_i_le (by omega) (by omega)).mp q; omega), sp_i_24, sp_ld_at (show 24 * p + i < 288 by omega) (by omega), (hs i hi).1, (sp_wX h hi).2]
    simp only [Option.bind_some, sp_bnd, sp_i_succ, ← Int32.ofNat_add]
    rfl
  · rw [f_X10_signs_L4_eq, sp_ld_at hp (by omega), hm, if_pos ((sp_i_le (by omega) (by omega)).mpr (Nat.le_refl n))]
theorem sp_widest {x : sp_PrT} {n : Nat} (h : sp_prOK x n) : f_X6_widestOf x.1 (Int32.ofNat n) = some (Int32.ofNat (sp_wm x n)) := by
  have hn := h.2.1
  unfold f_X6_widestOf
  rw [sp_bnd]
  refine sp_lp_fn n (fun i => (Int32.ofNat (sp_wm x i), Int32.ofNat i)) (fun i hi rec => ?_) (fun rec => ?_) (sp_F_lt (by omega)) rfl
  · have h1 := sp_wm_le x i
    have h2 := sp_w_le x i
    rw [f_X6_widestOf_L4_eq, if_neg (fun q => by have := (sp_i_le (by omega) (by omega)).mp q; omega), sp_ld_at (show i < 48 by omega) (by omega), (sp_wX h hi).1]
    simp only [Option.bind_some, sp_bnd, sp_i_succ]
    rw [sp_wm]
    by_cases hw : sp_wm x i < sp_w x i
    · rw [if_pos hw, if_pos ((sp_i_lt (by omega) (by omega)).mpr hw)]
    · rw [if_neg hw, if_neg (fun q => hw ((sp_i_lt (by omega) (by omega)).mp q))]
  · rw [f_X6_widestOf_L4_eq, if_pos ((sp_i_le (by omega) (by omega)).mpr (Nat.le_refl n))]
theorem sp_widestM {x : sp_PrT} {n p : Nat} {mn cl le ri lt : Nat → Int32} (h : sp_prOK x n) (hp : p < 12) (hm : mn p = Int32.ofNat n) (hs : sp_same x cl le ri lt p n) : f_X10_widest (Int32.ofNat p) mn cl = some (Int32.ofNat (sp_wm x n)) := by
  have hn := h.2.1
  unfold f_X10_widest
  rw [sp_bnd]
  refine sp_lp_fn n (fun i => (Int32.ofNat (sp_wm x i), Int32.ofNat i)) (fun i hi rec => ?_) (fun rec => ?_) (sp_F_lt (by omega)) rfl
  · have h1 := sp_wm_le x i
    have h2 := sp_w_le x i
    rw [f_X10_widest_L4_eq, sp_ld_at hp (by omega), hm, if_neg (fun q => by have := (sp_i_le (by omega) (by omega)).mp q; omega), sp_i_24, sp_ld_at (show 24 * p + i < 288 by omega) (by omega), (hs i hi).1, (sp_wX h hi).2]
    simp only [Option.bind_some, sp_bnd, sp_i_succ]
    rw [sp_wm]
    by_cases hw : sp_wm x i < sp_w x i
    · rw [if_pos hw, if_neg (fun q => by have := (sp_i_le (by omega) (by omega)).mp q; omega)]
    · rw [if_neg hw, if_pos ((sp_i_le (by omega) (by omega)).mpr (by omega))]
  · rw [f_X10_widest_L4_eq, sp_ld_at hp (by omega), hm, if_pos ((sp_i_le (by omega) (by omega)).mpr (Nat.le_refl n))]
