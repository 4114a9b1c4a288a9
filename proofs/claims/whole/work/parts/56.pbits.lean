/-! sets as numbers -/
theorem sb_or32 (a b : Nat) : Int32.ofNat a ||| Int32.ofNat b = Int32.ofNat (a ||| b) := by
  apply Int32.toBitVec_inj.mp
  rw [Int32.toBitVec_or, Int32.toBitVec_ofNat', Int32.toBitVec_ofNat', Int32.toBitVec_ofNat']
  apply BitVec.eq_of_getLsbD_eq
  intro i hi
  simp [BitVec.getLsbD_ofNat, hi]
theorem sb_and32 (a b : Nat) : Int32.ofNat a &&& Int32.ofNat b = Int32.ofNat (a &&& b) := by
  apply Int32.toBitVec_inj.mp
  rw [Int32.toBitVec_and, Int32.toBitVec_ofNat', Int32.toBitVec_ofNat', Int32.toBitVec_ofNat']
  apply BitVec.eq_of_getLsbD_eq
  intro i hi
  simp [BitVec.getLsbD_ofNat, hi]
theorem sb_or64 (a b : Nat) : Int64.ofNat a ||| Int64.ofNat b = Int64.ofNat (a ||| b) := by
  apply Int64.toBitVec_inj.mp
  rw [Int64.toBitVec_or, Int64.toBitVec_ofNat', Int64.toBitVec_ofNat', Int64.toBitVec_ofNat']
  apply BitVec.eq_of_getLsbD_eq
  intro i hi
  simp [BitVec.getLsbD_ofNat, hi]
theorem sb_and64 (a b : Nat) : Int64.ofNat a &&& Int64.ofNat b = Int64.ofNat (a &&& b) := by
  apply Int64.toBitVec_inj.mp
  rw [Int64.toBitVec_and, Int64.toBitVec_ofNat', Int64.toBitVec_ofNat', Int64.toBitVec_ofNat']
  apply BitVec.eq_of_getLsbD_eq
  intro i hi
  simp [BitVec.getLsbD_ofNat, hi]
theorem sb_one32' : ∀ l, l < 31 → (1 : Int32) <<< (Int32.ofNat l &&& 31) = Int32.ofNat (2 ^ l) := by decide +kernel
theorem sb_one32 {l : Nat} (h : l < 31) : (1 : Int32) <<< (Int32.ofNat l &&& 31) = Int32.ofNat (2 ^ l) := sb_one32' l h
theorem sb_one64' : ∀ l, l < 63 → (1 : Int64) <<< ((Int32.ofNat l).toInt64 &&& 63) = Int64.ofNat (2 ^ l) := by decide +kernel
theorem sb_one64 {l : Nat} (h : l < 63) : (1 : Int64) <<< ((Int32.ofNat l).toInt64 &&& 63) = Int64.ofNat (2 ^ l) := sb_one64' l h
theorem sb_s32 : ∀ l, l < 31 → ((Int32.ofNat l &&& 31).toBitVec.smod 32).toNat = l := by decide +kernel
theorem sb_s64 : ∀ l, l < 63 → (((Int32.ofNat l).toInt64 &&& 63).toBitVec.smod 64).toNat = l := by decide +kernel
theorem sb_shr32 {a l : Nat} (ha : a < 2 ^ 31) (hl : l < 31) : Int32.ofNat a >>> (Int32.ofNat l &&& 31) = Int32.ofNat (a / 2 ^ l) := by
  have hd : a / 2 ^ l ≤ a := Nat.div_le_self _ _
  apply Int32.toInt_inj.mp
  have e : (Int32.ofNat a >>> (Int32.ofNat l &&& 31)).toInt = (Int32.ofNat a).toInt >>> l := by
    have h1 := sb_s32 l hl
    conv => rhs; rw [← h1]
    exact BitVec.toInt_sshiftRight ..
  rw [e, Int.shiftRight_eq_div_pow, Int32.toInt_ofNat_of_lt ha, Int32.toInt_ofNat_of_lt (by omega)]
  rfl
theorem sb_shr64 {a l : Nat} (ha : a < 2 ^ 63) (hl : l < 63) : Int64.ofNat a >>> ((Int32.ofNat l).toInt64 &&& 63) = Int64.ofNat (a / 2 ^ l) := by
  have hd : a / 2 ^ l ≤ a := Nat.div_le_self _ _
  apply Int64.toInt_inj.mp
  have e : (Int64.ofNat a >>> ((Int32.ofNat l).toInt64 &&& 63)).toInt = (Int64.ofNat a).toInt >>> l := by
    have h1 := sb_s64 l hl
    conv => rhs; rw [← h1]
    exact BitVec.toInt_sshiftRight ..
  rw [e, Int.shiftRight_eq_div_pow, lg_ofNat_toInt ha, lg_ofNat_toInt (by omega)]
  rfl
theorem sb_tb (a l : Nat) : a / 2 ^ l &&& 1 = if a.testBit l then 1 else 0 := by
  rw [show (1 : Nat) = 2 ^ 1 - 1 from rfl, Nat.and_two_pow_sub_one_eq_mod, Nat.testBit_eq_decide_div_mod_eq]
  have : a / 2 ^ l % 2 < 2 := Nat.mod_lt _ (by omega)
  by_cases h : a / 2 ^ l % 2 = 1
  · simp [h]
  · simp [h]; omega
theorem sb_bit32 {a l : Nat} (ha : a < 2 ^ 31) (hl : l < 31) : (Int32.ofNat a >>> (Int32.ofNat l &&& 31)) &&& (1 : Int32) = if a.testBit l then 1 else 0 := by
  rw [sb_shr32 ha hl, show (1 : Int32) = Int32.ofNat 1 from rfl, sb_and32, sb_tb]
  split <;> rfl
theorem sb_bit64 {a l : Nat} (ha : a < 2 ^ 63) (hl : l < 63) : (Int64.ofNat a >>> ((Int32.ofNat l).toInt64 &&& 63)) &&& (1 : Int64) = if a.testBit l then 1 else 0 := by
  rw [sb_shr64 ha hl, show (1 : Int64) = Int64.ofNat 1 from rfl, sb_and64, sb_tb]
  split <;> rfl
theorem sp_isIn {a l : Nat} (ha : a < 2 ^ 63) (hl : l < 63) : f_X9_isIn (Int32.ofNat l) (Int64.ofNat a) = some (if a.testBit l then 1 else 0) := by
  unfold f_X9_isIn
  rw [sb_bit64 ha hl]
  by_cases h : a.testBit l = true
  · rw [if_pos h, if_pos h]; rfl
  · rw [if_neg h, if_neg h]; rfl
theorem sb_to32 {a : Nat} : (Int64.ofNat a).toInt32 = Int32.ofNat a := by
  apply Int32.toBitVec_inj.mp
  rw [Int64.toBitVec_toInt32, Int64.toBitVec_ofNat', Int32.toBitVec_ofNat']
  apply BitVec.eq_of_getLsbD_eq
  intro i hi
  simp [BitVec.getLsbD_ofNat, BitVec.getLsbD_setWidth, hi]
  omega
/-- the set on which a line rests: going back i lines from the end -/
def sp_rs (lt le ri : Nat → Int32) (e : Nat) : Nat → Nat
  | 0 => 2 ^ e
  | i + 1 => if (sp_rs lt le ri e i).testBit (e - i) = true ∧ ¬ lt (e - i) = -9 then sp_rs lt le ri e i ||| (2 ^ (le (e - i)).toNatClampNeg ||| 2 ^ (ri (e - i)).toNatClampNeg) else sp_rs lt le ri e i
def sp_rest (lt le ri : Nat → Int32) (n : Nat) : Nat := sp_rs lt le ri (n - 1) n
theorem sp_rs_lt {x : sp_PrT} {n e : Nat} (h : sp_prOK x n) (he : e < n) : ∀ i, i ≤ e + 1 → sp_rs x.2.2.2.1 x.2.1 x.2.2.1 e i < 2 ^ n
  | 0, _ => Nat.pow_lt_pow_right (by omega) he
  | i + 1, hi => by
    have ih := sp_rs_lt h he i (by omega)
    rw [sp_rs]
    split
    · rename_i hc
      rcases sp_ground h (show e - i < n by omega) with ⟨a, -⟩ | ⟨-, a, b, k, ha, hb, hk, e1, e2, -⟩
      · exact absurd a hc.2
      · rw [e1, e2, sp_i_nat (by have := h.2.1; omega), sp_i_nat (by have := h.2.1; omega)]
        exact Nat.or_lt_two_pow ih (Nat.or_lt_two_pow (Nat.pow_lt_pow_right (by omega) (by omega)) (Nat.pow_lt_pow_right (by omega) (by omega)))
    · exact ih
