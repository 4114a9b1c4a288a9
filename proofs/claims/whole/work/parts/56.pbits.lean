/-! sets as numbers -/
theorem sb_or32 (a b : Nat) : Int32.ofNat a ||| Int32.ofNat b = Int32.ofNat (a ||| b) := by
  apply Int32.toBitVec_inj.mp
  rw [Int32.toBitVec_or, Int32.toBitVec_ofNat', Int32.toBitVec_ofNat', Int32.toBitVec_ofNat']
  apply BitVec.eq_of_getLsbD_eq
  intro i hi
  simp [BitVec.getLsbD_ofNat, hi]
theorem sb_and32 (a b : Nat) : Int32.ofNat a &&& Int32.ofNat b = Int32.ofNat (a &&& b) := by
  apply Int32.toBitVec_inj.mp
  rw [Int32.toBitVec_and, Int32.toBitVec_ofNat', Int32.toBitVec_ofNat', Int32.toBitVec_ofNat']
  apply BitVec.eq_of_getLsbD_eq
  intro i hi
  simp [BitVec.getLsbD_ofNat, hi]
theorem sb_or64 (a b : Nat) : Int64.ofNat a ||| Int64.ofNat b = Int64.ofNat (a ||| b) := by
  apply Int64.toBitVec_inj.mp
  rw [Int64.toBitVec_or, Int64.toBitVec_ofNat', Int64.toBitVec_ofNat', Int64.toBitVec_ofNat']
  apply BitVec.eq_of_getLsbD_eq
  intro i hi
  simp [BitVec.getLsbD_ofNat, hi]
theorem sb_and64 (a b : Nat) : Int64.ofNat a &&& Int64.ofNat b = Int64.ofNat (a &&& b) := by
  apply Int64.toBitVec_inj.mp
  rw [Int64.toBitVec_and, Int64.toBitVec_ofNat', Int64.toBitVec_ofNat', Int64.toBitVec_ofNat']
  apply BitVec.eq_of_getLsbD_eq
  intro i hi
  simp [BitVec.getLsbD_ofNat, hi]
theorem sb_one32' : ∀ l, l < 31 → (1 : Int32) <<< (Int32.ofNat l &&& 31) = Int32.ofNat (2 ^ l) := by decide +kernel
theorem sb_one32 {l : Nat} (h : l < 31) : (1 : Int32) <<< (Int32.ofNat l &&& 31) = Int32.ofNat (2 ^ l) := sb_one32' l h
theorem sb_one64' : ∀ l, l < 63 → (1 : Int64) <<< ((Int32.ofNat l).toInt64 &&& 63) = Int64.ofNat (2 ^ l) := by decide +kernel
theorem sb_one64 {l : Nat} (h : l < 63) : (1 : Int64) <<< ((Int32.ofNat l).toInt64 &&& 63) = Int64.ofNat (2 ^ l) := sb_one64' l h
theorem sb_s32 : ∀ l, l < 31 → ((Int32.ofNat l &&& 31).toBitVec.smod 32).toNat = l := by decide +kernel
theorem sb_s64 : ∀ l, l < 63 → (((Int32.ofNat l).toInt64 &&& 63).toBitVec.smod 64).toNat = l := by decide +kernel
theorem sb_shr32 {a l : Nat} (ha : a < 2 ^ 31) (hl : l < 31) : Int32.ofNat a >>> (Int32.ofNat l &&& 31) = Int32.ofNat (a / 2 ^ l) := by
  have hd : a / 2 ^ l ≤ a := Nat.div_le_self _ _
  apply Int32.toInt_inj.mp
  have e : (Int32.ofNat a >>> (Int32.ofNat l &&& 31)).toInt = (Int32.ofNat a).toInt >>> l := by
    have h1 := sb_s32 l hl
    conv => rhs; rw [← h1]
    exact BitVec.toInt_sshiftRight ..
  rw [e, Int.shiftRight_eq_div_pow, Int32.toInt_ofNat_of_lt ha, Int32.toInt_ofNat_of_lt (by omega)]
  rfl
theorem sb_shr64 {a l : Nat} (ha : a < 2 ^ 63) (hl : l < 63) : Int64.ofNat a >>> ((Int32.ofNat l).toInt64 &&& 63) = Int64.ofNat (a / 2 ^ l) := by
  have hd : a / 2 ^ l ≤ a := Nat.div_le_self _ _
  apply Int64.toInt_inj.mp
  have e : (Int64.ofNat a >>> ((Int32.ofNat l).toInt64 &&& 63)).toInt = (Int64.ofNat a).toInt >>> l := by
    have h1 := sb_s64 l hl
    conv => rhs; rw [← h1]
    exact BitVec.toInt_sshiftRight ..
  rw [e, Int.shiftRight_eq_div_pow, lg_ofNat_toInt ha, lg_ofNat_toInt (by omega)]
  rfl
theorem sb_tb (a l : Nat) : a / 2 ^ l &&& 1 = if a.testBit l then 1 else 0 := by
  rw [show (1 : Nat) = 2 ^ 1 - 1 from rfl, Nat.and_two_pow_sub_one_eq_mod, Nat.testBit_eq_decide_div_mod_eq]
  have : a / 2 ^ l % 2 < 2 := Nat.mod_lt _ (by omega)
  by_cases h : a / 2 ^ l % 2 = 1
  · simp [h]
  · simp [h]; omega
theorem sb_bit32 {a l : Nat} (ha : a < 2 ^ 31) (hl : l < 31) : (Int32.ofNat a >>> (Int32.ofNat l &&& 31)) &&& (1 : Int32) = if a.testBit l then 1 else 0 := by
  rw [sb_shr32 ha hl, show (1 : Int32) = Int32.ofNat 1 from rfl, sb_and32, sb_tb]
  split <;> rfl
theorem sb_bit64 {a l : Nat} (ha : a < 2 ^ 63) (hl : l < 63) : (Int64.ofNat a >>> ((Int32.ofNat l).toInt64 &&& 63)) &&& (1 : Int64) = if a.testBit l then 1 else 0 := by
  rw [sb_shr64 ha hl, show (1 : Int64) = Int64.ofNat 1 from rfl, sb_and64, sb_tb]
  split <;> rfl
theorem sp_isIn {a l : Nat} (ha : a < 2 ^ 63) (hl : l < 63) : f_X9_isIn (Int32.ofNat l) (Int64.ofNat a) = some (if a.testBit l then 1 else 0) := by
  unfold f_X9_isIn
  rw [sb_bit64 ha hl]
  by_cases h : a.testBit l = true
  · rw [if_pos h, if_pos h]; rfl
  · rw [if_neg h, if_neg h]; rfl
theorem sb_to32 {a : Nat} : (Int64.ofNat a).toInt32 = Int32.ofNat a := by
  apply Int32.toBitVec_inj.mp
  rw [Int64.toBitVec_toInt32, Int64.toBitVec_ofNat', Int32.toBitVec_ofNat']
  apply BitVec.eq_of_getLsbD_eq
  intro i hi
  have h64 : i < 64 := by omega
  rw [BitVec.getLsbD_signExtend, BitVec.getLsbD_ofNat, BitVec.getLsbD_ofNat]
  simp [hi, h64]
/-- the set on which a line rests: going back i lines from the end -/
def sp_rs (lt le ri : Nat → Int32) (e : Nat) : Nat → Nat
  | 0 => 2 ^ e
  | i + 1 => if (sp_rs lt le ri e i).testBit (e - i) = true ∧ ¬ lt (e - i) = -9 then sp_rs lt le ri e i ||| (2 ^ (le (e - i)).toNatClampNeg ||| 2 ^ (ri (e - i)).toNatClampNeg) else sp_rs lt le ri e i
def sp_rest (lt le ri : Nat → Int32) (n : Nat) : Nat := sp_rs lt le ri (n - 1) n
theorem sp_rs_lt {x : sp_PrT} {n e : Nat} (h : sp_prOK x n) (he : e < n) : ∀ i, i ≤ e + 1 → sp_rs x.2.2.2.1 x.2.1 x.2.2.1 e i < 2 ^ n
  | 0, _ => Nat.pow_lt_pow_right (by omega) he
  | i + 1, hi => by
    have ih := sp_rs_lt h he i (by omega)
    rw [sp_rs]
    split
    · rename_i hc
      rcases sp_ground h (show e - i < n by omega) with ⟨a, -⟩ | ⟨-, a, b, k, ha, hb, hk, e1, e2, -⟩
      · exact absurd a hc.2
      · rw [e1, e2, sp_i_nat (by have := h.2.1; omega), sp_i_nat (by have := h.2.1; omega)]
        exact Nat.or_lt_two_pow ih (Nat.or_lt_two_pow (Nat.pow_lt_pow_right (by omega) (by omega)) (Nat.pow_lt_pow_right (by omega) (by omega)))
    · exact ih
theorem sp_minus1 : (0 : Int32) + (-1 : Int32) = -1 := by decide
theorem sp_i_m1 {i : Nat} (hi : 1 ≤ i) : Int32.ofNat i + (-1 : Int32) = Int32.ofNat (i - 1) := by
  rw [← sp_i_pred hi, Int32.sub_eq_add_neg]
/-- the place i steps back from e, or -1 -/
def sp_bk (e i : Nat) : Int32 := if i ≤ e then Int32.ofNat (e - i) else -1
theorem sp_bk_next {e i : Nat} (hi : i ≤ e) : Int32.ofNat (e - i) + (-1 : Int32) = sp_bk e (i + 1) := by
  unfold sp_bk
  split
  · rw [sp_i_m1 (by omega)]; congr 1
  · rw [show e - i = 0 by omega]; rfl
theorem sp_restX {x : sp_PrT} {n e : Nat} (h : sp_prOK x n) (he : e < n) (k : Int64 → Option Int64) : sp_lp (f_X2_restSetOf_L7 k x.2.1 x.2.2.1) sp_F (Int64.ofNat (2 ^ e), Int32.ofNat e) = k (Int64.ofNat (sp_rs x.2.2.2.1 x.2.1 x.2.2.1 e (e + 1))) := by
  have hn := h.2.1
  have h24 : ∀ i, i ≤ e + 1 → sp_rs x.2.2.2.1 x.2.1 x.2.2.1 e i < 2 ^ 63 := fun i hi => Nat.lt_of_lt_of_le (sp_rs_lt h he i hi) (Nat.pow_le_pow_right (by omega) (by omega))
  refine sp_lp_fn (e + 1) (fun i => (Int64.ofNat (sp_rs x.2.2.2.1 x.2.1 x.2.2.1 e i), sp_bk e i)) (fun i hi rec => ?_) (fun rec => ?_) (sp_F_lt (by omega)) ?_
  · have hb : sp_bk e i = Int32.ofNat (e - i) := by unfold sp_bk; rw [if_pos (by omega)]
    rw [hb, f_X2_restSetOf_L7_eq, if_neg (sp_i_nn (by omega)), sp_isIn (h24 i (by omega)) (by omega), sp_isGround h (show e - i < n by omega)]
    simp only [Option.bind_some, sp_bnd, sp_bk_next (show i ≤ e by omega), sp_ld_at (show e - i < 48 by omega) (by omega : 48 < 1000000)]
    rw [sp_rs]
    by_cases ht : (sp_rs x.2.2.2.1 x.2.1 x.2.2.1 e i).testBit (e - i) = true
    · by_cases hg : x.2.2.2.1 (e - i) = -9
      · simp [ht, hg]
      · rcases sp_ground h (show e - i < n by omega) with ⟨a, -⟩ | ⟨-, a, b, c, ha, hb', hc, e1, e2, -⟩
        · exact absurd a hg
        · have w : Int64.ofNat (sp_rs x.2.2.2.1 x.2.1 x.2.2.1 e i) ||| (((1 : Int64) <<< ((x.2.1 (e - i)).toInt64 &&& 63)) ||| ((1 : Int64) <<< ((x.2.2.1 (e - i)).toInt64 &&& 63))) = Int64.ofNat (sp_rs x.2.2.2.1 x.2.1 x.2.2.1 e i ||| (2 ^ (x.2.1 (e - i)).toNatClampNeg ||| 2 ^ (x.2.2.1 (e - i)).toNatClampNeg)) := by
            rw [e1, e2, sp_i_nat (by omega), sp_i_nat (by omega), sb_one64 (by omega), sb_one64 (by omega), sb_or64, sb_or64]
          rw [w]
          simp [ht, hg]
    · simp [ht]
  · have hb : sp_bk e (e + 1) = -1 := by unfold sp_bk; rw [if_neg (by omega)]
    rw [hb, f_X2_restSetOf_L7_eq, if_pos (by decide)]
  · show _ = (Int64.ofNat (2 ^ e), sp_bk e 0)
    unfold sp_bk
    simp
