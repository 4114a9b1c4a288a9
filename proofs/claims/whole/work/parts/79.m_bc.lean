/-! how many bits a long has: the class's library -/
theorem sb_shu64 {x : Nat} (hx : x < 2 ^ 64) {s : UInt64} {k : Nat} (hs : (s.toBitVec % 64).toNat = k) : ((Int64.ofNat x).toUInt64 >>> s).toInt64 = Int64.ofNat (x / 2 ^ k) := by
  have hd : x / 2 ^ k ≤ x := Nat.div_le_self _ _
  apply Int64.toBitVec_inj.mp
  rw [UInt64.toBitVec_toInt64, UInt64.toBitVec_shiftRight, Int64.toBitVec_toUInt64, Int64.toBitVec_ofNat', Int64.toBitVec_ofNat']
  apply BitVec.eq_of_toNat_eq
  rw [BitVec.ushiftRight_eq', BitVec.toNat_ushiftRight, hs, BitVec.toNat_ofNat, BitVec.toNat_ofNat, Nat.mod_eq_of_lt hx, Nat.shiftRight_eq_div_pow, Nat.mod_eq_of_lt (Nat.lt_of_le_of_lt hd hx)]
theorem sz_sub64 {a b : Nat} (h : b ≤ a) : Int64.ofNat a - Int64.ofNat b = Int64.ofNat (a - b) := by
  have : Int64.ofNat a = Int64.ofNat (a - b) + Int64.ofNat b := by rw [← Int64.ofNat_add]; congr 1; omega
  rw [this]
  simp
def sz_S1 (M x : Nat) : Nat := x - (x / 2 &&& M)
def sz_S2 (M x : Nat) : Nat := (x &&& M) + (x / 4 &&& M)
def sz_S3 (M x : Nat) : Nat := (x + x / 16) &&& M
theorem sz_and_dec {a m : Nat} (ha : a < 256) (hm : m < 256) (y M : Nat) : (256 * y + a) &&& (256 * M + m) = 256 * (y &&& M) + (a &&& m) := by
  have ha' : a < 2 ^ 8 := ha
  have hm' : m < 2 ^ 8 := hm
  have ham : a &&& m < 2 ^ 8 := Nat.and_lt_two_pow _ hm'
  apply Nat.eq_of_testBit_eq
  intro j
  have e1 := Nat.testBit_two_pow_mul_add y ha' j
  have e2 := Nat.testBit_two_pow_mul_add M hm' j
  have e3 := Nat.testBit_two_pow_mul_add (y &&& M) ham j
  rw [Nat.testBit_and]
  show ((2 ^ 8 * y + a).testBit j && (2 ^ 8 * M + m).testBit j) = (2 ^ 8 * (y &&& M) + (a &&& m)).testBit j
  rw [e1, e2, e3]
  by_cases q : j < 8
  · rw [if_pos q, if_pos q, if_pos q, Nat.testBit_and]
  · rw [if_neg q, if_neg q, if_neg q, Nat.testBit_and]
theorem sz_t1 : (List.range 256).all (fun a => (List.range 2).all (fun b => decide ((128 * b + a / 2) &&& 85 = a / 2 &&& 85))) = true := by decide +kernel
theorem sz_t2 : (List.range 256).all (fun a => (List.range 4).all (fun b => decide ((64 * b + a / 4) &&& 51 = a / 4 &&& 51))) = true := by decide +kernel
theorem sz_t3 : (List.range 256).all (fun a => decide (sz_S1 85 a < 256) && (decide (sz_S2 51 (sz_S1 85 a) ≤ 68) && (decide (sz_S2 51 (sz_S1 85 a) % 16 ≤ 4) && (decide (sz_S3 15 (sz_S2 51 (sz_S1 85 a)) = sp_pc a 8) && decide (sp_pc a 8 ≤ 8))))) = true := by decide +kernel
theorem sz_S1_dec {a : Nat} (ha : a < 256) (y M : Nat) : sz_S1 (256 * M + 85) (256 * y + a) = 256 * sz_S1 M y + sz_S1 85 a := by
  unfold sz_S1
  have e : (256 * y + a) / 2 = 256 * (y / 2) + (128 * (y % 2) + a / 2) := by omega
  have t := of_decide_eq_true (List.all_eq_true.mp (List.all_eq_true.mp sz_t1 a (List.mem_range.mpr ha)) (y % 2) (List.mem_range.mpr (by omega)))
  rw [e, sz_and_dec (by omega) (by omega), t]
  have h1 : y / 2 &&& M ≤ y / 2 := Nat.and_le_left
  have h2 : a / 2 &&& 85 ≤ a / 2 := Nat.and_le_left
  omega
theorem sz_S2_dec {a : Nat} (ha : a < 256) (y M : Nat) : sz_S2 (256 * M + 51) (256 * y + a) = 256 * sz_S2 M y + sz_S2 51 a := by
  unfold sz_S2
  have e : (256 * y + a) / 4 = 256 * (y / 4) + (64 * (y % 4) + a / 4) := by omega
  have t := of_decide_eq_true (List.all_eq_true.mp (List.all_eq_true.mp sz_t2 a (List.mem_range.mpr ha)) (y % 4) (List.mem_range.mpr (by omega)))
  rw [e, sz_and_dec ha (by omega), sz_and_dec (by omega) (by omega), t]
  omega
theorem sz_S3_dec {a : Nat} (ha : a ≤ 68) (y M : Nat) (hy : y % 16 ≤ 4) : sz_S3 (256 * M + 15) (256 * y + a) = 256 * sz_S3 M y + sz_S3 15 a := by
  unfold sz_S3
  have e : 256 * y + a + (256 * y + a) / 16 = 256 * (y + y / 16) + (16 * (y % 16) + (a + a / 16)) := by omega
  rw [e, sz_and_dec (by omega) (by omega)]
  have h1 : ∀ z : Nat, z &&& 15 = z % 16 := fun z => Nat.and_two_pow_sub_one_eq_mod z 4
  rw [h1, h1]
  omega
theorem sz_byte {a : Nat} (ha : a < 256) : sz_S1 85 a < 256 ∧ sz_S2 51 (sz_S1 85 a) ≤ 68 ∧ sz_S2 51 (sz_S1 85 a) % 16 ≤ 4 ∧ sz_S3 15 (sz_S2 51 (sz_S1 85 a)) = sp_pc a 8 ∧ sp_pc a 8 ≤ 8 := by
  have t := List.all_eq_true.mp sz_t3 a (List.mem_range.mpr ha)
  simp only [Bool.and_eq_true, decide_eq_true_iff] at t
  exact t
theorem sz_S1_0 (M : Nat) : sz_S1 M 0 = 0 := Nat.zero_sub _
theorem sz_S2_0 (M : Nat) : sz_S2 M 0 = 0 := by unfold sz_S2; simp
theorem sz_S3_0 (M : Nat) : sz_S3 M 0 = 0 := by unfold sz_S3; simp
theorem sz_pc_low {a : Nat} (ha : a < 256) (y : Nat) : ∀ i, i ≤ 8 → sp_pc (256 * y + a) i = sp_pc a i
  | 0, _ => rfl
  | i + 1, h => by
    have e := Nat.testBit_two_pow_mul_add y (show a < 2 ^ 8 from ha) i
    rw [if_pos (by omega)] at e
    have e' : (256 * y + a).testBit i = a.testBit i := e
    rw [sp_pc, sp_pc, sz_pc_low ha y i (by omega), e']
theorem sz_pc_dec {a : Nat} (ha : a < 256) (y : Nat) : ∀ k, sp_pc (256 * y + a) (8 + k) = sp_pc a 8 + sp_pc y k
  | 0 => sz_pc_low ha y 8 (Nat.le_refl _)
  | k + 1 => by
    have e := Nat.testBit_two_pow_mul_add y (show a < 2 ^ 8 from ha) (8 + k)
    rw [if_neg (by omega), show 8 + k - 8 = k by omega] at e
    have e' : (256 * y + a).testBit (8 + k) = y.testBit k := e
    rw [← Nat.add_assoc, sp_pc, sz_pc_dec ha y k, e']
    show _ = sp_pc a 8 + (sp_pc y k + if y.testBit k = true then 1 else 0)
    omega
theorem sz_swar {x : Nat} (hx : x < 2 ^ 24) : ∃ p0 p1 p2 : Nat, p0 ≤ 8 ∧ p1 ≤ 8 ∧ p2 ≤ 8 ∧ sp_pc x 24 = p0 + (p1 + p2) ∧ sz_S3 1085102592571150095 (sz_S2 3689348814741910323 (sz_S1 6148914691236517205 x)) = 256 * (256 * p2 + p1) + p0 ∧ sz_S1 6148914691236517205 x < 2 ^ 24 ∧ sz_S2 3689348814741910323 (sz_S1 6148914691236517205 x) < 2 ^ 24 := by
  have ha : x % 256 < 256 := by omega
  have hb : x / 256 % 256 < 256 := by omega
  have hc : x / 65536 < 256 := by omega
  have ex : x = 256 * (256 * (256 * 0 + x / 65536) + x / 256 % 256) + x % 256 := by omega
  generalize x % 256 = a at *
  generalize x / 256 % 256 = b at *
  generalize x / 65536 = c at *
  obtain ⟨a1, a2, a3, a4, a5⟩ := sz_byte ha
  obtain ⟨b1, b2, b3, b4, b5⟩ := sz_byte hb
  obtain ⟨c1, c2, c3, c4, c5⟩ := sz_byte hc
  have m1 : (6148914691236517205 : Nat) = 256 * (256 * (256 * 366503875925 + 85) + 85) + 85 := by decide
  have m2 : (3689348814741910323 : Nat) = 256 * (256 * (256 * 219902325555 + 51) + 51) + 51 := by decide
  have m3 : (1085102592571150095 : Nat) = 256 * (256 * (256 * 64677154575 + 15) + 15) + 15 := by decide
  have e1 : sz_S1 6148914691236517205 x = 256 * (256 * (256 * 0 + sz_S1 85 c) + sz_S1 85 b) + sz_S1 85 a := by
    rw [m1, ex, sz_S1_dec ha, sz_S1_dec hb, sz_S1_dec hc, sz_S1_0]
  have e2 : sz_S2 3689348814741910323 (256 * (256 * (256 * 0 + sz_S1 85 c) + sz_S1 85 b) + sz_S1 85 a) = 256 * (256 * (256 * 0 + sz_S2 51 (sz_S1 85 c)) + sz_S2 51 (sz_S1 85 b)) + sz_S2 51 (sz_S1 85 a) := by
    rw [m2, sz_S2_dec a1, sz_S2_dec b1, sz_S2_dec c1, sz_S2_0]
  have e3 : sz_S3 1085102592571150095 (256 * (256 * (256 * 0 + sz_S2 51 (sz_S1 85 c)) + sz_S2 51 (sz_S1 85 b)) + sz_S2 51 (sz_S1 85 a)) = 256 * (256 * (256 * 0 + sp_pc c 8) + sp_pc b 8) + sp_pc a 8 := by
    rw [m3, sz_S3_dec a2 _ _ (by omega), sz_S3_dec b2 _ _ (by omega), sz_S3_dec c2 _ _ (by omega), sz_S3_0, a4, b4, c4]
  refine ⟨sp_pc a 8, sp_pc b 8, sp_pc c 8, a5, b5, c5, ?_, ?_, ?_, ?_⟩
  · rw [ex]
    have k1 := sz_pc_dec ha (256 * (256 * 0 + c) + b) 16
    have k2 := sz_pc_dec hb (256 * 0 + c) 8
    have k3 : 256 * 0 + c = c := by omega
    rw [k3] at k1 k2 ⊢
    rw [show (24 : Nat) = 8 + 16 from rfl, k1, show (16 : Nat) = 8 + 8 from rfl, k2]
  · rw [e1, e2, e3]; omega
  · rw [e1]; omega
  · rw [e1, e2]; omega
theorem sz_bc64 {x : Nat} (hx : x < 2 ^ 24) : f_J13_bitCount_95d88 (Int64.ofNat x) = some (Int32.ofNat (sp_pc x 24)) := by
  obtain ⟨p0, p1, p2, h0, h1, h2, hp, e3, l1, l2⟩ := sz_swar hx
  have k1 : Int64.ofNat x - (((Int64.ofNat x).toUInt64 >>> ((1 : Int32).toInt64.toUInt64 &&& Int64.toUInt64 63)).toInt64 &&& (6148914691236517205 : Int64)) = Int64.ofNat (sz_S1 6148914691236517205 x) := by
    rw [sb_shu64 (k := 1) (by omega) (by decide), show (6148914691236517205 : Int64) = Int64.ofNat 6148914691236517205 from rfl, sb_and64, sz_sub64 (Nat.le_trans Nat.and_le_left (Nat.div_le_self _ _))]
    rfl
  have k2 : ∀ v : Nat, v < 2 ^ 24 → (Int64.ofNat v &&& (3689348814741910323 : Int64)) + (((Int64.ofNat v).toUInt64 >>> ((2 : Int32).toInt64.toUInt64 &&& Int64.toUInt64 63)).toInt64 &&& (3689348814741910323 : Int64)) = Int64.ofNat (sz_S2 3689348814741910323 v) := by
    intro v hv
    rw [sb_shu64 (k := 2) (by omega) (by decide), show (3689348814741910323 : Int64) = Int64.ofNat 3689348814741910323 from rfl, sb_and64, sb_and64, ← Int64.ofNat_add]
    rfl
  have k3 : ∀ v : Nat, v < 2 ^ 24 → (Int64.ofNat v + ((Int64.ofNat v).toUInt64 >>> ((4 : Int32).toInt64.toUInt64 &&& Int64.toUInt64 63)).toInt64) &&& (1085102592571150095 : Int64) = Int64.ofNat (sz_S3 1085102592571150095 v) := by
    intro v hv
    rw [sb_shu64 (k := 4) (by omega) (by decide), show (1085102592571150095 : Int64) = Int64.ofNat 1085102592571150095 from rfl, ← Int64.ofNat_add, sb_and64]
    rfl
  have k4 : ∀ v : Nat, v < 2 ^ 30 → Int64.ofNat v + ((Int64.ofNat v).toUInt64 >>> ((8 : Int32).toInt64.toUInt64 &&& Int64.toUInt64 63)).toInt64 = Int64.ofNat (v + v / 256) := by
    intro v hv
    rw [sb_shu64 (k := 8) (by omega) (by decide), ← Int64.ofNat_add]
  have k5 : ∀ v : Nat, v < 2 ^ 30 → Int64.ofNat v + ((Int64.ofNat v).toUInt64 >>> ((16 : Int32).toInt64.toUInt64 &&& Int64.toUInt64 63)).toInt64 = Int64.ofNat (v + v / 65536) := by
    intro v hv
    rw [sb_shu64 (k := 16) (by omega) (by decide), ← Int64.ofNat_add]
  have k6 : ∀ v : Nat, v < 2 ^ 30 → Int64.ofNat v + ((Int64.ofNat v).toUInt64 >>> ((32 : Int32).toInt64.toUInt64 &&& Int64.toUInt64 63)).toInt64 = Int64.ofNat (v + v / 4294967296) := by
    intro v hv
    rw [sb_shu64 (k := 32) (by omega) (by decide), ← Int64.ofNat_add]
  unfold f_J13_bitCount_95d88
  simp only [sp_bndE]
  rw [k1, k2 _ l1, k3 _ l2, e3, k4 _ (by omega), k5 _ (by omega), k6 _ (by omega), sb_to32, show (127 : Int32) = Int32.ofNat 127 from rfl, sb_and32, hp]
  have h7 : ∀ z : Nat, z &&& 127 = z % 128 := fun z => Nat.and_two_pow_sub_one_eq_mod z 7
  have q1 : (256 * (256 * p2 + p1) + p0) / 256 = 256 * p2 + p1 := by omega
  have q2 : (256 * (256 * p2 + p1) + p0 + (256 * p2 + p1)) / 65536 = p2 := by omega
  have q3 : (256 * (256 * p2 + p1) + p0 + (256 * p2 + p1) + p2) / 4294967296 = 0 := by omega
  have q4 : (256 * (256 * p2 + p1) + p0 + (256 * p2 + p1) + p2 + 0) % 128 = p0 + (p1 + p2) := by omega
  rw [h7, q1, q2, q3, q4]
