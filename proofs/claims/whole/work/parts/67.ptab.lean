/-! numbers' bits, tables of truths, follows -/
theorem sb_nd32 (a b : Nat) : Int32.ofNat a &&& (Int32.ofNat b ^^^ (-1 : Int32)) = Int32.ofNat (a ^^^ (a &&& b)) := by
  apply Int32.toBitVec_inj.mp
  rw [Int32.toBitVec_and, Int32.toBitVec_xor, Int32.toBitVec_ofNat', Int32.toBitVec_ofNat', Int32.toBitVec_ofNat', show (-1 : Int32).toBitVec = BitVec.allOnes 32 by decide]
  apply BitVec.eq_of_getLsbD_eq
  intro i hi
  rw [BitVec.getLsbD_and, BitVec.getLsbD_xor, BitVec.getLsbD_ofNat, BitVec.getLsbD_ofNat, BitVec.getLsbD_ofNat, BitVec.getLsbD_allOnes, Nat.testBit_xor, Nat.testBit_and]
  simp only [hi, decide_true, Bool.true_and]
  cases a.testBit i <;> cases b.testBit i <;> rfl
theorem sb_nd64 (a b : Nat) : Int64.ofNat a &&& (Int64.ofNat b ^^^ (-1 : Int64)) = Int64.ofNat (a ^^^ (a &&& b)) := by
  apply Int64.toBitVec_inj.mp
  rw [Int64.toBitVec_and, Int64.toBitVec_xor, Int64.toBitVec_ofNat', Int64.toBitVec_ofNat', Int64.toBitVec_ofNat', show (-1 : Int64).toBitVec = BitVec.allOnes 64 by decide]
  apply BitVec.eq_of_getLsbD_eq
  intro i hi
  rw [BitVec.getLsbD_and, BitVec.getLsbD_xor, BitVec.getLsbD_ofNat, BitVec.getLsbD_ofNat, BitVec.getLsbD_ofNat, BitVec.getLsbD_allOnes, Nat.testBit_xor, Nat.testBit_and]
  simp only [hi, decide_true, Bool.true_and]
  cases a.testBit i <;> cases b.testBit i <;> rfl
theorem sb_zero32 {a : Nat} (h : a < 2 ^ 31) : Int32.ofNat a = 0 ↔ a = 0 := by
  constructor
  · intro e
    have e2 := congrArg Int32.toInt e
    rw [Int32.toInt_ofNat_of_lt h] at e2
    have e3 : (0 : Int32).toInt = 0 := rfl
    omega
  · intro e; rw [e]; rfl
theorem sb_zero64 {a : Nat} (h : a < 2 ^ 63) : Int64.ofNat a = 0 ↔ a = 0 := by
  constructor
  · intro e
    have e2 := congrArg Int64.toInt e
    rw [lg_ofNat_toInt h] at e2
    have e3 : (0 : Int64).toInt = 0 := rfl
    omega
  · intro e; rw [e]; rfl
theorem sb_and0 {a m N : Nat} (hm : m < 2 ^ N) : (a &&& m = 0) ↔ ∀ k, k < N → ¬ (a.testBit k = true ∧ m.testBit k = true) := by
  constructor
  · intro e k _ hq
    have := congrArg (fun v => Nat.testBit v k) e
    simp [hq.1, hq.2] at this
  · intro hh
    apply Nat.eq_of_testBit_eq
    intro k
    rw [Nat.testBit_and, Nat.zero_testBit]
    by_cases hk : k < N
    · have := hh k hk
      cases h1 : a.testBit k <;> cases h2 : m.testBit k <;> simp_all
    · rw [Nat.testBit_lt_two_pow (Nat.lt_of_lt_of_le hm (Nat.pow_le_pow_right (by omega) (by omega)))]
      simp
theorem sb_nd0 {a b N : Nat} (ha : a < 2 ^ N) : (a ^^^ (a &&& b) = 0) ↔ ∀ k, k < N → a.testBit k = true → b.testBit k = true := by
  constructor
  · intro e k _ hq
    have := congrArg (fun v => Nat.testBit v k) e
    simp [hq] at this
    exact this
  · intro hh
    apply Nat.eq_of_testBit_eq
    intro k
    rw [Nat.testBit_xor, Nat.testBit_and, Nat.zero_testBit]
    by_cases hk : k < N
    · have := hh k hk
      cases h1 : a.testBit k <;> cases h2 : b.testBit k <;> simp_all
    · rw [Nat.testBit_lt_two_pow (Nat.lt_of_lt_of_le ha (Nat.pow_le_pow_right (by omega) (by omega)))]
      simp
theorem sb_nd_lt {a b N : Nat} (ha : a < 2 ^ N) : a ^^^ (a &&& b) < 2 ^ N := Nat.xor_lt_two_pow ha (by rw [Nat.and_comm]; exact Nat.and_lt_two_pow _ ha)
theorem sp_isPart_bit {n k : Nat} (hk : k < 31) : f_X0_isPart (Int32.ofNat (2 ^ k)) (Int32.ofNat n) = some (if n.testBit k then 1 else 0) := by
  unfold f_X0_isPart
  rw [sb_nd32]
  have hlt : 2 ^ k < 2 ^ 31 := Nat.pow_lt_pow_right (by omega) hk
  have e := sb_zero32 (sb_nd_lt (b := n) hlt)
  have e2 := sb_nd0 (b := n) hlt
  have key : (2 ^ k ^^^ (2 ^ k &&& n) = 0) ↔ n.testBit k = true := by
    rw [e2]
    constructor
    · intro q; exact q k hk (by simp)
    · intro q j _ hj
      rw [Nat.testBit_two_pow] at hj
      have : k = j := of_decide_eq_true hj
      rw [← this]; exact q
  by_cases hb : n.testBit k = true
  · rw [if_pos (e.mpr (key.mpr hb)), if_pos hb]
  · rw [if_neg (fun q => hb (key.mp (e.mp q))), if_neg hb]
theorem sp_i_add (a b : Nat) : Int32.ofNat a + Int32.ofNat b = Int32.ofNat (a + b) := (Int32.ofNat_add a b).symm
theorem sp_plainN {k : Nat} (hk : k < 25) : f_X0_plain (Int32.ofNat k) = some (Int32.ofNat (2 ^ k)) := by
  unfold f_X0_plain; rw [sb_one32 (by omega)]
theorem sp_negN {k : Nat} (hk : k < 25) : f_X0_negated (Int32.ofNat k) = some (Int32.ofNat (2 ^ (k + 6))) := by
  unfold f_X0_negated
  have : Int32.ofNat k + (6 : Int32) = Int32.ofNat (k + 6) := sp_i_add k 6
  rw [this, sb_one32 (by omega)]
def sp_tx (n : Nat) : Nat → Int64
  | 0 => 0
  | k + 1 => sp_tx n k ||| (if n.testBit k then sp_lt k else 0) ||| (if n.testBit (k + 6) then sp_lt k ^^^ (-1 : Int64) else 0)
theorem sp_tableOf (n : Nat) : f_X0_tableOf (Int32.ofNat n) = some (sp_tx n 6) := by
  unfold f_X0_tableOf
  rw [sp_bnd]
  refine sp_lp_fn 6 (fun i => (sp_tx n i, Int32.ofNat i)) (fun i hi rec => ?_) (fun rec => ?_) (sp_F_lt (by omega)) rfl
  · rw [f_X0_tableOf_L4_eq, if_neg (fun q => by have := (sp_i_le (i := 6) (n := i) (by omega) (by omega)).mp q; omega), sp_plainN (by omega), sp_negN (by omega)]
    simp only [Option.bind_some, sp_bnd, sp_isPart_bit (show i < 31 by omega), sp_isPart_bit (show i + 6 < 31 by omega), sp_ld_at (show i < 6 by omega) (by omega : 6 < 1000000), sp_i_succ]
    rw [sp_tx]
    by_cases h1 : n.testBit i = true <;> by_cases h2 : n.testBit (i + 6) = true <;> simp [h1, h2]
  · rw [f_X0_tableOf_L4_eq, if_pos (show (6 : Int32) ≤ Int32.ofNat 6 by decide)]
def sp_tr (n m : Nat) : Nat → Bool
  | 0 => false
  | k + 1 => sp_tr n m k || (n.testBit k && m.testBit k) || (n.testBit (k + 6) && !m.testBit k)
theorem sp_tr_iff (n m : Nat) : ∀ K, sp_tr n m K = true ↔ ∃ k, k < K ∧ ((n.testBit k = true ∧ m.testBit k = true) ∨ (n.testBit (k + 6) = true ∧ m.testBit k = false))
  | 0 => by simp [sp_tr]
  | K + 1 => by
    rw [sp_tr, Bool.or_eq_true, Bool.or_eq_true, sp_tr_iff n m K, Bool.and_eq_true, Bool.and_eq_true]
    constructor
    · rintro ((⟨k, hk, hh⟩ | hh) | hh)
      · exact ⟨k, by omega, hh⟩
      · exact ⟨K, by omega, Or.inl hh⟩
      · exact ⟨K, by omega, Or.inr ⟨hh.1, by simpa using hh.2⟩⟩
    · rintro ⟨k, hk, hh⟩
      by_cases e : k = K
      · subst e
        rcases hh with hh | hh
        · exact Or.inl (Or.inr hh)
        · exact Or.inr ⟨hh.1, by simp [hh.2]⟩
      · exact Or.inl (Or.inl ⟨k, by omega, hh⟩)
theorem sp_lt_bit : ∀ k, k < 6 → ∀ m, m < 64 → (sp_lt k).toBitVec.getLsbD m = m.testBit k := by decide +kernel
theorem sp_tx_bit (n m : Nat) (hm : m < 64) : ∀ k, k ≤ 6 → (sp_tx n k).toBitVec.getLsbD m = sp_tr n m k
  | 0, _ => by simp [sp_tx, sp_tr]
  | k + 1, hk => by
    have ih := sp_tx_bit n m hm k (by omega)
    have hb := sp_lt_bit k (by omega) m hm
    rw [sp_tx, sp_tr, Int64.toBitVec_or, Int64.toBitVec_or, BitVec.getLsbD_or, BitVec.getLsbD_or, ih]
    congr 1
    · congr 1
      cases n.testBit k
      · simp
      · simp [hb]
    · cases n.testBit (k + 6)
      · simp
      · rw [if_pos rfl, Int64.toBitVec_xor, show (-1 : Int64).toBitVec = BitVec.allOnes 64 by decide, BitVec.getLsbD_xor, BitVec.getLsbD_allOnes, hb]
        simp only [hm, decide_true, Bool.xor_true, Bool.true_and]
theorem sp_isTrueIn {n m : Nat} (hn : n < 4096) (hm : m < 64) : f_X10_isTrueIn (Int32.ofNat n) (Int32.ofNat m) = some (if sp_tr n m 6 then 1 else 0) := by
  unfold f_X10_isTrueIn
  have hs : Int32.ofNat n >>> ((6 : Int32) &&& 31) = Int32.ofNat (n / 2 ^ 6) := sb_shr32 (l := 6) (by omega) (by omega)
  have hd : n / 2 ^ 6 < 2 ^ 6 := by omega
  rw [hs, sb_nd32, sb_and32]
  have e1 := sb_zero32 (a := n &&& m) (Nat.and_lt_two_pow n (by omega : m < 2 ^ 31))
  have e2 := sb_zero32 (Nat.lt_of_lt_of_le (sb_nd_lt (b := m) hd) (by omega))
  have f1 := sb_and0 (a := n) (m := m) (N := 6) (by omega)
  have f2 := sb_nd0 (b := m) hd
  have hb : ∀ k, (n / 2 ^ 6).testBit k = n.testBit (k + 6) := fun k => by rw [Nat.testBit_div_two_pow]
  by_cases q1 : n &&& m = 0
  · rw [if_pos (e1.mpr q1)]
    by_cases q2 : n / 2 ^ 6 ^^^ (n / 2 ^ 6 &&& m) = 0
    · rw [if_pos (e2.mpr q2), if_neg]
      intro hq
      obtain ⟨k, hk, hh⟩ := (sp_tr_iff n m 6).mp hq
      rcases hh with hh | hh
      · exact f1.mp q1 k hk hh
      · have := f2.mp q2 k hk (by rw [hb]; exact hh.1)
        rw [hh.2] at this
        exact absurd this (by decide)
    · rw [if_neg (fun q => q2 (e2.mp q)), if_pos]
      rw [sp_tr_iff]
      apply Classical.byContradiction
      intro hno
      apply q2
      rw [f2]
      intro k hk hbk
      rw [hb] at hbk
      cases hmk : m.testBit k
      · exact absurd ⟨k, hk, Or.inr ⟨hbk, hmk⟩⟩ hno
      · rfl
  · rw [if_neg (fun q => q1 (e1.mp q)), if_pos]
    rw [sp_tr_iff]
    apply Classical.byContradiction
    intro hno
    apply q1
    rw [f1]
    intro k hk hh
    exact hno ⟨k, hk, Or.inl hh⟩
def sp_tm (n : Nat) : Nat → Int64
  | 0 => 0
  | i + 1 => sp_tm n i ||| (if sp_tr n i 6 then (1 : Int64) <<< ((Int32.ofNat i).toInt64 &&& 63) else 0)
theorem sp_one_bit : ∀ l, l < 64 → ∀ m, m < 64 → ((1 : Int64) <<< ((Int32.ofNat l).toInt64 &&& 63)).toBitVec.getLsbD m = decide (m = l) := by decide +kernel
theorem sp_tm_bit (n m : Nat) (hm : m < 64) : ∀ i, i ≤ 64 → (sp_tm n i).toBitVec.getLsbD m = (decide (m < i) && sp_tr n m 6)
  | 0, _ => by simp [sp_tm]
  | i + 1, hi => by
    have ih := sp_tm_bit n m hm i (by omega)
    have hb := sp_one_bit i (by omega) m hm
    rw [sp_tm, Int64.toBitVec_or, BitVec.getLsbD_or, ih]
    by_cases e : m = i
    · subst e
      cases hc : sp_tr n m 6
      · simp
      · rw [if_pos rfl, hb]; simp
    · have e3 : decide (m < i + 1) = decide (m < i) := by
        rw [decide_eq_decide]; omega
      rw [e3]
      cases hc : sp_tr n i 6
      · simp
      · rw [if_pos rfl, hb]; simp [e]
theorem sp_tm_tx {n : Nat} : sp_tm n 64 = sp_tx n 6 := by
  apply Int64.toBitVec_inj.mp
  apply BitVec.eq_of_getLsbD_eq
  intro m hm
  rw [sp_tm_bit n m hm 64 (by omega), sp_tx_bit n m hm 6 (by omega)]
  simp [hm]
theorem sp_truthsOf {n : Nat} (hn : n < 4096) : f_X10_truthsOf (Int32.ofNat n) = some (sp_tx n 6) := by
  rw [← sp_tm_tx]
  unfold f_X10_truthsOf
  rw [sp_bnd]
  refine sp_lp_fn 64 (fun i => (sp_tm n i, Int32.ofNat i)) (fun i hi rec => ?_) (fun rec => ?_) (sp_F_lt (by omega)) rfl
  · rw [f_X10_truthsOf_L4_eq, if_neg (fun q => by have := (sp_i_le (i := 64) (n := i) (by omega) (by omega)).mp q; omega), sp_isTrueIn hn hi]
    simp only [Option.bind_some, sp_bnd, sp_i_succ]
    rw [sp_tm]
    cases hc : sp_tr n i 6 <;> simp
  · rw [f_X10_truthsOf_L4_eq, if_pos (show (64 : Int32) ≤ Int32.ofNat 64 by decide)]
/-- the table of a clause -/
def sp_T (c : Int32) : Int64 := sp_tx c.toNatClampNeg 6
theorem sp_tabX {c : Int32} (h : f_X10_isClause c = some 1) : f_X0_tableOf c = some (sp_T c) := by
  obtain ⟨n, hn, rfl⟩ := sp_isClause1 h
  rw [sp_tableOf, sp_T, sp_i_nat (by omega)]
theorem sp_tabM {c : Int32} (h : f_X10_isClause c = some 1) : f_X10_truthsOf c = some (sp_T c) := by
  obtain ⟨n, hn, rfl⟩ := sp_isClause1 h
  rw [sp_truthsOf hn, sp_T, sp_i_nat (by omega)]
