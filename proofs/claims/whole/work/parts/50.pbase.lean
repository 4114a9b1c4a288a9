/-! pure programs: loops, rows, numbers -/
theorem sp_lp_up {σ β : Type} (F : (σ → Option β) → σ → Option β) (o : Option β) (n : Nat) (P : Nat → σ → Prop) (hstep : ∀ i s, i < n → P i s → (∀ rec, F rec s = o) ∨ ∃ s', P (i + 1) s' ∧ ∀ rec, F rec s = rec s') (hend : ∀ s, P n s → ∀ rec, F rec s = o) : ∀ (fuel : Nat) (s : σ), n < fuel → P 0 s → sp_lp F fuel s = o := by
  have key : ∀ (k i fuel : Nat) (s : σ), i + k = n → k < fuel → P i s → sp_lp F fuel s = o := by
    intro k
    induction k with
    | zero =>
      intro i fuel s hi hf hP
      obtain rfl : i = n := by omega
      cases fuel with
      | zero => omega
      | succ f => exact hend s hP _
    | succ k ih =>
      intro i fuel s hi hf hP
      cases fuel with
      | zero => omega
      | succ f =>
        rcases hstep i s (by omega) hP with h | ⟨s', h1, h2⟩
        · exact h _
        · show F (sp_lp F f) s = o
          rw [h2]
          exact ih (i + 1) f s' (by omega) (by omega) h1
  intro fuel s hf hP
  exact key n 0 fuel s (by omega) hf hP
/-- a loop of which every state is told -/
theorem sp_lp_fn {σ β : Type} {F : (σ → Option β) → σ → Option β} {o : Option β} (n : Nat) (st : Nat → σ) (hstep : ∀ i, i < n → ∀ rec, F rec (st i) = rec (st (i + 1))) (hend : ∀ rec, F rec (st n) = o) {fuel : Nat} (hf : n < fuel) {s0 : σ} (h0 : s0 = st 0) : sp_lp F fuel s0 = o :=
  sp_lp_up F o n (fun i s => s = st i) (fun i s hi hs => Or.inr ⟨st (i + 1), rfl, fun rec => by rw [hs]; exact hstep i hi rec⟩) (fun s hs rec => by rw [hs]; exact hend rec) fuel s0 hf h0
theorem sp_ld_at {α β : Type} {f : Nat → α} {N i : Nat} {k : α → Option β} (hi : i < N) (hN : N < 1000000) : sp_ld f N (Int32.ofNat i) k = k (f i) := by
  unfold sp_ld
  rw [if_neg (sp_i_in hi hN), sp_i_nat (by omega)]
theorem sp_st_at {β : Type} {f : Nat → Int32} {N i : Nat} {x : Int32} {k : (Nat → Int32) → Option β} (hi : i < N) (hN : N < 1000000) : sp_st f N (Int32.ofNat i) x k = k (upd f i x) := by
  unfold sp_st
  rw [if_neg (sp_i_in hi hN), sp_i_nat (by omega)]
theorem sp_stL_at {β : Type} {f : Nat → Int64} {N i : Nat} {x : Int64} {k : (Nat → Int64) → Option β} (hi : i < N) (hN : N < 1000000) : sp_stL f N (Int32.ofNat i) x k = k (vp_updL f i x) := by
  unfold sp_stL
  rw [if_neg (sp_i_in hi hN), sp_i_nat (by omega)]
theorem sp_ck_at {β : Type} {N i : Nat} {k : Option β} (hi : i < N) (hN : N < 1000000) : sp_ck N (Int32.ofNat i) k = k := if_neg (sp_i_in hi hN)
theorem sp_ck_in {β : Type} {N : Nat} {p : Int32} {k : Option β} (h : vp_in p N) : sp_ck N p k = k := if_neg h
theorem sp_i_ex {c : Int32} (h : ¬ c < 0) : c = Int32.ofNat c.toNatClampNeg := by
  rw [Int32.not_lt, Int32.le_iff_toInt_le] at h
  have h3 : (0 : Int32).toInt = 0 := rfl
  rw [h3] at h
  have e1 : c.toNatClampNeg = c.toInt.toNat := rfl
  have h4 := Int32.toInt_lt c
  apply Int32.toInt_inj.mp
  rw [Int32.toInt_ofNat_of_lt (by omega)]
  omega
theorem sp_i_le_ex {c : Int32} {n : Nat} (hn : n < 1000000) (h0 : ¬ c < 0) (h : c ≤ Int32.ofNat n) : ∃ k : Nat, k ≤ n ∧ c = Int32.ofNat k := by
  refine ⟨c.toNatClampNeg, ?_, sp_i_ex h0⟩
  rw [Int32.le_iff_toInt_le, Int32.toInt_ofNat_of_lt (by omega)] at h
  have e1 : c.toNatClampNeg = c.toInt.toNat := rfl
  omega
theorem sp_i_inj {i j : Nat} (hi : i < 1000000) (hj : j < 1000000) : Int32.ofNat i = Int32.ofNat j ↔ i = j := by
  constructor
  · intro h
    have := congrArg Int32.toNatClampNeg h
    rwa [sp_i_nat hi, sp_i_nat hj] at this
  · intro h; rw [h]
theorem sp_i_pred {i : Nat} (hi : 1 ≤ i) : Int32.ofNat i - 1 = Int32.ofNat (i - 1) := by
  have : Int32.ofNat i = Int32.ofNat (i - 1) + 1 := by rw [sp_i_succ]; congr 1; omega
  rw [this]
  simp
theorem sp_i_neg {i : Nat} (hi : i < 1000000) : Int32.ofNat i ≠ -9 := by
  intro h
  have h1 := sp_i_nn hi
  rw [h] at h1
  exact h1 (by decide)
theorem sp_4096 (P : Nat → Bool) (h : (List.range 4096).all P = true) (n : Nat) (hn : n < 4096) : P n = true := List.all_eq_true.mp h n (List.mem_range.mpr hn)
/-! clauses -/
theorem sp_cl_and : (List.range 4096).all (fun n => decide ((Int32.ofNat n &&& (Int32.ofNat n >>> ((6 : Int32) &&& 31))) = ((Int32.ofNat n &&& 63) &&& (Int32.ofNat n >>> ((6 : Int32) &&& 31))))) = true := by decide +kernel
theorem sp_isClause (c : Int32) : f_X0_isClause c = f_X10_isClause c := by
  unfold f_X0_isClause f_X10_isClause f_X10_within
  by_cases h0 : c < 0
  · simp [h0]
  · by_cases h1 : (4095 : Int32) < c
    · simp [h0, h1]
    · obtain ⟨n, hn, rfl⟩ := sp_i_le_ex (n := 4095) (by omega) h0 (Int32.not_lt.mp h1)
      have e := of_decide_eq_true (sp_4096 _ sp_cl_and n (by omega))
      simp only [h0, h1, if_false, Option.bind_some]
      rw [e]
      simp
/-- a clause's numbers -/
theorem sp_isClause1 {c : Int32} (h : f_X10_isClause c = some 1) : ∃ n : Nat, n < 4096 ∧ c = Int32.ofNat n := by
  unfold f_X10_isClause f_X10_within at h
  by_cases h0 : c < 0
  · simp [h0] at h
  · by_cases h1 : (4095 : Int32) < c
    · simp [h0, h1] at h
    · obtain ⟨n, hn, e⟩ := sp_i_le_ex (n := 4095) (by omega) h0 (Int32.not_lt.mp h1)
      exact ⟨n, by omega, e⟩
theorem sp_isClause01 (c : Int32) : f_X10_isClause c = some 0 ∨ f_X10_isClause c = some 1 := by
  unfold f_X10_isClause f_X10_within
  by_cases h0 : c < 0
  · simp [h0]
  · by_cases h1 : (4095 : Int32) < c
    · simp [h0, h1]
    · simp only [h0, h1, if_false, Option.bind_some]
      split
      · simp
      · split <;> simp
theorem sp_bitv (c : BitVec 32) (k : Nat) (hk : k < 32) : (BitVec.twoPow 32 k &&& ~~~c = 0#32) ↔ ¬ (c &&& BitVec.twoPow 32 k = 0#32) := by
  have hne : BitVec.twoPow 32 k ≠ 0#32 := by
    intro h
    have := congrArg (fun v => v.getLsbD k) h
    simp [hk] at this
  rw [BitVec.and_comm, BitVec.and_twoPow, BitVec.and_twoPow, BitVec.getLsbD_not]
  cases c.getLsbD k <;> simp [hk, hne]
theorem sp_bit {b c : Int32} {k : Nat} (hk : k < 32) (hb : b.toBitVec = BitVec.twoPow 32 k) : ((b &&& (c ^^^ (-1 : Int32))) = 0) ↔ ¬ ((c &&& b) = 0) := by
  have h := sp_bitv c.toBitVec k hk
  rw [← Int32.toBitVec_inj, ← Int32.toBitVec_inj, Int32.toBitVec_and, Int32.toBitVec_and, Int32.toBitVec_xor, hb]
  have e : (-1 : Int32).toBitVec = BitVec.allOnes 32 := by decide
  rw [e, BitVec.xor_allOnes]
  exact h
theorem sp_plain {k : Nat} (hk : k < 6) : ((1 : Int32) <<< (Int32.ofNat k &&& 31)).toBitVec = BitVec.twoPow 32 k ∧ (64 : Int32) <<< (Int32.ofNat k &&& 31) = (1 : Int32) <<< ((Int32.ofNat k + 6) &&& 31) ∧ ((1 : Int32) <<< ((Int32.ofNat k + 6) &&& 31)).toBitVec = BitVec.twoPow 32 (k + 6) := by
  rcases (show k = 0 ∨ k = 1 ∨ k = 2 ∨ k = 3 ∨ k = 4 ∨ k = 5 by omega) with rfl | rfl | rfl | rfl | rfl | rfl <;> decide
theorem sp_cutOf (a b : Int32) {k : Nat} (hk : k < 6) : f_X0_cutOf a b (Int32.ofNat k) = f_X10_cutOf a b (Int32.ofNat k) := by
  obtain ⟨h1, h2, h3⟩ := sp_plain hk
  unfold f_X0_cutOf f_X10_cutOf f_X0_plain f_X0_negated f_X0_isPart sp_bnd
  simp only [Option.bind_some]
  rw [h2]
  have e1 := sp_bit (c := a) (by omega) h1
  have e2 := sp_bit (c := b) (by omega) h3
  by_cases q1 : (a &&& ((1 : Int32) <<< (Int32.ofNat k &&& 31))) = 0
  · rw [if_neg (fun h => (e1.mp h) q1), if_pos q1]; simp
  · rw [if_pos (e1.mpr q1), if_neg q1]
    by_cases q2 : (b &&& ((1 : Int32) <<< ((Int32.ofNat k + 6) &&& 31))) = 0
    · rw [if_neg (fun h => (e2.mp h) q2), if_pos q2]; simp
    · rw [if_pos (e2.mpr q2), if_neg q2]
      simp [sp_isClause]
