/-! rests, grounds, truly -/
theorem sp_restM {x : sp_PrT} {n e p : Nat} {cl le ri lt : Nat → Int32} (h : sp_prOK x n) (he : e < n) (hp : p < 12) (hs : sp_same x cl le ri lt p n) (k : Int32 → Option Int32) : sp_lp (f_X10_restsOf_L20 k lt (Int32.ofNat p) le ri) sp_F (Int32.ofNat (2 ^ e), Int32.ofNat e) = k (Int32.ofNat (sp_rs x.2.2.2.1 x.2.1 x.2.2.1 e (e + 1))) := by
  have hn := h.2.1
  have h24 : ∀ i, i ≤ e + 1 → sp_rs x.2.2.2.1 x.2.1 x.2.2.1 e i < 2 ^ 31 := fun i hi => Nat.lt_of_lt_of_le (sp_rs_lt h he i hi) (Nat.pow_le_pow_right (by omega) (by omega))
  refine sp_lp_fn (e + 1) (fun i => (Int32.ofNat (sp_rs x.2.2.2.1 x.2.1 x.2.2.1 e i), sp_bk e i)) (fun i hi rec => ?_) (fun rec => ?_) (sp_F_lt (by omega)) ?_
  · have hb : sp_bk e i = Int32.ofNat (e - i) := by unfold sp_bk; rw [if_pos (by omega)]
    obtain ⟨-, s2, s3, s4⟩ := hs (e - i) (by omega)
    rw [hb, f_X10_restsOf_L20_eq, if_neg (sp_i_nn (by omega)), sb_bit32 (h24 i (by omega)) (by omega), sp_i_24]
    simp only [sp_bnd, sp_bk_next (show i ≤ e by omega), sp_ld_at (show 24 * p + (e - i) < 288 by omega) (by omega : 288 < 1000000), s2, s3, s4]
    rw [sp_rs]
    by_cases ht : (sp_rs x.2.2.2.1 x.2.1 x.2.2.1 e i).testBit (e - i) = true
    · by_cases hg : x.2.2.2.1 (e - i) = -9
      · simp [ht, hg]
      · rcases sp_ground h (show e - i < n by omega) with ⟨a, -⟩ | ⟨-, a, b, c, ha, hb', hc, e1, e2, -⟩
        · exact absurd a hg
        · have w : Int32.ofNat (sp_rs x.2.2.2.1 x.2.1 x.2.2.1 e i) ||| (((1 : Int32) <<< ((x.2.1 (e - i)) &&& 31)) ||| ((1 : Int32) <<< ((x.2.2.1 (e - i)) &&& 31))) = Int32.ofNat (sp_rs x.2.2.2.1 x.2.1 x.2.2.1 e i ||| (2 ^ (x.2.1 (e - i)).toNatClampNeg ||| 2 ^ (x.2.2.1 (e - i)).toNatClampNeg)) := by
            rw [e1, e2, sp_i_nat (by omega), sp_i_nat (by omega), sb_one32 (by omega), sb_one32 (by omega), sb_or32, sb_or32]
          rw [w]
          simp [ht, hg]
    · simp [ht]
  · have hb : sp_bk e (e + 1) = -1 := by unfold sp_bk; rw [if_neg (by omega)]
    rw [hb, f_X10_restsOf_L20_eq, if_pos (by decide)]
  · show _ = (Int32.ofNat (2 ^ e), sp_bk e 0)
    unfold sp_bk
    simp
theorem sp_restSet {x : sp_PrT} {n : Nat} (h : sp_prOK x n) : f_X2_restSet x.2.1 x.2.2.1 x.2.2.2.2.2.1 = some (Int64.ofNat (sp_rest x.2.2.2.1 x.2.1 x.2.2.1 n)) := by
  have h1 := h.1
  have hn := h.2.1
  unfold f_X2_restSet f_X2_restSetOf sp_bnd
  rw [h.2.2.1, sp_i_pred h1, sb_one64 (by omega)]
  dsimp only
  rw [sp_restX h (show n - 1 < n by omega), show n - 1 + 1 = n by omega]
  rfl
theorem sp_restsOf {x : sp_PrT} {n p : Nat} {mn cl le ri lt : Nat → Int32} (h : sp_prOK x n) (hp : p < 12) (hm : mn p = Int32.ofNat n) (hs : sp_same x cl le ri lt p n) : f_X10_restsOf (Int32.ofNat p) mn le ri lt = some (Int32.ofNat (sp_rest x.2.2.2.1 x.2.1 x.2.2.1 n)) := by
  have h1 := h.1
  have hn := h.2.1
  unfold f_X10_restsOf sp_bnd
  rw [sp_ld_at hp (by omega), sp_ld_at hp (by omega), hm, sp_i_pred h1, sb_one32 (by omega)]
  dsimp only
  rw [sp_restM h (show n - 1 < n by omega) hp hs, show n - 1 + 1 = n by omega]
  rfl
theorem sp_rest_lt {x : sp_PrT} {n : Nat} (h : sp_prOK x n) : sp_rest x.2.2.2.1 x.2.1 x.2.2.1 n < 2 ^ n := by
  have h1 := h.1
  exact sp_rs_lt h (show n - 1 < n by omega) n (by omega)
theorem op_rests {x : sp_XS} {y : sp_MS} (h : sp_Rel x y) (p1 : Int32) : ∃ (r : Int32) (x' : sp_XS) (y' : sp_MS), sx_rests p1 x = some (r, x') ∧ sm_rests p1 y = some (r, y') ∧ sp_Rel x' y' := by
  rcases sp_proof h p1 with ⟨e1, e2⟩ | ⟨p, n, hp, rfl, ei, g1, g2, g3, e1, e2, -⟩
  · apply sp_fin (r := -1)
    · unfold sx_rests sx_rests0 f_X9_rests; rw [e1]; rfl
    · unfold sm_rests f_X10_rests; rw [e2]; rfl
    · exact h
  · apply sp_fin (r := Int32.ofNat (sp_rest (x.1 p).2.2.2.1 (x.1 p).2.1 (x.1 p).2.2.1 n))
    · unfold sx_rests sx_rests0 f_X9_rests; rw [ei, e1, sp_restSet g1]
      simp only [Option.bind_some, sp_ck_at hp (by omega : 12 < 1000000), sb_to32]; rfl
    · unfold sm_rests f_X10_rests; rw [e2, sp_restsOf g1 hp g2 g3]; rfl
    · exact h
theorem sp_gn_le (lt : Nat → Int32) : ∀ n, sp_gn lt n ≤ n
  | 0 => Nat.le_refl _
  | n + 1 => by have := sp_gn_le lt n; rw [sp_gn]; split <;> omega
theorem sp_gn_mono (lt : Nat → Int32) {a b : Nat} (h : a ≤ b) : sp_gn lt a ≤ sp_gn lt b := by
  induction b with
  | zero => rw [show a = 0 by omega]; exact Nat.le_refl _
  | succ b ih =>
    by_cases hb : a ≤ b
    · exact Nat.le_trans (ih hb) (by rw [sp_gn]; omega)
    · rw [show a = b + 1 by omega]; exact Nat.le_refl _
theorem sp_groundsOf {x : sp_PrT} {n p : Nat} {mn cl le ri lt : Nat → Int32} (h : sp_prOK x n) (hp : p < 12) (hm : mn p = Int32.ofNat n) (hs : sp_same x cl le ri lt p n) : f_X10_groundsOf (Int32.ofNat p) mn lt = some (Int32.ofNat (sp_gn x.2.2.2.1 n)) := by
  have hn := h.2.1
  have key : ∀ k : Int32 → Option Int32, sp_lp (f_X10_groundsOf_L4 mn (Int32.ofNat p) k lt) sp_F ((0 : Int32), (0 : Int32)) = k (Int32.ofNat (sp_gn x.2.2.2.1 n)) := by
    intro k
    refine sp_lp_fn n (fun i => (Int32.ofNat (sp_gn x.2.2.2.1 i), Int32.ofNat i)) (fun i hi rec => ?_) (fun rec => ?_) (sp_F_lt (by omega)) rfl
    · rw [f_X10_groundsOf_L4_eq, sp_ld_at hp (by omega), hm, if_neg (fun q => by have := (sp_i_le (by omega) (by omega)).mp q; omega), sp_i_24, sp_ld_at (show 24 * p + i < 288 by omega) (by omega), (hs i hi).2.2.2]
      simp only [sp_bnd, sp_i_succ, sp_gn]
      by_cases hg : x.2.2.2.1 i = -9
      · rw [if_pos hg, if_pos hg, sp_i_succ]
      · rw [if_neg hg, if_neg hg]; simp
    · rw [f_X10_groundsOf_L4_eq, sp_ld_at hp (by omega), hm, if_pos ((sp_i_le (by omega) (by omega)).mpr (Nat.le_refl n))]
  unfold f_X10_groundsOf
  rw [sp_bnd, key]
