/-! rests, grounds, truly -/
theorem sp_restM {x : sp_PrT} {n e p : Nat} {cl le ri lt : Nat → Int32} (h : sp_prOK x n) (he : e < n) (hp : p < 12) (hs : sp_same x cl le ri lt p n) (k : Int32 → Option Int32) : sp_lp (f_X10_restsOf_L20 k lt (Int32.ofNat p) le ri) sp_F (Int32.ofNat (2 ^ e), Int32.ofNat e) = k (Int32.ofNat (sp_rs x.2.2.2.1 x.2.1 x.2.2.1 e (e + 1))) := by
  have hn := h.2.1
  have h24 : ∀ i, i ≤ e + 1 → sp_rs x.2.2.2.1 x.2.1 x.2.2.1 e i < 2 ^ 31 := fun i hi => Nat.lt_of_lt_of_le (sp_rs_lt h he i hi) (Nat.pow_le_pow_right (by omega) (by omega))
  refine sp_lp_fn (e + 1) (fun i => (Int32.ofNat (sp_rs x.2.2.2.1 x.2.1 x.2.2.1 e i), sp_bk e i)) (fun i hi rec => ?_) (fun rec => ?_) (sp_F_lt (by omega)) ?_
  · have hb : sp_bk e i = Int32.ofNat (e - i) := by unfold sp_bk; rw [if_pos (by omega)]
    obtain ⟨-, s2, s3, s4⟩ := hs (e - i) (by omega)
    rw [hb, f_X10_restsOf_L20_eq, if_neg (sp_i_nn (by omega)), sb_bit32 (h24 i (by omega)) (by omega), sp_i_24]
    simp only [sp_bnd, sp_bk_next (show i ≤ e by omega), sp_ld_at (show 24 * p + (e - i) < 288 by omega) (by omega : 288 < 1000000), s2, s3, s4]
    rw [sp_rs]
    by_cases ht : (sp_rs x.2.2.2.1 x.2.1 x.2.2.1 e i).testBit (e - i) = true
    · by_cases hg : x.2.2.2.1 (e - i) = -9
      · simp [ht, hg]
      · rcases sp_ground h (show e - i < n by omega) with ⟨a, -⟩ | ⟨-, a, b, c, ha, hb', hc, e1, e2, -⟩
        · exact absurd a hg
        · have w : Int32.ofNat (sp_rs x.2.2.2.1 x.2.1 x.2.2.1 e i) ||| (((1 : Int32) <<< ((x.2.1 (e - i)) &&& 31)) ||| ((1 : Int32) <<< ((x.2.2.1 (e - i)) &&& 31))) = Int32.ofNat (sp_rs x.2.2.2.1 x.2.1 x.2.2.1 e i ||| (2 ^ (x.2.1 (e - i)).toNatClampNeg ||| 2 ^ (x.2.2.1 (e - i)).toNatClampNeg)) := by
            rw [e1, e2, sp_i_nat (by omega), sp_i_nat (by omega), sb_one32 (by omega), sb_one32 (by omega), sb_or32, sb_or32]
          rw [w]
          simp [ht, hg]
    · simp [ht]
  · have hb : sp_bk e (e + 1) = -1 := by unfold sp_bk; rw [if_neg (by omega)]
    rw [hb, f_X10_restsOf_L20_eq, if_pos (by decide)]
  · show _ = (Int32.ofNat (2 ^ e), sp_bk e 0)
    unfold sp_bk
    simp
theorem sp_restSet {x : sp_PrT} {n : Nat} (h : sp_prOK x n) : f_X2_restSet x.2.1 x.2.2.1 x.2.2.2.2.2.1 = some (Int64.ofNat (sp_rest x.2.2.2.1 x.2.1 x.2.2.1 n)) := by
  have h1 := h.1
  have hn := h.2.1
  unfold f_X2_restSet f_X2_restSetOf sp_bnd
  rw [h.2.2.1, sp_i_pred h1, sb_one64 (by omega)]
  dsimp only
  rw [sp_restX h (show n - 1 < n by omega), show n - 1 + 1 = n by omega]
  rfl
theorem sp_restsOf {x : sp_PrT} {n p : Nat} {mn cl le ri lt : Nat → Int32} (h : sp_prOK x n) (hp : p < 12) (hm : mn p = Int32.ofNat n) (hs : sp_same x cl le ri lt p n) : f_X10_restsOf (Int32.ofNat p) mn le ri lt = some (Int32.ofNat (sp_rest x.2.2.2.1 x.2.1 x.2.2.1 n)) := by
  have h1 := h.1
  have hn := h.2.1
  unfold f_X10_restsOf
  simp only [sp_bnd, sp_ld_at hp (by omega : 12 < 1000000), hm, sp_i_pred h1, sb_one32 (show n - 1 < 31 by omega)]
  rw [sp_restM h (show n - 1 < n by omega) hp hs, show n - 1 + 1 = n by omega]
  rfl
theorem sp_rest_lt {x : sp_PrT} {n : Nat} (h : sp_prOK x n) : sp_rest x.2.2.2.1 x.2.1 x.2.2.1 n < 2 ^ n := by
  have h1 := h.1
  exact sp_rs_lt h (show n - 1 < n by omega) n (by omega)
theorem op_rests {x : sp_XS} {y : sp_MS} (h : sp_Rel x y) (p1 : Int32) : ∃ (r : Int32) (x' : sp_XS) (y' : sp_MS), sx_rests p1 x = some (r, x') ∧ sm_rests p1 y = some (r, y') ∧ sp_Rel x' y' := by
  rcases sp_proof h p1 with ⟨e1, e2⟩ | ⟨p, n, hp, rfl, ei, g1, g2, g3, e1, e2, -⟩
  · apply sp_fin (r := -1)
    · unfold sx_rests sx_rests0 f_X9_rests; rw [e1]; rfl
    · unfold sm_rests f_X10_rests; rw [e2]; rfl
    · exact h
  · apply sp_fin (r := Int32.ofNat (sp_rest (x.1 p).2.2.2.1 (x.1 p).2.1 (x.1 p).2.2.1 n))
    · unfold sx_rests sx_rests0 f_X9_rests; rw [ei, e1, sp_restSet g1]
      simp only [Option.bind_some, sp_ck_at hp (by omega : 12 < 1000000), sb_to32]; rfl
    · unfold sm_rests f_X10_rests; rw [e2, sp_restsOf g1 hp g2 g3]; rfl
    · exact h
theorem sp_gn_le (lt : Nat → Int32) : ∀ n, sp_gn lt n ≤ n
  | 0 => Nat.le_refl _
  | n + 1 => by have := sp_gn_le lt n; rw [sp_gn]; split <;> omega
theorem sp_gn_mono (lt : Nat → Int32) {a b : Nat} (h : a ≤ b) : sp_gn lt a ≤ sp_gn lt b := by
  induction b with
  | zero => rw [show a = 0 by omega]; exact Nat.le_refl _
  | succ b ih =>
    by_cases hb : a ≤ b
    · exact Nat.le_trans (ih hb) (by rw [sp_gn]; omega)
    · rw [show a = b + 1 by omega]; exact Nat.le_refl _
theorem sp_groundsOf {x : sp_PrT} {n p : Nat} {mn cl le ri lt : Nat → Int32} (h : sp_prOK x n) (hp : p < 12) (hm : mn p = Int32.ofNat n) (hs : sp_same x cl le ri lt p n) : f_X10_groundsOf (Int32.ofNat p) mn lt = some (Int32.ofNat (sp_gn x.2.2.2.1 n)) := by
  have hn := h.2.1
  have key : ∀ k : Int32 → Option Int32, sp_lp (f_X10_groundsOf_L4 mn (Int32.ofNat p) k lt) sp_F ((0 : Int32), (0 : Int32)) = k (Int32.ofNat (sp_gn x.2.2.2.1 n)) := by
    intro k
    refine sp_lp_fn n (fun i => (Int32.ofNat (sp_gn x.2.2.2.1 i), Int32.ofNat i)) (fun i hi rec => ?_) (fun rec => ?_) (sp_F_lt (by omega)) rfl
    · rw [f_X10_groundsOf_L4_eq, sp_ld_at hp (by omega), hm, if_neg (fun q => by have := (sp_i_le (by omega) (by omega)).mp q; omega), sp_i_24, sp_ld_at (show 24 * p + i < 288 by omega) (by omega), (hs i hi).2.2.2]
      simp only [sp_bnd, sp_i_succ, sp_gn]
      by_cases hg : x.2.2.2.1 i = -9
      · rw [if_pos hg, if_pos hg]
      · rw [if_neg hg, if_neg hg]; simp
    · rw [f_X10_groundsOf_L4_eq, sp_ld_at hp (by omega), hm, if_pos ((sp_i_le (by omega) (by omega)).mpr (Nat.le_refl n))]
  unfold f_X10_groundsOf
  rw [sp_bnd, key]
/-- grounds by their numbers -/
theorem sp_gn_ex {lt : Nat → Int32} : ∀ (n g : Nat), g < sp_gn lt n → ∃ l, l < n ∧ lt l = -9 ∧ sp_gn lt l = g
  | 0, g, h => absurd h (Nat.not_lt_zero g)
  | n + 1, g, h => by
    rw [sp_gn] at h
    by_cases hg : g < sp_gn lt n
    · obtain ⟨l, h1, h2, h3⟩ := sp_gn_ex n g hg
      exact ⟨l, by omega, h2, h3⟩
    · by_cases hl : lt n = -9
      · rw [if_pos hl] at h
        exact ⟨n, by omega, hl, by omega⟩
      · rw [if_neg hl] at h
        omega
theorem sp_gr {x : sp_PrT} {n g : Nat} (h : sp_prOK x n) (hg : g < sp_gn x.2.2.2.1 n) : ∃ l, l < n ∧ x.2.2.2.1 l = -9 ∧ sp_gn x.2.2.2.1 l = g ∧ x.2.2.2.2.1 g = Int32.ofNat l := by
  obtain ⟨l, h1, h2, h3⟩ := sp_gn_ex n g hg
  exact ⟨l, h1, h2, h3, by rw [← h3]; exact h.2.2.2.2.2 l h1 h2⟩
/-- what the grounds in a set are, by their numbers -/
def sp_tu (R : Nat) (gr : Nat → Int32) : Nat → Nat
  | 0 => 0
  | g + 1 => if R.testBit (gr g).toNatClampNeg = true then sp_tu R gr g ||| 2 ^ g else sp_tu R gr g
theorem sp_tu_lt (R : Nat) (gr : Nat → Int32) : ∀ g, sp_tu R gr g < 2 ^ g
  | 0 => by simp [sp_tu]
  | g + 1 => by
    have ih := sp_tu_lt R gr g
    have h2 : (2 : Nat) ^ g < 2 ^ (g + 1) := Nat.pow_lt_pow_right (by omega) (by omega)
    rw [sp_tu]
    split
    · exact Nat.or_lt_two_pow (by omega) h2
    · omega
theorem op_truly {x : sp_XS} {y : sp_MS} (h : sp_Rel x y) (p1 : Int32) : ∃ (r : Int32) (x' : sp_XS) (y' : sp_MS), sx_truly p1 x = some (r, x') ∧ sm_truly p1 y = some (r, y') ∧ sp_Rel x' y' := by
  rcases sp_proof h p1 with ⟨e1, e2⟩ | ⟨p, n, hp, rfl, ei, g1, g2, g3, e1, e2, -⟩
  · apply sp_fin (r := -1)
    · unfold sx_truly sx_truly0 f_X9_truly; rw [e1]; rfl
    · unfold sm_truly f_X10_truly; rw [e2]; rfl
    · exact h
  · have hn := g1.2.1
    have hgl := sp_gn_le (x.1 p).2.2.2.1 n
    have hR := sp_rest_lt g1
    generalize hRe : sp_rest (x.1 p).2.2.2.1 (x.1 p).2.1 (x.1 p).2.2.1 n = R at hR
    have hR31 : R < 2 ^ 31 := Nat.lt_of_lt_of_le hR (Nat.pow_le_pow_right (by omega) (by omega))
    have hR63 : R < 2 ^ 63 := Nat.lt_of_lt_of_le hR (Nat.pow_le_pow_right (by omega) (by omega))
    have hle : ∀ G : Nat, G ≤ 24 → ((Int32.ofNat G ≤ (10 : Int32)) ↔ G ≤ 10) := fun G hG => sp_i_le (i := G) (n := 10) (by omega) (by omega)
    by_cases h10 : sp_gn (x.1 p).2.2.2.1 n ≤ 10
    · have kX : ∀ k : Int32 → Option Int32, sp_lp (f_X9_truly_L40 (Int32.ofNat (sp_gn (x.1 p).2.2.2.1 n)) k (x.1 p).2.2.2.2.1 (Int64.ofNat R)) sp_F ((0 : Int32), (0 : Int32)) = k (Int32.ofNat (sp_tu R (x.1 p).2.2.2.2.1 (sp_gn (x.1 p).2.2.2.1 n))) := by
        intro k
        refine sp_lp_fn (sp_gn (x.1 p).2.2.2.1 n) (fun g => (Int32.ofNat (sp_tu R (x.1 p).2.2.2.2.1 g), Int32.ofNat g)) (fun g hg rec => ?_) (fun rec => ?_) (sp_F_lt (by omega)) rfl
        · obtain ⟨l, l1, l2, l3, l4⟩ := sp_gr g1 hg
          rw [f_X9_truly_L40_eq, if_neg (fun q => by have := (sp_i_le (by omega) (by omega)).mp q; omega), sp_ld_at (show g < 48 by omega) (by omega), l4, sp_isIn hR63 (by omega)]
          simp only [Option.bind_some, sp_bnd, sp_i_succ, sb_one32 (show g < 31 by omega), sb_or32]
          rw [sp_tu, l4, sp_i_nat (by omega)]
          by_cases hb : R.testBit l = true
          · simp [hb]
          · simp [hb]
        · rw [f_X9_truly_L40_eq, if_pos ((sp_i_le (by omega) (by omega)).mpr (Nat.le_refl _))]
      have kM : ∀ k : Int32 → Option Int32, sp_lp (f_X10_truly_L37 y.2.2.2.2.2.2.1 (Int32.ofNat p) k y.2.2.2.2.2.2.2.2.2.2.1 (Int32.ofNat R)) sp_F ((0 : Int32), (0 : Int32), (0 : Int32)) = k (Int32.ofNat (sp_tu R (x.1 p).2.2.2.2.1 (sp_gn (x.1 p).2.2.2.1 n))) := by
        intro k
        refine sp_lp_fn n (fun l => (Int32.ofNat (sp_tu R (x.1 p).2.2.2.2.1 (sp_gn (x.1 p).2.2.2.1 l)), Int32.ofNat (sp_gn (x.1 p).2.2.2.1 l), Int32.ofNat l)) (fun l hl rec => ?_) (fun rec => ?_) (sp_F_lt (by omega)) rfl
        · have hgl2 := sp_gn_le (x.1 p).2.2.2.1 l
          rw [f_X10_truly_L37_eq, sp_ld_at hp (by omega), g2, if_neg (fun q => by have := (sp_i_le (by omega) (by omega)).mp q; omega), sp_i_24, sp_ld_at (show 24 * p + l < 288 by omega) (by omega), (g3 l hl).2.2.2, sb_bit32 hR31 (by omega)]
          simp only [sp_bnd, sp_i_succ]
          rw [sp_gn]
          by_cases hg : (x.1 p).2.2.2.1 l = -9
          · rw [if_pos hg, if_pos hg, sp_tu, g1.2.2.2.2.2 l hl hg, sp_i_nat (by omega)]
            by_cases hb : R.testBit l = true
            · rw [if_pos hb, if_pos hb, sb_one32 (by omega), sb_or32]
            · rw [if_neg hb, if_neg hb]; simp
          · rw [if_neg hg, if_neg hg]; simp
        · rw [f_X10_truly_L37_eq, sp_ld_at hp (by omega), g2, if_pos ((sp_i_le (by omega) (by omega)).mpr (Nat.le_refl n))]
      apply sp_fin (r := Int32.ofNat (sp_tu R (x.1 p).2.2.2.2.1 (sp_gn (x.1 p).2.2.2.1 n)))
      · unfold sx_truly sx_truly0 f_X9_truly; rw [ei, e1, sp_restSet g1, g1.2.2.2.2.1, hRe]
        simp only [Option.bind_some, sp_ck_at hp (by omega : 12 < 1000000), if_pos ((hle _ (by omega)).mpr h10), sp_bnd, kX]
        rfl
      · unfold sm_truly f_X10_truly; rw [e2, sp_groundsOf g1 hp g2 g3, sp_restsOf g1 hp g2 g3, hRe]
        simp only [Option.bind_some, if_pos ((hle _ (by omega)).mpr h10), sp_bnd, kM]
        rfl
      · exact h
    · apply sp_fin (r := -3)
      · unfold sx_truly sx_truly0 f_X9_truly; rw [ei, e1, g1.2.2.2.2.1]
        simp only [Option.bind_some, sp_ck_at hp (by omega : 12 < 1000000), if_neg (fun q => h10 ((hle _ (by omega)).mp q))]
        rfl
      · unfold sm_truly f_X10_truly; rw [e2, sp_groundsOf g1 hp g2 g3]
        simp only [Option.bind_some, if_neg (fun q => h10 ((hle _ (by omega)).mp q))]
        rfl
      · exact h
