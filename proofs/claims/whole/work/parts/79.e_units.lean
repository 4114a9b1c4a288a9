/-! units of a proof, the range of safe signs -/
def sz_ct (z : sp_PrT) (R a : Nat) : Nat → Nat
  | 0 => 0
  | d + 1 => sz_ct z R a d + (if R.testBit (a + 1 + d) = true ∧ sp_frm z (a + 1 + d) a then 1 else 0)
theorem sz_ct_le (z : sp_PrT) (R a : Nat) : ∀ d, sz_ct z R a d ≤ d
  | 0 => Nat.le_refl _
  | d + 1 => by have := sz_ct_le z R a d; rw [sz_ct]; split <;> omega
theorem sz_ct_y {z : sp_PrT} {R a d : Nat} (h : R.testBit (a + 1 + d) = true ∧ sp_frm z (a + 1 + d) a) : sz_ct z R a (d + 1) = sz_ct z R a d + 1 := by rw [sz_ct, if_pos h]
theorem sz_ct_n {z : sp_PrT} {R a d : Nat} (h : ¬ (R.testBit (a + 1 + d) = true ∧ sp_frm z (a + 1 + d) a)) : sz_ct z R a (d + 1) = sz_ct z R a d := by rw [sz_ct, if_neg h]; rfl
theorem sz_cutsFrom {z : sp_PrT} {n a R : Nat} (h : sp_prOK z n) (ha : a < n) (hR : R < 2 ^ 63) : f_X5_cutsFrom (Int32.ofNat a) (Int64.ofNat R) z.2.1 z.2.2.1 (Int32.ofNat n) = some (Int32.ofNat (sz_ct z R a (n - 1 - a))) := by
  have hn := h.2.1
  unfold f_X5_cutsFrom
  rw [sp_bndE, sp_bndE, sp_i_succ]
  refine sp_lp_fn (n - 1 - a) (fun d => (Int32.ofNat (sz_ct z R a d), Int32.ofNat (a + 1 + d))) (fun d hd rec => ?_) (fun rec => ?_) (sp_F_lt (by omega)) rfl
  · rw [f_X5_cutsFrom_L8_eq, if_neg (fun q => by have := (sp_i_le (by omega) (by omega)).mp q; omega), sp_isIn hR (by omega), Option.bind_some, sp_isCutFrom h (show a + 1 + d < n by omega)]
    simp only [sp_bndE, sp_i_succ, Option.bind_some]
    rw [show a + 1 + d + 1 = a + 1 + (d + 1) by omega]
    by_cases q1 : R.testBit (a + 1 + d) = true
    · by_cases q2 : sp_frm z (a + 1 + d) a
      · rw [sz_ct_y ⟨q1, q2⟩, if_pos q1, if_pos q2, if_neg (show ¬ (1 : Int32) = 0 by decide), if_neg (show ¬ (1 : Int32) = 0 by decide)]
      · rw [sz_ct_n (fun q => q2 q.2), if_pos q1, if_neg q2, if_neg (show ¬ (1 : Int32) = 0 by decide), if_pos (show (0 : Int32) = 0 from rfl)]
    · rw [sz_ct_n (fun q => q1 q.1), if_neg q1, if_pos (show (0 : Int32) = 0 from rfl)]
  · rw [f_X5_cutsFrom_L8_eq, if_pos ((sp_i_le (by omega) (by omega)).mpr (by omega))]
abbrev sz_un (z : sp_PrT) (R n j : Nat) : Prop := sp_pc (sp_cc z j) 24 = 1 ∧ j ≠ n - 1 ∧ R.testBit j = true ∧ 1 < sz_ct z R j (n - 1 - j)
theorem sz_isUnit {z : sp_PrT} {n p j R : Nat} {mn cl le ri lt : Nat → Int32} (h : sp_prOK z n) (hp : p < 12) (hmn : mn p = Int32.ofNat n) (hs : sp_same z cl le ri lt p n) (hj : j < n) (hR : R < 2 ^ 31) : f_X10_isUnit (Int32.ofNat p) (Int32.ofNat j) (Int32.ofNat R) mn cl le ri lt = some (if sz_un z R n j then 1 else 0) := by
  have h1 := h.1
  have hn := h.2.1
  have hc := sp_cc_lt h hj
  have hpl := sp_pc_le (sp_cc z j) 24
  have hct := sz_ct_le z R j (n - 1 - j)
  have loop : ∀ k, sp_lp (f_X10_isUnit_L48 mn (Int32.ofNat p) k (Int32.ofNat R) (Int32.ofNat j) le ri lt) sp_F ((0 : Int32), Int32.ofNat (j + 1)) = k (Int32.ofNat (sz_ct z R j (n - 1 - j))) := by
    intro k
    refine sp_lp_fn (n - 1 - j) (fun d => (Int32.ofNat (sz_ct z R j d), Int32.ofNat (j + 1 + d))) (fun d hd rec => ?_) (fun rec => ?_) (sp_F_lt (by omega)) rfl
    · rw [f_X10_isUnit_L48_eq, sp_ld_at hp (by omega), hmn, if_neg (fun q => by have := (sp_i_le (by omega) (by omega)).mp q; omega), sb_bit32 hR (by omega), sp_isFrom hn (show j + 1 + d < n by omega) hp hs]
      simp only [sp_bndE, sp_i_succ, Option.bind_some]
      rw [show j + 1 + d + 1 = j + 1 + (d + 1) by omega]
      by_cases q1 : R.testBit (j + 1 + d) = true
      · by_cases q2 : sp_frm z (j + 1 + d) j
        · rw [sz_ct_y ⟨q1, q2⟩, if_pos q1, if_pos q2, if_pos (show (1 : Int32) = 1 from rfl), if_neg (show ¬ (1 : Int32) = 0 by decide)]
        · rw [sz_ct_n (fun q => q2 q.2), if_pos q1, if_neg q2, if_pos (show (1 : Int32) = 1 from rfl), if_pos (show (0 : Int32) = 0 from rfl), Int32.add_zero]
      · rw [sz_ct_n (fun q => q1 q.1), if_neg q1, if_neg (show ¬ (0 : Int32) = 1 by decide), Int32.add_zero]
    · rw [f_X10_isUnit_L48_eq, sp_ld_at hp (by omega), hmn, if_pos ((sp_i_le (by omega) (by omega)).mpr (by omega))]
  unfold f_X10_isUnit
  rw [sp_i_24, sp_ld_at (show 24 * p + j < 288 by omega) (by omega), (hs j hj).1, sp_cc_eq h hj, sp_bitsOf (show sp_cc z j < 2 ^ 31 by omega), Option.bind_some]
  by_cases q1 : sp_pc (sp_cc z j) 24 = 1
  · rw [if_pos (show Int32.ofNat (sp_pc (sp_cc z j) 24) = (1 : Int32) by rw [q1]; rfl), sp_ld_at hp (by omega), hmn, sp_i_pred h1]
    by_cases q2 : j = n - 1
    · rw [if_pos (show Int32.ofNat j = Int32.ofNat (n - 1) by rw [q2]), if_neg (fun q => q.2.1 q2)]
    · rw [if_neg (fun q => q2 ((sp_i_inj (by omega) (by omega)).mp q)), sb_bit32 hR (by omega)]
      by_cases q3 : R.testBit j = true
      · rw [if_pos q3, if_neg (show ¬ (1 : Int32) = 0 by decide), sp_bndE, sp_bndE, sp_i_succ, loop]
        have hle : (Int32.ofNat (sz_ct z R j (n - 1 - j)) ≤ (1 : Int32)) ↔ sz_ct z R j (n - 1 - j) ≤ 1 := sp_i_le (n := 1) (by omega) (by omega)
        by_cases q4 : 1 < sz_ct z R j (n - 1 - j)
        · rw [if_neg (fun q => by have := hle.mp q; omega), if_pos ⟨q1, q2, q3, q4⟩]
        · rw [if_pos (hle.mpr (by omega)), if_neg (fun q => q4 q.2.2.2)]
      · rw [if_neg q3, if_pos rfl, if_neg (fun q => q3 q.2.2.1)]
  · rw [if_neg (show ¬ Int32.ofNat (sp_pc (sp_cc z j) 24) = (1 : Int32) from fun q => q1 ((sp_i_inj (j := 1) (by omega) (by omega)).mp q)), if_neg (fun q => q1 q.1)]
def sz_us (z : sp_PrT) (R n : Nat) : Nat → Nat
  | 0 => 0
  | l + 1 => if sz_un z R n l then sz_us z R n l ||| 2 ^ l else sz_us z R n l
theorem sz_us_y {z : sp_PrT} {R n l : Nat} (h : sz_un z R n l) : sz_us z R n (l + 1) = sz_us z R n l ||| 2 ^ l := by rw [sz_us, if_pos h]
theorem sz_us_n {z : sp_PrT} {R n l : Nat} (h : ¬ sz_un z R n l) : sz_us z R n (l + 1) = sz_us z R n l := by rw [sz_us, if_neg h]
theorem sz_us_lt (z : sp_PrT) (R n : Nat) : ∀ l, sz_us z R n l < 2 ^ l
  | 0 => by rw [sz_us]; omega
  | l + 1 => by
    have ih := Nat.lt_trans (sz_us_lt z R n l) (Nat.pow_lt_pow_right (show 1 < 2 by omega) (show l < l + 1 by omega))
    rw [sz_us]
    split
    · exact Nat.or_lt_two_pow ih (Nat.pow_lt_pow_right (by omega) (by omega))
    · exact ih
theorem sz_us_bit (z : sp_PrT) (R n j : Nat) : ∀ l, (sz_us z R n l).testBit j = (decide (j < l) && decide (sz_un z R n j))
  | 0 => by rw [sz_us, Nat.zero_testBit, decide_eq_false (by omega)]; rfl
  | l + 1 => by
    rw [sz_us]
    by_cases e : j = l
    · subst e
      by_cases q : sz_un z R n j
      · rw [if_pos q, Nat.testBit_or, Nat.testBit_two_pow_self, decide_eq_true q, decide_eq_true (by omega)]; simp
      · rw [if_neg q, sz_us_bit z R n j j, decide_eq_false q]; simp
    · have e3 : decide (j < l + 1) = decide (j < l) := by rw [decide_eq_decide]; omega
      rw [e3, ← sz_us_bit z R n j l]
      by_cases q : sz_un z R n l
      · rw [if_pos q, Nat.testBit_or, Nat.testBit_two_pow, decide_eq_false (by omega), Bool.or_false]
      · rw [if_neg q]
theorem sz_unitsOf {z : sp_PrT} {n : Nat} (h : sp_prOK z n) : f_X5_unitsOf z.1 z.2.1 z.2.2.1 z.2.2.2.2.2.1 = some (Int64.ofNat (sz_us z (sp_rest z.2.2.2.1 z.2.1 z.2.2.1 n) n (n - 1))) := by
  have h1 := h.1
  have hn := h.2.1
  have hRn := sp_rest_lt h
  have hR : sp_rest z.2.2.2.1 z.2.1 z.2.2.1 n < 2 ^ 63 := Nat.lt_of_lt_of_le hRn (Nat.pow_le_pow_right (by omega) (by omega))
  unfold f_X5_unitsOf
  rw [sp_restSet h, Option.bind_some, sp_bndE, h.2.2.1]
  generalize sp_rest z.2.2.2.1 z.2.1 z.2.2.1 n = R at *
  refine sp_lp_fn (n - 1) (fun l => (Int64.ofNat (sz_us z R n l), Int32.ofNat l)) (fun l hl rec => ?_) (fun rec => ?_) (sp_F_lt (by omega)) rfl
  · have hct := sz_ct_le z R l (n - 1 - l)
    have hpl := sp_pc_le (sp_cc z l) 24
    have hc := sp_cc_lt h (show l < n by omega)
    have hlt2 : (Int32.ofNat (sz_ct z R l (n - 1 - l)) < (2 : Int32)) ↔ sz_ct z R l (n - 1 - l) < 2 := sp_i_lt (n := 2) (by omega) (by omega)
    rw [f_X5_unitsOf_L10_eq, sp_i_pred h1, if_neg (fun q => by have := (sp_i_le (by omega) (by omega)).mp q; omega), sp_isIn hR (by omega), Option.bind_some]
    simp only [sp_bndE, sp_i_succ, sp_ld_at (show l < 48 by omega) (by omega : 48 < 1000000)]
    rw [sp_cc_eq h (show l < n by omega), sp_bitCount hc, Option.bind_some, sz_cutsFrom h (show l < n by omega) hR, Option.bind_some, sb_one64 (show l < 63 by omega), sb_or64]
    by_cases q3 : R.testBit l = true
    · rw [if_pos q3, if_neg (show ¬ (1 : Int32) = 0 by decide)]
      by_cases q1 : sp_pc (sp_cc z l) 24 = 1
      · rw [if_pos (show Int32.ofNat (sp_pc (sp_cc z l) 24) = (1 : Int32) by rw [q1]; rfl)]
        by_cases q4 : 1 < sz_ct z R l (n - 1 - l)
        · rw [if_neg (fun q => by have := hlt2.mp q; omega), sz_us_y ⟨q1, by omega, q3, q4⟩]
        · rw [if_pos (hlt2.mpr (by omega)), sz_us_n (fun q => q4 q.2.2.2)]
      · rw [if_neg (show ¬ Int32.ofNat (sp_pc (sp_cc z l) 24) = (1 : Int32) from fun q => q1 ((sp_i_inj (j := 1) (by omega) (by omega)).mp q)), sz_us_n (fun q => q1 q.1)]
    · rw [if_neg q3, if_pos (show (0 : Int32) = 0 from rfl), sz_us_n (fun q => q3 q.2.2.1)]
  · rw [f_X5_unitsOf_L10_eq, sp_i_pred h1, if_pos ((sp_i_le (by omega) (by omega)).mpr (Nat.le_refl _))]
/-- units on both sides -/
theorem sz_units {z : sp_PrT} {n p R : Nat} {mn cl le ri lt : Nat → Int32} (h : sp_prOK z n) (hp : p < 12) (hmn : mn p = Int32.ofNat n) (hs : sp_same z cl le ri lt p n) (hR : R < 2 ^ 31) {j : Nat} (hj : j < n) : ∃ b : Int32, (b = 0 ∨ b = 1) ∧ f_X9_isIn (Int32.ofNat j) (Int64.ofNat (sz_us z R n (n - 1))) = some b ∧ f_X10_isUnit (Int32.ofNat p) (Int32.ofNat j) (Int32.ofNat R) mn cl le ri lt = some b ∧ (b = 1 → sp_pc (sp_cc z j) 24 = 1) := by
  have hn := h.2.1
  have hlt : sz_us z R n (n - 1) < 2 ^ 63 := Nat.lt_of_lt_of_le (sz_us_lt z R n (n - 1)) (Nat.pow_le_pow_right (by omega) (by omega))
  rw [sp_isIn hlt (by omega), sz_isUnit h hp hmn hs hj hR, sz_us_bit]
  by_cases q : sz_un z R n j
  · refine ⟨1, Or.inr rfl, ?_, by rw [if_pos q], fun _ => q.1⟩
    rw [decide_eq_true q, decide_eq_true (show j < n - 1 by have := q.2.1; omega)]
    rfl
  · refine ⟨0, Or.inl rfl, ?_, by rw [if_neg q], fun e => absurd e (by decide)⟩
    rw [decide_eq_false q, Bool.and_false]
    rfl
theorem sz_up_rng (f : Nat → Int32) (lo : Nat) : ∀ k, ∃ s, s < 4096 ∧ sz_up f lo k = Int32.ofNat s
  | 0 => ⟨4095, by omega, rfl⟩
  | k + 1 => by
    obtain ⟨s, h1, h2⟩ := sz_up_rng f lo k
    rw [sz_up, h2]
    exact sz_and_rng h1 _
theorem sz_safes {z : sp_PrT} {n p : Nat} {mn cl le ri lt : Nat → Int32} (h : sp_prOK z n) (hp : p < 12) (hm : mn p = Int32.ofNat n) (hs : sp_same z cl le ri lt p n) (sx sf : Nat → Int32) : ∃ fx fm : Nat → Int32, f_X5_fillSafes sx z.1 z.2.1 z.2.2.1 z.2.2.2.1 z.2.2.2.2.2.1 = some fx ∧ f_X10_laySafe (Int32.ofNat p) (Int32.ofNat (sp_rest z.2.2.2.1 z.2.1 z.2.2.1 n)) mn cl le ri lt sf = some fm ∧ ∀ l, l < n → ∃ s, s < 4096 ∧ fx l = Int32.ofNat s ∧ fm l = Int32.ofNat s := by
  have h1 := h.1
  have hn := h.2.1
  refine ⟨_, _, sp_fillSafes h sx, sp_laySafe h hp hm hs sx sf, fun l hl => ?_⟩
  have e1 := sp_ms_at (W := sp_W z (sp_rest z.2.2.2.1 z.2.1 z.2.2.1 n) (n - 1) (sp_f0 z n sx)) (sf := sf) (show l ≤ n - 1 by omega) n (by omega) (by omega)
  have e2 := sp_fs_stay (R := sp_rest z.2.2.2.1 z.2.1 z.2.2.1 n) (f0 := sp_f0 z n sx) h (show n - 1 < n by omega) (show l ≤ n - 1 by omega) (l + 1) (Nat.le_refl _)
  rw [show n - 1 - l + (l + 1) = n by omega] at e2
  rw [e1, e2]
  by_cases q : l < n - 1
  · rw [sp_W_up h (show n - 1 < n by omega) q (sp_f0_at q)]
    obtain ⟨s, k1, k2⟩ := sz_up_rng (sp_K z (sp_rest z.2.2.2.1 z.2.1 z.2.2.1 n) (sp_W z (sp_rest z.2.2.2.1 z.2.1 z.2.2.1 n) (n - 1) (sp_f0 z n sx)) l) (l + 1) (n - 1 - l)
    exact ⟨s, k1, k2, k2⟩
  · have hle : l = n - 1 := by omega
    subst hle
    have e3 : sp_W z (sp_rest z.2.2.2.1 z.2.1 z.2.2.1 n) (n - 1) (sp_f0 z n sx) (n - 1) = z.1 (n - 1) := by
      unfold sp_W
      rw [Nat.sub_self]
      show sp_f0 z n sx (n - 1) = _
      unfold sp_f0
      exact sz_upd_at _ _ _
    rw [e3]
    exact ⟨sp_cc z (n - 1), sp_cc_lt h hl, sp_cc_eq h hl, sp_cc_eq h hl⟩
