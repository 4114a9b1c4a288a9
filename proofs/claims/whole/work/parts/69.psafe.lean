/-! safe signs -/
theorem sp_rs_step {lt le ri : Nat → Int32} {e i b : Nat} (h : (sp_rs lt le ri e i).testBit b = true) : (sp_rs lt le ri e (i + 1)).testBit b = true := by
  rw [sp_rs]
  split
  · rw [Nat.testBit_or, h, Bool.true_or]
  · exact h
theorem sp_rs_mono {lt le ri : Nat → Int32} {e b : Nat} : ∀ (d i : Nat), (sp_rs lt le ri e i).testBit b = true → (sp_rs lt le ri e (i + d)).testBit b = true
  | 0, _, h => h
  | d + 1, i, h => sp_rs_step (sp_rs_mono d i h)
theorem sp_rs_keep1 {x : sp_PrT} {n e i b : Nat} (h : sp_prOK x n) (he : e < n) (hi : i ≤ e) (hb : e - i ≤ b) : (sp_rs x.2.2.2.1 x.2.1 x.2.2.1 e (i + 1)).testBit b = (sp_rs x.2.2.2.1 x.2.1 x.2.2.1 e i).testBit b := by
  have hn := h.2.1
  rw [sp_rs]
  split
  · rename_i hc
    rcases sp_ground h (show e - i < n by omega) with ⟨a, -⟩ | ⟨-, a, c, k, ha, hc', hk, e1, e2, -⟩
    · exact absurd a hc.2
    · rw [e1, e2, sp_i_nat (by omega), sp_i_nat (by omega), Nat.testBit_or, Nat.testBit_or, Nat.testBit_two_pow, Nat.testBit_two_pow]
      rw [decide_eq_false (by omega), decide_eq_false (by omega)]
      simp
  · rfl
theorem sp_rs_keep {x : sp_PrT} {n e b : Nat} (h : sp_prOK x n) (he : e < n) : ∀ (d i : Nat), i + d ≤ e + 1 → e - i ≤ b → (sp_rs x.2.2.2.1 x.2.1 x.2.2.1 e (i + d)).testBit b = (sp_rs x.2.2.2.1 x.2.1 x.2.2.1 e i).testBit b
  | 0, _, _, _ => rfl
  | d + 1, i, hi, hb => by
    rw [← Nat.add_assoc, sp_rs_keep1 h he (by omega) (by omega)]
    exact sp_rs_keep h he d i (by omega) hb
/-- what a line on which the end rests is cut from, the end rests on -/
theorem sp_rest_cl {x : sp_PrT} {n c a : Nat} (h : sp_prOK x n) (hc : c < n) (hb : (sp_rest x.2.2.2.1 x.2.1 x.2.2.1 n).testBit c = true) (hf : sp_frm x c a) (ha : a < n) : (sp_rest x.2.2.2.1 x.2.1 x.2.2.1 n).testBit a = true := by
  have h1 := h.1
  have hn := h.2.1
  unfold sp_rest at hb ⊢
  have k1 := sp_rs_keep (b := c) h (show n - 1 < n by omega) (n - (n - 1 - c)) (n - 1 - c) (by omega) (by omega)
  rw [show n - 1 - c + (n - (n - 1 - c)) = n by omega, hb] at k1
  have k2 : (sp_rs x.2.2.2.1 x.2.1 x.2.2.1 (n - 1) (n - 1 - c + 1)).testBit a = true := by
    rw [sp_rs, show n - 1 - (n - 1 - c) = c by omega, if_pos ⟨k1.symm, hf.1⟩, Nat.testBit_or, Nat.testBit_or]
    rcases hf.2 with q | q
    · rw [q, sp_i_nat (by omega), Nat.testBit_two_pow_self]; simp
    · rw [q, sp_i_nat (by omega), Nat.testBit_two_pow_self]; simp
  have k3 := sp_rs_mono (n - (n - 1 - c + 1)) _ k2
  rw [show n - 1 - c + 1 + (n - (n - 1 - c + 1)) = n by omega] at k3
  exact k3
theorem sp_rest_end {x : sp_PrT} {n : Nat} : (sp_rest x.2.2.2.1 x.2.1 x.2.2.1 n).testBit (n - 1) = true := by
  have k2 : (sp_rs x.2.2.2.1 x.2.1 x.2.2.1 (n - 1) 0).testBit (n - 1) = true := by
    rw [sp_rs, Nat.testBit_two_pow_self]
  have k3 := sp_rs_mono n _ k2
  rw [Nat.zero_add] at k3
  exact k3
theorem sz_upd_at (f : Nat → Int32) (i : Nat) (v : Int32) : upd f i v i = v := by unfold upd; simp
theorem sz_upd_ne {f : Nat → Int32} {i j : Nat} {v : Int32} (h : j ≠ i) : upd f i v j = f j := by unfold upd; rw [if_neg h]
theorem sz_upd_upd (f : Nat → Int32) (i : Nat) (v w : Int32) : upd (upd f i v) i w = upd f i w := by
  funext j
  unfold upd
  split <;> rfl
/-- and over a run of places, up and down -/
def sz_up (f : Nat → Int32) (lo : Nat) : Nat → Int32
  | 0 => 4095
  | k + 1 => sz_up f lo k &&& f (lo + k)
def sz_dn (f : Nat → Int32) (hi : Nat) : Nat → Int32
  | 0 => 4095
  | k + 1 => sz_dn f hi k &&& f (hi - k)
theorem sz_up_shift (f : Nat → Int32) : ∀ (k lo : Nat), sz_up f lo (k + 1) = sz_up f (lo + 1) k &&& f lo
  | 0, lo => rfl
  | k + 1, lo => by
    rw [sz_up, sz_up_shift f k lo, sz_up, Int32.and_assoc, Int32.and_comm (f lo), ← Int32.and_assoc, show lo + 1 + k = lo + (k + 1) by omega]
theorem sz_dn_up (f : Nat → Int32) (hi : Nat) : ∀ k, k ≤ hi + 1 → sz_dn f hi k = sz_up f (hi + 1 - k) k
  | 0, _ => rfl
  | k + 1, hk => by
    rw [sz_dn, sz_dn_up f hi k (by omega), sz_up_shift, show hi + 1 - (k + 1) + 1 = hi + 1 - k by omega, show hi + 1 - (k + 1) = hi - k by omega]
theorem sz_up_id (f : Nat → Int32) (lo : Nat) : ∀ k, (∀ j, j < k → f (lo + j) = -1) → sz_up f lo k = 4095
  | 0, _ => rfl
  | k + 1, h => by
    rw [sz_up, sz_up_id f lo k (fun j hj => h j (by omega)), h k (by omega)]; rfl
theorem sz_up_ext (f g : Nat → Int32) (lo : Nat) : ∀ k, (∀ j, j < k → f (lo + j) = g (lo + j)) → sz_up f lo k = sz_up g lo k
  | 0, _ => rfl
  | k + 1, h => by
    rw [sz_up, sz_up, sz_up_ext f g lo k (fun j hj => h j (by omega)), h k (by omega)]
/-- the class's row of safe signs, i lines back from the end e -/
def sp_fs (x : sp_PrT) (R e : Nat) (f0 : Nat → Int32) : Nat → (Nat → Int32)
  | 0 => f0
  | i + 1 => if R.testBit (e - i) = true ∧ ¬ x.2.2.2.1 (e - i) = -9 then upd (upd (sp_fs x R e f0 i) (x.2.1 (e - i)).toNatClampNeg (sp_fs x R e f0 i (x.2.1 (e - i)).toNatClampNeg &&& (sp_fs x R e f0 i (e - i) ||| ((1 : Int32) <<< (x.2.2.2.1 (e - i) &&& 31))))) (x.2.2.1 (e - i)).toNatClampNeg (sp_fs x R e f0 i (x.2.2.1 (e - i)).toNatClampNeg &&& (sp_fs x R e f0 i (e - i) ||| ((1 : Int32) <<< ((x.2.2.2.1 (e - i) + 6) &&& 31)))) else sp_fs x R e f0 i
/-- what a cut c leaves of a's safe signs -/
def sp_K (x : sp_PrT) (R : Nat) (W : Nat → Int32) (a c : Nat) : Int32 := if R.testBit c = true ∧ sp_frm x c a then W c ||| (if x.2.1 c = Int32.ofNat a then (1 : Int32) <<< (x.2.2.2.1 c &&& 31) else (1 : Int32) <<< ((x.2.2.2.1 c + 6) &&& 31)) else -1
theorem sz_lr {x : sp_PrT} {n l a b k : Nat} (h : sp_prOK x n) (hl : l < n) (ha : a < l) (hb : b < l) (hk : k < 6) (e : f_X10_cutOf (x.1 a) (x.1 b) (Int32.ofNat k) = some (x.1 l)) : a ≠ b := by
  rintro rfl
  have hc := sp_clOK h (show a < n by omega)
  have hcl := sp_clOK h hl
  obtain ⟨c, hc4, ec⟩ := sp_isClause1 hc
  rw [← sp_cutOf _ _ hk, ec] at e
  unfold f_X0_cutOf at e
  rw [sp_plainN (by omega), sp_negN (by omega)] at e
  simp only [Option.bind_some, sp_bnd, sp_isPart_bit (show k < 31 by omega), sp_isPart_bit (show k + 6 < 31 by omega)] at e
  have hne : ¬ x.1 l = -9 := by
    obtain ⟨m, hm, em⟩ := sp_isClause1 hcl
    rw [em]; exact sp_i_neg (by omega)
  by_cases q1 : c.testBit k = true
  · by_cases q2 : c.testBit (k + 6) = true
    · rw [ec] at hc
      unfold f_X10_isClause f_X10_within at hc
      rw [if_neg (sp_i_nn (by omega)), if_neg (by rw [Int32.not_lt]; exact (sp_i_le (n := 4095) (by omega) (by omega)).mpr (by omega))] at hc
      have hs : Int32.ofNat c >>> ((6 : Int32) &&& 31) = Int32.ofNat (c / 2 ^ 6) := sb_shr32 (l := 6) (by omega) (by omega)
      rw [hs, show (63 : Int32) = Int32.ofNat 63 from rfl, sb_and32, sb_and32] at hc
      simp only [Option.bind_some] at hc
      have hz : ¬ Int32.ofNat (c &&& 63 &&& c / 2 ^ 6) = 0 := by
        rw [sb_zero32 (Nat.and_lt_two_pow _ (by omega))]
        intro z
        have := congrArg (fun v => Nat.testBit v k) z
        simp only [Nat.testBit_and, Nat.testBit_div_two_pow, q1, q2, Nat.zero_testBit, Bool.true_and, Bool.and_true] at this
        rw [show (63 : Nat) = 2 ^ 6 - 1 from rfl, Nat.testBit_two_pow_sub_one, decide_eq_true hk] at this
        exact absurd this (by decide)
      rw [if_neg (by decide), if_neg hz] at hc
      exact absurd hc (by decide)
    · simp [q1, q2] at e
      exact hne e.symm
  · simp [q1] at e
    exact hne e.symm
