/-! safe signs: class and reference -/
theorem sp_m1_32 (v : Int32) : v &&& (-1 : Int32) = v := by
  apply Int32.toBitVec_inj.mp
  rw [Int32.toBitVec_and, show (-1 : Int32).toBitVec = BitVec.allOnes 32 by decide, BitVec.and_allOnes]
theorem sp_fs_step {x : sp_PrT} {n e i R : Nat} {f0 : Nat → Int32} (h : sp_prOK x n) (he : e < n) (hi : i ≤ e) (a : Nat) : (a < e - i → sp_fs x R e f0 (i + 1) a = sp_fs x R e f0 i a &&& sp_K x R (fun _ => sp_fs x R e f0 i (e - i)) a (e - i)) ∧ (e - i ≤ a → sp_fs x R e f0 (i + 1) a = sp_fs x R e f0 i a) := by
  have hn := h.2.1
  rcases sp_ground h (show e - i < n by omega) with ⟨g, -, -⟩ | ⟨g, u, v, k, hu, hv, hk, e1, e2, e3, e4⟩
  · rw [sp_fs, if_neg (fun q => q.2 g)]
    refine ⟨fun _ => ?_, fun _ => rfl⟩
    unfold sp_K
    rw [if_neg (fun q => q.2.1 g), sp_m1_32]
  · by_cases hR : R.testBit (e - i) = true
    · have huv := sz_lr h (show e - i < n by omega) hu hv hk e4
      rw [sp_fs, if_pos ⟨hR, g⟩]
      have n1 : (x.2.1 (e - i)).toNatClampNeg = u := by rw [e1, sp_i_nat (by omega)]
      have n2 : (x.2.2.1 (e - i)).toNatClampNeg = v := by rw [e2, sp_i_nat (by omega)]
      rw [n1, n2]
      refine ⟨fun ha => ?_, fun ha => ?_⟩
      · by_cases au : a = u
        · subst au
          unfold sp_K
          rw [sz_upd_ne huv, sz_upd_at, if_pos ⟨hR, g, Or.inl e1⟩, if_pos e1]
        · by_cases av : a = v
          · subst av
            unfold sp_K
            rw [sz_upd_at, if_pos ⟨hR, g, Or.inr e2⟩, if_neg (fun q => by rw [e1] at q; exact huv ((sp_i_inj (by omega) (by omega)).mp q))]
          · unfold sp_K
            rw [sz_upd_ne av, sz_upd_ne au, if_neg, sp_m1_32]
            rintro ⟨-, -, q | q⟩
            · rw [e1] at q; exact au ((sp_i_inj (by omega) (by omega)).mp q).symm
            · rw [e2] at q; exact av ((sp_i_inj (by omega) (by omega)).mp q).symm
      · rw [sz_upd_ne (by omega), sz_upd_ne (by omega)]
    · rw [sp_fs, if_neg (fun q => hR q.1)]
      refine ⟨fun _ => ?_, fun _ => rfl⟩
      unfold sp_K
      rw [if_neg (fun q => hR q.1), sp_m1_32]
/-- the safe signs of a line -/
def sp_W (x : sp_PrT) (R e : Nat) (f0 : Nat → Int32) (c : Nat) : Int32 := sp_fs x R e f0 (e - c) c
theorem sp_fs_dn {x : sp_PrT} {n e R a : Nat} {f0 : Nat → Int32} (h : sp_prOK x n) (he : e < n) (ha : a < e) (h0 : f0 a = 4095) : ∀ i, i ≤ e - a → sp_fs x R e f0 i a = sz_dn (sp_K x R (sp_W x R e f0) a) e i
  | 0, _ => h0
  | i + 1, hi => by
    rw [(sp_fs_step h he (show i ≤ e by omega) a).1 (by omega), sp_fs_dn h he ha h0 i (by omega), sz_dn]
    congr 1
    unfold sp_K sp_W
    rw [show e - (e - i) = i by omega]
theorem sp_fs_stay {x : sp_PrT} {n e R a : Nat} {f0 : Nat → Int32} (h : sp_prOK x n) (he : e < n) (ha : a ≤ e) : ∀ d, d ≤ a + 1 → sp_fs x R e f0 (e - a + d) a = sp_W x R e f0 a
  | 0, _ => rfl
  | d + 1, hd => by
    rw [← Nat.add_assoc, (sp_fs_step h he (show e - a + d ≤ e by omega) a).2 (by omega)]
    exact sp_fs_stay h he ha d (by omega)
theorem sp_W_up {x : sp_PrT} {n e R a : Nat} {f0 : Nat → Int32} (h : sp_prOK x n) (he : e < n) (ha : a < e) (h0 : f0 a = 4095) : sp_W x R e f0 a = sz_up (sp_K x R (sp_W x R e f0) a) (a + 1) (e - a) := by
  unfold sp_W
  rw [sp_fs_dn h he ha h0 (e - a) (Nat.le_refl _), sz_dn_up _ _ _ (by omega), show e + 1 - (e - a) = a + 1 by omega]
  rfl
theorem sp_fs_cut {x : sp_PrT} {R e i : Nat} {f0 : Nat → Int32} (hc : R.testBit (e - i) = true ∧ ¬ x.2.2.2.1 (e - i) = -9) : sp_fs x R e f0 (i + 1) = upd (upd (sp_fs x R e f0 i) (x.2.1 (e - i)).toNatClampNeg (sp_fs x R e f0 i (x.2.1 (e - i)).toNatClampNeg &&& (sp_fs x R e f0 i (e - i) ||| ((1 : Int32) <<< (x.2.2.2.1 (e - i) &&& 31))))) (x.2.2.1 (e - i)).toNatClampNeg (sp_fs x R e f0 i (x.2.2.1 (e - i)).toNatClampNeg &&& (sp_fs x R e f0 i (e - i) ||| ((1 : Int32) <<< ((x.2.2.2.1 (e - i) + 6) &&& 31)))) := by
  rw [sp_fs]
  exact if_pos hc
theorem sp_safeL {x : sp_PrT} {n e R : Nat} (h : sp_prOK x n) (he : e < n) (hR : R < 2 ^ 63) (f0 : Nat → Int32) (k : (Nat → Int32) → Option (Nat → Int32)) : sp_lp (f_X5_fillSafes_L52 k (Int64.ofNat R) x.2.1 x.2.2.2.1 x.2.2.1) sp_F (Int32.ofNat e, f0) = k (sp_fs x R e f0 (e + 1)) := by
  have hn := h.2.1
  refine sp_lp_fn (e + 1) (fun i => (sp_bk e i, sp_fs x R e f0 i)) (fun i hi rec => ?_) (fun rec => ?_) (sp_F_lt (by omega)) ?_
  · have hb : sp_bk e i = Int32.ofNat (e - i) := by unfold sp_bk; rw [if_pos (by omega)]
    rw [hb, f_X5_fillSafes_L52_eq, if_neg (sp_i_nn (by omega)), sp_isIn hR (by omega), sp_isGround h (show e - i < n by omega)]
    simp only [Option.bind_some, sp_bnd, sp_bk_next (show i ≤ e by omega)]
    rcases sp_ground h (show e - i < n by omega) with ⟨g, -, -⟩ | ⟨g, u, v, kk, hu, hv, hk, e1, e2, e3, e4⟩
    · have hfs : sp_fs x R e f0 (i + 1) = sp_fs x R e f0 i := by rw [sp_fs, if_neg (fun q => q.2 g)]
      rw [hfs, if_pos g, if_neg (show ¬ (1 : Int32) = 0 by decide)]
      split <;> rfl
    · by_cases hRb : R.testBit (e - i) = true
      · have huv := sz_lr h (show e - i < n by omega) hu hv hk e4
        rw [sp_fs_cut ⟨hRb, g⟩, if_pos hRb, if_neg (show ¬ (1 : Int32) = 0 by decide), if_neg g, if_pos (show (0 : Int32) = 0 from rfl)]
        simp only [sp_ld_at (show e - i < 48 by omega) (by omega : 48 < 1000000), e1, e2, sp_ld_at (show u < 48 by omega) (by omega : 48 < 1000000), sp_ld_at (show v < 48 by omega) (by omega : 48 < 1000000), sp_st_at (show u < 48 by omega) (by omega : 48 < 1000000), sp_st_at (show v < 48 by omega) (by omega : 48 < 1000000), f_X0_plain, f_X0_negated, Option.bind_some, sz_upd_ne (show v ≠ u from huv.symm), sz_upd_ne (show e - i ≠ u by omega), sp_i_nat (show u < 1000000 by omega), sp_i_nat (show v < 1000000 by omega)]
      · have hfs : sp_fs x R e f0 (i + 1) = sp_fs x R e f0 i := by rw [sp_fs, if_neg (fun q => hRb q.1)]
        rw [hfs, if_neg hRb, if_pos (show (0 : Int32) = 0 from rfl)]
  · have hb : sp_bk e (e + 1) = -1 := by unfold sp_bk; rw [if_neg (by omega)]
    rw [hb, f_X5_fillSafes_L52_eq, if_pos (by decide)]
  · show _ = (sp_bk e 0, f0)
    unfold sp_bk
    simp
def sp_f15 (sf : Nat → Int32) : Nat → (Nat → Int32)
  | 0 => sf
  | i + 1 => upd (sp_f15 sf i) i 4095
theorem sp_f15_at (sf : Nat → Int32) {a : Nat} : ∀ i, a < i → sp_f15 sf i a = 4095
  | 0, h => by omega
  | i + 1, h => by
    rw [sp_f15]
    by_cases e : a = i
    · subst e; exact sz_upd_at _ _ _
    · rw [sz_upd_ne e]; exact sp_f15_at sf i (by omega)
theorem sp_safeI {e : Nat} (he : e < 48) (sf : Nat → Int32) (k : (Nat → Int32) → Option (Nat → Int32)) : sp_lp (f_X5_fillSafes_L15 (Int32.ofNat e) k) sp_F ((0 : Int32), sf) = k (sp_f15 sf e) := by
  refine sp_lp_fn e (fun i => (Int32.ofNat i, sp_f15 sf i)) (fun i hi rec => ?_) (fun rec => ?_) (sp_F_lt (by omega)) rfl
  · rw [f_X5_fillSafes_L15_eq, if_neg (fun q => by have := (sp_i_le (by omega) (by omega)).mp q; omega), sp_st_at (show i < 48 by omega) (by omega)]
    simp only [sp_bnd, sp_i_succ]
    rfl
  · rw [f_X5_fillSafes_L15_eq, if_pos ((sp_i_le (by omega) (by omega)).mpr (Nat.le_refl _))]
/-- the class's row at first -/
def sp_f0 (x : sp_PrT) (n : Nat) (sf : Nat → Int32) : Nat → Int32 := upd (sp_f15 sf (n - 1)) (n - 1) (x.1 (n - 1))
theorem sp_f0_at {x : sp_PrT} {n a : Nat} {sf : Nat → Int32} (ha : a < n - 1) : sp_f0 x n sf a = 4095 := by
  unfold sp_f0
  rw [sz_upd_ne (by omega), sp_f15_at _ _ ha]
theorem sp_fillSafes {x : sp_PrT} {n : Nat} (h : sp_prOK x n) (sf : Nat → Int32) : f_X5_fillSafes sf x.1 x.2.1 x.2.2.1 x.2.2.2.1 x.2.2.2.2.2.1 = some (sp_fs x (sp_rest x.2.2.2.1 x.2.1 x.2.2.1 n) (n - 1) (sp_f0 x n sf) n) := by
  have h1 := h.1
  have hn := h.2.1
  have hR := sp_rest_lt h
  have hR63 : sp_rest x.2.2.2.1 x.2.1 x.2.2.1 n < 2 ^ 63 := Nat.lt_of_lt_of_le hR (Nat.pow_le_pow_right (by omega) (by omega))
  unfold f_X5_fillSafes
  rw [sp_restSet h, h.2.2.1, sp_i_pred h1]
  simp only [sp_bndE, Option.bind_some]
  rw [sp_safeI (show n - 1 < 48 by omega), sp_ld_at (show n - 1 < 48 by omega) (by omega), sp_st_at (show n - 1 < 48 by omega) (by omega), sp_safeL h (show n - 1 < n by omega) hR63, show n - 1 + 1 = n by omega]
  rfl
/-- the reference's row, i lines back -/
def sp_ms (W : Nat → Int32) (e : Nat) (sf : Nat → Int32) : Nat → (Nat → Int32)
  | 0 => sf
  | i + 1 => upd (sp_ms W e sf i) (e - i) (W (e - i))
theorem sp_ms_at {W : Nat → Int32} {e c : Nat} {sf : Nat → Int32} (hc : c ≤ e) : ∀ i, i ≤ e + 1 → e < c + i → sp_ms W e sf i c = W c
  | 0, _, h => by omega
  | i + 1, hi, h => by
    rw [sp_ms]
    by_cases q : c = e - i
    · rw [← q]; exact sz_upd_at _ _ _
    · rw [sz_upd_ne q]; exact sp_ms_at hc i (by omega) (by omega)
theorem sp_laySafeI {x : sp_PrT} {n p l R : Nat} {mn cl le ri lt : Nat → Int32} (h : sp_prOK x n) (hp : p < 12) (hm : mn p = Int32.ofNat n) (hs : sp_same x cl le ri lt p n) (hl : l < n - 1) (hR : R < 2 ^ 31) (W c : Nat → Int32) (hc : ∀ j, l < j → j < n → c j = W j) (k : (Nat → Int32) → Option (Nat → Int32)) : sp_lp (f_X10_laySafe_L53 mn (Int32.ofNat p) k (Int32.ofNat l) (Int32.ofNat R) le ri lt) sp_F (Int32.ofNat (l + 1), upd c l 4095) = k (upd c l (sz_up (sp_K x R W l) (l + 1) (n - 1 - l))) := by
  have h1 := h.1
  have hn := h.2.1
  refine sp_lp_fn (n - 1 - l) (fun j => (Int32.ofNat (l + 1 + j), upd c l (sz_up (sp_K x R W l) (l + 1) j))) (fun j hj rec => ?_) (fun rec => ?_) (sp_F_lt (by omega)) rfl
  · obtain ⟨-, s2, s3, s4⟩ := hs (l + 1 + j) (by omega)
    rw [f_X10_laySafe_L53_eq, sp_ld_at hp (by omega), hm, if_neg (fun q => by have := (sp_i_le (by omega) (by omega)).mp q; omega), sp_ld_at hp (by omega), hm, sp_i_pred h1, if_neg (fun q => by have := (sp_i_le (by omega) (by omega)).mp q; omega), sb_bit32 hR (by omega), sp_isFrom hn (show l + 1 + j < n by omega) hp hs]
    simp only [sp_bnd, sp_i_succ, Option.bind_some, sp_i_24, sp_ld_at (show 24 * p + (l + 1 + j) < 288 by omega) (by omega : 288 < 1000000), s2, s4, sp_ld_at (show l < 24 by omega) (by omega : 24 < 1000000), sp_ld_at (show l + 1 + j < 24 by omega) (by omega : 24 < 1000000), sp_st_at (show l < 24 by omega) (by omega : 24 < 1000000), sz_upd_at, sz_upd_ne (show l + 1 + j ≠ l by omega), sz_upd_upd, hc (l + 1 + j) (by omega) (by omega)]
    rw [sz_up]
    by_cases hRb : R.testBit (l + 1 + j) = true
    · rw [if_pos hRb, if_neg (show ¬ (1 : Int32) = 0 by decide)]
      by_cases hf : sp_frm x (l + 1 + j) l
      · rw [if_pos hf, if_neg (show ¬ (1 : Int32) = 0 by decide)]
        rcases sp_ground h (show l + 1 + j < n by omega) with ⟨g, -, -⟩ | ⟨g, u, v, kk, hu, hv, hk, e1, e2, e3, e4⟩
        · exact absurd g hf.1
        · by_cases q : x.2.1 (l + 1 + j) = Int32.ofNat l
          · have hK : sp_K x R W l (l + 1 + j) = W (l + 1 + j) ||| ((1 : Int32) <<< (x.2.2.2.1 (l + 1 + j) &&& 31)) := by
              unfold sp_K
              rw [if_pos ⟨hRb, hf⟩, if_pos q]
            rw [if_pos q, hK]; rfl
          · have hK : sp_K x R W l (l + 1 + j) = W (l + 1 + j) ||| ((1 : Int32) <<< ((x.2.2.2.1 (l + 1 + j) + 6) &&& 31)) := by
              unfold sp_K
              rw [if_pos ⟨hRb, hf⟩, if_neg q]
            rw [if_neg q, hK, e3, (sp_plain hk).2.1]; rfl
      · have hK : sp_K x R W l (l + 1 + j) = -1 := by
          unfold sp_K
          rw [if_neg (fun q => hf q.2)]
        rw [if_neg hf, if_pos (show (0 : Int32) = 0 from rfl), hK, sp_m1_32]; rfl
    · have hK : sp_K x R W l (l + 1 + j) = -1 := by
        unfold sp_K
        rw [if_neg (fun q => hRb q.1)]
      rw [if_neg hRb, if_pos (show (0 : Int32) = 0 from rfl), hK, sp_m1_32]; rfl
  · rw [f_X10_laySafe_L53_eq, sp_ld_at hp (by omega), hm, if_pos ((sp_i_le (by omega) (by omega)).mpr (by omega))]
theorem sp_laySafeL {x : sp_PrT} {n p R : Nat} {mn cl le ri lt : Nat → Int32} (h : sp_prOK x n) (hp : p < 12) (hm : mn p = Int32.ofNat n) (hs : sp_same x cl le ri lt p n) (hRe : R = sp_rest x.2.2.2.1 x.2.1 x.2.2.1 n) (f0 sf : Nat → Int32) (hf0 : ∀ a, a < n - 1 → f0 a = 4095) (hfe : f0 (n - 1) = x.1 (n - 1)) (k : (Nat → Int32) → Option (Nat → Int32)) : sp_lp (f_X10_laySafe_L9 k mn (Int32.ofNat p) (Int32.ofNat R) le ri lt cl) sp_F (Int32.ofNat (n - 1), sf) = k (sp_ms (sp_W x R (n - 1) f0) (n - 1) sf n) := by
  have h1 := h.1
  have hn := h.2.1
  have hRlt : R < 2 ^ n := by rw [hRe]; exact sp_rest_lt h
  have hR : R < 2 ^ 31 := Nat.lt_of_lt_of_le hRlt (Nat.pow_le_pow_right (by omega) (by omega))
  refine sp_lp_fn n (fun i => (sp_bk (n - 1) i, sp_ms (sp_W x R (n - 1) f0) (n - 1) sf i)) (fun i hi rec => ?_) (fun rec => ?_) (sp_F_lt (by omega)) ?_
  · have hb : sp_bk (n - 1) i = Int32.ofNat (n - 1 - i) := by unfold sp_bk; rw [if_pos (by omega)]
    rw [hb, f_X10_laySafe_L9_eq, if_neg (sp_i_nn (by omega)), sp_ld_at hp (by omega), hm, sp_i_pred h1]
    simp only [sp_bndE, sp_bk_next (show i ≤ n - 1 by omega), sp_i_succ]
    rw [sb_bit32 hR (by omega)]
    by_cases hi0 : i = 0
    · subst hi0
      rw [Nat.sub_zero, if_pos rfl, sp_i_24, sp_ld_at (show 24 * p + (n - 1) < 288 by omega) (by omega), (hs (n - 1) (by omega)).1, sp_st_at (show n - 1 < 24 by omega) (by omega)]
      have hin : ∀ (k : (Nat → Int32) → Option (Nat → Int32)) (c : Nat → Int32), sp_lp (f_X10_laySafe_L53 mn (Int32.ofNat p) k (Int32.ofNat (n - 1)) (Int32.ofNat R) le ri lt) sp_F (Int32.ofNat (n - 1 + 1), c) = k c := by
        intro k c
        refine sp_lp_fn 0 (fun _ => (Int32.ofNat (n - 1 + 1), c)) (fun i hi => by omega) (fun rec => ?_) (sp_F_lt (by omega)) rfl
        rw [f_X10_laySafe_L53_eq, sp_ld_at hp (by omega), hm, if_pos ((sp_i_le (by omega) (by omega)).mpr (by omega))]
      rw [hin]
      have hbe : R.testBit (n - 1) = true := by rw [hRe]; exact sp_rest_end
      rw [if_pos hbe, if_neg (show ¬ (1 : Int32) = 0 by decide), sp_ld_at (show n - 1 < 24 by omega) (by omega), sp_st_at (show n - 1 < 24 by omega) (by omega), sz_upd_at, sz_upd_upd]
      have hW : sp_W x R (n - 1) f0 (n - 1 - 0) = x.1 (n - 1) := by
        unfold sp_W
        rw [Nat.sub_zero, Nat.sub_self]
        exact hfe
      have hms : sp_ms (sp_W x R (n - 1) f0) (n - 1) sf (0 + 1) = upd sf (n - 1) (x.1 (n - 1)) := by
        show upd sf (n - 1 - 0) (sp_W x R (n - 1) f0 (n - 1 - 0)) = _
        rw [hW, Nat.sub_zero]
      rw [hms]
      rfl
    · have hl : n - 1 - i < n - 1 := by omega
      rw [if_neg (fun q => by have := (sp_i_inj (by omega) (by omega)).mp q; omega), sp_st_at (show n - 1 - i < 24 by omega) (by omega)]
      rw [sp_laySafeI h hp hm hs hl hR (sp_W x R (n - 1) f0) _ (fun j hj1 hj2 => sp_ms_at (by omega) i (by omega) (by omega))]
      rw [show n - 1 - (n - 1 - i) = i by omega]
      have hW := sp_W_up (R := R) h (show n - 1 < n by omega) hl (hf0 _ hl)
      rw [show n - 1 - (n - 1 - i) = i by omega] at hW
      rw [← hW]
      by_cases hbl : R.testBit (n - 1 - i) = true
      · rw [if_pos hbl, if_neg (show ¬ (1 : Int32) = 0 by decide), sp_ld_at (show n - 1 - i < 24 by omega) (by omega), sp_st_at (show n - 1 - i < 24 by omega) (by omega), sz_upd_at, sz_upd_upd]
        rfl
      · rw [if_neg hbl, if_pos rfl, sp_st_at (show n - 1 - i < 24 by omega) (by omega), sz_upd_upd]
        have hz : sp_W x R (n - 1) f0 (n - 1 - i) = 4095 := by
          rw [hW]
          apply sz_up_id
          intro j hj
          unfold sp_K
          rw [if_neg]
          rintro ⟨q1, q2⟩
          rw [hRe] at q1 hbl
          exact hbl (sp_rest_cl h (by omega) q1 q2 (by omega))
        rw [sp_ms, hz]
  · have hb : sp_bk (n - 1) n = -1 := by unfold sp_bk; rw [if_neg (by omega)]
    rw [hb, f_X10_laySafe_L9_eq, if_pos (by decide)]
  · show _ = (sp_bk (n - 1) 0, sf)
    unfold sp_bk
    simp
theorem sp_laySafe {x : sp_PrT} {n p : Nat} {mn cl le ri lt : Nat → Int32} (h : sp_prOK x n) (hp : p < 12) (hm : mn p = Int32.ofNat n) (hs : sp_same x cl le ri lt p n) (sx sf : Nat → Int32) : f_X10_laySafe (Int32.ofNat p) (Int32.ofNat (sp_rest x.2.2.2.1 x.2.1 x.2.2.1 n)) mn cl le ri lt sf = some (sp_ms (sp_W x (sp_rest x.2.2.2.1 x.2.1 x.2.2.1 n) (n - 1) (sp_f0 x n sx)) (n - 1) sf n) := by
  have h1 := h.1
  have hn := h.2.1
  unfold f_X10_laySafe
  rw [sp_ld_at hp (by omega), hm, sp_i_pred h1]
  simp only [sp_bndE]
  rw [sp_laySafeL h hp hm hs rfl (sp_f0 x n sx) sf (fun a ha => sp_f0_at ha) (by unfold sp_f0; exact sz_upd_at _ _ _)]
/-- class and reference: the same safe signs -/
theorem sp_safes {x : sp_PrT} {n p : Nat} {mn cl le ri lt : Nat → Int32} (h : sp_prOK x n) (hp : p < 12) (hm : mn p = Int32.ofNat n) (hs : sp_same x cl le ri lt p n) (sx sf : Nat → Int32) : ∃ fx fm : Nat → Int32, f_X5_fillSafes sx x.1 x.2.1 x.2.2.1 x.2.2.2.1 x.2.2.2.2.2.1 = some fx ∧ f_X10_laySafe (Int32.ofNat p) (Int32.ofNat (sp_rest x.2.2.2.1 x.2.1 x.2.2.1 n)) mn cl le ri lt sf = some fm ∧ ∀ l, l < n → fx l = fm l := by
  have h1 := h.1
  have hn := h.2.1
  refine ⟨_, _, sp_fillSafes h sx, sp_laySafe h hp hm hs sx sf, fun l hl => ?_⟩
  rw [sp_ms_at (by omega) n (by omega) (by omega)]
  have := sp_fs_stay (R := sp_rest x.2.2.2.1 x.2.1 x.2.2.1 n) (f0 := sp_f0 x n sx) h (show n - 1 < n by omega) (show l ≤ n - 1 by omega) (l + 1) (Nat.le_refl _)
  rw [show n - 1 - l + (l + 1) = n by omega] at this
  exact this
theorem op_safe {x : sp_XS} {y : sp_MS} (h : sp_Rel x y) (p1 p2 : Int32) : ∃ (r : Int32) (x' : sp_XS) (y' : sp_MS), sx_safe p1 p2 x = some (r, x') ∧ sm_safe p1 p2 y = some (r, y') ∧ sp_Rel x' y' := by
  rcases sp_line h p1 p2 with ⟨e1, e2⟩ | ⟨p, l, n, hp, rfl, ei, rfl, hl, hn, g1, g2, g3, e1, e2⟩
  · apply sp_fin (r := -1)
    · unfold sx_safe sx_safe0 f_X9_safe; rw [e1]; rfl
    · unfold sm_safe f_X10_safe; rw [e2]; rfl
    · exact h
  · obtain ⟨fx, fm, a1, a2, a3⟩ := sp_safes g1 hp g2 g3 x.2.2.2.2.2.2.1.2.1 y.2.2.2.2.2.2.2.2.2.2.2.2.2.2.2.2.2.2.2.2.2.2.2.2.2.1
    apply sp_fin (r := fx l)
    · unfold sx_safe sx_safe0 f_X9_safe f_X5_safeSigns; rw [ei, e1, a1]
      simp only [Option.bind_some, sp_ck_at hp (by omega : 12 < 1000000), sp_ld_at (show l < 48 by omega) (by omega : 48 < 1000000)]; rfl
    · unfold sm_safe f_X10_safe; rw [e2, sp_restsOf g1 hp g2 g3]
      simp only [Option.bind_some]
      rw [a2]
      simp only [Option.bind_some, sp_ld_at (show l < 24 by omega) (by omega : 24 < 1000000)]
      rw [a3 l hl]; rfl
    · exact h
