/-! the grounds' tables on both sides; follows, truths -/
theorem sp_one_ne : ((1 : Int32) = 0) = False := eq_false (by decide)
theorem sp_m1_64 (v : Int64) : v &&& (-1 : Int64) = v := by
  apply Int64.toBitVec_inj.mp
  rw [Int64.toBitVec_and, show (-1 : Int64).toBitVec = BitVec.allOnes 64 by decide, BitVec.and_allOnes]
theorem sb_to64 {a : Nat} (h : a < 2 ^ 31) : (Int32.ofNat a).toInt64 = Int64.ofNat a := by
  apply Int64.toInt_inj.mp
  rw [Int32.toInt_toInt64, Int32.toInt_ofNat_of_lt h, lg_ofNat_toInt (by omega)]
theorem sp_clOK {x : sp_PrT} {n l : Nat} (h : sp_prOK x n) (hl : l < n) : f_X10_isClause (x.1 l) = some 1 := (h.2.2.2.1 l hl).1
/-- where all of a set are true -/
def sp_al (T : Nat → Int64) (b : Nat → Bool) : Nat → Int64
  | 0 => -1
  | g + 1 => if b g then sp_al T b g &&& T g else sp_al T b g
/-- the table of a ground -/
def sp_gt (x : sp_PrT) (g : Nat) : Int64 := sp_T (x.1 (x.2.2.2.2.1 g).toNatClampNeg)
theorem sp_gt_at {x : sp_PrT} {n l : Nat} (h : sp_prOK x n) (hl : l < n) (hg : x.2.2.2.1 l = -9) : sp_gt x (sp_gn x.2.2.2.1 l) = sp_T (x.1 l) := by
  have hn := h.2.1
  unfold sp_gt
  rw [h.2.2.2.2.2 l hl hg, sp_i_nat (by omega)]
theorem sp_allOf {x : sp_PrT} {n : Nat} (h : sp_prOK x n) (p2 : Int32) (b : Nat → Bool) (hb : ∀ g, g < sp_gn x.2.2.2.1 n → f_X9_isIn (Int32.ofNat g) p2.toInt64 = some (if b g then 1 else 0)) : f_X8_allOf p2 x.1 x.2.2.2.2.1 x.2.2.2.2.2.2 = some (sp_al (sp_gt x) b (sp_gn x.2.2.2.1 n)) := by
  have hn := h.2.1
  have hgl := sp_gn_le x.2.2.2.1 n
  unfold f_X8_allOf
  rw [sp_bnd, h.2.2.2.2.1]
  refine sp_lp_fn (sp_gn x.2.2.2.1 n) (fun g => (sp_al (sp_gt x) b g, Int32.ofNat g)) (fun g hg rec => ?_) (fun rec => ?_) (sp_F_lt (by omega)) rfl
  · obtain ⟨l, l1, l2, l3, l4⟩ := sp_gr h hg
    rw [f_X8_allOf_L7_eq, if_neg (fun q => by have := (sp_i_le (by omega) (by omega)).mp q; omega), hb g hg]
    simp only [Option.bind_some, sp_bnd, sp_i_succ, sp_ld_at (show g < 48 by omega) (by omega : 48 < 1000000), l4, sp_ld_at (show l < 48 by omega) (by omega : 48 < 1000000), sp_tabX (sp_clOK h l1)]
    have e : sp_gt x g = sp_T (x.1 l) := by rw [← l3]; exact sp_gt_at h l1 l2
    rw [sp_al, e]
    cases hc : b g <;> simp
  · rw [f_X8_allOf_L7_eq, if_pos ((sp_i_le (by omega) (by omega)).mpr (Nat.le_refl _))]
def sp_l3 (x : sp_PrT) (gt : Nat → Int64) : Nat → (Nat → Int64)
  | 0 => gt
  | l + 1 => if x.2.2.2.1 l = -9 then vp_updL (sp_l3 x gt l) (sp_gn x.2.2.2.1 l) (sp_T (x.1 l)) else sp_l3 x gt l
def sp_lts (c : Int32) : Int32 := (c ||| (c >>> ((6 : Int32) &&& 31))) &&& (63 : Int32)
def sp_l4 (x : sp_PrT) (gl : Nat → Int32) : Nat → (Nat → Int32)
  | 0 => gl
  | l + 1 => if x.2.2.2.1 l = -9 then upd (sp_l4 x gl l) (sp_gn x.2.2.2.1 l) (sp_lts (x.1 l)) else sp_l4 x gl l
theorem sp_layL {x : sp_PrT} {n p : Nat} {mn cl le ri lt : Nat → Int32} (h : sp_prOK x n) (hp : p < 12) (hm : mn p = Int32.ofNat n) (hs : sp_same x cl le ri lt p n) (gt : Nat → Int64) (gl : Nat → Int32) (k : (Nat → Int64) → (Nat → Int32) → Option ((Nat → Int64) × (Nat → Int32))) : sp_lp (f_X10_layGrounds_L4 mn (Int32.ofNat p) k lt cl) sp_F ((0 : Int32), (0 : Int32), gt, gl) = k (sp_l3 x gt n) (sp_l4 x gl n) := by
  have hn := h.2.1
  refine sp_lp_fn n (fun l => (Int32.ofNat (sp_gn x.2.2.2.1 l), Int32.ofNat l, sp_l3 x gt l, sp_l4 x gl l)) (fun l hl rec => ?_) (fun rec => ?_) (sp_F_lt (by omega)) rfl
  · have hgl := sp_gn_le x.2.2.2.1 l
    obtain ⟨s1, -, -, s4⟩ := hs l hl
    rw [f_X10_layGrounds_L4_eq, sp_ld_at hp (by omega), hm, if_neg (fun q => by have := (sp_i_le (by omega) (by omega)).mp q; omega), sp_i_24]
    simp only [sp_bnd, sp_i_succ, sp_ld_at (show 24 * p + l < 288 by omega) (by omega : 288 < 1000000), s1, s4, sp_tabM (sp_clOK h hl), Option.bind_some, sp_stL_at (show sp_gn x.2.2.2.1 l < 24 by omega) (by omega : 24 < 1000000), sp_st_at (show sp_gn x.2.2.2.1 l < 24 by omega) (by omega : 24 < 1000000)]
    rw [sp_gn, sp_l3, sp_l4]
    by_cases hg : x.2.2.2.1 l = -9
    · rw [if_pos hg, if_pos hg, if_pos hg, if_pos hg]; rfl
    · rw [if_neg hg, if_neg hg, if_neg hg, if_neg hg]; rfl
  · rw [f_X10_layGrounds_L4_eq, sp_ld_at hp (by omega), hm, if_pos ((sp_i_le (by omega) (by omega)).mpr (Nat.le_refl n))]
theorem sp_layGrounds {x : sp_PrT} {n p : Nat} {mn cl le ri lt : Nat → Int32} (h : sp_prOK x n) (hp : p < 12) (hm : mn p = Int32.ofNat n) (hs : sp_same x cl le ri lt p n) (gt : Nat → Int64) (gl : Nat → Int32) : f_X10_layGrounds (Int32.ofNat p) mn cl lt gt gl = some (sp_l3 x gt n, sp_l4 x gl n) := by
  unfold f_X10_layGrounds
  rw [sp_bnd, sp_layL h hp hm hs]
theorem sp_gn_lt {lt : Nat → Int32} {a b : Nat} (h : a < b) (hg : lt a = -9) : sp_gn lt a < sp_gn lt b := by
  have := sp_gn_mono lt (show a + 1 ≤ b by omega)
  rw [sp_gn, if_pos hg] at this
  omega
theorem sp_l3_at {x : sp_PrT} {gt : Nat → Int64} {l : Nat} (hg : x.2.2.2.1 l = -9) : ∀ n, l < n → sp_l3 x gt n (sp_gn x.2.2.2.1 l) = sp_T (x.1 l)
  | 0, hl => by omega
  | n + 1, hl => by
    rw [sp_l3]
    by_cases e : l = n
    · subst e
      rw [if_pos hg]
      unfold vp_updL
      simp
    · have ih := sp_l3_at (gt := gt) hg n (by omega)
      have hlt := sp_gn_lt (show l < n by omega) hg
      split
      · unfold vp_updL
        rw [if_neg (by omega)]
        exact ih
      · exact ih
theorem sp_l4_at {x : sp_PrT} {gl : Nat → Int32} {l : Nat} (hg : x.2.2.2.1 l = -9) : ∀ n, l < n → sp_l4 x gl n (sp_gn x.2.2.2.1 l) = sp_lts (x.1 l)
  | 0, hl => by omega
  | n + 1, hl => by
    rw [sp_l4]
    by_cases e : l = n
    · subst e
      rw [if_pos hg]
      unfold upd
      simp
    · have ih := sp_l4_at (gl := gl) hg n (by omega)
      have hlt := sp_gn_lt (show l < n by omega) hg
      split
      · unfold upd
        rw [if_neg (by omega)]
        exact ih
      · exact ih
theorem sp_l3_g {x : sp_PrT} {n g : Nat} {gt : Nat → Int64} (h : sp_prOK x n) (hg : g < sp_gn x.2.2.2.1 n) : sp_l3 x gt n g = sp_gt x g := by
  obtain ⟨l, l1, l2, l3, l4⟩ := sp_gr h hg
  rw [← l3, sp_l3_at l2 n l1, sp_gt_at h l1 l2]
theorem sp_allTrue {c3 T : Nat → Int64} {G : Nat} (hG : G ≤ 24) (p1 : Int32) (b : Nat → Bool) (hc : ∀ g, g < G → c3 g = T g) (hb : ∀ g, g < G → ((p1 >>> (Int32.ofNat g &&& 31)) &&& (1 : Int32)) = if b g then 1 else 0) : f_X10_allTrue p1 (Int32.ofNat G) c3 = some (sp_al T b G) := by
  unfold f_X10_allTrue
  rw [sp_bnd]
  refine sp_lp_fn G (fun g => (sp_al T b g, Int32.ofNat g)) (fun g hg rec => ?_) (fun rec => ?_) (sp_F_lt (by omega)) rfl
  · rw [f_X10_allTrue_L7_eq, if_neg (fun q => by have := (sp_i_le (by omega) (by omega)).mp q; omega), hb g hg]
    simp only [sp_bnd, sp_i_succ, sp_ld_at (show g < 24 by omega) (by omega : 24 < 1000000), hc g hg]
    rw [sp_al]
    cases hcb : b g
    · rw [if_neg (by decide), if_neg (by decide), sp_m1_64]
    · rw [if_pos rfl, if_pos rfl]; rfl
  · rw [f_X10_allTrue_L7_eq, if_pos ((sp_i_le (by omega) (by omega)).mpr (Nat.le_refl _))]
theorem sp_isIn_m1 : ∀ g, g < 24 → f_X9_isIn (Int32.ofNat g) ((-1 : Int32).toInt64) = some 1 := by decide +kernel
theorem sp_followsM {x : sp_PrT} {n p : Nat} {mn cl le ri lt : Nat → Int32} (h : sp_prOK x n) (hp : p < 12) (hm : mn p = Int32.ofNat n) (hs : sp_same x cl le ri lt p n) {c3 : Nat → Int64} (hc : ∀ g, g < sp_gn x.2.2.2.1 n → c3 g = sp_gt x g) (k : Int64 → Option (Int32 × (Nat → Int64) × (Nat → Int32))) : sp_lp (f_X10_follows_L32 (Int32.ofNat p) mn lt k c3) sp_F ((-1 : Int64), (0 : Int32)) = k (sp_al (sp_gt x) (fun _ => true) (sp_gn x.2.2.2.1 n)) := by
  have hn := h.2.1
  have hgl := sp_gn_le x.2.2.2.1 n
  refine sp_lp_fn (sp_gn x.2.2.2.1 n) (fun g => (sp_al (sp_gt x) (fun _ => true) g, Int32.ofNat g)) (fun g hg rec => ?_) (fun rec => ?_) (sp_F_lt (by omega)) rfl
  · rw [f_X10_follows_L32_eq, sp_groundsOf h hp hm hs]
    simp only [Option.bind_some]
    rw [if_neg (fun q => by have := (sp_i_le (by omega) (by omega)).mp q; omega), sp_ld_at (show g < 24 by omega) (by omega), hc g hg]
    simp only [sp_bnd, sp_i_succ]
    rw [sp_al, if_pos rfl]
  · rw [f_X10_follows_L32_eq, sp_groundsOf h hp hm hs]
    simp only [Option.bind_some]
    rw [if_pos ((sp_i_le (by omega) (by omega)).mpr (Nat.le_refl _))]
theorem sp_followsE {p1 p2 pn : Int32} {mn cl lt : Nat → Int32} {gt : Nat → Int64} {gl : Nat → Int32} {c3 : Nat → Int64} {c4 : Nat → Int32} {A t : Int64} (h1 : f_X10_isProof p1 pn = some 1) (h2 : f_X10_isClause p2 = some 1) (h3 : f_X10_layGrounds p1 mn cl lt gt gl = some (c3, c4)) (h4 : ∀ k : Int64 → Option (Int32 × (Nat → Int64) × (Nat → Int32)), sp_lp (f_X10_follows_L32 p1 mn lt k c3) sp_F ((-1 : Int64), (0 : Int32)) = k A) (h5 : f_X10_truthsOf p2 = some t) : f_X10_follows p1 p2 pn mn cl lt gt gl = some (if (A &&& (t ^^^ (-1 : Int64))) = 0 then 1 else 0, c3, c4) := by
  unfold f_X10_follows
  rw [h1, Option.bind_some, if_neg (by decide), h2, Option.bind_some, if_neg (by decide), h3, Option.bind_some]
  show sp_bnd _ _ = _
  rw [sp_bndE, h4, h5, Option.bind_some]
  by_cases hz : A &&& (t ^^^ (-1 : Int64)) = 0
  · rw [if_pos hz, if_pos ((lg_cmp_eq _ _).mpr hz)]
  · rw [if_neg hz, if_neg (fun q => hz ((lg_cmp_eq _ _).mp q))]
theorem op_follows {x : sp_XS} {y : sp_MS} (h : sp_Rel x y) (p1 p2 : Int32) : ∃ (r : Int32) (x' : sp_XS) (y' : sp_MS), sx_follows p1 p2 x = some (r, x') ∧ sm_follows p1 p2 y = some (r, y') ∧ sp_Rel x' y' := by
  rcases sp_proof h p1 with ⟨e1, e2⟩ | ⟨p, n, hp, rfl, ei, g1, g2, g3, e1, e2, -⟩
  · apply sp_fin (r := -1)
    · unfold sx_follows sx_follows0 f_X9_follows; rw [e1]; rfl
    · unfold sm_follows f_X10_follows; rw [e2]; rfl
    · exact h
  · rcases sp_isClause01 p2 with hc | hc
    · apply sp_fin (r := -2)
      · unfold sx_follows sx_follows0 f_X9_follows; rw [e1, sp_isClause, hc]; rfl
      · unfold sm_follows f_X10_follows; rw [e2, hc]; rfl
      · exact h
    · have hn := g1.2.1
      have hgl := sp_gn_le (x.1 p).2.2.2.1 n
      generalize hA : sp_al (sp_gt (x.1 p)) (fun _ => true) (sp_gn (x.1 p).2.2.2.1 n) = A
      have eX : f_X8_allOf (-1) (x.1 p).1 (x.1 p).2.2.2.2.1 (x.1 p).2.2.2.2.2.2 = some A := by
        rw [sp_allOf g1 (-1) (fun _ => true) (fun g hg => sp_isIn_m1 g (by omega)), hA]
      apply sp_fin (r := if (A &&& (sp_T p2 ^^^ (-1 : Int64))) = 0 then 1 else 0)
      · unfold sx_follows sx_follows0 f_X9_follows; rw [ei, e1, sp_isClause, hc, eX, sp_tabX hc]
        simp only [Option.bind_some, sp_ck_at hp (by omega : 12 < 1000000), lg_cmp_eq, sp_one_ne, if_false]
        by_cases hz : A &&& (sp_T p2 ^^^ (-1 : Int64)) = 0
        · rw [if_pos hz, if_pos hz]; rfl
        · rw [if_neg hz, if_neg hz]; rfl
      · unfold sm_follows
        rw [sp_followsE e2 hc (sp_layGrounds g1 hp g2 g3 _ _) (fun k => sp_followsM g1 hp g2 g3 (fun g hg => sp_l3_g g1 hg) k) (sp_tabM hc), hA]
        rfl
      · exact h
theorem sp_gset {G : Nat} (hG : G ≤ 10) (p2 : Int32) : (f_X9_isGroundSet p2 (Int32.ofNat G) = some 0 ∧ f_X10_within p2 0 (((1 : Int32) <<< (Int32.ofNat G &&& 31)) - 1) = some 0) ∨ ∃ s : Nat, s < 2 ^ G ∧ s < 1024 ∧ p2 = Int32.ofNat s ∧ f_X9_isGroundSet p2 (Int32.ofNat G) = some 1 ∧ f_X10_within p2 0 (((1 : Int32) <<< (Int32.ofNat G &&& 31)) - 1) = some 1 := by
  have h1 : 1 ≤ 2 ^ G := Nat.one_le_two_pow
  have h2 : 2 ^ G ≤ 2 ^ 10 := Nat.pow_le_pow_right (by omega) hG
  unfold f_X9_isGroundSet f_X10_within
  rw [sb_one32 (by omega), sp_i_pred h1]
  by_cases h0 : p2 < 0
  · left; rw [if_pos h0, if_pos h0]; exact ⟨rfl, rfl⟩
  · have ep := sp_i_ex h0
    generalize p2.toNatClampNeg = s at ep
    have hs31 : s < 2 ^ 31 ∨ ¬ s < 2 ^ 31 := Nat.lt_or_ge _ _ |>.imp id Nat.not_lt.mpr
    rw [if_neg h0, if_neg h0]
    by_cases hle : Int32.ofNat (2 ^ G) ≤ p2
    · left
      have hlt : Int32.ofNat (2 ^ G - 1) < p2 := by
        rw [Int32.le_iff_toInt_le, Int32.toInt_ofNat_of_lt (by omega)] at hle
        rw [Int32.lt_iff_toInt_lt, Int32.toInt_ofNat_of_lt (by omega)]
        omega
      rw [if_pos hle, if_pos hlt]; exact ⟨rfl, rfl⟩
    · right
      have hlt : ¬ Int32.ofNat (2 ^ G - 1) < p2 := by
        rw [Int32.le_iff_toInt_le, Int32.toInt_ofNat_of_lt (by omega)] at hle
        rw [Int32.lt_iff_toInt_lt, Int32.toInt_ofNat_of_lt (by omega)]
        omega
      obtain ⟨s, hs, e⟩ := sp_i_le_ex (n := 2 ^ G - 1) (by omega) h0 (Int32.not_lt.mp hlt)
      exact ⟨s, by omega, by omega, e, by rw [if_neg hle], by rw [if_neg hlt]⟩
theorem sp_mask_bit : ∀ m, m < 64 → ((4294967295 : Int64).toBitVec).getLsbD m = decide (m < 32) := by decide +kernel
theorem sp_half0 (t : Int64) : f_X9_halfOf t 0 = f_X10_halfOf t 0 := by
  unfold f_X9_halfOf f_X10_halfOf
  rw [if_pos rfl]
  have e : t >>> (((32 : Int32) * 0).toInt64 &&& 63) = t := by
    apply Int64.toBitVec_inj.mp
    have e2 : (t >>> (((32 : Int32) * 0).toInt64 &&& 63)).toBitVec = t.toBitVec.sshiftRight 0 := rfl
    rw [e2, BitVec.sshiftRight_zero]
  rw [e]
theorem sp_half1 (t : Int64) : f_X9_halfOf t 1 = f_X10_halfOf t 1 := by
  unfold f_X9_halfOf f_X10_halfOf
  rw [if_neg (by decide)]
  congr 1
  apply Int64.toBitVec_inj.mp
  have e1 : ((t.toUInt64 >>> ((32 : Int32).toInt64.toUInt64 &&& Int64.toUInt64 63)).toInt64).toBitVec = t.toBitVec >>> 32 := rfl
  have e2 : (t >>> (((32 : Int32) * 1).toInt64 &&& 63)).toBitVec = t.toBitVec.sshiftRight 32 := rfl
  rw [e1, Int64.toBitVec_and, e2]
  apply BitVec.eq_of_getLsbD_eq
  intro i hi
  rw [BitVec.getLsbD_ushiftRight, BitVec.getLsbD_and, BitVec.getLsbD_sshiftRight, sp_mask_bit i hi]
  by_cases h : i < 32
  · have h3 : 32 + i < 64 := by omega
    simp [h, h3, hi]
  · rw [BitVec.getLsbD_of_ge _ _ (show 64 ≤ 32 + i by omega)]
    simp [h]
theorem sp_tAsk {x : sp_PrT} {n p : Nat} {mn cl le ri lt : Nat → Int32} (h : sp_prOK x n) (hp : p < 12) (hm : mn p = Int32.ofNat n) (hs : sp_same x cl le ri lt p n) (p2 p3 pn : Int32) (hpn : f_X9_isProof (Int32.ofNat p) pn = some 1) : (f_X9_isTableAsked (Int32.ofNat p) p2 p3 pn x.2.2.2.2.2.2 = some 0 ∧ ((f_X10_within p3 0 1 = some 0) ∨ (f_X10_within p3 0 1 = some 1 ∧ 10 < sp_gn x.2.2.2.1 n) ∨ (f_X10_within p3 0 1 = some 1 ∧ sp_gn x.2.2.2.1 n ≤ 10 ∧ f_X10_within p2 0 (((1 : Int32) <<< (Int32.ofNat (sp_gn x.2.2.2.1 n) &&& 31)) - 1) = some 0))) ∨ (f_X9_isTableAsked (Int32.ofNat p) p2 p3 pn x.2.2.2.2.2.2 = some 1 ∧ f_X10_within p3 0 1 = some 1 ∧ (p3 = 0 ∨ p3 = 1) ∧ sp_gn x.2.2.2.1 n ≤ 10 ∧ f_X10_within p2 0 (((1 : Int32) <<< (Int32.ofNat (sp_gn x.2.2.2.1 n) &&& 31)) - 1) = some 1 ∧ ∃ s : Nat, s < 2 ^ sp_gn x.2.2.2.1 n ∧ s < 1024 ∧ p2 = Int32.ofNat s) := by
  have hn := h.2.1
  have hgl := sp_gn_le x.2.2.2.1 n
  have h10 : ((10 : Int32) < Int32.ofNat (sp_gn x.2.2.2.1 n)) ↔ 10 < sp_gn x.2.2.2.1 n := sp_i_lt (i := 10) (by omega) (by omega)
  unfold f_X9_isTableAsked
  rw [hpn, h.2.2.2.2.1]
  simp only [Option.bind_some, sp_ck_at hp (by omega : 12 < 1000000)]
  rw [if_neg (show ¬ (1 : Int32) = 0 by decide)]
  have key : ∀ P : Option Int32, (P = if (10 : Int32) < Int32.ofNat (sp_gn x.2.2.2.1 n) then some 0 else (f_X9_isGroundSet p2 (Int32.ofNat (sp_gn x.2.2.2.1 n))).bind (fun r => if r = 0 then some 0 else some 1)) → f_X10_within p3 0 1 = some 1 → (p3 = 0 ∨ p3 = 1) → ((P = some 0 ∧ ((f_X10_within p3 0 1 = some 0) ∨ (f_X10_within p3 0 1 = some 1 ∧ 10 < sp_gn x.2.2.2.1 n) ∨ (f_X10_within p3 0 1 = some 1 ∧ sp_gn x.2.2.2.1 n ≤ 10 ∧ f_X10_within p2 0 (((1 : Int32) <<< (Int32.ofNat (sp_gn x.2.2.2.1 n) &&& 31)) - 1) = some 0))) ∨ (P = some 1 ∧ f_X10_within p3 0 1 = some 1 ∧ (p3 = 0 ∨ p3 = 1) ∧ sp_gn x.2.2.2.1 n ≤ 10 ∧ f_X10_within p2 0 (((1 : Int32) <<< (Int32.ofNat (sp_gn x.2.2.2.1 n) &&& 31)) - 1) = some 1 ∧ ∃ s : Nat, s < 2 ^ sp_gn x.2.2.2.1 n ∧ s < 1024 ∧ p2 = Int32.ofNat s)) := by
    intro P hP hw h3
    by_cases q : 10 < sp_gn x.2.2.2.1 n
    · rw [if_pos (h10.mpr q)] at hP
      exact Or.inl ⟨hP, Or.inr (Or.inl ⟨hw, q⟩)⟩
    · rw [if_neg (fun w => q (h10.mp w))] at hP
      rcases sp_gset (show sp_gn x.2.2.2.1 n ≤ 10 by omega) p2 with ⟨a, b⟩ | ⟨s, s1, s2, s3, a, b⟩
      · rw [a] at hP
        exact Or.inl ⟨hP, Or.inr (Or.inr ⟨hw, by omega, b⟩)⟩
      · rw [a] at hP
        exact Or.inr ⟨hP, hw, h3, by omega, b, s, s1, s2, s3⟩
  by_cases h0 : p3 = 0
  · subst h0
    rw [if_pos rfl]
    exact key _ rfl (by decide) (Or.inl rfl)
  · rw [if_neg h0]
    by_cases h1 : p3 = 1
    · subst h1
      rw [if_pos rfl]
      exact key _ rfl (by decide) (Or.inr rfl)
    · rw [if_neg h1]
      left
      refine ⟨rfl, Or.inl ?_⟩
      unfold f_X10_within
      by_cases a : p3 < 0
      · rw [if_pos a]
      · rw [if_neg a]
        by_cases b : (1 : Int32) < p3
        · rw [if_pos b]
        · obtain ⟨k, hk, e⟩ := sp_i_le_ex (n := 1) (by omega) a (Int32.not_lt.mp b)
          rcases (show k = 0 ∨ k = 1 by omega) with rfl | rfl
          · exact absurd e h0
          · exact absurd e h1
theorem op_truths {x : sp_XS} {y : sp_MS} (h : sp_Rel x y) (p1 p2 p3 : Int32) : ∃ (r : Int64) (x' : sp_XS) (y' : sp_MS), sx_truths p1 p2 p3 x = some (r, x') ∧ sm_truths p1 p2 p3 y = some (r, y') ∧ sp_Rel x' y' := by
  rcases sp_proof h p1 with ⟨e1, e2⟩ | ⟨p, n, hp, rfl, ei, g1, g2, g3, e1, e2, -⟩
  · apply sp_fin (r := (-9223372036854775808 : Int64))
    · unfold sx_truths sx_truths0 f_X9_truths f_X9_isTableAsked; rw [e1]; rfl
    · unfold sm_truths f_X10_truths; rw [e2]; rfl
    · exact h
  · have hn := g1.2.1
    have hgl := sp_gn_le (x.1 p).2.2.2.1 n
    have h10 : ((10 : Int32) < Int32.ofNat (sp_gn (x.1 p).2.2.2.1 n)) ↔ 10 < sp_gn (x.1 p).2.2.2.1 n := sp_i_lt (i := 10) (by omega) (by omega)
    rcases sp_tAsk g1 hp g2 g3 p2 p3 _ e1 with ⟨a, w⟩ | ⟨a, w, h3, hG, w2, s, s1, s2, rfl⟩
    · refine ⟨(-9223372036854775808 : Int64), x, y, ?_, ?_, h⟩
      · unfold sx_truths sx_truths0 f_X9_truths; rw [ei, a]; rfl
      · unfold sm_truths f_X10_truths; rw [e2]
        simp only [Option.bind_some, sp_one_ne, if_false]
        rcases w with w | ⟨w, q⟩ | ⟨w, q, w2⟩
        · rw [w]; rfl
        · rw [w, sp_groundsOf g1 hp g2 g3]
          simp only [Option.bind_some, sp_one_ne, if_false]
          rw [if_pos (h10.mpr q)]; rfl
        · rw [w, sp_groundsOf g1 hp g2 g3]
          simp only [Option.bind_some, sp_one_ne, if_false]
          rw [if_neg (fun z => by have := h10.mp z; omega), w2]; rfl
    · generalize hA : sp_al (sp_gt (x.1 p)) (fun g => s.testBit g) (sp_gn (x.1 p).2.2.2.1 n) = A
      have eX : f_X8_allOf (Int32.ofNat s) (x.1 p).1 (x.1 p).2.2.2.2.1 (x.1 p).2.2.2.2.2.2 = some A := by
        rw [sp_allOf g1 (Int32.ofNat s) (fun g => s.testBit g) (fun g hg => by rw [sb_to64 (by omega)]; exact sp_isIn (by omega) (by omega)), hA]
      have eM : f_X10_allTrue (Int32.ofNat s) (Int32.ofNat (sp_gn (x.1 p).2.2.2.1 n)) (sp_l3 (x.1 p) y.2.2.2.2.2.2.2.2.2.2.2.2.2.2.2.2.2.2.2.2.2.2.2.2.2.2.2.1 n) = some A := by
        rw [sp_allTrue (by omega) (Int32.ofNat s) (fun g => s.testBit g) (fun g hg => sp_l3_g g1 hg) (fun g hg => sb_bit32 (by omega) (by omega)), hA]
      have eh : ∃ r, f_X9_halfOf A p3 = some r ∧ f_X10_halfOf A p3 = some r := by
        rcases h3 with rfl | rfl
        · exact ⟨_, sp_half0 A, rfl⟩
        · exact ⟨_, sp_half1 A, rfl⟩
      obtain ⟨r, r1, r2⟩ := eh
      apply sp_fin (r := r)
      · unfold sx_truths sx_truths0 f_X9_truths; rw [ei, a, eX]
        simp only [Option.bind_some, sp_ck_at hp (by omega : 12 < 1000000), r1]; rfl
      · unfold sm_truths f_X10_truths; rw [e2, w, sp_groundsOf g1 hp g2 g3, sp_layGrounds g1 hp g2 g3]
        simp only [Option.bind_some, sp_one_ne, if_false]
        rw [if_neg (fun z => by have := h10.mp z; omega), w2]
        simp only [Option.bind_some, sp_one_ne, if_false]
        rw [eM]
        simp only [Option.bind_some]
        rw [r2]; rfl
      · exact h
