/-! the middle: class and reference -/
theorem sp_mid8 {x : sp_PrT} {n s : Nat} (h : sp_prOK x n) (hs : s < 1024) (bt : Nat → Int64) (k : Int32 → Int32 → (Nat → Int64) → Option (Int64 × (Nat → Int64))) : sp_lp (f_X8_middleOf_L8 (Int32.ofNat (sp_gn x.2.2.2.1 n)) k x.2.2.2.2.1 x.1 (Int32.ofNat s)) sp_F ((0 : Int32), (0 : Int32), (0 : Int32), bt) = k (Int32.ofNat (sp_ow x s true (sp_gn x.2.2.2.1 n))) (Int32.ofNat (sp_ow x s false (sp_gn x.2.2.2.1 n))) (sp_m8 x s bt (sp_gn x.2.2.2.1 n)) := by
  have hn := h.2.1
  have hgl := sp_gn_le x.2.2.2.1 n
  refine sp_lp_fn (sp_gn x.2.2.2.1 n) (fun g => (Int32.ofNat (sp_ow x s true g), Int32.ofNat (sp_ow x s false g), Int32.ofNat g, sp_m8 x s bt g)) (fun g hg rec => ?_) (fun rec => ?_) (sp_F_lt (by omega)) rfl
  · obtain ⟨l, l1, l2, l3, l4⟩ := sp_gr h hg
    rw [f_X8_middleOf_L8_eq, if_neg (fun q => by have := (sp_i_le (by omega) (by omega)).mp q; omega), sp_ld_at (show g < 48 by omega) (by omega), l4, sp_ld_at (show l < 48 by omega) (by omega), sp_cc_eq h l1, sp_lettersOf (sp_cc_lt h l1), sb_to64 (by omega), sp_isIn (by omega) (by omega)]
    simp only [Option.bind_some, sp_bndE, sp_i_succ, sb_or32, sp_stL_at (show l < 48 by omega) (by omega : 48 < 1000000)]
    rw [sp_ow, sp_ow, sp_m8, l4, sp_i_nat (show l < 1000000 by omega)]
    cases hb : s.testBit g
    · simp
    · simp
  · rw [f_X8_middleOf_L8_eq, if_pos ((sp_i_le (by omega) (by omega)).mpr (Nat.le_refl _))]
theorem sp_midCut {x : sp_PrT} {l u v k own oth : Nat} {c : Nat → Int64} (hl : l < 24) (hu : u < l) (hv : v < l) (hk : k < 6) (e1 : x.2.1 l = Int32.ofNat u) (e2 : x.2.2.1 l = Int32.ofNat v) (e3 : x.2.2.2.1 l = Int32.ofNat k) (ho : own < 64) (ht : oth < 64) : f_X8_middleOfCut (Int32.ofNat l) (Int32.ofNat own) (Int32.ofNat oth) c x.2.1 x.2.2.1 x.2.2.2.1 = some (sp_mv own oth k (c u) (c v)) := by
  unfold f_X8_middleOfCut
  rw [sp_ld_at (show l < 48 by omega) (by omega), e1, sp_ld_at (show u < 48 by omega) (by omega), sp_ld_at (show l < 48 by omega) (by omega), e2, sp_ld_at (show v < 48 by omega) (by omega), sp_ld_at (show l < 48 by omega) (by omega), e3, sb_to64 (by omega), sb_to64 (by omega), sp_isIn (by omega) (by omega), sp_isIn (by omega) (by omega), Option.bind_some, Option.bind_some, sp_ld_at (show k < 6 by omega) (by omega)]
  unfold sp_mv
  cases h1 : oth.testBit k
  · rfl
  · cases h2 : own.testBit k
    · rfl
    · rfl
theorem sp_mid90 {x : sp_PrT} {n own oth : Nat} (h : sp_prOK x n) (ho : own < 64) (ht : oth < 64) (c : Nat → Int64) (k : (Nat → Int64) → Option (Int64 × (Nat → Int64))) : sp_lp (f_X8_middleOf_L90 (Int32.ofNat n) k x.2.1 (Int32.ofNat own) (Int32.ofNat oth) x.2.2.1 x.2.2.2.1) sp_F ((0 : Int32), c) = k (sp_mx x own oth c n) := by
  have hn := h.2.1
  refine sp_lp_fn n (fun l => (Int32.ofNat l, sp_mx x own oth c l)) (fun l hl rec => ?_) (fun rec => ?_) (sp_F_lt (by omega)) rfl
  · rw [f_X8_middleOf_L90_eq, if_neg (fun q => by have := (sp_i_le (by omega) (by omega)).mp q; omega), sp_isGround h hl, Option.bind_some, sp_bndE, sp_mx]
    by_cases hg : x.2.2.2.1 l = -9
    · rw [if_pos hg, if_pos hg, if_neg (by decide)]
      simp only [sp_bndE, sp_i_succ]
    · obtain ⟨u, v, kk, hu, hv, hk, e1, e2, e3, -⟩ := sp_cutL h hl hg
      rw [if_neg hg, if_neg hg, if_pos rfl, sp_midCut (by omega) hu hv hk e1 e2 e3 ho ht, Option.bind_some, sp_stL_at (show l < 48 by omega) (by omega), e1, e2, e3, sp_i_nat (by omega), sp_i_nat (by omega), sp_i_nat (by omega)]
      simp only [sp_bndE, sp_i_succ]
  · rw [f_X8_middleOf_L90_eq, if_pos ((sp_i_le (by omega) (by omega)).mpr (Nat.le_refl _))]
theorem sp_middleX {x : sp_PrT} {n s : Nat} (h : sp_prOK x n) (hs : s < 1024) (bt tb : Nat → Int64) : ∃ c, f_X8_middleOf (Int32.ofNat s) bt x.1 x.2.1 x.2.2.1 x.2.2.2.1 x.2.2.2.2.1 x.2.2.2.2.2.1 x.2.2.2.2.2.2 = some (sp_V x s (sp_ow x s true (sp_gn x.2.2.2.1 n)) (sp_ow x s false (sp_gn x.2.2.2.1 n)) tb (n - 1), c) := by
  have h1 := h.1
  have hn := h.2.1
  refine ⟨sp_mx x (sp_ow x s true (sp_gn x.2.2.2.1 n)) (sp_ow x s false (sp_gn x.2.2.2.1 n)) (sp_m8 x s bt (sp_gn x.2.2.2.1 n)) n, ?_⟩
  have hc : ∀ j, j < n → x.2.2.2.1 j = -9 → sp_m8 x s bt (sp_gn x.2.2.2.1 n) j = sp_V x s (sp_ow x s true (sp_gn x.2.2.2.1 n)) (sp_ow x s false (sp_gn x.2.2.2.1 n)) tb j := by
    intro j hj hg
    rw [sp_m8_at h hj hg _ (Nat.le_refl _) (sp_gn_lt hj hg), sp_V_ground hg]
  have hm := (sp_mx_at (s := s) (own := sp_ow x s true (sp_gn x.2.2.2.1 n)) (oth := sp_ow x s false (sp_gn x.2.2.2.1 n)) (tb := tb) h hc n (Nat.le_refl _)).1 (n - 1) (by omega)
  unfold f_X8_middleOf
  rw [h.2.2.1, h.2.2.2.2.1, sp_bndE, sp_mid8 h hs, sp_bndE, sp_mid90 h (sp_ow_lt _ _ _ _) (sp_ow_lt _ _ _ _), sp_i_pred h1, sp_ld_at (show n - 1 < 48 by omega) (by omega), hm]
theorem sp_l4_g {x : sp_PrT} {n g : Nat} {gl : Nat → Int32} (h : sp_prOK x n) (hg : g < sp_gn x.2.2.2.1 n) : sp_l4 x gl n g = Int32.ofNat (sp_lN (sp_cc x (x.2.2.2.2.1 g).toNatClampNeg)) := by
  have hn := h.2.1
  obtain ⟨l, l1, l2, l3, l4⟩ := sp_gr h hg
  rw [l4, sp_i_nat (by omega), ← l3, sp_l4_at l2 n l1]
  rw [sp_cc_eq h l1, sp_lts_N (sp_cc_lt h l1)]
theorem sp_mid88 {x : sp_PrT} {n s : Nat} (h : sp_prOK x n) (hs : s < 1024) {c8 : Nat → Int32} (hc : ∀ g, g < sp_gn x.2.2.2.1 n → c8 g = Int32.ofNat (sp_lN (sp_cc x (x.2.2.2.2.1 g).toNatClampNeg))) (k : Int32 → Int32 → Option (Int64 × (Nat → Int64) × (Nat → Int32) × (Nat → Int64))) : sp_lp (f_X10_middle_L88 (Int32.ofNat (sp_gn x.2.2.2.1 n)) k (Int32.ofNat s) c8) sp_F ((0 : Int32), (0 : Int32), (0 : Int32)) = k (Int32.ofNat (sp_ow x s true (sp_gn x.2.2.2.1 n))) (Int32.ofNat (sp_ow x s false (sp_gn x.2.2.2.1 n))) := by
  have hn := h.2.1
  have hgl := sp_gn_le x.2.2.2.1 n
  refine sp_lp_fn (sp_gn x.2.2.2.1 n) (fun g => (Int32.ofNat (sp_ow x s true g), Int32.ofNat (sp_ow x s false g), Int32.ofNat g)) (fun g hg rec => ?_) (fun rec => ?_) (sp_F_lt (by omega)) rfl
  · rw [f_X10_middle_L88_eq, if_neg (fun q => by have := (sp_i_le (by omega) (by omega)).mp q; omega), sb_bit32 (by omega) (by omega)]
    simp only [sp_bndE, sp_i_succ, sp_ld_at (show g < 24 by omega) (by omega : 24 < 1000000), hc g hg, sb_or32]
    rw [sp_ow, sp_ow]
    cases hb : s.testBit g
    · simp [sb_or32]
    · simp [sb_or32]
  · rw [f_X10_middle_L88_eq, if_pos ((sp_i_le (by omega) (by omega)).mpr (Nat.le_refl _))]
theorem sp_mid158 {x : sp_PrT} {n p s : Nat} {mn cl le ri lt : Nat → Int32} (h : sp_prOK x n) (hp : p < 12) (hm : mn p = Int32.ofNat n) (hsa : sp_same x cl le ri lt p n) (hs : s < 1024) (tb : Nat → Int64) (k : (Nat → Int64) → Option (Int64 × (Nat → Int64) × (Nat → Int32) × (Nat → Int64))) : sp_lp (f_X10_middle_L158 mn (Int32.ofNat p) k lt (Int32.ofNat s) le ri (Int32.ofNat (sp_ow x s false (sp_gn x.2.2.2.1 n))) (Int32.ofNat (sp_ow x s true (sp_gn x.2.2.2.1 n)))) sp_F ((0 : Int32), (0 : Int32), tb) = k (sp_mt x s (sp_ow x s true (sp_gn x.2.2.2.1 n)) (sp_ow x s false (sp_gn x.2.2.2.1 n)) tb n) := by
  have hn := h.2.1
  have hall := sp_ow_all (s := s) h
  have hot := sp_ow_lt x s true (sp_gn x.2.2.2.1 n)
  have hof := sp_ow_lt x s false (sp_gn x.2.2.2.1 n)
  generalize sp_ow x s true (sp_gn x.2.2.2.1 n) = own at *
  generalize sp_ow x s false (sp_gn x.2.2.2.1 n) = oth at *
  refine sp_lp_fn n (fun l => (Int32.ofNat (sp_gn x.2.2.2.1 l), Int32.ofNat l, sp_mt x s own oth tb l)) (fun l hl rec => ?_) (fun rec => ?_) (sp_F_lt (by omega)) rfl
  · have hgl := sp_gn_le x.2.2.2.1 l
    obtain ⟨s1, s2, s3, s4⟩ := hsa l hl
    rw [f_X10_middle_L158_eq, sp_ld_at hp (by omega), hm, if_neg (fun q => by have := (sp_i_le (by omega) (by omega)).mp q; omega), sp_i_24, sp_bndE, sp_ld_at (show 24 * p + l < 288 by omega) (by omega), s4, sp_bndE, sp_mt, sp_gn]
    by_cases hg : x.2.2.2.1 l = -9
    · rw [if_pos hg, if_pos hg, if_pos hg, sb_bit32 (by omega) (by omega)]
      simp only [sp_bndE, sp_i_succ, sp_stL_at (show l < 24 by omega) (by omega : 24 < 1000000)]
      cases hb : s.testBit (sp_gn x.2.2.2.1 l)
      · simp
      · simp
    · obtain ⟨u, v, kk, hu, hv, hk, e1, e2, e3, b1, -⟩ := sp_cutL h hl hg
      have hin := hall (u + 1) u (by omega) (by omega) kk hk (Or.inl b1)
      have ht : f_X10_truthsOf (Int32.ofNat (2 ^ kk)) = some (sp_lt kk) := by
        rw [sp_truthsOf (show 2 ^ kk < 4096 from Nat.lt_of_lt_of_le (Nat.pow_lt_pow_right (by omega) hk) (show 2 ^ 6 ≤ 4096 by omega)), sp_lt_tab kk hk]
      rw [if_neg hg, if_neg hg, if_neg hg, Nat.add_zero]
      simp only [sp_bndE, sp_i_succ, sp_ld_at (show 24 * p + l < 288 by omega) (by omega : 288 < 1000000), s2, s3, s4, e1, e2, e3, sp_ld_at (show u < 24 by omega) (by omega : 24 < 1000000), sp_ld_at (show v < 24 by omega) (by omega : 24 < 1000000), sp_stL_at (show l < 24 by omega) (by omega : 24 < 1000000), sb_bit32 (show own < 2 ^ 31 by omega) (show kk < 31 by omega), sb_bit32 (show oth < 2 ^ 31 by omega) (show kk < 31 by omega), sb_one32 (show kk < 31 by omega), ht, Option.bind_some, sp_i_nat (show u < 1000000 by omega), sp_i_nat (show v < 1000000 by omega), sp_i_nat (show kk < 1000000 by omega)]
      unfold sp_mv
      cases h1 : own.testBit kk
      · cases h2 : oth.testBit kk
        · rw [h1, h2] at hin
          exact absurd hin (by decide)
        · simp
      · cases h2 : oth.testBit kk
        · simp
        · simp
  · rw [f_X10_middle_L158_eq, sp_ld_at hp (by omega), hm, if_pos ((sp_i_le (by omega) (by omega)).mpr (Nat.le_refl _))]
theorem sz_within (a b c : Int32) : f_X10_within a b c = some 0 ∨ f_X10_within a b c = some 1 := by
  unfold f_X10_within
  by_cases q : a < b
  · rw [if_pos q]; exact Or.inl rfl
  · rw [if_neg q]
    by_cases w : c < a
    · rw [if_pos w]; exact Or.inl rfl
    · rw [if_neg w]; exact Or.inr rfl
theorem sp_middleE {p1 p2 p3 pn v3 r5 : Int32} {mn cl le ri lt : Nat → Int32} {gt : Nat → Int64} {gl : Nat → Int32} {tb : Nat → Int64} {c7 : Nat → Int64} {c8 : Nat → Int32} {a b : Int32} {c18 : Nat → Int64} {v r : Int64} (h1 : f_X10_isProof p1 pn = some 1) (h2 : f_X10_within p3 0 1 = some 1) (h3 : ∀ {β : Type} (k : Int32 → Option β), sp_ld mn 12 p1 k = k v3) (h4 : ∀ {β : Type} (k : Int32 → Option β), sp_ld cl 288 ((((24 : Int32) * p1) + v3) - (1 : Int32)) k = k 0) (h5 : f_X10_groundsOf p1 mn lt = some r5) (h6 : ¬ (10 : Int32) < r5) (h7 : f_X10_within p2 0 (((1 : Int32) <<< (r5 &&& 31)) - (1 : Int32)) = some 1) (h8 : f_X10_layGrounds p1 mn cl lt gt gl = some (c7, c8)) (h9 : ∀ k, sp_lp (f_X10_middle_L88 r5 k p2 c8) sp_F ((0 : Int32), (0 : Int32), (0 : Int32)) = k a b) (h10 : ∀ k, sp_lp (f_X10_middle_L158 mn p1 k lt p2 le ri b a) sp_F ((0 : Int32), (0 : Int32), tb) = k c18) (h11 : ∀ {β : Type} (k : Int64 → Option β), sp_ld c18 24 (v3 - (1 : Int32)) k = k v) (h12 : f_X10_halfOf v p3 = some r) : f_X10_middle p1 p2 p3 pn mn cl le ri lt gt gl tb = some (r, c7, c8, c18) := by
  unfold f_X10_middle
  rw [h1, Option.bind_some, if_neg (by decide), h2, Option.bind_some, if_neg (by decide), h3, h4, if_pos rfl, h5, Option.bind_some, if_neg h6, h7, Option.bind_some, if_neg (by decide), h8, Option.bind_some]
  show sp_bnd _ _ = _
  rw [sp_bndE, h9, sp_bndE, h10, h3, h11, h12, Option.bind_some]
theorem op_middle {x : sp_XS} {y : sp_MS} (h : sp_Rel x y) (p1 p2 p3 : Int32) : ∃ (r : Int64) (x' : sp_XS) (y' : sp_MS), sx_middle p1 p2 p3 x = some (r, x') ∧ sm_middle p1 p2 p3 y = some (r, y') ∧ sp_Rel x' y' := by
  rcases sp_proof h p1 with ⟨e1, e2⟩ | ⟨p, n, hp, rfl, ei, g1, g2, g3, e1, e2, -⟩
  · refine ⟨(-9223372036854775808 : Int64), x, y, ?_, ?_, h⟩
    · unfold sx_middle sx_middle0 f_X9_middle f_X9_isTableAsked; rw [e1]; rfl
    · unfold sm_middle f_X10_middle; rw [e2]; rfl
  · have h1 := g1.1
    have hn := g1.2.1
    have hgl := sp_gn_le (x.1 p).2.2.2.1 n
    have h10 : ((10 : Int32) < Int32.ofNat (sp_gn (x.1 p).2.2.2.1 n)) ↔ 10 < sp_gn (x.1 p).2.2.2.1 n := sp_i_lt (i := 10) (by omega) (by omega)
    have hpl : ((24 : Int32) * Int32.ofNat p + Int32.ofNat n) - 1 = Int32.ofNat (24 * p + (n - 1)) := by
      rw [sp_i_24, sp_i_pred (by omega)]; congr 1; omega
    have hend := (g3 (n - 1) (by omega)).1
    have hno : ¬ (x.1 p).1 (n - 1) = 0 → sm_middle (Int32.ofNat p) p2 p3 y = some ((-9223372036854775808 : Int64), y) := by
      intro hne
      unfold sm_middle f_X10_middle
      rw [e2, Option.bind_some, if_neg (by decide)]
      rcases (show f_X10_within p3 0 1 = some 0 ∨ f_X10_within p3 0 1 = some 1 from sz_within p3 0 1) with w | w
      · rw [w]; rfl
      · rw [w, Option.bind_some, if_neg (by decide), sp_ld_at hp (by omega), g2, hpl, sp_ld_at (show 24 * p + (n - 1) < 288 by omega) (by omega), hend, if_neg hne]; rfl
    rcases sp_tAsk g1 hp g2 g3 p2 p3 _ e1 with ⟨a, w⟩ | ⟨a, w, h3, hG, w2, s, s1, s2, rfl⟩
    · refine ⟨(-9223372036854775808 : Int64), x, y, ?_, ?_, h⟩
      · unfold sx_middle sx_middle0 f_X9_middle; rw [ei, a]; rfl
      · by_cases hz : (x.1 p).1 (n - 1) = 0
        · unfold sm_middle f_X10_middle
          rw [e2, Option.bind_some, if_neg (by decide)]
          rcases w with w | ⟨w, q⟩ | ⟨w, q, w2⟩
          · rw [w]; rfl
          · rw [w, Option.bind_some, if_neg (by decide), sp_ld_at hp (by omega), g2, hpl, sp_ld_at (show 24 * p + (n - 1) < 288 by omega) (by omega), hend, if_pos hz, sp_groundsOf g1 hp g2 g3, Option.bind_some, if_pos (h10.mpr q)]; rfl
          · rw [w, Option.bind_some, if_neg (by decide), sp_ld_at hp (by omega), g2, hpl, sp_ld_at (show 24 * p + (n - 1) < 288 by omega) (by omega), hend, if_pos hz, sp_groundsOf g1 hp g2 g3, Option.bind_some, if_neg (fun z => by have := h10.mp z; omega), w2]; rfl
        · exact hno hz
    · by_cases hz : (x.1 p).1 (n - 1) = 0
      · obtain ⟨c, hX⟩ := sp_middleX g1 s2 x.2.2.2.2.2.2.2.2.1.2 y.2.2.2.2.2.2.2.2.2.2.2.2.2.2.2.2.2.2.2.2.2.2.2.2.2.2.2.2.2.1
        generalize hv : sp_V (x.1 p) s (sp_ow (x.1 p) s true (sp_gn (x.1 p).2.2.2.1 n)) (sp_ow (x.1 p) s false (sp_gn (x.1 p).2.2.2.1 n)) y.2.2.2.2.2.2.2.2.2.2.2.2.2.2.2.2.2.2.2.2.2.2.2.2.2.2.2.2.2.1 (n - 1) = v at hX
        have eh : ∃ r, f_X9_halfOf v p3 = some r ∧ f_X10_halfOf v p3 = some r := by
          rcases h3 with rfl | rfl
          · exact ⟨_, sp_half0 v, rfl⟩
          · exact ⟨_, sp_half1 v, rfl⟩
        obtain ⟨r, r1, r2⟩ := eh
        have hM : f_X10_middle (Int32.ofNat p) (Int32.ofNat s) p3 y.2.2.2.2.2.1 y.2.2.2.2.2.2.1 y.2.2.2.2.2.2.2.1 y.2.2.2.2.2.2.2.2.1 y.2.2.2.2.2.2.2.2.2.1 y.2.2.2.2.2.2.2.2.2.2.1 y.2.2.2.2.2.2.2.2.2.2.2.2.2.2.2.2.2.2.2.2.2.2.2.2.2.2.2.1 y.2.2.2.2.2.2.2.2.2.2.2.2.2.2.2.2.2.2.2.2.2.2.2.2.2.2.2.2.1 y.2.2.2.2.2.2.2.2.2.2.2.2.2.2.2.2.2.2.2.2.2.2.2.2.2.2.2.2.2.1 = some (r, _, _, _) :=
          sp_middleE e2 w (fun k => by rw [sp_ld_at hp (by omega), g2]) (fun k => by rw [hpl, sp_ld_at (show 24 * p + (n - 1) < 288 by omega) (by omega), hend, hz]) (sp_groundsOf g1 hp g2 g3) (fun z => by have := h10.mp z; omega) w2 (sp_layGrounds g1 hp g2 g3 _ _) (fun k => sp_mid88 g1 s2 (fun g hg => sp_l4_g g1 hg) k) (fun k => sp_mid158 g1 hp g2 g3 s2 _ k) (fun k => by rw [sp_i_pred h1, sp_ld_at (show n - 1 < 24 by omega) (by omega), sp_mt_at n (by omega), hv]) r2
        apply sp_fin (r := r)
        · unfold sx_middle sx_middle0 f_X9_middle; rw [ei, a, hX, g1.2.2.1, sp_i_pred h1]
          simp only [Option.bind_some, sp_one_ne, if_false, sp_ck_at hp (by omega : 12 < 1000000), sp_ld_at (show n - 1 < 48 by omega) (by omega : 48 < 1000000), hz, if_true, r1]
          rfl
        · unfold sm_middle
          rw [hM]
          rfl
        · exact h
      · refine ⟨(-9223372036854775808 : Int64), x, y, ?_, hno hz, h⟩
        unfold sx_middle sx_middle0 f_X9_middle; rw [ei, a, g1.2.2.1, sp_i_pred h1]
        simp only [Option.bind_some, sp_one_ne, if_false, sp_ck_at hp (by omega : 12 < 1000000), sp_ld_at (show n - 1 < 48 by omega) (by omega : 48 < 1000000), if_neg hz]
