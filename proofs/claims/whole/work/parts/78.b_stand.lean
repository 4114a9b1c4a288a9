/-! what stands for a line: class and reference -/
theorem sz_01 : ((0 : Int32) = 1) = False := eq_false (by decide)
theorem sz_st_imp {x : sp_PrT} {m : Nat} {R R' : Nat → sp_PrT → Prop} {oX : Option (Int32 × (Nat → Int32) × (Nat → Int32) × (Nat → Int32) × (Nat → Int32) × (Nat → Int32) × Int32 × Int32)} {oM : Option (Int32 × Int32 × (Nat → Int32) × (Nat → Int32) × (Nat → Int32) × (Nat → Int32))} (hR : ∀ j x', R j x' → R' j x') (h : sz_st x m R oX oM) : sz_st x m R' oX oM := by
  obtain ⟨q, m', x', a1, a2, a3, a4, b1, b2, b3, b4, b5, b6, b7, b8⟩ := h
  exact ⟨q, m', x', a1, a2, a3, a4, b1, b2, b3, b4, b5, b6, b7, hR _ _ b8⟩
theorem sz_cn_mono {a b c d k : Nat} (h1 : sp_sub a c) (h2 : sp_sub b d) : sp_sub (sz_cn a b k) (sz_cn c d k) := by
  intro j hj
  rw [sz_cn_bit, Bool.or_eq_true, Bool.and_eq_true, Bool.and_eq_true] at hj ⊢
  exact Or.imp (fun q => ⟨h1 j q.1, q.2⟩) (fun q => ⟨h2 j q.1, q.2⟩) hj
theorem sz_one_bit {a k : Nat} (ha : a < 4096) (h1 : sp_pc a 24 = 1) (hk : a.testBit k = true) : a = 2 ^ k := by
  obtain ⟨j, hj, rfl⟩ := sp_pow ha h1
  rw [Nat.testBit_two_pow] at hk
  rw [of_decide_eq_true hk]
theorem sz_cn_left {b k : Nat} : sp_sub (sz_cn (2 ^ k) b k) b := by
  intro j hj
  rw [sz_cn_bit, Bool.or_eq_true, Bool.and_eq_true, Bool.and_eq_true, Nat.testBit_two_pow] at hj
  rcases hj with q | q
  · exact absurd q.1 (by simpa using q.2)
  · exact q.1
theorem sz_cn_right {a k : Nat} : sp_sub (sz_cn a (2 ^ (k + 6)) k) a := by
  intro j hj
  rw [sz_cn_bit, Bool.or_eq_true, Bool.and_eq_true, Bool.and_eq_true, Nat.testBit_two_pow] at hj
  rcases hj with q | q
  · exact q.1
  · exact absurd q.1 (by simpa using q.2)
theorem sz_stand {z x : sp_PrT} {n p l m f : Nat} {mn cl le ri lt nc nl nr nt sd sdm sf sfm : Nat → Int32} {ut : Int64} {rs w : Int32} (h : sp_prOK z n) (hp : p < 12) (hmn : mn p = Int32.ofNat n) (hs : sp_same z cl le ri lt p n) (hl : l < n) (hm : m < 48) (hD : sz_D x nc nl nr nt m) (hf : f + n ≤ 48) (hst : ∀ j, j < l → ∃ t, t < m ∧ sd j = Int32.ofNat t ∧ sdm (f + j) = Int32.ofNat t ∧ (w = 4 → sp_sub (sp_cc z j) (sp_cc x t))) (hsf : w = 3 → ∃ s, s < 4096 ∧ sf l = Int32.ofNat s ∧ sfm l = Int32.ofNat s) (hun : w = 4 → ∀ j, j < n → ∃ b : Int32, (b = 0 ∨ b = 1) ∧ f_X9_isIn (Int32.ofNat j) ut = some b ∧ f_X10_isUnit (Int32.ofNat p) (Int32.ofNat j) rs mn cl le ri lt = some b ∧ (b = 1 → sp_pc (sp_cc z j) 24 = 1)) : sz_st x m (fun q x' => w = 4 → sp_sub (sp_cc z l) (sp_cc x' q)) (f_X5_standIn (Int32.ofNat l) w sd sf ut x.1 x.2.1 x.2.2.1 x.2.2.2.1 x.2.2.2.2.1 x.2.2.2.2.2.1 x.2.2.2.2.2.2 z.1 z.2.1 z.2.2.1 z.2.2.2.1) (f_X10_standFor (Int32.ofNat p) (Int32.ofNat l) w rs (Int32.ofNat f) mn cl le ri lt (Int32.ofNat m) nc nl nr nt sdm sfm) ∨ sz_no x m nc nl nr nt (f_X5_standIn (Int32.ofNat l) w sd sf ut x.1 x.2.1 x.2.2.1 x.2.2.2.1 x.2.2.2.2.1 x.2.2.2.2.2.1 x.2.2.2.2.2.2 z.1 z.2.1 z.2.2.1 z.2.2.2.1) (f_X10_standFor (Int32.ofNat p) (Int32.ofNat l) w rs (Int32.ofNat f) mn cl le ri lt (Int32.ofNat m) nc nl nr nt sdm sfm) := by
  have hn := h.2.1
  obtain ⟨s1, s2, s3, s4⟩ := hs l hl
  unfold f_X5_standIn f_X10_standFor
  rw [sp_isGround h hl, Option.bind_some, sp_i_24, sp_bndE, sp_ld_at (show 24 * p + l < 288 by omega) (by omega), s4]
  by_cases hg : z.2.2.2.1 l = -9
  · left
    rw [if_pos hg, if_neg (show ¬ (1 : Int32) = 0 by decide), if_pos hg, sp_ld_at (show l < 48 by omega) (by omega), sp_ld_at (show 24 * p + l < 288 by omega) (by omega), s1]
    have hok : sz_ok x m (z.1 l) (-9) (-9) (-9) := ⟨sp_clOK h hl, Or.inl ⟨rfl, rfl, rfl⟩⟩
    obtain ⟨q, m', x', a1, a2, a3, a4, b1, b2, b3, b4, b5, b6, b7, b8⟩ := sz_placed hm hD w hok
    refine ⟨q, m', x', a1, a2, a3, a4, by rw [b1]; rfl, by rw [b2]; rfl, b3, b4, b5, b6, b7, fun w4 j hj => ?_⟩
    have := b8 (by rw [w4]; decide)
    unfold sp_cc
    rw [this]
    exact hj
  · obtain ⟨u, v, k, hu, hv, hk, e1, e2, e3, b1, b2, ec⟩ := sp_cutL h hl hg
    obtain ⟨tu, htu, d1, d2, d3⟩ := hst u hu
    obtain ⟨tv, htv, d4, d5, d6⟩ := hst v hv
    rw [if_neg hg, if_pos (show (0 : Int32) = 0 from rfl), if_neg hg]
    simp only [sp_ld_at (show l < 48 by omega) (by omega : 48 < 1000000), e1, e2, e3, sp_ld_at (show u < 48 by omega) (by omega : 48 < 1000000), sp_ld_at (show v < 48 by omega) (by omega : 48 < 1000000), d1, d4, sp_ld_at (show 24 * p + l < 288 by omega) (by omega : 288 < 1000000), s2, s3, s4, sp_i_add, sp_ld_at (show f + u < 48 by omega) (by omega : 48 < 1000000), sp_ld_at (show f + v < 48 by omega) (by omega : 48 < 1000000), d2, d5, sp_bndE, sp_ld_at (show l < 24 by omega) (by omega : 24 < 1000000)]
    have hcut := sz_cutAnew hm hD htu htv hk w
    have hfin : sz_st x m (fun q x' => w = 4 → sp_sub (sp_cc z l) (sp_cc x' q)) (f_X5_cutAnew (Int32.ofNat tu) (Int32.ofNat tv) (Int32.ofNat k) w x.1 x.2.1 x.2.2.1 x.2.2.2.1 x.2.2.2.2.1 x.2.2.2.2.2.1 x.2.2.2.2.2.2) (f_X10_cutNew (Int32.ofNat tu) (Int32.ofNat tv) (Int32.ofNat k) w (Int32.ofNat m) nc nl nr nt) ∨ sz_no x m nc nl nr nt (f_X5_cutAnew (Int32.ofNat tu) (Int32.ofNat tv) (Int32.ofNat k) w x.1 x.2.1 x.2.2.1 x.2.2.2.1 x.2.2.2.2.1 x.2.2.2.2.2.1 x.2.2.2.2.2.2) (f_X10_cutNew (Int32.ofNat tu) (Int32.ofNat tv) (Int32.ofNat k) w (Int32.ofNat m) nc nl nr nt) := by
      rcases hcut with hc | hc
      · left
        refine sz_st_imp (fun q x' hq w4 => ?_) hc
        have c1 := (sz_cc hD.1 htu).2
        have c2 := (sz_cc hD.1 htv).2
        have hx := hq (d3 w4 k b1) (d6 w4 (k + 6) b2) (by rw [w4]; decide)
        have hlt := sz_cn_lt (k := k) c1 c2
        have e : sp_cc x' q = sz_cn (sp_cc x tu) (sp_cc x tv) k := by
          unfold sp_cc at hx ⊢
          rw [hx, sp_i_nat]
          unfold sp_cc at hlt
          omega
        rw [e, ec]
        exact sz_cn_mono (d3 w4) (d6 w4)
      · right; exact hc
    have hpass : ∀ {oX : Option (Int32 × (Nat → Int32) × (Nat → Int32) × (Nat → Int32) × (Nat → Int32) × (Nat → Int32) × Int32 × Int32)} {oM : Option (Int32 × Int32 × (Nat → Int32) × (Nat → Int32) × (Nat → Int32) × (Nat → Int32))}, Option.bind oX (fun q9 => match q9 with | (r11, c12, c13, c14, c15, c16, c17, c18) => some (r11, c12, c13, c14, c15, c16, c17, c18)) = oX ∧ Option.bind oM (fun q9 => match q9 with | (r12, c13, c14, c15, c16, c17) => some (r12, c13, c14, c15, c16, c17)) = oM := by
      intro oX oM
      constructor
      · cases oX <;> rfl
      · cases oM <;> rfl
    have hcX := (hpass (oX := f_X5_cutAnew (Int32.ofNat tu) (Int32.ofNat tv) (Int32.ofNat k) w x.1 x.2.1 x.2.2.1 x.2.2.2.1 x.2.2.2.2.1 x.2.2.2.2.2.1 x.2.2.2.2.2.2) (oM := none)).1
    have hcM := (hpass (oX := none) (oM := f_X10_cutNew (Int32.ofNat tu) (Int32.ofNat tv) (Int32.ofNat k) w (Int32.ofNat m) nc nl nr nt)).2
    rw [hcX, hcM]
    by_cases w3 : w = 3
    · have w4 : ¬ w = 4 := by rw [w3]; decide
      obtain ⟨s, hs4, f1, f2⟩ := hsf w3
      simp only [if_pos w3, if_neg w4, f1, f2, sp_plainN (show k < 25 by omega), sp_negN (show k < 25 by omega), Option.bind_some, sp_isPart_bit (show k < 31 by omega), sp_isPart_bit (show k + 6 < 31 by omega), sb_bit32 (show s < 2 ^ 31 by omega) (show k < 31 by omega), show (6 : Int32) + Int32.ofNat k = Int32.ofNat (k + 6) by rw [show k + 6 = 6 + k by omega]; exact sp_i_add 6 k, sb_bit32 (show s < 2 ^ 31 by omega) (show k + 6 < 31 by omega)]
      by_cases q1 : s.testBit k = true
      · simp only [if_pos q1, sp_one_ne, if_false, if_true]
        exact Or.inl (sz_self hD htu (fun z => absurd z w4))
      · simp only [if_neg q1, sz_01, if_false, if_true]
        by_cases q2 : s.testBit (k + 6) = true
        · simp only [if_pos q2, sp_one_ne, if_false, if_true]
          exact Or.inl (sz_self hD htv (fun z => absurd z w4))
        · simp only [if_neg q2, sz_01, if_false, if_true]
          exact hfin
    · simp only [if_neg w3]
      by_cases w4 : w = 4
      · obtain ⟨bu, u1, u2, u3, u4⟩ := hun w4 u (by omega)
        obtain ⟨bv, v1, v2, v3, v4⟩ := hun w4 v (by omega)
        have hcu := sp_cc_lt h (show u < n by omega)
        have hcv := sp_cc_lt h (show v < n by omega)
        simp only [if_pos w4, u2, u3, v2, v3, Option.bind_some]
        rcases u1 with rfl | rfl
        · simp only [if_true]
          rcases v1 with rfl | rfl
          · simp only [if_true]
            exact hfin
          · simp only [sp_one_ne, if_false]
            refine Or.inl (sz_self hD htu (fun _ => ?_))
            have e : sp_cc z v = 2 ^ (k + 6) := sz_one_bit hcv (v4 rfl) b2
            rw [ec, e]
            exact fun j hj => d3 w4 j (sz_cn_right j hj)
        · simp only [sp_one_ne, if_false]
          refine Or.inl (sz_self hD htv (fun _ => ?_))
          have e : sp_cc z u = 2 ^ k := sz_one_bit hcu (u4 rfl) b1
          rw [ec, e]
          exact fun j hj => d6 w4 j (sz_cn_left j hj)
      · simp only [if_neg w4]
        exact hfin
