/-! going through the lines of a proof by JOIN -/
theorem sz_cutYes {x : sp_PrT} {nc nl nr nt : Nat → Int32} {m i j k : Nat} (hm : m < 48) (hD : sz_D x nc nl nr nt m) (hi : i < m) (hj : j < m) (hk : k < 6) (w : Int32) (q1 : (sp_cc x i).testBit k = true) (q2 : (sp_cc x j).testBit (k + 6) = true) (e : f_X10_isClause (Int32.ofNat (sz_cn (sp_cc x i) (sp_cc x j) k)) = some 1) : sz_st x m (fun q x' => w ≠ 2 → x'.1 q = Int32.ofNat (sz_cn (sp_cc x i) (sp_cc x j) k)) (f_X5_cutAnew (Int32.ofNat i) (Int32.ofNat j) (Int32.ofNat k) w x.1 x.2.1 x.2.2.1 x.2.2.2.1 x.2.2.2.2.1 x.2.2.2.2.2.1 x.2.2.2.2.2.2) (f_X10_cutNew (Int32.ofNat i) (Int32.ofNat j) (Int32.ofNat k) w (Int32.ofNat m) nc nl nr nt) := by
  obtain ⟨ei, hci⟩ := sz_cc hD.1 hi
  obtain ⟨ej, hcj⟩ := sz_cc hD.1 hj
  have ni : nc i = Int32.ofNat (sp_cc x i) := by rw [(hD.2 i hi).1, ei]
  have nj : nc j = Int32.ofNat (sp_cc x j) := by rw [(hD.2 j hj).1, ej]
  unfold f_X5_cutAnew f_X10_cutNew
  rw [sp_plainN (show k < 25 by omega), Option.bind_some, sp_ld_at (show i < 48 by omega) (by omega), ei, sp_isPart_bit (show k < 31 by omega), Option.bind_some, sp_ld_at (show i < 64 by omega) (by omega), ni, sb_bit32 (show sp_cc x i < 2 ^ 31 by omega) (show k < 31 by omega)]
  rw [if_pos q1, if_neg (show ¬ (1 : Int32) = 0 by decide), if_neg (show ¬ (1 : Int32) = 0 by decide), sp_negN (show k < 25 by omega), Option.bind_some, sp_ld_at (show j < 48 by omega) (by omega), ej, sp_isPart_bit (show k + 6 < 31 by omega), Option.bind_some, sp_ld_at (show j < 64 by omega) (by omega), nj, show (6 : Int32) + Int32.ofNat k = Int32.ofNat (6 + k) from sp_i_add 6 k, show 6 + k = k + 6 by omega, sb_bit32 (show sp_cc x j < 2 ^ 31 by omega) (show k + 6 < 31 by omega)]
  rw [if_pos q2, if_neg (show ¬ (1 : Int32) = 0 by decide), if_neg (show ¬ (1 : Int32) = 0 by decide), sp_ld_at (show i < 48 by omega) (by omega), ei, sp_ld_at (show j < 48 by omega) (by omega), ej, sp_ld_at (show i < 64 by omega) (by omega), ni, sp_ld_at (show j < 64 by omega) (by omega), nj, sp_cutX hk, sp_cutM hk, if_pos ⟨q1, q2⟩]
  have hlt := sz_cn_lt (k := k) hci hcj
  have hne : ¬ Int32.ofNat (sz_cn (sp_cc x i) (sp_cc x j) k) = -9 := sp_i_neg (by omega)
  rw [e, Option.bind_some, if_neg (by decide), Option.bind_some, if_neg hne, Option.bind_some, if_neg hne]
  have hok : sz_ok x m (Int32.ofNat (sz_cn (sp_cc x i) (sp_cc x j) k)) (Int32.ofNat i) (Int32.ofNat j) (Int32.ofNat k) := ⟨e, Or.inr ⟨i, j, k, hi, hj, hk, rfl, rfl, rfl, by rw [ei, ej, sp_cutM hk, if_pos ⟨q1, q2⟩, e, Option.bind_some, if_neg (by decide)]⟩⟩
  obtain ⟨q, m', x', a1, a2, a3, a4, b1, b2, b3, b4, b5, b6, b7, b8⟩ := sz_placed hm hD w hok
  exact ⟨q, m', x', a1, a2, a3, a4, by rw [b1]; rfl, by rw [b2]; rfl, b3, b4, b5, b6, b7, fun z => b8 z⟩
theorem sz_stand1 {z x : sp_PrT} {n p l m f : Nat} {mn cl le ri lt nc nl nr nt sd sdm sf sfm : Nat → Int32} {ut : Int64} {rs : Int32} (h : sp_prOK z n) (hp : p < 12) (hs : sp_same z cl le ri lt p n) (hl : l < n) (hm : m < 48) (hD : sz_D x nc nl nr nt m) (hf : f + n ≤ 48) (hst : ∀ j, j < l → ∃ t, t < m ∧ sd j = Int32.ofNat t ∧ sdm (f + j) = Int32.ofNat t ∧ sp_cc x t = sp_cc z j) : sz_st x m (fun q x' => sp_cc x' q = sp_cc z l) (f_X5_standIn (Int32.ofNat l) 1 sd sf ut x.1 x.2.1 x.2.2.1 x.2.2.2.1 x.2.2.2.2.1 x.2.2.2.2.2.1 x.2.2.2.2.2.2 z.1 z.2.1 z.2.2.1 z.2.2.2.1) (f_X10_standFor (Int32.ofNat p) (Int32.ofNat l) 1 rs (Int32.ofNat f) mn cl le ri lt (Int32.ofNat m) nc nl nr nt sdm sfm) := by
  have hn := h.2.1
  obtain ⟨s1, s2, s3, s4⟩ := hs l hl
  unfold f_X5_standIn f_X10_standFor
  rw [sp_isGround h hl, Option.bind_some, sp_i_24, sp_bndE, sp_ld_at (show 24 * p + l < 288 by omega) (by omega), s4]
  by_cases hg : z.2.2.2.1 l = -9
  · rw [if_pos hg, if_neg (show ¬ (1 : Int32) = 0 by decide), if_pos hg, sp_ld_at (show l < 48 by omega) (by omega), sp_ld_at (show 24 * p + l < 288 by omega) (by omega), s1]
    have hok : sz_ok x m (z.1 l) (-9) (-9) (-9) := ⟨sp_clOK h hl, Or.inl ⟨rfl, rfl, rfl⟩⟩
    obtain ⟨q, m', x', a1, a2, a3, a4, b1, b2, b3, b4, b5, b6, b7, b8⟩ := sz_placed hm hD 1 hok
    refine ⟨q, m', x', a1, a2, a3, a4, by rw [b1]; rfl, by rw [b2]; rfl, b3, b4, b5, b6, b7, ?_⟩
    have := b8 (by decide)
    show (x'.1 q).toNatClampNeg = (z.1 l).toNatClampNeg
    rw [this]
  · obtain ⟨u, v, k, hu, hv, hk, e1, e2, e3, b1, b2, ec⟩ := sp_cutL h hl hg
    obtain ⟨tu, htu, d1, d2, d3⟩ := hst u hu
    obtain ⟨tv, htv, d4, d5, d6⟩ := hst v hv
    rw [if_neg hg, if_pos (show (0 : Int32) = 0 from rfl), if_neg hg]
    simp only [sp_ld_at (show l < 48 by omega) (by omega : 48 < 1000000), e1, e2, e3, sp_ld_at (show u < 48 by omega) (by omega : 48 < 1000000), sp_ld_at (show v < 48 by omega) (by omega : 48 < 1000000), d1, d4, sp_ld_at (show 24 * p + l < 288 by omega) (by omega : 288 < 1000000), s2, s3, s4, sp_i_add, sp_ld_at (show f + u < 48 by omega) (by omega : 48 < 1000000), sp_ld_at (show f + v < 48 by omega) (by omega : 48 < 1000000), d2, d5, sp_bndE, if_neg (show ¬ (1 : Int32) = 3 by decide), if_neg (show ¬ (1 : Int32) = 4 by decide)]
    have hcl := sp_clOK h hl
    rw [sp_cc_eq h hl, ec, ← d3, ← d6] at hcl
    obtain ⟨q, m', x', a1, a2, a3, a4, c1, c2, c3, c4, c5, c6, c7, c8⟩ := sz_cutYes hm hD htu htv hk 1 (by rw [d3]; exact b1) (by rw [d6]; exact b2) hcl
    refine ⟨q, m', x', a1, a2, a3, a4, by rw [c1]; rfl, by rw [c2]; rfl, c3, c4, c5, c6, c7, ?_⟩
    have hx := c8 (by decide)
    have hlt := sp_cc_lt h hl
    rw [d3, d6, ← ec] at hx
    show (x'.1 q).toNatClampNeg = _
    rw [hx, sp_i_nat (by omega)]
/-- what holds while going through -/
def sz_go (z : sp_PrT) (f i m : Nat) (x : sp_PrT) (nc nl nr nt sd sdm : Nat → Int32) : Prop := sz_D x nc nl nr nt m ∧ ∀ j, j < i → ∃ t, t < m ∧ sd j = Int32.ofNat t ∧ sdm (f + j) = Int32.ofNat t ∧ sp_cc x t = sp_cc z j
theorem sz_goes1 {γ : Type} {G : ((Int32 × Int32 × (Nat → Int32) × (Nat → Int32) × (Nat → Int32) × (Nat → Int32) × (Nat → Int32)) → Option γ) → (Int32 × Int32 × (Nat → Int32) × (Nat → Int32) × (Nat → Int32) × (Nat → Int32) × (Nat → Int32)) → Option γ} {kk : Int32 → (Nat → Int32) → (Nat → Int32) → (Nat → Int32) → (Nat → Int32) → (Nat → Int32) → Option γ} {z x : sp_PrT} {n p m f : Nat} {mn cl le ri lt nc nl nr nt sd sdm sf sfm : Nat → Int32} {ut : Int64} {rs : Int32} (h : sp_prOK z n) (hp : p < 12) (hs : sp_same z cl le ri lt p n) (hm : m + n ≤ 48) (hf : f + n ≤ 48) (hD : sz_D x nc nl nr nt m) (hG1 : ∀ (rec : (Int32 × Int32 × (Nat → Int32) × (Nat → Int32) × (Nat → Int32) × (Nat → Int32) × (Nat → Int32)) → Option γ) (i : Nat) (nm : Int32) (a b c d e : Nat → Int32), i < n → G rec (Int32.ofNat i, nm, a, b, c, d, e) = Option.bind (f_X10_standFor (Int32.ofNat p) (Int32.ofNat i) 1 rs (Int32.ofNat f) mn cl le ri lt nm a b c d e sfm) (fun q9 => match q9 with | (r, c1, c2, c3, c4, c5) => sp_st e 48 (Int32.ofNat (f + i)) r (fun e' => rec (Int32.ofNat (i + 1), c1, c2, c3, c4, c5, e')))) (hG2 : ∀ (rec : (Int32 × Int32 × (Nat → Int32) × (Nat → Int32) × (Nat → Int32) × (Nat → Int32) × (Nat → Int32)) → Option γ) (nm : Int32) (a b c d e : Nat → Int32), G rec (Int32.ofNat n, nm, a, b, c, d, e) = kk nm a b c d e) : ∃ (m' : Nat) (x' : sp_PrT) (nc' nl' nr' nt' sd' sdm' : Nat → Int32), f_X5_goesThrough 1 sd sf ut x.1 x.2.1 x.2.2.1 x.2.2.2.1 x.2.2.2.2.1 x.2.2.2.2.2.1 x.2.2.2.2.2.2 z.1 z.2.1 z.2.2.1 z.2.2.2.1 (Int32.ofNat n) = some (1, sd', x'.1, x'.2.1, x'.2.2.1, x'.2.2.2.1, x'.2.2.2.2.1, x'.2.2.2.2.2.1, x'.2.2.2.2.2.2) ∧ sp_lp G sp_F ((0 : Int32), Int32.ofNat m, nc, nl, nr, nt, sdm) = kk (Int32.ofNat m') nc' nl' nr' nt' sdm' ∧ m' ≤ m + n ∧ sz_go z f n m' x' nc' nl' nr' nt' sd' sdm' := by
  have hn := h.2.1
  unfold f_X5_goesThrough
  rw [sp_bndE]
  refine sz_lp2 (fun o u => ∃ (m' : Nat) (x' : sp_PrT) (nc' nl' nr' nt' sd' sdm' : Nat → Int32), o = some (1, sd', x'.1, x'.2.1, x'.2.2.1, x'.2.2.2.1, x'.2.2.2.2.1, x'.2.2.2.2.2.1, x'.2.2.2.2.2.2) ∧ u = kk (Int32.ofNat m') nc' nl' nr' nt' sdm' ∧ m' ≤ m + n ∧ sz_go z f n m' x' nc' nl' nr' nt' sd' sdm') n (fun i s t => ∃ (m' : Nat) (x' : sp_PrT) (nc' nl' nr' nt' sd' sdm' : Nat → Int32), s = (Int32.ofNat i, sd', x'.1, x'.2.1, x'.2.2.1, x'.2.2.2.1, x'.2.2.2.2.1, x'.2.2.2.2.2.1, x'.2.2.2.2.2.2) ∧ t = (Int32.ofNat i, Int32.ofNat m', nc', nl', nr', nt', sdm') ∧ m' ≤ m + i ∧ sz_go z f i m' x' nc' nl' nr' nt' sd' sdm') ?_ ?_ sp_F sp_F _ _ (sp_F_lt (by omega)) (sp_F_lt (by omega)) ⟨m, x, nc, nl, nr, nt, sd, sdm, rfl, rfl, by omega, hD, fun j hj => by omega⟩
  · rintro i s t hi ⟨m', x', nc', nl', nr', nt', sd', sdm', rfl, rfl, hm', hD', hst⟩
    right
    obtain ⟨q, m2, x2, a1, a2, a3, a4, b1, b2, b3, b4, b5, b6, b7, b8⟩ := sz_stand1 (sf := sf) (sfm := sfm) (ut := ut) (rs := rs) (mn := mn) h hp hs hi (show m' < 48 by omega) hD' hf hst
    refine ⟨(Int32.ofNat (i + 1), upd sd' i (Int32.ofNat q), x2.1, x2.2.1, x2.2.2.1, x2.2.2.2.1, x2.2.2.2.2.1, x2.2.2.2.2.2.1, x2.2.2.2.2.2.2), (Int32.ofNat (i + 1), Int32.ofNat m2, a1, a2, a3, a4, upd sdm' (f + i) (Int32.ofNat q)), ⟨m2, x2, a1, a2, a3, a4, _, _, rfl, rfl, by omega, b6, fun j hj => ?_⟩, fun rec => ?_, fun rec => ?_⟩
    · by_cases e : j = i
      · subst e
        exact ⟨q, b3, sz_upd_at _ _ _, sz_upd_at _ _ _, b8⟩
      · obtain ⟨t, t1, t2, t3, t4⟩ := hst j (by omega)
        refine ⟨t, by omega, by rw [sz_upd_ne e]; exact t2, by rw [sz_upd_ne (by omega)]; exact t3, ?_⟩
        rw [← t4]
        unfold sp_cc
        rw [(b7 t t1).1]
    · rw [f_X5_goesThrough_L2_eq, if_neg (fun q => by have := (sp_i_le (by omega) (by omega)).mp q; omega), b1, Option.bind_some]
      show sp_st _ _ _ _ _ = _
      rw [sp_st_at (show i < 48 by omega) (by omega), sp_ld_at (show i < 48 by omega) (by omega), sz_upd_at, if_pos (Int32.not_lt.mp (sp_i_nn (show q < 1000000 by have := b6.1.1; omega))), sp_bndE, sp_i_succ]
    · rw [hG1 rec i _ _ _ _ _ _ hi, b2, Option.bind_some]
      show sp_st _ _ _ _ _ = _
      rw [sp_st_at (show f + i < 48 by omega) (by omega)]
  · rintro s t ⟨m', x', nc', nl', nr', nt', sd', sdm', rfl, rfl, hm', hgo⟩
    exact ⟨_, _, ⟨m', x', nc', nl', nr', nt', sd', sdm', rfl, rfl, hm', hgo⟩, fun rec => by rw [f_X5_goesThrough_L2_eq, if_pos ((sp_i_le (by omega) (by omega)).mpr (Nat.le_refl _))], fun rec => hG2 rec _ _ _ _ _ _⟩
