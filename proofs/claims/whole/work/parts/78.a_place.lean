/-! what stands for a line: placed and joined, cut anew -/
theorem sz_nat32 (v : Int32) : Int32.ofNat v.toBitVec.toNat = v := by
  apply Int32.toBitVec_inj.mp
  rw [Int32.toBitVec_ofNat', BitVec.ofNat_toNat, BitVec.setWidth_eq]
theorem sz_and_rng {s : Nat} (hs : s < 4096) (v : Int32) : ∃ s', s' < 4096 ∧ Int32.ofNat s &&& v = Int32.ofNat s' := by
  refine ⟨s &&& v.toBitVec.toNat, Nat.lt_of_le_of_lt Nat.and_le_left hs, ?_⟩
  conv => lhs; rw [← sz_nat32 v]
  rw [sb_and32]
/-- the class's search for a line that stands -/
def sz_find (w c : Int32) (m : Int32) (cl : Nat → Int32) : Option Int32 := if w = (1 : Int32) then f_X2_firstWith c m cl else if w = (2 : Int32) then f_X2_firstPartOf c cl m else some (-9)
theorem sz_like {cl nc : Nat → Int32} {m : Nat} (hm : m ≤ 48) (hs : ∀ l, l < m → nc l = cl l) (w c : Int32) : ∃ r : Int32, (r = -9 ∨ ∃ j : Nat, j < m ∧ r = Int32.ofNat j ∧ w ≠ 4 ∧ (w ≠ 2 → cl j = c)) ∧ sz_find w c (Int32.ofNat m) cl = some r ∧ f_X10_likeOf c w (Int32.ofNat m) nc = some r := by
  unfold sz_find
  by_cases w1 : w = 1
  · rw [if_pos w1]
    unfold f_X2_firstWith f_X10_likeOf
    rw [sp_bndE, sp_bndE]
    refine sz_lp2 (fun o u => ∃ r : Int32, (r = -9 ∨ ∃ j : Nat, j < m ∧ r = Int32.ofNat j ∧ w ≠ 4 ∧ (w ≠ 2 → cl j = c)) ∧ o = some r ∧ u = some r) m (fun i s t => s = Int32.ofNat i ∧ t = Int32.ofNat i) ?_ ?_ sp_F sp_F _ _ (sp_F_lt (by omega)) (sp_F_lt (by omega)) ⟨rfl, rfl⟩
    · rintro i s t hi ⟨rfl, rfl⟩
      by_cases q : cl i = c
      · left
        refine ⟨some (Int32.ofNat i), some (Int32.ofNat i), ⟨Int32.ofNat i, Or.inr ⟨i, hi, rfl, by rw [w1]; decide, fun _ => q⟩, rfl, rfl⟩, fun rec => ?_, fun rec => ?_⟩
        · rw [f_X2_firstWith_L2_eq, if_neg (fun q => by have := (sp_i_le (by omega) (by omega)).mp q; omega), sp_ld_at (show i < 48 by omega) (by omega), if_pos q]
        · rw [f_X10_likeOf_L2_eq, if_neg (fun q => by have := (sp_i_le (by omega) (by omega)).mp q; omega), if_pos w1, sp_ld_at (show i < 64 by omega) (by omega), hs i hi, if_pos q]
      · right
        refine ⟨Int32.ofNat (i + 1), Int32.ofNat (i + 1), ⟨rfl, rfl⟩, fun rec => ?_, fun rec => ?_⟩
        · rw [f_X2_firstWith_L2_eq, if_neg (fun q => by have := (sp_i_le (by omega) (by omega)).mp q; omega), sp_ld_at (show i < 48 by omega) (by omega), if_neg q, sp_bndE, sp_i_succ]
        · rw [f_X10_likeOf_L2_eq, if_neg (fun q => by have := (sp_i_le (by omega) (by omega)).mp q; omega), if_pos w1, sp_ld_at (show i < 64 by omega) (by omega), hs i hi, if_neg q, sp_bndE, sp_bndE, if_neg (show ¬ w = 2 by rw [w1]; decide), sp_i_succ]
    · rintro s t ⟨rfl, rfl⟩
      refine ⟨some (-9), some (-9), ⟨-9, Or.inl rfl, rfl, rfl⟩, fun rec => ?_, fun rec => ?_⟩
      · rw [f_X2_firstWith_L2_eq, if_pos ((sp_i_le (by omega) (by omega)).mpr (Nat.le_refl _))]
      · rw [f_X10_likeOf_L2_eq, if_pos ((sp_i_le (by omega) (by omega)).mpr (Nat.le_refl _))]
  · rw [if_neg w1]
    by_cases w2 : w = 2
    · rw [if_pos w2]
      unfold f_X2_firstPartOf f_X10_likeOf
      rw [sp_bndE, sp_bndE]
      refine sz_lp2 (fun o u => ∃ r : Int32, (r = -9 ∨ ∃ j : Nat, j < m ∧ r = Int32.ofNat j ∧ w ≠ 4 ∧ (w ≠ 2 → cl j = c)) ∧ o = some r ∧ u = some r) m (fun i s t => s = Int32.ofNat i ∧ t = Int32.ofNat i) ?_ ?_ sp_F sp_F _ _ (sp_F_lt (by omega)) (sp_F_lt (by omega)) ⟨rfl, rfl⟩
      · rintro i s t hi ⟨rfl, rfl⟩
        by_cases q : (cl i &&& (c ^^^ (-1 : Int32))) = 0
        · left
          refine ⟨some (Int32.ofNat i), some (Int32.ofNat i), ⟨Int32.ofNat i, Or.inr ⟨i, hi, rfl, by rw [w2]; decide, fun z => absurd w2 z⟩, rfl, rfl⟩, fun rec => ?_, fun rec => ?_⟩
          · rw [f_X2_firstPartOf_L2_eq, if_neg (fun q => by have := (sp_i_le (by omega) (by omega)).mp q; omega), sp_ld_at (show i < 48 by omega) (by omega), if_pos q]
          · rw [f_X10_likeOf_L2_eq, if_neg (fun q => by have := (sp_i_le (by omega) (by omega)).mp q; omega), if_neg w1, sp_bndE, if_pos w2, sp_ld_at (show i < 64 by omega) (by omega), hs i hi]
            unfold f_X10_isStronger
            rw [if_pos q]
            rfl
        · right
          refine ⟨Int32.ofNat (i + 1), Int32.ofNat (i + 1), ⟨rfl, rfl⟩, fun rec => ?_, fun rec => ?_⟩
          · rw [f_X2_firstPartOf_L2_eq, if_neg (fun q => by have := (sp_i_le (by omega) (by omega)).mp q; omega), sp_ld_at (show i < 48 by omega) (by omega), if_neg q, sp_bndE, sp_i_succ]
          · rw [f_X10_likeOf_L2_eq, if_neg (fun q => by have := (sp_i_le (by omega) (by omega)).mp q; omega), if_neg w1, sp_bndE, sp_bndE, if_pos w2, sp_ld_at (show i < 64 by omega) (by omega), hs i hi]
            unfold f_X10_isStronger
            rw [if_neg q, Option.bind_some, if_pos rfl, sp_i_succ]
      · rintro s t ⟨rfl, rfl⟩
        refine ⟨some (-9), some (-9), ⟨-9, Or.inl rfl, rfl, rfl⟩, fun rec => ?_, fun rec => ?_⟩
        · rw [f_X2_firstPartOf_L2_eq, if_pos ((sp_i_le (by omega) (by omega)).mpr (Nat.le_refl _))]
        · rw [f_X10_likeOf_L2_eq, if_pos ((sp_i_le (by omega) (by omega)).mpr (Nat.le_refl _))]
    · rw [if_neg w2]
      refine ⟨-9, Or.inl rfl, rfl, ?_⟩
      unfold f_X10_likeOf
      rw [sp_bndE]
      refine sp_lp_fn m (fun i => Int32.ofNat i) (fun i hi rec => ?_) (fun rec => ?_) (sp_F_lt (by omega)) rfl
      · rw [f_X10_likeOf_L2_eq, if_neg (fun q => by have := (sp_i_le (by omega) (by omega)).mp q; omega), if_neg w1, sp_bndE, sp_bndE, if_neg w2, sp_i_succ]
      · rw [f_X10_likeOf_L2_eq, if_pos ((sp_i_le (by omega) (by omega)).mpr (Nat.le_refl _))]
/-- draft and new lines -/
def sz_D (x : sp_PrT) (nc nl nr nt : Nat → Int32) (m : Nat) : Prop := sz_dr x m ∧ sz_sm x nc nl nr nt m
/-- a line stands, on both sides -/
def sz_st (x : sp_PrT) (m : Nat) (R : Nat → sp_PrT → Prop) (oX : Option (Int32 × (Nat → Int32) × (Nat → Int32) × (Nat → Int32) × (Nat → Int32) × (Nat → Int32) × Int32 × Int32)) (oM : Option (Int32 × Int32 × (Nat → Int32) × (Nat → Int32) × (Nat → Int32) × (Nat → Int32))) : Prop := ∃ (j m' : Nat) (x' : sp_PrT) (nc nl nr nt : Nat → Int32), oX = some (Int32.ofNat j, x'.1, x'.2.1, x'.2.2.1, x'.2.2.2.1, x'.2.2.2.2.1, x'.2.2.2.2.2.1, x'.2.2.2.2.2.2) ∧ oM = some (Int32.ofNat j, Int32.ofNat m', nc, nl, nr, nt) ∧ j < m' ∧ m ≤ m' ∧ m' ≤ m + 1 ∧ sz_D x' nc nl nr nt m' ∧ sz_eq x' x m ∧ R j x'
/-- it makes no clause, on both sides -/
def sz_no (x : sp_PrT) (m : Nat) (nc nl nr nt : Nat → Int32) (oX : Option (Int32 × (Nat → Int32) × (Nat → Int32) × (Nat → Int32) × (Nat → Int32) × (Nat → Int32) × Int32 × Int32)) (oM : Option (Int32 × Int32 × (Nat → Int32) × (Nat → Int32) × (Nat → Int32) × (Nat → Int32))) : Prop := oX = some (-3, x.1, x.2.1, x.2.2.1, x.2.2.2.1, x.2.2.2.2.1, x.2.2.2.2.2.1, x.2.2.2.2.2.2) ∧ oM = some (-9, Int32.ofNat m, nc, nl, nr, nt)
theorem sz_placed {x : sp_PrT} {nc nl nr nt : Nat → Int32} {m : Nat} (hm : m < 48) (hD : sz_D x nc nl nr nt m) {c a b t : Int32} (w : Int32) (hok : sz_ok x m c a b t) : sz_st x m (fun j x' => w ≠ 2 → x'.1 j = c) (f_X5_placed c a b t w x.1 x.2.1 x.2.2.1 x.2.2.2.1 x.2.2.2.2.1 x.2.2.2.2.2.1 x.2.2.2.2.2.2) (f_X10_joined c a b t w (Int32.ofNat m) nc nl nr nt) := by
  obtain ⟨r, hr, k1, k2⟩ := sz_like (cl := x.1) (nc := nc) (show m ≤ 48 by omega) (fun l hl => (hD.2 l hl).1) w c
  have hp : ∀ k2 : Int32 → Option (Int32 × (Nat → Int32) × (Nat → Int32) × (Nat → Int32) × (Nat → Int32) × (Nat → Int32) × Int32 × Int32), (if w = (1 : Int32) then (Option.bind (f_X2_firstWith c (Int32.ofNat m) x.1) (fun r12 => k2 r12)) else (if w = (2 : Int32) then (Option.bind (f_X2_firstPartOf c x.1 (Int32.ofNat m)) (fun r11 => k2 r11)) else (k2 (-9 : Int32)))) = k2 r := by
    intro k2
    unfold sz_find at k1
    by_cases w1 : w = 1
    · rw [if_pos w1] at k1 ⊢
      rw [k1, Option.bind_some]
    · rw [if_neg w1] at k1 ⊢
      by_cases w2 : w = 2
      · rw [if_pos w2] at k1 ⊢
        rw [k1, Option.bind_some]
      · rw [if_neg w2] at k1 ⊢
        rw [Option.some.inj k1]
  unfold f_X5_placed f_X10_joined
  rw [hD.1.2.1, sp_bndE, hp, k2, Option.bind_some]
  rcases hr with hr | ⟨j, hj, hr, -, hc⟩
  · rw [if_pos hr, if_pos hr]
    have ha := sz_add hD.1 hm hok
    rw [hD.1.2.1] at ha
    rw [ha, sz_addM (show m < 64 by omega), Option.bind_some, Option.bind_some]
    refine ⟨m, m + 1, sz_new x m c a b t, upd nc m c, upd nl m a, upd nr m b, upd nt m t, rfl, rfl, by omega, by omega, by omega, ⟨sz_new_dr hD.1 hm hok, sz_new_sm hD.2⟩, ?_, fun _ => sz_upd_at _ _ _⟩
    intro l hl
    show upd x.1 m c l = _ ∧ upd x.2.1 m a l = _ ∧ upd x.2.2.1 m b l = _ ∧ upd x.2.2.2.1 m t l = _
    simp only [sz_upd_ne (show l ≠ m by omega)]
    exact ⟨trivial, trivial, trivial, trivial⟩
  · have hne : ¬ r = -9 := by rw [hr]; exact sp_i_neg (by omega)
    rw [if_neg hne, if_neg hne, hr]
    refine ⟨j, m, x, nc, nl, nr, nt, ?_, rfl, hj, by omega, by omega, hD, fun l hl => ⟨rfl, rfl, rfl, rfl⟩, hc⟩
    rw [hD.1.2.1]
/-- a draft's clauses as numbers -/
theorem sz_cc {x : sp_PrT} {m l : Nat} (h : sz_dr x m) (hl : l < m) : x.1 l = Int32.ofNat (sp_cc x l) ∧ sp_cc x l < 4096 := by
  obtain ⟨c, hc, e⟩ := sp_isClause1 (h.2.2.1 l hl).1
  unfold sp_cc
  rw [e, sp_i_nat (by omega)]
  exact ⟨rfl, hc⟩
theorem sz_self {x : sp_PrT} {nc nl nr nt : Nat → Int32} {m i : Nat} (hD : sz_D x nc nl nr nt m) (hi : i < m) {R : Nat → sp_PrT → Prop} (hR : R i x) : sz_st x m R (some (Int32.ofNat i, x.1, x.2.1, x.2.2.1, x.2.2.2.1, x.2.2.2.2.1, x.2.2.2.2.2.1, x.2.2.2.2.2.2)) (some (Int32.ofNat i, Int32.ofNat m, nc, nl, nr, nt)) := ⟨i, m, x, nc, nl, nr, nt, rfl, rfl, hi, by omega, by omega, hD, fun l hl => ⟨rfl, rfl, rfl, rfl⟩, hR⟩
theorem sz_cutAnew {x : sp_PrT} {nc nl nr nt : Nat → Int32} {m i j k : Nat} (hm : m < 48) (hD : sz_D x nc nl nr nt m) (hi : i < m) (hj : j < m) (hk : k < 6) (w : Int32) : sz_st x m (fun q x' => ((sp_cc x i).testBit k = true → (sp_cc x j).testBit (k + 6) = true → w ≠ 2 → x'.1 q = Int32.ofNat (sz_cn (sp_cc x i) (sp_cc x j) k))) (f_X5_cutAnew (Int32.ofNat i) (Int32.ofNat j) (Int32.ofNat k) w x.1 x.2.1 x.2.2.1 x.2.2.2.1 x.2.2.2.2.1 x.2.2.2.2.2.1 x.2.2.2.2.2.2) (f_X10_cutNew (Int32.ofNat i) (Int32.ofNat j) (Int32.ofNat k) w (Int32.ofNat m) nc nl nr nt) ∨ sz_no x m nc nl nr nt (f_X5_cutAnew (Int32.ofNat i) (Int32.ofNat j) (Int32.ofNat k) w x.1 x.2.1 x.2.2.1 x.2.2.2.1 x.2.2.2.2.1 x.2.2.2.2.2.1 x.2.2.2.2.2.2) (f_X10_cutNew (Int32.ofNat i) (Int32.ofNat j) (Int32.ofNat k) w (Int32.ofNat m) nc nl nr nt) := by
  obtain ⟨ei, hci⟩ := sz_cc hD.1 hi
  obtain ⟨ej, hcj⟩ := sz_cc hD.1 hj
  have ni : nc i = Int32.ofNat (sp_cc x i) := by rw [(hD.2 i hi).1, ei]
  have nj : nc j = Int32.ofNat (sp_cc x j) := by rw [(hD.2 j hj).1, ej]
  unfold f_X5_cutAnew f_X10_cutNew
  rw [sp_plainN (show k < 25 by omega), Option.bind_some, sp_ld_at (show i < 48 by omega) (by omega), ei, sp_isPart_bit (show k < 31 by omega), Option.bind_some, sp_ld_at (show i < 64 by omega) (by omega), ni, sb_bit32 (show sp_cc x i < 2 ^ 31 by omega) (show k < 31 by omega)]
  by_cases q1 : (sp_cc x i).testBit k = true
  · rw [if_pos q1, if_neg (show ¬ (1 : Int32) = 0 by decide), if_neg (show ¬ (1 : Int32) = 0 by decide), sp_negN (show k < 25 by omega), Option.bind_some, sp_ld_at (show j < 48 by omega) (by omega), ej, sp_isPart_bit (show k + 6 < 31 by omega), Option.bind_some, sp_ld_at (show j < 64 by omega) (by omega), nj, show (6 : Int32) + Int32.ofNat k = Int32.ofNat (6 + k) from sp_i_add 6 k, show 6 + k = k + 6 by omega, sb_bit32 (show sp_cc x j < 2 ^ 31 by omega) (show k + 6 < 31 by omega)]
    by_cases q2 : (sp_cc x j).testBit (k + 6) = true
    · rw [if_pos q2, if_neg (show ¬ (1 : Int32) = 0 by decide), if_neg (show ¬ (1 : Int32) = 0 by decide), sp_ld_at (show i < 48 by omega) (by omega), ei, sp_ld_at (show j < 48 by omega) (by omega), ej, sp_ld_at (show i < 64 by omega) (by omega), ni, sp_ld_at (show j < 64 by omega) (by omega), nj, sp_cutX hk, sp_cutM hk, if_pos ⟨q1, q2⟩]
      have hlt := sz_cn_lt (k := k) hci hcj
      rcases sp_isClause01 (Int32.ofNat (sz_cn (sp_cc x i) (sp_cc x j) k)) with e | e
      · right
        rw [e, Option.bind_some, if_pos rfl, Option.bind_some, if_pos rfl, Option.bind_some, if_pos rfl]
        exact ⟨rfl, rfl⟩
      · left
        have hne : ¬ Int32.ofNat (sz_cn (sp_cc x i) (sp_cc x j) k) = -9 := sp_i_neg (by omega)
        rw [e, Option.bind_some, if_neg (by decide), Option.bind_some, if_neg hne, Option.bind_some, if_neg hne]
        have hok : sz_ok x m (Int32.ofNat (sz_cn (sp_cc x i) (sp_cc x j) k)) (Int32.ofNat i) (Int32.ofNat j) (Int32.ofNat k) := ⟨e, Or.inr ⟨i, j, k, hi, hj, hk, rfl, rfl, rfl, by rw [ei, ej, sp_cutM hk, if_pos ⟨q1, q2⟩, e, Option.bind_some, if_neg (by decide)]⟩⟩
        obtain ⟨q, m', x', a1, a2, a3, a4, b1, b2, b3, b4, b5, b6, b7, b8⟩ := sz_placed hm hD w hok
        exact ⟨q, m', x', a1, a2, a3, a4, by rw [b1]; rfl, by rw [b2]; rfl, b3, b4, b5, b6, b7, fun _ _ z => b8 z⟩
    · left
      rw [if_neg q2, if_pos (show (0 : Int32) = 0 from rfl), if_pos (show (0 : Int32) = 0 from rfl)]
      exact sz_self hD hj (fun _ z => absurd z q2)
  · left
    rw [if_neg q1, if_pos (show (0 : Int32) = 0 from rfl), if_pos (show (0 : Int32) = 0 from rfl)]
    exact sz_self hD hi (fun z => absurd z q1)
