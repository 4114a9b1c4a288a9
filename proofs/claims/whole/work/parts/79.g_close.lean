/-! lines kept, numbers closed up: class and reference beside one another -/
theorem sz_rs_lt {x : sp_PrT} {m e : Nat} (h : sz_dr x m) (he : e < m) : ∀ i, i ≤ e + 1 → sp_rs x.2.2.2.1 x.2.1 x.2.2.1 e i < 2 ^ (e + 1)
  | 0, _ => Nat.pow_lt_pow_right (by omega) (by omega)
  | i + 1, hi => by
    have hm := h.1
    have ih := sz_rs_lt h he i (by omega)
    rw [sp_rs]
    split
    · rename_i hc
      rcases sz_line h (show e - i < m by omega) with ⟨a, -⟩ | ⟨-, a, b, k, ha, hb, hk, e1, e2, -⟩
      · exact absurd a hc.2
      · rw [e1, e2, sp_i_nat (by omega), sp_i_nat (by omega)]
        exact Nat.or_lt_two_pow ih (Nat.or_lt_two_pow (Nat.pow_lt_pow_right (by omega) (by omega)) (Nat.pow_lt_pow_right (by omega) (by omega)))
    · exact ih
theorem sz_rs_keep1 {x : sp_PrT} {m e i b : Nat} (h : sz_dr x m) (he : e < m) (hi : i ≤ e) (hb : e - i ≤ b) : (sp_rs x.2.2.2.1 x.2.1 x.2.2.1 e (i + 1)).testBit b = (sp_rs x.2.2.2.1 x.2.1 x.2.2.1 e i).testBit b := by
  have hm := h.1
  rw [sp_rs]
  split
  · rename_i hc
    rcases sz_line h (show e - i < m by omega) with ⟨a, -⟩ | ⟨-, a, c, k, ha, hc', hk, e1, e2, -⟩
    · exact absurd a hc.2
    · rw [e1, e2, sp_i_nat (by omega), sp_i_nat (by omega), Nat.testBit_or, Nat.testBit_or, Nat.testBit_two_pow, Nat.testBit_two_pow]
      rw [decide_eq_false (by omega), decide_eq_false (by omega)]
      simp
  · rfl
theorem sz_rs_keep {x : sp_PrT} {m e b : Nat} (h : sz_dr x m) (he : e < m) : ∀ (d i : Nat), i + d ≤ e + 1 → e - i ≤ b → (sp_rs x.2.2.2.1 x.2.1 x.2.2.1 e (i + d)).testBit b = (sp_rs x.2.2.2.1 x.2.1 x.2.2.1 e i).testBit b
  | 0, _, _, _ => rfl
  | d + 1, i, hi, hb => by
    rw [← Nat.add_assoc, sz_rs_keep1 h he (by omega) (by omega)]
    exact sz_rs_keep h he d i (by omega) hb
/-- the lines on which a draft's line rests -/
abbrev sz_S (x : sp_PrT) (e : Nat) : Nat := sp_rs x.2.2.2.1 x.2.1 x.2.2.1 e (e + 1)
theorem sz_S_le {x : sp_PrT} {m e l : Nat} (h : sz_dr x m) (he : e < m) (hb : (sz_S x e).testBit l = true) : l ≤ e := by
  by_cases q : l ≤ e
  · exact q
  · have := Nat.testBit_lt_two_pow (Nat.lt_of_lt_of_le (sz_rs_lt h he (e + 1) (Nat.le_refl _)) (Nat.pow_le_pow_right (show 0 < 2 by omega) (show e + 1 ≤ l by omega)))
    rw [this] at hb
    exact absurd hb (by decide)
theorem sz_S_cls {x : sp_PrT} {m e : Nat} (h : sz_dr x m) (he : e < m) : sz_cls x (sz_S x e) m := by
  intro l hl hb hg
  have hm := h.1
  have hle := sz_S_le h he hb
  have k1 := sz_rs_keep (b := l) h he (e + 1 - (e - l)) (e - l) (by omega) (by omega)
  rw [show e - l + (e + 1 - (e - l)) = e + 1 by omega, hb] at k1
  have k2 : ∀ a, (a = (x.2.1 l).toNatClampNeg ∨ a = (x.2.2.1 l).toNatClampNeg) → (sp_rs x.2.2.2.1 x.2.1 x.2.2.1 e (e - l + 1)).testBit a = true := by
    intro a ha
    rw [sp_rs, show e - (e - l) = l by omega, if_pos ⟨k1.symm, hg⟩, Nat.testBit_or, Nat.testBit_or]
    rcases ha with q | q
    · rw [q, Nat.testBit_two_pow_self]; simp
    · rw [q, Nat.testBit_two_pow_self]; simp
  have k3 : ∀ a, (a = (x.2.1 l).toNatClampNeg ∨ a = (x.2.2.1 l).toNatClampNeg) → (sz_S x e).testBit a = true := by
    intro a ha
    have := sp_rs_mono (e + 1 - (e - l + 1)) _ (k2 a ha)
    rw [show e - l + 1 + (e + 1 - (e - l + 1)) = e + 1 by omega] at this
    exact this
  exact ⟨k3 _ (Or.inl rfl), k3 _ (Or.inr rfl)⟩
theorem sz_S_end {x : sp_PrT} {e : Nat} : (sz_S x e).testBit e = true := by
  have k2 : (sp_rs x.2.2.2.1 x.2.1 x.2.2.1 e 0).testBit e = true := by
    rw [sp_rs, Nat.testBit_two_pow_self]
  have k3 := sp_rs_mono (e + 1) _ k2
  rw [Nat.zero_add] at k3
  exact k3
theorem sz_restX {x : sp_PrT} {m e : Nat} (h : sz_dr x m) (he : e < m) (k : Int64 → Option Int64) : sp_lp (f_X2_restSetOf_L7 k x.2.1 x.2.2.1) sp_F (Int64.ofNat (2 ^ e), Int32.ofNat e) = k (Int64.ofNat (sz_S x e)) := by
  have hn := h.1
  have h24 : ∀ i, i ≤ e + 1 → sp_rs x.2.2.2.1 x.2.1 x.2.2.1 e i < 2 ^ 63 := fun i hi => Nat.lt_of_lt_of_le (sz_rs_lt h he i hi) (Nat.pow_le_pow_right (by omega) (by omega))
  refine sp_lp_fn (e + 1) (fun i => (Int64.ofNat (sp_rs x.2.2.2.1 x.2.1 x.2.2.1 e i), sp_bk e i)) (fun i hi rec => ?_) (fun rec => ?_) (sp_F_lt (by omega)) ?_
  · have hb : sp_bk e i = Int32.ofNat (e - i) := by unfold sp_bk; rw [if_pos (by omega)]
    rw [hb, f_X2_restSetOf_L7_eq, if_neg (sp_i_nn (by omega)), sp_isIn (h24 i (by omega)) (by omega)]
    rcases sz_line h (show e - i < m by omega) with ⟨a, b, -⟩ | ⟨hg, a, b, c, ha, hb', hc, e1, e2, -⟩
    · rw [sz_isG9 (show e - i < 48 by omega) b]
      simp only [Option.bind_some, sp_bnd, sp_bk_next (show i ≤ e by omega), sp_ld_at (show e - i < 48 by omega) (by omega : 48 < 1000000)]
      rw [sp_rs]
      by_cases ht : (sp_rs x.2.2.2.1 x.2.1 x.2.2.1 e i).testBit (e - i) = true
      · simp [ht, a]
      · simp [ht]
    · rw [sz_isGc (show e - i < 48 by omega) (show a < 48 by omega) e1]
      simp only [Option.bind_some, sp_bnd, sp_bk_next (show i ≤ e by omega), sp_ld_at (show e - i < 48 by omega) (by omega : 48 < 1000000)]
      rw [sp_rs]
      by_cases ht : (sp_rs x.2.2.2.1 x.2.1 x.2.2.1 e i).testBit (e - i) = true
      · have w : Int64.ofNat (sp_rs x.2.2.2.1 x.2.1 x.2.2.1 e i) ||| (((1 : Int64) <<< ((x.2.1 (e - i)).toInt64 &&& 63)) ||| ((1 : Int64) <<< ((x.2.2.1 (e - i)).toInt64 &&& 63))) = Int64.ofNat (sp_rs x.2.2.2.1 x.2.1 x.2.2.1 e i ||| (2 ^ (x.2.1 (e - i)).toNatClampNeg ||| 2 ^ (x.2.2.1 (e - i)).toNatClampNeg)) := by
          rw [e1, e2, sp_i_nat (by omega), sp_i_nat (by omega), sb_one64 (by omega), sb_one64 (by omega), sb_or64, sb_or64]
        rw [w]
        simp [ht, hg]
      · simp [ht]
  · have hb : sp_bk e (e + 1) = -1 := by unfold sp_bk; rw [if_neg (by omega)]
    rw [hb, f_X2_restSetOf_L7_eq, if_pos (by decide)]
  · show _ = (Int64.ofNat (2 ^ e), sp_bk e 0)
    unfold sp_bk
    simp
theorem sz_restSetOf {x : sp_PrT} {m e : Nat} (h : sz_dr x m) (he : e < m) : f_X2_restSetOf (Int32.ofNat e) x.2.1 x.2.2.1 = some (Int64.ofNat (sz_S x e)) := by
  have hm := h.1
  unfold f_X2_restSetOf
  rw [sb_one64 (by omega), sp_bndE, sp_bndE, sz_restX h he]
/-- the reference's first loop -/
theorem sz_close1 {m t : Nat} (hm : m ≤ 48) (ht : t < m) {k : (Nat → Int32) → Option (Int32 × (Nat → Int32) × (Nat → Int32) × (Nat → Int32) × (Nat → Int32) × (Nat → Int32))} (nu : Nat → Int32) (Q : Option (Int32 × (Nat → Int32) × (Nat → Int32) × (Nat → Int32) × (Nat → Int32) × (Nat → Int32)) → Prop) (hk : ∀ nu1 : Nat → Int32, (∀ l, l < m → nu1 l = if l = t then 1 else 0) → Q (k nu1)) : Q (sp_lp (f_X10_closeUp_L2 (Int32.ofNat m) k (Int32.ofNat t)) sp_F ((0 : Int32), nu)) := by
  refine sz_lp_Q Q m (fun i s => ∃ nu1 : Nat → Int32, s = (Int32.ofNat i, nu1) ∧ ∀ l, l < i → nu1 l = if l = t then 1 else 0) ?_ ?_ sp_F _ (sp_F_lt (by omega)) ⟨nu, rfl, fun l hl => by omega⟩
  · rintro i s hi ⟨nu1, rfl, h1⟩
    right
    refine ⟨(Int32.ofNat (i + 1), upd nu1 i (if i = t then 1 else 0)), ⟨_, rfl, fun l hl => ?_⟩, fun rec => ?_⟩
    · by_cases e : l = i
      · subst e; exact sz_upd_at _ _ _
      · rw [sz_upd_ne e]; exact h1 l (by omega)
    · rw [f_X10_closeUp_L2_eq, if_neg (fun q => by have := (sp_i_le (by omega) (by omega)).mp q; omega), sp_bndE]
      by_cases e : i = t
      · simp only [if_pos (show Int32.ofNat i = Int32.ofNat t by rw [e]), if_pos e, sp_st_at (show i < 64 by omega) (by omega : 64 < 1000000), sp_bndE, sp_i_succ]
      · simp only [if_neg (show ¬ Int32.ofNat i = Int32.ofNat t from fun q => e ((sp_i_inj (by omega) (by omega)).mp q)), if_neg e, sp_st_at (show i < 64 by omega) (by omega : 64 < 1000000), sp_bndE, sp_i_succ]
  · rintro s ⟨nu1, rfl, h1⟩
    exact ⟨_, hk nu1 h1, fun rec => by rw [f_X10_closeUp_L2_eq, if_pos ((sp_i_le (by omega) (by omega)).mpr (Nat.le_refl _))]⟩
/-- the reference's second loop -/
theorem sz_close2 {x : sp_PrT} {nc nl nr nt : Nat → Int32} {m t : Nat} (hD : sz_D x nc nl nr nt m) (ht : t < m) {k : (Nat → Int32) → Option (Int32 × (Nat → Int32) × (Nat → Int32) × (Nat → Int32) × (Nat → Int32) × (Nat → Int32))} (nu : Nat → Int32) (h1 : ∀ l, l < m → nu l = if l = t then 1 else 0) (Q : Option (Int32 × (Nat → Int32) × (Nat → Int32) × (Nat → Int32) × (Nat → Int32) × (Nat → Int32)) → Prop) (hk : ∀ nu2 : Nat → Int32, (∀ l, l < m → nu2 l = if (sz_S x t).testBit l then 1 else 0) → Q (k nu2)) : Q (sp_lp (f_X10_closeUp_L34 k nt nl nr) sp_F (Int32.ofNat t, nu)) := by
  have hm := hD.1.1
  refine sz_lp_Q Q (t + 1) (fun i s => ∃ nu2 : Nat → Int32, s = (sp_bk t i, nu2) ∧ ∀ l, l < m → nu2 l = if (sp_rs x.2.2.2.1 x.2.1 x.2.2.1 t i).testBit l then 1 else 0) ?_ ?_ sp_F _ (sp_F_lt (by omega)) ⟨nu, by unfold sp_bk; rw [if_pos (by omega), Nat.sub_zero], fun l hl => ?_⟩
  · rintro i s hi ⟨nu2, rfl, h2⟩
    right
    have hb : sp_bk t i = Int32.ofNat (t - i) := by unfold sp_bk; rw [if_pos (by omega)]
    have hv := h2 (t - i) (by omega)
    obtain ⟨s1, s2, s3, s4⟩ := hD.2 (t - i) (by omega)
    by_cases hbit : (sp_rs x.2.2.2.1 x.2.1 x.2.2.1 t i).testBit (t - i) = true
    · rw [if_pos hbit] at hv
      rcases sz_line hD.1 (show t - i < m by omega) with ⟨a, -, -⟩ | ⟨hg, a, b, c, ha, hb', hc, e1, e2, -⟩
      · refine ⟨(sp_bk t (i + 1), nu2), ⟨nu2, rfl, fun l hl => ?_⟩, fun rec => ?_⟩
        · have hrs : sp_rs x.2.2.2.1 x.2.1 x.2.2.1 t (i + 1) = sp_rs x.2.2.2.1 x.2.1 x.2.2.1 t i := by rw [sp_rs, if_neg (fun q => q.2 a)]
          rw [hrs]; exact h2 l hl
        · rw [hb, f_X10_closeUp_L34_eq, if_neg (sp_i_nn (by omega)), sp_ld_at (show t - i < 64 by omega) (by omega), hv]
          simp only [sp_bndE, if_true, sp_ld_at (show t - i < 64 by omega) (by omega : 64 < 1000000), s4, if_pos a, sp_bk_next (show i ≤ t by omega)]
      · refine ⟨(sp_bk t (i + 1), upd (upd nu2 a 1) b 1), ⟨_, rfl, fun l hl => ?_⟩, fun rec => ?_⟩
        · have hrs : sp_rs x.2.2.2.1 x.2.1 x.2.2.1 t (i + 1) = sp_rs x.2.2.2.1 x.2.1 x.2.2.1 t i ||| (2 ^ a ||| 2 ^ b) := by rw [sp_rs, if_pos ⟨hbit, hg⟩, e1, e2, sp_i_nat (by omega), sp_i_nat (by omega)]
          rw [hrs, Nat.testBit_or, Nat.testBit_or, Nat.testBit_two_pow, Nat.testBit_two_pow]
          by_cases q1 : l = b
          · subst q1
            rw [sz_upd_at]; simp
          · rw [sz_upd_ne q1]
            by_cases q2 : l = a
            · subst q2
              rw [sz_upd_at]; simp
            · rw [sz_upd_ne q2, h2 l hl, decide_eq_false (fun q => q2 q.symm), decide_eq_false (fun q => q1 q.symm)]
              simp
        · rw [hb, f_X10_closeUp_L34_eq, if_neg (sp_i_nn (by omega)), sp_ld_at (show t - i < 64 by omega) (by omega), hv]
          simp only [sp_bndE, if_true, sp_ld_at (show t - i < 64 by omega) (by omega : 64 < 1000000), s2, s3, s4, e1, e2, if_neg hg, sp_st_at (show a < 64 by omega) (by omega : 64 < 1000000), sp_st_at (show b < 64 by omega) (by omega : 64 < 1000000), sp_bk_next (show i ≤ t by omega)]
    · rw [if_neg hbit] at hv
      refine ⟨(sp_bk t (i + 1), nu2), ⟨nu2, rfl, fun l hl => ?_⟩, fun rec => ?_⟩
      · have hrs : sp_rs x.2.2.2.1 x.2.1 x.2.2.1 t (i + 1) = sp_rs x.2.2.2.1 x.2.1 x.2.2.1 t i := by rw [sp_rs, if_neg (fun q => hbit q.1)]
        rw [hrs]; exact h2 l hl
      · rw [hb, f_X10_closeUp_L34_eq, if_neg (sp_i_nn (by omega)), sp_ld_at (show t - i < 64 by omega) (by omega), hv]
        simp only [sp_bndE, sz_01, if_false, sp_bk_next (show i ≤ t by omega)]
  · rintro s ⟨nu2, rfl, h2⟩
    refine ⟨_, hk nu2 h2, fun rec => ?_⟩
    have hb : sp_bk t (t + 1) = -1 := by unfold sp_bk; rw [if_neg (by omega)]
    rw [hb, f_X10_closeUp_L34_eq, if_pos (by decide)]
  · rw [h1 l hl, sp_rs, Nat.testBit_two_pow]
    by_cases e : l = t
    · rw [if_pos e, decide_eq_true e.symm]; rfl
    · rw [if_neg e, decide_eq_false (fun q => e q.symm)]; rfl
theorem sz_m2 (a : Nat) : Int32.ofNat (a + 2) - 2 = Int32.ofNat a := by
  have := sp_i_sub (a := a + 2) (b := 2) (by omega)
  rw [show a + 2 - 2 = a by omega] at this
  exact this
theorem sz_p2 (a : Nat) : Int32.ofNat a + 2 = Int32.ofNat (a + 2) := sp_i_add a 2
theorem sz_upd_same {f : Nat → Int32} {i j : Nat} {v : Int32} (h : f i = v) : upd f j v i = v := by
  by_cases e : i = j
  · subst e; exact sz_upd_at _ _ _
  · rw [sz_upd_ne e]; exact h
/-- the reference's third loop -/
theorem sz_close3 {x : sp_PrT} {nc nl nr nt : Nat → Int32} {m t : Nat} (hD : sz_D x nc nl nr nt m) (ht : t < m) {k : Int32 → (Nat → Int32) → (Nat → Int32) → (Nat → Int32) → (Nat → Int32) → (Nat → Int32) → Option (Int32 × (Nat → Int32) × (Nat → Int32) × (Nat → Int32) × (Nat → Int32) × (Nat → Int32))} (nu : Nat → Int32) (h1 : ∀ l, l < m → nu l = if (sz_S x t).testBit l then 1 else 0) (Q : Option (Int32 × (Nat → Int32) × (Nat → Int32) × (Nat → Int32) × (Nat → Int32) × (Nat → Int32)) → Prop) (hk : ∀ a b c d e : Nat → Int32, (∀ l, l ≤ t → (sz_S x t).testBit l = true → sz_ren x (sz_S x t) a b c d l) → Q (k (Int32.ofNat (sp_pc (sz_S x t) (t + 1))) a b c d e)) : Q (sp_lp (f_X10_closeUp_L93 (Int32.ofNat t) k) sp_F ((0 : Int32), (0 : Int32), nc, nl, nr, nt, nu)) := by
  have hm := hD.1.1
  have hcl := sz_S_cls hD.1 ht
  generalize sz_S x t = S at *
  refine sz_lp_Q Q (t + 1) (fun i s => ∃ a b c d e : Nat → Int32, s = (Int32.ofNat (sp_pc S i), Int32.ofNat i, a, b, c, d, e) ∧ (∀ l, i ≤ l → l < m → a l = x.1 l ∧ b l = x.2.1 l ∧ c l = x.2.2.1 l ∧ d l = x.2.2.2.1 l ∧ e l = if S.testBit l then 1 else 0) ∧ ∀ l, l < i → S.testBit l = true → sz_ren x S a b c d l ∧ e l = Int32.ofNat (sp_pc S l + 2)) ?_ ?_ sp_F _ (sp_F_lt (by omega)) ⟨nc, nl, nr, nt, nu, rfl, fun l _ hl => ?_, fun l hl => by omega⟩
  · rintro i s hi ⟨a, b, c, d, e, rfl, hr, hd⟩
    right
    have hpi := sp_pc_le S i
    obtain ⟨r1, r2, r3, r4, r5⟩ := hr i (Nat.le_refl _) (by omega)
    by_cases hb : S.testBit i = true
    · rw [if_pos hb] at r5
      have hpc : sp_pc S (i + 1) = sp_pc S i + 1 := by rw [sp_pc, if_pos hb]
      have hnew : ∀ nlv nrv : Int32, nlv = (if x.2.2.2.1 i = -9 then -9 else Int32.ofNat (sp_pc S (x.2.1 i).toNatClampNeg)) → nrv = (if x.2.2.2.1 i = -9 then -9 else Int32.ofNat (sp_pc S (x.2.2.1 i).toNatClampNeg)) → (∀ l, i + 1 ≤ l → l < m → upd a (sp_pc S i) (x.1 i) l = x.1 l ∧ upd b (sp_pc S i) nlv l = x.2.1 l ∧ upd c (sp_pc S i) nrv l = x.2.2.1 l ∧ upd d (sp_pc S i) (x.2.2.2.1 i) l = x.2.2.2.1 l ∧ upd e i (Int32.ofNat (sp_pc S i + 2)) l = if S.testBit l then 1 else 0) ∧ ∀ l, l < i + 1 → S.testBit l = true → sz_ren x S (upd a (sp_pc S i) (x.1 i)) (upd b (sp_pc S i) nlv) (upd c (sp_pc S i) nrv) (upd d (sp_pc S i) (x.2.2.2.1 i)) l ∧ upd e i (Int32.ofNat (sp_pc S i + 2)) l = Int32.ofNat (sp_pc S l + 2) := by
        intro nlv nrv hA hB
        refine ⟨fun l hl hlm => ?_, fun l hl hbl => ?_⟩
        · simp only [sz_upd_ne (show l ≠ sp_pc S i by omega), sz_upd_ne (show l ≠ i by omega)]
          exact hr l (by omega) hlm
        · unfold sz_ren
          by_cases q : l = i
          · subst q
            simp only [sz_upd_at]
            exact ⟨⟨trivial, trivial, hA, hB⟩, trivial⟩
          · have hlt := sz_pc_lt (show l < i by omega) hbl
            simp only [sz_upd_ne (show sp_pc S l ≠ sp_pc S i by omega), sz_upd_ne q]
            exact hd l (by omega) hbl
      rcases sz_line hD.1 (show i < m by omega) with ⟨g1, g2, g3⟩ | ⟨g, u, v, kk, hu, hv, hk', e1, e2, e3, e4⟩
      · obtain ⟨k1, k2⟩ := hnew (-9) (-9) (by rw [if_pos g1]) (by rw [if_pos g1])
        refine ⟨(Int32.ofNat (sp_pc S (i + 1)), Int32.ofNat (i + 1), upd a (sp_pc S i) (x.1 i), upd b (sp_pc S i) (-9), upd c (sp_pc S i) (-9), upd d (sp_pc S i) (x.2.2.2.1 i), upd e i (Int32.ofNat (sp_pc S i + 2))), ⟨_, _, _, _, _, rfl, k1, k2⟩, fun rec => ?_⟩
        rw [f_X10_closeUp_L93_eq, if_neg (fun q => by have := (sp_i_lt (by omega) (by omega)).mp q; omega)]
        simp only [sp_ld_at (show i < 64 by omega) (by omega : 64 < 1000000), r1, r4, r5, sp_bndE, sp_one_ne, if_false, sp_st_at (show sp_pc S i < 64 by omega) (by omega : 64 < 1000000), sp_st_at (show i < 64 by omega) (by omega : 64 < 1000000), sz_upd_same r4, if_pos g1, sz_p2, sp_i_succ, hpc]
      · obtain ⟨c1, c2⟩ := hcl i (by omega) hb g
        have nu1 : (x.2.1 i).toNatClampNeg = u := by rw [e1, sp_i_nat (by omega)]
        have nv1 : (x.2.2.1 i).toNatClampNeg = v := by rw [e2, sp_i_nat (by omega)]
        rw [nu1] at c1
        rw [nv1] at c2
        have du := (hd u hu c1).2
        have dv := (hd v hv c2).2
        obtain ⟨k1, k2⟩ := hnew (Int32.ofNat (sp_pc S u)) (Int32.ofNat (sp_pc S v)) (by rw [if_neg g, nu1]) (by rw [if_neg g, nv1])
        refine ⟨(Int32.ofNat (sp_pc S (i + 1)), Int32.ofNat (i + 1), upd a (sp_pc S i) (x.1 i), upd b (sp_pc S i) (Int32.ofNat (sp_pc S u)), upd c (sp_pc S i) (Int32.ofNat (sp_pc S v)), upd d (sp_pc S i) (x.2.2.2.1 i), upd e i (Int32.ofNat (sp_pc S i + 2))), ⟨_, _, _, _, _, rfl, k1, k2⟩, fun rec => ?_⟩
        rw [f_X10_closeUp_L93_eq, if_neg (fun q => by have := (sp_i_lt (by omega) (by omega)).mp q; omega)]
        simp only [sp_ld_at (show i < 64 by omega) (by omega : 64 < 1000000), r1, r2, r3, r4, r5, e1, e2, sp_ld_at (show u < 64 by omega) (by omega : 64 < 1000000), sp_ld_at (show v < 64 by omega) (by omega : 64 < 1000000), du, dv, sz_m2, sp_bndE, sp_one_ne, if_false, sp_st_at (show sp_pc S i < 64 by omega) (by omega : 64 < 1000000), sp_st_at (show i < 64 by omega) (by omega : 64 < 1000000), sz_upd_same r4, if_neg g, sz_p2, sp_i_succ, hpc]
    · rw [if_neg hb] at r5
      have hpc : sp_pc S (i + 1) = sp_pc S i := by rw [sp_pc, if_neg hb]; rfl
      refine ⟨(Int32.ofNat (sp_pc S (i + 1)), Int32.ofNat (i + 1), a, b, c, d, e), ⟨a, b, c, d, e, rfl, fun l hl hlm => hr l (by omega) hlm, fun l hl hbl => ?_⟩, fun rec => ?_⟩
      · by_cases q : l = i
        · rw [q] at hbl; exact absurd hbl hb
        · exact hd l (by omega) hbl
      · rw [f_X10_closeUp_L93_eq, if_neg (fun q => by have := (sp_i_lt (by omega) (by omega)).mp q; omega), sp_ld_at (show i < 64 by omega) (by omega), r5, hpc]
        simp only [sp_bndE, if_true, sp_i_succ]
  · rintro s ⟨a, b, c, d, e, rfl, hr, hd⟩
    exact ⟨_, hk a b c d e (fun l hl hb => (hd l (by omega) hb).1), fun rec => by rw [f_X10_closeUp_L93_eq, if_pos ((sp_i_lt (by omega) (by omega)).mpr (Nat.lt_succ_self _))]⟩
  · obtain ⟨a1, a2, a3, a4⟩ := hD.2 l hl
    exact ⟨a1, a2, a3, a4, h1 l hl⟩
theorem sz_closeUp {x : sp_PrT} {nc nl nr nt : Nat → Int32} {m t : Nat} (hD : sz_D x nc nl nr nt m) (ht : t < m) (nu : Nat → Int32) : ∃ a b c d e : Nat → Int32, f_X10_closeUp (Int32.ofNat t) (Int32.ofNat m) nc nl nr nt nu = some (Int32.ofNat (sp_pc (sz_S x t) (t + 1)), a, b, c, d, e) ∧ ∀ l, l ≤ t → (sz_S x t).testBit l = true → sz_ren x (sz_S x t) a b c d l := by
  unfold f_X10_closeUp
  rw [sp_bndE]
  refine sz_close1 hD.1.1 ht nu (fun o => ∃ a b c d e : Nat → Int32, o = some (Int32.ofNat (sp_pc (sz_S x t) (t + 1)), a, b, c, d, e) ∧ ∀ l, l ≤ t → (sz_S x t).testBit l = true → sz_ren x (sz_S x t) a b c d l) (fun nu1 h1 => ?_)
  show ∃ a b c d e : Nat → Int32, sp_bnd _ _ = _ ∧ _
  rw [sp_bndE]
  refine sz_close2 hD ht nu1 h1 (fun o => ∃ a b c d e : Nat → Int32, o = some (Int32.ofNat (sp_pc (sz_S x t) (t + 1)), a, b, c, d, e) ∧ ∀ l, l ≤ t → (sz_S x t).testBit l = true → sz_ren x (sz_S x t) a b c d l) (fun nu2 h2 => ?_)
  show ∃ a b c d e : Nat → Int32, sp_bnd _ _ = _ ∧ _
  rw [sp_bndE]
  exact sz_close3 hD ht nu2 h2 (fun o => ∃ a b c d e : Nat → Int32, o = some (Int32.ofNat (sp_pc (sz_S x t) (t + 1)), a, b, c, d, e) ∧ ∀ l, l ≤ t → (sz_S x t).testBit l = true → sz_ren x (sz_S x t) a b c d l) (fun a b c d e h3 => ⟨a, b, c, d, e, rfl, h3⟩)
theorem sz_pc_top {S t : Nat} : ∀ d, (∀ l, t ≤ l → S.testBit l = false) → sp_pc S (t + d) = sp_pc S t
  | 0, _ => rfl
  | d + 1, h => by rw [← Nat.add_assoc, sp_pc, h (t + d) (by omega), if_neg (by decide), Nat.add_zero]; exact sz_pc_top d h
/-- kept and closed up: the same lines -/
theorem sz_closed {x : sp_PrT} {nc nl nr nt : Nat → Int32} {m t : Nat} (hD : sz_D x nc nl nr nt m) (ht : t < m) (nu num : Nat → Int32) : ∃ (q : Nat) (y : sp_PrT) (nu' a b c d e : Nat → Int32), 1 ≤ q ∧ q ≤ m ∧ f_X2_keepOnly (Int64.ofNat (sz_S x t)) x.1 x.2.1 x.2.2.1 x.2.2.2.1 x.2.2.2.2.1 (Int32.ofNat m) nu = some (y.1, y.2.1, y.2.2.1, y.2.2.2.1, y.2.2.2.2.1, y.2.2.2.2.2.1, y.2.2.2.2.2.2, nu') ∧ f_X10_closeUp (Int32.ofNat t) (Int32.ofNat m) nc nl nr nt num = some (Int32.ofNat q, a, b, c, d, e) ∧ sz_D y a b c d q := by
  have hm := hD.1.1
  have hS : sz_S x t < 2 ^ 63 := Nat.lt_of_lt_of_le (sz_rs_lt hD.1 ht (t + 1) (Nat.le_refl _)) (Nat.pow_le_pow_right (by omega) (by omega))
  obtain ⟨y, nu', k1, k2, k3⟩ := sz_keep hD.1 hS (sz_S_cls hD.1 ht) nu
  obtain ⟨a, b, c, d, e, c1, c2⟩ := sz_closeUp hD ht num
  have htop : ∀ l, t + 1 ≤ l → (sz_S x t).testBit l = false := by
    intro l hl
    cases hb : (sz_S x t).testBit l with
    | false => rfl
    | true => have := sz_S_le hD.1 ht hb; omega
  have hpm : sp_pc (sz_S x t) m = sp_pc (sz_S x t) (t + 1) := by
    have := sz_pc_top (m - (t + 1)) htop
    rw [show t + 1 + (m - (t + 1)) = m by omega] at this
    exact this
  have hp := sz_pc_lt (show t < t + 1 by omega) (sz_S_end (x := x) (e := t))
  have hq := sp_pc_le (sz_S x t) (t + 1)
  rw [hpm] at k2
  refine ⟨sp_pc (sz_S x t) (t + 1), y, nu', a, b, c, d, e, by omega, by omega, k1, c1, k2, fun j hj => ?_⟩
  obtain ⟨l, hl, hb, rfl⟩ := sz_pc_ex (t + 1) j hj
  obtain ⟨p1, p2, p3, p4⟩ := k3 l (by omega) hb
  obtain ⟨q1, q2, q3, q4⟩ := c2 l (by omega) hb
  exact ⟨by rw [q1, p1], by rw [q3, p3], by rw [q4, p4], by rw [q2, p2]⟩
