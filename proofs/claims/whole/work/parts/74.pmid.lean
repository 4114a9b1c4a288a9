/-! cuts as numbers, the middle -/
def sp_nd (a b : Nat) : Nat := a ^^^ (a &&& b)
theorem sp_nd_bit (a b j : Nat) : (sp_nd a b).testBit j = (a.testBit j && !b.testBit j) := by
  unfold sp_nd
  rw [Nat.testBit_xor, Nat.testBit_and]
  cases a.testBit j <;> cases b.testBit j <;> rfl
theorem sp_nd_lt' {a b N : Nat} (h : a < 2 ^ N) : sp_nd a b < 2 ^ N := sb_nd_lt h
/-- the signs of a cut -/
def sz_cn (a b k : Nat) : Nat := sp_nd a (2 ^ k) ||| sp_nd b (2 ^ (k + 6))
theorem sz_cn_bit (a b k j : Nat) : (sz_cn a b k).testBit j = ((a.testBit j && !decide (k = j)) || (b.testBit j && !decide (k + 6 = j))) := by
  unfold sz_cn
  rw [Nat.testBit_or, sp_nd_bit, sp_nd_bit, Nat.testBit_two_pow, Nat.testBit_two_pow]
theorem sz_cn_lt {a b k : Nat} (ha : a < 4096) (hb : b < 4096) : sz_cn a b k < 4096 := Nat.or_lt_two_pow (n := 12) (sp_nd_lt' (N := 12) ha) (sp_nd_lt' (N := 12) hb)
theorem sp_cutX {a b k : Nat} (hk : k < 6) : f_X0_cutOf (Int32.ofNat a) (Int32.ofNat b) (Int32.ofNat k) = if a.testBit k = true ∧ b.testBit (k + 6) = true then (f_X10_isClause (Int32.ofNat (sz_cn a b k))).bind (fun r => if r = 0 then some (-9) else some (Int32.ofNat (sz_cn a b k))) else some (-9) := by
  unfold f_X0_cutOf
  rw [sp_plainN (by omega), sp_negN (by omega)]
  simp only [Option.bind_some, sp_bnd, sp_isPart_bit (show k < 31 by omega), sp_isPart_bit (show k + 6 < 31 by omega), sb_nd32, sb_or32, sp_isClause]
  unfold sz_cn sp_nd
  by_cases q1 : a.testBit k = true
  · by_cases q2 : b.testBit (k + 6) = true
    · simp [q1, q2]
    · simp [q1, q2]
  · simp [q1]
theorem sp_cutM {a b k : Nat} (hk : k < 6) : f_X10_cutOf (Int32.ofNat a) (Int32.ofNat b) (Int32.ofNat k) = if a.testBit k = true ∧ b.testBit (k + 6) = true then (f_X10_isClause (Int32.ofNat (sz_cn a b k))).bind (fun r => if r = 0 then some (-9) else some (Int32.ofNat (sz_cn a b k))) else some (-9) := by
  rw [← sp_cutOf _ _ hk]; exact sp_cutX hk
theorem sp_cut_is {a b c k : Nat} (hk : k < 6) (hc : c < 4096) (e : f_X10_cutOf (Int32.ofNat a) (Int32.ofNat b) (Int32.ofNat k) = some (Int32.ofNat c)) (ha : a < 4096) (hb : b < 4096) : a.testBit k = true ∧ b.testBit (k + 6) = true ∧ c = sz_cn a b k := by
  rw [sp_cutM hk] at e
  have hne : ¬ (-9 : Int32) = Int32.ofNat c := fun q => sp_i_neg (show c < 1000000 by omega) q.symm
  by_cases q : a.testBit k = true ∧ b.testBit (k + 6) = true
  · rw [if_pos q] at e
    rcases sp_isClause01 (Int32.ofNat (sz_cn a b k)) with w | w
    · rw [w, Option.bind_some, if_pos rfl] at e
      exact absurd (Option.some.inj e) hne
    · rw [w, Option.bind_some, if_neg (by decide)] at e
      have hlt := sz_cn_lt (k := k) ha hb
      exact ⟨q.1, q.2, ((sp_i_inj (by omega) (by omega)).mp (Option.some.inj e)).symm⟩
  · rw [if_neg q] at e
    exact absurd (Option.some.inj e) hne
/-- a line's clause as a number -/
def sp_cc (x : sp_PrT) (l : Nat) : Nat := (x.1 l).toNatClampNeg
theorem sp_cc_eq {x : sp_PrT} {n l : Nat} (h : sp_prOK x n) (hl : l < n) : x.1 l = Int32.ofNat (sp_cc x l) := (sp_c4 h hl).2
theorem sp_cc_lt {x : sp_PrT} {n l : Nat} (h : sp_prOK x n) (hl : l < n) : sp_cc x l < 4096 := (sp_c4 h hl).1
/-- a cut's numbers -/
theorem sp_cutL {x : sp_PrT} {n l : Nat} (h : sp_prOK x n) (hl : l < n) (hg : ¬ x.2.2.2.1 l = -9) : ∃ u v k : Nat, u < l ∧ v < l ∧ k < 6 ∧ x.2.1 l = Int32.ofNat u ∧ x.2.2.1 l = Int32.ofNat v ∧ x.2.2.2.1 l = Int32.ofNat k ∧ (sp_cc x u).testBit k = true ∧ (sp_cc x v).testBit (k + 6) = true ∧ sp_cc x l = sz_cn (sp_cc x u) (sp_cc x v) k := by
  rcases sp_ground h hl with ⟨a, -⟩ | ⟨-, u, v, k, hu, hv, hk, e1, e2, e3, e4⟩
  · exact absurd a hg
  · have hu' := sp_cc_lt h (show u < n by omega)
    have hv' := sp_cc_lt h (show v < n by omega)
    rw [sp_cc_eq h (show u < n by omega), sp_cc_eq h (show v < n by omega), sp_cc_eq h hl] at e4
    obtain ⟨a, b, c⟩ := sp_cut_is hk (sp_cc_lt h hl) e4 hu' hv'
    exact ⟨u, v, k, hu, hv, hk, e1, e2, e3, a, b, c⟩
def sp_lN (c : Nat) : Nat := (c ||| c / 2 ^ 6) &&& 63
theorem sp_lN_bit (c : Nat) {j : Nat} (hj : j < 6) : (sp_lN c).testBit j = (c.testBit j || c.testBit (j + 6)) := by
  unfold sp_lN
  rw [Nat.testBit_and, Nat.testBit_or, Nat.testBit_div_two_pow, show (63 : Nat) = 2 ^ 6 - 1 from rfl, Nat.testBit_two_pow_sub_one, decide_eq_true hj, Bool.and_true]
theorem sp_lN_lt (c : Nat) : sp_lN c < 64 := Nat.and_lt_two_pow (n := 6) _ (by omega)
theorem sp_lts_N {c : Nat} (hc : c < 4096) : sp_lts (Int32.ofNat c) = Int32.ofNat (sp_lN c) := by
  unfold sp_lts sp_lN
  have hs : Int32.ofNat c >>> ((6 : Int32) &&& 31) = Int32.ofNat (c / 2 ^ 6) := sb_shr32 (l := 6) (by omega) (by omega)
  rw [hs, sb_or32, show (63 : Int32) = Int32.ofNat 63 from rfl, sb_and32]
theorem sp_lettersOf {c : Nat} (hc : c < 4096) : f_X0_lettersOf (Int32.ofNat c) = some (Int32.ofNat (sp_lN c)) := by
  unfold f_X0_lettersOf
  rw [← sp_lts_N hc]
  rfl
/-- letters of the grounds of a set (w: true), of the others (w: false) -/
def sp_ow (x : sp_PrT) (s : Nat) (w : Bool) : Nat → Nat
  | 0 => 0
  | g + 1 => if s.testBit g = w then sp_ow x s w g ||| sp_lN (sp_cc x (x.2.2.2.2.1 g).toNatClampNeg) else sp_ow x s w g
theorem sp_ow_lt (x : sp_PrT) (s : Nat) (w : Bool) : ∀ g, sp_ow x s w g < 64
  | 0 => by rw [sp_ow]; omega
  | g + 1 => by
    rw [sp_ow]
    split
    · exact Nat.or_lt_two_pow (n := 6) (sp_ow_lt x s w g) (sp_lN_lt _)
    · exact sp_ow_lt x s w g
theorem sp_ow_mono {x : sp_PrT} {s : Nat} {w : Bool} {g j : Nat} (h : (sp_ow x s w g).testBit j = true) : ∀ d, (sp_ow x s w (g + d)).testBit j = true
  | 0 => h
  | d + 1 => by
    rw [← Nat.add_assoc, sp_ow]
    split
    · rw [Nat.testBit_or, sp_ow_mono h d, Bool.true_or]
    · exact sp_ow_mono h d
/-- each letter of a line is in a ground -/
theorem sp_ow_all {x : sp_PrT} {n s : Nat} (h : sp_prOK x n) : ∀ m l, l < m → l < n → ∀ j, j < 6 → ((sp_cc x l).testBit j = true ∨ (sp_cc x l).testBit (j + 6) = true) → (sp_ow x s true (sp_gn x.2.2.2.1 n)).testBit j = true ∨ (sp_ow x s false (sp_gn x.2.2.2.1 n)).testBit j = true
  | 0, l, hl, _, _, _, _ => by omega
  | m + 1, l, hl, hln, j, hj, hb => by
    have hn := h.2.1
    by_cases hg : x.2.2.2.1 l = -9
    · have hlt := sp_gn_lt hln hg
      have key : (sp_ow x s (s.testBit (sp_gn x.2.2.2.1 l)) (sp_gn x.2.2.2.1 l + 1)).testBit j = true := by
        rw [sp_ow, if_pos rfl, h.2.2.2.2.2 l hln hg, sp_i_nat (by omega), Nat.testBit_or, sp_lN_bit _ hj]
        rcases hb with q | q
        · rw [q]; simp
        · rw [q]; simp
      have k2 := sp_ow_mono key (sp_gn x.2.2.2.1 n - (sp_gn x.2.2.2.1 l + 1))
      rw [show sp_gn x.2.2.2.1 l + 1 + (sp_gn x.2.2.2.1 n - (sp_gn x.2.2.2.1 l + 1)) = sp_gn x.2.2.2.1 n by omega] at k2
      cases hs : s.testBit (sp_gn x.2.2.2.1 l)
      · rw [hs] at k2; exact Or.inr k2
      · rw [hs] at k2; exact Or.inl k2
    · obtain ⟨u, v, k, hu, hv, hk, e1, e2, e3, b1, b2, ec⟩ := sp_cutL h hln hg
      have ihu := sp_ow_all (s := s) h m u (by omega) (by omega) j hj
      have ihv := sp_ow_all (s := s) h m v (by omega) (by omega) j hj
      rw [ec, sz_cn_bit, sz_cn_bit] at hb
      rcases hb with q | q
      · rw [Bool.or_eq_true, Bool.and_eq_true, Bool.and_eq_true] at q
        rcases q with q | q
        · exact ihu (Or.inl q.1)
        · exact ihv (Or.inl q.1)
      · rw [Bool.or_eq_true, Bool.and_eq_true, Bool.and_eq_true] at q
        rcases q with q | q
        · exact ihu (Or.inr q.1)
        · exact ihv (Or.inr q.1)
theorem sp_lt_tab : ∀ k, k < 6 → sp_tx (2 ^ k) 6 = sp_lt k := by decide +kernel
/-- the middle of a cut -/
def sp_mv (own oth k : Nat) (a b : Int64) : Int64 := if oth.testBit k = false then a ||| b else if own.testBit k = false then a &&& b else (a &&& (sp_lt k ^^^ (-1 : Int64))) ||| (b &&& sp_lt k)
/-- the reference's tables -/
def sp_mt (x : sp_PrT) (s own oth : Nat) (tb : Nat → Int64) : Nat → (Nat → Int64)
  | 0 => tb
  | l + 1 => vp_updL (sp_mt x s own oth tb l) l (if x.2.2.2.1 l = -9 then (if s.testBit (sp_gn x.2.2.2.1 l) then 0 else -1) else sp_mv own oth (x.2.2.2.1 l).toNatClampNeg (sp_mt x s own oth tb l (x.2.1 l).toNatClampNeg) (sp_mt x s own oth tb l (x.2.2.1 l).toNatClampNeg))
def sp_V (x : sp_PrT) (s own oth : Nat) (tb : Nat → Int64) (j : Nat) : Int64 := sp_mt x s own oth tb (j + 1) j
theorem sp_mt_at {x : sp_PrT} {s own oth : Nat} {tb : Nat → Int64} {j : Nat} : ∀ l, j < l → sp_mt x s own oth tb l j = sp_V x s own oth tb j
  | 0, h => by omega
  | l + 1, h => by
    by_cases e : j = l
    · subst e; rfl
    · rw [sp_mt, sp_updL_ne e]
      exact sp_mt_at l (by omega)
theorem sp_V_ground {x : sp_PrT} {s own oth : Nat} {tb : Nat → Int64} {j : Nat} (hg : x.2.2.2.1 j = -9) : sp_V x s own oth tb j = if s.testBit (sp_gn x.2.2.2.1 j) then 0 else -1 := by
  unfold sp_V
  rw [sp_mt, sp_updL_at, if_pos hg]
theorem sp_V_cut {x : sp_PrT} {s own oth : Nat} {tb : Nat → Int64} {j u v k : Nat} (hg : ¬ x.2.2.2.1 j = -9) (hu : u < j) (hv : v < j) (hj : j < 48) (hk : k < 6) (e1 : x.2.1 j = Int32.ofNat u) (e2 : x.2.2.1 j = Int32.ofNat v) (e3 : x.2.2.2.1 j = Int32.ofNat k) : sp_V x s own oth tb j = sp_mv own oth k (sp_V x s own oth tb u) (sp_V x s own oth tb v) := by
  have e : sp_V x s own oth tb j = sp_mv own oth (x.2.2.2.1 j).toNatClampNeg (sp_mt x s own oth tb j (x.2.1 j).toNatClampNeg) (sp_mt x s own oth tb j (x.2.2.1 j).toNatClampNeg) := by
    unfold sp_V
    rw [sp_mt, sp_updL_at, if_neg hg]
  rw [e, e1, e2, e3, sp_i_nat (by omega), sp_i_nat (by omega), sp_i_nat (by omega), sp_mt_at j hu, sp_mt_at j hv]
/-- the class's tables: the grounds, then the cuts -/
def sp_m8 (x : sp_PrT) (s : Nat) (bt : Nat → Int64) : Nat → (Nat → Int64)
  | 0 => bt
  | g + 1 => vp_updL (sp_m8 x s bt g) (x.2.2.2.2.1 g).toNatClampNeg (if s.testBit g then 0 else -1)
theorem sp_m8_at {x : sp_PrT} {n s l : Nat} {bt : Nat → Int64} (h : sp_prOK x n) (hl : l < n) (hg : x.2.2.2.1 l = -9) : ∀ g, g ≤ sp_gn x.2.2.2.1 n → sp_gn x.2.2.2.1 l < g → sp_m8 x s bt g l = if s.testBit (sp_gn x.2.2.2.1 l) then 0 else -1
  | 0, _, h2 => by omega
  | g + 1, h1, h2 => by
    have hn := h.2.1
    obtain ⟨l', k1, k2, k3, k4⟩ := sp_gr h (show g < sp_gn x.2.2.2.1 n by omega)
    rw [sp_m8, k4, sp_i_nat (by omega)]
    by_cases e : l = l'
    · subst e
      rw [sp_updL_at, k3]
    · rw [sp_updL_ne e]
      apply sp_m8_at h hl hg g (by omega)
      rcases Nat.lt_trichotomy l l' with q | q | q
      · have := sp_gn_lt q hg; omega
      · exact absurd q e
      · have := sp_gn_lt q k2; omega
def sp_mx (x : sp_PrT) (own oth : Nat) (c : Nat → Int64) : Nat → (Nat → Int64)
  | 0 => c
  | l + 1 => if x.2.2.2.1 l = -9 then sp_mx x own oth c l else vp_updL (sp_mx x own oth c l) l (sp_mv own oth (x.2.2.2.1 l).toNatClampNeg (sp_mx x own oth c l (x.2.1 l).toNatClampNeg) (sp_mx x own oth c l (x.2.2.1 l).toNatClampNeg))
theorem sp_mx_at {x : sp_PrT} {n s own oth : Nat} {c tb : Nat → Int64} (h : sp_prOK x n) (hc : ∀ j, j < n → x.2.2.2.1 j = -9 → c j = sp_V x s own oth tb j) : ∀ l, l ≤ n → (∀ j, j < l → sp_mx x own oth c l j = sp_V x s own oth tb j) ∧ (∀ j, j < n → x.2.2.2.1 j = -9 → sp_mx x own oth c l j = sp_V x s own oth tb j)
  | 0, _ => ⟨fun j hj => by omega, hc⟩
  | l + 1, hl => by
    have hn := h.2.1
    obtain ⟨i1, i2⟩ := sp_mx_at h hc l (by omega)
    rw [sp_mx]
    by_cases hg : x.2.2.2.1 l = -9
    · rw [if_pos hg]
      refine ⟨fun j hj => ?_, i2⟩
      by_cases e : j = l
      · rw [e]; exact i2 l (by omega) hg
      · exact i1 j (by omega)
    · rw [if_neg hg]
      obtain ⟨u, v, k, hu, hv, hk, e1, e2, e3, -⟩ := sp_cutL h (show l < n by omega) hg
      refine ⟨fun j hj => ?_, fun j hj hgj => ?_⟩
      · by_cases e : j = l
        · subst e
          rw [sp_updL_at, sp_V_cut hg hu hv (by omega) hk e1 e2 e3, e1, e2, e3, sp_i_nat (by omega), sp_i_nat (by omega), sp_i_nat (by omega), i1 u hu, i1 v hv]
        · rw [sp_updL_ne e]; exact i1 j (by omega)
      · rw [sp_updL_ne (fun e => hg (by rw [← e]; exact hgj))]
        exact i2 j hj hgj
