/-! cuts: grounds, wanted clauses, the reference's search -/
theorem sz_z32 {v : Nat} (h : v < 2 ^ 31) : Int32.ofNat v = 0 ↔ v = 0 := by
  constructor
  · intro e
    have := congrArg Int32.toInt e
    rw [Int32.toInt_ofNat_of_lt h] at this
    have e0 : (0 : Int32).toInt = 0 := rfl
    omega
  · intro e; rw [e]; rfl
theorem sz_codeOf {c : Nat} (hc : c < 4096) : f_X7_codeOf (Int32.ofNat c) = some (Int32.ofNat (sz_cd c)) := by
  unfold f_X7_codeOf sz_cd
  have hs : Int32.ofNat c >>> ((6 : Int32) &&& 31) = Int32.ofNat (c / 2 ^ 6) := sb_shr32 (l := 6) (by omega) (by omega)
  have h8 : c / 2 ^ 6 &&& 7 < 8 := Nat.and_lt_two_pow (n := 3) _ (by omega)
  rw [hs, show (7 : Int32) = Int32.ofNat 7 from rfl, sb_and32, sb_and32, sz_sl3 _ h8, sb_or32]
theorem sz_isPart {c k : Nat} (hc : c < 4096) : f_X0_isPart (Int32.ofNat c) (Int32.ofNat k) = some (if sp_nd c k = 0 then 1 else 0) ∧ f_X10_isStronger (Int32.ofNat c) (Int32.ofNat k) = some (if sp_nd c k = 0 then 1 else 0) := by
  have hlt : sp_nd c k < 4096 := sp_nd_lt' (N := 12) hc
  have hz : (Int32.ofNat c &&& (Int32.ofNat k ^^^ (-1 : Int32)) = 0) ↔ sp_nd c k = 0 := by
    rw [sb_nd32]
    exact sz_z32 (by show sp_nd c k < _; omega)
  unfold f_X0_isPart f_X10_isStronger
  by_cases q : sp_nd c k = 0
  · rw [if_pos (hz.mpr q), if_pos q]; exact ⟨rfl, rfl⟩
  · rw [if_neg (fun z => q (hz.mp z)), if_neg q]; exact ⟨rfl, rfl⟩
/-- the class's wanted clauses, and what one cut yields -/
theorem sz_want {S d : Nat} (hd : d < 27) {kk : Int64 → Int64 → Option Int32} (Q : Option Int32 → Prop) (hk : Q (kk (Int64.ofNat (sz_H (sz_good d))) (Int64.ofNat (sz_H (sz_oc S))))) : Q (sp_lp (f_X7_fewestCuts_L49 kk (Int32.ofNat (sz_tcl d)) (Int64.ofNat (sz_H S))) sp_F ((0 : Int64), (0 : Int64), (0 : Int32))) := by
  obtain ⟨d1, -, d3, -⟩ := sz_t1' hd
  obtain ⟨t1, t2⟩ := sz_t5' hd
  refine sz_lp_Q Q 64 (fun i s => ∃ N : Nat, s = (Int64.ofNat (sz_or (fun c => if sp_nd c (sz_tc6 d) = 0 then 2 ^ c else 0) i), Int64.ofNat N, Int32.ofNat i) ∧ ∀ j, N.testBit j = true ↔ ∃ a, a < 27 ∧ S.testBit a = true ∧ sz_tc6 a < i ∧ (sz_H (sz_cw a S)).testBit j = true) ?_ ?_ sp_F _ (sp_F_lt (by omega)) ⟨0, rfl, fun j => ?_⟩
  · rintro i s hi ⟨N, rfl, hN⟩
    right
    have h64 : ¬ (64 : Int32) ≤ Int32.ofNat i := fun q => by have := (sp_i_le (i := 64) (by omega) (by omega)).mp q; omega
    have hp := (sz_isPart (c := i) (k := sz_tc6 d) (by omega)).1
    have hW : ∀ k15 : Int64 → Option Int32, (if (if sp_nd i (sz_tc6 d) = 0 then (1 : Int32) else 0) = 0 then (k15 (Int64.ofNat (sz_or (fun c => if sp_nd c (sz_tc6 d) = 0 then 2 ^ c else 0) i))) else (sp_bnd (Int64.ofNat (sz_or (fun c => if sp_nd c (sz_tc6 d) = 0 then 2 ^ c else 0) i) ||| ((1 : Int64) <<< ((Int32.ofNat i).toInt64 &&& 63))) (fun v22 => k15 v22))) = k15 (Int64.ofNat (sz_or (fun c => if sp_nd c (sz_tc6 d) = 0 then 2 ^ c else 0) (i + 1))) := by
      intro k15
      rw [sz_or_s]
      by_cases p : sp_nd i (sz_tc6 d) = 0
      · have hi63 : i < 63 := by
          rcases (show i < 63 ∨ i = 63 by omega) with h | h
          · exact h
          · rw [h] at p; exact absurd p t2
        rw [if_pos p, if_pos p, if_neg (by decide), sp_bndE, sb_one64 hi63, sb_or64]
      · rw [if_neg p, if_neg p, if_pos rfl, Nat.or_zero]
    have hF : ∀ rec, f_X7_fewestCuts_L49 kk (Int32.ofNat (sz_tcl d)) (Int64.ofNat (sz_H S)) rec (Int64.ofNat (sz_or (fun c => if sp_nd c (sz_tc6 d) = 0 then 2 ^ c else 0) i), Int64.ofNat N, Int32.ofNat i) = Option.bind (f_X9_isIn (Int32.ofNat i) (Int64.ofNat (sz_H S))) (fun r16 => sp_bnd (fun (x17 : Int64) => sp_bnd (Int32.ofNat i + (1 : Int32)) (fun v19 => rec (Int64.ofNat (sz_or (fun c => if sp_nd c (sz_tc6 d) = 0 then 2 ^ c else 0) (i + 1)), x17, v19))) (fun k18 => if r16 = 0 then (k18 (Int64.ofNat N)) else (Option.bind (f_X7_cutsWith (Int32.ofNat i) (Int64.ofNat (sz_H S))) (fun r20 => sp_bnd (Int64.ofNat N ||| r20) (fun v21 => k18 v21))))) := by
      intro rec
      rw [f_X7_fewestCuts_L49_eq, if_neg h64, sz_codeOf d1, Option.bind_some, show sz_cd (sz_tcl d) = sz_tc6 d from rfl, hp, Option.bind_some, sp_bndE]
      exact hW (fun (x14 : Int64) => Option.bind (f_X9_isIn (Int32.ofNat i) (Int64.ofNat (sz_H S))) (fun r16 => sp_bnd (fun (x17 : Int64) => sp_bnd (Int32.ofNat i + (1 : Int32)) (fun v19 => rec (x14, x17, v19))) (fun k18 => if r16 = 0 then (k18 (Int64.ofNat N)) else (Option.bind (f_X7_cutsWith (Int32.ofNat i) (Int64.ofNat (sz_H S))) (fun r20 => sp_bnd (Int64.ofNat N ||| r20) (fun v21 => k18 v21))))))
    by_cases q : (sz_H S).testBit i = true
    · obtain ⟨a, a1, a2, a3⟩ := (sz_H_bit S i).mp q
      have hcw := sz_cutsWith (S := S) a1
      rw [a3] at hcw
      refine ⟨(Int64.ofNat (sz_or (fun c => if sp_nd c (sz_tc6 d) = 0 then 2 ^ c else 0) (i + 1)), Int64.ofNat (N ||| sz_H (sz_cw a S)), Int32.ofNat (i + 1)), ⟨_, rfl, fun j => ?_⟩, fun rec => ?_⟩
      · rw [Nat.testBit_or, Bool.or_eq_true, hN]
        constructor
        · rintro (⟨b, b1, b2, b3, b4⟩ | h)
          · exact ⟨b, b1, b2, by omega, b4⟩
          · exact ⟨a, a1, a2, by omega, h⟩
        · rintro ⟨b, b1, b2, b3, b4⟩
          by_cases e : sz_tc6 b = i
          · right
            rw [← sz_tinj b1 a1 (e.trans a3.symm)]; exact b4
          · exact Or.inl ⟨b, b1, b2, by omega, b4⟩
      · rw [hF, sz_isIn64 (sz_H63 S) hi, Option.bind_some, if_pos q]
        simp only [sp_bndE, sp_one_ne, if_false, hcw, Option.bind_some, sb_or64, sp_i_succ]
    · refine ⟨(Int64.ofNat (sz_or (fun c => if sp_nd c (sz_tc6 d) = 0 then 2 ^ c else 0) (i + 1)), Int64.ofNat N, Int32.ofNat (i + 1)), ⟨N, rfl, fun j => ?_⟩, fun rec => ?_⟩
      · rw [hN]
        constructor
        · rintro ⟨b, b1, b2, b3, b4⟩
          exact ⟨b, b1, b2, by omega, b4⟩
        · rintro ⟨b, b1, b2, b3, b4⟩
          refine ⟨b, b1, b2, ?_, b4⟩
          rcases (show sz_tc6 b < i ∨ sz_tc6 b = i by omega) with e | e
          · exact e
          · exact absurd (e ▸ (sz_H_at S b1).mpr b2) q
      · rw [hF, sz_isIn64 (sz_H63 S) hi, Option.bind_some, if_neg q]
        simp only [sp_bndE, if_true, sp_i_succ]
  · rintro s ⟨N, rfl, hN⟩
    have e : N = sz_H (sz_oc S) := by
      apply sz_nat_ext
      intro j
      rw [hN, sz_H_bit]
      constructor
      · rintro ⟨a, a1, a2, -, a4⟩
        obtain ⟨c, c1, c2, c3⟩ := (sz_H_bit _ j).mp a4
        obtain ⟨b, b1, b2, b3⟩ := (sz_cw_bit a S c).mp c2
        refine ⟨c, c1, (sz_oc_bit S c).mpr ?_, c3⟩
        rcases b3 with b3 | b3
        · exact ⟨a, b, a1, b1, a2, b2, b3⟩
        · exact ⟨b, a, b1, a1, b2, a2, b3⟩
      · rintro ⟨c, c1, c2, c3⟩
        obtain ⟨a, b, a1, b1, a2, b2, h⟩ := (sz_oc_bit S c).mp c2
        refine ⟨a, a1, a2, by have := (sz_t1' a1).2.2.1; omega, (sz_H_bit _ j).mpr ⟨c, c1, (sz_cw_bit a S c).mpr ⟨b, b1, b2, Or.inl h⟩, c3⟩⟩
    refine ⟨_, hk, fun rec => ?_⟩
    rw [f_X7_fewestCuts_L49_eq, if_pos (by decide), t1, e]
  · rw [Nat.zero_testBit]
    exact ⟨fun h => absurd h (by decide), fun ⟨a, _, _, h, _⟩ => by omega⟩
/-- grounds of a proof as a set -/
def sz_gs (z : sp_PrT) (l : Nat) : Nat := sz_or (fun l => if z.2.2.2.1 l = -9 then 2 ^ sz_so (sp_cc z l) else 0) l
theorem sz_gs_lt (z : sp_PrT) (n : Nat) : sz_gs z n < 2 ^ 27 := by
  unfold sz_gs
  refine sz_or_lt n (fun l hl => ?_)
  split
  · exact Nat.pow_lt_pow_right (by omega) (sz_so_lt _)
  · exact Nat.two_pow_pos _
theorem sz_smallX {z : sp_PrT} {n : Nat} (h : sp_prOK z n) (hall : ∀ l, l < n → z.2.2.2.1 l = -9 → f_X0_isSmall (z.1 l) = some 1) (kk : Option Int32) : sp_lp (f_X9_cuts_L37 (Int32.ofNat (sp_gn z.2.2.2.1 n)) kk z.2.2.2.2.1 z.1) sp_F (0 : Int32) = kk := by
  have hn := h.2.1
  have hg := sp_gn_le z.2.2.2.1 n
  refine sp_lp_fn (sp_gn z.2.2.2.1 n) (fun g => Int32.ofNat g) (fun g hg' rec => ?_) (fun rec => ?_) (sp_F_lt (by omega)) rfl
  · obtain ⟨l, l1, l2, l3, l4⟩ := sp_gr h hg'
    rw [f_X9_cuts_L37_eq, if_neg (fun q => by have := (sp_i_le (by omega) (by omega)).mp q; omega), sp_ld_at (show g < 48 by omega) (by omega), l4, sp_ld_at (show l < 48 by omega) (by omega), hall l l1 l2, Option.bind_some, if_neg (by decide), sp_bndE, sp_i_succ]
  · rw [f_X9_cuts_L37_eq, if_pos ((sp_i_le (by omega) (by omega)).mpr (Nat.le_refl _))]
theorem sz_largeX {z : sp_PrT} {n l : Nat} (h : sp_prOK z n) (hl : l < n) (hg : z.2.2.2.1 l = -9) (hs : f_X0_isSmall (z.1 l) = some 0) (kk : Option Int32) : sp_lp (f_X9_cuts_L37 (Int32.ofNat (sp_gn z.2.2.2.1 n)) kk z.2.2.2.2.1 z.1) sp_F (0 : Int32) = some (-3) := by
  have hn := h.2.1
  have hgl := sp_gn_le z.2.2.2.1 n
  refine sz_lp_Q (fun o => o = some (-3)) (sp_gn z.2.2.2.1 n) (fun g s => s = Int32.ofNat g ∧ g ≤ sp_gn z.2.2.2.1 l) ?_ ?_ sp_F _ (sp_F_lt (by omega)) ⟨rfl, by omega⟩
  · rintro g s hg' ⟨rfl, h1⟩
    obtain ⟨l', l1, l2, l3, l4⟩ := sp_gr h hg'
    rcases sz_small (sp_clOK h l1) with ⟨e, -⟩ | ⟨a, -, -, e, -⟩
    · left
      refine ⟨_, rfl, fun rec => ?_⟩
      rw [f_X9_cuts_L37_eq, if_neg (fun q => by have := (sp_i_le (by omega) (by omega)).mp q; omega), sp_ld_at (show g < 48 by omega) (by omega), l4, sp_ld_at (show l' < 48 by omega) (by omega), e, Option.bind_some, if_pos rfl]
    · right
      refine ⟨Int32.ofNat (g + 1), ⟨rfl, ?_⟩, fun rec => ?_⟩
      · rcases (show g < sp_gn z.2.2.2.1 l ∨ g = sp_gn z.2.2.2.1 l by omega) with q | q
        · omega
        · exfalso
          have e1 := h.2.2.2.2.2 l hl hg
          rw [← q, l4] at e1
          have e2 := (sp_i_inj (by omega) (by omega)).mp e1
          rw [e2, hs] at e
          exact absurd (Option.some.inj e) (by decide)
      · rw [f_X9_cuts_L37_eq, if_neg (fun q => by have := (sp_i_le (by omega) (by omega)).mp q; omega), sp_ld_at (show g < 48 by omega) (by omega), l4, sp_ld_at (show l' < 48 by omega) (by omega), e, Option.bind_some, if_neg (by decide), sp_bndE, sp_i_succ]
  · rintro s ⟨rfl, h1⟩
    exfalso
    have := sp_gn_lt hl hg
    omega
theorem sz_hadX {z : sp_PrT} {n : Nat} (h : sp_prOK z n) (hall : ∀ l, l < n → z.2.2.2.1 l = -9 → ∃ a, a < 27 ∧ z.1 l = Int32.ofNat (sz_tcl a)) (kk : Int64 → Option Int32) : sp_lp (f_X7_fewestCuts_L5 (Int32.ofNat (sp_gn z.2.2.2.1 n)) kk z.2.2.2.2.1 z.1) sp_F ((0 : Int64), (0 : Int32)) = kk (Int64.ofNat (sz_H (sz_gs z n))) := by
  have hn := h.2.1
  have hg := sp_gn_le z.2.2.2.1 n
  have e : sz_H (sz_gs z n) = sz_or (fun g => 2 ^ sz_cd (sp_cc z (z.2.2.2.2.1 g).toNatClampNeg)) (sp_gn z.2.2.2.1 n) := by
    apply sz_nat_ext
    intro j
    rw [sz_H_bit, sz_or_bit]
    constructor
    · rintro ⟨a, a1, a2, a3⟩
      unfold sz_gs at a2
      obtain ⟨l, l1, l2⟩ := (sz_or_bit _ _ _).mp a2
      by_cases q : z.2.2.2.1 l = -9
      · rw [if_pos q, Nat.testBit_two_pow, decide_eq_true_iff] at l2
        obtain ⟨b, b1, b2⟩ := hall l l1 q
        have hcc : sp_cc z l = sz_tcl b := by unfold sp_cc; rw [b2, sp_i_nat (by have := (sz_t1' b1).1; omega)]
        rw [hcc, (sz_t1' b1).2.2.2] at l2
        subst l2
        refine ⟨sp_gn z.2.2.2.1 l, sp_gn_lt l1 q, ?_⟩
        rw [h.2.2.2.2.2 l l1 q, sp_i_nat (by omega), hcc, Nat.testBit_two_pow, decide_eq_true_iff]
        exact a3
      · rw [if_neg q, Nat.zero_testBit] at l2
        exact absurd l2 (by decide)
    · rintro ⟨g, g1, g2⟩
      obtain ⟨l, l1, l2, l3, l4⟩ := sp_gr h g1
      rw [l4, sp_i_nat (by omega), Nat.testBit_two_pow, decide_eq_true_iff] at g2
      obtain ⟨b, b1, b2⟩ := hall l l1 l2
      have hcc : sp_cc z l = sz_tcl b := by unfold sp_cc; rw [b2, sp_i_nat (by have := (sz_t1' b1).1; omega)]
      rw [hcc] at g2
      refine ⟨b, b1, ?_, g2⟩
      unfold sz_gs
      rw [sz_or_bit]
      exact ⟨l, l1, by rw [if_pos l2, hcc, (sz_t1' b1).2.2.2, Nat.testBit_two_pow_self]⟩
  rw [e]
  refine sp_lp_fn (sp_gn z.2.2.2.1 n) (fun g => (Int64.ofNat (sz_or (fun g => 2 ^ sz_cd (sp_cc z (z.2.2.2.2.1 g).toNatClampNeg)) g), Int32.ofNat g)) (fun g hg' rec => ?_) (fun rec => ?_) (sp_F_lt (by omega)) rfl
  · obtain ⟨l, l1, l2, l3, l4⟩ := sp_gr h hg'
    obtain ⟨b, b1, b2⟩ := hall l l1 l2
    have hcc : sp_cc z l = sz_tcl b := by unfold sp_cc; rw [b2, sp_i_nat (by have := (sz_t1' b1).1; omega)]
    have h57 : sz_cd (sz_tcl b) < 57 := (sz_t1' b1).2.2.1
    rw [f_X7_fewestCuts_L5_eq, if_neg (fun q => by have := (sp_i_le (by omega) (by omega)).mp q; omega), sp_ld_at (show g < 48 by omega) (by omega), l4, sp_ld_at (show l < 48 by omega) (by omega), b2, sz_codeOf (sz_t1' b1).1, Option.bind_some, sb_one64 (by omega), sb_or64, sp_bndE, sp_bndE, sp_i_succ, sz_or_s, l4, sp_i_nat (by omega), hcc]
  · rw [f_X7_fewestCuts_L5_eq, if_pos ((sp_i_le (by omega) (by omega)).mpr (Nat.le_refl _))]
theorem sz_hadM {z : sp_PrT} {n p : Nat} {mn cl le ri lt sc su : Nat → Int32} (h : sp_prOK z n) (hp : p < 12) (hmn : mn p = Int32.ofNat n) (hs : sp_same z cl le ri lt p n) (hall : ∀ l, l < n → z.2.2.2.1 l = -9 → f_X10_isSmall (z.1 l) = some 1) (kk : Int32 → Option (Int32 × (Nat → Int32) × (Nat → Int32))) : sp_lp (f_X10_cuts_L25 mn (Int32.ofNat p) kk lt cl sc su) sp_F ((0 : Int32), (0 : Int32)) = kk (Int32.ofNat (sz_gs z n)) := by
  have hn := h.2.1
  unfold sz_gs
  refine sp_lp_fn n (fun l => (Int32.ofNat (sz_or (fun l => if z.2.2.2.1 l = -9 then 2 ^ sz_so (sp_cc z l) else 0) l), Int32.ofNat l)) (fun l hl rec => ?_) (fun rec => ?_) (sp_F_lt (by omega)) rfl
  · obtain ⟨s1, s2, s3, s4⟩ := hs l hl
    have hso := sz_so_lt (sp_cc z l)
    rw [f_X10_cuts_L25_eq, sp_ld_at hp (by omega), hmn, if_neg (fun q => by have := (sp_i_le (by omega) (by omega)).mp q; omega), sp_i_24, sp_bndE, sp_ld_at (show 24 * p + l < 288 by omega) (by omega), s4, sz_or_s]
    by_cases g : z.2.2.2.1 l = -9
    · rw [if_pos g]
      simp only [sp_bndE, if_pos g, sp_ld_at (show 24 * p + l < 288 by omega) (by omega : 288 < 1000000), s1, hall l hl g, Option.bind_some, sp_one_ne, if_false]
      rw [sp_cc_eq h hl, sz_smallOf (sp_cc_lt h hl), Option.bind_some, sb_one32 (by omega), sb_or32, sp_i_succ]
    · rw [if_neg g, Nat.or_zero]
      simp only [sp_bndE, if_neg g, sp_i_succ]
  · rw [f_X10_cuts_L25_eq, sp_ld_at hp (by omega), hmn, if_pos ((sp_i_le (by omega) (by omega)).mpr (Nat.le_refl _))]
theorem sz_largeM {z : sp_PrT} {n p l : Nat} {mn cl le ri lt sc su : Nat → Int32} (h : sp_prOK z n) (hp : p < 12) (hmn : mn p = Int32.ofNat n) (hs : sp_same z cl le ri lt p n) (hl : l < n) (hg : z.2.2.2.1 l = -9) (hsm : f_X10_isSmall (z.1 l) = some 0) (kk : Int32 → Option (Int32 × (Nat → Int32) × (Nat → Int32))) : sp_lp (f_X10_cuts_L25 mn (Int32.ofNat p) kk lt cl sc su) sp_F ((0 : Int32), (0 : Int32)) = some (-3, sc, su) := by
  have hn := h.2.1
  refine sz_lp_Q (fun o => o = some (-3, sc, su)) n (fun i s => ∃ v : Int32, s = (v, Int32.ofNat i) ∧ i ≤ l) ?_ ?_ sp_F _ (sp_F_lt (by omega)) ⟨0, rfl, by omega⟩
  · rintro i s hi ⟨v, rfl, h1⟩
    obtain ⟨s1, s2, s3, s4⟩ := hs i hi
    by_cases g : z.2.2.2.1 i = -9
    · rcases sz_small (sp_clOK h hi) with ⟨-, e⟩ | ⟨a, a1, a2, -, e⟩
      · left
        refine ⟨_, rfl, fun rec => ?_⟩
        rw [f_X10_cuts_L25_eq, sp_ld_at hp (by omega), hmn, if_neg (fun q => by have := (sp_i_le (by omega) (by omega)).mp q; omega), sp_i_24, sp_bndE, sp_ld_at (show 24 * p + i < 288 by omega) (by omega), s4, sp_bndE, if_pos g, sp_ld_at (show 24 * p + i < 288 by omega) (by omega), s1, e, Option.bind_some, if_pos rfl]
      · right
        have hso := sz_so_lt (sp_cc z i)
        refine ⟨(v ||| Int32.ofNat (2 ^ sz_so (sp_cc z i)), Int32.ofNat (i + 1)), ⟨_, rfl, ?_⟩, fun rec => ?_⟩
        · rcases (show i < l ∨ i = l by omega) with q | q
          · omega
          · rw [q, hsm] at e
            exact absurd (Option.some.inj e) (by decide)
        · rw [f_X10_cuts_L25_eq, sp_ld_at hp (by omega), hmn, if_neg (fun q => by have := (sp_i_le (by omega) (by omega)).mp q; omega), sp_i_24, sp_bndE, sp_ld_at (show 24 * p + i < 288 by omega) (by omega), s4]
          simp only [sp_bndE, if_pos g, sp_ld_at (show 24 * p + i < 288 by omega) (by omega : 288 < 1000000), s1, e, Option.bind_some, sp_one_ne, if_false]
          rw [sp_cc_eq h hi, sz_smallOf (sp_cc_lt h hi), Option.bind_some, sb_one32 (by omega), sp_i_succ]
    · right
      refine ⟨(v, Int32.ofNat (i + 1)), ⟨v, rfl, ?_⟩, fun rec => ?_⟩
      · rcases (show i < l ∨ i = l by omega) with q | q
        · omega
        · rw [q] at g; exact absurd hg g
      · rw [f_X10_cuts_L25_eq, sp_ld_at hp (by omega), hmn, if_neg (fun q => by have := (sp_i_le (by omega) (by omega)).mp q; omega), sp_i_24, sp_bndE, sp_ld_at (show 24 * p + i < 288 by omega) (by omega), s4]
        simp only [sp_bndE, if_neg g, sp_i_succ]
  · rintro s ⟨v, rfl, h1⟩
    omega
theorem sz_good_lt (d : Nat) : sz_good d < 2 ^ 27 := by
  unfold sz_good
  refine sz_or_lt 27 (fun a ha => ?_)
  split
  · exact Nat.pow_lt_pow_right (by omega) ha
  · exact Nat.two_pow_pos _
theorem sz_goodM {d : Nat} {c : Nat → Int32} (hc : ∀ j, j < 27 → c j = Int32.ofNat (sz_tcl j)) (kk : Int32 → Option (Int32 × (Nat → Int32) × (Nat → Int32))) : sp_lp (f_X10_cuts_L107 kk c (Int32.ofNat (sz_tcl d))) sp_F ((0 : Int32), (0 : Int32)) = kk (Int32.ofNat (sz_good d)) := by
  unfold sz_good
  refine sp_lp_fn 27 (fun a => (Int32.ofNat (sz_or (fun a => if sp_nd (sz_tcl a) (sz_tcl d) = 0 then 2 ^ a else 0) a), Int32.ofNat a)) (fun a ha rec => ?_) (fun rec => ?_) (sp_F_lt (by omega)) rfl
  · rw [f_X10_cuts_L107_eq, if_neg (show ¬ (27 : Int32) ≤ Int32.ofNat a from fun z => by have := (sp_i_le (i := 27) (by omega) (by omega)).mp z; omega), sp_ld_at (show a < 27 by omega) (by omega), hc a ha, (sz_isPart (sz_t1' ha).1).2, Option.bind_some, sz_or_s]
    by_cases q : sp_nd (sz_tcl a) (sz_tcl d) = 0
    · rw [if_pos q, if_pos q]
      simp only [sp_bndE, sp_one_ne, if_false, sb_one32 (show a < 31 by omega), sb_or32, sp_i_succ]
    · rw [if_neg q, if_neg q, Nat.or_zero]
      simp only [sp_bndE, if_true, Int32.or_zero, sp_i_succ]
  · rw [f_X10_cuts_L107_eq, if_pos (by decide)]
