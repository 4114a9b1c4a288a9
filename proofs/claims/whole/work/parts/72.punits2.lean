/-! units alone: class and reference -/
def sp_pg (x : sp_PrT) (K : Nat) : Nat → Nat
  | 0 => K
  | g + 1 => sp_u (x.1 (x.2.2.2.2.1 g).toNatClampNeg).toNatClampNeg (sp_pg x K g)
theorem sp_pl_pg {x : sp_PrT} {n K : Nat} (h : sp_prOK x n) : ∀ l, l ≤ n → sp_pl x K l = sp_pg x K (sp_gn x.2.2.2.1 l)
  | 0, _ => rfl
  | l + 1, hl => by
    have hn := h.2.1
    have ih := sp_pl_pg (K := K) h l (by omega)
    rw [sp_pl, sp_gn]
    by_cases hg : x.2.2.2.1 l = -9
    · rw [if_pos hg, if_pos hg, sp_pg, h.2.2.2.2.2 l (by omega) hg, sp_i_nat (by omega), ih]
    · rw [if_neg hg, if_neg hg, Nat.add_zero, ih]
theorem sp_pg_lt {x : sp_PrT} {n K : Nat} (h : sp_prOK x n) (hK : K < 4096) : ∀ g, g ≤ sp_gn x.2.2.2.1 n → sp_pg x K g < 4096
  | 0, _ => hK
  | g + 1, hg => by
    have hn := h.2.1
    obtain ⟨l, l1, l2, l3, l4⟩ := sp_gr h (show g < sp_gn x.2.2.2.1 n by omega)
    rw [sp_pg, l4, sp_i_nat (by omega)]
    exact sp_u_lt (sp_c4 h l1).1 (sp_pg_lt h hK g (by omega))
theorem sp_withUnits {x : sp_PrT} {n K : Nat} (h : sp_prOK x n) (hK : K < 4096) : f_X7_withUnits (Int32.ofNat K) x.1 x.2.2.2.2.1 x.2.2.2.2.2.2 = some (Int32.ofNat (sp_pl x K n)) := by
  have hn := h.2.1
  have hgl := sp_gn_le x.2.2.2.1 n
  unfold f_X7_withUnits
  rw [sp_bnd, h.2.2.2.2.1, sp_pl_pg h n (Nat.le_refl _)]
  refine sp_lp_fn (sp_gn x.2.2.2.1 n) (fun g => (Int32.ofNat (sp_pg x K g), Int32.ofNat g)) (fun g hg rec => ?_) (fun rec => ?_) (sp_F_lt (by omega)) rfl
  · obtain ⟨l, l1, l2, l3, l4⟩ := sp_gr h hg
    obtain ⟨c, hc, ec⟩ := sp_clN h l1
    rw [f_X7_withUnits_L4_eq, if_neg (fun q => by have := (sp_i_le (by omega) (by omega)).mp q; omega), sp_ld_at (show g < 48 by omega) (by omega), l4, sp_ld_at (show l < 48 by omega) (by omega), ec, sp_pg, l4, sp_i_nat (show l < 1000000 by omega), ec, sp_i_nat (show c < 1000000 by omega)]
    simp only [sp_bnd, sb_nd32, sp_i_succ]
    exact sp_uX hc (fun v => rec (v, Int32.ofNat (g + 1)))
  · rw [f_X7_withUnits_L4_eq, if_pos ((sp_i_le (by omega) (by omega)).mpr (Nat.le_refl _))]
theorem sp_nd_sub {c K : Nat} (hc : c < 4096) : (c ^^^ (c &&& K) = 0) ↔ sp_sub c K := by
  rw [sb_nd0 (N := 12) (by omega)]
  constructor
  · intro q j hj
    by_cases h : j < 12
    · exact q j h hj
    · rw [Nat.testBit_lt_two_pow (Nat.lt_of_lt_of_le hc (show 2 ^ 12 ≤ 2 ^ j from Nat.pow_le_pow_right (by omega) (by omega)))] at hj
      exact absurd hj (by decide)
  · intro q j _ hj
    exact q j hj
theorem sp_nd_z {c K : Nat} (hc : c < 4096) : (Int32.ofNat (c ^^^ (c &&& K)) = 0) ↔ sp_sub c K := by
  have hlt := sb_nd_lt (b := K) (show c < 2 ^ 12 by omega)
  rw [sb_zero32 (by omega), sp_nd_sub hc]
theorem sp_unitsX {x : sp_PrT} {n K : Nat} (h : sp_prOK x n) (hK : K < 4096) (k : Int32 → Option Int32) : sp_lp (f_X7_isByUnits_L4 k x.1 x.2.2.2.2.1 x.2.2.2.2.2.2) sp_F (Int32.ofNat K, (0 : Int32)) = k (Int32.ofNat (sp_it x n K 6)) := by
  refine sp_lp_fn 6 (fun i => (Int32.ofNat (sp_it x n K i), Int32.ofNat i)) (fun i hi rec => ?_) (fun rec => ?_) (sp_F_lt (by omega)) rfl
  · rw [f_X7_isByUnits_L4_eq, if_neg (fun q => by have := (sp_i_le (i := 6) (n := i) (by omega) (by omega)).mp q; omega), sp_withUnits h (sp_it_lt h hK i)]
    simp only [Option.bind_some, sp_bnd, sp_i_succ]
    rfl
  · rw [f_X7_isByUnits_L4_eq, if_pos (show (6 : Int32) ≤ Int32.ofNat 6 by decide)]
theorem sp_hitX {x : sp_PrT} {n K : Nat} (h : sp_prOK x n) : (sp_hit x n K → ∀ k, sp_lp (f_X7_isByUnits_L24 x.2.2.2.2.2.2 k x.2.2.2.2.1 x.1 (Int32.ofNat K)) sp_F (0 : Int32) = some 1) ∧ (¬ sp_hit x n K → ∀ k, sp_lp (f_X7_isByUnits_L24 x.2.2.2.2.2.2 k x.2.2.2.2.1 x.1 (Int32.ofNat K)) sp_F (0 : Int32) = k) := by
  have hn := h.2.1
  have hgl := sp_gn_le x.2.2.2.1 n
  have step : ∀ g, g < sp_gn x.2.2.2.1 n → ∃ l, l < n ∧ x.2.2.2.1 l = -9 ∧ sp_gn x.2.2.2.1 l = g ∧ ((sp_sub (x.1 l).toNatClampNeg K ∧ ∀ k rec, f_X7_isByUnits_L24 (Int32.ofNat (sp_gn x.2.2.2.1 n)) k x.2.2.2.2.1 x.1 (Int32.ofNat K) rec (Int32.ofNat g) = some 1) ∨ (¬ sp_sub (x.1 l).toNatClampNeg K ∧ ∀ k rec, f_X7_isByUnits_L24 (Int32.ofNat (sp_gn x.2.2.2.1 n)) k x.2.2.2.2.1 x.1 (Int32.ofNat K) rec (Int32.ofNat g) = rec (Int32.ofNat (g + 1)))) := by
    intro g hg
    obtain ⟨l, l1, l2, l3, l4⟩ := sp_gr h hg
    obtain ⟨c, hc, ec⟩ := sp_clN h l1
    refine ⟨l, l1, l2, l3, ?_⟩
    have hz := sp_nd_z (K := K) hc
    rw [ec, sp_i_nat (show c < 1000000 by omega)]
    by_cases q : sp_sub c K
    · left
      refine ⟨q, fun k rec => ?_⟩
      rw [f_X7_isByUnits_L24_eq, if_neg (fun q => by have := (sp_i_le (by omega) (by omega)).mp q; omega), sp_ld_at (show g < 48 by omega) (by omega), l4, sp_ld_at (show l < 48 by omega) (by omega), ec, f_X0_isPart, sb_nd32, if_pos (hz.mpr q)]
      rfl
    · right
      refine ⟨q, fun k rec => ?_⟩
      rw [f_X7_isByUnits_L24_eq, if_neg (fun q => by have := (sp_i_le (by omega) (by omega)).mp q; omega), sp_ld_at (show g < 48 by omega) (by omega), l4, sp_ld_at (show l < 48 by omega) (by omega), ec, f_X0_isPart, sb_nd32, if_neg (fun w => q (hz.mp w)), Option.bind_some, if_pos rfl, sp_bndE, sp_i_succ]
  rw [h.2.2.2.2.1]
  constructor
  · rintro ⟨l, h1, h2, h3⟩ k
    obtain ⟨g, hg, ⟨l', k1, k2, k3, k4⟩, k5⟩ := sp_least (P := fun g => ∃ l, l < n ∧ x.2.2.2.1 l = -9 ∧ sp_gn x.2.2.2.1 l = g ∧ sp_sub (x.1 l).toNatClampNeg K) (sp_gn x.2.2.2.1 n) ⟨sp_gn x.2.2.2.1 l, sp_gn_lt h1 h2, l, h1, h2, rfl, h3⟩
    refine sp_lp_fn g (fun i => Int32.ofNat i) (fun i hi rec => ?_) (fun rec => ?_) (sp_F_lt (by omega)) rfl
    · obtain ⟨m, m1, m2, m3, m4⟩ := step i (by omega)
      rcases m4 with ⟨m4, -⟩ | ⟨-, m5⟩
      · exact absurd ⟨m, m1, m2, m3, m4⟩ (k5 i hi)
      · exact m5 k rec
    · obtain ⟨m, m1, m2, m3, m4⟩ := step g hg
      have hml : m = l' := by
        rcases Nat.lt_trichotomy m l' with q | q | q
        · have := sp_gn_lt q m2; omega
        · exact q
        · have := sp_gn_lt q k2; omega
      rcases m4 with ⟨-, m5⟩ | ⟨m4, -⟩
      · exact m5 k rec
      · rw [hml] at m4; exact absurd k4 m4
  · intro hno k
    refine sp_lp_fn (sp_gn x.2.2.2.1 n) (fun i => Int32.ofNat i) (fun i hi rec => ?_) (fun rec => ?_) (sp_F_lt (by omega)) rfl
    · obtain ⟨m, m1, m2, m3, m4⟩ := step i hi
      rcases m4 with ⟨m4, -⟩ | ⟨-, m5⟩
      · exact absurd ⟨m, m1, m2, m4⟩ hno
      · exact m5 k rec
    · rw [f_X7_isByUnits_L24_eq, if_pos ((sp_i_le (by omega) (by omega)).mpr (Nat.le_refl _))]
/-- a ground found wholly not true while going through -/
def sp_hitL (x : sp_PrT) (K l : Nat) : Prop := x.2.2.2.1 l = -9 ∧ sp_sub (x.1 l).toNatClampNeg (sp_pl x K l)
theorem sp_unitsI {x : sp_PrT} {n p K : Nat} {mn cl le ri lt : Nat → Int32} (h : sp_prOK x n) (hp : p < 12) (hm : mn p = Int32.ofNat n) (hs : sp_same x cl le ri lt p n) (hK : K < 4096) (k : Int32 → Int32 → Option Int32) : ((∃ l, l < n ∧ sp_hitL x K l) → sp_lp (f_X10_units_L36 mn (Int32.ofNat p) k lt cl) sp_F (Int32.ofNat K, (0 : Int32), (0 : Int32)) = some 1) ∧ ((¬ ∃ l, l < n ∧ sp_hitL x K l) → sp_lp (f_X10_units_L36 mn (Int32.ofNat p) k lt cl) sp_F (Int32.ofNat K, (0 : Int32), (0 : Int32)) = k (Int32.ofNat (sp_pl x K n)) (if sp_pl x K n = K then 0 else 1)) := by
  have hn := h.2.1
  have step : ∀ l, l < n → (sp_hitL x K l → ∀ rec, f_X10_units_L36 mn (Int32.ofNat p) k lt cl rec (Int32.ofNat (sp_pl x K l), (if sp_pl x K l = K then 0 else 1), Int32.ofNat l) = some 1) ∧ (¬ sp_hitL x K l → ∀ rec, f_X10_units_L36 mn (Int32.ofNat p) k lt cl rec (Int32.ofNat (sp_pl x K l), (if sp_pl x K l = K then 0 else 1), Int32.ofNat l) = rec (Int32.ofNat (sp_pl x K (l + 1)), (if sp_pl x K (l + 1) = K then 0 else 1), Int32.ofNat (l + 1))) := by
    intro l hl
    obtain ⟨s1, -, -, s4⟩ := hs l hl
    obtain ⟨c, hc, ec⟩ := sp_clN h hl
    have hz := sp_nd_z (K := sp_pl x K l) hc
    constructor
    · rintro ⟨q1, q2⟩ rec
      rw [ec, sp_i_nat (show c < 1000000 by omega)] at q2
      rw [f_X10_units_L36_eq, sp_ld_at hp (by omega), hm, if_neg (fun q => by have := (sp_i_le (by omega) (by omega)).mp q; omega), sp_bndE, sp_i_24, sp_ld_at (show 24 * p + l < 288 by omega) (by omega), s4, sp_bndE, if_pos q1, sp_ld_at (show 24 * p + l < 288 by omega) (by omega), s1, ec, sp_bndE, sb_nd32, if_pos (hz.mpr q2)]
    · intro hno rec
      rw [f_X10_units_L36_eq, sp_ld_at hp (by omega), hm, if_neg (fun q => by have := (sp_i_le (by omega) (by omega)).mp q; omega), sp_bndE, sp_i_24, sp_ld_at (show 24 * p + l < 288 by omega) (by omega), s4, sp_bndE, sp_pl]
      by_cases q1 : x.2.2.2.1 l = -9
      · have q2 : ¬ sp_sub c (sp_pl x K l) := fun w => hno ⟨q1, by rw [ec, sp_i_nat (show c < 1000000 by omega)]; exact w⟩
        rw [if_pos q1, if_pos q1, sp_ld_at (show 24 * p + l < 288 by omega) (by omega), s1, ec, sp_bndE, sb_nd32, if_neg (fun w => q2 (hz.mp w)), sp_bndE, sp_i_nat (show c < 1000000 by omega)]
        have hU := sp_uM (K := sp_pl x K l) hc (fun a b => rec (a, b, Int32.ofNat (l + 1))) (if sp_pl x K l = K then 0 else 1) _ rfl
        have hflag : (if sp_u c (sp_pl x K l) = K then (0 : Int32) else 1) = (if sp_u c (sp_pl x K l) = sp_pl x K l then (if sp_pl x K l = K then 0 else 1) else 1) := by
          by_cases w : sp_u c (sp_pl x K l) = sp_pl x K l
          · rw [if_pos w, w]
          · rw [if_neg w, if_neg]
            intro w2
            apply w
            have a1 : sp_sub (sp_pl x K l) K := by
              have := sp_u_sub (c := c) (K := sp_pl x K l)
              rw [w2] at this
              exact this
            have a2 : sp_sub K (sp_pl x K l) := sp_pl_sub0
            rw [w2]
            exact sp_sub_eq a2 a1
        rw [hflag]
        refine Eq.trans ?_ hU
        simp only [sp_bnd, sp_i_succ]
        split <;> rfl
      · rw [if_neg q1, if_neg q1]
        simp only [sp_bnd, sp_i_succ]
  constructor
  · intro hex
    obtain ⟨l, hl, q1, q2⟩ := sp_least n hex
    refine sp_lp_fn l (fun i => (Int32.ofNat (sp_pl x K i), (if sp_pl x K i = K then 0 else 1), Int32.ofNat i)) (fun i hi rec => (step i (by omega)).2 (q2 i hi) rec) (fun rec => (step l hl).1 q1 rec) (sp_F_lt (by omega)) ?_
    rw [if_pos (show sp_pl x K 0 = K from rfl)]; rfl
  · intro hno
    refine sp_lp_fn n (fun i => (Int32.ofNat (sp_pl x K i), (if sp_pl x K i = K then 0 else 1), Int32.ofNat i)) (fun i hi rec => (step i hi).2 (fun q => hno ⟨i, hi, q⟩) rec) (fun rec => ?_) (sp_F_lt (by omega)) ?_
    · rw [f_X10_units_L36_eq, sp_ld_at hp (by omega), hm, if_pos ((sp_i_le (by omega) (by omega)).mpr (Nat.le_refl _))]
    · rw [if_pos (show sp_pl x K 0 = K from rfl)]; rfl
theorem sp_unitsM {x : sp_PrT} {n p K : Nat} {mn cl le ri lt : Nat → Int32} (h : sp_prOK x n) (hp : p < 12) (hm : mn p = Int32.ofNat n) (hs : sp_same x cl le ri lt p n) (hK : K < 4096) (o : Int32) (h1 : sp_hit x n (sp_it x n K 6) → o = 1) (h0 : ¬ sp_hit x n (sp_it x n K 6) → o = 0) : sp_lp (f_X10_units_L25 (some 0) mn (Int32.ofNat p) lt cl) sp_F (Int32.ofNat K, (1 : Int32)) = some o := by
  have stop : ∀ i, i < 7 → (¬ ∃ l, l < n ∧ sp_hitL x (sp_it x n K i) l) → sp_it x n K (i + 1) = sp_it x n K i → o = 0 := by
    intro i hi hno he
    apply h0
    rintro ⟨l, l1, l2, l3⟩
    apply hno
    refine ⟨l, l1, l2, fun j hj => ?_⟩
    have e6 : sp_it x n K 6 = sp_it x n K i := by
      have := sp_it_same he (6 - i)
      rw [show i + (6 - i) = 6 by omega] at this
      exact this
    have := l3 j hj
    rw [e6] at this
    have q := sp_pl_sub (x := x) (K := sp_it x n K i) l 0
    rw [Nat.zero_add] at q
    exact q j this
  refine sp_lp_up (f_X10_units_L25 (some 0) mn (Int32.ofNat p) lt cl) (some o) 7 (fun i s => s = (Int32.ofNat (sp_it x n K i), (if i = 0 then 1 else if sp_it x n K i = sp_it x n K (i - 1) then 0 else 1)) ∧ ∀ t, t < i → ¬ ∃ l, l < n ∧ sp_hitL x (sp_it x n K t) l) ?_ ?_ sp_F _ (sp_F_lt (by omega)) ⟨rfl, fun t ht => by omega⟩
  · rintro i s hi ⟨rfl, hno⟩
    by_cases hf : i ≠ 0 ∧ sp_it x n K i = sp_it x n K (i - 1)
    · left
      intro rec
      rw [if_neg hf.1, if_pos hf.2, f_X10_units_L25_eq, if_pos rfl, stop (i - 1) (by omega) (hno (i - 1) (by omega)) (by rw [show i - 1 + 1 = i by omega]; exact hf.2)]
    · have hfl : (if i = 0 then (1 : Int32) else if sp_it x n K i = sp_it x n K (i - 1) then 0 else 1) = 1 := by
        by_cases a : i = 0
        · rw [if_pos a]
        · rw [if_neg a, if_neg (fun b => hf ⟨a, b⟩)]
      rw [hfl]
      by_cases hh : ∃ l, l < n ∧ sp_hitL x (sp_it x n K i) l
      · left
        intro rec
        have ho : o = 1 := by
          apply h1
          obtain ⟨l, l1, l2, l3⟩ := hh
          refine ⟨l, l1, l2, fun j hj => ?_⟩
          have q1 := sp_pl_sub (x := x) (K := sp_it x n K i) (n - l) l j (l3 j hj)
          rw [show l + (n - l) = n by omega] at q1
          have q2 := sp_it_sub (x := x) (n := n) (K := K) (i := i + 1) (6 - i) j q1
          rw [show i + 1 + (6 - i) = 7 by omega, sp_it_fix h] at q2
          exact q2
        rw [f_X10_units_L25_eq, if_neg (by decide), sp_bndE, (sp_unitsI h hp hm hs (sp_it_lt h hK i) _).1 hh, ho]
      · right
        refine ⟨(Int32.ofNat (sp_it x n K (i + 1)), (if sp_it x n K (i + 1) = sp_it x n K i then 0 else 1)), ⟨?_, fun t ht => ?_⟩, fun rec => ?_⟩
        · rw [if_neg (show ¬ i + 1 = 0 by omega), Nat.add_sub_cancel]
        · by_cases e : t = i
          · rw [e]; exact hh
          · exact hno t (by omega)
        · rw [f_X10_units_L25_eq, if_neg (by decide), sp_bndE, (sp_unitsI h hp hm hs (sp_it_lt h hK i) _).2 hh]
          rfl
  · rintro s ⟨rfl, hno⟩ rec
    rw [if_neg (by decide), if_pos (sp_it_fix h), f_X10_units_L25_eq, if_pos rfl, stop 6 (by omega) (hno 6 (by omega)) (sp_it_fix h)]
theorem op_units {x : sp_XS} {y : sp_MS} (h : sp_Rel x y) (p1 p2 : Int32) : ∃ (r : Int32) (x' : sp_XS) (y' : sp_MS), sx_units p1 p2 x = some (r, x') ∧ sm_units p1 p2 y = some (r, y') ∧ sp_Rel x' y' := by
  rcases sp_proof h p1 with ⟨e1, e2⟩ | ⟨p, n, hp, rfl, ei, g1, g2, g3, e1, e2, -⟩
  · refine ⟨-1, x, y, ?_, ?_, h⟩
    · unfold sx_units sx_units0 f_X9_units; rw [e1]; rfl
    · unfold sm_units f_X10_units; rw [e2]; rfl
  · rcases sp_isClause01 p2 with hc | hc
    · refine ⟨-2, x, y, ?_, ?_, h⟩
      · unfold sx_units sx_units0 f_X9_units; rw [e1, sp_isClause, hc]; rfl
      · unfold sm_units f_X10_units; rw [e2, hc]; rfl
    · obtain ⟨K, hK, rfl⟩ := sp_isClause1 hc
      have key : ∃ o : Int32, (o = 0 ∨ o = 1) ∧ f_X7_isByUnits (Int32.ofNat K) (x.1 p).1 (x.1 p).2.2.2.2.1 (x.1 p).2.2.2.2.2.2 = some o ∧ sp_lp (f_X10_units_L25 (some 0) y.2.2.2.2.2.2.1 (Int32.ofNat p) y.2.2.2.2.2.2.2.2.2.2.1 y.2.2.2.2.2.2.2.1) sp_F (Int32.ofNat K, (1 : Int32)) = some o := by
        by_cases hh : sp_hit (x.1 p) n (sp_it (x.1 p) n K 6)
        · refine ⟨1, Or.inr rfl, ?_, sp_unitsM g1 hp g2 g3 hK 1 (fun _ => rfl) (fun q => absurd hh q)⟩
          unfold f_X7_isByUnits
          rw [sp_bndE, sp_unitsX g1 hK, sp_bndE, (sp_hitX g1).1 hh]
        · refine ⟨0, Or.inl rfl, ?_, sp_unitsM g1 hp g2 g3 hK 0 (fun q => absurd q hh) (fun _ => rfl)⟩
          unfold f_X7_isByUnits
          rw [sp_bndE, sp_unitsX g1 hK, sp_bndE, (sp_hitX g1).2 hh]
      obtain ⟨o, ho, k1, k2⟩ := key
      refine ⟨o, x, y, ?_, ?_, h⟩
      · unfold sx_units sx_units0 f_X9_units; rw [ei, e1, sp_isClause, hc, k1]
        simp only [Option.bind_some, sp_ck_at hp (by omega : 12 < 1000000)]
        rcases ho with rfl | rfl <;> rfl
      · unfold sm_units f_X10_units; rw [e2, hc, Option.bind_some, if_neg (by decide), Option.bind_some, if_neg (by decide), sp_bndE, k2]; rfl
