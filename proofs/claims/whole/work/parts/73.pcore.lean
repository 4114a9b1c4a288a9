/-! cores -/
theorem sb_or_add {s g : Nat} (h : s < 2 ^ g) : s ||| 2 ^ g = s + 2 ^ g := by
  have := Nat.two_pow_add_eq_or_of_lt h 1
  rw [Nat.mul_one] at this
  rw [Nat.or_comm, ← this, Nat.add_comm]
theorem sp_updL_at (f : Nat → Int64) (i : Nat) (v : Int64) : vp_updL f i v i = v := by unfold vp_updL; simp
theorem sp_updL_ne {f : Nat → Int64} {i j : Nat} {v : Int64} (h : j ≠ i) : vp_updL f i v j = f j := by unfold vp_updL; rw [if_neg h]
theorem sp_al_ext {T : Nat → Int64} {b c : Nat → Bool} : ∀ g, (∀ j, j < g → b j = c j) → sp_al T b g = sp_al T c g
  | 0, _ => rfl
  | g + 1, h => by rw [sp_al, sp_al, sp_al_ext g (fun j hj => h j (by omega)), h g (by omega)]
theorem sp_al_more {T : Nat → Int64} {b : Nat → Bool} {g : Nat} : ∀ d, (∀ j, g ≤ j → b j = false) → sp_al T b (g + d) = sp_al T b g
  | 0, _ => rfl
  | d + 1, h => by
    rw [← Nat.add_assoc, sp_al, h (g + d) (by omega), if_neg (by decide), sp_al_more d h]
def sp_fi (c : Nat → Int64) (t : Int64) (g : Nat) : Nat → (Nat → Int64)
  | 0 => c
  | s + 1 => vp_updL (sp_fi c t g s) (s ||| 2 ^ g) (sp_fi c t g s s &&& t)
theorem sp_fi_lo {c : Nat → Int64} {t : Int64} {g u : Nat} (hu : u < 2 ^ g) : ∀ j, j ≤ 2 ^ g → sp_fi c t g j u = c u
  | 0, _ => rfl
  | j + 1, hj => by
    rw [sp_fi, sb_or_add (show j < 2 ^ g by omega), sp_updL_ne (by omega)]
    exact sp_fi_lo hu j (by omega)
theorem sp_fi_hi {c : Nat → Int64} {t : Int64} {g u : Nat} : ∀ j, j ≤ 2 ^ g → u < j → sp_fi c t g j (u + 2 ^ g) = c u &&& t
  | 0, _, h => by omega
  | j + 1, hj, h => by
    rw [sp_fi, sb_or_add (show j < 2 ^ g by omega)]
    by_cases e : u = j
    · subst e
      rw [sp_updL_at, sp_fi_lo (by omega) u (by omega)]
    · rw [sp_updL_ne (by omega)]
      exact sp_fi_hi j (by omega) (by omega)
def sp_fo (c : Nat → Int64) (T : Nat → Int64) : Nat → (Nat → Int64)
  | 0 => c
  | g + 1 => sp_fi (sp_fo c T g) (T g) g (2 ^ g)
theorem sp_fo_at {c T : Nat → Int64} (h0 : c 0 = -1) : ∀ g u, u < 2 ^ g → sp_fo c T g u = sp_al T (fun j => u.testBit j) g
  | 0, u, hu => by
    rw [show u = 0 by omega]
    exact h0
  | g + 1, u, hu => by
    have hp : 2 ^ (g + 1) = 2 ^ g + 2 ^ g := by rw [Nat.pow_succ]; omega
    rw [sp_fo, sp_al]
    by_cases q : u < 2 ^ g
    · rw [sp_fi_lo q _ (Nat.le_refl _), sp_fo_at h0 g u q, Nat.testBit_lt_two_pow q, if_neg (by decide)]
    · obtain ⟨v, rfl⟩ : ∃ v, u = v + 2 ^ g := ⟨u - 2 ^ g, by omega⟩
      have hv : v < 2 ^ g := by omega
      rw [sp_fi_hi _ (Nat.le_refl _) hv, sp_fo_at h0 g v hv, ← sb_or_add hv]
      have e1 : (v ||| 2 ^ g).testBit g = true := by rw [Nat.testBit_or, Nat.testBit_two_pow_self, Bool.or_true]
      rw [e1, if_pos rfl]
      congr 1
      apply sp_al_ext
      intro j hj
      rw [Nat.testBit_or, Nat.testBit_two_pow, decide_eq_false (by omega), Bool.or_false]
theorem sp_fillI {c : Nat → Int64} {t : Int64} {g : Nat} (hg : g < 10) (k : (Nat → Int64) → Option (Nat → Int64)) : sp_lp (f_X8_fillTogether_L43 (Int32.ofNat g) k t) sp_F ((0 : Int32), c) = k (sp_fi c t g (2 ^ g)) := by
  have h2 : 2 ^ g ≤ 2 ^ 9 := Nat.pow_le_pow_right (by omega) (by omega)
  refine sp_lp_fn (2 ^ g) (fun s => (Int32.ofNat s, sp_fi c t g s)) (fun s hs rec => ?_) (fun rec => ?_) (sp_F_lt (by omega)) rfl
  · have ho := sb_or_add hs
    rw [f_X8_fillTogether_L43_eq, sb_one32 (by omega), if_neg (fun q => by have := (sp_i_le (by omega) (by omega)).mp q; omega), sp_ld_at (show s < 1024 by omega) (by omega), sb_or32, sp_stL_at (show s ||| 2 ^ g < 1024 by omega) (by omega), sp_bndE, sp_i_succ]
    rfl
  · rw [f_X8_fillTogether_L43_eq, sb_one32 (by omega), if_pos ((sp_i_le (by omega) (by omega)).mpr (Nat.le_refl _))]
theorem sp_fillO {x : sp_PrT} {n : Nat} (h : sp_prOK x n) (h10 : sp_gn x.2.2.2.1 n ≤ 10) (c : Nat → Int64) (k : (Nat → Int64) → Option (Nat → Int64)) : sp_lp (f_X8_fillTogether_L11 (Int32.ofNat (sp_gn x.2.2.2.1 n)) k x.2.2.2.2.1 x.1) sp_F ((0 : Int32), c) = k (sp_fo c (sp_gt x) (sp_gn x.2.2.2.1 n)) := by
  have hn := h.2.1
  refine sp_lp_fn (sp_gn x.2.2.2.1 n) (fun g => (Int32.ofNat g, sp_fo c (sp_gt x) g)) (fun g hg rec => ?_) (fun rec => ?_) (sp_F_lt (by omega)) rfl
  · obtain ⟨l, l1, l2, l3, l4⟩ := sp_gr h hg
    have e : sp_gt x g = sp_T (x.1 l) := by rw [← l3]; exact sp_gt_at h l1 l2
    rw [f_X8_fillTogether_L11_eq, if_neg (fun q => by have := (sp_i_le (by omega) (by omega)).mp q; omega), if_neg (fun q => by have := (sp_i_le (i := 10) (n := g) (by omega) (by omega)).mp q; omega), sp_ld_at (show g < 48 by omega) (by omega), l4, sp_ld_at (show l < 48 by omega) (by omega), sp_tabX (sp_clOK h l1), Option.bind_some, sp_bndE, sp_fillI (by omega), sp_bndE, sp_i_succ, sp_fo, e]
  · rw [f_X8_fillTogether_L11_eq, if_pos ((sp_i_le (by omega) (by omega)).mpr (Nat.le_refl _))]
theorem sp_fill {x : sp_PrT} {n : Nat} (h : sp_prOK x n) (h10 : sp_gn x.2.2.2.1 n ≤ 10) (tg : Nat → Int64) : ∃ c, f_X8_fillTogether tg x.1 x.2.2.2.2.1 x.2.2.2.2.2.2 = some c ∧ ∀ s, s < 2 ^ sp_gn x.2.2.2.1 n → c s = sp_al (sp_gt x) (fun j => s.testBit j) (sp_gn x.2.2.2.1 n) := by
  refine ⟨sp_fo (vp_updL tg 0 (-1)) (sp_gt x) (sp_gn x.2.2.2.1 n), ?_, fun s hs => sp_fo_at (sp_updL_at _ _ _) _ s hs⟩
  unfold f_X8_fillTogether
  rw [h.2.2.2.2.1]
  have e0 : (0 : Int32) = Int32.ofNat 0 := rfl
  rw [e0, sp_stL_at (show 0 < 1024 by omega) (by omega), sp_bndE, ← e0, sp_fillO h h10]
/-- bare: a core, none of which can be left out -/
def sp_bare (A : Nat → Int64) (G s : Nat) : Prop := A s = 0 ∧ ∀ g, g < G → s.testBit g = true → ¬ A (s ^^^ (s &&& 2 ^ g)) = 0
theorem sp_isCoreX {A tg : Nat → Int64} {G s : Nat} (hG : G ≤ 10) (hs : s < 2 ^ G) (hX : ∀ s, s < 2 ^ G → tg s = A s) : f_X8_isCore (Int32.ofNat s) tg = some (if A s = 0 then 1 else 0) := by
  have h2 : 2 ^ G ≤ 2 ^ 10 := Nat.pow_le_pow_right (by omega) hG
  unfold f_X8_isCore
  rw [sp_ld_at (show s < 1024 by omega) (by omega), hX s hs]
  by_cases q : A s = 0
  · rw [if_pos q, if_pos ((lg_cmp_eq _ _).mpr q)]
  · rw [if_neg q, if_neg (fun w => q ((lg_cmp_eq _ _).mp w))]
theorem sp_bareX {A tg : Nat → Int64} {G s : Nat} (hG : G ≤ 10) (hs : s < 2 ^ G) (hX : ∀ s, s < 2 ^ G → tg s = A s) : f_X8_isBare (Int32.ofNat s) tg = some (@ite Int32 (sp_bare A G s) (Classical.propDecidable _) 1 0) := by
  have h2 : 2 ^ G ≤ 2 ^ 10 := Nat.pow_le_pow_right (by omega) hG
  have hbit : ∀ g, s.testBit g = true → g < G := by
    intro g hg
    apply Classical.byContradiction
    intro q
    rw [Nat.testBit_lt_two_pow (Nat.lt_of_lt_of_le hs (Nat.pow_le_pow_right (by omega) (by omega)))] at hg
    exact absurd hg (by decide)
  have step : ∀ g, g < 10 → ∀ k rec, ((s.testBit g = true ∧ A (s ^^^ (s &&& 2 ^ g)) = 0) → f_X8_isBare_L12 k (Int32.ofNat s) tg rec (Int32.ofNat g) = some 0) ∧ (¬ (s.testBit g = true ∧ A (s ^^^ (s &&& 2 ^ g)) = 0) → f_X8_isBare_L12 k (Int32.ofNat s) tg rec (Int32.ofNat g) = rec (Int32.ofNat (g + 1))) := by
    intro g hg k rec
    rw [f_X8_isBare_L12_eq, if_neg (fun q => by have := (sp_i_le (i := 10) (n := g) (by omega) (by omega)).mp q; omega), sb_to64 (by omega), sp_isIn (by omega) (by omega), Option.bind_some, sp_bndE, sp_bndE, sp_i_succ, sb_one32 (by omega), sb_nd32, sp_isCoreX hG (sb_nd_lt hs) hX]
    by_cases q1 : s.testBit g = true
    · by_cases q2 : A (s ^^^ (s &&& 2 ^ g)) = 0
      · exact ⟨fun _ => by rw [if_pos q1, if_pos q2]; rfl, fun q => absurd ⟨q1, q2⟩ q⟩
      · exact ⟨fun q => absurd q.2 q2, fun _ => by rw [if_pos q1, if_neg q2]; rfl⟩
    · exact ⟨fun q => absurd q.1 q1, fun _ => by rw [if_neg q1]; rfl⟩
  unfold f_X8_isBare
  rw [sp_isCoreX hG hs hX, Option.bind_some]
  by_cases q : A s = 0
  · rw [if_pos q, if_neg (show ¬ (1 : Int32) = 0 by decide), sp_bndE]
    by_cases hex : ∃ g, g < 10 ∧ (s.testBit g = true ∧ A (s ^^^ (s &&& 2 ^ g)) = 0)
    · have hnb : ¬ sp_bare A G s := by
        rintro ⟨-, w⟩
        obtain ⟨g, -, g1, g2⟩ := hex
        exact w g (hbit g g1) g1 g2
      rw [if_neg hnb]
      obtain ⟨g, g1, g2, g3⟩ := sp_least 10 hex
      exact sp_lp_fn g (fun i => Int32.ofNat i) (fun i hi rec => (step i (by omega) _ rec).2 (g3 i hi)) (fun rec => (step g g1 _ rec).1 g2) (sp_F_lt (by omega)) rfl
    · have hb : sp_bare A G s := ⟨q, fun g hg g1 g2 => hex ⟨g, by omega, g1, g2⟩⟩
      rw [if_pos hb]
      refine sp_lp_fn 10 (fun i => Int32.ofNat i) (fun i hi rec => (step i hi _ rec).2 (fun w => hex ⟨i, hi, w⟩)) (fun rec => ?_) (sp_F_lt (by omega)) rfl
      rw [f_X8_isBare_L12_eq, if_pos (show (10 : Int32) ≤ Int32.ofNat 10 by decide)]
  · rw [if_neg q, if_pos rfl, if_neg (fun w => q w.1)]
theorem sp_bareM {A c3 : Nat → Int64} {G s : Nat} (hG : G ≤ 10) (hs : s < 2 ^ G) (hM : ∀ s, s < 2 ^ G → f_X10_allTrue (Int32.ofNat s) (Int32.ofNat G) c3 = some (A s)) : f_X10_isBare (Int32.ofNat s) (Int32.ofNat G) c3 = some (@ite Int32 (sp_bare A G s) (Classical.propDecidable _) 1 0) := by
  have h2 : 2 ^ G ≤ 2 ^ 10 := Nat.pow_le_pow_right (by omega) hG
  have step : ∀ g, g < G → ∀ k rec, ((s.testBit g = true ∧ A (s ^^^ (s &&& 2 ^ g)) = 0) → f_X10_isBare_L15 (Int32.ofNat G) k (Int32.ofNat s) c3 rec (Int32.ofNat g) = some 0) ∧ (¬ (s.testBit g = true ∧ A (s ^^^ (s &&& 2 ^ g)) = 0) → f_X10_isBare_L15 (Int32.ofNat G) k (Int32.ofNat s) c3 rec (Int32.ofNat g) = rec (Int32.ofNat (g + 1))) := by
    intro g hg k rec
    rw [f_X10_isBare_L15_eq, if_neg (fun q => by have := (sp_i_le (by omega) (by omega)).mp q; omega), sp_bndE, sp_bndE, sp_i_succ, sb_bit32 (by omega) (by omega), sb_one32 (by omega), sb_nd32, hM _ (sb_nd_lt hs), Option.bind_some]
    by_cases q1 : s.testBit g = true
    · by_cases q2 : A (s ^^^ (s &&& 2 ^ g)) = 0
      · exact ⟨fun _ => by rw [if_pos q1, if_pos rfl, if_pos ((lg_cmp_eq _ _).mpr q2)], fun q => absurd ⟨q1, q2⟩ q⟩
      · exact ⟨fun q => absurd q.2 q2, fun _ => by rw [if_pos q1, if_pos rfl, if_neg (fun w => q2 ((lg_cmp_eq _ _).mp w))]⟩
    · exact ⟨fun q => absurd q.1 q1, fun _ => by rw [if_neg q1, if_neg (by decide)]⟩
  unfold f_X10_isBare
  rw [hM s hs, Option.bind_some]
  by_cases q : A s = 0
  · rw [if_pos ((lg_cmp_eq _ _).mpr q), sp_bndE]
    by_cases hex : ∃ g, g < G ∧ (s.testBit g = true ∧ A (s ^^^ (s &&& 2 ^ g)) = 0)
    · have hnb : ¬ sp_bare A G s := by
        rintro ⟨-, w⟩
        obtain ⟨g, g0, g1, g2⟩ := hex
        exact w g g0 g1 g2
      rw [if_neg hnb]
      obtain ⟨g, g1, g2, g3⟩ := sp_least G hex
      exact sp_lp_fn g (fun i => Int32.ofNat i) (fun i hi rec => (step i (by omega) _ rec).2 (g3 i hi)) (fun rec => (step g g1 _ rec).1 g2) (sp_F_lt (by omega)) rfl
    · have hb : sp_bare A G s := ⟨q, fun g hg g1 g2 => hex ⟨g, hg, g1, g2⟩⟩
      rw [if_pos hb]
      refine sp_lp_fn G (fun i => Int32.ofNat i) (fun i hi rec => (step i hi _ rec).2 (fun w => hex ⟨i, hi, w⟩)) (fun rec => ?_) (sp_F_lt (by omega)) rfl
      rw [f_X10_isBare_L15_eq, if_pos ((sp_i_le (by omega) (by omega)).mpr (Nat.le_refl _))]
  · rw [if_neg (fun w => q ((lg_cmp_eq _ _).mp w)), if_neg (fun w => q w.1)]
/-- the least core so far -/
def sp_lb (A : Nat → Int64) : Nat → Int32
  | 0 => -9
  | s + 1 => if A s = 0 ∧ (sp_lb A s = -9 ∨ sp_pc s 24 < sp_pc (sp_lb A s).toNatClampNeg 24) then Int32.ofNat s else sp_lb A s
theorem sp_lb_in (A : Nat → Int64) : ∀ s, sp_lb A s = -9 ∨ ∃ t, t < s ∧ sp_lb A s = Int32.ofNat t
  | 0 => Or.inl rfl
  | s + 1 => by
    rw [sp_lb]
    split
    · exact Or.inr ⟨s, by omega, rfl⟩
    · rcases sp_lb_in A s with e | ⟨t, ht, e⟩
      · exact Or.inl e
      · exact Or.inr ⟨t, by omega, e⟩
theorem sp_leastX {A tg : Nat → Int64} {G : Nat} (hG : G ≤ 10) (hX : ∀ s, s < 2 ^ G → tg s = A s) : f_X8_leastCore ((1 : Int32) <<< (Int32.ofNat G &&& 31)) tg = some (sp_lb A (2 ^ G)) := by
  have h2 : 2 ^ G ≤ 2 ^ 10 := Nat.pow_le_pow_right (by omega) hG
  unfold f_X8_leastCore
  rw [sp_bndE, sb_one32 (by omega)]
  refine sp_lp_fn (2 ^ G) (fun s => (sp_lb A s, Int32.ofNat s)) (fun s hs rec => ?_) (fun rec => ?_) (sp_F_lt (by omega)) rfl
  · rw [f_X8_leastCore_L5_eq, if_neg (fun q => by have := (sp_i_le (by omega) (by omega)).mp q; omega), sp_isCoreX hG hs hX, Option.bind_some, sp_lb]
    simp only [sp_bndE, sp_i_succ]
    by_cases q : A s = 0
    · rw [if_pos q, if_neg (show ¬ (1 : Int32) = 0 by decide)]
      rcases sp_lb_in A s with e | ⟨t, ht, e⟩
      · rw [if_pos e, if_pos ⟨q, Or.inl e⟩]
      · rw [e, if_neg (sp_i_neg (show t < 1000000 by omega)), sp_bitCount (show s < 4096 by omega), sp_bitCount (show t < 4096 by omega), Option.bind_some, Option.bind_some, sp_i_nat (show t < 1000000 by omega)]
        have a1 := sp_pc_le s 24
        have a2 := sp_pc_le t 24
        by_cases w : sp_pc s 24 < sp_pc t 24
        · rw [if_neg (fun z => by have := (sp_i_le (by omega) (by omega)).mp z; omega), if_pos ⟨q, Or.inr w⟩]
        · rw [if_pos ((sp_i_le (by omega) (by omega)).mpr (by omega)), if_neg]
          rintro ⟨-, z | z⟩
          · exact sp_i_neg (show t < 1000000 by omega) z
          · exact w z
    · rw [if_neg q, if_pos rfl, if_neg (fun w => q w.1)]
  · rw [f_X8_leastCore_L5_eq, if_pos ((sp_i_le (by omega) (by omega)).mpr (Nat.le_refl _))]
theorem sp_leastM {A c3 : Nat → Int64} {G : Nat} (hG : G ≤ 10) (hM : ∀ s, s < 2 ^ G → f_X10_allTrue (Int32.ofNat s) (Int32.ofNat G) c3 = some (A s)) : f_X10_leastCore (Int32.ofNat G) c3 = some (sp_lb A (2 ^ G)) := by
  have h2 : 2 ^ G ≤ 2 ^ 10 := Nat.pow_le_pow_right (by omega) hG
  unfold f_X10_leastCore
  rw [sp_bndE]
  refine sp_lp_fn (2 ^ G) (fun s => (sp_lb A s, Int32.ofNat s)) (fun s hs rec => ?_) (fun rec => ?_) (sp_F_lt (by omega)) rfl
  · rw [f_X10_leastCore_L5_eq, sb_one32 (by omega), if_neg (fun q => by have := (sp_i_le (by omega) (by omega)).mp q; omega), hM s hs, sp_lb]
    simp only [sp_bndE, sp_i_succ, Option.bind_some]
    have hz : (lg_cmp (A s) 0 = 0) ↔ A s = 0 := lg_cmp_eq _ _
    rcases sp_lb_in A s with e | ⟨t, ht, e⟩
    · rw [if_pos e]
      by_cases q : A s = 0
      · rw [if_pos (hz.mpr q), if_pos ⟨q, Or.inl e⟩]
      · rw [if_neg (fun w => q (hz.mp w)), if_neg (fun w => q w.1)]
    · rw [e, if_neg (sp_i_neg (show t < 1000000 by omega)), sp_bitsOf (show s < 2 ^ 31 by omega), sp_bitsOf (show t < 2 ^ 31 by omega), Option.bind_some, Option.bind_some, sp_i_nat (show t < 1000000 by omega)]
      have a1 := sp_pc_le s 24
      have a2 := sp_pc_le t 24
      by_cases w : sp_pc s 24 < sp_pc t 24
      · rw [if_neg (fun z => by have := (sp_i_le (by omega) (by omega)).mp z; omega)]
        by_cases q : A s = 0
        · rw [if_pos (hz.mpr q), if_pos ⟨q, Or.inr w⟩]
        · rw [if_neg (fun w => q (hz.mp w)), if_neg (fun w => q w.1)]
      · rw [if_pos ((sp_i_le (by omega) (by omega)).mpr (by omega)), if_neg]
        rintro ⟨-, z | z⟩
        · exact sp_i_neg (show t < 1000000 by omega) z
        · exact w z
  · rw [f_X10_leastCore_L5_eq, sb_one32 (by omega), if_pos ((sp_i_le (by omega) (by omega)).mpr (Nat.le_refl _))]
noncomputable def sp_cb (A : Nat → Int64) (G : Nat) : Nat → Nat
  | 0 => 0
  | s + 1 => sp_cb A G s + @ite Nat (sp_bare A G s) (Classical.propDecidable _) 1 0
theorem sz_manyX {A tg : Nat → Int64} {G : Nat} (hG : G ≤ 10) (hX : ∀ s, s < 2 ^ G → tg s = A s) : f_X8_bareCores ((1 : Int32) <<< (Int32.ofNat G &&& 31)) tg = some (Int32.ofNat (sp_cb A G (2 ^ G))) := by
  have h2 : 2 ^ G ≤ 2 ^ 10 := Nat.pow_le_pow_right (by omega) hG
  unfold f_X8_bareCores
  rw [sp_bndE, sb_one32 (by omega)]
  refine sp_lp_fn (2 ^ G) (fun s => (Int32.ofNat (sp_cb A G s), Int32.ofNat s)) (fun s hs rec => ?_) (fun rec => ?_) (sp_F_lt (by omega)) rfl
  · rw [f_X8_bareCores_L4_eq, if_neg (fun q => by have := (sp_i_le (by omega) (by omega)).mp q; omega), sp_bareX hG hs hX, Option.bind_some, sp_cb]
    simp only [sp_bndE, sp_i_succ]
    by_cases q : sp_bare A G s
    · rw [if_pos q, if_pos q, if_neg (by decide)]
    · rw [if_neg q, if_neg q, if_pos rfl]
      rfl
  · rw [f_X8_bareCores_L4_eq, if_pos ((sp_i_le (by omega) (by omega)).mpr (Nat.le_refl _))]
theorem sz_manyM {A c3 : Nat → Int64} {G : Nat} (hG : G ≤ 10) (hM : ∀ s, s < 2 ^ G → f_X10_allTrue (Int32.ofNat s) (Int32.ofNat G) c3 = some (A s)) : f_X10_manyBare (Int32.ofNat G) c3 = some (Int32.ofNat (sp_cb A G (2 ^ G))) := by
  have h2 : 2 ^ G ≤ 2 ^ 10 := Nat.pow_le_pow_right (by omega) hG
  unfold f_X10_manyBare
  rw [sp_bndE]
  refine sp_lp_fn (2 ^ G) (fun s => (Int32.ofNat (sp_cb A G s), Int32.ofNat s)) (fun s hs rec => ?_) (fun rec => ?_) (sp_F_lt (by omega)) rfl
  · rw [f_X10_manyBare_L4_eq, sb_one32 (by omega), if_neg (fun q => by have := (sp_i_le (by omega) (by omega)).mp q; omega), sp_bareM hG hs hM, Option.bind_some, sp_cb]
    simp only [sp_bndE, sp_i_succ]
    by_cases q : sp_bare A G s
    · rw [if_pos q, if_pos q, if_neg (by decide)]
    · rw [if_neg q, if_neg q, if_pos rfl, Int32.add_zero]
      rfl
  · rw [f_X10_manyBare_L4_eq, sb_one32 (by omega), if_pos ((sp_i_le (by omega) (by omega)).mpr (Nat.le_refl _))]
theorem op_core {x : sp_XS} {y : sp_MS} (h : sp_Rel x y) (p1 p2 p3 : Int32) : ∃ (r : Int32) (x' : sp_XS) (y' : sp_MS), sx_core p1 p2 p3 x = some (r, x') ∧ sm_core p1 p2 p3 y = some (r, y') ∧ sp_Rel x' y' := by
  rcases sp_proof h p1 with ⟨e1, e2⟩ | ⟨p, n, hp, rfl, ei, g1, g2, g3, e1, e2, -⟩
  · refine ⟨-1, x, y, ?_, ?_, h⟩
    · unfold sx_core sx_core0 f_X9_core; rw [e1]; rfl
    · unfold sm_core f_X10_core; rw [e2]; rfl
  · have hn := g1.2.1
    have hgl := sp_gn_le (x.1 p).2.2.2.1 n
    have hle : (Int32.ofNat (sp_gn (x.1 p).2.2.2.1 n) ≤ (10 : Int32)) ↔ sp_gn (x.1 p).2.2.2.1 n ≤ 10 := sp_i_le (n := 10) (by omega) (by omega)
    by_cases h10 : sp_gn (x.1 p).2.2.2.1 n ≤ 10
    · by_cases a0 : p2 < 0
      · refine ⟨-2, x, y, ?_, ?_, h⟩
        · unfold sx_core sx_core0 f_X9_core; rw [ei, e1, g1.2.2.2.2.1]
          simp only [Option.bind_some, sp_one_ne, if_false, sp_ck_at hp (by omega : 12 < 1000000), if_pos (hle.mpr h10), if_pos a0]
        · unfold sm_core f_X10_core f_X10_within; rw [e2, sp_groundsOf g1 hp g2 g3]
          simp only [Option.bind_some, sp_one_ne, if_false, if_pos (hle.mpr h10), if_pos a0]
          rfl
      · by_cases a3 : (3 : Int32) < p2
        · refine ⟨-2, x, y, ?_, ?_, h⟩
          · unfold sx_core sx_core0 f_X9_core; rw [ei, e1, g1.2.2.2.2.1]
            simp only [Option.bind_some, sp_one_ne, if_false, sp_ck_at hp (by omega : 12 < 1000000), if_pos (hle.mpr h10), if_neg a0, if_pos a3]
          · unfold sm_core f_X10_core f_X10_within; rw [e2, sp_groundsOf g1 hp g2 g3]
            simp only [Option.bind_some, sp_one_ne, if_false, if_pos (hle.mpr h10), if_neg a0, if_pos a3]
            rfl
        · have hw : f_X10_within p2 0 3 = some 1 := by unfold f_X10_within; rw [if_neg a0, if_neg a3]
          obtain ⟨c, c1, c2⟩ := sp_fill g1 h10 x.2.2.2.2.2.2.2.2.1.1
          have hM : ∀ s, s < 2 ^ sp_gn (x.1 p).2.2.2.1 n → f_X10_allTrue (Int32.ofNat s) (Int32.ofNat (sp_gn (x.1 p).2.2.2.1 n)) (sp_l3 (x.1 p) y.2.2.2.2.2.2.2.2.2.2.2.2.2.2.2.2.2.2.2.2.2.2.2.2.2.2.2.1 n) = some (sp_al (sp_gt (x.1 p)) (fun j => s.testBit j) (sp_gn (x.1 p).2.2.2.1 n)) := by
            intro s hs
            have hs2 : s < 2 ^ 10 := Nat.lt_of_lt_of_le hs (Nat.pow_le_pow_right (by omega) h10)
            exact sp_allTrue (by omega) (Int32.ofNat s) (fun g => s.testBit g) (fun g hg => sp_l3_g g1 hg) (fun g hg => sb_bit32 (by omega) (by omega))
          generalize hA : (fun s : Nat => sp_al (sp_gt (x.1 p)) (fun j => s.testBit j) (sp_gn (x.1 p).2.2.2.1 n)) = A
          have hA' : ∀ s : Nat, sp_al (sp_gt (x.1 p)) (fun j => s.testBit j) (sp_gn (x.1 p).2.2.2.1 n) = A s := fun s => by rw [← hA]
          simp only [hA'] at hM c2
          have hlay := sp_layGrounds g1 hp g2 g3 y.2.2.2.2.2.2.2.2.2.2.2.2.2.2.2.2.2.2.2.2.2.2.2.2.2.2.2.1 y.2.2.2.2.2.2.2.2.2.2.2.2.2.2.2.2.2.2.2.2.2.2.2.2.2.2.2.2.1
          obtain ⟨kk, hkk, rfl⟩ := sp_i_le_ex (n := 3) (by omega) a0 (Int32.not_lt.mp a3)
          rcases (show kk = 0 ∨ kk = 1 ∨ kk = 2 ∨ kk = 3 by omega) with rfl | rfl | rfl | rfl
          · apply sp_fin (r := sp_lb A (2 ^ sp_gn (x.1 p).2.2.2.1 n))
            · unfold sx_core sx_core0 f_X9_core; rw [ei, e1, c1, g1.2.2.2.2.1]
              simp only [Option.bind_some, sp_one_ne, if_false, sp_ck_at hp (by omega : 12 < 1000000), if_pos (hle.mpr h10), if_neg a0, if_neg a3, sp_bndE, if_pos (show Int32.ofNat 0 ≤ 1 by decide), if_pos (show Int32.ofNat 0 = 0 from rfl), sp_leastX h10 c2]
              rfl
            · unfold sm_core f_X10_core; rw [e2, hw, sp_groundsOf g1 hp g2 g3]
              simp only [Option.bind_some, sp_one_ne, if_false, if_pos (hle.mpr h10), hlay, sp_bndE, if_pos (show Int32.ofNat 0 ≤ 1 by decide), if_pos (show Int32.ofNat 0 = 0 from rfl), sp_leastM h10 hM]
              rfl
            · exact h
          · apply sp_fin (r := Int32.ofNat (sp_cb A (sp_gn (x.1 p).2.2.2.1 n) (2 ^ sp_gn (x.1 p).2.2.2.1 n)))
            · unfold sx_core sx_core0 f_X9_core; rw [ei, e1, c1, g1.2.2.2.2.1]
              simp only [Option.bind_some, sp_one_ne, if_false, sp_ck_at hp (by omega : 12 < 1000000), if_pos (hle.mpr h10), if_neg a0, if_neg a3, sp_bndE, if_pos (show Int32.ofNat 1 ≤ 1 by decide), if_neg (show ¬ Int32.ofNat 1 = 0 by decide), if_pos (show Int32.ofNat 1 = 1 from rfl), sz_manyX h10 c2]
              rfl
            · unfold sm_core f_X10_core; rw [e2, hw, sp_groundsOf g1 hp g2 g3]
              simp only [Option.bind_some, sp_one_ne, if_false, if_pos (hle.mpr h10), hlay, sp_bndE, if_pos (show Int32.ofNat 1 ≤ 1 by decide), if_neg (show ¬ Int32.ofNat 1 = 0 by decide), if_pos (show Int32.ofNat 1 = 1 from rfl), sz_manyM h10 hM]
              rfl
            · exact h
          · rcases sp_gset h10 p3 with ⟨b1, b2⟩ | ⟨s, s1, s2, rfl, b1, b2⟩
            · refine ⟨-2, x, y, ?_, ?_, h⟩
              · unfold sx_core sx_core0 f_X9_core; rw [ei, e1, c1, g1.2.2.2.2.1]
                simp only [Option.bind_some, sp_one_ne, if_false, sp_ck_at hp (by omega : 12 < 1000000), if_pos (hle.mpr h10), if_neg a0, if_neg a3, sp_bndE, if_neg (show ¬ Int32.ofNat 2 ≤ 1 by decide), b1]
                rfl
              · unfold sm_core f_X10_core; rw [e2, hw, sp_groundsOf g1 hp g2 g3]
                simp only [Option.bind_some, sp_one_ne, if_false, if_pos (hle.mpr h10), hlay, sp_bndE, if_neg (show ¬ Int32.ofNat 2 ≤ 1 by decide), b2]
                rfl
            · apply sp_fin (r := if A s = 0 then 1 else 0)
              · unfold sx_core sx_core0 f_X9_core; rw [ei, e1, c1, g1.2.2.2.2.1]
                simp only [Option.bind_some, sp_one_ne, if_false, sp_ck_at hp (by omega : 12 < 1000000), if_pos (hle.mpr h10), if_neg a0, if_neg a3, sp_bndE, if_neg (show ¬ Int32.ofNat 2 ≤ 1 by decide), b1, if_neg (show ¬ Int32.ofNat 2 = 0 by decide), if_neg (show ¬ Int32.ofNat 2 = 1 by decide), if_pos (show Int32.ofNat 2 = 2 from rfl), sp_isCoreX h10 s1 c2]
                by_cases q : A s = 0
                · rw [if_pos q]; rfl
                · rw [if_neg q]; rfl
              · unfold sm_core f_X10_core; rw [e2, hw, sp_groundsOf g1 hp g2 g3]
                simp only [Option.bind_some, sp_one_ne, if_false, if_pos (hle.mpr h10), hlay, sp_bndE, if_neg (show ¬ Int32.ofNat 2 ≤ 1 by decide), b2, if_neg (show ¬ Int32.ofNat 2 = 0 by decide), if_neg (show ¬ Int32.ofNat 2 = 1 by decide), if_pos (show Int32.ofNat 2 = 2 from rfl), hM s s1, lg_cmp_eq]
                by_cases q : A s = 0
                · rw [if_pos q, if_pos q]; rfl
                · rw [if_neg q, if_neg q]; rfl
              · exact h
          · rcases sp_gset h10 p3 with ⟨b1, b2⟩ | ⟨s, s1, s2, rfl, b1, b2⟩
            · refine ⟨-2, x, y, ?_, ?_, h⟩
              · unfold sx_core sx_core0 f_X9_core; rw [ei, e1, c1, g1.2.2.2.2.1]
                simp only [Option.bind_some, sp_one_ne, if_false, sp_ck_at hp (by omega : 12 < 1000000), if_pos (hle.mpr h10), if_neg a0, if_neg a3, sp_bndE, if_neg (show ¬ Int32.ofNat 3 ≤ 1 by decide), b1]
                rfl
              · unfold sm_core f_X10_core; rw [e2, hw, sp_groundsOf g1 hp g2 g3]
                simp only [Option.bind_some, sp_one_ne, if_false, if_pos (hle.mpr h10), hlay, sp_bndE, if_neg (show ¬ Int32.ofNat 3 ≤ 1 by decide), b2]
                rfl
            · apply sp_fin (r := @ite Int32 (sp_bare A (sp_gn (x.1 p).2.2.2.1 n) s) (Classical.propDecidable _) 1 0)
              · unfold sx_core sx_core0 f_X9_core; rw [ei, e1, c1, g1.2.2.2.2.1]
                simp only [Option.bind_some, sp_one_ne, if_false, sp_ck_at hp (by omega : 12 < 1000000), if_pos (hle.mpr h10), if_neg a0, if_neg a3, sp_bndE, if_neg (show ¬ Int32.ofNat 3 ≤ 1 by decide), b1, if_neg (show ¬ Int32.ofNat 3 = 0 by decide), if_neg (show ¬ Int32.ofNat 3 = 1 by decide), if_neg (show ¬ Int32.ofNat 3 = 2 by decide), sp_bareX h10 s1 c2]
                by_cases q : sp_bare A (sp_gn (x.1 p).2.2.2.1 n) s
                · rw [if_pos q]; rfl
                · rw [if_neg q]; rfl
              · unfold sm_core f_X10_core; rw [e2, hw, sp_groundsOf g1 hp g2 g3]
                simp only [Option.bind_some, sp_one_ne, if_false, if_pos (hle.mpr h10), hlay, sp_bndE, if_neg (show ¬ Int32.ofNat 3 ≤ 1 by decide), b2, if_neg (show ¬ Int32.ofNat 3 = 0 by decide), if_neg (show ¬ Int32.ofNat 3 = 1 by decide), if_neg (show ¬ Int32.ofNat 3 = 2 by decide), sp_bareM h10 s1 hM]
                by_cases q : sp_bare A (sp_gn (x.1 p).2.2.2.1 n) s
                · rw [if_pos q]; rfl
                · rw [if_neg q]; rfl
              · exact h
    · refine ⟨-3, x, y, ?_, ?_, h⟩
      · unfold sx_core sx_core0 f_X9_core; rw [ei, e1, g1.2.2.2.2.1]
        simp only [Option.bind_some, sp_one_ne, if_false, sp_ck_at hp (by omega : 12 < 1000000), if_neg (fun q => h10 (hle.mp q))]
      · unfold sm_core f_X10_core; rw [e2, sp_groundsOf g1 hp g2 g3]
        simp only [Option.bind_some, sp_one_ne, if_false, if_neg (fun q => h10 (hle.mp q))]
