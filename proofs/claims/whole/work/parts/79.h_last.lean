/-! units cut last -/
theorem sz_lp2b {σ τ β γ : Type} {F : (σ → Option β) → σ → Option β} {G : (τ → Option γ) → τ → Option γ} (Q : Option β → Option γ → Prop) (n : Nat) (P : Nat → σ → τ → Prop) (hstep : ∀ i s t, i < n → P i s t → (∃ s' o u, Q o u ∧ (∀ rec, F rec s = rec s') ∧ (∀ rec, F rec s' = o) ∧ ∀ rec, G rec t = u) ∨ (∃ s' t', P (i + 1) s' t' ∧ (∀ rec, F rec s = rec s') ∧ ∀ rec, G rec t = rec t')) (hend : ∀ s t, P n s t → ∃ o u, Q o u ∧ (∀ rec, F rec s = o) ∧ ∀ rec, G rec t = u) : ∀ (f g : Nat) (s : σ) (t : τ), n < f → n < g → P 0 s t → Q (sp_lp F f s) (sp_lp G g t) := by
  have key : ∀ (k i f g : Nat) (s : σ) (t : τ), i + k = n → k < f → k < g → P i s t → Q (sp_lp F f s) (sp_lp G g t) := by
    intro k
    induction k with
    | zero =>
      intro i f g s t hi hf hg hP
      obtain rfl : i = n := by omega
      cases f with
      | zero => omega
      | succ f =>
        cases g with
        | zero => omega
        | succ g =>
          obtain ⟨o, u, h1, h2, h3⟩ := hend s t hP
          show Q (F (sp_lp F f) s) (G (sp_lp G g) t)
          rw [h2, h3]; exact h1
    | succ k ih =>
      intro i f g s t hi hf hg hP
      cases f with
      | zero => omega
      | succ f =>
        cases g with
        | zero => omega
        | succ g =>
          show Q (F (sp_lp F f) s) (G (sp_lp G g) t)
          rcases hstep i s t (by omega) hP with ⟨s', o, u, h1, h2, h3, h4⟩ | ⟨s', t', h1, h2, h3⟩
          · rw [h2, h4]
            cases f with
            | zero => omega
            | succ f =>
              show Q (F (sp_lp F f) s') u
              rw [h3]; exact h1
          · rw [h2, h3]
            exact ih (i + 1) f g s' t' (by omega) (by omega) (by omega) h1
  intro f g s t hf hg hP
  exact key n 0 f g s t (by omega) hf hg hP
theorem sz_sgn : ∀ k, k < 6 → f_X0_others (Int32.ofNat (2 ^ k)) = some (Int32.ofNat (2 ^ (k + 6))) ∧ f_X0_others (Int32.ofNat (2 ^ (k + 6))) = some (Int32.ofNat (2 ^ k)) ∧ f_X0_lettersOf (Int32.ofNat (2 ^ k)) = some (Int32.ofNat (2 ^ k)) ∧ f_X0_lettersOf (Int32.ofNat (2 ^ (k + 6))) = some (Int32.ofNat (2 ^ k)) ∧ f_J6_numberOfTrailingZeros_0f7a4 (Int32.ofNat (2 ^ k)) = some (Int32.ofNat k) ∧ ¬ (64 : Int32) ≤ Int32.ofNat (2 ^ k) ∧ (64 : Int32) ≤ Int32.ofNat (2 ^ (k + 6)) ∧ Int32.ofNat (2 ^ k) <<< ((6 : Int32) &&& 31) = Int32.ofNat (2 ^ (k + 6)) ∧ Int32.ofNat (2 ^ (k + 6)) >>> ((6 : Int32) &&& 31) = Int32.ofNat (2 ^ k) ∧ ¬ Int32.ofNat (2 ^ (k + 6)) = Int32.ofNat (2 ^ k) := by decide +kernel
theorem sz_and_bit {c j : Nat} (hj : j < 12) : (Int32.ofNat c &&& Int32.ofNat (2 ^ j) = 0) ↔ ¬ c.testBit j = true := by
  have h12 : 2 ^ j < 2 ^ 12 := Nat.pow_lt_pow_right (by omega) hj
  have h2 : c &&& 2 ^ j < 1000000 := Nat.lt_of_le_of_lt Nat.and_le_right (Nat.lt_trans h12 (by decide))
  have h0 : (Int32.ofNat (c &&& 2 ^ j) = 0) ↔ c &&& 2 ^ j = 0 := sp_i_inj (j := 0) h2 (by omega)
  rw [sb_and32, h0, sb_and0 h12]
  constructor
  · intro h q
    exact h j hj ⟨q, Nat.testBit_two_pow_self⟩
  · intro h k hk q
    rw [Nat.testBit_two_pow, decide_eq_true_iff] at q
    exact h (q.2 ▸ q.1)
theorem sz_letter {b k : Nat} (hb : b = k ∨ b = k + 6) (hk : k < 6) (kk : Int32 → Option (Int32 × Int32 × (Nat → Int32) × (Nat → Int32) × (Nat → Int32) × (Nat → Int32))) : sp_lp (f_X10_cutUnits_L125 (Int32.ofNat (2 ^ b)) kk) sp_F (0 : Int32) = kk (Int32.ofNat k) := by
  have h31 : 2 ^ b < 2 ^ 31 := Nat.pow_lt_pow_right (by omega) (by omega)
  have h6 : ∀ i, (6 : Int32) + Int32.ofNat i = Int32.ofNat (6 + i) := fun i => sp_i_add 6 i
  refine sp_lp_fn k (fun i => Int32.ofNat i) (fun i hi rec => ?_) (fun rec => ?_) (sp_F_lt (by omega)) rfl
  · rw [f_X10_cutUnits_L125_eq, h6, sb_bit32 h31 (by omega), sb_bit32 h31 (by omega), Nat.testBit_two_pow, Nat.testBit_two_pow, decide_eq_false (show ¬ b = i by omega), decide_eq_false (show ¬ b = 6 + i by omega)]
    simp only [Bool.false_eq_true, if_false, if_true, sp_bndE, sp_i_succ]
  · rw [f_X10_cutUnits_L125_eq, h6, sb_bit32 h31 (by omega), sb_bit32 h31 (by omega), Nat.testBit_two_pow, Nat.testBit_two_pow]
    rcases hb with e | e
    · rw [decide_eq_true e]
      simp only [if_true, sp_one_ne, if_false]
    · rw [decide_eq_false (show ¬ b = k by omega), decide_eq_true (show b = 6 + k by omega)]
      simp only [Bool.false_eq_true, if_false, if_true, sp_one_ne]
theorem sz_cutU {x : sp_PrT} {nc nl nr nt : Nat → Int32} {m i j k : Nat} (hm : m < 48) (hD : sz_D x nc nl nr nt m) (hi : i < m) (hj : j < m) (hk : k < 6) (q1 : (sp_cc x i).testBit k = true) (q2 : (sp_cc x j).testBit (k + 6) = true) : (∃ c : Int32, ¬ c = -9 ∧ f_X10_cutOf (nc i) (nc j) (Int32.ofNat k) = some c ∧ sz_ok x m c (Int32.ofNat i) (Int32.ofNat j) (Int32.ofNat k) ∧ f_X5_cutAnew (Int32.ofNat i) (Int32.ofNat j) (Int32.ofNat k) 4 x.1 x.2.1 x.2.2.1 x.2.2.2.1 x.2.2.2.2.1 x.2.2.2.2.2.1 x.2.2.2.2.2.2 = some (Int32.ofNat m, (sz_new x m c (Int32.ofNat i) (Int32.ofNat j) (Int32.ofNat k)).1, (sz_new x m c (Int32.ofNat i) (Int32.ofNat j) (Int32.ofNat k)).2.1, (sz_new x m c (Int32.ofNat i) (Int32.ofNat j) (Int32.ofNat k)).2.2.1, (sz_new x m c (Int32.ofNat i) (Int32.ofNat j) (Int32.ofNat k)).2.2.2.1, (sz_new x m c (Int32.ofNat i) (Int32.ofNat j) (Int32.ofNat k)).2.2.2.2.1, (sz_new x m c (Int32.ofNat i) (Int32.ofNat j) (Int32.ofNat k)).2.2.2.2.2.1, (sz_new x m c (Int32.ofNat i) (Int32.ofNat j) (Int32.ofNat k)).2.2.2.2.2.2)) ∨ (f_X10_cutOf (nc i) (nc j) (Int32.ofNat k) = some (-9) ∧ f_X5_cutAnew (Int32.ofNat i) (Int32.ofNat j) (Int32.ofNat k) 4 x.1 x.2.1 x.2.2.1 x.2.2.2.1 x.2.2.2.2.1 x.2.2.2.2.2.1 x.2.2.2.2.2.2 = some (-3, x.1, x.2.1, x.2.2.1, x.2.2.2.1, x.2.2.2.2.1, x.2.2.2.2.2.1, x.2.2.2.2.2.2)) := by
  obtain ⟨ei, hci⟩ := sz_cc hD.1 hi
  obtain ⟨ej, hcj⟩ := sz_cc hD.1 hj
  have ni : nc i = Int32.ofNat (sp_cc x i) := by rw [(hD.2 i hi).1, ei]
  have nj : nc j = Int32.ofNat (sp_cc x j) := by rw [(hD.2 j hj).1, ej]
  rw [ni, nj]
  unfold f_X5_cutAnew
  rw [sp_plainN (show k < 25 by omega), Option.bind_some, sp_ld_at (show i < 48 by omega) (by omega), ei, sp_isPart_bit (show k < 31 by omega), Option.bind_some, if_pos q1, if_neg (show ¬ (1 : Int32) = 0 by decide), sp_negN (show k < 25 by omega), Option.bind_some, sp_ld_at (show j < 48 by omega) (by omega), ej, sp_isPart_bit (show k + 6 < 31 by omega), Option.bind_some, if_pos q2, if_neg (show ¬ (1 : Int32) = 0 by decide), sp_ld_at (show i < 48 by omega) (by omega), ei, sp_ld_at (show j < 48 by omega) (by omega), ej, sp_cutX hk, sp_cutM hk, if_pos ⟨q1, q2⟩]
  have hlt := sz_cn_lt (k := k) hci hcj
  rcases sp_isClause01 (Int32.ofNat (sz_cn (sp_cc x i) (sp_cc x j) k)) with e | e
  · right
    rw [e, Option.bind_some, if_pos rfl, Option.bind_some, if_pos rfl]
    exact ⟨rfl, rfl⟩
  · left
    have hne : ¬ Int32.ofNat (sz_cn (sp_cc x i) (sp_cc x j) k) = -9 := sp_i_neg (by omega)
    have hok : sz_ok x m (Int32.ofNat (sz_cn (sp_cc x i) (sp_cc x j) k)) (Int32.ofNat i) (Int32.ofNat j) (Int32.ofNat k) := ⟨e, Or.inr ⟨i, j, k, hi, hj, hk, rfl, rfl, rfl, by rw [ei, ej, sp_cutM hk, if_pos ⟨q1, q2⟩, e, Option.bind_some, if_neg (by decide)]⟩⟩
    refine ⟨_, hne, by rw [e, Option.bind_some, if_neg (by decide)], hok, ?_⟩
    rw [e, Option.bind_some, if_neg (by decide), Option.bind_some, if_neg hne]
    unfold f_X5_placed
    simp only [sp_bndE, if_neg (show ¬ (4 : Int32) = 1 by decide), if_neg (show ¬ (4 : Int32) = 2 by decide), if_true]
    rw [sz_add hD.1 hm hok]
    rfl
/-- a unit is cut last, or it isn't wanted, or it makes no clause -/
theorem sz_cutUnit {x : sp_PrT} {nc nl nr nt : Nat → Int32} {m e t k b : Nat} (hm : m < 48) (hD : sz_D x nc nl nr nt m) (he : e < m) (ht : t < m) (hk : k < 6) (hb : b = k ∨ b = k + 6) (hsub : (sp_cc x t).testBit b = true) : (¬ (sp_cc x e).testBit (if b = k then k + 6 else k) = true ∧ f_X5_cutUnit (Int32.ofNat e) (Int32.ofNat t) (Int32.ofNat (2 ^ b)) x.1 x.2.1 x.2.2.1 x.2.2.2.1 x.2.2.2.2.1 x.2.2.2.2.2.1 x.2.2.2.2.2.2 = some (Int32.ofNat e, x.1, x.2.1, x.2.2.1, x.2.2.2.1, x.2.2.2.2.1, x.2.2.2.2.2.1, x.2.2.2.2.2.2)) ∨ ((sp_cc x e).testBit (if b = k then k + 6 else k) = true ∧ f_X5_cutUnit (Int32.ofNat e) (Int32.ofNat t) (Int32.ofNat (2 ^ b)) x.1 x.2.1 x.2.2.1 x.2.2.2.1 x.2.2.2.2.1 x.2.2.2.2.2.1 x.2.2.2.2.2.2 = f_X5_cutAnew (Int32.ofNat (if b = k then t else e)) (Int32.ofNat (if b = k then e else t)) (Int32.ofNat k) 4 x.1 x.2.1 x.2.2.1 x.2.2.2.1 x.2.2.2.2.1 x.2.2.2.2.2.1 x.2.2.2.2.2.2) := by
  obtain ⟨ee, hce⟩ := sz_cc hD.1 he
  obtain ⟨et, hct⟩ := sz_cc hD.1 ht
  obtain ⟨g1, g2, g3, g4, g5, g6, g7, g8, g9, g10⟩ := sz_sgn k hk
  have hpass : ∀ oX : Option (Int32 × (Nat → Int32) × (Nat → Int32) × (Nat → Int32) × (Nat → Int32) × (Nat → Int32) × Int32 × Int32), Option.bind oX (fun q9 => match q9 with | (r11, c12, c13, c14, c15, c16, c17, c18) => some (r11, c12, c13, c14, c15, c16, c17, c18)) = oX := by
    intro oX
    cases oX <;> rfl
  unfold f_X5_cutUnit
  rw [sp_ld_at (show t < 48 by omega) (by omega), et, sp_isPart_bit (show b < 31 by omega), Option.bind_some, if_pos hsub, if_neg (show ¬ (1 : Int32) = 0 by decide)]
  rcases hb with rfl | rfl
  · rw [if_pos rfl, if_pos rfl, if_pos rfl, g1, Option.bind_some, sp_ld_at (show e < 48 by omega) (by omega), ee, sp_isPart_bit (show b + 6 < 31 by omega), Option.bind_some]
    by_cases q : (sp_cc x e).testBit (b + 6) = true
    · right
      refine ⟨q, ?_⟩
      rw [if_pos q, if_neg (show ¬ (1 : Int32) = 0 by decide), g3, Option.bind_some, g5, Option.bind_some, sp_plainN (show b < 25 by omega), Option.bind_some]
      simp only [sp_bndE, if_true, sp_one_ne, if_false]
      exact hpass _
    · left
      refine ⟨q, ?_⟩
      rw [if_neg q, if_pos rfl]
  · have hne : ¬ k + 6 = k := by omega
    rw [if_neg hne, if_neg hne, if_neg hne, g2, Option.bind_some, sp_ld_at (show e < 48 by omega) (by omega), ee, sp_isPart_bit (show k < 31 by omega), Option.bind_some]
    by_cases q : (sp_cc x e).testBit k = true
    · right
      refine ⟨q, ?_⟩
      rw [if_pos q, if_neg (show ¬ (1 : Int32) = 0 by decide), g4, Option.bind_some, g5, Option.bind_some, sp_plainN (show k < 25 by omega), Option.bind_some]
      simp only [sp_bndE, if_neg g10, if_true]
      exact hpass _
    · left
      refine ⟨q, ?_⟩
      rw [if_neg q, if_pos rfl]
/-- the reference's step at a unit -/
theorem sz_unitM {x : sp_PrT} {nc nl nr nt mn cl le ri lt sdm : Nat → Int32} {rs : Int32} {p l m e t k b : Nat} {kk : Int32 → Int32 → (Nat → Int32) → (Nat → Int32) → (Nat → Int32) → (Nat → Int32) → Option (Int32 × Int32 × (Nat → Int32) × (Nat → Int32) × (Nat → Int32) × (Nat → Int32))} {rec : (Int32 × Int32 × Int32 × (Nat → Int32) × (Nat → Int32) × (Nat → Int32) × (Nat → Int32)) → Option (Int32 × Int32 × (Nat → Int32) × (Nat → Int32) × (Nat → Int32) × (Nat → Int32))} (hm : m ≤ 48) (hD : sz_D x nc nl nr nt m) (he : e < m) (ht : t < m) (hk : k < 6) (hb : b = k ∨ b = k + 6) (hsub : (sp_cc x t).testBit b = true) (hp : p < 12) (hl : l < 24) (hu : f_X10_isUnit (Int32.ofNat p) (Int32.ofNat l) rs mn cl le ri lt = some 1) (hcl : cl (24 * p + l) = Int32.ofNat (2 ^ b)) (hsd : sdm l = Int32.ofNat t) : f_X10_cutUnits_L24 kk (Int32.ofNat p) rs mn cl le ri lt sdm rec (Int32.ofNat e, Int32.ofNat l, Int32.ofNat m, nc, nl, nr, nt) = if ¬ (sp_cc x e).testBit (if b = k then k + 6 else k) = true then rec (Int32.ofNat e, Int32.ofNat l + (-1 : Int32), Int32.ofNat m, nc, nl, nr, nt) else Option.bind (f_X10_cutOf (nc (if b = k then t else e)) (nc (if b = k then e else t)) (Int32.ofNat k)) (fun r43 => if r43 = (-9 : Int32) then (some ((-9 : Int32), Int32.ofNat m, nc, nl, nr, nt)) else (Option.bind (f_X10_add r43 (Int32.ofNat (if b = k then t else e)) (Int32.ofNat (if b = k then e else t)) (Int32.ofNat k) (Int32.ofNat m) nc nl nr nt) (fun q9 => match q9 with | (r44, c45, c46, c47, c48, c49) => rec (r44, Int32.ofNat l + (-1 : Int32), c45, c46, c47, c48, c49)))) := by
  obtain ⟨ee, hce⟩ := sz_cc hD.1 he
  obtain ⟨et, hct⟩ := sz_cc hD.1 ht
  have ne : nc e = Int32.ofNat (sp_cc x e) := by rw [(hD.2 e he).1, ee]
  have nt' : nc t = Int32.ofNat (sp_cc x t) := by rw [(hD.2 t ht).1, et]
  obtain ⟨g1, g2, g3, g4, g5, g6, g7, g8, g9, g10⟩ := sz_sgn k hk
  rw [f_X10_cutUnits_L24_eq, if_neg (sp_i_nn (by omega)), hu, Option.bind_some, sp_i_24]
  rcases hb with rfl | rfl
  · by_cases q : (sp_cc x e).testBit (b + 6) = true
    · have w1 : ¬ (Int32.ofNat (sp_cc x e) &&& Int32.ofNat (2 ^ (b + 6)) = 0) := fun z => (sz_and_bit (show b + 6 < 12 by omega)).mp z q
      have w2 : ¬ (Int32.ofNat (sp_cc x t) &&& Int32.ofNat (2 ^ b) = 0) := fun z => (sz_and_bit (show b < 12 by omega)).mp z hsub
      simp only [sp_bndE, sp_one_ne, if_false, sp_ld_at (show 24 * p + l < 288 by omega) (by omega : 288 < 1000000), hcl, if_neg g6, g8, sp_ld_at (show e < 64 by omega) (by omega : 64 < 1000000), ne, if_neg w1, sp_ld_at (show l < 48 by omega) (by omega : 48 < 1000000), hsd, sp_ld_at (show t < 64 by omega) (by omega : 64 < 1000000), nt', if_neg w2, sz_letter (Or.inl rfl) hk, if_true, q, not_true_eq_false]
    · have w1 : (Int32.ofNat (sp_cc x e) &&& Int32.ofNat (2 ^ (b + 6)) = 0) := (sz_and_bit (show b + 6 < 12 by omega)).mpr q
      rw [if_pos rfl, if_pos q]
      simp only [sp_bndE, sp_one_ne, if_false, sp_ld_at (show 24 * p + l < 288 by omega) (by omega : 288 < 1000000), hcl, if_neg g6, g8, sp_ld_at (show e < 64 by omega) (by omega : 64 < 1000000), ne, if_pos w1]
  · have hne : ¬ k + 6 = k := by omega
    by_cases q : (sp_cc x e).testBit k = true
    · have w1 : ¬ (Int32.ofNat (sp_cc x e) &&& Int32.ofNat (2 ^ k) = 0) := fun z => (sz_and_bit (show k < 12 by omega)).mp z q
      have w2 : ¬ (Int32.ofNat (sp_cc x t) &&& Int32.ofNat (2 ^ (k + 6)) = 0) := fun z => (sz_and_bit (show k + 6 < 12 by omega)).mp z hsub
      simp only [sp_bndE, sp_one_ne, if_false, sp_ld_at (show 24 * p + l < 288 by omega) (by omega : 288 < 1000000), hcl, if_pos g7, g9, sp_ld_at (show e < 64 by omega) (by omega : 64 < 1000000), ne, if_neg w1, sp_ld_at (show l < 48 by omega) (by omega : 48 < 1000000), hsd, sp_ld_at (show t < 64 by omega) (by omega : 64 < 1000000), nt', if_neg w2, sz_letter (Or.inr rfl) hk, if_neg hne, q, not_true_eq_false]
    · have w1 : (Int32.ofNat (sp_cc x e) &&& Int32.ofNat (2 ^ k) = 0) := (sz_and_bit (show k < 12 by omega)).mpr q
      rw [if_neg hne, if_pos q]
      simp only [sp_bndE, sp_one_ne, if_false, sp_ld_at (show 24 * p + l < 288 by omega) (by omega : 288 < 1000000), hcl, if_pos g7, g9, sp_ld_at (show e < 64 by omega) (by omega : 64 < 1000000), ne, if_pos w1]
theorem sz_cutLast {z x : sp_PrT} {n p m e0 R : Nat} {mn cl le ri lt nc nl nr nt sd sdm : Nat → Int32} (h : sp_prOK z n) (hp : p < 12) (hmn : mn p = Int32.ofNat n) (hs : sp_same z cl le ri lt p n) (hR : R < 2 ^ 31) (hD : sz_D x nc nl nr nt m) (hst : ∀ j, j < n → ∃ t, t < m ∧ sd j = Int32.ofNat t ∧ sdm j = Int32.ofNat t ∧ sp_sub (sp_cc z j) (sp_cc x t)) (he0 : e0 < m) (hsd : sdm (n - 1) = Int32.ofNat e0) (hc : m + sz_sg (fun u => if sz_un z R n u then 1 else 0) n ≤ 24) : (∃ (e m' : Nat) (x' : sp_PrT) (nc' nl' nr' nt' : Nat → Int32), f_X5_cutUnits (Int32.ofNat e0) sd (Int64.ofNat (sz_us z R n (n - 1))) x.1 x.2.1 x.2.2.1 x.2.2.2.1 x.2.2.2.2.1 x.2.2.2.2.2.1 x.2.2.2.2.2.2 z.1 (Int32.ofNat n) = some (Int32.ofNat e, x'.1, x'.2.1, x'.2.2.1, x'.2.2.2.1, x'.2.2.2.2.1, x'.2.2.2.2.2.1, x'.2.2.2.2.2.2) ∧ f_X10_cutUnits (Int32.ofNat p) (Int32.ofNat R) mn cl le ri lt (Int32.ofNat m) nc nl nr nt sdm = some (Int32.ofNat e, Int32.ofNat m', nc', nl', nr', nt') ∧ e < m' ∧ m' ≤ 24 ∧ sz_D x' nc' nl' nr' nt' m') ∨ (∃ (x' : sp_PrT) (nm' : Int32) (nc' nl' nr' nt' : Nat → Int32), f_X5_cutUnits (Int32.ofNat e0) sd (Int64.ofNat (sz_us z R n (n - 1))) x.1 x.2.1 x.2.2.1 x.2.2.2.1 x.2.2.2.2.1 x.2.2.2.2.2.1 x.2.2.2.2.2.2 z.1 (Int32.ofNat n) = some (-3, x'.1, x'.2.1, x'.2.2.1, x'.2.2.2.1, x'.2.2.2.2.1, x'.2.2.2.2.2.1, x'.2.2.2.2.2.2) ∧ f_X10_cutUnits (Int32.ofNat p) (Int32.ofNat R) mn cl le ri lt (Int32.ofNat m) nc nl nr nt sdm = some (-9, nm', nc', nl', nr', nt')) := by
  have h1 := h.1
  have hn := h.2.1
  have hus : sz_us z R n (n - 1) < 2 ^ 63 := Nat.lt_of_lt_of_le (sz_us_lt z R n (n - 1)) (Nat.pow_le_pow_right (by omega) (by omega))
  have hin : ∀ l, l < n → f_X9_isIn (Int32.ofNat l) (Int64.ofNat (sz_us z R n (n - 1))) = some (if sz_un z R n l then 1 else 0) := by
    intro l hl
    rw [sp_isIn hus (by omega), sz_us_bit]
    by_cases q : sz_un z R n l
    · rw [decide_eq_true q, decide_eq_true (show l < n - 1 by have := q.2.1; omega), if_pos q]; rfl
    · rw [decide_eq_false q, Bool.and_false, if_neg q]; rfl
  unfold f_X5_cutUnits f_X10_cutUnits
  rw [sp_i_pred h1, sp_bndE, sp_bndE, sp_ld_at hp (by omega), hmn, sp_i_pred h1, sp_ld_at (show n - 1 < 48 by omega) (by omega), hsd, sp_ld_at hp (by omega), hmn, sp_i_pred h1, sp_bndE, sp_bndE]
  refine sz_lp2b (fun o u => (∃ (e m' : Nat) (x' : sp_PrT) (nc' nl' nr' nt' : Nat → Int32), o = some (Int32.ofNat e, x'.1, x'.2.1, x'.2.2.1, x'.2.2.2.1, x'.2.2.2.2.1, x'.2.2.2.2.2.1, x'.2.2.2.2.2.2) ∧ u = some (Int32.ofNat e, Int32.ofNat m', nc', nl', nr', nt') ∧ e < m' ∧ m' ≤ 24 ∧ sz_D x' nc' nl' nr' nt' m') ∨ (∃ (x' : sp_PrT) (nm' : Int32) (nc' nl' nr' nt' : Nat → Int32), o = some (-3, x'.1, x'.2.1, x'.2.2.1, x'.2.2.2.1, x'.2.2.2.2.1, x'.2.2.2.2.2.1, x'.2.2.2.2.2.2) ∧ u = some (-9, nm', nc', nl', nr', nt'))) n (fun i s t => ∃ (e m' : Nat) (x' : sp_PrT) (nc' nl' nr' nt' : Nat → Int32), s = (Int32.ofNat e, sp_bk (n - 1) i, x'.1, x'.2.1, x'.2.2.1, x'.2.2.2.1, x'.2.2.2.2.1, x'.2.2.2.2.2.1, x'.2.2.2.2.2.2) ∧ t = (Int32.ofNat e, sp_bk (n - 1) i, Int32.ofNat m', nc', nl', nr', nt') ∧ e < m' ∧ m ≤ m' ∧ m' + sz_sg (fun u => if sz_un z R n u then 1 else 0) (n - i) ≤ 24 ∧ sz_D x' nc' nl' nr' nt' m' ∧ sz_eq x' x m) ?_ ?_ sp_F sp_F _ _ (sp_F_lt (by omega)) (sp_F_lt (by omega)) ⟨e0, m, x, nc, nl, nr, nt, ?_, ?_, he0, Nat.le_refl _, hc, hD, fun l hl => ⟨rfl, rfl, rfl, rfl⟩⟩
  · rintro i s t hi ⟨e, m', x', nc', nl', nr', nt', rfl, rfl, he, hmm, hcc, hD', heq⟩
    have hbk : sp_bk (n - 1) i = Int32.ofNat (n - 1 - i) := by unfold sp_bk; rw [if_pos (by omega)]
    have hnx : Int32.ofNat (n - 1 - i) + (-1 : Int32) = sp_bk (n - 1) (i + 1) := sp_bk_next (by omega)
    have hln : n - 1 - i < n := by omega
    have hsg : sz_sg (fun u => if sz_un z R n u then 1 else 0) (n - i) = sz_sg (fun u => if sz_un z R n u then 1 else 0) (n - (i + 1)) + (if sz_un z R n (n - 1 - i) then 1 else 0) := by
      rw [show n - i = (n - (i + 1)) + 1 by omega, sz_sg_s, show n - (i + 1) = n - 1 - i by omega]
    rw [hbk]
    generalize n - 1 - i = l at *
    by_cases q : sz_un z R n l
    · rw [if_pos q] at hsg
      have hxi := hin l hln
      have hmi := sz_isUnit h hp hmn hs hln hR
      rw [if_pos q] at hxi hmi
      obtain ⟨t, t1, t2, t3, t4⟩ := hst l hln
      obtain ⟨b, hb, hcb⟩ := sp_pow (sp_cc_lt h hln) q.1
      have hb' : ∃ k, k < 6 ∧ (b = k ∨ b = k + 6) := by
        by_cases hb6 : b < 6
        · exact ⟨b, hb6, Or.inl rfl⟩
        · exact ⟨b - 6, by omega, Or.inr (by omega)⟩
      obtain ⟨k, hk, hbk'⟩ := hb'
      have hzl : z.1 l = Int32.ofNat (2 ^ b) := by rw [sp_cc_eq h hln, hcb]
      have hcl : cl (24 * p + l) = Int32.ofNat (2 ^ b) := by rw [(hs l hln).1, hzl]
      have hsub : (sp_cc x' t).testBit b = true := by
        have e1 : sp_cc x' t = sp_cc x t := by unfold sp_cc; rw [(heq t t1).1]
        rw [e1]
        refine t4 b ?_
        rw [hcb, Nat.testBit_two_pow_self]
      have hX : ∀ rec, f_X5_cutUnits_L10 (fun (x11 : Int32) (c12 : Nat → Int32) (c13 : Nat → Int32) (c14 : Nat → Int32) (c15 : Nat → Int32) (c16 : Nat → Int32) (c17 : Int32) (c18 : Int32) => some (x11, c12, c13, c14, c15, c16, c17, c18)) (Int64.ofNat (sz_us z R n (n - 1))) sd z.1 rec (Int32.ofNat e, Int32.ofNat l, x'.1, x'.2.1, x'.2.2.1, x'.2.2.2.1, x'.2.2.2.2.1, x'.2.2.2.2.2.1, x'.2.2.2.2.2.2) = Option.bind (f_X5_cutUnit (Int32.ofNat e) (Int32.ofNat t) (Int32.ofNat (2 ^ b)) x'.1 x'.2.1 x'.2.2.1 x'.2.2.2.1 x'.2.2.2.2.1 x'.2.2.2.2.2.1 x'.2.2.2.2.2.2) (fun q9 => match q9 with | (r33, c34, c35, c36, c37, c38, c39, c40) => rec (r33, sp_bk (n - 1) (i + 1), c34, c35, c36, c37, c38, c39, c40)) := by
        intro rec
        rw [f_X5_cutUnits_L10_eq, if_neg (sp_i_nn (by omega)), if_neg (sp_i_nn (by omega)), hxi, Option.bind_some, sp_bndE, if_neg (show ¬ (1 : Int32) = 0 by decide), sp_ld_at (show l < 48 by omega) (by omega), t2, sp_ld_at (show l < 48 by omega) (by omega), hzl]
        simp only [sp_bndE, hnx]
      rcases sz_cutUnit (show m' < 48 by omega) hD' he (show t < m' by omega) hk hbk' hsub with ⟨u1, u2⟩ | ⟨u1, u2⟩
      · right
        refine ⟨(Int32.ofNat e, sp_bk (n - 1) (i + 1), x'.1, x'.2.1, x'.2.2.1, x'.2.2.2.1, x'.2.2.2.2.1, x'.2.2.2.2.2.1, x'.2.2.2.2.2.2), (Int32.ofNat e, sp_bk (n - 1) (i + 1), Int32.ofNat m', nc', nl', nr', nt'), ⟨e, m', x', nc', nl', nr', nt', rfl, rfl, he, hmm, by omega, hD', heq⟩, fun rec => ?_, fun rec => ?_⟩
        · rw [hX rec, u2]; rfl
        · rw [sz_unitM (show m' ≤ 48 by omega) hD' he (show t < m' by omega) hk hbk' hsub hp (by omega) hmi hcl t3, if_pos u1, hnx]
      · have hL : (if b = k then t else e) < m' := by split <;> omega
        have hRr : (if b = k then e else t) < m' := by split <;> omega
        have b1 : (sp_cc x' (if b = k then t else e)).testBit k = true := by
          rcases hbk' with e1 | e1
          · rw [if_pos e1, ← e1]; exact hsub
          · rw [if_neg (show ¬ b = k by omega)]; rw [if_neg (show ¬ b = k by omega)] at u1; exact u1
        have b2 : (sp_cc x' (if b = k then e else t)).testBit (k + 6) = true := by
          rcases hbk' with e1 | e1
          · rw [if_pos e1]; rw [if_pos e1] at u1; exact u1
          · rw [if_neg (show ¬ b = k by omega), ← e1]; exact hsub
        rcases sz_cutU (show m' < 48 by omega) hD' hL hRr hk b1 b2 with ⟨c, v1, v2, v3, v4⟩ | ⟨v2, v4⟩
        · right
          refine ⟨_, _, ⟨m', m' + 1, sz_new x' m' c (Int32.ofNat (if b = k then t else e)) (Int32.ofNat (if b = k then e else t)) (Int32.ofNat k), upd nc' m' c, upd nl' m' (Int32.ofNat (if b = k then t else e)), upd nr' m' (Int32.ofNat (if b = k then e else t)), upd nt' m' (Int32.ofNat k), rfl, rfl, by omega, by omega, by omega, ⟨sz_new_dr hD'.1 (by omega) v3, sz_new_sm hD'.2⟩, ?_⟩, fun rec => ?_, fun rec => ?_⟩
          · intro l' hl'
            show upd x'.1 m' c l' = _ ∧ upd x'.2.1 m' _ l' = _ ∧ upd x'.2.2.1 m' _ l' = _ ∧ upd x'.2.2.2.1 m' _ l' = _
            simp only [sz_upd_ne (show l' ≠ m' by omega)]
            exact heq l' hl'
          · rw [hX rec, u2, v4]; rfl
          · rw [sz_unitM (show m' ≤ 48 by omega) hD' he (show t < m' by omega) hk hbk' hsub hp (by omega) hmi hcl t3, if_neg (fun z => z u1), v2, Option.bind_some, if_neg v1, sz_addM (show m' < 64 by omega), Option.bind_some, hnx]
        · left
          refine ⟨(-3, sp_bk (n - 1) (i + 1), x'.1, x'.2.1, x'.2.2.1, x'.2.2.2.1, x'.2.2.2.2.1, x'.2.2.2.2.2.1, x'.2.2.2.2.2.2), _, _, Or.inr ⟨x', Int32.ofNat m', nc', nl', nr', nt', rfl, rfl⟩, fun rec => ?_, fun rec => ?_, fun rec => ?_⟩
          · rw [hX rec, u2, v4]; rfl
          · rw [f_X5_cutUnits_L10_eq]
            by_cases w : sp_bk (n - 1) (i + 1) < 0
            · rw [if_pos w]
            · rw [if_neg w, if_pos (by decide)]
          · rw [sz_unitM (show m' ≤ 48 by omega) hD' he (show t < m' by omega) hk hbk' hsub hp (by omega) hmi hcl t3, if_neg (fun z => z u1), v2, Option.bind_some, if_pos rfl]
    · right
      rw [if_neg q] at hsg
      have hxi := hin l hln
      have hmi := sz_isUnit h hp hmn hs hln hR
      rw [if_neg q] at hxi hmi
      refine ⟨(Int32.ofNat e, sp_bk (n - 1) (i + 1), x'.1, x'.2.1, x'.2.2.1, x'.2.2.2.1, x'.2.2.2.2.1, x'.2.2.2.2.2.1, x'.2.2.2.2.2.2), (Int32.ofNat e, sp_bk (n - 1) (i + 1), Int32.ofNat m', nc', nl', nr', nt'), ⟨e, m', x', nc', nl', nr', nt', rfl, rfl, he, hmm, by omega, hD', heq⟩, fun rec => ?_, fun rec => ?_⟩
      · rw [f_X5_cutUnits_L10_eq, if_neg (sp_i_nn (by omega)), if_neg (sp_i_nn (by omega)), hxi, Option.bind_some]
        simp only [sp_bndE, if_true, hnx]
      · rw [f_X10_cutUnits_L24_eq, if_neg (sp_i_nn (by omega)), hmi, Option.bind_some, sp_bndE, if_pos rfl]
        show sp_bnd _ _ = _
        rw [sp_bndE, hnx]
  · rintro s t ⟨e, m', x', nc', nl', nr', nt', rfl, rfl, he, hmm, hcc, hD', heq⟩
    have hbk : sp_bk (n - 1) n = -1 := by unfold sp_bk; rw [if_neg (by omega)]
    refine ⟨_, _, Or.inl ⟨e, m', x', nc', nl', nr', nt', rfl, rfl, he, by omega, hD'⟩, fun rec => ?_, fun rec => ?_⟩
    · rw [hbk, f_X5_cutUnits_L10_eq, if_pos (by decide)]
    · rw [hbk, f_X10_cutUnits_L24_eq, if_pos (by decide)]
  · unfold sp_bk; rw [if_pos (by omega), Nat.sub_zero]
  · unfold sp_bk; rw [if_pos (by omega), Nat.sub_zero]
