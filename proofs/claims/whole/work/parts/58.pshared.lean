/-! twice, shared -/
theorem sp_least {P : Nat → Prop} : ∀ m : Nat, (∃ l, l < m ∧ P l) → ∃ l, l < m ∧ P l ∧ ∀ j, j < l → ¬ P j
  | 0, h => by obtain ⟨l, h1, _⟩ := h; omega
  | m + 1, h => by
    by_cases hm : ∃ l, l < m ∧ P l
    · obtain ⟨l, h1, h2, h3⟩ := sp_least m hm
      exact ⟨l, by omega, h2, h3⟩
    · obtain ⟨l, h1, h2⟩ := h
      have : l = m := by
        rcases Nat.lt_or_ge l m with q | q
        · exact absurd ⟨l, q, h2⟩ hm
        · omega
      subst this
      exact ⟨l, h1, h2, fun j hj hp => hm ⟨j, hj, hp⟩⟩
theorem sp_firstWith {cl : Nat → Int32} {c : Int32} {m : Nat} (hm : m ≤ 48) : (∃ l, l < m ∧ cl l = c ∧ (∀ j, j < l → ¬ cl j = c) ∧ f_X2_firstWith c (Int32.ofNat m) cl = some (Int32.ofNat l)) ∨ ((∀ j, j < m → ¬ cl j = c) ∧ f_X2_firstWith c (Int32.ofNat m) cl = some (-9)) := by
  have step : ∀ i, i < m → ¬ cl i = c → ∀ k rec, f_X2_firstWith_L2 (Int32.ofNat m) k cl c rec (Int32.ofNat i) = rec (Int32.ofNat (i + 1)) := by
    intro i hi hne k rec
    rw [f_X2_firstWith_L2_eq, if_neg (fun q => by have := (sp_i_le (by omega) (by omega)).mp q; omega), sp_ld_at (show i < 48 by omega) (by omega), if_neg hne]
    unfold sp_bnd
    rw [sp_i_succ]
  by_cases hex : ∃ l, l < m ∧ cl l = c
  · left
    obtain ⟨l, h1, h2, h3⟩ := sp_least m hex
    refine ⟨l, h1, h2, h3, ?_⟩
    unfold f_X2_firstWith
    rw [sp_bnd]
    refine sp_lp_fn l (fun i => Int32.ofNat i) (fun i hi rec => step i (by omega) (h3 i hi) _ rec) (fun rec => ?_) (sp_F_lt (by omega)) rfl
    rw [f_X2_firstWith_L2_eq, if_neg (fun q => by have := (sp_i_le (by omega) (by omega)).mp q; omega), sp_ld_at (show l < 48 by omega) (by omega), if_pos h2]
  · right
    have hno : ∀ j, j < m → ¬ cl j = c := fun j hj e => hex ⟨j, hj, e⟩
    refine ⟨hno, ?_⟩
    unfold f_X2_firstWith
    rw [sp_bnd]
    refine sp_lp_fn m (fun i => Int32.ofNat i) (fun i hi rec => step i hi (hno i hi) _ rec) (fun rec => ?_) (sp_F_lt (by omega)) rfl
    rw [f_X2_firstWith_L2_eq, if_pos ((sp_i_le (by omega) (by omega)).mpr (Nat.le_refl m))]
theorem sp_hasClause {x : sp_PrT} {cl le ri lt : Nat → Int32} {c : Int32} {m p n : Nat} (hn : n ≤ 24) (hm : m ≤ n) (hp : p < 12) (hs : sp_same x cl le ri lt p n) : ((∃ l, l < m ∧ x.1 l = c) ∧ f_X10_hasClause (Int32.ofNat p) c (Int32.ofNat m) cl = some 1) ∨ ((∀ j, j < m → ¬ x.1 j = c) ∧ f_X10_hasClause (Int32.ofNat p) c (Int32.ofNat m) cl = some 0) := by
  have step : ∀ i, i < m → ¬ x.1 i = c → ∀ k rec, f_X10_hasClause_L3 (Int32.ofNat m) k cl (Int32.ofNat p) c rec (Int32.ofNat i) = rec (Int32.ofNat (i + 1)) := by
    intro i hi hne k rec
    rw [f_X10_hasClause_L3_eq, if_neg (fun q => by have := (sp_i_le (by omega) (by omega)).mp q; omega), sp_i_24, sp_ld_at (show 24 * p + i < 288 by omega) (by omega), (hs i (by omega)).1, if_neg hne]
    unfold sp_bnd
    rw [sp_i_succ]
  by_cases hex : ∃ l, l < m ∧ x.1 l = c
  · left
    refine ⟨hex, ?_⟩
    obtain ⟨l, h1, h2, h3⟩ := sp_least m hex
    unfold f_X10_hasClause
    rw [sp_bnd]
    refine sp_lp_fn l (fun i => Int32.ofNat i) (fun i hi rec => step i (by omega) (h3 i hi) _ rec) (fun rec => ?_) (sp_F_lt (by omega)) rfl
    rw [f_X10_hasClause_L3_eq, if_neg (fun q => by have := (sp_i_le (by omega) (by omega)).mp q; omega), sp_i_24, sp_ld_at (show 24 * p + l < 288 by omega) (by omega), (hs l (by omega)).1, if_pos h2]
  · right
    have hno : ∀ j, j < m → ¬ x.1 j = c := fun j hj e => hex ⟨j, hj, e⟩
    refine ⟨hno, ?_⟩
    unfold f_X10_hasClause
    rw [sp_bnd]
    refine sp_lp_fn m (fun i => Int32.ofNat i) (fun i hi rec => step i hi (hno i hi) _ rec) (fun rec => ?_) (sp_F_lt (by omega)) rfl
    rw [f_X10_hasClause_L3_eq, if_pos ((sp_i_le (by omega) (by omega)).mpr (Nat.le_refl m))]
/-- how many unlike clauses of the first are in the second -/
noncomputable def sp_ul (cl cl2 : Nat → Int32) (n2 : Nat) : Nat → Nat
  | 0 => 0
  | l + 1 => sp_ul cl cl2 n2 l + @ite _ ((∀ j, j < l → ¬ cl j = cl l) ∧ ∃ j, j < n2 ∧ cl2 j = cl l) (Classical.propDecidable _) 1 0
theorem sp_ul_le (cl cl2 : Nat → Int32) (n2 : Nat) : ∀ l, sp_ul cl cl2 n2 l ≤ l
  | 0 => Nat.le_refl _
  | l + 1 => by have := sp_ul_le cl cl2 n2 l; rw [sp_ul]; split <;> omega
theorem sp_unlike {cl cl2 : Nat → Int32} {n n2 : Nat} (hn : n ≤ 48) (hn2 : n2 ≤ 48) : f_X2_unlikeIn cl (Int32.ofNat n) cl2 (Int32.ofNat n2) = some (Int32.ofNat (sp_ul cl cl2 n2 n)) := by
  unfold f_X2_unlikeIn
  rw [sp_bnd]
  refine sp_lp_fn n (fun i => (Int32.ofNat (sp_ul cl cl2 n2 i), Int32.ofNat i)) (fun i hi rec => ?_) (fun rec => ?_) (sp_F_lt (by omega)) rfl
  · rw [f_X2_unlikeIn_L4_eq, if_neg (fun q => by have := (sp_i_le (by omega) (by omega)).mp q; omega), sp_ld_at (show i < 48 by omega) (by omega)]
    simp only [sp_bnd, sp_i_succ, sp_ld_at (show i < 48 by omega) (by omega : 48 < 1000000)]
    rw [sp_ul]
    rcases sp_firstWith (cl := cl) (c := cl i) (m := i) (by omega) with ⟨l, h1, h2, -, e⟩ | ⟨h1, e⟩
    · rw [e, if_neg (fun q => q.1 l h1 h2)]
      simp only [Option.bind_some, if_neg (sp_i_neg (show l < 1000000 by omega))]
      rfl
    · rw [e]
      rcases sp_firstWith (cl := cl2) (c := cl i) (m := n2) hn2 with ⟨l, k1, k2, -, e2⟩ | ⟨k1, e2⟩
      · rw [e2, if_pos ⟨h1, l, k1, k2⟩]
        simp only [Option.bind_some, if_neg (sp_i_neg (show l < 1000000 by omega))]
        rfl
      · rw [e2, if_neg (fun q => by obtain ⟨j, j1, j2⟩ := q.2; exact k1 j j1 j2)]
        rfl
  · rw [f_X2_unlikeIn_L4_eq, if_pos ((sp_i_le (by omega) (by omega)).mpr (Nat.le_refl n))]
theorem sp_unlike_al {cl : Nat → Int32} {n : Nat} (hn : n ≤ 48) : f_X2_unlikeIn_al cl (Int32.ofNat n) = some (Int32.ofNat (sp_ul cl cl n n)) := sp_unlike hn hn
theorem sp_sharedM {x z : sp_PrT} {mn cl le ri lt : Nat → Int32} {p q n n2 : Nat} (hx : sp_prOK x n) (hz : sp_prOK z n2) (hp : p < 12) (hq : q < 12) (hm : mn p = Int32.ofNat n) (hm2 : mn q = Int32.ofNat n2) (hs : sp_same x cl le ri lt p n) (hs2 : sp_same z cl le ri lt q n2) (k : Int32 → Option Int32) : sp_lp (f_X10_shared_L23 mn (Int32.ofNat p) k cl (Int32.ofNat q)) sp_F ((0 : Int32), (0 : Int32)) = k (Int32.ofNat (sp_ul x.1 z.1 n2 n)) := by
  have hn := hx.2.1
  have hn2 := hz.2.1
  refine sp_lp_fn n (fun i => (Int32.ofNat (sp_ul x.1 z.1 n2 i), Int32.ofNat i)) (fun i hi rec => ?_) (fun rec => ?_) (sp_F_lt (by omega)) rfl
  · rw [f_X10_shared_L23_eq, sp_ld_at hp (by omega), hm, if_neg (fun q => by have := (sp_i_le (by omega) (by omega)).mp q; omega), sp_i_24, sp_ld_at (show 24 * p + i < 288 by omega) (by omega), (hs i hi).1]
    simp only [sp_bnd, sp_i_succ, sp_ld_at hq (by omega : 12 < 1000000), hm2]
    rw [sp_ul]
    rcases sp_hasClause (c := x.1 i) (m := i) hn (by omega) hp hs with ⟨⟨l, h1, h2⟩, e⟩ | ⟨h1, e⟩
    · rw [e, if_neg (fun q => q.1 l h1 h2)]
      simp
    · rw [e]
      rcases sp_hasClause (c := x.1 i) (m := n2) hn2 (Nat.le_refl _) hq hs2 with ⟨⟨l, k1, k2⟩, e2⟩ | ⟨k1, e2⟩
      · rw [e2, if_pos ⟨h1, l, k1, k2⟩]
        rfl
      · rw [e2, if_neg (fun q => by obtain ⟨j, j1, j2⟩ := q.2; exact k1 j j1 j2)]
        simp
  · rw [f_X10_shared_L23_eq, sp_ld_at hp (by omega), hm, if_pos ((sp_i_le (by omega) (by omega)).mpr (Nat.le_refl n))]
theorem op_shared {x : sp_XS} {y : sp_MS} (h : sp_Rel x y) (p1 p2 : Int32) : ∃ (r : Int32) (x' : sp_XS) (y' : sp_MS), sx_shared p1 p2 x = some (r, x') ∧ sm_shared p1 p2 y = some (r, y') ∧ sp_Rel x' y' := by
  rcases sp_proof h p1 with ⟨e1, e2⟩ | ⟨p, n, hp, rfl, ei, g1, g2, g3, e1, e2, -⟩
  · refine ⟨-1, x, y, ?_, ?_, h⟩
    · unfold sx_shared sx_shared0 sx_shared_al f_X9_shared f_X9_shared_al; rw [e1]; split <;> rfl
    · unfold sm_shared f_X10_shared; rw [e2]; rfl
  · rcases sp_proof h p2 with ⟨k1, k2⟩ | ⟨q, n2, hq, rfl, kei, c1, c2, c3, k1, k2, -⟩
    · refine ⟨-1, x, y, ?_, ?_, h⟩
      · unfold sx_shared sx_shared0 sx_shared_al f_X9_shared f_X9_shared_al; rw [e1, k1]; split <;> rfl
      · unfold sm_shared f_X10_shared; rw [e2, k2]; rfl
    · refine ⟨Int32.ofNat (sp_ul (x.1 p).1 (x.1 q).1 n2 n), x, y, ?_, ?_, h⟩
      · unfold sx_shared
        by_cases hpq : Int32.ofNat p = Int32.ofNat q
        · have hpq' : p = q := (sp_i_inj (by omega) (by omega)).mp hpq
          subst hpq'
          have hnn : n = n2 := (sp_i_inj (by have := g1.2.1; omega) (by have := c1.2.1; omega)).mp (g1.2.2.1.symm.trans c1.2.2.1)
          subst hnn
          rw [if_pos rfl]
          unfold sx_shared_al f_X9_shared_al
          rw [ei, e1, g1.2.2.1, sp_unlike_al (by have := g1.2.1; omega)]
          simp only [Option.bind_some, sp_ck_at hp (by omega : 12 < 1000000)]
          rfl
        · rw [if_neg hpq]
          unfold sx_shared0 f_X9_shared
          rw [sp_ix2_eq (sp_i_in hp (by omega)), sp_ix12_eq (sp_i_in hq (by omega)), sp_i_nat (by omega), sp_i_nat (by omega), e1, k1, g1.2.2.1, c1.2.2.1, sp_unlike (by have := g1.2.1; omega) (by have := c1.2.1; omega)]
          simp only [Option.bind_some, sp_ck_at hp (by omega : 12 < 1000000), sp_ck_at hq (by omega : 12 < 1000000)]
          rfl
      · unfold sm_shared f_X10_shared; rw [e2, k2]
        simp only [Option.bind_some, sp_bnd, sp_sharedM g1 c1 hp hq g2 c2 g3 c3]
        rfl
theorem sp_twiceL {x : sp_PrT} {cl le ri lt : Nat → Int32} {p n l : Nat} (hn : n ≤ 24) (hl : l < n) (hp : p < 12) (hs : sp_same x cl le ri lt p n) (k : Int32 → Option Int32) : sp_lp (f_X10_twice_L30 (Int32.ofNat l) k cl (Int32.ofNat p)) sp_F ((0 : Int32), (0 : Int32)) = k (@ite _ (∃ j, j < l ∧ x.1 j = x.1 l) (Classical.propDecidable _) 1 0) := by
  refine sp_lp_fn l (fun i => (@ite _ (∃ j, j < i ∧ x.1 j = x.1 l) (Classical.propDecidable _) 1 0, Int32.ofNat i)) (fun i hi rec => ?_) (fun rec => ?_) (sp_F_lt (by omega)) ?_
  · rw [f_X10_twice_L30_eq, if_neg (fun q => by have := (sp_i_le (by omega) (by omega)).mp q; omega), sp_i_24, sp_i_24]
    simp only [sp_bnd, sp_i_succ, sp_ld_at (show 24 * p + i < 288 by omega) (by omega : 288 < 1000000), sp_ld_at (show 24 * p + l < 288 by omega) (by omega : 288 < 1000000), (hs i (by omega)).1, (hs l hl).1]
    by_cases he : x.1 i = x.1 l
    · rw [if_pos he, if_pos (show ∃ j, j < i + 1 ∧ x.1 j = x.1 l from ⟨i, by omega, he⟩)]
      by_cases hx : ∃ j, j < i ∧ x.1 j = x.1 l
      · rw [if_pos hx]; rfl
      · rw [if_neg hx]; rfl
    · rw [if_neg he]
      by_cases hx : ∃ j, j < i ∧ x.1 j = x.1 l
      · rw [if_pos hx, if_pos (show ∃ j, j < i + 1 ∧ x.1 j = x.1 l from by obtain ⟨j, j1, j2⟩ := hx; exact ⟨j, by omega, j2⟩)]; rfl
      · rw [if_neg hx, if_neg (show ¬ ∃ j, j < i + 1 ∧ x.1 j = x.1 l from by
          rintro ⟨j, j1, j2⟩
          by_cases hj : j = i
          · subst hj; exact he j2
          · exact hx ⟨j, by omega, j2⟩)]
        rfl
  · rw [f_X10_twice_L30_eq, if_pos ((sp_i_le (by omega) (by omega)).mpr (Nat.le_refl l))]
  · show _ = (@ite _ (∃ j, j < 0 ∧ x.1 j = x.1 l) (Classical.propDecidable _) 1 0, Int32.ofNat 0)
    rw [if_neg (by rintro ⟨j, j1, -⟩; omega)]
    rfl
theorem sp_twiceM {x : sp_PrT} {mn cl le ri lt : Nat → Int32} {p n : Nat} (hx : sp_prOK x n) (hp : p < 12) (hm : mn p = Int32.ofNat n) (hs : sp_same x cl le ri lt p n) (k : Int32 → Option Int32) : sp_lp (f_X10_twice_L14 mn (Int32.ofNat p) k cl) sp_F ((0 : Int32), (0 : Int32)) = k (Int32.ofNat (n - sp_ul x.1 x.1 n n)) := by
  have hn := hx.2.1
  refine sp_lp_fn n (fun i => (Int32.ofNat (i - sp_ul x.1 x.1 n i), Int32.ofNat i)) (fun i hi rec => ?_) (fun rec => ?_) (sp_F_lt (by omega)) (by show _ = (Int32.ofNat (0 - sp_ul x.1 x.1 n 0), Int32.ofNat 0); rw [Nat.zero_sub]; rfl)
  · have hle := sp_ul_le x.1 x.1 n i
    rw [f_X10_twice_L14_eq, sp_ld_at hp (by omega), hm, if_neg (fun q => by have := (sp_i_le (by omega) (by omega)).mp q; omega)]
    rw [sp_bnd, sp_twiceL hn hi hp hs]
    simp only [sp_bnd]
    rw [sp_ul]
    by_cases he : ∃ j, j < i ∧ x.1 j = x.1 i
    · have hD : ¬ ((∀ j, j < i → ¬ x.1 j = x.1 i) ∧ ∃ j, j < n ∧ x.1 j = x.1 i) := fun q => by obtain ⟨j, j1, j2⟩ := he; exact q.1 j j1 j2
      rw [if_neg hD, if_pos he, if_neg (show ¬ (1 : Int32) = 0 by decide), sp_i_succ, sp_i_succ, show i - sp_ul x.1 x.1 n i + 1 = i + 1 - (sp_ul x.1 x.1 n i + 0) by omega]
    · have hD : (∀ j, j < i → ¬ x.1 j = x.1 i) ∧ ∃ j, j < n ∧ x.1 j = x.1 i := ⟨fun j hj hq => he ⟨j, hj, hq⟩, i, hi, rfl⟩
      rw [if_pos hD, if_neg he, if_pos rfl, sp_i_succ, Int32.add_zero, show i - sp_ul x.1 x.1 n i = i + 1 - (sp_ul x.1 x.1 n i + 1) by omega]
  · rw [f_X10_twice_L14_eq, sp_ld_at hp (by omega), hm, if_pos ((sp_i_le (by omega) (by omega)).mpr (Nat.le_refl n))]
theorem sp_i_sub {a b : Nat} (h : b ≤ a) : Int32.ofNat a - Int32.ofNat b = Int32.ofNat (a - b) := by
  have e : Int32.ofNat a = Int32.ofNat (a - b) + Int32.ofNat b := by rw [← Int32.ofNat_add]; congr 1; omega
  rw [e]; simp
theorem op_twice {x : sp_XS} {y : sp_MS} (h : sp_Rel x y) (p1 : Int32) : ∃ (r : Int32) (x' : sp_XS) (y' : sp_MS), sx_twice p1 x = some (r, x') ∧ sm_twice p1 y = some (r, y') ∧ sp_Rel x' y' := by
  rcases sp_proof h p1 with ⟨e1, e2⟩ | ⟨p, n, hp, rfl, ei, g1, g2, g3, e1, e2, -⟩
  · refine ⟨-1, x, y, ?_, ?_, h⟩
    · unfold sx_twice sx_twice0 f_X9_twice; rw [e1]; rfl
    · unfold sm_twice f_X10_twice; rw [e2]; rfl
  · refine ⟨Int32.ofNat (n - sp_ul (x.1 p).1 (x.1 p).1 n n), x, y, ?_, ?_, h⟩
    · unfold sx_twice sx_twice0 f_X9_twice; rw [ei, e1, g1.2.2.1, sp_unlike_al (by have := g1.2.1; omega)]
      simp only [Option.bind_some, sp_ck_at hp (by omega : 12 < 1000000), sp_i_sub (sp_ul_le _ _ _ _)]
      rfl
    · unfold sm_twice f_X10_twice; rw [e2]
      simp only [Option.bind_some, sp_bnd, sp_twiceM g1 hp g2 g3]
      rfl
