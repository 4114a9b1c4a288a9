/-! cuts made from a line; how many lines are kept -/
abbrev sp_frm (x : sp_PrT) (l a : Nat) : Prop := ¬ x.2.2.2.1 l = -9 ∧ (x.2.1 l = Int32.ofNat a ∨ x.2.2.1 l = Int32.ofNat a)
theorem sp_isFrom {x : sp_PrT} {n l a p : Nat} {cl le ri lt : Nat → Int32} (hn : n ≤ 24) (hl : l < n) (hp : p < 12) (hs : sp_same x cl le ri lt p n) : f_X10_isFrom (Int32.ofNat p) (Int32.ofNat l) (Int32.ofNat a) le ri lt = some (if sp_frm x l a then 1 else 0) := by
  obtain ⟨-, s2, s3, s4⟩ := hs l hl
  unfold f_X10_isFrom
  simp only [sp_i_24, sp_ld_at (show 24 * p + l < 288 by omega) (by omega : 288 < 1000000), s2, s3, s4]
  by_cases hg : x.2.2.2.1 l = -9
  · rw [if_pos hg, if_neg (fun q => q.1 hg)]
  · by_cases h1 : x.2.1 l = Int32.ofNat a
    · rw [if_neg hg, if_pos h1, if_pos ⟨hg, Or.inl h1⟩]
    · by_cases h2 : x.2.2.1 l = Int32.ofNat a
      · rw [if_neg hg, if_neg h1, if_pos h2, if_pos ⟨hg, Or.inr h2⟩]
      · rw [if_neg hg, if_neg h1, if_neg h2, if_neg (fun q => q.2.elim h1 h2)]
theorem sp_isCutFrom {x : sp_PrT} {n l a : Nat} (h : sp_prOK x n) (hl : l < n) : f_X2_isCutFrom (Int32.ofNat l) (Int32.ofNat a) x.2.1 x.2.2.1 = some (if sp_frm x l a then 1 else 0) := by
  have hn := h.2.1
  unfold f_X2_isCutFrom
  rw [sp_isGround h hl]
  simp only [Option.bind_some, sp_ld_at (show l < 48 by omega) (by omega : 48 < 1000000)]
  by_cases hg : x.2.2.2.1 l = -9
  · rw [if_pos hg, if_neg (show ¬ (1 : Int32) = 0 by decide), if_neg (fun q => q.1 hg)]
  · rw [if_neg hg, if_pos rfl]
    by_cases h1 : x.2.1 l = Int32.ofNat a
    · rw [if_pos h1, if_pos ⟨hg, Or.inl h1⟩]
    · by_cases h2 : x.2.2.1 l = Int32.ofNat a
      · rw [if_neg h1, if_pos h2, if_pos ⟨hg, Or.inr h2⟩]
      · rw [if_neg h1, if_neg h2, if_neg (fun q => q.2.elim h1 h2)]
/-- a line is used from a place on -/
theorem sp_keptL {x : sp_PrT} {n l a p : Nat} {mn cl le ri lt : Nat → Int32} (h : sp_prOK x n) (hl : l ≤ n) (hp : p < 12) (hm : mn p = Int32.ofNat n) (hs : sp_same x cl le ri lt p n) (k : Int32 → Option Int32) : sp_lp (f_X10_keptAs_L17 mn (Int32.ofNat p) k (Int32.ofNat a) le ri lt) sp_F ((0 : Int32), Int32.ofNat l) = k (@ite _ (∃ j, l ≤ j ∧ j < n ∧ sp_frm x j a) (Classical.propDecidable _) 1 0) := by
  have hn := h.2.1
  refine sp_lp_fn (n - l) (fun i => (@ite _ (∃ j, l ≤ j ∧ j < l + i ∧ sp_frm x j a) (Classical.propDecidable _) 1 0, Int32.ofNat (l + i))) (fun i hi rec => ?_) (fun rec => ?_) (sp_F_lt (by omega)) ?_
  · rw [f_X10_keptAs_L17_eq, sp_ld_at hp (by omega), hm, if_neg (fun q => by have := (sp_i_le (by omega) (by omega)).mp q; omega), sp_isFrom hn (show l + i < n by omega) hp hs]
    simp only [Option.bind_some, sp_bnd, sp_i_succ, Nat.add_assoc]
    by_cases he : sp_frm x (l + i) a
    · rw [if_pos he, if_pos (show ∃ j, l ≤ j ∧ j < l + (i + 1) ∧ sp_frm x j a from ⟨l + i, by omega, by omega, he⟩)]
      by_cases hx : ∃ j, l ≤ j ∧ j < l + i ∧ sp_frm x j a
      · rw [if_pos hx]; rfl
      · rw [if_neg hx]; rfl
    · rw [if_neg he]
      by_cases hx : ∃ j, l ≤ j ∧ j < l + i ∧ sp_frm x j a
      · rw [if_pos hx, if_pos (show ∃ j, l ≤ j ∧ j < l + (i + 1) ∧ sp_frm x j a from by obtain ⟨j, j1, j2, j3⟩ := hx; exact ⟨j, j1, by omega, j3⟩)]; rfl
      · rw [if_neg hx, if_neg (show ¬ ∃ j, l ≤ j ∧ j < l + (i + 1) ∧ sp_frm x j a from by
          rintro ⟨j, j1, j2, j3⟩
          by_cases hj : j = l + i
          · subst hj; exact he j3
          · exact hx ⟨j, j1, by omega, j3⟩)]
        rfl
  · rw [f_X10_keptAs_L17_eq, sp_ld_at hp (by omega), hm, show l + (n - l) = n by omega, if_pos ((sp_i_le (by omega) (by omega)).mpr (Nat.le_refl n))]
  · show _ = (@ite _ (∃ j, l ≤ j ∧ j < l + 0 ∧ sp_frm x j a) (Classical.propDecidable _) 1 0, Int32.ofNat (l + 0))
    rw [if_neg (by rintro ⟨j, j1, j2, -⟩; omega)]
    rfl
/-- how many of the first lines are used from a place on -/
noncomputable def sp_kc (x : sp_PrT) (n l : Nat) : Nat → Nat
  | 0 => 0
  | a + 1 => sp_kc x n l a + @ite _ (∃ j, l ≤ j ∧ j < n ∧ sp_frm x j a) (Classical.propDecidable _) 1 0
theorem sp_kc_le (x : sp_PrT) (n l : Nat) : ∀ a, sp_kc x n l a ≤ a
  | 0 => Nat.le_refl _
  | a + 1 => by have := sp_kc_le x n l a; rw [sp_kc]; split <;> omega
theorem sp_keptAs {x : sp_PrT} {n l p : Nat} {mn cl le ri lt : Nat → Int32} (h : sp_prOK x n) (hl : l < n) (hp : p < 12) (hm : mn p = Int32.ofNat n) (hs : sp_same x cl le ri lt p n) : f_X10_keptAs (Int32.ofNat p) (Int32.ofNat l) mn le ri lt = some (Int32.ofNat (1 + sp_kc x n l l)) := by
  have hn := h.2.1
  unfold f_X10_keptAs
  rw [sp_bnd]
  refine sp_lp_fn l (fun a => (Int32.ofNat (1 + sp_kc x n l a), Int32.ofNat a)) (fun a ha rec => ?_) (fun rec => ?_) (sp_F_lt (by omega)) rfl
  · rw [f_X10_keptAs_L5_eq, if_neg (fun q => by have := (sp_i_le (by omega) (by omega)).mp q; omega), sp_bnd, sp_keptL h (by omega) hp hm hs]
    simp only [sp_bnd]
    rw [sp_kc]
    by_cases he : ∃ j, l ≤ j ∧ j < n ∧ sp_frm x j a
    · rw [if_pos he, if_pos he, if_neg (show ¬ (1 : Int32) = 0 by decide), sp_i_succ, sp_i_succ, Nat.add_assoc]
    · rw [if_neg he, if_neg he, if_pos rfl, sp_i_succ, Int32.add_zero]
      rfl
  · rw [f_X10_keptAs_L5_eq, if_pos ((sp_i_le (by omega) (by omega)).mpr (Nat.le_refl l))]
def sp_lu (x : sp_PrT) : Nat → Nat → Nat
  | 0 => fun _ => 0
  | i + 1 => fun j => if j = i ∨ sp_frm x i j then i else sp_lu x i j
theorem sp_lu_le (x : sp_PrT) : ∀ i j, sp_lu x i j ≤ i
  | 0, _ => Nat.le_refl _
  | i + 1, j => by have := sp_lu_le x i j; simp only [sp_lu]; split <;> omega
theorem sp_lu_ge (x : sp_PrT) (now : Nat) : ∀ i l, l < i → (now ≤ sp_lu x i l ↔ now ≤ l ∨ ∃ j, now ≤ j ∧ j < i ∧ sp_frm x j l)
  | 0, l, h => absurd h (Nat.not_lt_zero l)
  | i + 1, l, h => by
    simp only [sp_lu]
    by_cases hc : l = i ∨ sp_frm x i l
    · rw [if_pos hc]
      constructor
      · intro hi
        rcases hc with e | e
        · exact Or.inl (by omega)
        · exact Or.inr ⟨i, hi, by omega, e⟩
      · rintro (q | ⟨j, j1, j2, -⟩) <;> omega
    · rw [if_neg hc]
      have hl : l < i := by
        rcases Nat.lt_or_ge l i with q | q
        · exact q
        · exact absurd (Or.inl (by omega)) hc
      rw [sp_lu_ge x now i l hl]
      constructor
      · rintro (q | ⟨j, j1, j2, j3⟩)
        · exact Or.inl q
        · exact Or.inr ⟨j, j1, by omega, j3⟩
      · rintro (q | ⟨j, j1, j2, j3⟩)
        · exact Or.inl q
        · by_cases hj : j = i
          · subst hj; exact absurd (Or.inr j3) hc
          · exact Or.inr ⟨j, j1, by omega, j3⟩
def sp_lr (x : sp_PrT) (lu : Nat → Int32) (i : Nat) : Nat → Int32 := fun j => if j < i then Int32.ofNat (sp_lu x i j) else lu j
theorem sp_keptX2 {x : sp_PrT} {n : Nat} {lu : Nat → Int32} (h : sp_prOK x n) (k : (Nat → Int32) → Option (Int32 × (Nat → Int32))) : sp_lp (f_X6_keptOf_L2 (Int32.ofNat n) k x.2.1 x.2.2.1) sp_F ((0 : Int32), lu) = k (sp_lr x lu n) := by
  have hn := h.2.1
  refine sp_lp_fn n (fun i => (Int32.ofNat i, sp_lr x lu i)) (fun i hi rec => ?_) (fun rec => ?_) (sp_F_lt (by omega)) ?_
  · rw [f_X6_keptOf_L2_eq, if_neg (fun q => by have := (sp_i_le (by omega) (by omega)).mp q; omega), sp_isGround h hi]
    simp only [Option.bind_some, sp_bnd, sp_i_succ, sp_ld_at (show i < 48 by omega) (by omega : 48 < 1000000), sp_st_at (show i < 48 by omega) (by omega : 48 < 1000000)]
    rcases sp_ground h hi with ⟨a, b, c⟩ | ⟨hg, a, b, c, ha, hb, hc, e1, e2, -⟩
    · rw [if_pos a, if_neg (show ¬ (1 : Int32) = 0 by decide)]
      refine congrArg (fun f => rec (Int32.ofNat (i + 1), f)) ?_
      funext j
      simp only [upd, sp_lr, sp_lu]
      by_cases hj : j = i
      · subst hj; simp
      · rw [if_neg hj]
        by_cases h2 : j < i
        · rw [if_pos h2, if_pos (by omega), if_neg (fun q => q.elim hj (fun z => z.1 a))]
        · rw [if_neg h2, if_neg (by omega)]
    · rw [if_neg hg, if_pos rfl, e1, e2]
      simp only [sp_st_at (show a < 48 by omega) (by omega : 48 < 1000000), sp_st_at (show b < 48 by omega) (by omega : 48 < 1000000)]
      refine congrArg (fun f => rec (Int32.ofNat (i + 1), f)) ?_
      funext j
      simp only [upd, sp_lr, sp_lu]
      by_cases hjb : j = b
      · rw [if_pos hjb, if_pos (by omega), if_pos (Or.inr ⟨hg, Or.inr (by rw [e2, hjb])⟩)]
      · rw [if_neg hjb]
        by_cases hja : j = a
        · rw [if_pos hja, if_pos (by omega), if_pos (Or.inr ⟨hg, Or.inl (by rw [e1, hja])⟩)]
        · rw [if_neg hja]
          by_cases hj : j = i
          · subst hj; simp
          · rw [if_neg hj]
            by_cases h2 : j < i
            · rw [if_pos h2, if_pos (by omega), if_neg]
              rintro (q | ⟨-, q | q⟩)
              · exact hj q
              · rw [e1] at q; exact hja ((sp_i_inj (by omega) (by omega)).mp q).symm
              · rw [e2] at q; exact hjb ((sp_i_inj (by omega) (by omega)).mp q).symm
            · rw [if_neg h2, if_neg (by omega)]
  · rw [f_X6_keptOf_L2_eq, if_pos ((sp_i_le (by omega) (by omega)).mpr (Nat.le_refl n))]
  · have : sp_lr x lu 0 = lu := by funext j; simp [sp_lr]
    rw [this]; rfl
