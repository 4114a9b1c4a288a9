/-! lines kept, numbers closed up: the class -/
theorem sz_isG9 {le : Nat → Int32} {i : Nat} (hi : i < 48) (e : le i = -9) : f_X2_isGround (Int32.ofNat i) le = some 1 := by
  unfold f_X2_isGround
  rw [sp_ld_at hi (by omega), e, if_neg (by decide)]
theorem sz_isGc {le : Nat → Int32} {i u : Nat} (hi : i < 48) (hu : u < 48) (e : le i = Int32.ofNat u) : f_X2_isGround (Int32.ofNat i) le = some 0 := by
  unfold f_X2_isGround
  rw [sp_ld_at hi (by omega), e, if_pos (Int32.not_lt.mp (sp_i_nn (by omega)))]
/-- a draft's line -/
theorem sz_line {x : sp_PrT} {m l : Nat} (h : sz_dr x m) (hl : l < m) : (x.2.2.2.1 l = -9 ∧ x.2.1 l = -9 ∧ x.2.2.1 l = -9) ∨ (¬ x.2.2.2.1 l = -9 ∧ ∃ i j k : Nat, i < l ∧ j < l ∧ k < 6 ∧ x.2.1 l = Int32.ofNat i ∧ x.2.2.1 l = Int32.ofNat j ∧ x.2.2.2.1 l = Int32.ofNat k ∧ f_X10_cutOf (x.1 i) (x.1 j) (Int32.ofNat k) = some (x.1 l)) := by
  rcases (h.2.2.1 l hl).2 with ⟨a, b, c⟩ | ⟨i, j, k, hi, hj, hk, a, b, c, d⟩
  · exact Or.inl ⟨c, a, b⟩
  · exact Or.inr ⟨by rw [c]; exact sp_i_neg (by omega), i, j, k, hi, hj, hk, a, b, c, d⟩
/-- closed: with a cut, what it is cut from -/
def sz_cls (x : sp_PrT) (S m : Nat) : Prop := ∀ l, l < m → S.testBit l = true → ¬ x.2.2.2.1 l = -9 → S.testBit (x.2.1 l).toNatClampNeg = true ∧ S.testBit (x.2.2.1 l).toNatClampNeg = true
/-- the lines of a set, numbers closed up -/
def sz_ren (x : sp_PrT) (S : Nat) (nc nl nr nt : Nat → Int32) (l : Nat) : Prop := nc (sp_pc S l) = x.1 l ∧ nt (sp_pc S l) = x.2.2.2.1 l ∧ nl (sp_pc S l) = (if x.2.2.2.1 l = -9 then -9 else Int32.ofNat (sp_pc S (x.2.1 l).toNatClampNeg)) ∧ nr (sp_pc S l) = (if x.2.2.2.1 l = -9 then -9 else Int32.ofNat (sp_pc S (x.2.2.1 l).toNatClampNeg))
theorem sz_pc_lt {S a b : Nat} (h : a < b) (hb : S.testBit a = true) : sp_pc S a < sp_pc S b := by
  have key : ∀ d, sp_pc S a < sp_pc S (a + 1 + d) := by
    intro d
    induction d with
    | zero => rw [Nat.add_zero, sp_pc, if_pos hb]; omega
    | succ d ih => rw [← Nat.add_assoc, sp_pc]; omega
  have := key (b - (a + 1))
  rw [show a + 1 + (b - (a + 1)) = b by omega] at this
  exact this
theorem sz_pc_ex {S : Nat} : ∀ m j, j < sp_pc S m → ∃ l, l < m ∧ S.testBit l = true ∧ sp_pc S l = j
  | 0, j, h => by rw [sp_pc] at h; omega
  | m + 1, j, h => by
    rw [sp_pc] at h
    by_cases q : j < sp_pc S m
    · obtain ⟨l, h1, h2, h3⟩ := sz_pc_ex m j q
      exact ⟨l, by omega, h2, h3⟩
    · by_cases b : S.testBit m = true
      · rw [if_pos b] at h
        exact ⟨m, by omega, b, by omega⟩
      · rw [if_neg b] at h; omega
theorem sz_keep {x : sp_PrT} {m S : Nat} (h : sz_dr x m) (hS : S < 2 ^ 63) (hcl : sz_cls x S m) (nu : Nat → Int32) : ∃ (y : sp_PrT) (nu' : Nat → Int32), f_X2_keepOnly (Int64.ofNat S) x.1 x.2.1 x.2.2.1 x.2.2.2.1 x.2.2.2.2.1 (Int32.ofNat m) nu = some (y.1, y.2.1, y.2.2.1, y.2.2.2.1, y.2.2.2.2.1, y.2.2.2.2.2.1, y.2.2.2.2.2.2, nu') ∧ sz_dr y (sp_pc S m) ∧ ∀ l, l < m → S.testBit l = true → sz_ren x S y.1 y.2.1 y.2.2.1 y.2.2.2.1 l := by
  have hm := h.1
  unfold f_X2_keepOnly f_X2_clear
  rw [Option.bind_some]
  show ∃ (y : sp_PrT) (nu' : Nat → Int32), sp_bnd _ _ = _ ∧ _ ∧ _
  rw [sp_bndE]
  refine sz_lp_Q (fun o => ∃ (y : sp_PrT) (nu' : Nat → Int32), o = some (y.1, y.2.1, y.2.2.1, y.2.2.2.1, y.2.2.2.2.1, y.2.2.2.2.2.1, y.2.2.2.2.2.2, nu') ∧ sz_dr y (sp_pc S m) ∧ ∀ l, l < m → S.testBit l = true → sz_ren x S y.1 y.2.1 y.2.2.1 y.2.2.2.1 l) m (fun i s => ∃ (y : sp_PrT) (nu' : Nat → Int32), s = (Int32.ofNat i, y.1, y.2.1, y.2.2.1, y.2.2.2.1, y.2.2.2.2.1, y.2.2.2.2.2.1, y.2.2.2.2.2.2, nu') ∧ sz_dr y (sp_pc S i) ∧ (∀ l, i ≤ l → y.1 l = x.1 l ∧ y.2.1 l = x.2.1 l ∧ y.2.2.1 l = x.2.2.1 l ∧ y.2.2.2.1 l = x.2.2.2.1 l) ∧ ∀ l, l < i → S.testBit l = true → sz_ren x S y.1 y.2.1 y.2.2.1 y.2.2.2.1 l ∧ nu' l = Int32.ofNat (sp_pc S l)) ?_ ?_ sp_F _ (sp_F_lt (by omega)) ⟨(x.1, x.2.1, x.2.2.1, x.2.2.2.1, x.2.2.2.2.1, 0, 0), nu, rfl, ⟨by rw [sp_pc]; omega, rfl, fun l hl => by rw [sp_pc] at hl; omega, rfl, fun l hl => by rw [sp_pc] at hl; omega⟩, fun l _ => ⟨rfl, rfl, rfl, rfl⟩, fun l hl => by omega⟩
  · rintro i s hi ⟨y, nu', rfl, hy, ha, hr⟩
    right
    have hpi := sp_pc_le S i
    obtain ⟨y1, y2, y3, y4⟩ := ha i (Nat.le_refl _)
    by_cases hb : S.testBit i = true
    · have hpc : sp_pc S (i + 1) = sp_pc S i + 1 := by rw [sp_pc, if_pos hb]
      -- a new line with these numbers
      have hnew : ∀ a b t : Int32, sz_ok y (sp_pc S i) (x.1 i) a b t → t = x.2.2.2.1 i → a = (if x.2.2.2.1 i = -9 then -9 else Int32.ofNat (sp_pc S (x.2.1 i).toNatClampNeg)) → b = (if x.2.2.2.1 i = -9 then -9 else Int32.ofNat (sp_pc S (x.2.2.1 i).toNatClampNeg)) → sz_dr (sz_new y (sp_pc S i) (x.1 i) a b t) (sp_pc S (i + 1)) ∧ (∀ l, i + 1 ≤ l → (sz_new y (sp_pc S i) (x.1 i) a b t).1 l = x.1 l ∧ (sz_new y (sp_pc S i) (x.1 i) a b t).2.1 l = x.2.1 l ∧ (sz_new y (sp_pc S i) (x.1 i) a b t).2.2.1 l = x.2.2.1 l ∧ (sz_new y (sp_pc S i) (x.1 i) a b t).2.2.2.1 l = x.2.2.2.1 l) ∧ ∀ l, l < i + 1 → S.testBit l = true → sz_ren x S (sz_new y (sp_pc S i) (x.1 i) a b t).1 (sz_new y (sp_pc S i) (x.1 i) a b t).2.1 (sz_new y (sp_pc S i) (x.1 i) a b t).2.2.1 (sz_new y (sp_pc S i) (x.1 i) a b t).2.2.2.1 l ∧ upd nu' i (Int32.ofNat (sp_pc S i)) l = Int32.ofNat (sp_pc S l) := by
        intro a b t hok ht hA hB
        refine ⟨by rw [hpc]; exact sz_new_dr hy (by omega) hok, fun l hl => ?_, fun l hl hbl => ?_⟩
        · show upd y.1 (sp_pc S i) (x.1 i) l = _ ∧ upd y.2.1 (sp_pc S i) a l = _ ∧ upd y.2.2.1 (sp_pc S i) b l = _ ∧ upd y.2.2.2.1 (sp_pc S i) t l = _
          simp only [sz_upd_ne (show l ≠ sp_pc S i by omega)]
          exact ha l (by omega)
        · unfold sz_ren
          show (upd y.1 (sp_pc S i) (x.1 i) (sp_pc S l) = _ ∧ upd y.2.2.2.1 (sp_pc S i) t (sp_pc S l) = _ ∧ upd y.2.1 (sp_pc S i) a (sp_pc S l) = _ ∧ upd y.2.2.1 (sp_pc S i) b (sp_pc S l) = _) ∧ _
          by_cases e : l = i
          · subst e
            simp only [sz_upd_at]
            exact ⟨⟨trivial, ht, hA, hB⟩, trivial⟩
          · have hlt := sz_pc_lt (show l < i by omega) hbl
            simp only [sz_upd_ne (show sp_pc S l ≠ sp_pc S i by omega), sz_upd_ne e]
            exact hr l (by omega) hbl
      rcases sz_line h hi with ⟨g1, g2, g3⟩ | ⟨g, u, v, k, hu, hv, hk, e1, e2, e3, e4⟩
      · have hok : sz_ok y (sp_pc S i) (x.1 i) (-9) (-9) (-9) := ⟨(h.2.2.1 i hi).1, Or.inl ⟨rfl, rfl, rfl⟩⟩
        obtain ⟨k1, k2, k3⟩ := hnew (-9) (-9) (-9) hok g1.symm (by rw [if_pos g1]) (by rw [if_pos g1])
        refine ⟨_, ⟨sz_new y (sp_pc S i) (x.1 i) (-9) (-9) (-9), upd nu' i (Int32.ofNat (sp_pc S i)), rfl, k1, k2, k3⟩, fun rec => ?_⟩
        rw [f_X2_keepOnly_L13_eq, if_neg (fun q => by have := (sp_i_le (by omega) (by omega)).mp q; omega), sp_isIn hS (by omega), Option.bind_some, sp_bndE, if_pos hb, if_neg (by decide), sz_isG9 (by omega) (by rw [y2, g2]), Option.bind_some, if_neg (by decide), sp_ld_at (show i < 48 by omega) (by omega), y1]
        unfold f_X2_addGround
        rw [sz_add hy (by omega) hok, Option.bind_some, Option.bind_some]
        show sp_st _ _ _ _ _ = _
        rw [sp_st_at (show i < 48 by omega) (by omega)]
        simp only [sp_bndE, sp_i_succ]
      · obtain ⟨c1, c2⟩ := hcl i hi hb g
        have nu1 : (x.2.1 i).toNatClampNeg = u := by rw [e1, sp_i_nat (by omega)]
        have nv1 : (x.2.2.1 i).toNatClampNeg = v := by rw [e2, sp_i_nat (by omega)]
        rw [nu1] at c1
        rw [nv1] at c2
        obtain ⟨ru, rnu⟩ := hr u hu c1
        obtain ⟨rv, rnv⟩ := hr v hv c2
        have hok : sz_ok y (sp_pc S i) (x.1 i) (Int32.ofNat (sp_pc S u)) (Int32.ofNat (sp_pc S v)) (Int32.ofNat k) := ⟨(h.2.2.1 i hi).1, Or.inr ⟨sp_pc S u, sp_pc S v, k, sz_pc_lt hu c1, sz_pc_lt hv c2, hk, rfl, rfl, rfl, by rw [ru.1, rv.1]; exact e4⟩⟩
        obtain ⟨k1, k2, k3⟩ := hnew (Int32.ofNat (sp_pc S u)) (Int32.ofNat (sp_pc S v)) (Int32.ofNat k) hok e3.symm (by rw [if_neg g, nu1]) (by rw [if_neg g, nv1])
        refine ⟨_, ⟨sz_new y (sp_pc S i) (x.1 i) (Int32.ofNat (sp_pc S u)) (Int32.ofNat (sp_pc S v)) (Int32.ofNat k), upd nu' i (Int32.ofNat (sp_pc S i)), rfl, k1, k2, k3⟩, fun rec => ?_⟩
        rw [f_X2_keepOnly_L13_eq, if_neg (fun q => by have := (sp_i_le (by omega) (by omega)).mp q; omega), sp_isIn hS (by omega), Option.bind_some, sp_bndE, if_pos hb, if_neg (by decide), sz_isGc (u := u) (by omega) (by omega) (by rw [y2, e1]), Option.bind_some, if_pos rfl, sp_ld_at (show i < 48 by omega) (by omega), y1, sp_ld_at (show i < 48 by omega) (by omega), y2, e1, sp_ld_at (show u < 48 by omega) (by omega), rnu, sp_ld_at (show i < 48 by omega) (by omega), y3, e2, sp_ld_at (show v < 48 by omega) (by omega), rnv, sp_ld_at (show i < 48 by omega) (by omega), y4, e3, sz_add hy (by omega) hok, Option.bind_some]
        show sp_st _ _ _ _ _ = _
        rw [sp_st_at (show i < 48 by omega) (by omega)]
        simp only [sp_bndE, sp_i_succ]
    · have hpc : sp_pc S (i + 1) = sp_pc S i := by rw [sp_pc, if_neg hb]; rfl
      refine ⟨(Int32.ofNat (i + 1), y.1, y.2.1, y.2.2.1, y.2.2.2.1, y.2.2.2.2.1, y.2.2.2.2.2.1, y.2.2.2.2.2.2, nu'), ⟨y, nu', rfl, by rw [hpc]; exact hy, fun l hl => ha l (by omega), fun l hl hbl => ?_⟩, fun rec => ?_⟩
      · by_cases e : l = i
        · rw [e] at hbl; exact absurd hbl hb
        · exact hr l (by omega) hbl
      · rw [f_X2_keepOnly_L13_eq, if_neg (fun q => by have := (sp_i_le (by omega) (by omega)).mp q; omega), sp_isIn hS (by omega), Option.bind_some, sp_bndE, if_neg hb, if_pos rfl]
        simp only [sp_bndE, sp_i_succ]
  · rintro s ⟨y, nu', rfl, hy, ha, hr⟩
    exact ⟨_, ⟨y, nu', rfl, hy, fun l hl hb => (hr l hl hb).1⟩, fun rec => by rw [f_X2_keepOnly_L13_eq, if_pos ((sp_i_le (by omega) (by omega)).mpr (Nat.le_refl _))]⟩
