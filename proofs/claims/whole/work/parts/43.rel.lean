/-! class and reference: what holds between two calls -/
def sp_lineOK (cl le ri lt : Nat → Int32) (l : Nat) : Prop := f_X10_isClause (cl l) = some 1 ∧ ((le l = -9 ∧ ri l = -9 ∧ lt l = -9) ∨ ∃ i j k : Nat, i < l ∧ j < l ∧ k < 6 ∧ le l = Int32.ofNat i ∧ ri l = Int32.ofNat j ∧ lt l = Int32.ofNat k ∧ f_X10_cutOf (cl i) (cl j) (Int32.ofNat k) = some (cl l))
def sp_gn (lt : Nat → Int32) : Nat → Nat
  | 0 => 0
  | n + 1 => sp_gn lt n + (if lt n = -9 then 1 else 0)
/-- a proof of n lines, with its grounds in a row -/
def sp_prOK (x : sp_PrT) (n : Nat) : Prop := 1 ≤ n ∧ n ≤ 24 ∧ x.2.2.2.2.2.1 = Int32.ofNat n ∧ (∀ l, l < n → sp_lineOK x.1 x.2.1 x.2.2.1 x.2.2.2.1 l) ∧ x.2.2.2.2.2.2 = Int32.ofNat (sp_gn x.2.2.2.1 n) ∧ ∀ l, l < n → x.2.2.2.1 l = -9 → x.2.2.2.2.1 (sp_gn x.2.2.2.1 l) = Int32.ofNat l
def sp_RelP (x : sp_PrT) (mn cl le ri lt : Nat → Int32) (p : Nat) : Prop := ∃ n : Nat, sp_prOK x n ∧ mn p = Int32.ofNat n ∧ ∀ l, l < n → cl (24 * p + l) = x.1 l ∧ le (24 * p + l) = x.2.1 l ∧ ri (24 * p + l) = x.2.2.1 l ∧ lt (24 * p + l) = x.2.2.2.1 l
def sp_RelS (x : sp_ShT) (la sl ce : Nat → Int32) (k : Nat) : Prop := ((la k = -9 ∧ x.2.1 = -1) ∨ (la k = x.2.1 ∧ (x.2.1 = 0 ∨ x.2.1 = 1 ∨ x.2.1 = 2))) ∧ (∃ n : Nat, n ≤ 60 ∧ x.2.2 = Int32.ofNat n ∧ sl k = Int32.ofNat n) ∧ ∀ i, i < 60 → ce (60 * k + i) = x.1 i
/-- the order that stands is that of a proof -/
def sp_cacheOK (o : ((Nat → Int32) × Int32 × Int32 × (Nat → Int32) × (Nat → Int32) × (Nat → Int32) × (Nat → Int32))) (x : sp_PrT) : Prop := ∃ o0 : ((Nat → Int32) × Int32 × Int32 × (Nat → Int32) × (Nat → Int32) × (Nat → Int32) × (Nat → Int32)), f_X1_arrange o0.1 o0.2.2.2.1 o0.2.2.2.2.1 o0.2.2.2.2.2.1 o0.2.2.2.2.2.2 x.2.1 x.2.2.1 x.2.2.2.2.2.1 = some (o.1, o.2.1, o.2.2.1, o.2.2.2.1, o.2.2.2.2.1, o.2.2.2.2.2.1, o.2.2.2.2.2.2)
def sp_Rel (x : sp_XS) (y : sp_MS) : Prop := ∃ N : Nat, N ≤ 12 ∧ x.2.2.2.2.2.2.2.2.2.1 = Int32.ofNat N ∧ y.2.2.2.2.2.1 = Int32.ofNat N ∧ x.2.2.2.2.2.2.2.2.2.2.2.1 = y.1 ∧ x.2.2.2.2.2.2.2.2.2.2.2.2 = y.2.1 ∧ (∀ k, k < 4 → sp_RelS (x.2.1 k) y.2.2.1 y.2.2.2.1 y.2.2.2.2.1 k) ∧ (∀ p, p < N → sp_RelP (x.1 p) y.2.2.2.2.2.2.1 y.2.2.2.2.2.2.2.1 y.2.2.2.2.2.2.2.2.1 y.2.2.2.2.2.2.2.2.2.1 y.2.2.2.2.2.2.2.2.2.2.1 p) ∧ (x.2.2.2.2.2.2.2.2.2.2.1 = -1 ∨ ∃ p : Nat, p < N ∧ x.2.2.2.2.2.2.2.2.2.2.1 = Int32.ofNat p ∧ sp_cacheOK x.2.2.2.2.2.1 (x.1 p))
