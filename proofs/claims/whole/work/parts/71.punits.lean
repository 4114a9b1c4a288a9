/-! units alone -/
theorem sp_pc_mono {a b : Nat} : ∀ n, (∀ j, j < n → a.testBit j = true → b.testBit j = true) → sp_pc a n ≤ sp_pc b n
  | 0, _ => Nat.le_refl _
  | n + 1, h => by
    have ih := sp_pc_mono n (fun j hj => h j (by omega))
    have hh := h n (by omega)
    rw [sp_pc, sp_pc]
    by_cases q : a.testBit n = true
    · rw [if_pos q, if_pos (hh q)]; omega
    · rw [if_neg q]; omega
theorem sp_pc_strict {a b j : Nat} (ha : a.testBit j = false) (hb : b.testBit j = true) : ∀ n, j < n → (∀ j, j < n → a.testBit j = true → b.testBit j = true) → sp_pc a n < sp_pc b n
  | 0, hj, _ => by omega
  | n + 1, hj, h => by
    have hh := h n (by omega)
    rw [sp_pc, sp_pc]
    by_cases e : j = n
    · subst e
      have := sp_pc_mono j (fun i hi => h i (by omega))
      rw [ha, if_neg (by decide), if_pos hb]; omega
    · have ih := sp_pc_strict ha hb n (by omega) (fun j hj => h j (by omega))
      by_cases q : a.testBit n = true
      · rw [if_pos q, if_pos (hh q)]; omega
      · rw [if_neg q]; omega
/-- each sign's other one -/
def sp_on (v : Nat) : Nat := if v < 64 then v * 64 else v / 64
def sp_oj (j : Nat) : Nat := if j < 6 then j + 6 else j - 6
theorem sp_pow_all : (List.range 4096).all (fun v => decide (sp_pc v 24 = 1) → ((List.range 12).any (fun j => v == 2 ^ j))) = true := by decide +kernel
theorem sp_pow {v : Nat} (hv : v < 4096) (h : sp_pc v 24 = 1) : ∃ j, j < 12 ∧ v = 2 ^ j := by
  have := of_decide_eq_true (sp_4096 _ sp_pow_all v hv) (decide_eq_true h)
  obtain ⟨j, h1, h2⟩ := List.any_eq_true.mp this
  exact ⟨j, List.mem_range.mp h1, by simpa using h2⟩
theorem sp_on_pow : ∀ j, j < 12 → sp_on (2 ^ j) = 2 ^ sp_oj j ∧ sp_pc (2 ^ j) 24 = 1 ∧ f_X0_others (Int32.ofNat (2 ^ j)) = some (Int32.ofNat (2 ^ sp_oj j)) ∧ (if (64 : Int32) ≤ Int32.ofNat (2 ^ j) then Int32.ofNat (2 ^ j) >>> ((6 : Int32) &&& 31) else Int32.ofNat (2 ^ j) <<< ((6 : Int32) &&& 31)) = Int32.ofNat (2 ^ sp_oj j) ∧ sp_oj j < 12 ∧ sp_oj (sp_oj j) = j := by decide +kernel
/-- what a ground tells -/
def sp_u (c K : Nat) : Nat := if sp_pc (c ^^^ (c &&& K)) 24 = 1 ∧ K &&& sp_on (c ^^^ (c &&& K)) = 0 then K ||| sp_on (c ^^^ (c &&& K)) else K
theorem sp_u_cases {c K : Nat} (hc : c < 4096) : (sp_u c K = K) ∨ ∃ j, j < 12 ∧ c ^^^ (c &&& K) = 2 ^ j ∧ K.testBit j = false ∧ K.testBit (sp_oj j) = false ∧ sp_u c K = K ||| 2 ^ sp_oj j := by
  unfold sp_u
  have hlt := sb_nd_lt (b := K) (show c < 2 ^ 12 by omega)
  split
  · rename_i hh
    right
    obtain ⟨j, hj, e⟩ := sp_pow (by omega) hh.1
    obtain ⟨o1, -, -, -, o5, -⟩ := sp_on_pow j hj
    rw [e, o1] at hh
    refine ⟨j, hj, e, ?_, ?_, by rw [e, o1]⟩
    · have := congrArg (fun v => Nat.testBit v j) e
      simp only [Nat.testBit_xor, Nat.testBit_and, Nat.testBit_two_pow_self] at this
      cases h1 : c.testBit j <;> cases h2 : K.testBit j <;> simp [h1, h2] at this ⊢
    · have := (sb_and0 (a := K) (m := 2 ^ sp_oj j) (N := 12) (Nat.pow_lt_pow_right (by omega) o5)).mp hh.2 (sp_oj j) o5
      rw [Nat.testBit_two_pow_self] at this
      cases h2 : K.testBit (sp_oj j)
      · rfl
      · exact absurd ⟨h2, rfl⟩ this
  · left; rfl
def sp_sub (a b : Nat) : Prop := ∀ j, a.testBit j = true → b.testBit j = true
theorem sp_u_sub {c K : Nat} : sp_sub K (sp_u c K) := by
  intro j hj
  unfold sp_u
  split
  · rw [Nat.testBit_or, hj, Bool.true_or]
  · exact hj
theorem sp_u_lt {c K : Nat} (hc : c < 4096) (hK : K < 4096) : sp_u c K < 4096 := by
  rcases sp_u_cases (K := K) hc with e | ⟨j, hj, -, -, -, e⟩
  · rw [e]; exact hK
  · rw [e]
    obtain ⟨-, -, -, -, o5, -⟩ := sp_on_pow j hj
    exact Nat.or_lt_two_pow (n := 12) hK (Nat.pow_lt_pow_right (by omega) o5)
/-- how many letters are known -/
def sp_mu (K : Nat) : Nat := sp_pc (K ||| K / 2 ^ 6) 6
theorem sp_mu_bit (K j : Nat) : (K ||| K / 2 ^ 6).testBit j = (K.testBit j || K.testBit (j + 6)) := by
  rw [Nat.testBit_or, Nat.testBit_div_two_pow]
theorem sp_mu_mono {a b : Nat} (h : sp_sub a b) : sp_mu a ≤ sp_mu b := by
  apply sp_pc_mono
  intro j _
  rw [sp_mu_bit, sp_mu_bit, Bool.or_eq_true, Bool.or_eq_true]
  exact Or.imp (h j) (h (j + 6))
theorem sp_u_mu {c K : Nat} (hc : c < 4096) (h : sp_u c K ≠ K) : sp_mu K < sp_mu (sp_u c K) := by
  rcases sp_u_cases (K := K) hc with e | ⟨j, hj, -, b1, b2, e⟩
  · exact absurd e h
  · have hsub : sp_sub K (sp_u c K) := sp_u_sub
    have hm : ∀ i, i < 6 → (K ||| K / 2 ^ 6).testBit i = true → (sp_u c K ||| sp_u c K / 2 ^ 6).testBit i = true := by
      intro i _
      rw [sp_mu_bit, sp_mu_bit, Bool.or_eq_true, Bool.or_eq_true]
      exact Or.imp (hsub i) (hsub (i + 6))
    have hnew : (sp_u c K).testBit (sp_oj j) = true := by rw [e, Nat.testBit_or, Nat.testBit_two_pow_self, Bool.or_true]
    by_cases h6 : j < 6
    · have o : sp_oj j = j + 6 := by unfold sp_oj; rw [if_pos h6]
      rw [o] at b2 hnew
      exact sp_pc_strict (j := j) (by rw [sp_mu_bit, b1, b2]; rfl) (by rw [sp_mu_bit, hnew, Bool.or_true]) 6 h6 hm
    · have o : sp_oj j = j - 6 := by unfold sp_oj; rw [if_neg h6]
      rw [o] at b2 hnew
      exact sp_pc_strict (j := j - 6) (by rw [sp_mu_bit, b2, show j - 6 + 6 = j by omega, b1]; rfl) (by rw [sp_mu_bit, hnew, Bool.true_or]) 6 (by omega) hm
/-- one going through the grounds, by lines -/
def sp_pl (x : sp_PrT) (K : Nat) : Nat → Nat
  | 0 => K
  | l + 1 => if x.2.2.2.1 l = -9 then sp_u (x.1 l).toNatClampNeg (sp_pl x K l) else sp_pl x K l
theorem sp_c4 {x : sp_PrT} {n l : Nat} (h : sp_prOK x n) (hl : l < n) : (x.1 l).toNatClampNeg < 4096 ∧ x.1 l = Int32.ofNat (x.1 l).toNatClampNeg := by
  obtain ⟨c, hc, e⟩ := sp_clN h hl
  rw [e, sp_i_nat (by omega)]
  exact ⟨hc, rfl⟩
theorem sp_pl_lt {x : sp_PrT} {n K : Nat} (h : sp_prOK x n) (hK : K < 4096) : ∀ l, l ≤ n → sp_pl x K l < 4096
  | 0, _ => hK
  | l + 1, hl => by
    have ih := sp_pl_lt h hK l (by omega)
    rw [sp_pl]
    split
    · exact sp_u_lt (sp_c4 h (by omega)).1 ih
    · exact ih
theorem sp_pl_step {x : sp_PrT} {K l : Nat} : sp_sub (sp_pl x K l) (sp_pl x K (l + 1)) := by
  intro j hj
  rw [sp_pl]
  split
  · exact sp_u_sub j hj
  · exact hj
theorem sp_pl_sub {x : sp_PrT} {K : Nat} : ∀ d l, sp_sub (sp_pl x K l) (sp_pl x K (l + d))
  | 0, _ => fun _ h => h
  | d + 1, l => fun j hj => sp_pl_step j (sp_pl_sub d l j hj)
theorem sp_pl_sub0 {x : sp_PrT} {K n : Nat} : sp_sub K (sp_pl x K n) := by
  have := sp_pl_sub (x := x) (K := K) n 0
  rw [Nat.zero_add] at this
  exact this
theorem sp_sub_eq {a b : Nat} (h1 : sp_sub a b) (h2 : sp_sub b a) : a = b := by
  apply Nat.eq_of_testBit_eq
  intro j
  cases h : a.testBit j <;> cases h' : b.testBit j
  · rfl
  · have := h2 j h'; rw [h] at this; exact this
  · have := h1 j h; rw [h'] at this; exact this.symm
  · rfl
theorem sp_pl_mu {x : sp_PrT} {n K : Nat} (h : sp_prOK x n) : ∀ l, l ≤ n → sp_pl x K l ≠ K → sp_mu K < sp_mu (sp_pl x K l)
  | 0, _, hne => absurd rfl hne
  | l + 1, hl, hne => by
    by_cases e : sp_pl x K l = K
    · rw [sp_pl] at hne ⊢
      split
      · rename_i hg
        rw [if_pos hg, e] at hne
        rw [e]
        exact sp_u_mu (sp_c4 h (by omega)).1 hne
      · rename_i hg
        rw [if_neg hg] at hne
        exact absurd e hne
    · exact Nat.lt_of_lt_of_le (sp_pl_mu h l (by omega) e) (sp_mu_mono sp_pl_step)
/-- going through again and again -/
def sp_it (x : sp_PrT) (n K : Nat) : Nat → Nat
  | 0 => K
  | i + 1 => sp_pl x (sp_it x n K i) n
theorem sp_it_lt {x : sp_PrT} {n K : Nat} (h : sp_prOK x n) (hK : K < 4096) : ∀ i, sp_it x n K i < 4096
  | 0 => hK
  | i + 1 => sp_pl_lt h (sp_it_lt h hK i) n (Nat.le_refl _)
theorem sp_it_mu {x : sp_PrT} {n K : Nat} (h : sp_prOK x n) : ∀ i, sp_it x n K (i + 1) ≠ sp_it x n K i → i + 1 ≤ sp_mu (sp_it x n K (i + 1))
  | 0, hne => by
    have := sp_pl_mu h n (Nat.le_refl _) hne
    exact Nat.lt_of_le_of_lt (Nat.zero_le _) this
  | i + 1, hne => by
    have hp : sp_it x n K (i + 1) ≠ sp_it x n K i := by
      intro e
      apply hne
      rw [sp_it, e]
      exact e
    have ih := sp_it_mu h i hp
    have := sp_pl_mu h n (Nat.le_refl _) hne
    exact Nat.lt_of_le_of_lt ih this
theorem sp_it_fix {x : sp_PrT} {n K : Nat} (h : sp_prOK x n) : sp_it x n K 7 = sp_it x n K 6 := by
  apply Classical.byContradiction
  intro hne
  have h1 : 7 ≤ sp_mu (sp_it x n K 7) := sp_it_mu h 6 hne
  have h2 : sp_mu (sp_it x n K 7) ≤ 6 := sp_pc_le _ _
  omega
theorem sp_it_same {x : sp_PrT} {n K i : Nat} (e : sp_it x n K (i + 1) = sp_it x n K i) : ∀ d, sp_it x n K (i + d) = sp_it x n K i
  | 0 => rfl
  | d + 1 => by
    rw [← Nat.add_assoc, sp_it, sp_it_same e d]
    exact e
theorem sp_it_sub {x : sp_PrT} {n K i : Nat} : ∀ d, sp_sub (sp_it x n K i) (sp_it x n K (i + d))
  | 0 => fun _ h => h
  | d + 1 => fun j hj => sp_pl_sub0 j (sp_it_sub d j hj)
/-- the step of the programs -/
theorem sp_uX {c K : Nat} (hc : c < 4096) (k : Int32 → Option Int32) : (f_J6_bitCount_0f7a4 (Int32.ofNat (c ^^^ (c &&& K)))).bind (fun r8 => if r8 = (1 : Int32) then (Option.bind (f_X0_others (Int32.ofNat (c ^^^ (c &&& K)))) (fun r12 => Option.bind (f_X0_isPart r12 (Int32.ofNat K)) (fun r13 => if r13 = 0 then (Option.bind (f_X0_others (Int32.ofNat (c ^^^ (c &&& K)))) (fun r14 => k (Int32.ofNat K ||| r14))) else (k (Int32.ofNat K))))) else (k (Int32.ofNat K))) = k (Int32.ofNat (sp_u c K)) := by
  have hlt := sb_nd_lt (b := K) (show c < 2 ^ 12 by omega)
  unfold sp_u
  rw [sp_bitCount (by omega)]
  simp only [Option.bind_some]
  have hle := sp_pc_le (c ^^^ (c &&& K)) 24
  by_cases h1 : sp_pc (c ^^^ (c &&& K)) 24 = 1
  · rw [if_pos (show Int32.ofNat (sp_pc (c ^^^ (c &&& K)) 24) = (1 : Int32) by rw [h1]; rfl)]
    obtain ⟨j, hj, e⟩ := sp_pow (by omega) h1
    obtain ⟨o1, -, o3, -, o5, -⟩ := sp_on_pow j hj
    rw [e] at h1 ⊢
    rw [o3, o1]
    simp only [Option.bind_some, sp_isPart_bit (show sp_oj j < 31 by omega), sb_or32]
    have hk := sb_and0 (a := K) (m := 2 ^ sp_oj j) (N := 12) (Nat.pow_lt_pow_right (by omega) o5)
    cases hb : K.testBit (sp_oj j)
    · rw [if_pos (by simp), if_pos]
      refine ⟨h1, hk.mpr ?_⟩
      intro i hi hh
      rw [Nat.testBit_two_pow] at hh
      have : sp_oj j = i := of_decide_eq_true hh.2
      rw [← this, hb] at hh
      exact absurd hh.1 (by decide)
    · rw [if_neg (by simp), if_neg]
      rintro ⟨-, hz⟩
      exact hk.mp hz (sp_oj j) o5 ⟨hb, Nat.testBit_two_pow_self⟩
  · rw [if_neg (show ¬ Int32.ofNat (sp_pc (c ^^^ (c &&& K)) 24) = (1 : Int32) from fun q => h1 ((sp_i_inj (j := 1) (by omega) (by omega)).mp q)), if_neg (fun q => h1 q.1)]
theorem sp_uM {c K : Nat} (hc : c < 4096) (k : Int32 → Int32 → Option Int32) (y7 : Int32) (x21 : Int32) (hx : x21 = if (64 : Int32) ≤ Int32.ofNat (c ^^^ (c &&& K)) then Int32.ofNat (c ^^^ (c &&& K)) >>> ((6 : Int32) &&& 31) else Int32.ofNat (c ^^^ (c &&& K)) <<< ((6 : Int32) &&& 31)) : Option.bind (f_X10_bitsOf (Int32.ofNat (c ^^^ (c &&& K)))) (fun r23 => if r23 = (1 : Int32) then (if (Int32.ofNat K &&& x21) = 0 then (k (Int32.ofNat K ||| x21) (1 : Int32)) else (k (Int32.ofNat K) y7)) else (k (Int32.ofNat K) y7)) = k (Int32.ofNat (sp_u c K)) (if sp_u c K = K then y7 else 1) := by
  have hlt := sb_nd_lt (b := K) (show c < 2 ^ 12 by omega)
  unfold sp_u
  rw [sp_bitsOf (by omega)]
  simp only [Option.bind_some]
  have hle := sp_pc_le (c ^^^ (c &&& K)) 24
  by_cases h1 : sp_pc (c ^^^ (c &&& K)) 24 = 1
  · rw [if_pos (show Int32.ofNat (sp_pc (c ^^^ (c &&& K)) 24) = (1 : Int32) by rw [h1]; rfl)]
    obtain ⟨j, hj, e⟩ := sp_pow (by omega) h1
    obtain ⟨o1, -, -, o4, o5, -⟩ := sp_on_pow j hj
    rw [e] at h1 hx ⊢
    rw [o4] at hx
    rw [hx, o1, sb_and32, sb_or32]
    have hz := sb_zero32 (a := K &&& 2 ^ sp_oj j) (Nat.and_lt_two_pow _ (Nat.pow_lt_pow_right (by omega) (by omega)))
    have hk := sb_and0 (a := K) (m := 2 ^ sp_oj j) (N := 12) (Nat.pow_lt_pow_right (by omega) o5)
    by_cases hq : K &&& 2 ^ sp_oj j = 0
    · have hne : ¬ (K ||| 2 ^ sp_oj j = K) := by
        intro q
        have := congrArg (fun v => Nat.testBit v (sp_oj j)) q
        simp only [Nat.testBit_or, Nat.testBit_two_pow_self, Bool.or_true] at this
        exact hk.mp hq (sp_oj j) o5 ⟨this.symm, Nat.testBit_two_pow_self⟩
      rw [if_pos (hz.mpr hq), if_pos ⟨h1, hq⟩, if_neg hne]
    · rw [if_neg (fun q => hq (hz.mp q)), if_neg (fun q => hq q.2), if_pos rfl]
  · rw [if_neg (show ¬ Int32.ofNat (sp_pc (c ^^^ (c &&& K)) 24) = (1 : Int32) from fun q => h1 ((sp_i_inj (j := 1) (by omega) (by omega)).mp q)), if_neg (fun q => h1 q.1), if_pos rfl]
/-- a ground is wholly not true -/
def sp_hit (x : sp_PrT) (n K : Nat) : Prop := ∃ l, l < n ∧ x.2.2.2.1 l = -9 ∧ sp_sub (x.1 l).toNatClampNeg K
