/-! cuts: small clauses as three digits, as six bits -/
def sz_or (f : Nat → Nat) : Nat → Nat
  | 0 => 0
  | n + 1 => sz_or f n ||| f n
theorem sz_or_s (f : Nat → Nat) (n : Nat) : sz_or f (n + 1) = sz_or f n ||| f n := rfl
theorem sz_or_bit (f : Nat → Nat) (j : Nat) : ∀ n, (sz_or f n).testBit j = true ↔ ∃ i, i < n ∧ (f i).testBit j = true
  | 0 => by
    rw [sz_or, Nat.zero_testBit]
    exact ⟨fun h => absurd h (by decide), fun ⟨i, hi, _⟩ => by omega⟩
  | n + 1 => by
    rw [sz_or_s, Nat.testBit_or, Bool.or_eq_true, sz_or_bit f j n]
    constructor
    · rintro (⟨i, h1, h2⟩ | h)
      · exact ⟨i, by omega, h2⟩
      · exact ⟨n, by omega, h⟩
    · rintro ⟨i, h1, h2⟩
      by_cases e : i = n
      · right; rw [← e]; exact h2
      · exact Or.inl ⟨i, by omega, h2⟩
theorem sz_or_lt {f : Nat → Nat} {N : Nat} : ∀ n, (∀ i, i < n → f i < 2 ^ N) → sz_or f n < 2 ^ N
  | 0, _ => Nat.two_pow_pos _
  | n + 1, h => by
    rw [sz_or_s]
    exact Nat.or_lt_two_pow (sz_or_lt n (fun i hi => h i (by omega))) (h n (by omega))
def sz_dg (a k : Nat) : Nat := if a / 3 ^ k % 3 = 1 then 2 ^ k else if a / 3 ^ k % 3 = 2 then 2 ^ (k + 6) else 0
/-- the clause of a number below 27 -/
def sz_tcl (a : Nat) : Nat := sz_or (sz_dg a) 3
def sz_dc (c k : Nat) : Nat := if c.testBit k = true then 1 else if c.testBit (k + 6) = true then 2 else 0
/-- the number of a clause -/
def sz_so (c : Nat) : Nat := 3 * (3 * (3 * 0 + sz_dc c 2) + sz_dc c 1) + sz_dc c 0
def sz_one (a b k : Nat) : Nat := if (sz_tcl a).testBit k = true ∧ (sz_tcl b).testBit (k + 6) = true ∧ f_X10_isClause (Int32.ofNat (sz_cn (sz_tcl a) (sz_tcl b) k)) = some 1 then 2 ^ sz_so (sz_cn (sz_tcl a) (sz_tcl b) k) else 0
/-- all cuts of two clauses -/
def sz_su (a b : Nat) : Nat := sz_or (sz_one a b) 3
/-- six bits of a small clause -/
def sz_cd (c : Nat) : Nat := (c &&& 7) ||| (c / 2 ^ 6 &&& 7) * 8
def sz_tc6 (a : Nat) : Nat := sz_cd (sz_tcl a)
/-- a set of clauses, by six bits each -/
def sz_H (S : Nat) : Nat := sz_or (fun a => if S.testBit a = true then 2 ^ sz_tc6 a else 0) 27
def sz_cl6 (c o : Nat) : Nat := ((c &&& o / 2 ^ 3) ||| (c / 2 ^ 3 &&& o)) &&& 7
def sz_cw6 (c o : Nat) : Nat := if sp_pc (sz_cl6 c o) 24 = 1 then 2 ^ sp_nd (c ||| o) (sz_cl6 c o ||| sz_cl6 c o * 8) else 0
/-- the clauses stronger than one -/
def sz_good (d : Nat) : Nat := sz_or (fun a => if sp_nd (sz_tcl a) (sz_tcl d) = 0 then 2 ^ a else 0) 27
theorem sz_T1 : (List.range 27).all (fun a => decide (sz_tcl a < 4096) && (decide (f_X10_isClause (Int32.ofNat (sz_tcl a)) = some 1) && (decide (sz_tc6 a < 57) && decide (sz_so (sz_tcl a) = a)))) = true := by decide +kernel
theorem sz_T2 : (List.range 27).all (fun a => (List.range 27).all (fun b => decide (a = b) || !decide (sz_tc6 a = sz_tc6 b))) = true := by decide +kernel
theorem sz_T3 : (List.range 27).all (fun a => (List.range 27).all (fun b => decide (sz_su a b < 2 ^ 27) && (decide (sz_cw6 (sz_tc6 a) (sz_tc6 b) = sz_H (sz_su a b ||| sz_su b a)) && (!decide (sp_pc (sz_cl6 (sz_tc6 a) (sz_tc6 b)) 24 = 1) || decide (sp_nd (sz_tc6 a ||| sz_tc6 b) (sz_cl6 (sz_tc6 a) (sz_tc6 b) ||| sz_cl6 (sz_tc6 a) (sz_tc6 b) * 8) < 57))))) = true := by decide +kernel
theorem sz_T4 : (List.range 27).all (fun a => decide (sz_su a a = 0)) = true := by decide +kernel
theorem sz_T5 : (List.range 27).all (fun d => decide (sz_or (fun c => if sp_nd c (sz_tc6 d) = 0 then 2 ^ c else 0) 64 = sz_H (sz_good d)) && !decide (sp_nd 63 (sz_tc6 d) = 0)) = true := by decide +kernel
theorem sz_T6 : (List.range 4096).all (fun c => !decide (f_X10_isClause (Int32.ofNat c) = some 1) || (decide (f_X10_isSmall (Int32.ofNat c) = f_X0_isSmall (Int32.ofNat c)) && (decide (f_X0_isSmall (Int32.ofNat c) = some 0) || (decide (f_X0_isSmall (Int32.ofNat c) = some 1) && (decide (sz_so c < 27) && decide (sz_tcl (sz_so c) = c)))))) = true := by decide +kernel
theorem sz_t1' {a : Nat} (ha : a < 27) : sz_tcl a < 4096 ∧ f_X10_isClause (Int32.ofNat (sz_tcl a)) = some 1 ∧ sz_tc6 a < 57 ∧ sz_so (sz_tcl a) = a := by
  have t := List.all_eq_true.mp sz_T1 a (List.mem_range.mpr ha)
  simp only [Bool.and_eq_true, decide_eq_true_iff] at t
  exact t
theorem sz_tinj {a b : Nat} (ha : a < 27) (hb : b < 27) (h : sz_tc6 a = sz_tc6 b) : a = b := by
  have t := List.all_eq_true.mp (List.all_eq_true.mp sz_T2 a (List.mem_range.mpr ha)) b (List.mem_range.mpr hb)
  rw [decide_eq_true h] at t
  simpa using t
theorem sz_t3' {a b : Nat} (ha : a < 27) (hb : b < 27) : sz_su a b < 2 ^ 27 ∧ sz_cw6 (sz_tc6 a) (sz_tc6 b) = sz_H (sz_su a b ||| sz_su b a) ∧ (sp_pc (sz_cl6 (sz_tc6 a) (sz_tc6 b)) 24 = 1 → sp_nd (sz_tc6 a ||| sz_tc6 b) (sz_cl6 (sz_tc6 a) (sz_tc6 b) ||| sz_cl6 (sz_tc6 a) (sz_tc6 b) * 8) < 57) := by
  have t := List.all_eq_true.mp (List.all_eq_true.mp sz_T3 a (List.mem_range.mpr ha)) b (List.mem_range.mpr hb)
  rw [Bool.and_eq_true, Bool.and_eq_true] at t
  refine ⟨of_decide_eq_true t.1, of_decide_eq_true t.2.1, fun q => ?_⟩
  have t2 := t.2.2
  rw [decide_eq_true q] at t2
  exact of_decide_eq_true t2
theorem sz_t4' {a : Nat} (ha : a < 27) : sz_su a a = 0 := of_decide_eq_true (List.all_eq_true.mp sz_T4 a (List.mem_range.mpr ha))
theorem sz_t5' {d : Nat} (hd : d < 27) : sz_or (fun c => if sp_nd c (sz_tc6 d) = 0 then 2 ^ c else 0) 64 = sz_H (sz_good d) ∧ ¬ sp_nd 63 (sz_tc6 d) = 0 := by
  have t := List.all_eq_true.mp sz_T5 d (List.mem_range.mpr hd)
  rw [Bool.and_eq_true] at t
  refine ⟨of_decide_eq_true t.1, fun q => ?_⟩
  have t2 := t.2
  rw [decide_eq_true q] at t2
  exact absurd t2 (by decide)
theorem sz_small {c : Int32} (h : f_X10_isClause c = some 1) : (f_X0_isSmall c = some 0 ∧ f_X10_isSmall c = some 0) ∨ (∃ a, a < 27 ∧ c = Int32.ofNat (sz_tcl a) ∧ f_X0_isSmall c = some 1 ∧ f_X10_isSmall c = some 1) := by
  obtain ⟨n, hn, rfl⟩ := sp_isClause1 h
  have t := sp_4096 _ sz_T6 n hn
  rw [decide_eq_true h, Bool.not_true, Bool.false_or, Bool.and_eq_true, Bool.or_eq_true, Bool.and_eq_true, Bool.and_eq_true] at t
  have t1 := of_decide_eq_true t.1
  rcases t.2 with q | q
  · left
    have q1 := of_decide_eq_true q
    exact ⟨q1, t1.trans q1⟩
  · right
    have q1 := of_decide_eq_true q.1
    exact ⟨sz_so n, of_decide_eq_true q.2.1, by rw [of_decide_eq_true q.2.2], q1, t1.trans q1⟩
theorem sz_H_bit (S j : Nat) : (sz_H S).testBit j = true ↔ ∃ a, a < 27 ∧ S.testBit a = true ∧ sz_tc6 a = j := by
  unfold sz_H
  rw [sz_or_bit]
  constructor
  · rintro ⟨a, h1, h2⟩
    by_cases q : S.testBit a = true
    · rw [if_pos q, Nat.testBit_two_pow, decide_eq_true_iff] at h2
      exact ⟨a, h1, q, h2⟩
    · rw [if_neg q, Nat.zero_testBit] at h2
      exact absurd h2 (by decide)
  · rintro ⟨a, h1, h2, h3⟩
    exact ⟨a, h1, by rw [if_pos h2, Nat.testBit_two_pow, decide_eq_true_iff]; exact h3⟩
theorem sz_H_at (S : Nat) {a : Nat} (ha : a < 27) : (sz_H S).testBit (sz_tc6 a) = true ↔ S.testBit a = true := by
  rw [sz_H_bit]
  constructor
  · rintro ⟨b, h1, h2, h3⟩
    rw [← sz_tinj h1 ha h3]; exact h2
  · intro h
    exact ⟨a, ha, h, rfl⟩
theorem sz_H_lt (S : Nat) : sz_H S < 2 ^ 57 := by
  unfold sz_H
  refine sz_or_lt 27 (fun a ha => ?_)
  split
  · exact Nat.pow_lt_pow_right (by omega) (sz_t1' ha).2.2.1
  · exact Nat.two_pow_pos _
theorem sz_H63 (S : Nat) : sz_H S < 2 ^ 63 := Nat.lt_of_lt_of_le (sz_H_lt S) (Nat.pow_le_pow_right (by omega) (by omega))
theorem sz_bool_ext {a b : Bool} (h : a = true ↔ b = true) : a = b := by
  cases a <;> cases b <;> simp_all
theorem sz_nat_ext {a b : Nat} (h : ∀ j, a.testBit j = true ↔ b.testBit j = true) : a = b := Nat.eq_of_testBit_eq (fun j => sz_bool_ext (h j))
theorem sz_H_or (S T : Nat) : sz_H (S ||| T) = sz_H S ||| sz_H T := by
  apply sz_nat_ext
  intro j
  rw [Nat.testBit_or, Bool.or_eq_true, sz_H_bit, sz_H_bit, sz_H_bit]
  constructor
  · rintro ⟨a, h1, h2, h3⟩
    rw [Nat.testBit_or, Bool.or_eq_true] at h2
    rcases h2 with h2 | h2
    · exact Or.inl ⟨a, h1, h2, h3⟩
    · exact Or.inr ⟨a, h1, h2, h3⟩
  · rintro (⟨a, h1, h2, h3⟩ | ⟨a, h1, h2, h3⟩)
    · exact ⟨a, h1, by rw [Nat.testBit_or, h2, Bool.true_or], h3⟩
    · exact ⟨a, h1, by rw [Nat.testBit_or, h2, Bool.or_true], h3⟩
theorem sz_H_one {a : Nat} (ha : a < 27) : sz_H (2 ^ a) = 2 ^ sz_tc6 a := by
  apply sz_nat_ext
  intro j
  rw [sz_H_bit, Nat.testBit_two_pow, decide_eq_true_iff]
  constructor
  · rintro ⟨b, h1, h2, h3⟩
    rw [Nat.testBit_two_pow, decide_eq_true_iff] at h2
    rw [h2]; exact h3
  · intro h
    exact ⟨a, ha, Nat.testBit_two_pow_self, h⟩
/-- no clause in common -/
theorem sz_H_and {S T : Nat} (hT : T < 2 ^ 27) : (sz_H S &&& sz_H T = 0) ↔ S &&& T = 0 := by
  rw [sb_and0 (sz_H_lt T), sb_and0 hT]
  constructor
  · intro h k hk q
    refine h (sz_tc6 k) (sz_t1' hk).2.2.1 ⟨(sz_H_at S hk).mpr q.1, (sz_H_at T hk).mpr q.2⟩
  · intro h k hk q
    obtain ⟨a, h1, h2, h3⟩ := (sz_H_bit S k).mp q.1
    obtain ⟨b, g1, g2, g3⟩ := (sz_H_bit T k).mp q.2
    have e := sz_tinj h1 g1 (h3.trans g3.symm)
    subst e
    exact h a h1 ⟨h2, g2⟩
/-- all cuts of one clause and one of a set -/
def sz_cw (a S : Nat) : Nat := sz_or (fun b => if S.testBit b = true then sz_su a b ||| sz_su b a else 0) 27
/-- all cuts of two of a set -/
def sz_oc (S : Nat) : Nat := sz_or (fun a => if S.testBit a = true then sz_or (fun b => if S.testBit b = true then sz_su a b else 0) 27 else 0) 27
theorem sz_cw_bit (a S j : Nat) : (sz_cw a S).testBit j = true ↔ ∃ b, b < 27 ∧ S.testBit b = true ∧ ((sz_su a b).testBit j = true ∨ (sz_su b a).testBit j = true) := by
  unfold sz_cw
  rw [sz_or_bit]
  constructor
  · rintro ⟨b, h1, h2⟩
    by_cases q : S.testBit b = true
    · rw [if_pos q, Nat.testBit_or, Bool.or_eq_true] at h2
      exact ⟨b, h1, q, h2⟩
    · rw [if_neg q, Nat.zero_testBit] at h2
      exact absurd h2 (by decide)
  · rintro ⟨b, h1, h2, h3⟩
    exact ⟨b, h1, by rw [if_pos h2, Nat.testBit_or, Bool.or_eq_true]; exact h3⟩
theorem sz_oc_bit (S j : Nat) : (sz_oc S).testBit j = true ↔ ∃ a b, a < 27 ∧ b < 27 ∧ S.testBit a = true ∧ S.testBit b = true ∧ (sz_su a b).testBit j = true := by
  unfold sz_oc
  rw [sz_or_bit]
  constructor
  · rintro ⟨a, h1, h2⟩
    by_cases q : S.testBit a = true
    · rw [if_pos q, sz_or_bit] at h2
      obtain ⟨b, g1, g2⟩ := h2
      by_cases w : S.testBit b = true
      · rw [if_pos w] at g2
        exact ⟨a, b, h1, g1, q, w, g2⟩
      · rw [if_neg w, Nat.zero_testBit] at g2
        exact absurd g2 (by decide)
    · rw [if_neg q, Nat.zero_testBit] at h2
      exact absurd h2 (by decide)
  · rintro ⟨a, b, h1, h2, h3, h4, h5⟩
    refine ⟨a, h1, ?_⟩
    rw [if_pos h3, sz_or_bit]
    exact ⟨b, h2, by rw [if_pos h4]; exact h5⟩
theorem sz_oc_lt (S : Nat) : sz_oc S < 2 ^ 27 := by
  unfold sz_oc
  refine sz_or_lt 27 (fun a ha => ?_)
  split
  · refine sz_or_lt 27 (fun b hb => ?_)
    split
    · exact (sz_t3' ha hb).1
    · exact Nat.two_pow_pos _
  · exact Nat.two_pow_pos _
/-- one clause more -/
theorem sz_oc_add {a S : Nat} (ha : a < 27) : sz_oc (S ||| 2 ^ a) = sz_oc S ||| sz_cw a S := by
  have hb : ∀ b, (S ||| 2 ^ a).testBit b = true ↔ S.testBit b = true ∨ a = b := by
    intro b
    rw [Nat.testBit_or, Nat.testBit_two_pow, Bool.or_eq_true, decide_eq_true_iff]
  apply sz_nat_ext
  intro j
  rw [Nat.testBit_or, Bool.or_eq_true, sz_oc_bit, sz_oc_bit, sz_cw_bit]
  constructor
  · rintro ⟨c, d, h1, h2, h3, h4, h5⟩
    rw [hb] at h3 h4
    rcases h3 with h3 | h3
    · rcases h4 with h4 | h4
      · exact Or.inl ⟨c, d, h1, h2, h3, h4, h5⟩
      · subst h4
        exact Or.inr ⟨c, h1, h3, Or.inr h5⟩
    · subst h3
      rcases h4 with h4 | h4
      · exact Or.inr ⟨d, h2, h4, Or.inl h5⟩
      · subst h4
        rw [sz_t4' ha, Nat.zero_testBit] at h5
        exact absurd h5 (by decide)
  · rintro (⟨c, d, h1, h2, h3, h4, h5⟩ | ⟨b, h1, h2, h3 | h3⟩)
    · exact ⟨c, d, h1, h2, (hb c).mpr (Or.inl h3), (hb d).mpr (Or.inl h4), h5⟩
    · exact ⟨a, b, ha, h1, (hb a).mpr (Or.inr rfl), (hb b).mpr (Or.inl h2), h3⟩
    · exact ⟨b, a, h1, ha, (hb b).mpr (Or.inl h2), (hb a).mpr (Or.inr rfl), h3⟩
