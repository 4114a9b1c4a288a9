/-! reading a text: signs, a ground's clause -/
theorem sz_clB_all : (List.range 4096).all (fun c => decide (f_X10_isClause (Int32.ofNat c) = some 1) == (List.range 6).all (fun k => !(c.testBit k && c.testBit (k + 6)))) = true := by decide +kernel
theorem sz_clB {c : Nat} (hc : c < 4096) : f_X10_isClause (Int32.ofNat c) = some 1 ↔ ∀ k, k < 6 → ¬ (c.testBit k = true ∧ c.testBit (k + 6) = true) := by
  have h := sp_4096 _ sz_clB_all c hc
  have h' := eq_of_beq h
  constructor
  · intro q k hk
    rw [decide_eq_true q] at h'
    have := List.all_eq_true.mp h'.symm k (List.mem_range.mpr hk)
    simp only [Bool.not_eq_true', Bool.and_eq_false_iff] at this
    intro z
    rcases this with w | w
    · rw [z.1] at w; exact absurd w (by decide)
    · rw [z.2] at w; exact absurd w (by decide)
  · intro q
    refine of_decide_eq_true (h'.trans (List.all_eq_true.mpr (fun k hk => ?_)))
    have := q k (List.mem_range.mp hk)
    simp only [Bool.not_eq_true', Bool.and_eq_false_iff]
    cases h1 : c.testBit k with
    | false => exact Or.inl rfl
    | true =>
      cases h2 : c.testBit (k + 6) with
      | false => exact Or.inr rfl
      | true => exact absurd ⟨h1, h2⟩ this
theorem sz_cl_add {c b k : Nat} (hc : c < 4096) (h : f_X10_isClause (Int32.ofNat c) = some 1) (hk : k < 6) (hb : b = k ∨ b = k + 6) (hn : ¬ (c.testBit k || c.testBit (k + 6)) = true) : f_X10_isClause (Int32.ofNat (c ||| 2 ^ b)) = some 1 ∧ c ||| 2 ^ b < 4096 := by
  have hlt : c ||| 2 ^ b < 4096 := Nat.or_lt_two_pow (n := 12) hc (Nat.pow_lt_pow_right (by omega) (by omega))
  refine ⟨(sz_clB hlt).mpr (fun j hj q => ?_), hlt⟩
  have h0 := (sz_clB hc).mp h j hj
  rw [Bool.or_eq_true] at hn
  rw [Nat.testBit_or, Nat.testBit_or, Nat.testBit_two_pow, Nat.testBit_two_pow, Bool.or_eq_true, Bool.or_eq_true, decide_eq_true_iff, decide_eq_true_iff] at q
  obtain ⟨q1, q2⟩ := q
  rcases q1 with q1 | q1
  · rcases q2 with q2 | q2
    · exact h0 ⟨q1, q2⟩
    · have : j = k := by omega
      subst this
      exact hn (Or.inl q1)
  · rcases q2 with q2 | q2
    · have : j = k := by omega
      subst this
      exact hn (Or.inr q2)
    · omega
theorem sz_pc_or {S k : Nat} (hb : S.testBit k = false) : ∀ n, sp_pc (S ||| 2 ^ k) n = sp_pc S n + (if k < n then 1 else 0)
  | 0 => by rw [if_neg (by omega)]; rfl
  | n + 1 => by
    rw [sp_pc, sp_pc, sz_pc_or hb n, Nat.testBit_or, Nat.testBit_two_pow]
    by_cases e : k = n
    · subst e
      rw [hb, decide_eq_true rfl, if_neg (by omega), if_pos (show k < k + 1 by omega)]
      rfl
    · rw [decide_eq_false e, Bool.or_false]
      by_cases q : k < n
      · rw [if_pos q, if_pos (show k < n + 1 by omega)]; omega
      · rw [if_neg q, if_neg (show ¬ k < n + 1 by omega)]; omega
theorem sz_pc_all {S : Nat} : ∀ n, sp_pc S n = n → ∀ j, j < n → S.testBit j = true
  | 0, _, j, hj => by omega
  | n + 1, h, j, hj => by
    have hle := sp_pc_le S n
    rw [sp_pc] at h
    by_cases b : S.testBit n = true
    · rw [if_pos b] at h
      by_cases e : j = n
      · rw [e]; exact b
      · exact sz_pc_all n (by omega) j (by omega)
    · rw [if_neg b] at h; omega
theorem sz_lN_add {c b k : Nat} (hk : k < 6) (hb : b = k ∨ b = k + 6) : sp_lN (c ||| 2 ^ b) = sp_lN c ||| 2 ^ k := by
  apply Nat.eq_of_testBit_eq
  intro j
  by_cases hj : j < 6
  · rw [sp_lN_bit _ hj, Nat.testBit_or, Nat.testBit_or, Nat.testBit_or, sp_lN_bit _ hj, Nat.testBit_two_pow, Nat.testBit_two_pow, Nat.testBit_two_pow]
    have e : decide (k = j) = (decide (b = j) || decide (b = j + 6)) := by
      rw [← Bool.decide_or, decide_eq_decide]; omega
    rw [e]
    cases c.testBit j <;> cases c.testBit (j + 6) <;> cases decide (b = j) <;> cases decide (b = j + 6) <;> rfl
  · have h1 : sp_lN (c ||| 2 ^ b) < 2 ^ j := Nat.lt_of_lt_of_le (sp_lN_lt _) (Nat.pow_le_pow_right (n := 2) (by omega) (show 6 ≤ j by omega))
    have h2 : sp_lN c ||| 2 ^ k < 2 ^ j := Nat.lt_of_lt_of_le (Nat.or_lt_two_pow (n := 6) (sp_lN_lt _) (Nat.pow_lt_pow_right (by omega) hk)) (Nat.pow_le_pow_right (n := 2) (by omega) (show 6 ≤ j by omega))
    rw [Nat.testBit_lt_two_pow h1, Nat.testBit_lt_two_pow h2]
theorem sz_sign_all : (List.range 128).all (fun m => decide (f_X3_signOf (Int32.ofNat m) = f_X10_signOf (Int32.ofNat m)) && (decide (f_X3_signOf (Int32.ofNat m) = some 0) || (List.range 12).any (fun b => decide (f_X3_signOf (Int32.ofNat m) = some (Int32.ofNat (2 ^ b)))))) = true := by decide +kernel
theorem sz_sign (c : Int32) : f_X10_signOf c = f_X3_signOf c ∧ (f_X3_signOf c = some 0 ∨ ∃ b k, k < 6 ∧ (b = k ∨ b = k + 6) ∧ f_X3_signOf c = some (Int32.ofNat (2 ^ b))) := by
  by_cases h0 : c < 0
  · have h65 : c < 65 := Int32.lt_trans h0 (by decide)
    have h97 : c < 97 := Int32.lt_trans h0 (by decide)
    have e1 : f_X3_signOf c = some 0 := by
      unfold f_X3_signOf
      rw [sp_bndE, if_pos h97, if_pos h65]
    have e2 : f_X10_signOf c = some 0 := by
      unfold f_X10_signOf f_X10_within
      rw [if_pos h97, Option.bind_some, if_pos rfl, if_pos h65, Option.bind_some, if_pos rfl]
    exact ⟨by rw [e1, e2], Or.inl e1⟩
  · by_cases h1 : (127 : Int32) < c
    · have h97 : ¬ c < 97 := fun q => Int32.lt_irrefl (Int32.lt_trans q (Int32.lt_trans (show (97 : Int32) < 127 by decide) h1))
      have h65 : ¬ c < 65 := fun q => h97 (Int32.lt_trans q (by decide))
      have h103 : (103 : Int32) ≤ c := Int32.le_of_lt (Int32.lt_trans (show (103 : Int32) < 127 by decide) h1)
      have h71 : (71 : Int32) ≤ c := Int32.le_of_lt (Int32.lt_trans (show (71 : Int32) < 127 by decide) h1)
      have h102 : (102 : Int32) < c := Int32.lt_trans (show (102 : Int32) < 127 by decide) h1
      have h70 : (70 : Int32) < c := Int32.lt_trans (show (70 : Int32) < 127 by decide) h1
      have e1 : f_X3_signOf c = some 0 := by
        unfold f_X3_signOf
        rw [sp_bndE, if_neg h97, if_pos h103, if_neg h65, if_pos h71]
      have e2 : f_X10_signOf c = some 0 := by
        unfold f_X10_signOf f_X10_within
        rw [if_neg h97, if_pos h102, Option.bind_some, if_pos rfl, if_neg h65, if_pos h70, Option.bind_some, if_pos rfl]
      exact ⟨by rw [e1, e2], Or.inl e1⟩
    · obtain ⟨m, hm, rfl⟩ := sp_i_le_ex (n := 127) (by omega) h0 (Int32.not_lt.mp h1)
      have := List.all_eq_true.mp sz_sign_all m (List.mem_range.mpr (by omega))
      rw [Bool.and_eq_true, Bool.or_eq_true] at this
      refine ⟨(of_decide_eq_true this.1).symm, ?_⟩
      rcases this.2 with q | q
      · exact Or.inl (of_decide_eq_true q)
      · obtain ⟨b, hb, e⟩ := List.any_eq_true.mp q
        have hb' := List.mem_range.mp hb
        by_cases h6 : b < 6
        · exact Or.inr ⟨b, b, h6, Or.inl rfl, of_decide_eq_true e⟩
        · exact Or.inr ⟨b, b - 6, by omega, Or.inr (by omega), of_decide_eq_true e⟩
/-- the code at a place -/
def sz_tc (co : Nat → Int32) (n q : Nat) : Int32 := if q < n then co q else -9
/-- the same codes -/
def sz_tx (co ce : Nat → Int32) (n B : Nat) : Prop := n ≤ 60 ∧ B + n ≤ 240 ∧ ∀ j, j < n → ce (B + j) = co j
theorem sz_codeX {co ce : Nat → Int32} {n B : Nat} (h : sz_tx co ce n B) {q : Nat} (hq : q < 1000) : f_X3_codeAt (Int32.ofNat q) co (Int32.ofNat n) = some (sz_tc co n q) := by
  have hn := h.1
  unfold f_X3_codeAt sz_tc
  by_cases e : q < n
  · rw [if_neg (fun z => by have := (sp_i_le (by omega) (by omega)).mp z; omega), sp_ld_at (show q < 60 by omega) (by omega), if_pos e]
  · rw [if_pos ((sp_i_le (by omega) (by omega)).mpr (by omega)), if_neg e]
theorem sz_codeM {co ce : Nat → Int32} {n B : Nat} (h : sz_tx co ce n B) {q : Nat} (hq : q < 1000) : f_X10_codeAt ce (Int32.ofNat (B + q)) (Int32.ofNat (B + n)) = some (sz_tc co n q) := by
  have hn := h.1
  have hB := h.2.1
  unfold f_X10_codeAt sz_tc
  by_cases e : q < n
  · rw [if_neg (fun z => by have := (sp_i_le (by omega) (by omega)).mp z; omega), sp_ld_at (show B + q < 240 by omega) (by omega), if_pos e, h.2.2 q e]
  · rw [if_pos ((sp_i_le (by omega) (by omega)).mpr (by omega)), if_neg e]
/-- the reference's step at a sign -/
theorem sz_gM {co ce : Nat → Int32} {n B : Nat} (h : sz_tx co ce n B) {c q : Nat} (hc : c < 4096) (hq : q ≤ n) (kk : Int32 → Int32 → Option (Int32 × Int32 × (Nat → Int32) × (Nat → Int32) × (Nat → Int32) × (Nat → Int32) × Int32)) (nm : Int32) (nc nl nr nt : Nat → Int32) : ((q = n ∨ sz_tc co n q = 59) ∧ f_X3_signOf (sz_tc co n q) = some 0 ∧ ∀ rec, f_X10_readsGround_L2 (Int32.ofNat (B + n)) kk ce nm nc nl nr nt rec (Int32.ofNat c, Int32.ofNat (B + q)) = kk (Int32.ofNat c) (Int32.ofNat (B + q))) ∨ (¬ (q = n ∨ sz_tc co n q = 59) ∧ f_X3_signOf (sz_tc co n q) = some 0 ∧ ∀ rec, f_X10_readsGround_L2 (Int32.ofNat (B + n)) kk ce nm nc nl nr nt rec (Int32.ofNat c, Int32.ofNat (B + q)) = some (0, nm, nc, nl, nr, nt, Int32.ofNat (B + q))) ∨ (¬ (q = n ∨ sz_tc co n q = 59) ∧ q < n ∧ ∃ b k, k < 6 ∧ (b = k ∨ b = k + 6) ∧ f_X3_signOf (sz_tc co n q) = some (Int32.ofNat (2 ^ b)) ∧ (((c.testBit k || c.testBit (k + 6)) = true ∧ ∀ rec, f_X10_readsGround_L2 (Int32.ofNat (B + n)) kk ce nm nc nl nr nt rec (Int32.ofNat c, Int32.ofNat (B + q)) = some (0, nm, nc, nl, nr, nt, Int32.ofNat (B + q))) ∨ (¬ (c.testBit k || c.testBit (k + 6)) = true ∧ ∀ rec, f_X10_readsGround_L2 (Int32.ofNat (B + n)) kk ce nm nc nl nr nt rec (Int32.ofNat c, Int32.ofNat (B + q)) = rec (Int32.ofNat (c ||| 2 ^ b), Int32.ofNat (B + (q + 1)))))) := by
  have hn := h.1
  have hB := h.2.1
  by_cases e : q = n
  · left
    have et : sz_tc co n q = -9 := by unfold sz_tc; rw [if_neg (by omega)]
    refine ⟨Or.inl e, by rw [et]; decide, fun rec => ?_⟩
    rw [f_X10_readsGround_L2_eq, if_pos ((sp_i_le (by omega) (by omega)).mpr (by omega))]
  · have hlt : q < n := by omega
    have et : sz_tc co n q = co q := by unfold sz_tc; rw [if_pos hlt]
    have hce := h.2.2 q hlt
    by_cases e59 : co q = 59
    · left
      refine ⟨Or.inr (by rw [et, e59]), by rw [et, e59]; decide, fun rec => ?_⟩
      rw [f_X10_readsGround_L2_eq, if_neg (fun z => by have := (sp_i_le (by omega) (by omega)).mp z; omega), sp_ld_at (show B + q < 240 by omega) (by omega), hce, if_pos e59]
    · right
      have hno : ¬ (q = n ∨ sz_tc co n q = 59) := by
        rw [et]
        rintro (z | z)
        · exact e z
        · exact e59 z
      obtain ⟨s1, s2⟩ := sz_sign (co q)
      rcases s2 with s2 | ⟨b, k, hk, hb, s2⟩
      · left
        refine ⟨hno, by rw [et]; exact s2, fun rec => ?_⟩
        rw [f_X10_readsGround_L2_eq, if_neg (fun z => by have := (sp_i_le (by omega) (by omega)).mp z; omega), sp_ld_at (show B + q < 240 by omega) (by omega), hce, if_neg e59, sp_ld_at (show B + q < 240 by omega) (by omega), hce, s1, s2, Option.bind_some, sp_bndE, if_neg (by decide)]
        rfl
      · right
        refine ⟨hno, hlt, b, k, hk, hb, by rw [et]; exact s2, ?_⟩
        obtain ⟨g1, g2, g3, g4, g5, g6, g7, g8, g9, g10⟩ := sz_sgn k hk
        have h2b : 2 ^ b < 1000000 := Nat.lt_of_le_of_lt (Nat.pow_le_pow_right (n := 2) (by omega) (show b ≤ 11 by omega)) (by decide)
        have hne0 : ¬ Int32.ofNat (2 ^ b) = 0 := fun z => by
          have := (sp_i_inj (j := 0) h2b (by omega)).mp z
          have := Nat.one_le_two_pow (n := b)
          omega
        have hsh : Int32.ofNat c >>> ((6 : Int32) &&& 31) = Int32.ofNat (c / 2 ^ 6) := sb_shr32 (l := 6) (by omega) (by omega)
        have hbit : ((Int32.ofNat (c ||| c / 2 ^ 6)) &&& Int32.ofNat (2 ^ k) = 0) ↔ ¬ (c.testBit k || c.testBit (k + 6)) = true := by
          rw [sz_and_bit (show k < 12 by omega), Nat.testBit_or, Nat.testBit_div_two_pow]
        have hF : ∀ rec, f_X10_readsGround_L2 (Int32.ofNat (B + n)) kk ce nm nc nl nr nt rec (Int32.ofNat c, Int32.ofNat (B + q)) = if (Int32.ofNat (c ||| c / 2 ^ 6) &&& Int32.ofNat (2 ^ k)) = 0 then rec (Int32.ofNat (c ||| 2 ^ b), Int32.ofNat (B + (q + 1))) else some (0, nm, nc, nl, nr, nt, Int32.ofNat (B + q)) := by
          intro rec
          rw [f_X10_readsGround_L2_eq, if_neg (fun z => by have := (sp_i_le (by omega) (by omega)).mp z; omega), sp_ld_at (show B + q < 240 by omega) (by omega), hce, if_neg e59, sp_ld_at (show B + q < 240 by omega) (by omega), hce, s1, s2, Option.bind_some, sp_bndE]
          rcases hb with rfl | rfl
          · rw [if_neg g6]
            simp only [if_neg hne0, hsh, sb_or32, sp_bndE, sp_i_succ, Nat.add_assoc]
          · rw [if_pos g7, g9]
            simp only [if_neg hne0, hsh, sb_or32, sp_bndE, sp_i_succ, Nat.add_assoc]
        by_cases w : (c.testBit k || c.testBit (k + 6)) = true
        · left
          exact ⟨w, fun rec => by rw [hF, if_neg (fun z => hbit.mp z w)]⟩
        · right
          exact ⟨w, fun rec => by rw [hF, if_pos (hbit.mpr w)]⟩
theorem sz_signs {co ce : Nat → Int32} {n B : Nat} (h : sz_tx co ce n B) {q0 : Nat} (hq0 : q0 ≤ n) (kk : Int32 → Int32 → Option (Int32 × Int32 × (Nat → Int32) × (Nat → Int32) × (Nat → Int32) × (Nat → Int32) × Int32)) (nm : Int32) (nc nl nr nt : Nat → Int32) : ∃ c q : Nat, f_X10_isClause (Int32.ofNat c) = some 1 ∧ q ≤ n ∧ f_X3_readSigns co (Int32.ofNat n) (Int32.ofNat q0) = some (Int32.ofNat c, Int32.ofNat q) ∧ sp_lp (f_X10_readsGround_L2 (Int32.ofNat (B + n)) kk ce nm nc nl nr nt) sp_F ((0 : Int32), Int32.ofNat (B + q0)) = if q = n ∨ sz_tc co n q = 59 then kk (Int32.ofNat c) (Int32.ofNat (B + q)) else some (0, nm, nc, nl, nr, nt, Int32.ofNat (B + q)) := by
  have hn := h.1
  have hB := h.2.1
  unfold f_X3_readSigns
  rw [sp_bndE]
  refine sz_lp2 (fun o u => ∃ c q : Nat, f_X10_isClause (Int32.ofNat c) = some 1 ∧ q ≤ n ∧ o = some (Int32.ofNat c, Int32.ofNat q) ∧ u = if q = n ∨ sz_tc co n q = 59 then kk (Int32.ofNat c) (Int32.ofNat (B + q)) else some (0, nm, nc, nl, nr, nt, Int32.ofNat (B + q))) 6 (fun i s t => ∃ c q : Nat, s = (Int32.ofNat c, Int32.ofNat i, Int32.ofNat q) ∧ t = (Int32.ofNat c, Int32.ofNat (B + q)) ∧ c < 4096 ∧ f_X10_isClause (Int32.ofNat c) = some 1 ∧ q ≤ n ∧ sp_pc (sp_lN c) 6 = i) ?_ ?_ sp_F sp_F _ _ (sp_F_lt (by omega)) (sp_F_lt (by omega)) ⟨0, q0, rfl, rfl, by omega, by decide, hq0, by decide⟩
  · rintro i s t hi ⟨c, q, rfl, rfl, hc, hcl, hq, hpc⟩
    have hi6 : ¬ (6 : Int32) ≤ Int32.ofNat i := fun z => by have := (sp_i_le (i := 6) (by omega) (by omega)).mp z; omega
    rcases sz_gM h hc hq kk nm nc nl nr nt with ⟨a1, a2, a3⟩ | ⟨a1, a2, a3⟩ | ⟨a1, a4, b, k, hk, hb, a2, a3⟩
    · left
      refine ⟨_, _, ⟨c, q, hcl, hq, rfl, by rw [if_pos a1]⟩, fun rec => ?_, a3⟩
      rw [f_X3_readSigns_L4_eq, if_neg hi6, sz_codeX h (by omega), Option.bind_some, a2, Option.bind_some, if_pos rfl]
    · left
      refine ⟨_, _, ⟨c, q, hcl, hq, rfl, by rw [if_neg a1]⟩, fun rec => ?_, a3⟩
      rw [f_X3_readSigns_L4_eq, if_neg hi6, sz_codeX h (by omega), Option.bind_some, a2, Option.bind_some, if_pos rfl]
    · have h2b : 2 ^ b < 1000000 := Nat.lt_of_le_of_lt (Nat.pow_le_pow_right (n := 2) (by omega) (show b ≤ 11 by omega)) (by decide)
      have hne0 : ¬ Int32.ofNat (2 ^ b) = 0 := fun z => by
        have := (sp_i_inj (j := 0) h2b (by omega)).mp z
        have := Nat.one_le_two_pow (n := b)
        omega
      obtain ⟨g1, g2, g3, g4, -⟩ := sz_sgn k hk
      have hlet : f_X0_lettersOf (Int32.ofNat (2 ^ b)) = some (Int32.ofNat (2 ^ k)) := by
        rcases hb with rfl | rfl
        · exact g3
        · exact g4
      have hbit : (Int32.ofNat (2 ^ k) &&& Int32.ofNat (sp_lN c) = 0) ↔ ¬ (c.testBit k || c.testBit (k + 6)) = true := by
        rw [Int32.and_comm, sz_and_bit (show k < 12 by omega), sp_lN_bit c hk]
      rcases a3 with ⟨w, a3⟩ | ⟨w, a3⟩
      · left
        refine ⟨_, _, ⟨c, q, hcl, hq, rfl, by rw [if_neg a1]⟩, fun rec => ?_, a3⟩
        rw [f_X3_readSigns_L4_eq, if_neg hi6, sz_codeX h (by omega), Option.bind_some, a2, Option.bind_some, if_neg hne0, hlet, Option.bind_some, sp_lettersOf hc, Option.bind_some, if_neg (fun z => hbit.mp z w)]
      · right
        obtain ⟨d1, d2⟩ := sz_cl_add hc hcl hk hb w
        refine ⟨(Int32.ofNat (c ||| 2 ^ b), Int32.ofNat (i + 1), Int32.ofNat (q + 1)), _, ⟨c ||| 2 ^ b, q + 1, rfl, rfl, d2, d1, by omega, ?_⟩, fun rec => ?_, a3⟩
        · rw [sz_lN_add hk hb, sz_pc_or (by rw [sp_lN_bit c hk]; exact Bool.eq_false_iff.mpr w), hpc, if_pos hk]
        · rw [f_X3_readSigns_L4_eq, if_neg hi6, sz_codeX h (by omega), Option.bind_some, a2, Option.bind_some, if_neg hne0, hlet, Option.bind_some, sp_lettersOf hc, Option.bind_some, if_pos (hbit.mpr w), sp_bndE, sp_bndE, sp_bndE, sb_or32, sp_i_succ, sp_i_succ]
  · rintro s t ⟨c, q, rfl, rfl, hc, hcl, hq, hpc⟩
    have hX : ∀ rec, f_X3_readSigns_L4 (fun (x4 : Int32) (c5 : Int32) => some (x4, c5)) co (Int32.ofNat n) rec (Int32.ofNat c, Int32.ofNat 6, Int32.ofNat q) = some (Int32.ofNat c, Int32.ofNat q) := by
      intro rec
      rw [f_X3_readSigns_L4_eq, if_pos (by decide)]
    rcases sz_gM h hc hq kk nm nc nl nr nt with ⟨a1, a2, a3⟩ | ⟨a1, a2, a3⟩ | ⟨a1, a4, b, k, hk, hb, a2, a3⟩
    · exact ⟨_, _, ⟨c, q, hcl, hq, rfl, by rw [if_pos a1]⟩, hX, a3⟩
    · exact ⟨_, _, ⟨c, q, hcl, hq, rfl, by rw [if_neg a1]⟩, hX, a3⟩
    · have hall := sz_pc_all 6 hpc k hk
      rw [sp_lN_bit c hk] at hall
      rcases a3 with ⟨w, a3⟩ | ⟨w, a3⟩
      · exact ⟨_, _, ⟨c, q, hcl, hq, rfl, by rw [if_neg a1]⟩, hX, a3⟩
      · exact absurd hall w
