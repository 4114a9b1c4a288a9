/-! cuts: the class's sets -/
theorem sz_s64 : ∀ l, l < 64 → (((Int32.ofNat l).toInt64 &&& 63).toBitVec.smod 64).toNat = l := by decide +kernel
theorem sz_isIn64 {a l : Nat} (ha : a < 2 ^ 63) (hl : l < 64) : f_X9_isIn (Int32.ofNat l) (Int64.ofNat a) = some (if a.testBit l then 1 else 0) := by
  have hd : a / 2 ^ l ≤ a := Nat.div_le_self _ _
  have hs : Int64.ofNat a >>> ((Int32.ofNat l).toInt64 &&& 63) = Int64.ofNat (a / 2 ^ l) := by
    apply Int64.toInt_inj.mp
    have e : (Int64.ofNat a >>> ((Int32.ofNat l).toInt64 &&& 63)).toInt = (Int64.ofNat a).toInt >>> l := by
      have h1 := sz_s64 l hl
      conv => rhs; rw [← h1]
      exact BitVec.toInt_sshiftRight ..
    rw [e, Int.shiftRight_eq_div_pow, lg_ofNat_toInt ha, lg_ofNat_toInt (by omega)]
    rfl
  have hb : (Int64.ofNat a >>> ((Int32.ofNat l).toInt64 &&& 63)) &&& (1 : Int64) = if a.testBit l then 1 else 0 := by
    rw [hs, show (1 : Int64) = Int64.ofNat 1 from rfl, sb_and64, sb_tb]
    split <;> rfl
  unfold f_X9_isIn
  rw [hb]
  by_cases h : a.testBit l = true
  · rw [if_pos h, if_pos h]; rfl
  · rw [if_neg h, if_neg h]; rfl
theorem sz_z64 {v : Nat} (h : v < 2 ^ 63) : Int64.ofNat v = 0 ↔ v = 0 := by
  constructor
  · intro e
    have := congrArg Int64.toInt e
    rw [lg_ofNat_toInt h] at this
    have e0 : (0 : Int64).toInt = 0 := rfl
    omega
  · intro e; rw [e]; rfl
theorem sz_cmp {S T : Nat} (hT : T < 2 ^ 27) : (lg_cmp (Int64.ofNat (sz_H S) &&& Int64.ofNat (sz_H T)) (0 : Int64) = 0) ↔ S &&& T = 0 := by
  rw [lg_cmp_eq, sb_and64, sz_z64 (Nat.lt_of_le_of_lt Nat.and_le_left (sz_H63 S)), sz_H_and hT]
theorem sz_cl6_lt (c o : Nat) : sz_cl6 c o < 8 := Nat.and_lt_two_pow (n := 3) _ (by omega)
theorem sz_sl3 : ∀ n, n < 8 → Int32.ofNat n <<< ((3 : Int32) &&& 31) = Int32.ofNat (n * 8) := by decide +kernel
theorem sz_v9 {c o : Nat} (hc : c < 64) (ho : o < 64) : ((Int32.ofNat c &&& (Int32.ofNat o >>> ((3 : Int32) &&& 31))) ||| ((Int32.ofNat c >>> ((3 : Int32) &&& 31)) &&& Int32.ofNat o)) &&& (7 : Int32) = Int32.ofNat (sz_cl6 c o) := by
  have h1 : Int32.ofNat o >>> ((3 : Int32) &&& 31) = Int32.ofNat (o / 2 ^ 3) := sb_shr32 (l := 3) (by omega) (by omega)
  have h2 : Int32.ofNat c >>> ((3 : Int32) &&& 31) = Int32.ofNat (c / 2 ^ 3) := sb_shr32 (l := 3) (by omega) (by omega)
  rw [h1, h2, sb_and32, sb_and32, sb_or32, show (7 : Int32) = Int32.ofNat 7 from rfl, sb_and32]
  rfl
theorem sz_v10 (c o : Nat) : (Int32.ofNat c ||| Int32.ofNat o) &&& ((Int32.ofNat (sz_cl6 c o) ||| (Int32.ofNat (sz_cl6 c o) <<< ((3 : Int32) &&& 31))) ^^^ (-1 : Int32)) = Int32.ofNat (sp_nd (c ||| o) (sz_cl6 c o ||| sz_cl6 c o * 8)) := by
  rw [sz_sl3 _ (sz_cl6_lt c o), sb_or32, sb_or32, sb_nd32]
  rfl
theorem sz_g_eq {a S : Nat} (ha : a < 27) : sz_or (fun o => if (sz_H S).testBit o = true then sz_cw6 (sz_tc6 a) o else 0) 64 = sz_H (sz_cw a S) := by
  apply sz_nat_ext
  intro j
  rw [sz_or_bit, sz_H_bit]
  constructor
  · rintro ⟨o, h1, h2⟩
    by_cases q : (sz_H S).testBit o = true
    · rw [if_pos q] at h2
      obtain ⟨b, b1, b2, b3⟩ := (sz_H_bit S o).mp q
      rw [← b3, (sz_t3' ha b1).2.1, sz_H_bit] at h2
      obtain ⟨d, d1, d2, d3⟩ := h2
      rw [Nat.testBit_or, Bool.or_eq_true] at d2
      exact ⟨d, d1, (sz_cw_bit a S d).mpr ⟨b, b1, b2, d2⟩, d3⟩
    · rw [if_neg q, Nat.zero_testBit] at h2
      exact absurd h2 (by decide)
  · rintro ⟨d, d1, d2, d3⟩
    obtain ⟨b, b1, b2, b3⟩ := (sz_cw_bit a S d).mp d2
    have hlt := (sz_t1' b1).2.2.1
    refine ⟨sz_tc6 b, by omega, ?_⟩
    rw [if_pos ((sz_H_at S b1).mpr b2), (sz_t3' ha b1).2.1, sz_H_bit]
    exact ⟨d, d1, by rw [Nat.testBit_or, Bool.or_eq_true]; exact b3, d3⟩
theorem sz_cutsWith {a S : Nat} (ha : a < 27) : f_X7_cutsWith (Int32.ofNat (sz_tc6 a)) (Int64.ofNat (sz_H S)) = some (Int64.ofNat (sz_H (sz_cw a S))) := by
  have hta := (sz_t1' ha).2.2.1
  rw [← sz_g_eq ha]
  unfold f_X7_cutsWith
  rw [sp_bndE]
  refine sp_lp_fn 64 (fun o => (Int64.ofNat (sz_or (fun o => if (sz_H S).testBit o = true then sz_cw6 (sz_tc6 a) o else 0) o), Int32.ofNat o)) (fun o ho rec => ?_) (fun rec => ?_) (sp_F_lt (by omega)) rfl
  · rw [f_X7_cutsWith_L5_eq, if_neg (show ¬ (64 : Int32) ≤ Int32.ofNat o from fun q => by have := (sp_i_le (i := 64) (by omega) (by omega)).mp q; omega), sz_isIn64 (sz_H63 S) ho, Option.bind_some, sz_or_s]
    by_cases q : (sz_H S).testBit o = true
    · obtain ⟨b, b1, b2, b3⟩ := (sz_H_bit S o).mp q
      have hc := sz_cl6_lt (sz_tc6 a) o
      have hpl := sp_pc_le (sz_cl6 (sz_tc6 a) o) 24
      have h57 := (sz_t3' ha b1).2.2
      rw [b3] at h57
      rw [if_pos q, if_pos q]
      simp only [sp_bndE, sp_one_ne, if_false, sz_v9 (show sz_tc6 a < 64 by omega) ho, sp_bitCount (show sz_cl6 (sz_tc6 a) o < 4096 by omega), Option.bind_some, sp_i_succ]
      unfold sz_cw6
      by_cases w : sp_pc (sz_cl6 (sz_tc6 a) o) 24 = 1
      · rw [if_pos (show Int32.ofNat (sp_pc (sz_cl6 (sz_tc6 a) o) 24) = (1 : Int32) by rw [w]; rfl), if_pos w, sz_v10, sb_one64 (show _ < 63 by have := h57 w; omega), sb_or64]
      · rw [if_neg (show ¬ Int32.ofNat (sp_pc (sz_cl6 (sz_tc6 a) o) 24) = (1 : Int32) from fun z => w ((sp_i_inj (j := 1) (by omega) (by omega)).mp z)), if_neg w, Nat.or_zero]
    · rw [if_neg q, if_neg q, Nat.or_zero]
      simp only [sp_bndE, if_true, sp_i_succ]
  · rw [f_X7_cutsWith_L5_eq, if_pos (by decide)]
/-- a wanted clause by one cut, by two, by three -/
def sz_G1 (D S : Nat) : Prop := ¬ (sz_oc S &&& D = 0)
def sz_nw (S a : Nat) : Prop := (sz_oc S).testBit a = true ∧ ¬ S.testBit a = true
def sz_G2 (D S : Nat) : Prop := ∃ a, a < 27 ∧ sz_nw S a ∧ sz_G1 D (S ||| 2 ^ a)
def sz_G3 (D S : Nat) : Prop := ∃ a, a < 27 ∧ sz_nw S a ∧ sz_G2 D (S ||| 2 ^ a)
theorem sz_d1 {D S : Nat} (hD : D < 2 ^ 27) : (sz_G1 D S → f_X7_furtherCuts_d1 (Int64.ofNat (sz_H S)) (Int64.ofNat (sz_H (sz_oc S))) (Int64.ofNat (sz_H D)) 1 = some 1) ∧ (¬ sz_G1 D S → f_X7_furtherCuts_d1 (Int64.ofNat (sz_H S)) (Int64.ofNat (sz_H (sz_oc S))) (Int64.ofNat (sz_H D)) 1 = some (-9)) := by
  unfold f_X7_furtherCuts_d1 sz_G1
  constructor
  · intro h
    rw [if_neg (fun z => h ((sz_cmp hD).mp z))]
  · intro h
    rw [if_pos ((sz_cmp hD).mpr (Classical.not_not.mp h)), sp_bndE]
    refine sp_lp_fn 0 (fun _ => ((-9 : Int32), (0 : Int32))) (fun i hi => by omega) (fun rec => ?_) (sp_F_lt (by omega)) rfl
    rw [f_X7_furtherCuts_d1_L18_eq, if_neg (by decide), if_pos (by decide)]
/-- what is new, by six bits -/
theorem sz_new6 {S i : Nat} (hi : i < 64) : (f_X9_isIn (Int32.ofNat i) (Int64.ofNat (sz_H (sz_oc S)) &&& (Int64.ofNat (sz_H S) ^^^ (-1 : Int64))) = some 0 ∧ ∀ a, a < 27 → sz_tc6 a = i → ¬ sz_nw S a) ∨ (f_X9_isIn (Int32.ofNat i) (Int64.ofNat (sz_H (sz_oc S)) &&& (Int64.ofNat (sz_H S) ^^^ (-1 : Int64))) = some 1 ∧ ∃ a, a < 27 ∧ sz_tc6 a = i ∧ sz_nw S a) := by
  have hlt : sp_nd (sz_H (sz_oc S)) (sz_H S) < 2 ^ 63 := sp_nd_lt' (N := 63) (sz_H63 _)
  have e : Int64.ofNat (sz_H (sz_oc S)) &&& (Int64.ofNat (sz_H S) ^^^ (-1 : Int64)) = Int64.ofNat (sp_nd (sz_H (sz_oc S)) (sz_H S)) := sb_nd64 _ _
  rw [e, sz_isIn64 hlt hi, sp_nd_bit]
  by_cases q : (sz_H (sz_oc S)).testBit i = true
  · obtain ⟨a, a1, a2, a3⟩ := (sz_H_bit _ i).mp q
    by_cases w : (sz_H S).testBit i = true
    · left
      rw [q, w]
      refine ⟨rfl, fun b b1 b2 z => z.2 ?_⟩
      rw [← b2] at w
      exact (sz_H_at S b1).mp w
    · right
      rw [q, Bool.eq_false_iff.mpr w]
      refine ⟨rfl, a, a1, a3, a2, fun z => w ?_⟩
      rw [← a3]
      exact (sz_H_at S a1).mpr z
  · left
    rw [Bool.eq_false_iff.mpr q]
    refine ⟨rfl, fun b b1 b2 z => q ?_⟩
    rw [← b2]
    exact (sz_H_at _ b1).mpr z.1
/-- the class's sets once a clause has come -/
theorem sz_more {a S : Nat} (ha : a < 27) : Int64.ofNat (sz_H S) ||| ((1 : Int64) <<< ((Int32.ofNat (sz_tc6 a)).toInt64 &&& 63)) = Int64.ofNat (sz_H (S ||| 2 ^ a)) ∧ Int64.ofNat (sz_H (sz_oc S)) ||| Int64.ofNat (sz_H (sz_cw a S)) = Int64.ofNat (sz_H (sz_oc (S ||| 2 ^ a))) := by
  have hta := (sz_t1' ha).2.2.1
  constructor
  · rw [sb_one64 (by omega), sb_or64, sz_H_or, sz_H_one ha]
  · rw [sb_or64, sz_oc_add ha, sz_H_or]
theorem sz_d2 {D S : Nat} (hD : D < 2 ^ 27) : (sz_G1 D S → f_X7_furtherCuts_d2 (Int64.ofNat (sz_H S)) (Int64.ofNat (sz_H (sz_oc S))) (Int64.ofNat (sz_H D)) 2 = some 1) ∧ (¬ sz_G1 D S → sz_G2 D S → f_X7_furtherCuts_d2 (Int64.ofNat (sz_H S)) (Int64.ofNat (sz_H (sz_oc S))) (Int64.ofNat (sz_H D)) 2 = some 2) ∧ (¬ sz_G1 D S → ¬ sz_G2 D S → f_X7_furtherCuts_d2 (Int64.ofNat (sz_H S)) (Int64.ofNat (sz_H (sz_oc S))) (Int64.ofNat (sz_H D)) 2 = some (-9)) := by
  have key : ¬ sz_G1 D S → (sz_G2 D S ∧ f_X7_furtherCuts_d2 (Int64.ofNat (sz_H S)) (Int64.ofNat (sz_H (sz_oc S))) (Int64.ofNat (sz_H D)) 2 = some 2) ∨ (¬ sz_G2 D S ∧ f_X7_furtherCuts_d2 (Int64.ofNat (sz_H S)) (Int64.ofNat (sz_H (sz_oc S))) (Int64.ofNat (sz_H D)) 2 = some (-9)) := by
    intro h
    unfold f_X7_furtherCuts_d2
    rw [if_pos ((sz_cmp hD).mpr (Classical.not_not.mp h)), sp_bndE]
    refine sz_lp_Q (fun o => (sz_G2 D S ∧ o = some 2) ∨ (¬ sz_G2 D S ∧ o = some (-9))) 64 (fun i s => ∃ b : Int32, s = (b, Int32.ofNat i) ∧ ((b = -9 ∧ ∀ a, a < 27 → sz_tc6 a < i → sz_nw S a → ¬ sz_G1 D (S ||| 2 ^ a)) ∨ (b = 2 ∧ sz_G2 D S))) ?_ ?_ sp_F _ (sp_F_lt (by omega)) ⟨-9, rfl, Or.inl ⟨rfl, fun a _ h2 => by omega⟩⟩
    · rintro i s hi ⟨b, rfl, hb⟩
      have h64 : ¬ (64 : Int32) ≤ Int32.ofNat i := fun q => by have := (sp_i_le (i := 64) (by omega) (by omega)).mp q; omega
      rcases hb with ⟨rfl, hb⟩ | ⟨rfl, hb⟩
      · right
        rcases sz_new6 (S := S) hi with ⟨e1, e2⟩ | ⟨e1, a, a1, a2, a3⟩
        · refine ⟨(-9, Int32.ofNat (i + 1)), ⟨-9, rfl, Or.inl ⟨rfl, fun a h1 h2 h3 => ?_⟩⟩, fun rec => ?_⟩
          · by_cases e : sz_tc6 a = i
            · exact absurd h3 (e2 a h1 e)
            · exact hb a h1 (by omega) h3
          · rw [f_X7_furtherCuts_d2_L18_eq, if_neg h64, if_neg (by decide), if_neg (by decide), e1, Option.bind_some]
            simp only [sp_bndE, if_true, sp_i_succ]
        · have hcw := sz_cutsWith (S := S) a1
          obtain ⟨m1, m2⟩ := sz_more (S := S) a1
          rw [a2] at hcw m1
          obtain ⟨d1, d2⟩ := sz_d1 (S := S ||| 2 ^ a) hD
          by_cases g : sz_G1 D (S ||| 2 ^ a)
          · refine ⟨(2, Int32.ofNat (i + 1)), ⟨2, rfl, Or.inr ⟨rfl, a, a1, a3, g⟩⟩, fun rec => ?_⟩
            rw [f_X7_furtherCuts_d2_L18_eq, if_neg h64, if_neg (by decide), if_neg (by decide), e1, Option.bind_some]
            simp only [sp_bndE, sp_one_ne, if_false, hcw, Option.bind_some, m1, m2]
            rw [show (2 : Int32) - 1 = 1 from rfl, d1 g, Option.bind_some, if_neg (by decide), if_pos trivial, sp_i_succ]
            rfl
          · refine ⟨(-9, Int32.ofNat (i + 1)), ⟨-9, rfl, Or.inl ⟨rfl, fun c h1 h2 h3 => ?_⟩⟩, fun rec => ?_⟩
            · by_cases e : sz_tc6 c = i
              · have := sz_tinj h1 a1 (e.trans a2.symm)
                rw [this]; exact g
              · exact hb c h1 (by omega) h3
            · rw [f_X7_furtherCuts_d2_L18_eq, if_neg h64, if_neg (by decide), if_neg (by decide), e1, Option.bind_some]
              simp only [sp_bndE, sp_one_ne, if_false, hcw, Option.bind_some, m1, m2]
              rw [show (2 : Int32) - 1 = 1 from rfl, d2 g, Option.bind_some, if_pos rfl, sp_i_succ]
      · left
        refine ⟨some 2, Or.inl ⟨hb, rfl⟩, fun rec => ?_⟩
        rw [f_X7_furtherCuts_d2_L18_eq, if_neg h64, if_neg (by decide), if_pos rfl]
    · rintro s ⟨b, rfl, hb⟩
      rcases hb with ⟨rfl, hb⟩ | ⟨rfl, hb⟩
      · refine ⟨some (-9), Or.inr ⟨fun z => ?_, rfl⟩, fun rec => ?_⟩
        · obtain ⟨a, a1, a2, a3⟩ := z
          exact hb a a1 (by have := (sz_t1' a1).2.2.1; omega) a2 a3
        · rw [f_X7_furtherCuts_d2_L18_eq, if_pos (by decide)]
      · refine ⟨some 2, Or.inl ⟨hb, rfl⟩, fun rec => ?_⟩
        rw [f_X7_furtherCuts_d2_L18_eq, if_pos (by decide)]
  refine ⟨fun h => ?_, fun h g => ?_, fun h g => ?_⟩
  · unfold f_X7_furtherCuts_d2
    rw [if_neg (fun z => h ((sz_cmp hD).mp z))]
  · rcases key h with ⟨-, e⟩ | ⟨n, -⟩
    · exact e
    · exact absurd g n
  · rcases key h with ⟨n, -⟩ | ⟨-, e⟩
    · exact absurd n g
    · exact e
theorem sz_d3 {D S : Nat} (hD : D < 2 ^ 27) (h : ¬ sz_G1 D S) : (sz_G2 D S ∧ f_X7_furtherCuts_d3 (Int64.ofNat (sz_H S)) (Int64.ofNat (sz_H (sz_oc S))) (Int64.ofNat (sz_H D)) 3 = some 2) ∨ (¬ sz_G2 D S ∧ sz_G3 D S ∧ f_X7_furtherCuts_d3 (Int64.ofNat (sz_H S)) (Int64.ofNat (sz_H (sz_oc S))) (Int64.ofNat (sz_H D)) 3 = some 3) ∨ (¬ sz_G2 D S ∧ ¬ sz_G3 D S ∧ f_X7_furtherCuts_d3 (Int64.ofNat (sz_H S)) (Int64.ofNat (sz_H (sz_oc S))) (Int64.ofNat (sz_H D)) 3 = some (-9)) := by
  unfold f_X7_furtherCuts_d3
  rw [if_pos ((sz_cmp hD).mpr (Classical.not_not.mp h)), sp_bndE]
  refine sz_lp_Q (fun o => (sz_G2 D S ∧ o = some 2) ∨ (¬ sz_G2 D S ∧ sz_G3 D S ∧ o = some 3) ∨ (¬ sz_G2 D S ∧ ¬ sz_G3 D S ∧ o = some (-9))) 64 (fun i s => ∃ b : Int32, s = (b, Int32.ofNat i) ∧ ((b = 2 ∧ sz_G2 D S) ∨ ((∀ a, a < 27 → sz_tc6 a < i → sz_nw S a → ¬ sz_G1 D (S ||| 2 ^ a)) ∧ ((b = 3 ∧ sz_G3 D S) ∨ (b = -9 ∧ ∀ a, a < 27 → sz_tc6 a < i → sz_nw S a → ¬ sz_G2 D (S ||| 2 ^ a)))))) ?_ ?_ sp_F _ (sp_F_lt (by omega)) ⟨-9, rfl, Or.inr ⟨fun a _ h2 => by omega, Or.inr ⟨rfl, fun a _ h2 => by omega⟩⟩⟩
  · rintro i s hi ⟨b, rfl, hb⟩
    have h64 : ¬ (64 : Int32) ≤ Int32.ofNat i := fun q => by have := (sp_i_le (i := 64) (by omega) (by omega)).mp q; omega
    rcases hb with ⟨rfl, hb⟩ | ⟨hb1, hb2⟩
    · left
      refine ⟨some 2, Or.inl ⟨hb, rfl⟩, fun rec => ?_⟩
      rw [f_X7_furtherCuts_d3_L18_eq, if_neg h64, if_neg (by decide), if_pos rfl]
    · right
      have hb2' : ¬ b = 2 := by
        rcases hb2 with ⟨rfl, -⟩ | ⟨rfl, -⟩ <;> decide
      rcases sz_new6 (S := S) hi with ⟨e1, e2⟩ | ⟨e1, a, a1, a2, a3⟩
      · have hno : ∀ (P : Nat → Prop), (∀ a, a < 27 → sz_tc6 a < i → sz_nw S a → P a) → ∀ a, a < 27 → sz_tc6 a < i + 1 → sz_nw S a → P a := by
          intro P hP a h1 h2 h3
          by_cases e : sz_tc6 a = i
          · exact absurd h3 (e2 a h1 e)
          · exact hP a h1 (by omega) h3
        refine ⟨(b, Int32.ofNat (i + 1)), ⟨b, rfl, Or.inr ⟨hno _ hb1, Or.imp (fun q => q) (fun q => ⟨q.1, hno _ q.2⟩) hb2⟩⟩, fun rec => ?_⟩
        rw [f_X7_furtherCuts_d3_L18_eq, if_neg h64, if_neg (by decide), if_neg hb2', e1, Option.bind_some]
        simp only [sp_bndE, if_true, sp_i_succ]
      · have hcw := sz_cutsWith (S := S) a1
        obtain ⟨m1, m2⟩ := sz_more (S := S) a1
        rw [a2] at hcw m1
        obtain ⟨d1, d2, d3⟩ := sz_d2 (S := S ||| 2 ^ a) hD
        have hup : ∀ (P : Nat → Prop), (∀ a, a < 27 → sz_tc6 a < i → sz_nw S a → P a) → P a → ∀ c, c < 27 → sz_tc6 c < i + 1 → sz_nw S c → P c := by
          intro P hP hPa c h1 h2 h3
          by_cases e : sz_tc6 c = i
          · have := sz_tinj h1 a1 (e.trans a2.symm)
            rw [this]; exact hPa
          · exact hP c h1 (by omega) h3
        by_cases g : sz_G1 D (S ||| 2 ^ a)
        · refine ⟨(2, Int32.ofNat (i + 1)), ⟨2, rfl, Or.inl ⟨rfl, a, a1, a3, g⟩⟩, fun rec => ?_⟩
          rw [f_X7_furtherCuts_d3_L18_eq, if_neg h64, if_neg (by decide), if_neg hb2', e1, Option.bind_some]
          simp only [sp_bndE, sp_one_ne, if_false, hcw, Option.bind_some, m1, m2]
          rw [show (3 : Int32) - 1 = 2 from rfl, d1 g, Option.bind_some, if_neg (by decide), sp_i_succ]
          rcases hb2 with ⟨rfl, -⟩ | ⟨rfl, -⟩
          · rw [if_neg (by decide), if_neg (by decide)]; rfl
          · rw [if_pos rfl]; rfl
        · by_cases g2 : sz_G2 D (S ||| 2 ^ a)
          · refine ⟨(3, Int32.ofNat (i + 1)), ⟨3, rfl, Or.inr ⟨hup _ hb1 g, Or.inl ⟨rfl, a, a1, a3, g2⟩⟩⟩, fun rec => ?_⟩
            rw [f_X7_furtherCuts_d3_L18_eq, if_neg h64, if_neg (by decide), if_neg hb2', e1, Option.bind_some]
            simp only [sp_bndE, sp_one_ne, if_false, hcw, Option.bind_some, m1, m2]
            rw [show (3 : Int32) - 1 = 2 from rfl, d2 g g2, Option.bind_some, if_neg (by decide), sp_i_succ]
            rcases hb2 with ⟨rfl, -⟩ | ⟨rfl, -⟩
            · rw [if_neg (by decide), if_pos (by decide)]
            · rw [if_pos rfl]; rfl
          · refine ⟨(b, Int32.ofNat (i + 1)), ⟨b, rfl, Or.inr ⟨hup _ hb1 g, Or.imp (fun q => q) (fun q => ⟨q.1, hup _ q.2 g2⟩) hb2⟩⟩, fun rec => ?_⟩
            rw [f_X7_furtherCuts_d3_L18_eq, if_neg h64, if_neg (by decide), if_neg hb2', e1, Option.bind_some]
            simp only [sp_bndE, sp_one_ne, if_false, hcw, Option.bind_some, m1, m2]
            rw [show (3 : Int32) - 1 = 2 from rfl, d3 g g2, Option.bind_some, if_pos rfl, sp_i_succ]
  · rintro s ⟨b, rfl, hb⟩
    have hall : ∀ a, a < 27 → sz_tc6 a < 64 := fun a ha => by have := (sz_t1' ha).2.2.1; omega
    have hF : ∀ rec, f_X7_furtherCuts_d3_L18 (fun (x3 : Int32) => some x3) 3 (Int64.ofNat (sz_H (sz_oc S))) (Int64.ofNat (sz_H S)) (Int64.ofNat (sz_H D)) rec (b, Int32.ofNat 64) = some b := fun rec => by rw [f_X7_furtherCuts_d3_L18_eq, if_pos (by decide)]
    rcases hb with ⟨rfl, hb⟩ | ⟨hb1, hb2⟩
    · exact ⟨some 2, Or.inl ⟨hb, rfl⟩, hF⟩
    · have hn2 : ¬ sz_G2 D S := fun ⟨a, a1, a2, a3⟩ => hb1 a a1 (hall a a1) a2 a3
      rcases hb2 with ⟨rfl, hb2⟩ | ⟨rfl, hb2⟩
      · exact ⟨some 3, Or.inr (Or.inl ⟨hn2, hb2, rfl⟩), hF⟩
      · exact ⟨some (-9), Or.inr (Or.inr ⟨hn2, fun ⟨a, a1, a2, a3⟩ => hb2 a a1 (hall a a1) a2 a3, rfl⟩), hF⟩
