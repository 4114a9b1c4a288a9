/-! cuts: the reference's search, the call -/
theorem sz_nd_and {X S D : Nat} (hD : D < 2 ^ 27) (h : S &&& D = 0) : (sp_nd X S &&& D = 0) ↔ X &&& D = 0 := by
  have h0 := (sb_and0 hD).mp h
  rw [sb_and0 hD, sb_and0 hD]
  constructor
  · intro q k hk z
    refine q k hk ⟨?_, z.2⟩
    rw [sp_nd_bit, z.1]
    cases hs : S.testBit k with
    | false => rfl
    | true => exact absurd ⟨hs, z.2⟩ (h0 k hk)
  · intro q k hk z
    rw [sp_nd_bit, Bool.and_eq_true] at z
    exact q k hk ⟨z.1.1, z.2⟩
theorem sz_nw_bit (S a : Nat) : (sp_nd (sz_oc S) S).testBit a = true ↔ sz_nw S a := by
  rw [sp_nd_bit, Bool.and_eq_true]
  unfold sz_nw
  constructor
  · rintro ⟨q1, q2⟩
    exact ⟨q1, fun z => by rw [z] at q2; exact absurd q2 (by decide)⟩
  · rintro ⟨q1, q2⟩
    exact ⟨q1, by rw [Bool.eq_false_iff.mpr q2]; rfl⟩
theorem sz_or27 {S a : Nat} (hS : S < 2 ^ 27) (ha : a < 27) : S ||| 2 ^ a < 2 ^ 27 := Nat.or_lt_two_pow hS (Nat.pow_lt_pow_right (by omega) ha)
theorem sz_ndz {X S D : Nat} (hX : X < 2 ^ 27) : (Int32.ofNat (sp_nd X S) &&& Int32.ofNat D = 0) ↔ sp_nd X S &&& D = 0 := by
  rw [sb_and32]
  refine sz_z32 ?_
  have h1 : sp_nd X S < 2 ^ 27 := sp_nd_lt' hX
  exact Nat.lt_of_le_of_lt Nat.and_le_left (by omega)
/-- the reference's third cut -/
theorem sz_third {D W : Nat} (hD : D < 2 ^ 27) (hW : W < 2 ^ 27) {d : Nat → Int32} (hd : ∀ a b, a < 27 → b < 27 → d (27 * a + b) = Int32.ofNat (sz_su a b)) (kk : Int32 → Option (Int32 × (Nat → Int32) × (Nat → Int32))) : (∀ v y : Int32, (¬ v = 0 ∨ ¬ y = 0) → sp_lp (f_X10_cuts_L248 kk v (Int32.ofNat (sp_nd (sz_oc W) W)) (Int32.ofNat W) d (Int32.ofNat D)) sp_F (y, (0 : Int32)) = kk y) ∧ ((sz_G2 D W ∧ sp_lp (f_X10_cuts_L248 kk 0 (Int32.ofNat (sp_nd (sz_oc W) W)) (Int32.ofNat W) d (Int32.ofNat D)) sp_F ((0 : Int32), (0 : Int32)) = kk 1) ∨ (¬ sz_G2 D W ∧ sp_lp (f_X10_cuts_L248 kk 0 (Int32.ofNat (sp_nd (sz_oc W) W)) (Int32.ofNat W) d (Int32.ofNat D)) sp_F ((0 : Int32), (0 : Int32)) = kk 0)) := by
  constructor
  · intro v y h
    refine sp_lp_fn 0 (fun _ => (y, (0 : Int32))) (fun i hi => by omega) (fun rec => ?_) (sp_F_lt (by omega)) rfl
    rw [f_X10_cuts_L248_eq, if_neg (by decide)]
    by_cases q : v = 0
    · rw [if_pos q]
      rcases h with h | h
      · exact absurd q h
      · rw [if_neg h]
    · rw [if_neg q]
  · have hF31 : sp_nd (sz_oc W) W < 2 ^ 31 := by
      have : sp_nd (sz_oc W) W < 2 ^ 27 := sp_nd_lt' (sz_oc_lt W)
      omega
    refine sz_lp_Q (fun o => (sz_G2 D W ∧ o = kk 1) ∨ (¬ sz_G2 D W ∧ o = kk 0)) 27 (fun b s => ∃ y : Int32, s = (y, Int32.ofNat b) ∧ ((y = 1 ∧ sz_G2 D W) ∨ (y = 0 ∧ ∀ b', b' < b → sz_nw W b' → ¬ sz_G1 D (W ||| 2 ^ b')))) ?_ ?_ sp_F _ (sp_F_lt (by omega)) ⟨0, rfl, Or.inr ⟨rfl, fun b' hb => by omega⟩⟩
    · rintro b s hb ⟨y, rfl, hy⟩
      have h27 : ¬ (27 : Int32) ≤ Int32.ofNat b := fun z => by have := (sp_i_le (i := 27) (by omega) (by omega)).mp z; omega
      rcases hy with ⟨rfl, hg⟩ | ⟨rfl, hn⟩
      · left
        refine ⟨_, Or.inl ⟨hg, rfl⟩, fun rec => ?_⟩
        rw [f_X10_cuts_L248_eq, if_neg h27, if_pos rfl, if_neg (by decide)]
      · right
        by_cases q : sz_nw W b
        · have hoc := sz_oneCut (S := W ||| 2 ^ b) (sz_or27 hW hb) hd
          have hz : (Int32.ofNat (sz_oc (W ||| 2 ^ b)) &&& Int32.ofNat D = 0) ↔ sz_oc (W ||| 2 ^ b) &&& D = 0 := by
            rw [sb_and32]
            exact sz_z32 (Nat.lt_of_le_of_lt Nat.and_le_left (by have := sz_oc_lt (W ||| 2 ^ b); omega))
          by_cases g : sz_G1 D (W ||| 2 ^ b)
          · refine ⟨(1, Int32.ofNat (b + 1)), ⟨1, rfl, Or.inl ⟨rfl, b, hb, q, g⟩⟩, fun rec => ?_⟩
            rw [f_X10_cuts_L248_eq, if_neg h27, if_pos rfl, if_pos rfl, sb_bit32 hF31 (by omega), if_pos ((sz_nw_bit W b).mpr q), sb_one32 (show b < 31 by omega), sb_or32, hoc]
            simp only [sp_bndE, if_true, Option.bind_some, if_neg (fun z => g (hz.mp z)), sp_i_succ]
          · refine ⟨(0, Int32.ofNat (b + 1)), ⟨0, rfl, Or.inr ⟨rfl, fun b' h1 h2 => ?_⟩⟩, fun rec => ?_⟩
            · by_cases e : b' = b
              · rw [e]; exact g
              · exact hn b' (by omega) h2
            · rw [f_X10_cuts_L248_eq, if_neg h27, if_pos rfl, if_pos rfl, sb_bit32 hF31 (by omega), if_pos ((sz_nw_bit W b).mpr q), sb_one32 (show b < 31 by omega), sb_or32, hoc]
              simp only [sp_bndE, if_true, Option.bind_some, if_pos (hz.mpr (Classical.not_not.mp g)), sp_i_succ]
        · refine ⟨(0, Int32.ofNat (b + 1)), ⟨0, rfl, Or.inr ⟨rfl, fun b' h1 h2 => ?_⟩⟩, fun rec => ?_⟩
          · by_cases e : b' = b
            · rw [e] at h2; exact absurd h2 q
            · exact hn b' (by omega) h2
          · rw [f_X10_cuts_L248_eq, if_neg h27, if_pos rfl, if_pos rfl, sb_bit32 hF31 (by omega), if_neg (fun z => q ((sz_nw_bit W b).mp z))]
            simp only [sp_bndE, sz_01, if_false, sp_i_succ]
    · rintro s ⟨y, rfl, hy⟩
      rcases hy with ⟨rfl, hg⟩ | ⟨rfl, hn⟩
      · exact ⟨_, Or.inl ⟨hg, rfl⟩, fun rec => by rw [f_X10_cuts_L248_eq, if_pos (by decide)]⟩
      · refine ⟨_, Or.inr ⟨fun ⟨a, a1, a2, a3⟩ => hn a a1 a2 a3, rfl⟩, fun rec => by rw [f_X10_cuts_L248_eq, if_pos (by decide)]⟩
theorem sz_search {D S : Nat} (hD : D < 2 ^ 27) (hS : S < 2 ^ 27) (hSD : S &&& D = 0) (hno : ¬ sz_G1 D S) {d : Nat → Int32} (hd : ∀ a b, a < 27 → b < 27 → d (27 * a + b) = Int32.ofNat (sz_su a b)) (kk : Int32 → Int32 → Option (Int32 × (Nat → Int32) × (Nat → Int32))) : (sz_G2 D S ∧ ∃ y : Int32, sp_lp (f_X10_cuts_L186 kk (Int32.ofNat (sp_nd (sz_oc S) S)) (Int32.ofNat S) d (Int32.ofNat D)) sp_F ((0 : Int32), (0 : Int32), (0 : Int32)) = kk 1 y) ∨ (¬ sz_G2 D S ∧ sz_G3 D S ∧ sp_lp (f_X10_cuts_L186 kk (Int32.ofNat (sp_nd (sz_oc S) S)) (Int32.ofNat S) d (Int32.ofNat D)) sp_F ((0 : Int32), (0 : Int32), (0 : Int32)) = kk 0 1) ∨ (¬ sz_G2 D S ∧ ¬ sz_G3 D S ∧ sp_lp (f_X10_cuts_L186 kk (Int32.ofNat (sp_nd (sz_oc S) S)) (Int32.ofNat S) d (Int32.ofNat D)) sp_F ((0 : Int32), (0 : Int32), (0 : Int32)) = kk 0 0) := by
  have hF31 : sp_nd (sz_oc S) S < 2 ^ 31 := by
    have : sp_nd (sz_oc S) S < 2 ^ 27 := sp_nd_lt' (sz_oc_lt S)
    omega
  refine sz_lp_Q (fun o => (sz_G2 D S ∧ ∃ y : Int32, o = kk 1 y) ∨ (¬ sz_G2 D S ∧ sz_G3 D S ∧ o = kk 0 1) ∨ (¬ sz_G2 D S ∧ ¬ sz_G3 D S ∧ o = kk 0 0)) 27 (fun a s => ∃ u v : Int32, s = (u, v, Int32.ofNat a) ∧ ((u = 1 ∧ sz_G2 D S) ∨ (u = 0 ∧ (∀ a', a' < a → sz_nw S a' → ¬ sz_G1 D (S ||| 2 ^ a')) ∧ ((v = 1 ∧ sz_G3 D S) ∨ (v = 0 ∧ ∀ a', a' < a → sz_nw S a' → ¬ sz_G2 D (S ||| 2 ^ a')))))) ?_ ?_ sp_F _ (sp_F_lt (by omega)) ⟨0, 0, rfl, Or.inr ⟨rfl, fun a' h => by omega, Or.inr ⟨rfl, fun a' h => by omega⟩⟩⟩
  · rintro a s ha ⟨u, v, rfl, huv⟩
    right
    have h27 : ¬ (27 : Int32) ≤ Int32.ofNat a := fun z => by have := (sp_i_le (i := 27) (by omega) (by omega)).mp z; omega
    by_cases q : sz_nw S a
    · have hW := sz_or27 hS ha
      have hoc := sz_oneCut (S := S ||| 2 ^ a) hW hd
      have hWD : (S ||| 2 ^ a) &&& D = 0 := by
        rw [sb_and0 hD]
        intro k hk z
        rw [Nat.testBit_or, Nat.testBit_two_pow, Bool.or_eq_true, decide_eq_true_iff] at z
        rcases z.1 with z1 | z1
        · exact (sb_and0 hD).mp hSD k hk ⟨z1, z.2⟩
        · subst z1
          exact (sb_and0 hD).mp (Classical.not_not.mp hno) a hk ⟨q.1, z.2⟩
      have hz : (Int32.ofNat (sp_nd (sz_oc (S ||| 2 ^ a)) (S ||| 2 ^ a)) &&& Int32.ofNat D = 0) ↔ ¬ sz_G1 D (S ||| 2 ^ a) := by
        rw [sz_ndz (sz_oc_lt _), sz_nd_and hD hWD]
        unfold sz_G1
        exact Classical.not_not.symm
      -- the step, with what the inner loop comes to
      have hF : ∀ (x28 : Int32), (if (Int32.ofNat (sp_nd (sz_oc (S ||| 2 ^ a)) (S ||| 2 ^ a)) &&& Int32.ofNat D) = 0 then (0 : Int32) else 1) = x28 → ∀ w : Int32, (∀ k34 : Int32 → Option (Int32 × (Nat → Int32) × (Nat → Int32)), sp_lp (f_X10_cuts_L248 k34 (u ||| x28) (Int32.ofNat (sp_nd (sz_oc (S ||| 2 ^ a)) (S ||| 2 ^ a))) (Int32.ofNat (S ||| 2 ^ a)) d (Int32.ofNat D)) sp_F (v, (0 : Int32)) = k34 w) → ∀ rec, f_X10_cuts_L186 kk (Int32.ofNat (sp_nd (sz_oc S) S)) (Int32.ofNat S) d (Int32.ofNat D) rec (u, v, Int32.ofNat a) = rec (u ||| x28, w, Int32.ofNat (a + 1)) := by
        intro x28 hx w hw rec
        have hnd : Int32.ofNat (sz_oc (S ||| 2 ^ a)) &&& (Int32.ofNat (S ||| 2 ^ a) ^^^ (-1 : Int32)) = Int32.ofNat (sp_nd (sz_oc (S ||| 2 ^ a)) (S ||| 2 ^ a)) := sb_nd32 _ _
        rw [f_X10_cuts_L186_eq, if_neg h27, sp_bndE, sb_bit32 hF31 (by omega), if_pos ((sz_nw_bit S a).mpr q), if_neg (by decide), sb_one32 (show a < 31 by omega), sb_or32, sp_bndE, hoc, Option.bind_some, hnd, sp_bndE, sp_bndE]
        by_cases z : Int32.ofNat (sp_nd (sz_oc (S ||| 2 ^ a)) (S ||| 2 ^ a)) &&& Int32.ofNat D = 0
        · rw [if_pos z] at hx ⊢
          subst hx
          show sp_bnd _ _ = _
          rw [sp_bndE, sp_bndE, hw]
          show sp_bnd _ _ = _
          rw [sp_bndE, sp_i_succ]
        · rw [if_neg z] at hx ⊢
          subst hx
          show sp_bnd _ _ = _
          rw [sp_bndE, sp_bndE, hw]
          show sp_bnd _ _ = _
          rw [sp_bndE, sp_i_succ]
      have hup : ∀ (P : Nat → Prop), (∀ a', a' < a → sz_nw S a' → P a') → P a → ∀ a', a' < a + 1 → sz_nw S a' → P a' := by
        intro P hP hPa a' h1 h2
        by_cases e : a' = a
        · rw [e]; exact hPa
        · exact hP a' (by omega) h2
      by_cases g : sz_G1 D (S ||| 2 ^ a)
      · have hx : (if (Int32.ofNat (sp_nd (sz_oc (S ||| 2 ^ a)) (S ||| 2 ^ a)) &&& Int32.ofNat D) = 0 then (0 : Int32) else 1) = 1 := if_neg (fun z => hz.mp z g)
        have hu1 : u ||| 1 = 1 := by
          rcases huv with ⟨rfl, -⟩ | ⟨rfl, -⟩ <;> decide
        have hst := hF 1 hx v (fun k34 => (sz_third hD hW hd k34).1 _ _ (Or.inl (by rw [hu1]; decide)))
        rw [hu1] at hst
        exact ⟨(1, v, Int32.ofNat (a + 1)), ⟨1, v, rfl, Or.inl ⟨rfl, a, ha, q, g⟩⟩, hst⟩
      · have hx : (if (Int32.ofNat (sp_nd (sz_oc (S ||| 2 ^ a)) (S ||| 2 ^ a)) &&& Int32.ofNat D) = 0 then (0 : Int32) else 1) = 0 := if_pos (hz.mpr g)
        rcases huv with ⟨rfl, hg⟩ | ⟨rfl, h1, h2⟩
        · have hst := hF 0 hx v (fun k34 => (sz_third hD hW hd k34).1 _ _ (Or.inl (by decide)))
          exact ⟨(1, v, Int32.ofNat (a + 1)), ⟨1, v, rfl, Or.inl ⟨rfl, hg⟩⟩, hst⟩
        · rcases h2 with ⟨rfl, h2⟩ | ⟨rfl, h2⟩
          · have hst := hF 0 hx 1 (fun k34 => (sz_third hD hW hd k34).1 _ _ (Or.inr (by decide)))
            exact ⟨(0, 1, Int32.ofNat (a + 1)), ⟨0, 1, rfl, Or.inr ⟨rfl, hup _ h1 g, Or.inl ⟨rfl, h2⟩⟩⟩, hst⟩
          · by_cases g2 : sz_G2 D (S ||| 2 ^ a)
            · have hst := hF 0 hx 1 (fun k34 => by
                rcases (sz_third hD hW hd k34).2 with ⟨-, e⟩ | ⟨e, -⟩
                · exact e
                · exact absurd g2 e)
              exact ⟨(0, 1, Int32.ofNat (a + 1)), ⟨0, 1, rfl, Or.inr ⟨rfl, hup _ h1 g, Or.inl ⟨rfl, a, ha, q, g2⟩⟩⟩, hst⟩
            · have hst := hF 0 hx 0 (fun k34 => by
                rcases (sz_third hD hW hd k34).2 with ⟨e, -⟩ | ⟨-, e⟩
                · exact absurd e g2
                · exact e)
              exact ⟨(0, 0, Int32.ofNat (a + 1)), ⟨0, 0, rfl, Or.inr ⟨rfl, hup _ h1 g, Or.inr ⟨rfl, hup _ h2 g2⟩⟩⟩, hst⟩
    · have hup : ∀ (P : Nat → Prop), (∀ a', a' < a → sz_nw S a' → P a') → ∀ a', a' < a + 1 → sz_nw S a' → P a' := by
        intro P hP a' h1 h2
        by_cases e : a' = a
        · rw [e] at h2; exact absurd h2 q
        · exact hP a' (by omega) h2
      refine ⟨(u, v, Int32.ofNat (a + 1)), ⟨u, v, rfl, Or.imp (fun z => z) (fun z => ⟨z.1, hup _ z.2.1, Or.imp (fun w => w) (fun w => ⟨w.1, hup _ w.2⟩) z.2.2⟩) huv⟩, fun rec => ?_⟩
      rw [f_X10_cuts_L186_eq, if_neg h27, sp_bndE, sb_bit32 hF31 (by omega), if_neg (fun z => q ((sz_nw_bit S a).mp z)), if_pos rfl]
      show sp_bnd _ _ = _
      rw [sp_bndE, sp_i_succ]
  · rintro s ⟨u, v, rfl, huv⟩
    have hF : ∀ rec, f_X10_cuts_L186 kk (Int32.ofNat (sp_nd (sz_oc S) S)) (Int32.ofNat S) d (Int32.ofNat D) rec (u, v, Int32.ofNat 27) = kk u v := fun rec => by rw [f_X10_cuts_L186_eq, if_pos (by decide)]
    rcases huv with ⟨rfl, hg⟩ | ⟨rfl, h1, h2⟩
    · exact ⟨_, Or.inl ⟨hg, v, rfl⟩, hF⟩
    · have hn2 : ¬ sz_G2 D S := fun ⟨a, a1, a2, a3⟩ => h1 a a1 a2 a3
      rcases h2 with ⟨rfl, h2⟩ | ⟨rfl, h2⟩
      · exact ⟨_, Or.inr (Or.inl ⟨hn2, h2, rfl⟩), hF⟩
      · exact ⟨_, Or.inr (Or.inr ⟨hn2, fun ⟨a, a1, a2, a3⟩ => h2 a a1 a2 a3, rfl⟩), hF⟩
/-- the class's answer -/
theorem sz_fewC {z : sp_PrT} {n d : Nat} (h : sp_prOK z n) (hd : d < 27) (hall : ∀ l, l < n → z.2.2.2.1 l = -9 → ∃ a, a < 27 ∧ z.1 l = Int32.ofNat (sz_tcl a)) : f_X7_fewestCuts (Int32.ofNat (sz_tcl d)) z.1 z.2.2.2.2.1 (Int32.ofNat (sp_gn z.2.2.2.1 n)) = if sz_gs z n &&& sz_good d = 0 then f_X7_furtherCuts_d3 (Int64.ofNat (sz_H (sz_gs z n))) (Int64.ofNat (sz_H (sz_oc (sz_gs z n)))) (Int64.ofNat (sz_H (sz_good d))) 3 else some 0 := by
  unfold f_X7_fewestCuts
  rw [sp_bndE, sz_hadX h hall, sp_bndE]
  refine sz_want hd (fun o => o = if sz_gs z n &&& sz_good d = 0 then f_X7_furtherCuts_d3 (Int64.ofNat (sz_H (sz_gs z n))) (Int64.ofNat (sz_H (sz_oc (sz_gs z n)))) (Int64.ofNat (sz_H (sz_good d))) 3 else some 0) ?_
  have hc := sz_cmp (S := sz_gs z n) (sz_good_lt d)
  by_cases q : sz_gs z n &&& sz_good d = 0
  · rw [if_pos q]
    refine (if_pos (hc.mpr q)).trans ?_
    cases f_X7_furtherCuts_d3 (Int64.ofNat (sz_H (sz_gs z n))) (Int64.ofNat (sz_H (sz_oc (sz_gs z n)))) (Int64.ofNat (sz_H (sz_good d))) 3 <;> rfl
  · rw [if_neg q]
    exact if_neg (fun w => q (hc.mp w))
def sz_ck (p2 : Int32) (sc su : Nat → Int32) : Int32 → Option (Int32 × (Nat → Int32) × (Nat → Int32)) := fun (x5 : Int32) => Option.bind (f_X10_laySmall sc su) (fun q9 => match q9 with | (c7, c8) => sp_bnd (fun (x11 : Int32) => if (x5 &&& x11) = 0 then (Option.bind (f_X10_oneCut x5 c8) (fun r13 => sp_bnd (r13 &&& (x5 ^^^ (-1 : Int32))) (fun v14 => if (v14 &&& x11) = 0 then (sp_bnd (fun (x18 : Int32) (x19 : Int32) => if x18 = 0 then (if x19 = 0 then (some ((-9 : Int32), c7, c8)) else (some ((3 : Int32), c7, c8))) else (some ((2 : Int32), c7, c8))) (fun k20 => sp_lp (f_X10_cuts_L186 k20 v14 x5 c8 x11) sp_F ((0 : Int32), (0 : Int32), (0 : Int32)))) else (some ((1 : Int32), c7, c8))))) else (some ((0 : Int32), c7, c8))) (fun k12 => sp_lp (f_X10_cuts_L107 k12 c7 p2) sp_F ((0 : Int32), (0 : Int32))))
theorem sz_cutsE {p1 p2 pn : Int32} {mn cl lt sc su : Nat → Int32} (h1 : f_X10_isProof p1 pn = some 1) (h2 : f_X10_isSmall p2 = some 1) : f_X10_cuts p1 p2 pn mn cl lt sc su = sp_lp (f_X10_cuts_L25 mn p1 (sz_ck p2 sc su) lt cl sc su) sp_F ((0 : Int32), (0 : Int32)) := by
  unfold f_X10_cuts
  rw [h1, Option.bind_some, if_neg (by decide), h2, Option.bind_some, if_neg (by decide), sp_bndE]
  rfl
/-- both answers -/
theorem sz_ans {S d : Nat} (hS : S < 2 ^ 27) (sc su : Nat → Int32) : ∃ (r : Int32) (c e : Nat → Int32), sz_ck (Int32.ofNat (sz_tcl d)) sc su (Int32.ofNat S) = some (r, c, e) ∧ (if S &&& sz_good d = 0 then f_X7_furtherCuts_d3 (Int64.ofNat (sz_H S)) (Int64.ofNat (sz_H (sz_oc S))) (Int64.ofNat (sz_H (sz_good d))) 3 else some 0) = some r := by
  have hD := sz_good_lt d
  obtain ⟨c, e, l1, l2, l3⟩ := sz_laySmall sc su
  have hz : (Int32.ofNat S &&& Int32.ofNat (sz_good d) = 0) ↔ S &&& sz_good d = 0 := by
    rw [sb_and32]
    exact sz_z32 (Nat.lt_of_le_of_lt Nat.and_le_left (by omega))
  have hck : sz_ck (Int32.ofNat (sz_tcl d)) sc su (Int32.ofNat S) = if (Int32.ofNat S &&& Int32.ofNat (sz_good d)) = 0 then (Option.bind (f_X10_oneCut (Int32.ofNat S) e) (fun r13 => sp_bnd (r13 &&& (Int32.ofNat S ^^^ (-1 : Int32))) (fun v14 => if (v14 &&& Int32.ofNat (sz_good d)) = 0 then (sp_bnd (fun (x18 : Int32) (x19 : Int32) => if x18 = 0 then (if x19 = 0 then (some ((-9 : Int32), c, e)) else (some ((3 : Int32), c, e))) else (some ((2 : Int32), c, e))) (fun k20 => sp_lp (f_X10_cuts_L186 k20 v14 (Int32.ofNat S) e (Int32.ofNat (sz_good d))) sp_F ((0 : Int32), (0 : Int32), (0 : Int32)))) else (some ((1 : Int32), c, e))))) else (some ((0 : Int32), c, e)) := by
    unfold sz_ck
    rw [l1, Option.bind_some]
    show sp_bnd _ _ = _
    rw [sp_bndE, sz_goodM l2]
  rw [hck]
  by_cases q : S &&& sz_good d = 0
  · have hnd : Int32.ofNat (sz_oc S) &&& (Int32.ofNat S ^^^ (-1 : Int32)) = Int32.ofNat (sp_nd (sz_oc S) S) := sb_nd32 _ _
    rw [if_pos (hz.mpr q), if_pos q, sz_oneCut hS l3, Option.bind_some, hnd, sp_bndE]
    have hf : (Int32.ofNat (sp_nd (sz_oc S) S) &&& Int32.ofNat (sz_good d) = 0) ↔ ¬ sz_G1 (sz_good d) S := by
      rw [sz_ndz (sz_oc_lt _), sz_nd_and hD q]
      unfold sz_G1
      exact Classical.not_not.symm
    by_cases g : sz_G1 (sz_good d) S
    · refine ⟨1, c, e, by rw [if_neg (fun w => hf.mp w g)], ?_⟩
      unfold f_X7_furtherCuts_d3
      rw [if_neg (fun w => g ((sz_cmp hD).mp w))]
    · rw [if_pos (hf.mpr g), sp_bndE]
      rcases sz_search hD hS q g l3 (fun (x18 : Int32) (x19 : Int32) => if x18 = 0 then (if x19 = 0 then (some ((-9 : Int32), c, e)) else (some ((3 : Int32), c, e))) else (some ((2 : Int32), c, e))) with ⟨a1, y, a2⟩ | ⟨a1, a2, a3⟩ | ⟨a1, a2, a3⟩
      · refine ⟨2, c, e, a2.trans (if_neg (by decide)), ?_⟩
        rcases sz_d3 hD g with ⟨-, b⟩ | ⟨b, -⟩ | ⟨b, -⟩
        · exact b
        · exact absurd a1 b
        · exact absurd a1 b
      · refine ⟨3, c, e, a3.trans ((if_pos rfl).trans (if_neg (by decide))), ?_⟩
        rcases sz_d3 hD g with ⟨b, -⟩ | ⟨-, -, b⟩ | ⟨-, b, -⟩
        · exact absurd b a1
        · exact b
        · exact absurd a2 b
      · refine ⟨-9, c, e, a3.trans ((if_pos rfl).trans (if_pos rfl)), ?_⟩
        rcases sz_d3 hD g with ⟨b, -⟩ | ⟨-, b, -⟩ | ⟨-, -, b⟩
        · exact absurd b a1
        · exact absurd b a2
        · exact b
  · exact ⟨0, c, e, by rw [if_neg (fun w => q (hz.mp w))], by rw [if_neg q]⟩
theorem op_cuts {x : sp_XS} {y : sp_MS} (h : sp_Rel x y) (p1 p2 : Int32) : ∃ (r : Int32) (x' : sp_XS) (y' : sp_MS), sx_cuts p1 p2 x = some (r, x') ∧ sm_cuts p1 p2 y = some (r, y') ∧ sp_Rel x' y' := by
  rcases sp_proof h p1 with ⟨e1, e2⟩ | ⟨p, n, hp, rfl, ei, g1, g2, g3, e1, e2, e3⟩
  · apply sp_fin (r := -1)
    · unfold sx_cuts sx_cuts0 f_X9_cuts; rw [e1]; rfl
    · unfold sm_cuts f_X10_cuts; rw [e2]; rfl
    · exact h
  · rcases sp_isClause01 p2 with hc | hc
    · apply sp_fin (r := -2)
      · unfold sx_cuts sx_cuts0 f_X9_cuts; rw [e1, Option.bind_some, if_neg (by decide), sp_isClause, hc]; rfl
      · unfold sm_cuts f_X10_cuts f_X10_isSmall; rw [e2, Option.bind_some, if_neg (by decide), hc]; rfl
      · exact h
    · rcases sz_small hc with ⟨s1, s2⟩ | ⟨d, hd, rfl, s1, s2⟩
      · apply sp_fin (r := -2)
        · unfold sx_cuts sx_cuts0 f_X9_cuts; rw [e1, Option.bind_some, if_neg (by decide), sp_isClause, hc, Option.bind_some, if_neg (by decide), s1]; rfl
        · unfold sm_cuts f_X10_cuts; rw [e2, Option.bind_some, if_neg (by decide), s2]; rfl
        · exact h
      · have hX : ∀ o, sp_lp (f_X9_cuts_L37 (Int32.ofNat (sp_gn (x.1 p).2.2.2.1 n)) (Option.bind (f_X7_fewestCuts (Int32.ofNat (sz_tcl d)) (x.1 p).1 (x.1 p).2.2.2.2.1 (Int32.ofNat (sp_gn (x.1 p).2.2.2.1 n))) (fun r6 => some r6)) (x.1 p).2.2.2.2.1 (x.1 p).1) sp_F (0 : Int32) = o → f_X9_cuts (Int32.ofNat p) (Int32.ofNat (sz_tcl d)) x.2.2.2.2.2.2.2.2.2.1 (x.1 p).1 (x.1 p).2.2.2.2.1 (x.1 p).2.2.2.2.2.2 = o := by
          intro o ho
          unfold f_X9_cuts
          rw [e1, Option.bind_some, if_neg (by decide), sp_isClause, hc, Option.bind_some, if_neg (by decide), s1, Option.bind_some, if_neg (by decide), sp_ck_at hp (by omega), sp_bndE, g1.2.2.2.2.1]
          exact ho
        by_cases hbad : ∃ l, l < n ∧ (x.1 p).2.2.2.1 l = -9 ∧ f_X0_isSmall ((x.1 p).1 l) = some 0
        · obtain ⟨l, l1, l2, l3⟩ := hbad
          have l4 : f_X10_isSmall ((x.1 p).1 l) = some 0 := by
            rcases sz_small (sp_clOK g1 l1) with ⟨-, e⟩ | ⟨a, -, -, e, -⟩
            · exact e
            · rw [l3] at e; exact absurd (Option.some.inj e) (by decide)
          have hM := (sz_cutsE (mn := y.2.2.2.2.2.2.1) (cl := y.2.2.2.2.2.2.2.1) (lt := y.2.2.2.2.2.2.2.2.2.2.1) (sc := y.2.2.2.2.2.2.2.2.2.2.2.2.2.2.2.2.2.2.2.2.2.2.2.2.2.2.2.2.2.2.1) (su := y.2.2.2.2.2.2.2.2.2.2.2.2.2.2.2.2.2.2.2.2.2.2.2.2.2.2.2.2.2.2.2) e2 s2).trans (sz_largeM g1 hp g2 g3 l1 l2 l4 _)
          apply sp_fin (r := -3)
          · unfold sx_cuts sx_cuts0
            rw [ei, hX _ (sz_largeX g1 l1 l2 l3 _)]
            rfl
          · unfold sm_cuts
            rw [hM]
            rfl
          · exact h
        · have hsm : ∀ l, l < n → (x.1 p).2.2.2.1 l = -9 → (∃ a, a < 27 ∧ (x.1 p).1 l = Int32.ofNat (sz_tcl a)) ∧ f_X0_isSmall ((x.1 p).1 l) = some 1 ∧ f_X10_isSmall ((x.1 p).1 l) = some 1 := by
            intro l l1 l2
            rcases sz_small (sp_clOK g1 l1) with ⟨e, -⟩ | ⟨a, a1, a2, a3, a4⟩
            · exact absurd ⟨l, l1, l2, e⟩ hbad
            · exact ⟨⟨a, a1, a2⟩, a3, a4⟩
          obtain ⟨r, c, e, r1, r2⟩ := sz_ans (d := d) (sz_gs_lt (x.1 p) n) y.2.2.2.2.2.2.2.2.2.2.2.2.2.2.2.2.2.2.2.2.2.2.2.2.2.2.2.2.2.2.1 y.2.2.2.2.2.2.2.2.2.2.2.2.2.2.2.2.2.2.2.2.2.2.2.2.2.2.2.2.2.2.2
          have hM := ((sz_cutsE (mn := y.2.2.2.2.2.2.1) (cl := y.2.2.2.2.2.2.2.1) (lt := y.2.2.2.2.2.2.2.2.2.2.1) (sc := y.2.2.2.2.2.2.2.2.2.2.2.2.2.2.2.2.2.2.2.2.2.2.2.2.2.2.2.2.2.2.1) (su := y.2.2.2.2.2.2.2.2.2.2.2.2.2.2.2.2.2.2.2.2.2.2.2.2.2.2.2.2.2.2.2) e2 s2).trans (sz_hadM g1 hp g2 g3 (fun l l1 l2 => (hsm l l1 l2).2.2) _)).trans r1
          have hC := sz_fewC g1 hd (fun l l1 l2 => (hsm l l1 l2).1)
          rw [r2] at hC
          have hX1 := sz_smallX g1 (fun l l1 l2 => (hsm l l1 l2).2.1) (Option.bind (f_X7_fewestCuts (Int32.ofNat (sz_tcl d)) (x.1 p).1 (x.1 p).2.2.2.2.1 (Int32.ofNat (sp_gn (x.1 p).2.2.2.1 n))) (fun r6 => some r6))
          have hX2 := hX _ hX1
          rw [hC, Option.bind_some] at hX2
          apply sp_fin (r := r)
          · unfold sx_cuts sx_cuts0
            rw [ei, hX2]
            rfl
          · unfold sm_cuts
            rw [hM]
            rfl
          · exact sz_rel_eq h rfl rfl rfl rfl rfl rfl rfl rfl rfl rfl rfl rfl rfl rfl rfl
