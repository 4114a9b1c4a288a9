/-! fewest: the lines that matter, numbered -/
def sz_bs (P : Nat → Prop) [DecidablePred P] : Nat → Nat
  | 0 => 0
  | k + 1 => if P k then sz_bs P k ||| 2 ^ k else sz_bs P k
theorem sz_bs_y {P : Nat → Prop} [DecidablePred P] {k : Nat} (h : P k) : sz_bs P (k + 1) = sz_bs P k ||| 2 ^ k := by rw [sz_bs, if_pos h]
theorem sz_bs_n {P : Nat → Prop} [DecidablePred P] {k : Nat} (h : ¬ P k) : sz_bs P (k + 1) = sz_bs P k := by rw [sz_bs, if_neg h]
theorem sz_bs_lt (P : Nat → Prop) [DecidablePred P] : ∀ k, sz_bs P k < 2 ^ k
  | 0 => by rw [sz_bs]; omega
  | k + 1 => by
    have ih := Nat.lt_trans (sz_bs_lt P k) (Nat.pow_lt_pow_right (show 1 < 2 by omega) (show k < k + 1 by omega))
    rw [sz_bs]
    split
    · exact Nat.or_lt_two_pow ih (Nat.pow_lt_pow_right (by omega) (by omega))
    · exact ih
theorem sz_bs_bit (P : Nat → Prop) [DecidablePred P] (j : Nat) : ∀ k, (sz_bs P k).testBit j = (decide (j < k) && decide (P j))
  | 0 => by rw [sz_bs, Nat.zero_testBit, decide_eq_false (by omega)]; rfl
  | k + 1 => by
    rw [sz_bs]
    by_cases e : j = k
    · subst e
      by_cases q : P j
      · rw [if_pos q, Nat.testBit_or, Nat.testBit_two_pow_self, decide_eq_true q, decide_eq_true (by omega)]; simp
      · rw [if_neg q, sz_bs_bit P j j, decide_eq_false q]; simp
    · have e3 : decide (j < k + 1) = decide (j < k) := by rw [decide_eq_decide]; omega
      rw [e3, ← sz_bs_bit P j k]
      by_cases q : P k
      · rw [if_pos q, Nat.testBit_or, Nat.testBit_two_pow, decide_eq_false (by omega), Bool.or_false]
      · rw [if_neg q]
/-- with or without one more user -/
def sz_ad (c : Prop) [Decidable c] (u m : Nat) : Nat := if c then u ||| 2 ^ m else u
theorem sz_link {z : sp_PrT} {n i m : Nat} {li ne us : Nat → Int32} {ln uu : Nat → Nat} (h : sp_prOK z n) (hi : i < n) (hm : m < 12) (hli : li m = Int32.ofNat i) (hlk : ∀ k, k < m → li k = Int32.ofNat (ln k)) (hne : ne m = 0) (hus : ∀ k, k < m → us k = Int32.ofNat (uu k)) : ∃ ne' us' : Nat → Int32, f_X1_linkTo (Int32.ofNat m) li ne us z.2.1 z.2.2.1 = some (ne', us') ∧ ne' m = Int32.ofNat (sz_bs (fun k => sp_frm z i (ln k)) m) ∧ (∀ k, k ≠ m → ne' k = ne k) ∧ (∀ k, k < m → us' k = Int32.ofNat (sz_ad (sp_frm z i (ln k)) (uu k) m)) ∧ us' m = us m := by
  unfold f_X1_linkTo
  rw [sp_bndE]
  refine sz_lp_Q (fun o => ∃ ne' us' : Nat → Int32, o = some (ne', us') ∧ ne' m = Int32.ofNat (sz_bs (fun k => sp_frm z i (ln k)) m) ∧ (∀ k, k ≠ m → ne' k = ne k) ∧ (∀ k, k < m → us' k = Int32.ofNat (sz_ad (sp_frm z i (ln k)) (uu k) m)) ∧ us' m = us m) m (fun k s => ∃ ne' us' : Nat → Int32, s = (Int32.ofNat k, ne', us') ∧ ne' m = Int32.ofNat (sz_bs (fun k => sp_frm z i (ln k)) k) ∧ (∀ j, j ≠ m → ne' j = ne j) ∧ (∀ j, j < k → us' j = Int32.ofNat (sz_ad (sp_frm z i (ln j)) (uu j) m)) ∧ ∀ j, k ≤ j → us' j = us j) ?_ ?_ sp_F _ (sp_F_lt (by omega)) ⟨ne, us, rfl, hne, fun j _ => rfl, fun j hj => by omega, fun j _ => rfl⟩
  · rintro k s hk ⟨ne', us', rfl, a1, a2, a3, a4⟩
    right
    have hF : ∀ rec, f_X1_linkTo_L2 (Int32.ofNat m) (fun (c4 : Nat → Int32) (c5 : Nat → Int32) => some (c4, c5)) li z.2.1 z.2.2.1 rec (Int32.ofNat k, ne', us') = if sp_frm z i (ln k) then rec (Int32.ofNat (k + 1), upd ne' m (Int32.ofNat (sz_bs (fun k => sp_frm z i (ln k)) k ||| 2 ^ k)), upd us' k (Int32.ofNat (uu k ||| 2 ^ m))) else rec (Int32.ofNat (k + 1), ne', us') := by
      intro rec
      rw [f_X1_linkTo_L2_eq, if_neg (fun q => by have := (sp_i_le (by omega) (by omega)).mp q; omega), sp_ld_at (show m < 12 by omega) (by omega), hli, sp_ld_at (show k < 12 by omega) (by omega), hlk k hk, sp_isCutFrom h hi, Option.bind_some]
      by_cases q : sp_frm z i (ln k)
      · rw [if_pos q, if_pos q]
        simp only [sp_bndE, sp_one_ne, if_false, sp_ld_at (show m < 12 by omega) (by omega : 12 < 1000000), sp_st_at (show m < 12 by omega) (by omega : 12 < 1000000), sp_ld_at (show k < 12 by omega) (by omega : 12 < 1000000), sp_st_at (show k < 12 by omega) (by omega : 12 < 1000000), a1, a4 k (Nat.le_refl _), hus k hk, sb_one32 (show k < 31 by omega), sb_one32 (show m < 31 by omega), sb_or32, sp_i_succ]
      · rw [if_neg q, if_neg q]
        simp only [sp_bndE, if_true, sp_i_succ]
    by_cases q : sp_frm z i (ln k)
    · refine ⟨(Int32.ofNat (k + 1), upd ne' m (Int32.ofNat (sz_bs (fun k => sp_frm z i (ln k)) k ||| 2 ^ k)), upd us' k (Int32.ofNat (uu k ||| 2 ^ m))), ⟨_, _, rfl, ?_, fun j hj => ?_, fun j hj => ?_, fun j hj => ?_⟩, fun rec => by rw [hF, if_pos q]⟩
      · rw [sz_upd_at, sz_bs_y (P := fun k => sp_frm z i (ln k)) q]
      · rw [sz_upd_ne hj]; exact a2 j hj
      · by_cases e : j = k
        · subst e
          rw [sz_upd_at]; unfold sz_ad; rw [if_pos q]
        · rw [sz_upd_ne e]; exact a3 j (by omega)
      · rw [sz_upd_ne (by omega)]; exact a4 j (by omega)
    · refine ⟨(Int32.ofNat (k + 1), ne', us'), ⟨_, _, rfl, ?_, a2, fun j hj => ?_, fun j hj => a4 j (by omega)⟩, fun rec => by rw [hF, if_neg q]⟩
      · rw [sz_bs_n (P := fun k => sp_frm z i (ln k)) q]; exact a1
      · by_cases e : j = k
        · subst e
          rw [a4 j (Nat.le_refl _), hus j hk]; unfold sz_ad; rw [if_neg q]
        · exact a3 j (by omega)
  · rintro s ⟨ne', us', rfl, a1, a2, a3, a4⟩
    exact ⟨_, ⟨ne', us', rfl, a1, a2, a3, a4 m (Nat.le_refl _)⟩, fun rec => by rw [f_X1_linkTo_L2_eq, if_pos ((sp_i_le (by omega) (by omega)).mpr (Nat.le_refl _))]⟩
theorem sz_placeOf {ma : Nat → Int32} {ln : Nat → Nat} {m k : Nat} (hm : m ≤ 12) (hma : ∀ j, j < m → ma j = Int32.ofNat (ln j)) (hln : ∀ j, j < m → ln j < 24) (hk : k < m) (hinj : ∀ j, j < k → ln j ≠ ln k) : f_X10_placeOf (Int32.ofNat (ln k)) ma = some (Int32.ofNat k) := by
  unfold f_X10_placeOf
  rw [sp_bndE]
  refine sp_lp_fn k (fun j => Int32.ofNat j) (fun j hj rec => ?_) (fun rec => ?_) (sp_F_lt (by omega)) rfl
  · have h1 := hln j (by omega)
    have h2 := hln k hk
    rw [f_X10_placeOf_L2_eq, sp_ld_at (show j < 12 by omega) (by omega), hma j (by omega), if_neg (fun q => hinj j hj ((sp_i_inj (by omega) (by omega)).mp q)), sp_bndE, sp_i_succ]
  · rw [f_X10_placeOf_L2_eq, sp_ld_at (show k < 12 by omega) (by omega), hma k hk, if_pos rfl]
/-- lines that matter, on both sides -/
def sz_mt (R i m : Nat) (ln nd uu : Nat → Nat) (li ne us ma nem usm : Nat → Int32) : Prop := ∀ j, j < m → (li j = Int32.ofNat (ln j) ∧ ma j = Int32.ofNat (ln j) ∧ ln j < i ∧ R.testBit (ln j) = true ∧ sp_pc R (ln j) = j) ∧ (ne j = Int32.ofNat (nd j) ∧ nem j = Int32.ofNat (nd j) ∧ nd j < 2 ^ j) ∧ us j = Int32.ofNat (uu j) ∧ usm j = Int32.ofNat (uu j) ∧ uu j < 2 ^ m
theorem sz_number {z : sp_PrT} {n p : Nat} {mn cl le ri lt : Nat → Int32} (h : sp_prOK z n) (hp : p < 12) (hmn : mn p = Int32.ofNat n) (hs : sp_same z cl le ri lt p n) (h12 : sp_pc (sp_rest z.2.2.2.1 z.2.1 z.2.2.1 n) n ≤ 12) (li0 ne0 us0 ma0 nem0 usm0 : Nat → Int32) : ∃ (ln nd uu : Nat → Nat) (li ne us ma nem usm : Nat → Int32), f_X1_number li0 ne0 us0 z.2.1 z.2.2.1 z.2.2.2.2.2.1 = some (Int32.ofNat (sp_pc (sp_rest z.2.2.2.1 z.2.1 z.2.2.1 n) n), li, ne, us) ∧ f_X10_layMatter (Int32.ofNat p) (Int32.ofNat (sp_rest z.2.2.2.1 z.2.1 z.2.2.1 n)) mn le ri lt ma0 nem0 usm0 = some (Int32.ofNat (sp_pc (sp_rest z.2.2.2.1 z.2.1 z.2.2.1 n) n), ma, nem, usm) ∧ sz_mt (sp_rest z.2.2.2.1 z.2.1 z.2.2.1 n) n (sp_pc (sp_rest z.2.2.2.1 z.2.1 z.2.2.1 n) n) ln nd uu li ne us ma nem usm := by
  have h1 := h.1
  have hn := h.2.1
  have hcl := fun {c a : Nat} (hc : c < n) (hb : (sp_rest z.2.2.2.1 z.2.1 z.2.2.1 n).testBit c = true) (hf : sp_frm z c a) (ha : a < n) => sp_rest_cl h hc hb hf ha
  have hRn := sp_rest_lt h
  have hR31 : sp_rest z.2.2.2.1 z.2.1 z.2.2.1 n < 2 ^ 31 := Nat.lt_of_lt_of_le hRn (Nat.pow_le_pow_right (by omega) (by omega))
  have hR63 : sp_rest z.2.2.2.1 z.2.1 z.2.2.1 n < 2 ^ 63 := Nat.lt_of_lt_of_le hRn (Nat.pow_le_pow_right (by omega) (by omega))
  unfold f_X1_number f_X10_layMatter
  rw [sp_restSet h, Option.bind_some, sp_bndE, sp_bndE, h.2.2.1]
  generalize sp_rest z.2.2.2.1 z.2.1 z.2.2.1 n = R at *
  refine sz_lp2 (fun o u => ∃ (ln nd uu : Nat → Nat) (li ne us ma nem usm : Nat → Int32), o = some (Int32.ofNat (sp_pc R n), li, ne, us) ∧ u = some (Int32.ofNat (sp_pc R n), ma, nem, usm) ∧ sz_mt R n (sp_pc R n) ln nd uu li ne us ma nem usm) n (fun i s t => ∃ (ln nd uu : Nat → Nat) (li ne us ma nem usm : Nat → Int32), s = (Int32.ofNat i, Int32.ofNat (sp_pc R i), li, ne, us) ∧ t = (Int32.ofNat i, Int32.ofNat (sp_pc R i), ma, nem, usm) ∧ sz_mt R i (sp_pc R i) ln nd uu li ne us ma nem usm) ?_ ?_ sp_F sp_F _ _ (sp_F_lt (by omega)) (sp_F_lt (by omega)) ⟨fun _ => 0, fun _ => 0, fun _ => 0, li0, ne0, us0, ma0, nem0, usm0, rfl, rfl, fun j hj => by rw [sp_pc] at hj; omega⟩
  · rintro i s t hi ⟨ln, nd, uu, li, ne, us, ma, nem, usm, rfl, rfl, hmt⟩
    right
    obtain ⟨s1, s2, s3, s4⟩ := hs i hi
    by_cases hb : R.testBit i = true
    · have hpc : sp_pc R (i + 1) = sp_pc R i + 1 := by rw [sp_pc, if_pos hb]
      have hlt : sp_pc R i < 12 := Nat.lt_of_lt_of_le (sz_pc_lt hi hb) h12
      have hmm : ∀ a, a < i → R.testBit a = true → sp_pc R a < sp_pc R i ∧ ln (sp_pc R a) = a := by
        intro a ha hba
        have hl := sz_pc_lt ha hba
        obtain ⟨⟨-, -, q1, q2, q3⟩, -⟩ := hmt (sp_pc R a) hl
        refine ⟨hl, ?_⟩
        by_cases e1 : ln (sp_pc R a) < a
        · have := sz_pc_lt e1 q2; omega
        · by_cases e2 : a < ln (sp_pc R a)
          · have := sz_pc_lt e2 hba; omega
          · omega
      generalize hm : sp_pc R i = m at *
      -- the class
      have hlkX : ∀ k, k < m → upd li m (Int32.ofNat i) k = Int32.ofNat (ln k) := fun k hk => by rw [sz_upd_ne (by omega)]; exact (hmt k hk).1.1
      obtain ⟨ne', us', l1, l2, l3, l4, l5⟩ := sz_link (z := z) (li := upd li m (Int32.ofNat i)) (ne := upd ne m 0) (us := upd us m 0) (ln := ln) (uu := uu) h hi hlt (sz_upd_at _ _ _) hlkX (sz_upd_at _ _ _) (fun k hk => by rw [sz_upd_ne (by omega)]; exact (hmt k hk).2.2.1)
      have hX : ∀ rec, f_X1_number_L13 (Int32.ofNat n) (fun (c7 : Int32) (c8 : Nat → Int32) (c9 : Nat → Int32) (c10 : Nat → Int32) => some (c7, c8, c9, c10)) (Int64.ofNat R) z.2.1 z.2.2.1 rec (Int32.ofNat i, Int32.ofNat m, li, ne, us) = rec (Int32.ofNat (i + 1), Int32.ofNat (m + 1), upd li m (Int32.ofNat i), ne', us') := by
        intro rec
        rw [f_X1_number_L13_eq, if_neg (fun q => by have := (sp_i_le (by omega) (by omega)).mp q; omega), sp_isIn hR63 (by omega), Option.bind_some, if_pos hb]
        simp only [sp_bndE, sp_one_ne, if_false, if_neg (show ¬ (12 : Int32) ≤ Int32.ofNat m from fun q => by have := (sp_i_le (i := 12) (by omega) (by omega)).mp q; omega), sp_st_at hlt (by omega : 12 < 1000000), l1, Option.bind_some, sp_i_succ]
      -- what both sides come to
      have hend : ∀ nem' usm' : Nat → Int32, nem' m = Int32.ofNat (sz_bs (fun k => sp_frm z i (ln k)) m) → (∀ k, k < m → nem' k = nem k) → (∀ k, k < m → usm' k = Int32.ofNat (sz_ad (sp_frm z i (ln k)) (uu k) m)) → usm' m = 0 → sz_mt R (i + 1) (sp_pc R (i + 1)) (fun j => if j = m then i else ln j) (fun j => if j = m then sz_bs (fun k => sp_frm z i (ln k)) m else nd j) (fun j => if j = m then 0 else sz_ad (sp_frm z i (ln j)) (uu j) m) (upd li m (Int32.ofNat i)) ne' us' (upd ma m (Int32.ofNat i)) nem' usm' := by
        intro nem' usm' w1 w2 w3 w4
        rw [hpc]
        intro j hj
        by_cases e : j = m
        · subst e
          simp only [if_true, sz_upd_at]
          exact ⟨⟨trivial, trivial, by omega, hb, hm⟩, ⟨l2, w1, sz_bs_lt _ _⟩, by rw [l5, sz_upd_at]; rfl, w4, Nat.two_pow_pos _⟩
        · have hjm : j < m := by omega
          obtain ⟨⟨q1, q2, q3, q4, q5⟩, ⟨q6, q7, q8⟩, q9, q10, q11⟩ := hmt j hjm
          simp only [if_neg e, sz_upd_ne e]
          refine ⟨⟨q1, q2, by omega, q4, q5⟩, ⟨by rw [l3 j e, sz_upd_ne e]; exact q6, by rw [w2 j hjm]; exact q7, q8⟩, l4 j hjm, w3 j hjm, ?_⟩
          have q11' : uu j < 2 ^ (m + 1) := Nat.lt_trans q11 (Nat.pow_lt_pow_right (by omega) (by omega))
          unfold sz_ad
          split
          · exact Nat.or_lt_two_pow q11' (Nat.pow_lt_pow_right (by omega) (by omega))
          · exact q11'
      -- the reference
      rcases sp_ground h hi with ⟨g, -, -⟩ | ⟨g, a, b, k, ha, hbb, hk, e1, e2, -⟩
      · have hnf : ∀ k, ¬ sp_frm z i k := fun k q => q.1 g
        refine ⟨(Int32.ofNat (i + 1), Int32.ofNat (m + 1), upd li m (Int32.ofNat i), ne', us'), (Int32.ofNat (i + 1), Int32.ofNat (m + 1), upd ma m (Int32.ofNat i), upd nem m 0, upd usm m 0), ⟨_, _, _, _, _, _, _, _, _, by rw [hpc], by rw [hpc], hend (upd nem m 0) (upd usm m 0) ?_ (fun k hk => sz_upd_ne (by omega)) (fun k hk => ?_) (sz_upd_at _ _ _)⟩, hX, fun rec => ?_⟩
        · have e0 : sz_bs (fun k => sp_frm z i (ln k)) m = 0 := by
            apply Nat.eq_of_testBit_eq
            intro j
            rw [sz_bs_bit, decide_eq_false (hnf (ln j)), Bool.and_false, Nat.zero_testBit]
          rw [sz_upd_at, e0]; rfl
        · rw [sz_upd_ne (by omega)]
          unfold sz_ad
          rw [if_neg (hnf (ln k))]
          exact (hmt k hk).2.2.2.1
        · rw [f_X10_layMatter_L7_eq, sp_ld_at hp (by omega), hmn, if_neg (fun q => by have := (sp_i_le (by omega) (by omega)).mp q; omega), sb_bit32 hR31 (by omega), if_pos hb, sp_i_24]
          simp only [sp_bndE, sp_one_ne, if_false, sp_st_at hlt (by omega : 12 < 1000000), sp_ld_at (show 24 * p + i < 288 by omega) (by omega : 288 < 1000000), s4, if_pos g, sp_i_succ]
      · have fa : sp_frm z i a := ⟨g, Or.inl e1⟩
        have fb : sp_frm z i b := ⟨g, Or.inr e2⟩
        obtain ⟨pa, la⟩ := hmm a ha (hcl hi hb fa (by omega))
        obtain ⟨pb, lb⟩ := hmm b hbb (hcl hi hb fb (by omega))
        have hfr : ∀ k, k < m → (sp_frm z i (ln k) ↔ k = sp_pc R a ∨ k = sp_pc R b) := by
          intro k hk
          have hlk := (hmt k hk).1.2.2.1
          have hpk := (hmt k hk).1.2.2.2.2
          constructor
          · rintro ⟨-, q | q⟩
            · rw [e1] at q
              have := (sp_i_inj (by omega) (by omega)).mp q
              left; rw [← hpk, ← this]
            · rw [e2] at q
              have := (sp_i_inj (by omega) (by omega)).mp q
              right; rw [← hpk, ← this]
          · rintro (q | q)
            · rw [q, la]; exact fa
            · rw [q, lb]; exact fb
        have hma : ∀ j, j < m → upd ma m (Int32.ofNat i) j = Int32.ofNat (ln j) := fun j hj => by rw [sz_upd_ne (by omega)]; exact (hmt j hj).1.2.1
        have hln : ∀ j, j < m → ln j < 24 := fun j hj => by have := (hmt j hj).1.2.2.1; omega
        have hinj : ∀ j k, j < k → k < m → ln j ≠ ln k := by
          intro j k hj hk q
          have q1 := (hmt j (by omega)).1.2.2.2.2
          have q2 := (hmt k hk).1.2.2.2.2
          rw [q, q2] at q1
          omega
        have oa := sz_placeOf (show m ≤ 12 by omega) hma hln pa (fun j hj => hinj j _ hj pa)
        have ob := sz_placeOf (show m ≤ 12 by omega) hma hln pb (fun j hj => hinj j _ hj pb)
        rw [la] at oa
        rw [lb] at ob
        have ua := (hmt _ pa).2.2.2.1
        have ub := (hmt _ pb).2.2.2.1
        generalize sp_pc R a = ka at *
        generalize sp_pc R b = kb at *
        refine ⟨(Int32.ofNat (i + 1), Int32.ofNat (m + 1), upd li m (Int32.ofNat i), ne', us'), (Int32.ofNat (i + 1), Int32.ofNat (m + 1), upd ma m (Int32.ofNat i), upd (upd nem m 0) m (Int32.ofNat (2 ^ ka ||| 2 ^ kb)), upd (upd (upd usm m 0) ka (usm ka ||| Int32.ofNat (2 ^ m))) kb ((upd (upd usm m 0) ka (usm ka ||| Int32.ofNat (2 ^ m))) kb ||| Int32.ofNat (2 ^ m))), ⟨_, _, _, _, _, _, _, _, _, by rw [hpc], by rw [hpc], hend _ _ ?_ (fun k hk => by rw [sz_upd_ne (by omega), sz_upd_ne (by omega)]) (fun k hk => ?_) (by rw [sz_upd_ne (by omega), sz_upd_ne (by omega), sz_upd_at])⟩, hX, fun rec => ?_⟩
        · rw [sz_upd_at]
          congr 1
          apply Nat.eq_of_testBit_eq
          intro j
          rw [sz_bs_bit, Nat.testBit_or, Nat.testBit_two_pow, Nat.testBit_two_pow]
          by_cases hj : j < m
          · rw [decide_eq_true hj, Bool.true_and, ← Bool.decide_or, decide_eq_decide, hfr j hj]
            constructor
            · rintro (q | q)
              · exact Or.inl q.symm
              · exact Or.inr q.symm
            · rintro (q | q)
              · exact Or.inl q.symm
              · exact Or.inr q.symm
          · rw [decide_eq_false hj, decide_eq_false (by omega), decide_eq_false (by omega)]; rfl
        · have uk := (hmt k hk).2.2.2.1
          unfold sz_ad
          by_cases ekb : k = kb
          · rw [if_pos ((hfr k hk).mpr (Or.inr ekb))]
            subst ekb
            rw [sz_upd_at]
            by_cases eka : k = ka
            · subst eka
              rw [sz_upd_at, uk, sb_or32, sb_or32, Nat.or_assoc, Nat.or_self]
            · rw [sz_upd_ne eka, sz_upd_ne (by omega), uk, sb_or32]
          · rw [sz_upd_ne ekb]
            by_cases eka : k = ka
            · rw [if_pos ((hfr k hk).mpr (Or.inl eka))]
              subst eka
              rw [sz_upd_at, uk, sb_or32]
            · rw [if_neg (fun q => by rcases (hfr k hk).mp q with w | w; exact eka w; exact ekb w), sz_upd_ne eka, sz_upd_ne (by omega)]
              exact uk
        · rw [f_X10_layMatter_L7_eq, sp_ld_at hp (by omega), hmn, if_neg (fun q => by have := (sp_i_le (by omega) (by omega)).mp q; omega), sb_bit32 hR31 (by omega), if_pos hb, sp_i_24]
          simp only [sp_bndE, sp_one_ne, if_false, sp_st_at hlt (by omega : 12 < 1000000), sp_ld_at (show 24 * p + i < 288 by omega) (by omega : 288 < 1000000), s2, s3, s4, if_neg g, e1, e2, oa, ob, Option.bind_some, sb_one32 (show ka < 31 by omega), sb_one32 (show kb < 31 by omega), sb_one32 (show m < 31 by omega), sb_or32, sp_ld_at (show ka < 12 by omega) (by omega : 12 < 1000000), sp_st_at (show ka < 12 by omega) (by omega : 12 < 1000000), sp_ld_at (show kb < 12 by omega) (by omega : 12 < 1000000), sp_st_at (show kb < 12 by omega) (by omega : 12 < 1000000), sp_i_succ, sz_upd_ne (show ka ≠ m by omega)]
    · have hpc : sp_pc R (i + 1) = sp_pc R i := by rw [sp_pc, if_neg hb]; rfl
      refine ⟨(Int32.ofNat (i + 1), Int32.ofNat (sp_pc R i), li, ne, us), (Int32.ofNat (i + 1), Int32.ofNat (sp_pc R i), ma, nem, usm), ⟨ln, nd, uu, li, ne, us, ma, nem, usm, by rw [hpc], by rw [hpc], fun j hj => ?_⟩, fun rec => ?_, fun rec => ?_⟩
      · rw [hpc] at hj ⊢
        obtain ⟨⟨q1, q2, q3, q4, q5⟩, q6⟩ := hmt j hj
        exact ⟨⟨q1, q2, by omega, q4, q5⟩, q6⟩
      · rw [f_X1_number_L13_eq, if_neg (fun q => by have := (sp_i_le (by omega) (by omega)).mp q; omega), sp_isIn hR63 (by omega), Option.bind_some, if_neg hb]
        simp only [sp_bndE, if_true, sp_i_succ]
      · rw [f_X10_layMatter_L7_eq, sp_ld_at hp (by omega), hmn, if_neg (fun q => by have := (sp_i_le (by omega) (by omega)).mp q; omega), sb_bit32 hR31 (by omega), if_neg hb]
        simp only [sp_bndE, if_true, sp_i_succ]
  · rintro s t ⟨ln, nd, uu, li, ne, us, ma, nem, usm, rfl, rfl, hmt⟩
    exact ⟨_, _, ⟨ln, nd, uu, li, ne, us, ma, nem, usm, rfl, rfl, hmt⟩, fun rec => by rw [f_X1_number_L13_eq, if_pos ((sp_i_le (by omega) (by omega)).mpr (Nat.le_refl _))], fun rec => by rw [f_X10_layMatter_L7_eq, sp_ld_at hp (by omega), hmn, if_pos ((sp_i_le (by omega) (by omega)).mpr (Nat.le_refl _))]⟩
