/-! fewest: the call -/
theorem sz_arr {z : sp_PrT} {n p : Nat} {mn cl le ri lt : Nat → Int32} (h : sp_prOK z n) (hp : p < 12) (hmn : mn p = Int32.ofNat n) (hs : sp_same z cl le ri lt p n) (h12 : sp_pc (sp_rest z.2.2.2.1 z.2.1 z.2.2.1 n) n ≤ 12) (ro0 li0 ne0 us0 ah0 ma0 nem0 usm0 lk0 : Nat → Int32) : ∃ (M L : Nat) (an : Nat → Int32) (ro li ne us ah ma nem usm lk : Nat → Int32), M ≤ 12 ∧ L ≤ 99 ∧ f_X1_arrange ro0 li0 ne0 us0 ah0 z.2.1 z.2.2.1 z.2.2.2.2.2.1 = some (ro, Int32.ofNat M, Int32.ofNat L, li, ne, us, ah) ∧ (∀ a, a < M → ro a = an a) ∧ f_X10_layMatter (Int32.ofNat p) (Int32.ofNat (sp_rest z.2.2.2.1 z.2.1 z.2.2.1 n)) mn le ri lt ma0 nem0 usm0 = some (Int32.ofNat M, ma, nem, usm) ∧ f_X10_layKept (Int32.ofNat M) nem usm lk0 = some lk ∧ lk 0 = Int32.ofNat L ∧ ∀ k, k ≤ 12 → ∀ kk, sp_lp (f_X10_fewest_L70 (Int32.ofNat M) kk (Int32.ofNat k) ma nem usm lk (Int32.ofNat L)) sp_F ((0 : Int32), (0 : Int32)) = if k < M then some (an k, Int32.ofNat M, ma, nem, usm, lk) else kk := by
  have h1 := h.1
  have hn := h.2.1
  obtain ⟨ln, nd, uu, li, ne, us, ma, nem, usm, e1, e2, hmt⟩ := sz_number h hp hmn hs h12 li0 ne0 us0 ma0 nem0 usm0
  have hM1 : 1 ≤ sp_pc (sp_rest z.2.2.2.1 z.2.1 z.2.2.1 n) n := by
    have := sz_pc_lt (show n - 1 < n by omega) (sp_rest_end (x := z) (n := n))
    omega
  generalize hM : sp_pc (sp_rest z.2.2.2.1 z.2.1 z.2.2.1 n) n = M at *
  have hnd : ∀ j, j < M → nd j < 2 ^ j := fun j hj => (hmt j hj).2.1.2.2
  have hp12 : ∀ j, j ≤ 12 → 2 ^ j ≤ 4096 := fun j hj => sz_M12 hj
  have hne : ∀ k, k < M → ne k = Int32.ofNat (nd k) ∧ nd k < 4096 := fun k hk => ⟨(hmt k hk).2.1.1, Nat.lt_of_lt_of_le (hnd k hk) (hp12 k (by omega))⟩
  have hnem : ∀ k, k < M → nem k = Int32.ofNat (nd k) ∧ nd k < 4096 := fun k hk => ⟨(hmt k hk).2.1.2.1, Nat.lt_of_lt_of_le (hnd k hk) (hp12 k (by omega))⟩
  have hus : ∀ k, k < M → us k = Int32.ofNat (uu k) ∧ uu k < 4096 := fun k hk => ⟨(hmt k hk).2.2.1, Nat.lt_of_lt_of_le (hmt k hk).2.2.2.2 (hp12 M h12)⟩
  have husm : ∀ k, k < M → usm k = Int32.ofNat (uu k) ∧ uu k < 4096 := fun k hk => ⟨(hmt k hk).2.2.2.1, Nat.lt_of_lt_of_le (hmt k hk).2.2.2.2 (hp12 M h12)⟩
  obtain ⟨lk, t1, t2⟩ := sz_tabM (lk := lk0) h12 hnem husm hnd
  have h2 : 2 ≤ 2 ^ M := Nat.pow_le_pow_right (n := 2) (by omega) hM1
  have h4 := hp12 M h12
  have hX : ∃ ro ah : Nat → Int32, f_X1_arrange ro0 li0 ne0 us0 ah0 z.2.1 z.2.2.1 z.2.2.2.2.2.1 = some (ro, Int32.ofNat M, Int32.ofNat (sz_AA nd uu M 0), li, ne, us, ah) ∧ ∀ a, a < M → ro a = Int32.ofNat (ln (sz_nxt nd uu M (sz_cs nd uu M a))) := by
    unfold f_X1_arrange
    rw [e1, Option.bind_some]
    show ∃ ro ah : Nat → Int32, sp_bnd _ _ = _ ∧ _
    rw [sb_one32 (show M < 31 by omega), sp_i_pred (show 1 ≤ 2 ^ M by omega), sp_bndE, sz_stB_at (show 2 ^ M - 1 < 4096 by omega) (by omega), sp_i_pred (show 1 ≤ 2 ^ M - 1 by omega), sp_bndE, sp_bndE, show 2 ^ M - 1 - 1 = 2 ^ M - 2 by omega]
    refine sz_tabX hM1 h12 hne hus (by rw [sz_upd_at]; decide) (fun o => ∃ ro ah : Nat → Int32, o = some (ro, Int32.ofNat M, Int32.ofNat (sz_AA nd uu M 0), li, ne, us, ah) ∧ ∀ a, a < M → ro a = Int32.ofNat (ln (sz_nxt nd uu M (sz_cs nd uu M a)))) (fun ah hah => ?_)
    obtain ⟨ro, r1, r2⟩ := sz_rowX (ln := ln) (li := li) h12 ⟨hne, hah⟩ hnd (fun j hj => (hmt j hj).1.1) ro0
    refine ⟨ro, ah, ?_, r2⟩
    show sp_ld ah 4096 (Int32.ofNat 0) _ = _
    rw [sp_ld_at (show 0 < 4096 by omega) (by omega), hah 0 (by omega), r1, Option.bind_some]
  obtain ⟨ro, ah, x1, x2⟩ := hX
  exact ⟨M, sz_AA nd uu M 0, fun a => Int32.ofNat (ln (sz_nxt nd uu M (sz_cs nd uu M a))), ro, li, ne, us, ah, ma, nem, usm, lk, h12, sz_A_le h12 _ _, x1, x2, e2, t1, t2 0 (by omega), fun k hk kk => sz_rowM (ln := ln) h12 ⟨hnem, t2⟩ hnd (fun j hj => (hmt j hj).1.2.1) hk kk⟩
theorem sz_fewM {p1 p2 pn mm R M L : Int32} {mn le ri lt ma0 ne0 us0 lk0 ma ne us lk : Nat → Int32} {B : Nat} (h1 : f_X10_isProof p1 pn = some 1) (h2 : f_X10_within p2 (-1 : Int32) (11 : Int32) = some 1) (h3 : f_X10_restsOf p1 mn le ri lt = some R) (h4 : f_X10_bitsOf R = some (Int32.ofNat B)) (hB : B ≤ 12) (h5 : f_X10_layMatter p1 R mn le ri lt ma0 ne0 us0 = some (M, ma, ne, us)) (h6 : f_X10_layKept M ne us lk0 = some lk) (h7 : lk 0 = L) : f_X10_fewest p1 p2 pn mn le ri lt mm ma0 ne0 us0 lk0 = if p2 = (-1 : Int32) then some (L, M, ma, ne, us, lk) else sp_lp (f_X10_fewest_L70 M (some ((-9 : Int32), M, ma, ne, us, lk)) p2 ma ne us lk L) sp_F ((0 : Int32), (0 : Int32)) := by
  unfold f_X10_fewest
  rw [h1, Option.bind_some, if_neg (by decide), h2, Option.bind_some, if_neg (by decide), h3, Option.bind_some, h4, Option.bind_some, if_pos (show Int32.ofNat B ≤ 12 from (sp_i_le (n := 12) (by omega) (by omega)).mpr hB), h5, Option.bind_some]
  show Option.bind _ _ = _
  rw [h6, Option.bind_some]
  show sp_ld lk 4096 (Int32.ofNat 0) _ = _
  rw [sp_ld_at (show 0 < 4096 by omega) (by omega), h7, sp_bndE]
theorem sz_fewX {p1 p2 pn od : Int32} {le ri : Nat → Int32} {ct : Int32} {ro li ne us ah : Nat → Int32} {mn ls : Int32} {R : Int64} {B : Nat} (h1 : f_X9_isProof p1 pn = some 1) (hw1 : ¬ p2 < (-1 : Int32)) (hw2 : p2 < (12 : Int32)) (c1 : ∀ {β : Type} (k : Option β), sp_ck 12 p1 k = k) (h3 : f_X2_restSet le ri ct = some R) (h4 : f_J13_bitCount_95d88 R = some (Int32.ofNat B)) (hB : B ≤ 12) : f_X9_fewest p1 p2 pn od le ri ct ro mn ls li ne us ah = if od = p1 then (if p2 = (-1 : Int32) then (some (ls, od, ro, mn, ls, li, ne, us, ah)) else (if mn ≤ p2 then (some ((-9 : Int32), od, ro, mn, ls, li, ne, us, ah)) else (sp_ld ro 12 p2 (fun v13 => some (v13, od, ro, mn, ls, li, ne, us, ah))))) else Option.bind (f_X1_arrange ro li ne us ah le ri ct) (fun q9 => match q9 with | (c14, c15, c16, c17, c18, c19, c20) => if p2 = (-1 : Int32) then (some (c16, p1, c14, c15, c16, c17, c18, c19, c20)) else (if c15 ≤ p2 then (some ((-9 : Int32), p1, c14, c15, c16, c17, c18, c19, c20)) else (sp_ld c14 12 p2 (fun v13 => some (v13, p1, c14, c15, c16, c17, c18, c19, c20))))) := by
  unfold f_X9_fewest
  rw [h1, Option.bind_some, if_neg (by decide), if_neg hw1, if_pos hw2, c1, h3, Option.bind_some, h4, Option.bind_some, if_pos (show Int32.ofNat B ≤ 12 from (sp_i_le (n := 12) (by omega) (by omega)).mpr hB), sp_bndE, c1]
theorem sz_rng {p2 : Int32} (hw1 : ¬ p2 < (-1 : Int32)) (hw2 : p2 < (12 : Int32)) : p2 = -1 ∨ ∃ k : Nat, k < 12 ∧ p2 = Int32.ofNat k := by
  by_cases h0 : p2 < 0
  · left
    apply Int32.toInt_inj.mp
    rw [Int32.lt_iff_toInt_lt] at hw1 h0
    have e1 : (-1 : Int32).toInt = -1 := rfl
    have e2 : (0 : Int32).toInt = 0 := rfl
    omega
  · right
    obtain ⟨k, hk, e⟩ := sp_i_le_ex (n := 12) (by omega) h0 (Int32.le_of_lt hw2)
    refine ⟨k, ?_, e⟩
    rw [e] at hw2
    exact (sp_i_lt (n := 12) (by omega) (by omega)).mp hw2
theorem sz_w12 {p2 : Int32} (hw1 : ¬ p2 < (-1 : Int32)) : (p2 < (12 : Int32) ∧ f_X10_within p2 (-1 : Int32) (11 : Int32) = some 1) ∨ (¬ p2 < (12 : Int32) ∧ f_X10_within p2 (-1 : Int32) (11 : Int32) = some 0) := by
  unfold f_X10_within
  rw [if_neg hw1]
  have e1 : (11 : Int32).toInt = 11 := rfl
  have e2 : (12 : Int32).toInt = 12 := rfl
  by_cases q : (11 : Int32) < p2
  · right
    rw [if_pos q]
    refine ⟨fun z => ?_, rfl⟩
    rw [Int32.lt_iff_toInt_lt] at q z
    omega
  · left
    rw [if_neg q]
    refine ⟨?_, rfl⟩
    rw [Int32.lt_iff_toInt_lt] at q ⊢
    omega
theorem sz_pc_eq {S n : Nat} (h : S < 2 ^ n) : ∀ d, sp_pc S (n + d) = sp_pc S n := fun d => sz_pc_top d (fun l hl => Nat.testBit_lt_two_pow (Nat.lt_of_lt_of_le h (Nat.pow_le_pow_right (by omega) hl)))
/-- the answer, on both sides -/
theorem sz_fewA {p2 : Int32} {M L : Nat} {an ro ma nem usm lk : Nat → Int32} (hM : M ≤ 12) (hw : p2 = -1 ∨ ∃ k : Nat, k < 12 ∧ p2 = Int32.ofNat k) (hro : ∀ a, a < M → ro a = an a) (hl : ∀ k, k ≤ 12 → ∀ kk, sp_lp (f_X10_fewest_L70 (Int32.ofNat M) kk (Int32.ofNat k) ma nem usm lk (Int32.ofNat L)) sp_F ((0 : Int32), (0 : Int32)) = if k < M then some (an k, Int32.ofNat M, ma, nem, usm, lk) else kk) : ∃ r : Int32, (∀ (od : Int32) (li ne us ah : Nat → Int32), (if p2 = (-1 : Int32) then (some (Int32.ofNat L, od, ro, Int32.ofNat M, Int32.ofNat L, li, ne, us, ah)) else (if Int32.ofNat M ≤ p2 then (some ((-9 : Int32), od, ro, Int32.ofNat M, Int32.ofNat L, li, ne, us, ah)) else (sp_ld ro 12 p2 (fun v13 => some (v13, od, ro, Int32.ofNat M, Int32.ofNat L, li, ne, us, ah))))) = some (r, od, ro, Int32.ofNat M, Int32.ofNat L, li, ne, us, ah)) ∧ (if p2 = (-1 : Int32) then some (Int32.ofNat L, Int32.ofNat M, ma, nem, usm, lk) else sp_lp (f_X10_fewest_L70 (Int32.ofNat M) (some ((-9 : Int32), Int32.ofNat M, ma, nem, usm, lk)) p2 ma nem usm lk (Int32.ofNat L)) sp_F ((0 : Int32), (0 : Int32))) = some (r, Int32.ofNat M, ma, nem, usm, lk) := by
  rcases hw with hw | ⟨k, hk, hw⟩
  · refine ⟨Int32.ofNat L, fun od li ne us ah => ?_, ?_⟩
    · rw [if_pos hw]
    · rw [if_pos hw]
  · have hne : ¬ p2 = -1 := by
      rw [hw]
      intro z
      have := sp_i_nn (i := k) (by omega)
      rw [z] at this
      exact this (by decide)
    rw [if_neg hne, hw, hl k (by omega)]
    by_cases w : k < M
    · refine ⟨an k, fun od li ne us ah => ?_, by rw [if_pos w]⟩
      rw [if_neg (by rw [← hw]; exact hne), if_neg (fun z => by have := (sp_i_le (by omega) (by omega)).mp z; omega), sp_ld_at (show k < 12 by omega) (by omega), hro k w]
    · refine ⟨-9, fun od li ne us ah => ?_, by rw [if_neg w]⟩
      rw [if_neg (by rw [← hw]; exact hne), if_pos ((sp_i_le (by omega) (by omega)).mpr (by omega))]
theorem op_fewest {x : sp_XS} {y : sp_MS} (h : sp_Rel x y) (p1 p2 : Int32) : ∃ (r : Int32) (x' : sp_XS) (y' : sp_MS), sx_fewest p1 p2 x = some (r, x') ∧ sm_fewest p1 p2 y = some (r, y') ∧ sp_Rel x' y' := by
  rcases sp_proof h p1 with ⟨e1, e2⟩ | ⟨p, n, hp, rfl, ei, g1, g2, g3, e1, e2, e3⟩
  · apply sp_fin (r := -1)
    · unfold sx_fewest sx_fewest0 f_X9_fewest; rw [e1]; rfl
    · unfold sm_fewest f_X10_fewest; rw [e2]; rfl
    · exact h
  · by_cases hw1 : p2 < (-1 : Int32)
    · apply sp_fin (r := -1)
      · unfold sx_fewest sx_fewest0 f_X9_fewest; rw [e1, Option.bind_some, if_neg (by decide), if_pos hw1]; rfl
      · unfold sm_fewest f_X10_fewest f_X10_within; rw [e2, Option.bind_some, if_neg (by decide), if_pos hw1]; rfl
      · exact h
    · rcases sz_w12 hw1 with ⟨hw2, hw3⟩ | ⟨hw2, hw3⟩
      · have hn := g1.2.1
        have hRn := sp_rest_lt g1
        have hR24 : sp_rest (x.1 p).2.2.2.1 (x.1 p).2.1 (x.1 p).2.2.1 n < 2 ^ 24 := Nat.lt_of_lt_of_le hRn (Nat.pow_le_pow_right (by omega) (by omega))
        have hpc := sz_pc_eq hRn (24 - n)
        rw [show n + (24 - n) = 24 by omega] at hpc
        have hbX := sz_bc64 hR24
        have hbM := sp_bitsOf (show sp_rest (x.1 p).2.2.2.1 (x.1 p).2.1 (x.1 p).2.2.1 n < 2 ^ 31 by omega)
        have hrX := sp_restSet g1
        have hrM := sp_restsOf g1 hp g2 g3
        by_cases hB : sp_pc (sp_rest (x.1 p).2.2.2.1 (x.1 p).2.1 (x.1 p).2.2.1 n) 24 ≤ 12
        · have hX0 := fun od ro mn ls li ne us ah => sz_fewX (pn := x.2.2.2.2.2.2.2.2.2.1) (od := od) (ro := ro) (mn := mn) (ls := ls) (li := li) (ne := ne) (us := us) (ah := ah) e1 hw1 hw2 (fun k => sp_ck_at hp (by omega)) hrX hbX hB
          by_cases hod : x.2.2.2.2.2.2.2.2.2.2.1 = Int32.ofNat p
          · obtain ⟨N, hN, -, -, -, -, -, -, hO⟩ := id h
            have hc : sp_cacheOK x.2.2.2.2.2.1 (x.1 p) := by
              rcases hO with q | ⟨p', hp', q1, q2⟩
              · exfalso
                rw [hod] at q
                have := sp_i_nn (i := p) (by omega)
                rw [q] at this
                exact this (by decide)
              · have : p' = p := (sp_i_inj (by omega) (by omega)).mp (q1.symm.trans hod)
                rw [← this]; exact q2
            obtain ⟨o0, ho⟩ := hc
            obtain ⟨M, L, an, ro, li, ne, us, ah, ma, nem, usm, lk, m1, m2, a1, a2, a3, a4, a5, a6⟩ := sz_arr g1 hp g2 g3 (by omega) o0.1 o0.2.2.2.1 o0.2.2.2.2.1 o0.2.2.2.2.2.1 o0.2.2.2.2.2.2 y.2.2.2.2.2.2.2.2.2.2.2.2.2.2.2.2.2.2.2.2.1 y.2.2.2.2.2.2.2.2.2.2.2.2.2.2.2.2.2.2.2.2.2.1 y.2.2.2.2.2.2.2.2.2.2.2.2.2.2.2.2.2.2.2.2.2.2.1 y.2.2.2.2.2.2.2.2.2.2.2.2.2.2.2.2.2.2.2.2.2.2.2.1
            rw [a1] at ho
            have ho' := Option.some.inj ho
            have b1 := (Prod.mk.inj ho').1
            have b2 := (Prod.mk.inj (Prod.mk.inj ho').2).1
            have b3 := (Prod.mk.inj (Prod.mk.inj (Prod.mk.inj ho').2).2).1
            obtain ⟨r, r1, r2⟩ := sz_fewA (ro := x.2.2.2.2.2.1.1) m1 (sz_rng hw1 hw2) (fun a ha => by rw [← b1]; exact a2 a ha) a6
            have hM := sz_fewM (mm := y.2.2.2.2.2.2.2.2.2.2.2.2.2.2.2.2.2.2.2.1) e2 hw3 hrM hbM hB a3 a4 a5
            rw [r2] at hM
            apply sp_fin (r := r)
            · unfold sx_fewest sx_fewest0
              rw [ei, hX0, if_pos hod, ← b2, ← b3, r1]
              rfl
            · unfold sm_fewest
              rw [hM]
              rfl
            · refine sz_rel_eq h rfl rfl ?_ rfl rfl rfl rfl rfl rfl rfl rfl rfl rfl rfl rfl
              show (x.2.2.2.2.2.1.1, Int32.ofNat M, Int32.ofNat L, x.2.2.2.2.2.1.2.2.2.1, x.2.2.2.2.2.1.2.2.2.2.1, x.2.2.2.2.2.1.2.2.2.2.2.1, x.2.2.2.2.2.1.2.2.2.2.2.2) = _
              rw [b2, b3]
          · obtain ⟨M, L, an, ro, li, ne, us, ah, ma, nem, usm, lk, m1, m2, a1, a2, a3, a4, a5, a6⟩ := sz_arr g1 hp g2 g3 (by omega) x.2.2.2.2.2.1.1 x.2.2.2.2.2.1.2.2.2.1 x.2.2.2.2.2.1.2.2.2.2.1 x.2.2.2.2.2.1.2.2.2.2.2.1 x.2.2.2.2.2.1.2.2.2.2.2.2 y.2.2.2.2.2.2.2.2.2.2.2.2.2.2.2.2.2.2.2.2.1 y.2.2.2.2.2.2.2.2.2.2.2.2.2.2.2.2.2.2.2.2.2.1 y.2.2.2.2.2.2.2.2.2.2.2.2.2.2.2.2.2.2.2.2.2.2.1 y.2.2.2.2.2.2.2.2.2.2.2.2.2.2.2.2.2.2.2.2.2.2.2.1
            obtain ⟨r, r1, r2⟩ := sz_fewA (ro := ro) m1 (sz_rng hw1 hw2) a2 a6
            have hM := sz_fewM (mm := y.2.2.2.2.2.2.2.2.2.2.2.2.2.2.2.2.2.2.2.1) e2 hw3 hrM hbM hB a3 a4 a5
            rw [r2] at hM
            apply sp_fin (r := r)
            · unfold sx_fewest sx_fewest0
              rw [ei, hX0, if_neg hod, a1, Option.bind_some]
              show Option.bind (if p2 = (-1 : Int32) then (some (Int32.ofNat L, Int32.ofNat p, ro, Int32.ofNat M, Int32.ofNat L, li, ne, us, ah)) else (if Int32.ofNat M ≤ p2 then (some ((-9 : Int32), Int32.ofNat p, ro, Int32.ofNat M, Int32.ofNat L, li, ne, us, ah)) else (sp_ld ro 12 p2 (fun v13 => some (v13, Int32.ofNat p, ro, Int32.ofNat M, Int32.ofNat L, li, ne, us, ah))))) _ = _
              rw [r1]
              rfl
            · unfold sm_fewest
              rw [hM]
              rfl
            · obtain ⟨N, hN, k1, k2, k3, k4, hS, hP, hO⟩ := h
              refine ⟨N, hN, k1, k2, k3, k4, hS, hP, Or.inr ⟨p, ?_, rfl, ⟨x.2.2.2.2.2.1, a1⟩⟩⟩
              rw [k1] at e3
              exact (sp_i_lt (by omega) (by omega)).mp e3
        · have hnB : ¬ Int32.ofNat (sp_pc (sp_rest (x.1 p).2.2.2.1 (x.1 p).2.1 (x.1 p).2.2.1 n) 24) ≤ 12 := fun z => hB ((sp_i_le (n := 12) (by have := sp_pc_le (sp_rest (x.1 p).2.2.2.1 (x.1 p).2.1 (x.1 p).2.2.1 n) 24; omega) (by omega)).mp z)
          apply sp_fin (r := -3)
          · unfold sx_fewest sx_fewest0 f_X9_fewest
            rw [ei, e1, Option.bind_some, if_neg (by decide), if_neg hw1, if_pos hw2, sp_ck_at hp (by omega), hrX, Option.bind_some, hbX, Option.bind_some, if_neg hnB]
            rfl
          · unfold sm_fewest f_X10_fewest
            rw [e2, Option.bind_some, if_neg (by decide), hw3, Option.bind_some, if_neg (by decide), hrM, Option.bind_some, hbM, Option.bind_some, if_neg hnB]
            rfl
          · exact h
      · apply sp_fin (r := -1)
        · unfold sx_fewest sx_fewest0 f_X9_fewest; rw [e1, Option.bind_some, if_neg (by decide), if_neg hw1, if_neg hw2]; rfl
        · unfold sm_fewest f_X10_fewest; rw [e2, Option.bind_some, if_neg (by decide), hw3]; rfl
        · exact h
