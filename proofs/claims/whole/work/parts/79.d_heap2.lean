/-! heap: the calls -/
theorem sz_rel_eq {x : sp_XS} {y : sp_MS} (h : sp_Rel x y) {x' : sp_XS} {y' : sp_MS} (h1 : x'.1 = x.1) (h2 : x'.2.1 = x.2.1) (h3 : x'.2.2.2.2.2.1 = x.2.2.2.2.2.1) (h4 : x'.2.2.2.2.2.2.2.2.2 = x.2.2.2.2.2.2.2.2.2) (k1 : y'.1 = y.1) (k2 : y'.2.1 = y.2.1) (k3 : y'.2.2.1 = y.2.2.1) (k4 : y'.2.2.2.1 = y.2.2.2.1) (k5 : y'.2.2.2.2.1 = y.2.2.2.2.1) (k6 : y'.2.2.2.2.2.1 = y.2.2.2.2.2.1) (k7 : y'.2.2.2.2.2.2.1 = y.2.2.2.2.2.2.1) (k8 : y'.2.2.2.2.2.2.2.1 = y.2.2.2.2.2.2.2.1) (k9 : y'.2.2.2.2.2.2.2.2.1 = y.2.2.2.2.2.2.2.2.1) (k10 : y'.2.2.2.2.2.2.2.2.2.1 = y.2.2.2.2.2.2.2.2.2.1) (k11 : y'.2.2.2.2.2.2.2.2.2.2.1 = y.2.2.2.2.2.2.2.2.2.2.1) : sp_Rel x' y' := by
  obtain ⟨N, hN, g1, g2, g3, g4, hS, hP, hO⟩ := h
  refine ⟨N, hN, ?_, ?_, ?_, ?_, ?_, ?_, ?_⟩
  · rw [h4]; exact g1
  · rw [k6]; exact g2
  · rw [h4, k1]; exact g3
  · rw [h4, k2]; exact g4
  · rw [h2, k3, k4, k5]; exact hS
  · rw [h1, k7, k8, k9, k10, k11]; exact hP
  · rw [h4, h3, h1]; exact hO
theorem sz_nopr {p pn : Int32} (h : f_X9_isProof p pn = some 0) : ¬ (sp_ok 12 p = true ∧ p < pn) := by
  rintro ⟨a, b⟩
  unfold f_X9_isProof at h
  unfold sp_ok at a
  have a' := of_decide_eq_true a
  rw [if_neg (fun q => a' (Or.inl q)), if_neg (fun q => Int32.not_le.mpr b q)] at h
  exact absurd (Option.some.inj h) (by decide)
theorem sz_okp {p : Nat} (hp : p < 12) : sp_ok 12 (Int32.ofNat p) = true := by
  unfold sp_ok
  exact decide_eq_true (sp_i_in hp (by omega))
theorem sz_heapX {p1 p2 pn : Int32} {P Q T D y : sp_PrT} {sd sf nu sd2 nu' : Nat → Int32} {ut : Int64} {c : Prop} [Decidable c] (h1 : f_X9_isProof p1 pn = some 1) (h2 : f_X9_isProof p2 pn = some 1) (c1 : ∀ {β : Type} (k : Option β), sp_ck 12 p1 k = k) (c2 : ∀ {β : Type} (k : Option β), sp_ck 12 p2 k = k) (hh : f_X5_heaps sd sf nu ut D.1 D.2.1 D.2.2.1 D.2.2.2.1 D.2.2.2.2.1 P.1 P.2.1 P.2.2.1 P.2.2.2.1 P.2.2.2.2.2.1 Q.1 Q.2.1 Q.2.2.1 Q.2.2.2.1 Q.2.2.2.2.2.1 = some ((if c then 0 else 1), sd2, nu', y.1, y.2.1, y.2.2.1, y.2.2.2.1, y.2.2.2.2.1, y.2.2.2.2.2.1, y.2.2.2.2.2.2)) : f_X9_heap p1 p2 pn P.1 P.2.1 P.2.2.1 P.2.2.2.1 P.2.2.2.2.2.1 Q.1 Q.2.1 Q.2.2.1 Q.2.2.2.1 Q.2.2.2.2.2.1 T.1 T.2.1 T.2.2.1 T.2.2.2.1 T.2.2.2.2.1 T.2.2.2.2.2.1 T.2.2.2.2.2.2 sd sf nu ut D.1 D.2.1 D.2.2.1 D.2.2.2.1 D.2.2.2.2.1 D.2.2.2.2.2.1 D.2.2.2.2.2.2 = if c then some (-3, pn, T.1, T.2.1, T.2.2.1, T.2.2.2.1, T.2.2.2.2.1, T.2.2.2.2.2.1, T.2.2.2.2.2.2, sd2, nu', y.1, y.2.1, y.2.2.1, y.2.2.2.1, y.2.2.2.2.1, y.2.2.2.2.2.1, y.2.2.2.2.2.2) else Option.bind (f_X9_kept pn T.1 T.2.1 T.2.2.1 T.2.2.2.1 T.2.2.2.2.1 T.2.2.2.2.2.1 T.2.2.2.2.2.2 y.1 y.2.1 y.2.2.1 y.2.2.2.1 y.2.2.2.2.2.1) (fun q9 => match q9 with | (r13, c14, c15, c16, c17, c18, c19, c20, c21) => some (r13, c14, c15, c16, c17, c18, c19, c20, c21, sd2, nu', y.1, y.2.1, y.2.2.1, y.2.2.2.1, y.2.2.2.2.1, y.2.2.2.2.2.1, y.2.2.2.2.2.2)) := by
  unfold f_X9_heap
  rw [h1, Option.bind_some, if_neg (by decide), h2, Option.bind_some, if_neg (by decide), c1, c2, hh, Option.bind_some]
  by_cases q : c
  · rw [if_pos q, if_pos q]; rfl
  · rw [if_neg q, if_neg q]; rfl
theorem sz_heap_al {p1 p2 pn : Int32} {P T D : sp_PrT} {sd sf nu : Nat → Int32} {ut : Int64} : f_X9_heap_al p1 p2 pn P.1 P.2.1 P.2.2.1 P.2.2.2.1 P.2.2.2.2.2.1 T.1 T.2.1 T.2.2.1 T.2.2.2.1 T.2.2.2.2.1 T.2.2.2.2.2.1 T.2.2.2.2.2.2 sd sf nu ut D.1 D.2.1 D.2.2.1 D.2.2.2.1 D.2.2.2.2.1 D.2.2.2.2.2.1 D.2.2.2.2.2.2 = f_X9_heap p1 p2 pn P.1 P.2.1 P.2.2.1 P.2.2.2.1 P.2.2.2.2.2.1 P.1 P.2.1 P.2.2.1 P.2.2.2.1 P.2.2.2.2.2.1 T.1 T.2.1 T.2.2.1 T.2.2.2.1 T.2.2.2.2.1 T.2.2.2.2.2.1 T.2.2.2.2.2.2 sd sf nu ut D.1 D.2.1 D.2.2.1 D.2.2.2.1 D.2.2.2.2.1 D.2.2.2.2.2.1 D.2.2.2.2.2.2 := rfl
theorem sz_heap2 {x : sp_XS} {y : sp_MS} (h : sp_Rel x y) {p q n1 n2 iT : Nat} (hp : p < 12) (hq : q < 12) (g1 : sp_prOK (x.1 p) n1) (g2 : y.2.2.2.2.2.2.1 p = Int32.ofNat n1) (g3 : sp_same (x.1 p) y.2.2.2.2.2.2.2.1 y.2.2.2.2.2.2.2.2.1 y.2.2.2.2.2.2.2.2.2.1 y.2.2.2.2.2.2.2.2.2.2.1 p n1) (e1 : f_X9_isProof (Int32.ofNat p) x.2.2.2.2.2.2.2.2.2.1 = some 1) (e2 : f_X10_isProof (Int32.ofNat p) y.2.2.2.2.2.1 = some 1) (k1 : sp_prOK (x.1 q) n2) (k2 : y.2.2.2.2.2.2.1 q = Int32.ofNat n2) (k3 : sp_same (x.1 q) y.2.2.2.2.2.2.2.1 y.2.2.2.2.2.2.2.2.1 y.2.2.2.2.2.2.2.2.2.1 y.2.2.2.2.2.2.2.2.2.2.1 q n2) (d1 : f_X9_isProof (Int32.ofNat q) x.2.2.2.2.2.2.2.2.2.1 = some 1) (d2 : f_X10_isProof (Int32.ofNat q) y.2.2.2.2.2.1 = some 1) (hT : ∀ N, N < 12 → x.2.2.2.2.2.2.2.2.2.1 = Int32.ofNat N → iT = N) : ∃ (r : Int32) (x' : sp_XS) (y' : sp_MS), sx_heap0 (Int32.ofNat p) (Int32.ofNat q) p q iT x = some (r, x') ∧ sm_heap (Int32.ofNat p) (Int32.ofNat q) y = some (r, y') ∧ sp_Rel x' y' := by
  obtain ⟨N, hN, hxN, hyN, -⟩ := id h
  have a1 := g1.1
  have a2 := g1.2.1
  have b1 := k1.1
  have b2 := k1.2.1
  obtain ⟨m1, x1, nc1, nl1, nr1, nt1, sd1, sdm1, r1, r2, r3, r4⟩ := sz_goes1 (G := f_X10_heap_L25 y.2.2.2.2.2.2.1 (Int32.ofNat p) (sz_hk1 (Int32.ofNat q) y.2.2.2.2.2.1 y.2.2.2.2.2.2.1 y.2.2.2.2.2.2.2.1 y.2.2.2.2.2.2.2.2.1 y.2.2.2.2.2.2.2.2.2.1 y.2.2.2.2.2.2.2.2.2.2.1 y.2.2.2.2.2.2.2.2.2.2.2.2.2.2.2.2.2.2.2.2.2.2.2.2.2.1) y.2.2.2.2.2.2.2.1 y.2.2.2.2.2.2.2.2.1 y.2.2.2.2.2.2.2.2.2.1 y.2.2.2.2.2.2.2.2.2.2.1 y.2.2.2.2.2.2.2.2.2.2.2.2.2.2.2.2.2.2.2.2.2.2.2.2.2.1) (kk := sz_hk1 (Int32.ofNat q) y.2.2.2.2.2.1 y.2.2.2.2.2.2.1 y.2.2.2.2.2.2.2.1 y.2.2.2.2.2.2.2.2.1 y.2.2.2.2.2.2.2.2.2.1 y.2.2.2.2.2.2.2.2.2.2.1 y.2.2.2.2.2.2.2.2.2.2.2.2.2.2.2.2.2.2.2.2.2.2.2.2.2.1) (z := x.1 p) (x := (x.2.2.2.2.2.2.2.1.1, x.2.2.2.2.2.2.2.1.2.1, x.2.2.2.2.2.2.2.1.2.2.1, x.2.2.2.2.2.2.2.1.2.2.2.1, x.2.2.2.2.2.2.2.1.2.2.2.2.1, 0, 0)) (n := n1) (p := p) (m := 0) (f := 0) (mn := y.2.2.2.2.2.2.1) (nc := y.2.2.2.2.2.2.2.2.2.2.2.2.1) (nl := y.2.2.2.2.2.2.2.2.2.2.2.2.2.1) (nr := y.2.2.2.2.2.2.2.2.2.2.2.2.2.2.1) (nt := y.2.2.2.2.2.2.2.2.2.2.2.2.2.2.2.1) (sd := x.2.2.2.2.2.2.1.1) (sdm := y.2.2.2.2.2.2.2.2.2.2.2.2.2.2.2.2.2.2.2.2.2.2.2.2.1) (sf := x.2.2.2.2.2.2.1.2.1) (sfm := y.2.2.2.2.2.2.2.2.2.2.2.2.2.2.2.2.2.2.2.2.2.2.2.2.2.1) (ut := x.2.2.2.2.2.2.1.2.2.2) (rs := 0) g1 hp g3 (by omega) (by omega) ⟨⟨by omega, rfl, fun l hl => by omega, rfl, fun l hl => by omega⟩, fun l hl => by omega⟩ (fun rec i nm a b c d e hi => by
    rw [f_X10_heap_L25_eq, sp_ld_at hp (by omega), g2, if_neg (fun z => by have := (sp_i_le (by omega) (by omega)).mp z; omega)]
    simp only [sp_bndE, sp_i_succ, Nat.zero_add]
    rfl) (fun rec nm a b c d e => by
    rw [f_X10_heap_L25_eq, sp_ld_at hp (by omega), g2, if_pos ((sp_i_le (by omega) (by omega)).mpr (Nat.le_refl _))])
  obtain ⟨m2, x2, nc2, nl2, nr2, nt2, sd2, sdm2, s1, s2, s3, s4⟩ := sz_goes1 (G := f_X10_heap_L58 y.2.2.2.2.2.2.1 (Int32.ofNat q) (sz_hk2 (Int32.ofNat q) y.2.2.2.2.2.1 y.2.2.2.2.2.2.1 y.2.2.2.2.2.2.2.1 y.2.2.2.2.2.2.2.2.1 y.2.2.2.2.2.2.2.2.2.1 y.2.2.2.2.2.2.2.2.2.2.1) y.2.2.2.2.2.2.2.1 y.2.2.2.2.2.2.2.2.1 y.2.2.2.2.2.2.2.2.2.1 y.2.2.2.2.2.2.2.2.2.2.1 y.2.2.2.2.2.2.2.2.2.2.2.2.2.2.2.2.2.2.2.2.2.2.2.2.2.1) (kk := sz_hk2 (Int32.ofNat q) y.2.2.2.2.2.1 y.2.2.2.2.2.2.1 y.2.2.2.2.2.2.2.1 y.2.2.2.2.2.2.2.2.1 y.2.2.2.2.2.2.2.2.2.1 y.2.2.2.2.2.2.2.2.2.2.1) (z := x.1 q) (x := x1) (n := n2) (p := q) (m := m1) (f := 24) (mn := y.2.2.2.2.2.2.1) (nc := nc1) (nl := nl1) (nr := nr1) (nt := nt1) (sd := sd1) (sdm := sdm1) (sf := x.2.2.2.2.2.2.1.2.1) (sfm := y.2.2.2.2.2.2.2.2.2.2.2.2.2.2.2.2.2.2.2.2.2.2.2.2.2.1) (ut := x.2.2.2.2.2.2.1.2.2.2) (rs := 0) k1 hq k3 (by omega) (by omega) r4.1 (fun rec i nm a b c d e hi => by
    rw [f_X10_heap_L58_eq, sp_ld_at hq (by omega), k2, if_neg (fun z => by have := (sp_i_le (by omega) (by omega)).mp z; omega), show (24 : Int32) + Int32.ofNat i = Int32.ofNat (24 + i) from sp_i_add 24 i]
    simp only [sp_bndE, sp_i_succ]
    rfl) (fun rec nm a b c d e => by
    rw [f_X10_heap_L58_eq, sp_ld_at hq (by omega), k2, if_pos ((sp_i_le (by omega) (by omega)).mpr (Nat.le_refl _))])
  obtain ⟨t, t1, t2, t3, -⟩ := s4.2 (n2 - 1) (by omega)
  have m48 := s4.1.1.1
  obtain ⟨w, nu', w1, w2, w3⟩ := sz_prefix s4.1.1 t1 x.2.2.2.2.2.2.1.2.2.1
  have hX := sz_heapsE (x0 := (x.2.2.2.2.2.2.2.1.1, x.2.2.2.2.2.2.2.1.2.1, x.2.2.2.2.2.2.2.1.2.2.1, x.2.2.2.2.2.2.2.1.2.2.2.1, x.2.2.2.2.2.2.2.1.2.2.2.2.1, 0, 0)) r1 s1 b1 b2 t2 (by omega) s4.1.1.2.1 w1 w2.2.1
  rw [← g1.2.2.1, ← k1.2.2.1] at hX
  have hsm : sz_sm w nc2 nl2 nr2 nt2 (t + 1) := by
    intro l hl
    obtain ⟨z1, z2, z3, z4⟩ := s4.1.2 l (by omega)
    obtain ⟨v1, v2, v3, v4⟩ := w3 l hl
    exact ⟨by rw [z1, v1], by rw [z2, v2], by rw [z3, v3], by rw [z4, v4]⟩
  have hlt : (Int32.ofNat (t + 1) ≤ (24 : Int32)) ↔ t + 1 ≤ 24 := sp_i_le (n := 24) (by omega) (by omega)
  have hM : f_X10_heap (Int32.ofNat p) (Int32.ofNat q) y.2.2.2.2.2.1 y.2.2.2.2.2.2.1 y.2.2.2.2.2.2.2.1 y.2.2.2.2.2.2.2.2.1 y.2.2.2.2.2.2.2.2.2.1 y.2.2.2.2.2.2.2.2.2.2.1 y.2.2.2.2.2.2.2.2.2.2.2.1 y.2.2.2.2.2.2.2.2.2.2.2.2.1 y.2.2.2.2.2.2.2.2.2.2.2.2.2.1 y.2.2.2.2.2.2.2.2.2.2.2.2.2.2.1 y.2.2.2.2.2.2.2.2.2.2.2.2.2.2.2.1 y.2.2.2.2.2.2.2.2.2.2.2.2.2.2.2.2.2.2.2.2.2.2.2.2.1 y.2.2.2.2.2.2.2.2.2.2.2.2.2.2.2.2.2.2.2.2.2.2.2.2.2.1 = if t + 1 ≤ 24 then (Option.bind (f_X10_comes y.2.2.2.2.2.1 y.2.2.2.2.2.2.1 y.2.2.2.2.2.2.2.1 y.2.2.2.2.2.2.2.2.1 y.2.2.2.2.2.2.2.2.2.1 y.2.2.2.2.2.2.2.2.2.2.1 (Int32.ofNat (t + 1)) nc2 nl2 nr2 nt2) (fun q9 => match q9 with | (r34, c35, c36, c37, c38, c39, c40) => some (r34, c35, c36, c37, c38, c39, c40, Int32.ofNat (t + 1), nc2, nl2, nr2, nt2, sdm2))) else (some ((-3 : Int32), y.2.2.2.2.2.1, y.2.2.2.2.2.2.1, y.2.2.2.2.2.2.2.1, y.2.2.2.2.2.2.2.2.1, y.2.2.2.2.2.2.2.2.2.1, y.2.2.2.2.2.2.2.2.2.2.1, Int32.ofNat (t + 1), nc2, nl2, nr2, nt2, sdm2)) := by
    rw [sz_heapE e2 d2]
    refine Eq.trans r2 ?_
    unfold sz_hk1
    rw [sp_bndE]
    refine Eq.trans s2 ?_
    unfold sz_hk2
    rw [sp_ld_at hq (by omega), k2, show (24 : Int32) + Int32.ofNat n2 = Int32.ofNat (24 + n2) from sp_i_add 24 n2, sp_i_pred (by omega), show 24 + n2 - 1 = 24 + (n2 - 1) by omega, sp_ld_at (show 24 + (n2 - 1) < 48 by omega) (by omega), t3, sp_bndE, sp_i_succ]
    by_cases c : t + 1 ≤ 24
    · rw [if_pos (hlt.mpr c), if_pos c]
    · rw [if_neg (fun z => c (hlt.mp z)), if_neg c]
  unfold sx_heap0 sm_heap
  rw [hM, sz_heapX (P := x.1 p) (Q := x.1 q) (T := x.1 iT) (D := x.2.2.2.2.2.2.2.1) e1 d1 (fun k => sp_ck_at hp (by omega)) (fun k => sp_ck_at hq (by omega)) hX]
  by_cases c : t + 1 ≤ 24
  · rw [if_neg (show ¬ 24 < t + 1 by omega), if_pos c]
    by_cases hN12 : N < 12
    · have hi := hT N hN12 hxN
      subst hi
      obtain ⟨T', v1, v2, v3⟩ := sz_keptX (T := x.1 iT) hN12 w2 (by omega)
      obtain ⟨cl', le', ri', lt', u1, u2, u3⟩ := sz_comes (mn := y.2.2.2.2.2.2.1) (cl := y.2.2.2.2.2.2.2.1) (le := y.2.2.2.2.2.2.2.2.1) (ri := y.2.2.2.2.2.2.2.2.2.1) (lt := y.2.2.2.2.2.2.2.2.2.2.1) (nc := nc2) (nl := nl2) (nr := nr2) (nt := nt2) hN12 c
      rw [w2.2.1, hxN, v1, hyN, u1]
      apply sp_fin (r := Int32.ofNat iT)
      · rfl
      · rfl
      · exact sz_rel_new h hN12 hxN v2 v3 (by omega) c hsm u2 u3 rfl rfl rfl rfl rfl (by obtain ⟨_, _, _, _, z, _⟩ := h; exact z) (by obtain ⟨_, _, _, _, _, z, _⟩ := h; exact z) rfl rfl rfl rfl rfl rfl rfl rfl rfl
    · obtain rfl : N = 12 := by omega
      rw [hxN, sz_full, hyN, sz_fullM]
      apply sp_fin (r := -4)
      · rfl
      · rfl
      · exact sz_rel_eq h (sz_up_self _ _) rfl rfl (by show (Int32.ofNat 12, _, _, _) = _; rw [← hxN]) rfl rfl rfl rfl rfl hyN.symm rfl rfl rfl rfl rfl
  · rw [if_pos (show 24 < t + 1 by omega), if_neg c]
    apply sp_fin (r := -3)
    · rfl
    · rfl
    · exact sz_rel_eq h (sz_up_self _ _) rfl rfl rfl rfl rfl rfl rfl rfl rfl rfl rfl rfl rfl rfl
theorem op_heap {x : sp_XS} {y : sp_MS} (h : sp_Rel x y) (p1 p2 : Int32) : ∃ (r : Int32) (x' : sp_XS) (y' : sp_MS), sx_heap p1 p2 x = some (r, x') ∧ sm_heap p1 p2 y = some (r, y') ∧ sp_Rel x' y' := by
  rcases sp_proof h p1 with ⟨e1, e2⟩ | ⟨p, n1, hp, rfl, ei, g1, g2, g3, e1, e2, e3⟩
  · refine ⟨-1, x, y, ?_, ?_, h⟩
    · unfold sx_heap
      rw [if_neg (fun q => sz_nopr e1 ⟨q.1, q.2.1⟩)]
      unfold sx_heap_un f_X9_heap_un; rw [e1]; rfl
    · unfold sm_heap f_X10_heap; rw [e2]; rfl
  · rcases sp_proof h p2 with ⟨d1, d2⟩ | ⟨q, n2, hq, rfl, di, k1, k2, k3, d1, d2, d3⟩
    · refine ⟨-1, x, y, ?_, ?_, h⟩
      · unfold sx_heap
        rw [if_neg (fun q => sz_nopr d1 q.2.2)]
        unfold sx_heap_un f_X9_heap_un; rw [e1, d1]; rfl
      · unfold sm_heap f_X10_heap; rw [e2, d2]; rfl
    · have hT : ∀ i j N, N < 12 → x.2.2.2.2.2.2.2.2.2.1 = Int32.ofNat N → sp_ixT i j x.2.2.2.2.2.2.2.2.2.1 = N := by
        intro i j N hN hx
        unfold sp_ixT
        rw [hx, if_pos (sz_okp hN), sp_i_nat (by omega)]
      unfold sx_heap
      rw [if_pos ⟨sz_okp hp, e3, sz_okp hq, d3⟩, sp_i_nat (show p < 1000000 by omega), sp_i_nat (show q < 1000000 by omega)]
      by_cases hpq : Int32.ofNat p = Int32.ofNat q
      · have hpq' : p = q := (sp_i_inj (by omega) (by omega)).mp hpq
        subst hpq'
        rw [if_pos rfl]
        obtain ⟨r, x', y', z1, z2, z3⟩ := sz_heap2 h (iT := sp_ixT p p x.2.2.2.2.2.2.2.2.2.1) hp hp g1 g2 g3 e1 e2 g1 g2 g3 e1 e2 (hT p p)
        refine ⟨r, x', y', ?_, z2, z3⟩
        rw [← z1]
        unfold sx_heap_al sx_heap0
        rw [sz_heap_al (P := x.1 p) (T := x.1 (sp_ixT p p x.2.2.2.2.2.2.2.2.2.1)) (D := x.2.2.2.2.2.2.2.1)]
      · rw [if_neg hpq]
        exact sz_heap2 h hp hq g1 g2 g3 e1 e2 k1 k2 k3 d1 d2 (hT p q)
