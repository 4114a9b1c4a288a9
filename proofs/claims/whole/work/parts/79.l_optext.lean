/-! text: the call -/
theorem sz_rel_f {x : sp_XS} {y : sp_MS} (h : sp_Rel x y) {x' : sp_XS} {y' : sp_MS} (h1 : x'.1 = x.1) (h2 : x'.2.1 = x.2.1) (h3 : x'.2.2.2.2.2.1 = x.2.2.2.2.2.1) (h4 : x'.2.2.2.2.2.2.2.2.2.1 = x.2.2.2.2.2.2.2.2.2.1) (h5 : x'.2.2.2.2.2.2.2.2.2.2.1 = x.2.2.2.2.2.2.2.2.2.2.1) (h6 : x'.2.2.2.2.2.2.2.2.2.2.2.1 = y'.1) (h7 : x'.2.2.2.2.2.2.2.2.2.2.2.2 = y'.2.1) (k3 : y'.2.2.1 = y.2.2.1) (k4 : y'.2.2.2.1 = y.2.2.2.1) (k5 : y'.2.2.2.2.1 = y.2.2.2.2.1) (k6 : y'.2.2.2.2.2.1 = y.2.2.2.2.2.1) (k7 : y'.2.2.2.2.2.2.1 = y.2.2.2.2.2.2.1) (k8 : y'.2.2.2.2.2.2.2.1 = y.2.2.2.2.2.2.2.1) (k9 : y'.2.2.2.2.2.2.2.2.1 = y.2.2.2.2.2.2.2.2.1) (k10 : y'.2.2.2.2.2.2.2.2.2.1 = y.2.2.2.2.2.2.2.2.2.1) (k11 : y'.2.2.2.2.2.2.2.2.2.2.1 = y.2.2.2.2.2.2.2.2.2.2.1) : sp_Rel x' y' := by
  obtain ⟨N, hN, g1, g2, g3, g4, hS, hP, hO⟩ := h
  refine ⟨N, hN, ?_, ?_, h6, h7, ?_, ?_, ?_⟩
  · rw [h4]; exact g1
  · rw [k6]; exact g2
  · rw [h2, k3, k4, k5]; exact hS
  · rw [h1, k7, k8, k9, k10, k11]; exact hP
  · rw [h5, h3, h1]; exact hO
theorem sz_take3 {i n : Nat} {co ce : Nat → Int32} (h : i + n ≤ 60) : f_X3_take (Int32.ofNat i) (Int32.ofNat n) co ce = some (va_cpy ce co i 0 n, Int32.ofNat n) := by
  unfold f_X3_take
  exact sp_cp_at (j := 0) h (by omega)
/-- the class's text behind its tests -/
theorem sz_textX {p1 p2 pn : Int32} {i n : Nat} {K : sp_ShT} {co : Nat → Int32} {cn pl b r : Int32} {D x T : sp_PrT} {q : Int32} (h1 : f_X9_isSheet p1 = some 1) (h2 : f_X9_isLane p2 = some 1) (c1 : ∀ {β : Type} (k : Option β), sp_ck 4 p1 k = k) (h3 : f_X4_faultAs p2 K.2.1 = some 0) (h4 : f_X4_hasCells (Int32.ofNat i) (Int32.ofNat n) K.2.2 = some 1) (hn : i + n ≤ 60) (hr : f_X3_isText (va_cpy K.1 co i 0 n) (Int32.ofNat n) D.1 D.2.1 D.2.2.1 D.2.2.2.1 D.2.2.2.2.1 = some (b, q, x.1, x.2.1, x.2.2.1, x.2.2.2.1, x.2.2.2.2.1, x.2.2.2.2.2.1, x.2.2.2.2.2.2)) : f_X9_text p1 p2 (Int32.ofNat i) (Int32.ofNat n) pn K.1 K.2.1 K.2.2 co cn pl D.1 D.2.1 D.2.2.1 D.2.2.2.1 D.2.2.2.2.1 D.2.2.2.2.2.1 D.2.2.2.2.2.2 T.1 T.2.1 T.2.2.1 T.2.2.2.1 T.2.2.2.2.1 T.2.2.2.2.2.1 T.2.2.2.2.2.2 = if b = 0 then some ((-100 : Int32) - q, pn, (0 : Int32), va_cpy K.1 co i 0 n, Int32.ofNat n, q, x.1, x.2.1, x.2.2.1, x.2.2.2.1, x.2.2.2.2.1, x.2.2.2.2.2.1, x.2.2.2.2.2.2, T.1, T.2.1, T.2.2.1, T.2.2.2.1, T.2.2.2.2.1, T.2.2.2.2.2.1, T.2.2.2.2.2.2) else Option.bind (f_X9_kept pn T.1 T.2.1 T.2.2.1 T.2.2.2.1 T.2.2.2.2.1 T.2.2.2.2.2.1 T.2.2.2.2.2.2 x.1 x.2.1 x.2.2.1 x.2.2.2.1 x.2.2.2.2.2.1) (fun q9 => match q9 with | (r19, c20, c21, c22, c23, c24, c25, c26, c27) => some (r19, c20, (0 : Int32), va_cpy K.1 co i 0 n, Int32.ofNat n, q, x.1, x.2.1, x.2.2.1, x.2.2.2.1, x.2.2.2.2.1, x.2.2.2.2.2.1, x.2.2.2.2.2.2, c21, c22, c23, c24, c25, c26, c27)) := by
  unfold f_X9_text
  rw [h1, Option.bind_some, if_neg (by decide), h2, Option.bind_some, if_neg (by decide), c1, h3, Option.bind_some, sp_bndE, if_pos rfl, if_pos (Int32.not_lt.mp (sp_i_nn (by omega)))]
  show sp_bnd _ _ = _
  rw [sp_bndE, if_pos rfl, h4, Option.bind_some, if_neg (by decide)]
  show (if (0 : Int32) = 0 then _ else _) = _
  rw [if_pos rfl, sz_take3 hn, Option.bind_some]
  show Option.bind _ _ = _
  rw [hr, Option.bind_some]
  rfl
/-- the reference's text behind its tests -/
theorem sz_textM {k i n N B : Nat} {p2 b nm at9 en9 pn c33 : Int32} {la sl ce mn cl le ri lt nc0 nl0 nr0 nt0 nc nl nr nt : Nat → Int32} {nm0 : Int32} (hk : k < 4) (h1 : f_X10_isSheet (Int32.ofNat k) = some 1) (h2 : f_X10_isLane p2 = some 1) (h3 : la k = p2) (h9 : ¬ p2 = -9) (h4 : sl k = Int32.ofNat N) (hN : N ≤ 60) (hn : i + n ≤ N) (hB : B = 60 * k + i) (hr : f_X10_readsAll ce nc0 nl0 nr0 nt0 (Int32.ofNat B) (Int32.ofNat (B + n)) = some (b, nm, nc, nl, nr, nt, c33)) : f_X10_text (Int32.ofNat k) p2 (Int32.ofNat i) (Int32.ofNat n) la sl ce pn mn cl le ri lt nm0 nc0 nl0 nr0 nt0 at9 en9 = if b = 0 then (some (((-100 : Int32) - (c33 - Int32.ofNat B)), (0 : Int32), pn, mn, cl, le, ri, lt, nm, nc, nl, nr, nt, c33, Int32.ofNat (B + n))) else (Option.bind (f_X10_comes pn mn cl le ri lt nm nc nl nr nt) (fun q9 => match q9 with | (r34, c35, c36, c37, c38, c39, c40) => some (r34, (0 : Int32), c35, c36, c37, c38, c39, c40, nm, nc, nl, nr, nt, c33, Int32.ofNat (B + n)))) := by
  unfold f_X10_text
  rw [h1, Option.bind_some, if_neg (by decide), h2, Option.bind_some, if_neg (by decide), sp_ld_at hk (by omega), h3, sp_bndE, if_neg h9, sp_ld_at hk (by omega), h3, if_pos rfl]
  show sp_ld _ _ _ _ = _
  rw [sp_ld_at hk (by omega), h3, if_neg h9, if_pos (Int32.not_lt.mp (sp_i_nn (by omega))), sp_bndE, if_neg (sp_i_nn (by omega)), sp_ld_at hk (by omega), h4, if_neg (fun z => by have := (sp_i_lt (by omega) (by omega)).mp z; omega), sp_ld_at hk (by omega), h4, sp_i_sub (show i ≤ N by omega), if_pos ((sp_i_le (by omega) (by omega)).mpr (by omega)), sp_bndE, sp_i_60, ← hB, sp_bndE, sp_i_add, hr, Option.bind_some]
theorem op_text {x : sp_XS} {y : sp_MS} (h : sp_Rel x y) (p1 p2 p3 p4 : Int32) : ∃ (r : Int32) (x' : sp_XS) (y' : sp_MS), sx_text p1 p2 p3 p4 x = some (r, x') ∧ sm_text p1 p2 p3 p4 y = some (r, y') ∧ sp_Rel x' y' := by
  obtain ⟨N, hN, h1, h2, h3, h4, hS, hP, hO⟩ := id h
  by_cases hp : vp_in p1 4
  · obtain ⟨k, hk, rfl⟩ := sp_vin hp
    have ei : sp_ix 4 (Int32.ofNat k) = k := by rw [sp_ix_eq hp, sp_i_nat (by omega)]
    obtain ⟨hl, ⟨n, hn, n1, n2⟩, hc⟩ := hS k hk
    rcases sp_lane p2 with ⟨g1, g2⟩ | ⟨⟨g1, g2⟩, g3⟩
    · apply sp_fin (r := -2)
      · unfold sx_text sx_text0 f_X9_text
        rw [(sp_sh1 hk).1, ei, g1]
        rfl
      · unfold sm_text f_X10_text
        rw [(sp_sh1 hk).2, g2]
        rfl
      · exact sz_rel_f h (sz_up_self _ _) rfl rfl rfl rfl rfl h4 rfl rfl rfl rfl rfl rfl rfl rfl rfl
    · have hp29 : ¬ p2 = -9 := by rcases g3 with e | e | e <;> rw [e] <;> decide
      rcases hl with ⟨l1, l2⟩ | ⟨l1, l2⟩
      · apply sp_fin (r := -11)
        · unfold sx_text sx_text0 f_X9_text
          rw [(sp_sh1 hk).1, ei, g1]
          simp only [Option.bind_some, sp_bndE, sp_ck_at hk (by omega : 4 < 1000000), f_X4_faultAs, f_X4_isNothing, if_pos l2]
          rfl
        · unfold sm_text f_X10_text
          rw [(sp_sh1 hk).2, g2]
          simp only [Option.bind_some, sp_bndE, sp_ld_at hk (by omega : 4 < 1000000), l1]
          rfl
        · exact sz_rel_f h (sz_up_self _ _) rfl rfl rfl rfl rfl h4 rfl rfl rfl rfl rfl rfl rfl rfl rfl
      · have hne : ¬ (x.2.1 k).2.1 = -1 := by rcases l2 with e | e | e <;> rw [e] <;> decide
        have hne9 : ¬ (x.2.1 k).2.1 = -9 := by rcases l2 with e | e | e <;> rw [e] <;> decide
        by_cases hla : (x.2.1 k).2.1 = p2
        · have hfa : f_X4_faultAs p2 (x.2.1 k).2.1 = some 0 := by
            unfold f_X4_faultAs f_X4_isNothing
            rw [if_neg hne, Option.bind_some, if_pos rfl, if_pos hla]
          by_cases h0 : p4 < 0
          · apply sp_fin (r := -14)
            · unfold sx_text sx_text0 f_X9_text
              rw [(sp_sh1 hk).1, ei, g1, hfa]
              simp only [Option.bind_some, sp_bndE, sp_ck_at hk (by omega : 4 < 1000000), if_neg (Int32.not_le.mpr h0)]
              rfl
            · unfold sm_text f_X10_text
              rw [(sp_sh1 hk).2, g2]
              simp only [Option.bind_some, sp_bndE, sp_ld_at hk (by omega : 4 < 1000000), l1, if_neg hne9, if_pos hla, if_neg (Int32.not_le.mpr h0)]
              rfl
            · exact sz_rel_f h (sz_up_self _ _) rfl rfl rfl rfl rfl h4 rfl rfl rfl rfl rfl rfl rfl rfl rfl
          · by_cases hth : sp_there p3 p4 n
            · obtain ⟨i, m, rfl, rfl, him⟩ := sp_there_ex hn hth
              have htx : sz_tx (va_cpy (x.2.1 k).1 x.2.2.1.1 i 0 m) y.2.2.2.2.1 m (60 * k + i) := by
                refine ⟨by omega, by omega, fun j hj => ?_⟩
                show _ = if 0 ≤ j ∧ j < 0 + m then (x.2.1 k).1 (i + (j - 0)) else _
                rw [if_pos (by omega), Nat.sub_zero, Nat.add_assoc]
                exact hc (i + j) (by omega)
              obtain ⟨b, q, x2, nm, nc, nl, nr, nt, q1, q2, q3, q4⟩ := sz_text htx x.2.2.2.1 y.2.2.2.2.2.2.2.2.2.2.2.2.1 y.2.2.2.2.2.2.2.2.2.2.2.2.2.1 y.2.2.2.2.2.2.2.2.2.2.2.2.2.2.1 y.2.2.2.2.2.2.2.2.2.2.2.2.2.2.2.1
              have hhc : f_X4_hasCells (Int32.ofNat i) (Int32.ofNat m) (x.2.1 k).2.2 = some 1 := by rw [n1, sp_hasCells, if_pos hth]
              have hX := fun iT => sz_textX (pn := x.2.2.2.2.2.2.2.2.2.1) (T := x.1 iT) (cn := x.2.2.1.2.1) (pl := x.2.2.1.2.2) (r := 0) (sp_sh1 hk).1 g1 (fun k => sp_ck_at hk (by omega)) hfa hhc (show i + m ≤ 60 by omega) q2
              have hM := sz_textM (at9 := y.2.2.2.2.2.2.2.2.2.2.2.2.2.2.2.2.1) (en9 := y.2.2.2.2.2.2.2.2.2.2.2.2.2.2.2.2.2.1) (pn := y.2.2.2.2.2.1) (mn := y.2.2.2.2.2.2.1) (cl := y.2.2.2.2.2.2.2.1) (le := y.2.2.2.2.2.2.2.2.1) (ri := y.2.2.2.2.2.2.2.2.2.1) (lt := y.2.2.2.2.2.2.2.2.2.2.1) (nm0 := y.2.2.2.2.2.2.2.2.2.2.2.1) hk (sp_sh1 hk).2 g2 (l1.trans hla) hp29 n2 hn him rfl q3
              unfold sx_text sx_text0 sm_text
              rw [ei, hX, hM]
              rcases q4 with rfl | ⟨rfl, m2, rfl, m1, m16, hD⟩
              · rw [if_pos rfl, if_pos rfl, sp_i_sub (show 60 * k + i ≤ 60 * k + i + q by omega), show 60 * k + i + q - (60 * k + i) = q by omega]
                apply sp_fin (r := (-100 : Int32) - Int32.ofNat q)
                · rfl
                · rfl
                · exact sz_rel_f h (sz_up_self _ _) rfl rfl rfl rfl rfl h4 rfl rfl rfl rfl rfl rfl rfl rfl rfl
              · rw [if_neg (by decide), if_neg (by decide)]
                by_cases hN12 : N < 12
                · have hi : sp_ix 12 x.2.2.2.2.2.2.2.2.2.1 = N := by rw [h1]; exact sp_ix_of (by omega) (by omega)
                  rw [hi]
                  obtain ⟨T', v1, v2, v3⟩ := sz_keptX (T := x.1 N) hN12 hD.1 (by omega)
                  obtain ⟨cl', le', ri', lt', u1, u2, u3⟩ := sz_comes (mn := y.2.2.2.2.2.2.1) (cl := y.2.2.2.2.2.2.2.1) (le := y.2.2.2.2.2.2.2.2.1) (ri := y.2.2.2.2.2.2.2.2.2.1) (lt := y.2.2.2.2.2.2.2.2.2.2.1) (nc := nc) (nl := nl) (nr := nr) (nt := nt) hN12 (show m2 ≤ 24 by omega)
                  rw [hD.1.2.1, h1, v1, h2, u1]
                  apply sp_fin (r := Int32.ofNat N)
                  · rfl
                  · rfl
                  · exact sz_rel_new h hN12 h1 v2 v3 m1 (by omega) hD.2 u2 u3 rfl rfl rfl rfl rfl rfl h4 rfl rfl rfl rfl rfl rfl rfl rfl rfl
                · obtain rfl : N = 12 := by omega
                  rw [h1, sz_full, h2, sz_fullM]
                  apply sp_fin (r := -4)
                  · rfl
                  · rfl
                  · exact sz_rel_f h (sz_up_self _ _) rfl rfl h1.symm rfl rfl h4 rfl rfl rfl h2.symm rfl rfl rfl rfl rfl
            · apply sp_fin (r := -13)
              · unfold sx_text sx_text0 f_X9_text
                rw [(sp_sh1 hk).1, ei, g1, hfa, n1, sp_hasCells, if_neg hth]
                simp only [Option.bind_some, sp_bndE, sp_ck_at hk (by omega : 4 < 1000000), if_pos (Int32.not_lt.mp h0)]
                rfl
              · unfold sm_text f_X10_text
                rw [(sp_sh1 hk).2, g2]
                simp only [Option.bind_some, sp_bndE, sp_ld_at hk (by omega : 4 < 1000000), l1, if_neg hne9, if_pos hla, if_pos (Int32.not_lt.mp h0), n2]
                by_cases t1 : p3 < 0
                · simp only [if_pos t1]; rfl
                by_cases t2 : Int32.ofNat n < p3
                · simp only [if_neg t1, if_pos t2]; rfl
                by_cases t3 : p4 ≤ Int32.ofNat n - p3
                · exact absurd ⟨t1, t2, h0, Int32.not_lt.mpr t3⟩ hth
                · simp only [if_neg t1, if_neg t2, if_neg t3]; rfl
              · exact sz_rel_f h (sz_up_self _ _) rfl rfl rfl rfl rfl h4 rfl rfl rfl rfl rfl rfl rfl rfl rfl
        · apply sp_fin (r := -12)
          · unfold sx_text sx_text0 f_X9_text
            rw [(sp_sh1 hk).1, ei, g1]
            simp only [Option.bind_some, sp_bndE, sp_ck_at hk (by omega : 4 < 1000000), f_X4_faultAs, f_X4_isNothing, if_neg hne, if_neg hla]
            rfl
          · unfold sm_text f_X10_text
            rw [(sp_sh1 hk).2, g2]
            simp only [Option.bind_some, sp_bndE, sp_ld_at hk (by omega : 4 < 1000000), l1, if_neg hne9, if_neg hla]
            rfl
          · exact sz_rel_f h (sz_up_self _ _) rfl rfl rfl rfl rfl h4 rfl rfl rfl rfl rfl rfl rfl rfl rfl
  · apply sp_fin (r := -1)
    · unfold sx_text sx_text0 f_X9_text
      rw [(sp_sh0' hp).1]
      rfl
    · unfold sm_text f_X10_text
      rw [(sp_sh0' hp).2]
      rfl
    · exact sz_rel_f h (sz_up_self _ _) rfl rfl rfl rfl rfl h4 rfl rfl rfl rfl rfl rfl rfl rfl rfl
