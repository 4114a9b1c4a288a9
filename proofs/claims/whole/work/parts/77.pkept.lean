/-! a proof comes: kept and comes -/
theorem sz_ok_of {x D : sp_PrT} {m l : Nat} (hD : sz_dr D m) (hl : l < m) (hx : ∀ j, j < l → x.1 j = D.1 j) : sz_ok x l (D.1 l) (D.2.1 l) (D.2.2.1 l) (D.2.2.2.1 l) := by
  obtain ⟨q1, q2⟩ := hD.2.2.1 l hl
  refine ⟨q1, ?_⟩
  rcases q2 with q | ⟨i, j, k, hi, hj, hk, e1, e2, e3, e4⟩
  · exact Or.inl q
  · exact Or.inr ⟨i, j, k, hi, hj, hk, e1, e2, e3, by rw [hx i hi, hx j hj]; exact e4⟩
/-- two proofs have the same first lines -/
def sz_eq (x D : sp_PrT) (m : Nat) : Prop := ∀ l, l < m → x.1 l = D.1 l ∧ x.2.1 l = D.2.1 l ∧ x.2.2.1 l = D.2.2.1 l ∧ x.2.2.2.1 l = D.2.2.2.1 l
theorem sz_take {D T : sp_PrT} {m : Nat} (hD : sz_dr D m) (h24 : m ≤ 48) : ∃ T' : sp_PrT, f_X2_take T.1 T.2.1 T.2.2.1 T.2.2.2.1 T.2.2.2.2.1 D.1 D.2.1 D.2.2.1 D.2.2.2.1 (Int32.ofNat m) = some (T'.1, T'.2.1, T'.2.2.1, T'.2.2.2.1, T'.2.2.2.2.1, T'.2.2.2.2.2.1, T'.2.2.2.2.2.2) ∧ sz_dr T' m ∧ sz_eq T' D m := by
  unfold f_X2_take f_X2_clear
  rw [Option.bind_some]
  show ∃ T', sp_bnd _ _ = _ ∧ _ ∧ _
  rw [sp_bndE]
  refine sz_lp_Q (fun o => ∃ T' : sp_PrT, o = some (T'.1, T'.2.1, T'.2.2.1, T'.2.2.2.1, T'.2.2.2.2.1, T'.2.2.2.2.2.1, T'.2.2.2.2.2.2) ∧ sz_dr T' m ∧ sz_eq T' D m) m (fun l s => ∃ x : sp_PrT, s = (Int32.ofNat l, x.1, x.2.1, x.2.2.1, x.2.2.2.1, x.2.2.2.2.1, x.2.2.2.2.2.1, x.2.2.2.2.2.2) ∧ sz_dr x l ∧ sz_eq x D l) ?_ ?_ sp_F _ (sp_F_lt (by omega)) ⟨(T.1, T.2.1, T.2.2.1, T.2.2.2.1, T.2.2.2.2.1, 0, 0), rfl, ⟨by omega, rfl, fun l hl => by omega, rfl, fun l hl => by omega⟩, fun l hl => by omega⟩
  · rintro l s hl ⟨x, rfl, hx, hq⟩
    right
    have hok := sz_ok_of (x := x) hD hl (fun j hj => (hq j hj).1)
    refine ⟨_, ⟨sz_new x l (D.1 l) (D.2.1 l) (D.2.2.1 l) (D.2.2.2.1 l), rfl, sz_new_dr hx (by omega) hok, ?_⟩, fun rec => ?_⟩
    · intro j hj
      show upd x.1 l (D.1 l) j = _ ∧ upd x.2.1 l (D.2.1 l) j = _ ∧ upd x.2.2.1 l (D.2.2.1 l) j = _ ∧ upd x.2.2.2.1 l (D.2.2.2.1 l) j = _
      by_cases e : j = l
      · subst e
        simp only [sz_upd_at]
        exact ⟨trivial, trivial, trivial, trivial⟩
      · simp only [sz_upd_ne e]
        exact hq j (by omega)
    · rw [f_X2_take_L6_eq, if_neg (fun q => by have := (sp_i_le (by omega) (by omega)).mp q; omega), sp_ld_at (show l < 48 by omega) (by omega), sp_ld_at (show l < 48 by omega) (by omega), sp_ld_at (show l < 48 by omega) (by omega), sp_ld_at (show l < 48 by omega) (by omega), sz_add hx (by omega) hok, Option.bind_some]
      show sp_bnd _ _ = _
      rw [sp_bndE, sp_i_succ]
  · rintro s ⟨x, rfl, hx, hq⟩
    exact ⟨_, ⟨x, rfl, hx, hq⟩, fun rec => by rw [f_X2_take_L6_eq, if_pos ((sp_i_le (by omega) (by omega)).mpr (Nat.le_refl _))]⟩
theorem sz_comes {mn cl le ri lt nc nl nr nt : Nat → Int32} {N m : Nat} (hN : N < 12) (hm : m ≤ 24) : ∃ cl' le' ri' lt' : Nat → Int32, f_X10_comes (Int32.ofNat N) mn cl le ri lt (Int32.ofNat m) nc nl nr nt = some (Int32.ofNat N, Int32.ofNat (N + 1), upd mn N (Int32.ofNat m), cl', le', ri', lt') ∧ (∀ l, l < m → cl' (24 * N + l) = nc l ∧ le' (24 * N + l) = nl l ∧ ri' (24 * N + l) = nr l ∧ lt' (24 * N + l) = nt l) ∧ ∀ i, i < 24 * N → cl' i = cl i ∧ le' i = le i ∧ ri' i = ri i ∧ lt' i = lt i := by
  unfold f_X10_comes
  rw [if_neg (show ¬ Int32.ofNat N = 12 from fun q => by have := (sp_i_inj (j := 12) (by omega) (by omega)).mp q; omega), sp_st_at (show N < 12 by omega) (by omega), sp_bndE]
  refine sz_lp_Q (fun o => ∃ cl' le' ri' lt' : Nat → Int32, o = some (Int32.ofNat N, Int32.ofNat (N + 1), upd mn N (Int32.ofNat m), cl', le', ri', lt') ∧ (∀ l, l < m → cl' (24 * N + l) = nc l ∧ le' (24 * N + l) = nl l ∧ ri' (24 * N + l) = nr l ∧ lt' (24 * N + l) = nt l) ∧ ∀ i, i < 24 * N → cl' i = cl i ∧ le' i = le i ∧ ri' i = ri i ∧ lt' i = lt i) m (fun l s => ∃ cl' le' ri' lt' : Nat → Int32, s = (Int32.ofNat l, cl', le', ri', lt') ∧ (∀ j, j < l → cl' (24 * N + j) = nc j ∧ le' (24 * N + j) = nl j ∧ ri' (24 * N + j) = nr j ∧ lt' (24 * N + j) = nt j) ∧ ∀ i, i < 24 * N → cl' i = cl i ∧ le' i = le i ∧ ri' i = ri i ∧ lt' i = lt i) ?_ ?_ sp_F _ (sp_F_lt (by omega)) ⟨cl, le, ri, lt, rfl, fun j hj => by omega, fun i _ => ⟨rfl, rfl, rfl, rfl⟩⟩
  · rintro l s hl ⟨cl', le', ri', lt', rfl, h1, h2⟩
    right
    refine ⟨(Int32.ofNat (l + 1), upd cl' (24 * N + l) (nc l), upd le' (24 * N + l) (nl l), upd ri' (24 * N + l) (nr l), upd lt' (24 * N + l) (nt l)), ⟨_, _, _, _, rfl, fun j hj => ?_, fun i hi => ?_⟩, fun rec => ?_⟩
    · by_cases e : j = l
      · subst e
        simp only [sz_upd_at]
        exact ⟨trivial, trivial, trivial, trivial⟩
      · have hne : 24 * N + j ≠ 24 * N + l := by omega
        simp only [sz_upd_ne hne]
        exact h1 j (by omega)
    · have hne : i ≠ 24 * N + l := by omega
      simp only [sz_upd_ne hne]
      exact h2 i hi
    · rw [f_X10_comes_L29_eq, if_neg (fun q => by have := (sp_i_le (by omega) (by omega)).mp q; omega), sp_i_24]
      simp only [sp_ld_at (show l < 64 by omega) (by omega : 64 < 1000000), sp_st_at (show 24 * N + l < 288 by omega) (by omega : 288 < 1000000), sp_bndE, sp_i_succ]
  · rintro s ⟨cl', le', ri', lt', rfl, h1, h2⟩
    refine ⟨_, ⟨cl', le', ri', lt', rfl, h1, h2⟩, fun rec => ?_⟩
    rw [f_X10_comes_L29_eq, if_pos ((sp_i_le (by omega) (by omega)).mpr (Nat.le_refl _)), sp_bndE, sp_i_succ]
theorem sz_keptX {D T : sp_PrT} {N m : Nat} (hN : N < 12) (hD : sz_dr D m) (h24 : m ≤ 48) : ∃ T' : sp_PrT, f_X9_kept (Int32.ofNat N) T.1 T.2.1 T.2.2.1 T.2.2.2.1 T.2.2.2.2.1 T.2.2.2.2.2.1 T.2.2.2.2.2.2 D.1 D.2.1 D.2.2.1 D.2.2.2.1 (Int32.ofNat m) = some (Int32.ofNat N, Int32.ofNat (N + 1), T'.1, T'.2.1, T'.2.2.1, T'.2.2.2.1, T'.2.2.2.2.1, T'.2.2.2.2.2.1, T'.2.2.2.2.2.2) ∧ sz_dr T' m ∧ sz_eq T' D m := by
  obtain ⟨T', h1, h2, h3⟩ := sz_take (T := T) hD h24
  refine ⟨T', ?_, h2, h3⟩
  unfold f_X9_kept
  rw [if_pos (show Int32.ofNat N < 12 from (sp_i_lt (n := 12) (by omega) (by omega)).mpr hN), sp_ck_at hN (by omega), h1, Option.bind_some]
  show sp_bnd _ _ = _
  rw [sp_bndE, sp_i_succ, sp_i_pred (i := N + 1) (by omega)]
  rfl
theorem sz_full {T D : sp_PrT} {m : Int32} : f_X9_kept (Int32.ofNat 12) T.1 T.2.1 T.2.2.1 T.2.2.2.1 T.2.2.2.2.1 T.2.2.2.2.2.1 T.2.2.2.2.2.2 D.1 D.2.1 D.2.2.1 D.2.2.2.1 m = some (-4, Int32.ofNat 12, T.1, T.2.1, T.2.2.1, T.2.2.2.1, T.2.2.2.2.1, T.2.2.2.2.2.1, T.2.2.2.2.2.2) := by
  unfold f_X9_kept
  rw [if_neg (show ¬ Int32.ofNat 12 < 12 by decide)]
theorem sz_fullM {mn cl le ri lt nc nl nr nt : Nat → Int32} {m : Int32} : f_X10_comes (Int32.ofNat 12) mn cl le ri lt m nc nl nr nt = some (-4, Int32.ofNat 12, mn, cl, le, ri, lt) := by
  unfold f_X10_comes
  rw [if_pos (show Int32.ofNat 12 = 12 from rfl)]
theorem sz_up_self {α : Type} (f : Nat → α) (i : Nat) : sp_up f i (f i) = f := by
  funext k
  unfold sp_up
  by_cases e : k = i
  · rw [if_pos e, e]
  · rw [if_neg e]
/-- the relation once a proof has come -/
theorem sz_rel_new {x : sp_XS} {y : sp_MS} (h : sp_Rel x y) {N m : Nat} (hN : N < 12) (hxN : x.2.2.2.2.2.2.2.2.2.1 = Int32.ofNat N) {T D : sp_PrT} (hT : sz_dr T m) (hTD : sz_eq T D m) (h1 : 1 ≤ m) (h24 : m ≤ 24) {nc nl nr nt cl' le' ri' lt' : Nat → Int32} (hsm : sz_sm D nc nl nr nt m) (hc1 : ∀ l, l < m → cl' (24 * N + l) = nc l ∧ le' (24 * N + l) = nl l ∧ ri' (24 * N + l) = nr l ∧ lt' (24 * N + l) = nt l) (hc2 : ∀ i, i < 24 * N → cl' i = y.2.2.2.2.2.2.2.1 i ∧ le' i = y.2.2.2.2.2.2.2.2.1 i ∧ ri' i = y.2.2.2.2.2.2.2.2.2.1 i ∧ lt' i = y.2.2.2.2.2.2.2.2.2.2.1 i) {x' : sp_XS} {y' : sp_MS} (hx1 : x'.1 = sp_up x.1 N T) (hx2 : x'.2.1 = x.2.1) (hx3 : x'.2.2.2.2.2.1 = x.2.2.2.2.2.1) (hx4 : x'.2.2.2.2.2.2.2.2.2.1 = Int32.ofNat (N + 1)) (hx5 : x'.2.2.2.2.2.2.2.2.2.2.1 = x.2.2.2.2.2.2.2.2.2.2.1) (hx6 : x'.2.2.2.2.2.2.2.2.2.2.2.1 = y'.1) (hx7 : x'.2.2.2.2.2.2.2.2.2.2.2.2 = y'.2.1) (hy1 : y'.2.2.1 = y.2.2.1) (hy2 : y'.2.2.2.1 = y.2.2.2.1) (hy3 : y'.2.2.2.2.1 = y.2.2.2.2.1) (hy4 : y'.2.2.2.2.2.1 = Int32.ofNat (N + 1)) (hy5 : y'.2.2.2.2.2.2.1 = upd y.2.2.2.2.2.2.1 N (Int32.ofNat m)) (hy6 : y'.2.2.2.2.2.2.2.1 = cl') (hy7 : y'.2.2.2.2.2.2.2.2.1 = le') (hy8 : y'.2.2.2.2.2.2.2.2.2.1 = ri') (hy9 : y'.2.2.2.2.2.2.2.2.2.2.1 = lt') : sp_Rel x' y' := by
  obtain ⟨N', hN', g1, g2, g3, g4, hS, hP, hO⟩ := h
  have hNN : N' = N := (sp_i_inj (by omega) (by omega)).mp (g1.symm.trans hxN)
  subst hNN
  refine ⟨N' + 1, by omega, hx4, hy4, hx6, hx7, ?_, ?_, ?_⟩
  · rw [hx2, hy1, hy2, hy3]; exact hS
  · intro p hp
    rw [hx1, hy5, hy6, hy7, hy8, hy9]
    by_cases e : p = N'
    · subst e
      have hu : sp_up x.1 p T p = T := by unfold sp_up; rw [if_pos rfl]
      rw [hu]
      refine ⟨m, sz_dr_pr hT h1 h24, sz_upd_at _ _ _, fun l hl => ?_⟩
      obtain ⟨a1, a2, a3, a4⟩ := hc1 l hl
      obtain ⟨b1, b2, b3, b4⟩ := hsm l hl
      obtain ⟨d1, d2, d3, d4⟩ := hTD l hl
      exact ⟨by rw [a1, b1, d1], by rw [a2, b2, d2], by rw [a3, b3, d3], by rw [a4, b4, d4]⟩
    · have hu : sp_up x.1 N' T p = x.1 p := by unfold sp_up; rw [if_neg e]
      rw [hu]
      obtain ⟨n, k1, k2, k3⟩ := hP p (by omega)
      refine ⟨n, k1, by rw [sz_upd_ne e]; exact k2, fun l hl => ?_⟩
      have hn := k1.2.1
      obtain ⟨a1, a2, a3, a4⟩ := hc2 (24 * p + l) (by omega)
      rw [a1, a2, a3, a4]
      exact k3 l hl
  · rw [hx5, hx3, hx1]
    rcases hO with q | ⟨p, hp, q1, q2⟩
    · exact Or.inl q
    · refine Or.inr ⟨p, by omega, q1, ?_⟩
      have hu : sp_up x.1 N' T p = x.1 p := by unfold sp_up; rw [if_neg (by omega)]
      rw [hu]; exact q2
