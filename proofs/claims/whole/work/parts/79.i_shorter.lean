/-! shorter: the call -/
theorem sz_shortsE {w : Int32} {sd sf nu fx sd1 : Nat → Int32} {ut : Int64} {x0 z x1 x2 : sp_PrT} {n : Nat} {v r : Int32} (hsafe : f_X5_fillSafes sf z.1 z.2.1 z.2.2.1 z.2.2.2.1 (Int32.ofNat n) = some fx) (hun : f_X5_unitsOf z.1 z.2.1 z.2.2.1 (Int32.ofNat n) = some ut) (hgo : f_X5_goesThrough w sd fx ut x0.1 x0.2.1 x0.2.2.1 x0.2.2.2.1 x0.2.2.2.2.1 0 0 z.1 z.2.1 z.2.2.1 z.2.2.2.1 (Int32.ofNat n) = some (1, sd1, x1.1, x1.2.1, x1.2.2.1, x1.2.2.2.1, x1.2.2.2.2.1, x1.2.2.2.2.2.1, x1.2.2.2.2.2.2)) (h1 : 1 ≤ n) (hn : n ≤ 24) (ht : sd1 (n - 1) = v) (hend : (if w = 4 then f_X5_cutUnits v sd1 ut x1.1 x1.2.1 x1.2.2.1 x1.2.2.2.1 x1.2.2.2.2.1 x1.2.2.2.2.2.1 x1.2.2.2.2.2.2 z.1 (Int32.ofNat n) else some (v, x1.1, x1.2.1, x1.2.2.1, x1.2.2.2.1, x1.2.2.2.2.1, x1.2.2.2.2.2.1, x1.2.2.2.2.2.2)) = some (r, x2.1, x2.2.1, x2.2.2.1, x2.2.2.2.1, x2.2.2.2.2.1, x2.2.2.2.2.2.1, x2.2.2.2.2.2.2)) : f_X5_shortens w sd sf nu x0.1 x0.2.1 x0.2.2.1 x0.2.2.2.1 x0.2.2.2.2.1 z.1 z.2.1 z.2.2.1 z.2.2.2.1 (Int32.ofNat n) = if 0 ≤ r then (Option.bind (f_X2_restSetOf r x2.2.1 x2.2.2.1) (fun r24 => Option.bind (f_X2_keepOnly r24 x2.1 x2.2.1 x2.2.2.1 x2.2.2.2.1 x2.2.2.2.2.1 x2.2.2.2.2.2.1 nu) (fun q9 => match q9 with | (c25, c26, c27, c28, c29, c30, c31, c32) => some ((1 : Int32), sd1, fx, c32, ut, c25, c26, c27, c28, c29, c30, c31)))) else (some ((0 : Int32), sd1, fx, nu, ut, x2.1, x2.2.1, x2.2.2.1, x2.2.2.2.1, x2.2.2.2.2.1, x2.2.2.2.2.2.1, x2.2.2.2.2.2.2)) := by
  unfold f_X5_shortens f_X2_clear
  rw [Option.bind_some]
  show Option.bind _ _ = _
  rw [hsafe, Option.bind_some, hun, Option.bind_some, hgo, Option.bind_some]
  show (if (1 : Int32) = 0 then _ else _) = _
  rw [if_neg (by decide), sp_i_pred h1, sp_ld_at (show n - 1 < 48 by omega) (by omega), ht, sp_bndE]
  by_cases w4 : w = 4
  · rw [if_pos w4] at hend ⊢
    rw [hend, Option.bind_some]
  · rw [if_neg w4] at hend ⊢
    have e := Option.some.inj hend
    have e1 := (Prod.mk.inj e).1
    have e2 := (Prod.mk.inj (Prod.mk.inj e).2)
    have e3 := (Prod.mk.inj e2.2)
    have e4 := (Prod.mk.inj e3.2)
    have e5 := (Prod.mk.inj e4.2)
    have e6 := (Prod.mk.inj e5.2)
    have e7 := (Prod.mk.inj e6.2)
    rw [e1, e2.1, e3.1, e4.1, e5.1, e6.1, e7.1, e7.2]
theorem sz_shortsN {w : Int32} {sd sf nu fx sd1 : Nat → Int32} {ut : Int64} {x0 z x1 : sp_PrT} {n : Nat} (hsafe : f_X5_fillSafes sf z.1 z.2.1 z.2.2.1 z.2.2.2.1 (Int32.ofNat n) = some fx) (hun : f_X5_unitsOf z.1 z.2.1 z.2.2.1 (Int32.ofNat n) = some ut) (hgo : f_X5_goesThrough w sd fx ut x0.1 x0.2.1 x0.2.2.1 x0.2.2.2.1 x0.2.2.2.2.1 0 0 z.1 z.2.1 z.2.2.1 z.2.2.2.1 (Int32.ofNat n) = some (0, sd1, x1.1, x1.2.1, x1.2.2.1, x1.2.2.2.1, x1.2.2.2.2.1, x1.2.2.2.2.2.1, x1.2.2.2.2.2.2)) : f_X5_shortens w sd sf nu x0.1 x0.2.1 x0.2.2.1 x0.2.2.2.1 x0.2.2.2.2.1 z.1 z.2.1 z.2.2.1 z.2.2.2.1 (Int32.ofNat n) = some ((0 : Int32), sd1, fx, nu, ut, x1.1, x1.2.1, x1.2.2.1, x1.2.2.2.1, x1.2.2.2.2.1, x1.2.2.2.2.2.1, x1.2.2.2.2.2.2) := by
  unfold f_X5_shortens f_X2_clear
  rw [Option.bind_some]
  show Option.bind _ _ = _
  rw [hsafe, Option.bind_some, hun, Option.bind_some, hgo, Option.bind_some]
  show (if (0 : Int32) = 0 then _ else _) = _
  rw [if_pos rfl]
/-- behind the reference's loop -/
def sz_sk (p1 p2 pn r3 : Int32) (mn cl le ri lt c4 nu : Nat → Int32) : Int32 → (Nat → Int32) → (Nat → Int32) → (Nat → Int32) → (Nat → Int32) → (Nat → Int32) → Option (Int32 × Int32 × (Nat → Int32) × (Nat → Int32) × (Nat → Int32) × (Nat → Int32) × (Nat → Int32) × Int32 × (Nat → Int32) × (Nat → Int32) × (Nat → Int32) × (Nat → Int32) × (Nat → Int32) × (Nat → Int32) × (Nat → Int32)) := fun (c12 : Int32) (c13 : Nat → Int32) (c14 : Nat → Int32) (c15 : Nat → Int32) (c16 : Nat → Int32) (c17 : Nat → Int32) => sp_bnd (fun (x19 : Int32) (c20 : Int32) (c21 : Nat → Int32) (c22 : Nat → Int32) (c23 : Nat → Int32) (c24 : Nat → Int32) => if x19 = (-9 : Int32) then (some ((-3 : Int32), pn, mn, cl, le, ri, lt, c20, c21, c22, c23, c24, c17, c4, nu)) else (Option.bind (f_X10_closeUp x19 c20 c21 c22 c23 c24 nu) (fun q9 => match q9 with | (c26, c27, c28, c29, c30, c31) => Option.bind (f_X10_comes pn mn cl le ri lt c26 c27 c28 c29 c30) (fun q9 => match q9 with | (r32, c33, c34, c35, c36, c37, c38) => some (r32, c33, c34, c35, c36, c37, c38, c26, c27, c28, c29, c30, c17, c4, c31))))) (fun k25 => if p2 = (4 : Int32) then (Option.bind (f_X10_cutUnits p1 r3 mn cl le ri lt c12 c13 c14 c15 c16 c17) (fun q9 => match q9 with | (r41, c42, c43, c44, c45, c46) => k25 r41 c42 c43 c44 c45 c46)) else (sp_ld mn 12 p1 (fun v39 => sp_ld c17 48 (v39 - (1 : Int32)) (fun v40 => k25 v40 c12 c13 c14 c15 c16))))
theorem sz_shorterE {p1 p2 pn nm r3 : Int32} {mn cl le ri lt nc nl nr nt sd sf nu c4 : Nat → Int32} (h1 : f_X10_isProof p1 pn = some 1) (h2 : f_X10_within p2 (0 : Int32) (4 : Int32) = some 1) (h3 : f_X10_restsOf p1 mn le ri lt = some r3) (h4 : f_X10_laySafe p1 r3 mn cl le ri lt sf = some c4) : f_X10_shorter p1 p2 pn mn cl le ri lt nm nc nl nr nt sd sf nu = sp_lp (f_X10_shorter_L42 mn p1 (sz_sk p1 p2 pn r3 mn cl le ri lt c4 nu) p2 r3 cl le ri lt c4 pn nu) sp_F ((0 : Int32), (0 : Int32), nc, nl, nr, nt, sd) := by
  unfold f_X10_shorter
  rw [h1, Option.bind_some, if_neg (by decide), h2, Option.bind_some, if_neg (by decide), h3, Option.bind_some, h4, Option.bind_some, sp_bndE]
  rfl
theorem sz_skE {p1 p2 pn r3 c12 v r m2 : Int32} {mn cl le ri lt c4 nu c13 c14 c15 c16 c17 nc2 nl2 nr2 nt2 : Nat → Int32} {n : Nat} (hmn : ∀ {β : Type} (k : Int32 → Option β), sp_ld mn 12 p1 k = k (Int32.ofNat n)) (h1 : 1 ≤ n) (hn : n ≤ 24) (ht : c17 (n - 1) = v) (hend : (if p2 = 4 then f_X10_cutUnits p1 r3 mn cl le ri lt c12 c13 c14 c15 c16 c17 else some (v, c12, c13, c14, c15, c16)) = some (r, m2, nc2, nl2, nr2, nt2)) : sz_sk p1 p2 pn r3 mn cl le ri lt c4 nu c12 c13 c14 c15 c16 c17 = if r = (-9 : Int32) then (some ((-3 : Int32), pn, mn, cl, le, ri, lt, m2, nc2, nl2, nr2, nt2, c17, c4, nu)) else (Option.bind (f_X10_closeUp r m2 nc2 nl2 nr2 nt2 nu) (fun q9 => match q9 with | (c26, c27, c28, c29, c30, c31) => Option.bind (f_X10_comes pn mn cl le ri lt c26 c27 c28 c29 c30) (fun q9 => match q9 with | (r32, c33, c34, c35, c36, c37, c38) => some (r32, c33, c34, c35, c36, c37, c38, c26, c27, c28, c29, c30, c17, c4, c31)))) := by
  unfold sz_sk
  rw [sp_bndE]
  by_cases w4 : p2 = 4
  · rw [if_pos w4] at hend ⊢
    rw [hend, Option.bind_some]
  · rw [if_neg w4] at hend ⊢
    have e := Option.some.inj hend
    have e1 := (Prod.mk.inj e).1
    have e2 := (Prod.mk.inj (Prod.mk.inj e).2)
    have e3 := (Prod.mk.inj e2.2)
    have e4 := (Prod.mk.inj e3.2)
    have e5 := (Prod.mk.inj e4.2)
    rw [hmn, sp_i_pred h1, sp_ld_at (show n - 1 < 48 by omega) (by omega), ht, e1, e2.1, e3.1, e4.1, e5.1, e5.2]
theorem sz_shorterX {p1 p2 pn r : Int32} {P T D y : sp_PrT} {sd sf nu sd2 sf2 nu2 : Nat → Int32} {ut ut2 : Int64} (h1 : f_X9_isProof p1 pn = some 1) (hw1 : ¬ p2 < 0) (hw2 : p2 ≤ 4) (c1 : ∀ {β : Type} (k : Option β), sp_ck 12 p1 k = k) (hh : f_X5_shortens p2 sd sf nu D.1 D.2.1 D.2.2.1 D.2.2.2.1 D.2.2.2.2.1 P.1 P.2.1 P.2.2.1 P.2.2.2.1 P.2.2.2.2.2.1 = some (r, sd2, sf2, nu2, ut2, y.1, y.2.1, y.2.2.1, y.2.2.2.1, y.2.2.2.2.1, y.2.2.2.2.2.1, y.2.2.2.2.2.2)) : f_X9_shorter p1 p2 pn P.1 P.2.1 P.2.2.1 P.2.2.2.1 P.2.2.2.2.2.1 T.1 T.2.1 T.2.2.1 T.2.2.2.1 T.2.2.2.2.1 T.2.2.2.2.2.1 T.2.2.2.2.2.2 sd sf nu ut D.1 D.2.1 D.2.2.1 D.2.2.2.1 D.2.2.2.2.1 D.2.2.2.2.2.1 D.2.2.2.2.2.2 = if r = 0 then some (-3, pn, T.1, T.2.1, T.2.2.1, T.2.2.2.1, T.2.2.2.2.1, T.2.2.2.2.2.1, T.2.2.2.2.2.2, sd2, sf2, nu2, ut2, y.1, y.2.1, y.2.2.1, y.2.2.2.1, y.2.2.2.2.1, y.2.2.2.2.2.1, y.2.2.2.2.2.2) else Option.bind (f_X9_kept pn T.1 T.2.1 T.2.2.1 T.2.2.2.1 T.2.2.2.2.1 T.2.2.2.2.2.1 T.2.2.2.2.2.2 y.1 y.2.1 y.2.2.1 y.2.2.2.1 y.2.2.2.2.2.1) (fun q9 => match q9 with | (r14, c15, c16, c17, c18, c19, c20, c21, c22) => some (r14, c15, c16, c17, c18, c19, c20, c21, c22, sd2, sf2, nu2, ut2, y.1, y.2.1, y.2.2.1, y.2.2.2.1, y.2.2.2.2.1, y.2.2.2.2.2.1, y.2.2.2.2.2.2)) := by
  unfold f_X9_shorter
  rw [h1, Option.bind_some, if_neg (by decide), if_neg hw1, if_pos hw2, c1, hh, Option.bind_some]
theorem sz_way {p2 : Int32} (hw1 : ¬ p2 < 0) (hw2 : p2 ≤ 4) : f_X10_within p2 (0 : Int32) (4 : Int32) = some 1 := by
  unfold f_X10_within
  rw [if_neg hw1, if_neg (Int32.not_lt.mpr hw2)]
theorem sz_ends {z x : sp_PrT} {n p m R : Nat} {w : Int32} {mn cl le ri lt nc nl nr nt sd sdm : Nat → Int32} (h : sp_prOK z n) (hp : p < 12) (hmn : mn p = Int32.ofNat n) (hs : sp_same z cl le ri lt p n) (hR : R < 2 ^ 31) (hm : m ≤ n) (hgo : sz_gw w z n m x nc nl nr nt sd sdm) (hc : w = 4 → m + sz_sg (fun l => min 1 (sz_w z R n l)) n ≤ n) : ∃ v : Int32, sd (n - 1) = v ∧ sdm (n - 1) = v ∧ ((∃ (e m' : Nat) (x' : sp_PrT) (nc' nl' nr' nt' : Nat → Int32), (if w = 4 then f_X5_cutUnits v sd (Int64.ofNat (sz_us z R n (n - 1))) x.1 x.2.1 x.2.2.1 x.2.2.2.1 x.2.2.2.2.1 x.2.2.2.2.2.1 x.2.2.2.2.2.2 z.1 (Int32.ofNat n) else some (v, x.1, x.2.1, x.2.2.1, x.2.2.2.1, x.2.2.2.2.1, x.2.2.2.2.2.1, x.2.2.2.2.2.2)) = some (Int32.ofNat e, x'.1, x'.2.1, x'.2.2.1, x'.2.2.2.1, x'.2.2.2.2.1, x'.2.2.2.2.2.1, x'.2.2.2.2.2.2) ∧ (if w = 4 then f_X10_cutUnits (Int32.ofNat p) (Int32.ofNat R) mn cl le ri lt (Int32.ofNat m) nc nl nr nt sdm else some (v, Int32.ofNat m, nc, nl, nr, nt)) = some (Int32.ofNat e, Int32.ofNat m', nc', nl', nr', nt') ∧ e < m' ∧ m' ≤ 24 ∧ sz_D x' nc' nl' nr' nt' m') ∨ (∃ (x' : sp_PrT) (nm' : Int32) (nc' nl' nr' nt' : Nat → Int32), (if w = 4 then f_X5_cutUnits v sd (Int64.ofNat (sz_us z R n (n - 1))) x.1 x.2.1 x.2.2.1 x.2.2.2.1 x.2.2.2.2.1 x.2.2.2.2.2.1 x.2.2.2.2.2.2 z.1 (Int32.ofNat n) else some (v, x.1, x.2.1, x.2.2.1, x.2.2.2.1, x.2.2.2.2.1, x.2.2.2.2.2.1, x.2.2.2.2.2.2)) = some (-3, x'.1, x'.2.1, x'.2.2.1, x'.2.2.2.1, x'.2.2.2.2.1, x'.2.2.2.2.2.1, x'.2.2.2.2.2.2) ∧ (if w = 4 then f_X10_cutUnits (Int32.ofNat p) (Int32.ofNat R) mn cl le ri lt (Int32.ofNat m) nc nl nr nt sdm else some (v, Int32.ofNat m, nc, nl, nr, nt)) = some (-9, nm', nc', nl', nr', nt'))) := by
  have h1 := h.1
  have hn := h.2.1
  obtain ⟨t, t1, t2, t3, t4⟩ := hgo.2 (n - 1) (by omega)
  rw [Nat.zero_add] at t3
  refine ⟨Int32.ofNat t, t2, t3, ?_⟩
  by_cases w4 : w = 4
  · simp only [if_pos w4]
    have hf := sz_few h R
    have := hc w4
    refine sz_cutLast h hp hmn hs hR hgo.1 (fun j hj => ?_) t1 t3 (by omega)
    obtain ⟨u, u1, u2, u3, u4⟩ := hgo.2 j hj
    rw [Nat.zero_add] at u3
    exact ⟨u, u1, u2, u3, u4 w4⟩
  · simp only [if_neg w4]
    exact Or.inl ⟨t, m, x, nc, nl, nr, nt, rfl, rfl, t1, by omega, hgo.1⟩
theorem sz_shorter1 {x : sp_XS} {y : sp_MS} (h : sp_Rel x y) {p n iT : Nat} {w : Int32} (hp : p < 12) (hw1 : ¬ w < 0) (hw2 : w ≤ 4) (g1 : sp_prOK (x.1 p) n) (g2 : y.2.2.2.2.2.2.1 p = Int32.ofNat n) (g3 : sp_same (x.1 p) y.2.2.2.2.2.2.2.1 y.2.2.2.2.2.2.2.2.1 y.2.2.2.2.2.2.2.2.2.1 y.2.2.2.2.2.2.2.2.2.2.1 p n) (e1 : f_X9_isProof (Int32.ofNat p) x.2.2.2.2.2.2.2.2.2.1 = some 1) (e2 : f_X10_isProof (Int32.ofNat p) y.2.2.2.2.2.1 = some 1) (hT : ∀ N, N < 12 → x.2.2.2.2.2.2.2.2.2.1 = Int32.ofNat N → iT = N) : ∃ (r : Int32) (x' : sp_XS) (y' : sp_MS), sx_shorter0 (Int32.ofNat p) w p iT x = some (r, x') ∧ sm_shorter (Int32.ofNat p) w y = some (r, y') ∧ sp_Rel x' y' := by
  obtain ⟨N, hN, hxN, hyN, -⟩ := id h
  have a1 := g1.1
  have a2 := g1.2.1
  have hRn := sp_rest_lt g1
  have hR : sp_rest (x.1 p).2.2.2.1 (x.1 p).2.1 (x.1 p).2.2.1 n < 2 ^ 31 := Nat.lt_of_lt_of_le hRn (Nat.pow_le_pow_right (by omega) (by omega))
  obtain ⟨fx, fm, s1, s2, s3⟩ := sz_safes g1 hp g2 g3 x.2.2.2.2.2.2.1.2.1 y.2.2.2.2.2.2.2.2.2.2.2.2.2.2.2.2.2.2.2.2.2.2.2.2.2.1
  have hu := sz_unitsOf g1
  have hrs := sp_restsOf g1 hp g2 g3
  rw [g1.2.2.1] at s1 hu
  have hM0 := sz_shorterE (p2 := w) (nm := y.2.2.2.2.2.2.2.2.2.2.2.1) (nc := y.2.2.2.2.2.2.2.2.2.2.2.2.1) (nl := y.2.2.2.2.2.2.2.2.2.2.2.2.2.1) (nr := y.2.2.2.2.2.2.2.2.2.2.2.2.2.2.1) (nt := y.2.2.2.2.2.2.2.2.2.2.2.2.2.2.2.1) (sd := y.2.2.2.2.2.2.2.2.2.2.2.2.2.2.2.2.2.2.2.2.2.2.2.2.1) (nu := y.2.2.2.2.2.2.2.2.2.2.2.2.2.2.2.2.2.2.2.2.2.2.2.2.2.2.1) e2 (sz_way hw1 hw2) hrs s2
  have hun := fun j (hj : j < n) => sz_units g1 hp g2 g3 hR hj
  have hX := fun r sd2 sf2 nu2 ut2 (D' : sp_PrT) hh => sz_shorterX (p2 := w) (r := r) (P := x.1 p) (T := x.1 iT) (D := x.2.2.2.2.2.2.2.1) (y := D') (sd := x.2.2.2.2.2.2.1.1) (sf := x.2.2.2.2.2.2.1.2.1) (nu := x.2.2.2.2.2.2.1.2.2.1) (ut := x.2.2.2.2.2.2.1.2.2.2) (sd2 := sd2) (sf2 := sf2) (nu2 := nu2) (ut2 := ut2) e1 hw1 hw2 (fun k => sp_ck_at hp (by omega)) hh
  have hdr : w = 4 → ∀ i, i < n → 0 < sz_w (x.1 p) (sp_rest (x.1 p).2.2.2.1 (x.1 p).2.1 (x.1 p).2.2.1 n) n i → ∃ u, u < n ∧ sp_frm (x.1 p) i u ∧ f_X9_isIn (Int32.ofNat u) (Int64.ofNat (sz_us (x.1 p) (sp_rest (x.1 p).2.2.2.1 (x.1 p).2.1 (x.1 p).2.2.1 n) n (n - 1))) = some 1 := by
    intro _ i hi hw
    obtain ⟨u, u1, u2⟩ := sz_sg_pos n hw
    by_cases q : sp_frm (x.1 p) i u ∧ sz_un (x.1 p) (sp_rest (x.1 p).2.2.2.1 (x.1 p).2.1 (x.1 p).2.2.1 n) n u
    · refine ⟨u, u1, q.1, ?_⟩
      have hus : sz_us (x.1 p) (sp_rest (x.1 p).2.2.2.1 (x.1 p).2.1 (x.1 p).2.2.1 n) n (n - 1) < 2 ^ 63 := Nat.lt_of_lt_of_le (sz_us_lt _ _ n (n - 1)) (Nat.pow_le_pow_right (by omega) (by omega))
      rw [sp_isIn hus (by omega), sz_us_bit, decide_eq_true q.2, decide_eq_true (show u < n - 1 by have := q.2.2.1; omega)]
      rfl
    · rw [if_neg q] at u2; omega
  rcases sz_goesw (z := x.1 p) (x := (x.2.2.2.2.2.2.2.1.1, x.2.2.2.2.2.2.2.1.2.1, x.2.2.2.2.2.2.2.1.2.2.1, x.2.2.2.2.2.2.2.1.2.2.2.1, x.2.2.2.2.2.2.2.1.2.2.2.2.1, 0, 0)) (w := w) (pn := y.2.2.2.2.2.1) (nu := y.2.2.2.2.2.2.2.2.2.2.2.2.2.2.2.2.2.2.2.2.2.2.2.2.2.2.1) (sd := x.2.2.2.2.2.2.1.1) (sdm := y.2.2.2.2.2.2.2.2.2.2.2.2.2.2.2.2.2.2.2.2.2.2.2.2.1) (nc := y.2.2.2.2.2.2.2.2.2.2.2.2.1) (nl := y.2.2.2.2.2.2.2.2.2.2.2.2.2.1) (nr := y.2.2.2.2.2.2.2.2.2.2.2.2.2.2.1) (nt := y.2.2.2.2.2.2.2.2.2.2.2.2.2.2.2.1) (sz_sk (Int32.ofNat p) w y.2.2.2.2.2.1 (Int32.ofNat (sp_rest (x.1 p).2.2.2.1 (x.1 p).2.1 (x.1 p).2.2.1 n)) y.2.2.2.2.2.2.1 y.2.2.2.2.2.2.2.1 y.2.2.2.2.2.2.2.2.1 y.2.2.2.2.2.2.2.2.2.1 y.2.2.2.2.2.2.2.2.2.2.1 fm y.2.2.2.2.2.2.2.2.2.2.2.2.2.2.2.2.2.2.2.2.2.2.2.2.2.2.1) g1 hp g2 g3 ⟨⟨by omega, rfl, fun l hl => by omega, rfl, fun l hl => by omega⟩, fun l hl => by omega⟩ s3 hun _ hdr with ⟨m1, x1, nc1, nl1, nr1, nt1, sd1, sdm1, r1, r2, r3, r4, r5⟩ | ⟨x1, nm1, nc1, nl1, nr1, nt1, sd1, sdm1, r1, r2⟩
  · obtain ⟨v, v1, v2, hv⟩ := sz_ends g1 hp g2 g3 hR r3 r4 r5
    rcases hv with ⟨e, m2, x2, nc2, nl2, nr2, nt2, u1, u2, u3, u4, u5⟩ | ⟨x2, nm2, nc2, nl2, nr2, nt2, u1, u2⟩
    · obtain ⟨q, D', nu', ca, cb, cc, cd, ce, q1, q2, k1, k2, k3⟩ := sz_closed u5 u3 x.2.2.2.2.2.2.1.2.2.1 y.2.2.2.2.2.2.2.2.2.2.2.2.2.2.2.2.2.2.2.2.2.2.2.2.2.2.1
      have hS := sz_shortsE (nu := x.2.2.2.2.2.2.1.2.2.1) (x0 := (x.2.2.2.2.2.2.2.1.1, x.2.2.2.2.2.2.2.1.2.1, x.2.2.2.2.2.2.2.1.2.2.1, x.2.2.2.2.2.2.2.1.2.2.2.1, x.2.2.2.2.2.2.2.1.2.2.2.2.1, 0, 0)) s1 hu r1 a1 a2 v1 u1
      rw [if_pos (Int32.not_lt.mp (sp_i_nn (show e < 1000000 by omega))), sz_restSetOf u5.1 u3, Option.bind_some, u5.1.2.1, k1, Option.bind_some, ← g1.2.2.1] at hS
      have hM : f_X10_shorter (Int32.ofNat p) w y.2.2.2.2.2.1 y.2.2.2.2.2.2.1 y.2.2.2.2.2.2.2.1 y.2.2.2.2.2.2.2.2.1 y.2.2.2.2.2.2.2.2.2.1 y.2.2.2.2.2.2.2.2.2.2.1 y.2.2.2.2.2.2.2.2.2.2.2.1 y.2.2.2.2.2.2.2.2.2.2.2.2.1 y.2.2.2.2.2.2.2.2.2.2.2.2.2.1 y.2.2.2.2.2.2.2.2.2.2.2.2.2.2.1 y.2.2.2.2.2.2.2.2.2.2.2.2.2.2.2.1 y.2.2.2.2.2.2.2.2.2.2.2.2.2.2.2.2.2.2.2.2.2.2.2.2.1 y.2.2.2.2.2.2.2.2.2.2.2.2.2.2.2.2.2.2.2.2.2.2.2.2.2.1 y.2.2.2.2.2.2.2.2.2.2.2.2.2.2.2.2.2.2.2.2.2.2.2.2.2.2.1 = Option.bind (f_X10_comes y.2.2.2.2.2.1 y.2.2.2.2.2.2.1 y.2.2.2.2.2.2.2.1 y.2.2.2.2.2.2.2.2.1 y.2.2.2.2.2.2.2.2.2.1 y.2.2.2.2.2.2.2.2.2.2.1 (Int32.ofNat q) ca cb cc cd) (fun q9 => match q9 with | (r32, c33, c34, c35, c36, c37, c38) => some (r32, c33, c34, c35, c36, c37, c38, Int32.ofNat q, ca, cb, cc, cd, sdm1, fm, ce)) := by
        rw [hM0]
        refine Eq.trans r2 ?_
        rw [sz_skE (n := n) (fun k => by rw [sp_ld_at hp (by omega), g2]) a1 a2 v2 u2, if_neg (sp_i_neg (show e < 1000000 by omega)), k2, Option.bind_some]
      unfold sx_shorter0 sm_shorter
      rw [hM, hX 1 sd1 fx nu' _ D' hS, if_neg (by decide)]
      by_cases hN12 : N < 12
      · have hi := hT N hN12 hxN
        subst hi
        obtain ⟨T', w1, w2, w3⟩ := sz_keptX (T := x.1 iT) hN12 k3.1 (by omega)
        obtain ⟨cl', le', ri', lt', z1, z2, z3⟩ := sz_comes (mn := y.2.2.2.2.2.2.1) (cl := y.2.2.2.2.2.2.2.1) (le := y.2.2.2.2.2.2.2.2.1) (ri := y.2.2.2.2.2.2.2.2.2.1) (lt := y.2.2.2.2.2.2.2.2.2.2.1) (nc := ca) (nl := cb) (nr := cc) (nt := cd) hN12 (show q ≤ 24 by omega)
        rw [k3.1.2.1, hxN, w1, hyN, z1]
        apply sp_fin (r := Int32.ofNat iT)
        · rfl
        · rfl
        · exact sz_rel_new h hN12 hxN w2 w3 q1 (by omega) k3.2 z2 z3 rfl rfl rfl rfl rfl (by obtain ⟨_, _, _, _, z, _⟩ := h; exact z) (by obtain ⟨_, _, _, _, _, z, _⟩ := h; exact z) rfl rfl rfl rfl rfl rfl rfl rfl rfl
      · obtain rfl : N = 12 := by omega
        rw [hxN, sz_full, hyN, sz_fullM]
        apply sp_fin (r := -4)
        · rfl
        · rfl
        · exact sz_rel_eq h (sz_up_self _ _) rfl rfl (by show (Int32.ofNat 12, _, _, _) = _; rw [← hxN]) rfl rfl rfl rfl rfl hyN.symm rfl rfl rfl rfl rfl
    · have hS := sz_shortsE (nu := x.2.2.2.2.2.2.1.2.2.1) (x0 := (x.2.2.2.2.2.2.2.1.1, x.2.2.2.2.2.2.2.1.2.1, x.2.2.2.2.2.2.2.1.2.2.1, x.2.2.2.2.2.2.2.1.2.2.2.1, x.2.2.2.2.2.2.2.1.2.2.2.2.1, 0, 0)) s1 hu r1 a1 a2 v1 u1
      rw [if_neg (by decide), ← g1.2.2.1] at hS
      unfold sx_shorter0 sm_shorter
      rw [hX 0 sd1 fx _ _ x2 hS, if_pos rfl, hM0]
      have hM := Eq.trans r2 (sz_skE (n := n) (fun k => by rw [sp_ld_at hp (by omega), g2]) a1 a2 v2 u2)
      rw [if_pos rfl] at hM
      apply sp_fin (r := -3)
      · rfl
      · exact congrArg (fun o => Option.bind o _) hM
      · exact sz_rel_eq h (sz_up_self _ _) rfl rfl rfl rfl rfl rfl rfl rfl rfl rfl rfl rfl rfl rfl
  · have hS := sz_shortsN (nu := x.2.2.2.2.2.2.1.2.2.1) (x0 := (x.2.2.2.2.2.2.2.1.1, x.2.2.2.2.2.2.2.1.2.1, x.2.2.2.2.2.2.2.1.2.2.1, x.2.2.2.2.2.2.2.1.2.2.2.1, x.2.2.2.2.2.2.2.1.2.2.2.2.1, 0, 0)) s1 hu r1
    rw [← g1.2.2.1] at hS
    unfold sx_shorter0 sm_shorter
    rw [hX 0 sd1 fx _ _ x1 hS, if_pos rfl, hM0]
    apply sp_fin (r := -3)
    · rfl
    · exact congrArg (fun o => Option.bind o _) r2
    · exact sz_rel_eq h (sz_up_self _ _) rfl rfl rfl rfl rfl rfl rfl rfl rfl rfl rfl rfl rfl rfl
theorem op_shorter {x : sp_XS} {y : sp_MS} (h : sp_Rel x y) (p1 p2 : Int32) : ∃ (r : Int32) (x' : sp_XS) (y' : sp_MS), sx_shorter p1 p2 x = some (r, x') ∧ sm_shorter p1 p2 y = some (r, y') ∧ sp_Rel x' y' := by
  rcases sp_proof h p1 with ⟨e1, e2⟩ | ⟨p, n, hp, rfl, ei, g1, g2, g3, e1, e2, e3⟩
  · refine ⟨-1, x, y, ?_, ?_, h⟩
    · unfold sx_shorter
      rw [if_neg (fun q => sz_nopr e1 q)]
      unfold sx_shorter_un f_X9_shorter_un; rw [e1]; rfl
    · unfold sm_shorter f_X10_shorter; rw [e2]; rfl
  · have hT : ∀ i j N, N < 12 → x.2.2.2.2.2.2.2.2.2.1 = Int32.ofNat N → sp_ixT i j x.2.2.2.2.2.2.2.2.2.1 = N := by
      intro i j N hN hx
      unfold sp_ixT
      rw [hx, if_pos (sz_okp hN), sp_i_nat (by omega)]
    unfold sx_shorter
    rw [if_pos ⟨sz_okp hp, e3⟩, sp_i_nat (show p < 1000000 by omega)]
    by_cases hw1 : p2 < 0
    · apply sp_fin (r := -2)
      · unfold sx_shorter0 f_X9_shorter; rw [e1, Option.bind_some, if_neg (by decide), if_pos hw1]; rfl
      · unfold sm_shorter f_X10_shorter f_X10_within; rw [e2, Option.bind_some, if_neg (by decide), if_pos hw1]; rfl
      · exact sz_rel_eq h (sz_up_self _ _) rfl rfl rfl rfl rfl rfl rfl rfl rfl rfl rfl rfl rfl rfl
    · by_cases hw2 : p2 ≤ 4
      · exact sz_shorter1 h hp hw1 hw2 g1 g2 g3 e1 e2 (hT p p)
      · apply sp_fin (r := -2)
        · unfold sx_shorter0 f_X9_shorter; rw [e1, Option.bind_some, if_neg (by decide), if_neg hw1, if_neg hw2]; rfl
        · unfold sm_shorter f_X10_shorter f_X10_within; rw [e2, Option.bind_some, if_neg (by decide), if_neg hw1, if_pos (Int32.not_le.mp hw2)]; rfl
        · exact sz_rel_eq h (sz_up_self _ _) rfl rfl rfl rfl rfl rfl rfl rfl rfl rfl rfl rfl rfl rfl
