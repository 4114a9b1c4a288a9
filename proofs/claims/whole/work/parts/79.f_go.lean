/-! going through the lines of a proof by any way -/
def sz_gw (w : Int32) (z : sp_PrT) (i m : Nat) (x : sp_PrT) (nc nl nr nt sd sdm : Nat → Int32) : Prop := sz_D x nc nl nr nt m ∧ ∀ j, j < i → ∃ t, t < m ∧ sd j = Int32.ofNat t ∧ sdm (0 + j) = Int32.ofNat t ∧ (w = 4 → sp_sub (sp_cc z j) (sp_cc x t))
theorem sz_goesw {z x : sp_PrT} {n p : Nat} {mn cl le ri lt nc nl nr nt sd sdm sf sfm nu : Nat → Int32} {ut : Int64} {rs w pn : Int32} (kk : Int32 → (Nat → Int32) → (Nat → Int32) → (Nat → Int32) → (Nat → Int32) → (Nat → Int32) → Option (Int32 × Int32 × (Nat → Int32) × (Nat → Int32) × (Nat → Int32) × (Nat → Int32) × (Nat → Int32) × Int32 × (Nat → Int32) × (Nat → Int32) × (Nat → Int32) × (Nat → Int32) × (Nat → Int32) × (Nat → Int32) × (Nat → Int32))) (h : sp_prOK z n) (hp : p < 12) (hmn : mn p = Int32.ofNat n) (hs : sp_same z cl le ri lt p n) (hD : sz_D x nc nl nr nt 0) (hsf : ∀ l, l < n → ∃ s, s < 4096 ∧ sf l = Int32.ofNat s ∧ sfm l = Int32.ofNat s) (hun : ∀ j, j < n → ∃ b : Int32, (b = 0 ∨ b = 1) ∧ f_X9_isIn (Int32.ofNat j) ut = some b ∧ f_X10_isUnit (Int32.ofNat p) (Int32.ofNat j) rs mn cl le ri lt = some b ∧ (b = 1 → sp_pc (sp_cc z j) 24 = 1)) (dw : Nat → Nat) (hdr : w = 4 → ∀ i, i < n → 0 < dw i → ∃ u, u < n ∧ sp_frm z i u ∧ f_X9_isIn (Int32.ofNat u) ut = some 1) : (∃ (m' : Nat) (x' : sp_PrT) (nc' nl' nr' nt' sd' sdm' : Nat → Int32), f_X5_goesThrough w sd sf ut x.1 x.2.1 x.2.2.1 x.2.2.2.1 x.2.2.2.2.1 x.2.2.2.2.2.1 x.2.2.2.2.2.2 z.1 z.2.1 z.2.2.1 z.2.2.2.1 (Int32.ofNat n) = some (1, sd', x'.1, x'.2.1, x'.2.2.1, x'.2.2.2.1, x'.2.2.2.2.1, x'.2.2.2.2.2.1, x'.2.2.2.2.2.2) ∧ sp_lp (f_X10_shorter_L42 mn (Int32.ofNat p) kk w rs cl le ri lt sfm pn nu) sp_F ((0 : Int32), Int32.ofNat 0, nc, nl, nr, nt, sdm) = kk (Int32.ofNat m') nc' nl' nr' nt' sdm' ∧ m' ≤ n ∧ sz_gw w z n m' x' nc' nl' nr' nt' sd' sdm' ∧ (w = 4 → m' + sz_sg (fun l => min 1 (dw l)) n ≤ n)) ∨ (∃ (x' : sp_PrT) (nm' : Int32) (nc' nl' nr' nt' sd' sdm' : Nat → Int32), f_X5_goesThrough w sd sf ut x.1 x.2.1 x.2.2.1 x.2.2.2.1 x.2.2.2.2.1 x.2.2.2.2.2.1 x.2.2.2.2.2.2 z.1 z.2.1 z.2.2.1 z.2.2.2.1 (Int32.ofNat n) = some (0, sd', x'.1, x'.2.1, x'.2.2.1, x'.2.2.2.1, x'.2.2.2.2.1, x'.2.2.2.2.2.1, x'.2.2.2.2.2.2) ∧ sp_lp (f_X10_shorter_L42 mn (Int32.ofNat p) kk w rs cl le ri lt sfm pn nu) sp_F ((0 : Int32), Int32.ofNat 0, nc, nl, nr, nt, sdm) = some (-3, pn, mn, cl, le, ri, lt, nm', nc', nl', nr', nt', sdm', sfm, nu)) := by
  have hn := h.2.1
  unfold f_X5_goesThrough
  rw [sp_bndE]
  refine sz_lp2 (fun o u => (∃ (m' : Nat) (x' : sp_PrT) (nc' nl' nr' nt' sd' sdm' : Nat → Int32), o = some (1, sd', x'.1, x'.2.1, x'.2.2.1, x'.2.2.2.1, x'.2.2.2.2.1, x'.2.2.2.2.2.1, x'.2.2.2.2.2.2) ∧ u = kk (Int32.ofNat m') nc' nl' nr' nt' sdm' ∧ m' ≤ n ∧ sz_gw w z n m' x' nc' nl' nr' nt' sd' sdm' ∧ (w = 4 → m' + sz_sg (fun l => min 1 (dw l)) n ≤ n)) ∨ (∃ (x' : sp_PrT) (nm' : Int32) (nc' nl' nr' nt' sd' sdm' : Nat → Int32), o = some (0, sd', x'.1, x'.2.1, x'.2.2.1, x'.2.2.2.1, x'.2.2.2.2.1, x'.2.2.2.2.2.1, x'.2.2.2.2.2.2) ∧ u = some (-3, pn, mn, cl, le, ri, lt, nm', nc', nl', nr', nt', sdm', sfm, nu))) n (fun i s t => ∃ (m' : Nat) (x' : sp_PrT) (nc' nl' nr' nt' sd' sdm' : Nat → Int32), s = (Int32.ofNat i, sd', x'.1, x'.2.1, x'.2.2.1, x'.2.2.2.1, x'.2.2.2.2.1, x'.2.2.2.2.2.1, x'.2.2.2.2.2.2) ∧ t = (Int32.ofNat i, Int32.ofNat m', nc', nl', nr', nt', sdm') ∧ m' ≤ i ∧ sz_gw w z i m' x' nc' nl' nr' nt' sd' sdm' ∧ (w = 4 → m' + sz_sg (fun l => min 1 (dw l)) i ≤ i)) ?_ ?_ sp_F sp_F _ _ (sp_F_lt (by omega)) (sp_F_lt (by omega)) ⟨0, x, nc, nl, nr, nt, sd, sdm, rfl, rfl, by omega, ⟨hD, fun j hj => by omega⟩, fun _ => by rw [sz_sg]; omega⟩
  · rintro i s t hi ⟨m', x', nc', nl', nr', nt', sd', sdm', rfl, rfl, hm', ⟨hD', hst⟩, hct⟩
    rcases sz_stand (sf := sf) (sfm := sfm) (ut := ut) (rs := rs) (w := w) h hp hmn hs hi (show m' < 48 by omega) hD' (show 0 + n ≤ 48 by omega) hst (fun _ => hsf i hi) (fun _ => hun) with ⟨q, m2, x2, a1, a2, a3, a4, b1, b2, b3, b4, b5, b6, b7, b8⟩ | ⟨b1, b2⟩
    · right
      refine ⟨(Int32.ofNat (i + 1), upd sd' i (Int32.ofNat q), x2.1, x2.2.1, x2.2.2.1, x2.2.2.2.1, x2.2.2.2.2.1, x2.2.2.2.2.2.1, x2.2.2.2.2.2.2), (Int32.ofNat (i + 1), Int32.ofNat m2, a1, a2, a3, a4, upd sdm' i (Int32.ofNat q)), ⟨m2, x2, a1, a2, a3, a4, _, _, rfl, rfl, by omega, ⟨b6, fun j hj => ?_⟩, fun w4 => ?_⟩, fun rec => ?_, fun rec => ?_⟩
      · rw [Nat.zero_add]
        by_cases e : j = i
        · subst e
          exact ⟨q, b3, sz_upd_at _ _ _, sz_upd_at _ _ _, b8⟩
        · obtain ⟨t, t1, t2, t3, t4⟩ := hst j (by omega)
          rw [Nat.zero_add] at t3
          refine ⟨t, by omega, by rw [sz_upd_ne e]; exact t2, by rw [sz_upd_ne e]; exact t3, fun w4 => ?_⟩
          have := t4 w4
          unfold sp_cc at this ⊢
          rw [(b7 t t1).1]
          exact this
      · have hc := hct w4
        rw [sz_sg_s]
        show m2 + (_ + min 1 (dw i)) ≤ i + 1
        by_cases hw : 0 < dw i
        · obtain ⟨u, u1, u2, u3⟩ := hdr w4 i hi hw
          obtain ⟨r, hr⟩ := sz_drop (x := x') (sd := sd') (sf := sf) h hi (fun j hj => by obtain ⟨b, d1, d2, -⟩ := hun j hj; exact ⟨b, d1, d2⟩) u2 u1 u3
          rw [w4, hr] at b1
          have e9 := (Prod.mk.inj (Prod.mk.inj (Prod.mk.inj (Prod.mk.inj (Prod.mk.inj (Prod.mk.inj (Prod.mk.inj (Option.some.inj b1)).2).2).2).2).2).2).1
          rw [hD'.1.2.1, b6.1.2.1] at e9
          have e10 := (sp_i_inj (by omega) (by have := b6.1.1; omega)).mp e9
          omega
        · omega
      · rw [f_X5_goesThrough_L2_eq, if_neg (fun q => by have := (sp_i_le (by omega) (by omega)).mp q; omega), b1, Option.bind_some]
        show sp_st _ _ _ _ _ = _
        rw [sp_st_at (show i < 48 by omega) (by omega), sp_ld_at (show i < 48 by omega) (by omega), sz_upd_at, if_pos (Int32.not_lt.mp (sp_i_nn (show q < 1000000 by have := b6.1.1; omega))), sp_bndE, sp_i_succ]
      · have b2' : f_X10_standFor (Int32.ofNat p) (Int32.ofNat i) w rs 0 mn cl le ri lt (Int32.ofNat m') nc' nl' nr' nt' sdm' sfm = some (Int32.ofNat q, Int32.ofNat m2, a1, a2, a3, a4) := b2
        rw [f_X10_shorter_L42_eq, sp_ld_at hp (by omega), hmn, if_neg (fun q => by have := (sp_i_le (by omega) (by omega)).mp q; omega), b2', Option.bind_some]
        show sp_st _ _ _ _ _ = _
        rw [sp_st_at (show i < 48 by omega) (by omega), sp_ld_at (show i < 48 by omega) (by omega), sz_upd_at, if_neg (sp_i_neg (show q < 1000000 by have := b6.1.1; omega)), sp_bndE, sp_i_succ]
    · left
      refine ⟨_, _, Or.inr ⟨x', Int32.ofNat m', nc', nl', nr', nt', upd sd' i (-3), upd sdm' i (-9), rfl, rfl⟩, fun rec => ?_, fun rec => ?_⟩
      · rw [f_X5_goesThrough_L2_eq, if_neg (fun q => by have := (sp_i_le (by omega) (by omega)).mp q; omega), b1, Option.bind_some]
        show sp_st _ _ _ _ _ = _
        rw [sp_st_at (show i < 48 by omega) (by omega), sp_ld_at (show i < 48 by omega) (by omega), sz_upd_at, if_neg (by decide)]
      · have b2' : f_X10_standFor (Int32.ofNat p) (Int32.ofNat i) w rs 0 mn cl le ri lt (Int32.ofNat m') nc' nl' nr' nt' sdm' sfm = some (-9, Int32.ofNat m', nc', nl', nr', nt') := b2
        rw [f_X10_shorter_L42_eq, sp_ld_at hp (by omega), hmn, if_neg (fun q => by have := (sp_i_le (by omega) (by omega)).mp q; omega), b2', Option.bind_some]
        show sp_st _ _ _ _ _ = _
        rw [sp_st_at (show i < 48 by omega) (by omega), sp_ld_at (show i < 48 by omega) (by omega), sz_upd_at, if_pos rfl]
  · rintro s t ⟨m', x', nc', nl', nr', nt', sd', sdm', rfl, rfl, hm', hgo⟩
    exact ⟨_, _, Or.inl ⟨m', x', nc', nl', nr', nt', sd', sdm', rfl, rfl, hm', hgo⟩, fun rec => by rw [f_X5_goesThrough_L2_eq, if_pos ((sp_i_le (by omega) (by omega)).mpr (Nat.le_refl _))], fun rec => by rw [f_X10_shorter_L42_eq, sp_ld_at hp (by omega), hmn, if_pos ((sp_i_le (by omega) (by omega)).mpr (Nat.le_refl _))]⟩
