/-! kept; the whole of size -/
noncomputable def sp_cn (x : sp_PrT) (n l a : Nat) : Nat := if a ≤ l then sp_kc x n l a else sp_kc x n l l + 1
theorem sp_keptX73 {x : sp_PrT} {n l : Nat} {lu : Nat → Int32} (h : sp_prOK x n) (hl : l < n) (k : Int32 → Option (Int32 × (Nat → Int32))) : sp_lp (f_X6_keptOf_L73 (Int32.ofNat l) k (sp_lr x lu n)) sp_F ((0 : Int32), (0 : Int32)) = k (Int32.ofNat (1 + sp_kc x n l l)) := by
  have hn := h.2.1
  refine sp_lp_fn (l + 1) (fun a => (Int32.ofNat (sp_cn x n l a), Int32.ofNat a)) (fun a ha rec => ?_) (fun rec => ?_) (sp_F_lt (by omega)) ?_
  · have hlu := sp_lu_le x n a
    rw [f_X6_keptOf_L73_eq, if_neg (fun q => by have := (sp_i_lt (by omega) (by omega)).mp q; omega), sp_ld_at (show a < 48 by omega) (by omega), show sp_lr x lu n a = Int32.ofNat (sp_lu x n a) from if_pos (by omega)]
    simp only [sp_bnd, sp_i_succ]
    have hge := sp_lu_ge x l n a (by omega)
    have e0 : sp_cn x n l a = sp_kc x n l a := if_pos (by omega)
    by_cases hal : a = l
    · have e1 : sp_cn x n l (a + 1) = sp_kc x n l a + 1 := by rw [hal]; exact if_neg (by omega)
      rw [if_neg (fun q => by have q2 := (sp_i_lt (by omega) (by omega)).mp q; have := hge.mpr (Or.inl (by omega)); omega), e0, e1]
    · have e1 : sp_cn x n l (a + 1) = sp_kc x n l (a + 1) := if_pos (by omega)
      rw [e0, e1, sp_kc]
      by_cases he : ∃ j, l ≤ j ∧ j < n ∧ sp_frm x j a
      · rw [if_neg (fun q => by have q2 := (sp_i_lt (by omega) (by omega)).mp q; have := hge.mpr (Or.inr he); omega), if_pos he]
      · rw [if_neg he, if_pos ((sp_i_lt (by omega) (by omega)).mpr (Nat.not_le.mp (fun q => by
          rcases hge.mp q with z | z
          · omega
          · exact he z)))]
        rfl
  · have e1 : sp_cn x n l (l + 1) = 1 + sp_kc x n l l := by rw [show sp_cn x n l (l + 1) = sp_kc x n l l + 1 from if_neg (by omega), Nat.add_comm]
    rw [f_X6_keptOf_L73_eq, if_pos ((sp_i_lt (by omega) (by omega)).mpr (by omega)), e1]
  · have e1 : sp_cn x n l 0 = 0 := if_pos (by omega)
    rw [e1]; rfl
noncomputable def sp_km (x : sp_PrT) (n : Nat) : Nat → Nat
  | 0 => 0
  | l + 1 => if sp_km x n l < 1 + sp_kc x n l l then 1 + sp_kc x n l l else sp_km x n l
theorem sp_km_le (x : sp_PrT) (n : Nat) : ∀ l, sp_km x n l ≤ l
  | 0 => Nat.le_refl _
  | l + 1 => by have := sp_km_le x n l; have := sp_kc_le x n l l; rw [sp_km]; split <;> omega
theorem sp_keptX59 {x : sp_PrT} {n : Nat} {lu : Nat → Int32} (h : sp_prOK x n) (k : Int32 → Option (Int32 × (Nat → Int32))) : sp_lp (f_X6_keptOf_L59 (Int32.ofNat n) k (sp_lr x lu n)) sp_F ((0 : Int32), (0 : Int32)) = k (Int32.ofNat (sp_km x n n)) := by
  have hn := h.2.1
  refine sp_lp_fn n (fun i => (Int32.ofNat (sp_km x n i), Int32.ofNat i)) (fun i hi rec => ?_) (fun rec => ?_) (sp_F_lt (by omega)) rfl
  · have h1 := sp_km_le x n i
    have h2 := sp_kc_le x n i i
    rw [f_X6_keptOf_L59_eq, if_neg (fun q => by have := (sp_i_le (by omega) (by omega)).mp q; omega), sp_bnd, sp_keptX73 h hi]
    simp only [sp_bnd, sp_i_succ]
    rw [sp_km]
    by_cases hw : sp_km x n i < 1 + sp_kc x n i i
    · rw [if_pos hw, if_pos ((sp_i_lt (by omega) (by omega)).mpr hw)]
    · rw [if_neg hw, if_neg (fun q => hw ((sp_i_lt (by omega) (by omega)).mp q))]
  · rw [f_X6_keptOf_L59_eq, if_pos ((sp_i_le (by omega) (by omega)).mpr (Nat.le_refl n))]
theorem sp_keptX {x : sp_PrT} {n : Nat} {lu : Nat → Int32} (h : sp_prOK x n) : f_X6_keptOf lu x.2.1 x.2.2.1 (Int32.ofNat n) = some (Int32.ofNat (sp_km x n n), sp_lr x lu n) := by
  unfold f_X6_keptOf
  rw [sp_bnd, sp_keptX2 h, sp_bnd, sp_keptX59 h]
theorem sp_keptM {x : sp_PrT} {n p : Nat} {mn cl le ri lt : Nat → Int32} (h : sp_prOK x n) (hp : p < 12) (hm : mn p = Int32.ofNat n) (hs : sp_same x cl le ri lt p n) : f_X10_kept (Int32.ofNat p) mn le ri lt = some (Int32.ofNat (sp_km x n n)) := by
  have hn := h.2.1
  unfold f_X10_kept
  rw [sp_bnd]
  refine sp_lp_fn n (fun i => (Int32.ofNat (sp_km x n i), Int32.ofNat i)) (fun i hi rec => ?_) (fun rec => ?_) (sp_F_lt (by omega)) rfl
  · have h1 := sp_km_le x n i
    have h2 := sp_kc_le x n i i
    rw [f_X10_kept_L4_eq, sp_ld_at hp (by omega), hm, if_neg (fun q => by have := (sp_i_le (by omega) (by omega)).mp q; omega), sp_keptAs h hi hp hm hs]
    simp only [Option.bind_some, sp_bnd, sp_i_succ]
    rw [sp_km]
    by_cases hw : sp_km x n i < 1 + sp_kc x n i i
    · rw [if_pos hw, if_neg (fun q => by have := (sp_i_le (by omega) (by omega)).mp q; omega)]
    · rw [if_neg hw, if_pos ((sp_i_le (by omega) (by omega)).mpr (by omega))]
  · rw [f_X10_kept_L4_eq, sp_ld_at hp (by omega), hm, if_pos ((sp_i_le (by omega) (by omega)).mpr (Nat.le_refl n))]
theorem op_size {x : sp_XS} {y : sp_MS} (h : sp_Rel x y) (p1 p2 : Int32) : ∃ (r : Int32) (x' : sp_XS) (y' : sp_MS), sx_size p1 p2 x = some (r, x') ∧ sm_size p1 p2 y = some (r, y') ∧ sp_Rel x' y' := by
  rcases sp_proof h p1 with ⟨e1, e2⟩ | ⟨p, n, hp, rfl, ei, g1, g2, g3, e1, e2, -⟩
  · apply sp_fin (r := -1)
    · unfold sx_size sx_size0 f_X9_size; rw [e1]; rfl
    · unfold sm_size f_X10_size; rw [e2]; rfl
    · exact h
  · have hx : ∃ r de' lu', f_X9_size (Int32.ofNat p) p2 x.2.2.2.2.2.2.2.2.2.1 (x.1 p).1 (x.1 p).2.1 (x.1 p).2.2.1 (x.1 p).2.2.2.2.2.1 (x.1 p).2.2.2.2.2.2 x.2.2.2.2.1.1 x.2.2.2.2.1.2 = some (r, de', lu') ∧ ∃ d2, f_X10_size (Int32.ofNat p) p2 y.2.2.2.2.2.1 y.2.2.2.2.2.2.1 y.2.2.2.2.2.2.2.1 y.2.2.2.2.2.2.2.2.1 y.2.2.2.2.2.2.2.2.2.1 y.2.2.2.2.2.2.2.2.2.2.1 y.2.2.2.2.2.2.2.2.2.2.2.2.2.2.2.2.2.2.1 = some (r, d2) := by
      unfold f_X9_size f_X10_size
      rw [e1, e2, g1.2.2.1, g1.2.2.2.2.1, sp_signs g1, sp_widest g1, sp_deepX g1, sp_keptX g1, sp_signsM g1 hp g2 g3, sp_widestM g1 hp g2 g3, sp_deepM g1 hp g2 g3, sp_keptM g1 hp g2 g3, sp_groundsOf g1 hp g2 g3]
      simp only [Option.bind_some, sp_ck_at hp (by omega : 12 < 1000000), sp_ld_at hp (by omega : 12 < 1000000), g2]
      rw [if_neg (show ¬ (1 : Int32) = 0 by decide), if_neg (show ¬ (1 : Int32) = 0 by decide)]
      by_cases q0 : p2 = 0
      · exact ⟨_, _, _, by rw [if_pos q0], _, by rw [if_pos q0]⟩
      by_cases q1 : p2 = 1
      · exact ⟨_, _, _, by rw [if_neg q0, if_pos q1], _, by rw [if_neg q0, if_pos q1]⟩
      by_cases q2 : p2 = 2
      · exact ⟨_, _, _, by rw [if_neg q0, if_neg q1, if_pos q2], _, by rw [if_neg q0, if_neg q1, if_pos q2]⟩
      by_cases q3 : p2 = 3
      · exact ⟨_, _, _, by rw [if_neg q0, if_neg q1, if_neg q2, if_pos q3], _, by rw [if_neg q0, if_neg q1, if_neg q2, if_pos q3]⟩
      by_cases q4 : p2 = 4
      · exact ⟨_, _, _, by rw [if_neg q0, if_neg q1, if_neg q2, if_neg q3, if_pos q4], _, by rw [if_neg q0, if_neg q1, if_neg q2, if_neg q3, if_pos q4]⟩
      by_cases q5 : p2 = 5
      · exact ⟨_, _, _, by rw [if_neg q0, if_neg q1, if_neg q2, if_neg q3, if_neg q4, if_pos q5], _, by rw [if_neg q0, if_neg q1, if_neg q2, if_neg q3, if_neg q4, if_pos q5]⟩
      · exact ⟨_, _, _, by rw [if_neg q0, if_neg q1, if_neg q2, if_neg q3, if_neg q4, if_neg q5], _, by rw [if_neg q0, if_neg q1, if_neg q2, if_neg q3, if_neg q4, if_neg q5]⟩
    obtain ⟨r, de', lu', k1, d2, k2⟩ := hx
    apply sp_fin (r := r)
    · unfold sx_size sx_size0; rw [ei, k1]; rfl
    · unfold sm_size; rw [k2]; rfl
    · exact h
