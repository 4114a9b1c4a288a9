/-! sheet, put, cell -/
theorem sp_i_60 (k i : Nat) : (60 : Int32) * Int32.ofNat k + Int32.ofNat i = Int32.ofNat (60 * k + i) := by rw [Int32.ofNat_add, Int32.ofNat_mul]; rfl
theorem sp_i_24 (k i : Nat) : (24 : Int32) * Int32.ofNat k + Int32.ofNat i = Int32.ofNat (24 * k + i) := by rw [Int32.ofNat_add, Int32.ofNat_mul]; rfl
theorem sp_i_lit_le {m i : Nat} {c : Int32} (hc : c = Int32.ofNat m) (hm : m < 1000000) (hi : i < 1000000) : (c ≤ Int32.ofNat i) ↔ m ≤ i := by rw [hc]; exact sp_i_le hm hi
theorem sp_F_lt {n : Nat} (h : n < 5000) : n < sp_F := h
theorem sp_beginL {k4 : (Nat → Int32) → Option ((Nat → Int32) × Int32 × Int32)} (ce : Nat → Int32) : sp_lp (f_X4_begin_L12 k4) sp_F ((0 : Int32), ce) = k4 (fun j => if j < 60 then 0 else ce j) := by
  refine sp_lp_fn 60 (fun i => (Int32.ofNat i, fun j => if j < i then 0 else ce j)) (fun i hi rec => ?_) (fun rec => ?_) (sp_F_lt (by omega)) ?_
  · rw [f_X4_begin_L12_eq, if_neg (fun h => by have := (sp_i_lit_le (c := (60 : Int32)) (m := 60) rfl (by omega) (by omega)).mp h; omega), sp_st_at hi (by omega)]
    unfold sp_bnd
    rw [sp_i_succ]
    refine congrArg (fun f => rec (Int32.ofNat (i + 1), f)) ?_
    funext j
    simp only [upd]
    by_cases h1 : j = i
    · subst h1; simp
    · rw [if_neg h1]
      by_cases h2 : j < i
      · rw [if_pos h2, if_pos (by omega)]
      · rw [if_neg h2, if_neg (by omega)]
  · rw [f_X4_begin_L12_eq, if_pos ((sp_i_lit_le (c := (60 : Int32)) (m := 60) (i := 60) rfl (by omega) (by omega)).mpr (by omega))]
  · have : (fun j => if j < 0 then 0 else ce j) = ce := by
      funext j; rw [if_neg (by omega)]
    rw [this]; rfl
theorem sp_begin (p1 p2 : Int32) (ce : Nat → Int32) : f_X4_begin p1 p2 ce = some (fun j => if j < 60 then 0 else ce j, p1, p2) := by
  unfold f_X4_begin
  rw [sp_bnd, sp_beginL]
theorem sp_sheetM {k8 : (Nat → Int32) → Option (Int32 × Int32 × (Nat → Int32) × (Nat → Int32) × (Nat → Int32))} {k : Nat} (hk : k < 4) (ce : Nat → Int32) : sp_lp (f_X10_sheet_L57 k8 (Int32.ofNat k)) sp_F ((0 : Int32), ce) = k8 (fun j => if 60 * k ≤ j ∧ j < 60 * k + 60 then 0 else ce j) := by
  refine sp_lp_fn 60 (fun i => (Int32.ofNat i, fun j => if 60 * k ≤ j ∧ j < 60 * k + i then 0 else ce j)) (fun i hi rec => ?_) (fun rec => ?_) (sp_F_lt (by omega)) ?_
  · rw [f_X10_sheet_L57_eq, if_neg (fun h => by have := (sp_i_lit_le (c := (60 : Int32)) (m := 60) rfl (by omega) (by omega)).mp h; omega), sp_i_60, sp_st_at (by omega) (by omega)]
    unfold sp_bnd
    rw [sp_i_succ]
    refine congrArg (fun f => rec (Int32.ofNat (i + 1), f)) ?_
    funext j
    simp only [upd]
    by_cases h1 : j = 60 * k + i
    · rw [if_pos h1, if_pos (by omega)]
    · rw [if_neg h1]
      by_cases h2 : 60 * k ≤ j ∧ j < 60 * k + i
      · rw [if_pos h2, if_pos (by omega)]
      · rw [if_neg h2, if_neg (by omega)]
  · rw [f_X10_sheet_L57_eq, if_pos ((sp_i_lit_le (c := (60 : Int32)) (m := 60) (i := 60) rfl (by omega) (by omega)).mpr (by omega))]
  · have : (fun j => if 60 * k ≤ j ∧ j < 60 * k + 0 then 0 else ce j) = ce := by
      funext j; rw [if_neg (by omega)]
    rw [this]; rfl
/-- the fault alone has changed -/
theorem sp_rel_fa {x : sp_XS} {y : sp_MS} (h : sp_Rel x y) {x' : sp_XS} {y' : sp_MS} (f : Int32) (hx : x' = (x.1, x'.2.1, x.2.2.1, x.2.2.2.1, x.2.2.2.2.1, x.2.2.2.2.2.1, x.2.2.2.2.2.2.1, x.2.2.2.2.2.2.2.1, x.2.2.2.2.2.2.2.2.1, (x.2.2.2.2.2.2.2.2.2.1, x.2.2.2.2.2.2.2.2.2.2.1, f, x.2.2.2.2.2.2.2.2.2.2.2.2))) (hy1 : y'.1 = f) (hy2 : y'.2.1 = y.2.1) (hy : y'.2.2.2.2.2 = y.2.2.2.2.2) (hS : ∀ k, k < 4 → sp_RelS (x'.2.1 k) y'.2.2.1 y'.2.2.2.1 y'.2.2.2.2.1 k) : sp_Rel x' y' := by
  obtain ⟨N, hN, h1, h2, h3, h4, hS0, hP, hO⟩ := h
  rw [hx] at hS ⊢
  refine ⟨N, hN, h1, by rw [hy]; exact h2, hy1.symm, by rw [hy2]; exact h4, hS, fun p hp => ?_, hO⟩
  have := hP p hp
  rw [hy]
  exact this
theorem op_sheet {x : sp_XS} {y : sp_MS} (h : sp_Rel x y) (p1 p2 p3 : Int32) : ∃ (r : Int32) (x' : sp_XS) (y' : sp_MS), sx_sheet p1 p2 p3 x = some (r, x') ∧ sm_sheet p1 p2 p3 y = some (r, y') ∧ sp_Rel x' y' := by
  obtain ⟨N, hN, h1, h2, h3, h4, hS, hP, hO⟩ := id h
  have hid : ∀ (k : Nat), k < 4 → ∀ j, j < 4 → sp_RelS (sp_up x.2.1 k ((x.2.1 k).1, (x.2.1 k).2.1, (x.2.1 k).2.2) j) y.2.2.1 y.2.2.2.1 y.2.2.2.2.1 j := fun k hk => sp_relS_up hS (fun _ _ => rfl) (fun _ _ => rfl) (fun _ _ _ _ => rfl) (hS k hk)
  by_cases hp : vp_in p1 4
  · obtain ⟨k, hk, rfl⟩ := sp_vin hp
    have ei : sp_ix 4 (Int32.ofNat k) = k := by rw [sp_ix_eq hp, sp_i_nat (by omega)]
    rcases sp_lane p2 with ⟨l1, l2⟩ | ⟨⟨l1, l2⟩, l3⟩
    · apply sp_fin (r := -2)
      · unfold sx_sheet sx_sheet0 f_X9_sheet
        rw [(sp_sh1 hk).1, ei, l1]
        rfl
      · unfold sm_sheet f_X10_sheet
        rw [(sp_sh1 hk).2, l2]
        rfl
      · exact sp_rel_fa h 0 rfl rfl rfl rfl (hid k hk)
    · by_cases hle : p3 ≤ (60 : Int32)
      · by_cases h0 : p3 < 0
        · have h0' : ¬ (0 : Int32) ≤ p3 := Int32.not_le.mpr h0
          apply sp_fin (r := -14)
          · unfold sx_sheet sx_sheet0 f_X9_sheet
            rw [(sp_sh1 hk).1, ei, l1]
            simp only [Option.bind_some, sp_bnd, if_pos hle, if_neg h0']
            rfl
          · unfold sm_sheet f_X10_sheet
            rw [(sp_sh1 hk).2, l2]
            simp only [Option.bind_some, if_pos hle, if_neg h0']
            rfl
          · exact sp_rel_fa h 4 rfl rfl rfl rfl (hid k hk)
        · have h0' : (0 : Int32) ≤ p3 := Int32.not_lt.mp h0
          obtain ⟨n, hn, hn3⟩ := sp_i_le_ex (n := 60) (by omega) h0 hle
          apply sp_fin (r := 1)
          · unfold sx_sheet sx_sheet0 f_X9_sheet
            rw [(sp_sh1 hk).1, ei, l1]
            simp only [Option.bind_some, sp_bnd, if_pos hle, if_pos h0', sp_ck_at hk (by omega : 4 < 1000000), sp_begin]
            rfl
          · unfold sm_sheet f_X10_sheet
            rw [(sp_sh1 hk).2, l2]
            simp only [Option.bind_some, if_pos hle, if_pos h0', sp_st_at hk (by omega : 4 < 1000000), sp_bnd, sp_sheetM hk]
            rfl
          · refine sp_rel_fa h 0 rfl rfl rfl rfl ?_
            refine sp_relS_up hS (fun j hj => by simp [upd, hj]) (fun j hj => by simp [upd, hj]) (fun j hj i hi => ?_) ⟨Or.inr ⟨by simp [upd], l3⟩, ⟨n, hn, hn3, by simp [upd, hn3]⟩, fun i hi => ?_⟩
            · show (if _ then _ else _) = _
              rw [if_neg (by omega)]
            · show (if _ then _ else _) = (if _ then _ else _)
              rw [if_pos (by omega), if_pos hi]
      · apply sp_fin (r := -2)
        · unfold sx_sheet sx_sheet0 f_X9_sheet
          rw [(sp_sh1 hk).1, ei, l1]
          simp only [Option.bind_some, sp_bnd, if_neg hle]
          rfl
        · unfold sm_sheet f_X10_sheet
          rw [(sp_sh1 hk).2, l2]
          simp only [Option.bind_some, if_neg hle]
          rfl
        · exact sp_rel_fa h 0 rfl rfl rfl rfl (hid k hk)
  · apply sp_fin (r := -1)
    · unfold sx_sheet sx_sheet0 f_X9_sheet
      rw [(sp_sh0' hp).1]
      rfl
    · unfold sm_sheet f_X10_sheet
      rw [(sp_sh0' hp).2]
      rfl
    · exact sp_rel_fa h 0 rfl rfl rfl rfl (hid _ (sp_ix_lt (by omega)))
