/-! copy, both sides -/
/-- what copy does at two sheets that are there -/
theorem sp_copyXM {xk xo : sp_ShT} {k o : Nat} {la sl ce : Nat → Int32} (fa p2 p4 p5 : Int32) (hk : k < 4) (ho : o < 4) (rk : sp_RelS xk la sl ce k) (ro : sp_RelS xo la sl ce o) : ∃ (r f : Int32) (cx cm : Nat → Int32), f_X9_copy (Int32.ofNat k) p2 (Int32.ofNat o) p4 p5 fa xk.1 xk.2.1 xk.2.2 xo.1 xo.2.1 xo.2.2 = some (r, f, cx) ∧ f_X10_copy (Int32.ofNat k) p2 (Int32.ofNat o) p4 p5 la sl ce = some (r, f, cm) ∧ (∀ i, i < 60 → cm (60 * o + i) = cx i) ∧ ∀ s, s ≠ o → ∀ i, i < 60 → cm (60 * s + i) = ce (60 * s + i) := by
  obtain ⟨lk, ⟨nK, hK, k1, k2⟩, ck⟩ := rk
  obtain ⟨lo, ⟨nO, hO, o1, o2⟩, co⟩ := ro
  have keep : (∀ i, i < 60 → ce (60 * o + i) = xo.1 i) ∧ ∀ s, s ≠ o → ∀ i, i < 60 → ce (60 * s + i) = ce (60 * s + i) := ⟨co, fun _ _ _ _ => rfl⟩
  rcases lk with ⟨a1, a2⟩ | ⟨a1, a2⟩
  · refine ⟨-11, 1, xo.1, ce, ?_, ?_, keep⟩
    · unfold f_X9_copy f_X4_isNothing
      rw [(sp_sh1 hk).1, (sp_sh1 ho).1]
      simp only [Option.bind_some, sp_bndE, sp_ck_at hk (by omega : 4 < 1000000), sp_ck_at ho (by omega : 4 < 1000000), if_pos a2]
      rfl
    · unfold f_X10_copy
      rw [(sp_sh1 hk).2, (sp_sh1 ho).2]
      simp only [Option.bind_some, sp_bndE, sp_ld_at hk (by omega : 4 < 1000000), if_pos a1]
      rfl
  have n1 : ¬ xk.2.1 = -1 := by rcases a2 with e | e | e <;> rw [e] <;> decide
  have m1 : ¬ la k = -9 := by rw [a1]; rcases a2 with e | e | e <;> rw [e] <;> decide
  rcases lo with ⟨b1, b2⟩ | ⟨b1, b2⟩
  · refine ⟨-11, 1, xo.1, ce, ?_, ?_, keep⟩
    · unfold f_X9_copy f_X4_isNothing
      rw [(sp_sh1 hk).1, (sp_sh1 ho).1]
      simp only [Option.bind_some, sp_bndE, sp_ck_at hk (by omega : 4 < 1000000), sp_ck_at ho (by omega : 4 < 1000000), if_neg n1, if_pos b2]
      rfl
    · unfold f_X10_copy
      rw [(sp_sh1 hk).2, (sp_sh1 ho).2]
      simp only [Option.bind_some, sp_bndE, sp_ld_at hk (by omega : 4 < 1000000), sp_ld_at ho (by omega : 4 < 1000000), if_neg m1, if_pos b1]
      rfl
  have n2 : ¬ xo.2.1 = -1 := by rcases b2 with e | e | e <;> rw [e] <;> decide
  have m2 : ¬ la o = -9 := by rw [b1]; rcases b2 with e | e | e <;> rw [e] <;> decide
  by_cases hl : xk.2.1 = xo.2.1
  · have ml : la k = la o := by rw [a1, b1, hl]
    by_cases hg : sp_there p2 p5 nK ∧ sp_there p4 p5 nO
    · obtain ⟨i, n, e1, e2, e3⟩ := sp_there_ex hK hg.1
      obtain ⟨j, n', e4, e5, e6⟩ := sp_there_ex hO hg.2
      have hnn : n' = n := (sp_i_inj (by omega) (by omega)).mp (e5.symm.trans e2)
      subst hnn
      refine ⟨p5, 0, va_cpy xk.1 xo.1 i j n', sp_cy ce (60 * k + i) (60 * o + j) 0 n', ?_, ?_, fun q hq => ?_, fun s hs q hq => ?_⟩
      · unfold f_X9_copy f_X4_isNothing
        rw [(sp_sh1 hk).1, (sp_sh1 ho).1, k1, o1, sp_hasCells, sp_hasCells, if_pos hg.1, if_pos hg.2]
        simp only [Option.bind_some, sp_bndE, sp_ck_at hk (by omega : 4 < 1000000), sp_ck_at ho (by omega : 4 < 1000000), if_neg n1, if_neg n2, if_pos hl]
        rw [e1, e4, e2, sp_cp_at (show i + n' ≤ 60 by omega) (show j + n' ≤ 60 by omega)]
        rfl
      · rw [e1, e4, e2]
        exact sp_copyGood hk ho hK hO m1 m2 ml k2 o2 e3 e6
      · simp only [sp_cy, va_cpy]
        by_cases hq2 : j ≤ q ∧ q < j + n'
        · rw [if_pos (by omega), if_pos hq2, show 60 * k + i + (60 * o + q - (60 * o + j)) = 60 * k + (i + (q - j)) by omega]
          exact ck _ (by omega)
        · rw [if_neg (by omega), if_neg hq2]; exact co q hq
      · simp only [sp_cy]
        rw [if_neg (by omega)]
    · refine ⟨-13, 3, xo.1, ce, ?_, sp_copyBad hk ho m1 m2 ml k2 o2 hg, keep⟩
      unfold f_X9_copy f_X4_isNothing
      rw [(sp_sh1 hk).1, (sp_sh1 ho).1, k1, o1, sp_hasCells, sp_hasCells]
      simp only [Option.bind_some, sp_bndE, sp_ck_at hk (by omega : 4 < 1000000), sp_ck_at ho (by omega : 4 < 1000000), if_neg n1, if_neg n2, if_pos hl]
      by_cases h1 : sp_there p2 p5 nK
      · have h2 : ¬ sp_there p4 p5 nO := fun z => hg ⟨h1, z⟩
        rw [if_pos h1, if_neg h2]; rfl
      · rw [if_neg h1]; rfl
  · have ml : ¬ la k = la o := by rw [a1, b1]; exact hl
    refine ⟨-12, 2, xo.1, ce, ?_, ?_, keep⟩
    · unfold f_X9_copy f_X4_isNothing
      rw [(sp_sh1 hk).1, (sp_sh1 ho).1]
      simp only [Option.bind_some, sp_bndE, sp_ck_at hk (by omega : 4 < 1000000), sp_ck_at ho (by omega : 4 < 1000000), if_neg n1, if_neg n2, if_neg hl]
      rfl
    · unfold f_X10_copy
      rw [(sp_sh1 hk).2, (sp_sh1 ho).2]
      simp only [Option.bind_some, sp_bndE, sp_ld_at hk (by omega : 4 < 1000000), sp_ld_at ho (by omega : 4 < 1000000), if_neg m1, if_neg m2, if_neg ml]
      rfl
theorem op_copy {x : sp_XS} {y : sp_MS} (h : sp_Rel x y) (p1 p2 p3 p4 p5 : Int32) : ∃ (r : Int32) (x' : sp_XS) (y' : sp_MS), sx_copy p1 p2 p3 p4 p5 x = some (r, x') ∧ sm_copy p1 p2 p3 p4 p5 y = some (r, y') ∧ sp_Rel x' y' := by
  obtain ⟨N, hN, h1, h2, h3, h4, hS, hP, hO⟩ := id h
  have hid : ∀ (k : Nat), k < 4 → ∀ j, j < 4 → sp_RelS (sp_up x.2.1 k ((x.2.1 k).1, (x.2.1 k).2.1, (x.2.1 k).2.2) j) y.2.2.1 y.2.2.2.1 y.2.2.2.2.1 j := fun k hk => sp_relS_up hS (fun _ _ => rfl) (fun _ _ => rfl) (fun _ _ _ _ => rfl) (hS k hk)
  by_cases hv : vp_in p1 4 ∧ vp_in p3 4
  · obtain ⟨k, hk, rfl⟩ := sp_vin hv.1
    obtain ⟨o, ho, rfl⟩ := sp_vin hv.2
    have hnew : ∀ (cx cm : Nat → Int32), (∀ i, i < 60 → cm (60 * o + i) = cx i) → (∀ s, s ≠ o → ∀ i, i < 60 → cm (60 * s + i) = y.2.2.2.2.1 (60 * s + i)) → ∀ j, j < 4 → sp_RelS (sp_up x.2.1 o (cx, (x.2.1 o).2.1, (x.2.1 o).2.2) j) y.2.2.1 y.2.2.2.1 cm j := by
      intro cx cm c1 c2
      obtain ⟨q1, q2, -⟩ := hS o ho
      exact sp_relS_up hS (fun _ _ => rfl) (fun _ _ => rfl) c2 ⟨q1, q2, c1⟩
    by_cases hko : Int32.ofNat k = Int32.ofNat o
    · have hko' : k = o := (sp_i_inj (by omega) (by omega)).mp hko
      subst hko'
      obtain ⟨r, f, cx, cm, e1, e2, c1, c2⟩ := sp_copyXM x.2.2.2.2.2.2.2.2.2.2.2.1 p2 p4 p5 hk hk (hS k hk) (hS k hk)
      apply sp_fin (r := r)
      · unfold sx_copy sx_copy_al
        rw [if_pos rfl, sp_ix_of hk (by omega), sp_copy_al, e1]
        rfl
      · unfold sm_copy
        rw [e2]
        rfl
      · exact sp_rel_fa h f rfl rfl rfl rfl (hnew cx cm c1 c2)
    · obtain ⟨r, f, cx, cm, e1, e2, c1, c2⟩ := sp_copyXM x.2.2.2.2.2.2.2.2.2.2.2.1 p2 p4 p5 hk ho (hS k hk) (hS o ho)
      apply sp_fin (r := r)
      · unfold sx_copy sx_copy0
        rw [if_neg hko, sp_ix2_eq hv.1, sp_ix12_eq hv.2, sp_i_nat (by omega), sp_i_nat (by omega), e1]
        rfl
      · unfold sm_copy
        rw [e2]
        rfl
      · exact sp_rel_fa h f rfl rfl rfl rfl (hnew cx cm c1 c2)
  · have hM : f_X10_copy p1 p2 p3 p4 p5 y.2.2.1 y.2.2.2.1 y.2.2.2.2.1 = some (-1, 0, y.2.2.2.2.1) := by
      unfold f_X10_copy
      by_cases hp : vp_in p1 4
      · obtain ⟨k, hk, rfl⟩ := sp_vin hp
        rw [(sp_sh1 hk).2, (sp_sh0' (fun z => hv ⟨hp, z⟩)).2]; rfl
      · rw [(sp_sh0' hp).2]; rfl
    have hX : ∀ fa ceK laK lnK ceO laO lnO, f_X9_copy p1 p2 p3 p4 p5 fa ceK laK lnK ceO laO lnO = some (-1, 0, ceO) := by
      intro fa ceK laK lnK ceO laO lnO
      unfold f_X9_copy
      by_cases hp : vp_in p1 4
      · obtain ⟨k, hk, rfl⟩ := sp_vin hp
        rw [(sp_sh1 hk).1, (sp_sh0' (fun z => hv ⟨hp, z⟩)).1]; rfl
      · rw [(sp_sh0' hp).1]; rfl
    by_cases hpp : p1 = p3
    · apply sp_fin (r := -1)
      · unfold sx_copy sx_copy_al
        rw [if_pos hpp, sp_copy_al, hX]
        rfl
      · unfold sm_copy
        rw [hM]
        rfl
      · exact sp_rel_fa h 0 rfl rfl rfl rfl (hid _ (sp_ix_lt (by omega)))
    · apply sp_fin (r := -1)
      · unfold sx_copy sx_copy0
        rw [if_neg hpp, hX]
        rfl
      · unfold sm_copy
        rw [hM]
        rfl
      · exact sp_rel_fa h 0 rfl rfl rfl rfl (hid _ (sp_ix12_lt (by omega)))
