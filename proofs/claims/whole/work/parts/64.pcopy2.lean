/-! copy -/
theorem sp_cp_at {β : Type} {f g : Nat → Int32} {i j n : Nat} {k : (Nat → Int32) → Option β} (hi : i + n ≤ 60) (hj : j + n ≤ 60) : sp_cp f 60 g 60 (Int32.ofNat i) (Int32.ofNat j) (Int32.ofNat n) k = k (va_cpy f g i j n) := by
  unfold sp_cp
  rw [sp_i_nat (by omega), sp_i_nat (by omega), sp_i_nat (by omega), if_neg]
  rintro (q | q | q | q | q)
  · exact sp_i_nn (by omega) q
  · exact sp_i_nn (by omega) q
  · exact sp_i_nn (by omega) q
  · omega
  · omega
theorem sp_subN {N : Nat} {p : Int32} (hN : N ≤ 60) (h0 : ¬ p < 0) (h1 : ¬ Int32.ofNat N < p) : ∃ i : Nat, i ≤ N ∧ p = Int32.ofNat i ∧ Int32.ofNat N - p = Int32.ofNat (N - i) := by
  obtain ⟨i, hi, e⟩ := sp_i_le_ex (n := N) (by omega) h0 (Int32.not_lt.mp h1)
  exact ⟨i, hi, e, by rw [e, sp_i_sub hi]⟩
/-- all cells are there -/
abbrev sp_there (p q : Int32) (N : Nat) : Prop := ¬ p < 0 ∧ ¬ Int32.ofNat N < p ∧ ¬ q < 0 ∧ ¬ Int32.ofNat N - p < q
theorem sp_hasCells (p q : Int32) (N : Nat) : f_X4_hasCells p q (Int32.ofNat N) = some (if sp_there p q N then 1 else 0) := by
  unfold f_X4_hasCells
  by_cases h1 : p < 0
  · rw [if_pos h1, if_neg (fun z => z.1 h1)]
  by_cases h2 : Int32.ofNat N < p
  · rw [if_neg h1, if_pos h2, if_neg (fun z => z.2.1 h2)]
  by_cases h3 : q < 0
  · rw [if_neg h1, if_neg h2, if_pos h3, if_neg (fun z => z.2.2.1 h3)]
  by_cases h4 : Int32.ofNat N - p < q
  · rw [if_neg h1, if_neg h2, if_neg h3, if_pos h4, if_neg (fun z => z.2.2.2 h4)]
  · rw [if_neg h1, if_neg h2, if_neg h3, if_neg h4, if_pos ⟨h1, h2, h3, h4⟩]
theorem sp_there_ex {p q : Int32} {N : Nat} (hN : N ≤ 60) (h : sp_there p q N) : ∃ i n : Nat, p = Int32.ofNat i ∧ q = Int32.ofNat n ∧ i + n ≤ N := by
  obtain ⟨i, hi, e1, e2⟩ := sp_subN hN h.1 h.2.1
  have h4 := h.2.2.2
  rw [e2] at h4
  obtain ⟨n, hn, e3⟩ := sp_i_le_ex (n := N - i) (by omega) h.2.2.1 (Int32.not_lt.mp h4)
  exact ⟨i, n, e1, e3, by omega⟩
theorem sp_copyBad {p2 p4 p5 : Int32} {k o nK nO : Nat} {la sl ce : Nat → Int32} (hk : k < 4) (ho : o < 4) (l1 : ¬ la k = -9) (l2 : ¬ la o = -9) (l3 : la k = la o) (s1 : sl k = Int32.ofNat nK) (s2 : sl o = Int32.ofNat nO) (hbad : ¬ (sp_there p2 p5 nK ∧ sp_there p4 p5 nO)) : f_X10_copy (Int32.ofNat k) p2 (Int32.ofNat o) p4 p5 la sl ce = some (-13, 3, ce) := by
  unfold f_X10_copy
  rw [(sp_sh1 hk).2, (sp_sh1 ho).2]
  simp only [Option.bind_some, sp_bnd, sp_ld_at hk (by omega : 4 < 1000000), sp_ld_at ho (by omega : 4 < 1000000), if_neg l1, if_neg l2, if_pos l3, s1, s2]
  by_cases h1 : p2 < 0
  · simp only [if_pos h1]; rfl
  by_cases h2 : p4 < 0
  · simp only [if_neg h1, if_pos h2]; rfl
  by_cases h3 : p5 < 0
  · simp only [if_neg h1, if_neg h2, if_pos h3]; rfl
  by_cases h4 : Int32.ofNat nK < p2
  · simp only [if_neg h1, if_neg h2, if_neg h3, if_pos h4]; rfl
  by_cases h5 : Int32.ofNat nO < p4
  · simp only [if_neg h1, if_neg h2, if_neg h3, if_neg h4, if_pos h5]; rfl
  by_cases h6 : Int32.ofNat nK - p2 < p5
  · simp only [if_neg h1, if_neg h2, if_neg h3, if_neg h4, if_neg h5, if_pos h6]; rfl
  by_cases h7 : Int32.ofNat nO - p4 < p5
  · simp only [if_neg h1, if_neg h2, if_neg h3, if_neg h4, if_neg h5, if_neg h6, if_neg (Int32.not_le.mpr h7)]; rfl
  · exact absurd ⟨⟨h1, h4, h3, h6⟩, ⟨h2, h5, h3, h7⟩⟩ hbad
