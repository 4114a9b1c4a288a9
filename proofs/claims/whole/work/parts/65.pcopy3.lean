/-! copy, whole -/
/-- no step by definition: the kernel would unfold the fuel -/
theorem sp_bndE {α β : Type} (e : α) (k : α → Option β) : sp_bnd e k = k e := Eq.trans rfl rfl
theorem sp_copyGood {i j n k o nK nO : Nat} {la sl ce : Nat → Int32} (hk : k < 4) (ho : o < 4) (hK : nK ≤ 60) (hO : nO ≤ 60) (l1 : ¬ la k = -9) (l2 : ¬ la o = -9) (l3 : la k = la o) (s1 : sl k = Int32.ofNat nK) (s2 : sl o = Int32.ofNat nO) (h1 : i + n ≤ nK) (h2 : j + n ≤ nO) : f_X10_copy (Int32.ofNat k) (Int32.ofNat i) (Int32.ofNat o) (Int32.ofNat j) (Int32.ofNat n) la sl ce = some (Int32.ofNat n, 0, sp_cy ce (60 * k + i) (60 * o + j) 0 n) := by
  have a1 : ¬ Int32.ofNat i < 0 := sp_i_nn (by omega)
  have a2 : ¬ Int32.ofNat j < 0 := sp_i_nn (by omega)
  have a3 : ¬ Int32.ofNat n < 0 := sp_i_nn (by omega)
  have a4 : ¬ Int32.ofNat nK < Int32.ofNat i := fun z => by have := (sp_i_lt (by omega) (by omega)).mp z; omega
  have a5 : ¬ Int32.ofNat nO < Int32.ofNat j := fun z => by have := (sp_i_lt (by omega) (by omega)).mp z; omega
  have a6 : ¬ Int32.ofNat nK - Int32.ofNat i < Int32.ofNat n := fun z => by rw [sp_i_sub (by omega)] at z; have := (sp_i_lt (by omega) (by omega)).mp z; omega
  have a7 : Int32.ofNat n ≤ Int32.ofNat nO - Int32.ofNat j := by rw [sp_i_sub (by omega)]; exact (sp_i_le (by omega) (by omega)).mpr (by omega)
  unfold f_X10_copy
  rw [(sp_sh1 hk).2, (sp_sh1 ho).2]
  simp only [Option.bind_some, sp_bndE, sp_ld_at hk (by omega : 4 < 1000000), sp_ld_at ho (by omega : 4 < 1000000), if_neg l1, if_neg l2, if_pos l3, s1, s2, if_neg a1, if_neg a2, if_neg a3, if_neg a4, if_neg a5, if_neg a6, if_pos a7]
  by_cases hji : j ≤ i
  · have b : Int32.ofNat j ≤ Int32.ofNat i := (sp_i_le (by omega) (by omega)).mpr hji
    have e := fun K => sp_copyUp (ce := ce) hk ho (show i + n ≤ 60 by omega) (show j + n ≤ 60 by omega) hji K
    simp only [if_pos b, sp_bndE, e]
    rfl
  · have b : ¬ Int32.ofNat j ≤ Int32.ofNat i := fun z => hji ((sp_i_le (by omega) (by omega)).mp z)
    have e := fun K => sp_copyDn (ce := ce) hk ho (show i + n ≤ 60 by omega) (show j + n ≤ 60 by omega) (by omega) K
    simp only [if_neg b, sp_bndE, e]
    rfl
theorem sp_copy_al (p1 p2 p3 p4 p5 fa : Int32) (ce : Nat → Int32) (la ln : Int32) : f_X9_copy_al p1 p2 p3 p4 p5 fa ce la ln = f_X9_copy p1 p2 p3 p4 p5 fa ce la ln ce la ln := rfl
