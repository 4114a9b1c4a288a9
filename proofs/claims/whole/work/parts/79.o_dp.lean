/-! fewest: what is kept, the least behind a set -/
abbrev sz_may (nd : Nat → Nat) (s k : Nat) : Prop := ¬ s.testBit k = true ∧ sp_nd (nd k) s = 0
abbrev sz_kc (uu : Nat → Nat) (s k : Nat) : Prop := s.testBit k = true ∧ ¬ sp_nd (uu k) s = 0
def sz_kp (uu : Nat → Nat) (s : Nat) : Nat → Nat
  | 0 => 0
  | k + 1 => sz_kp uu s k + (if sz_kc uu s k then 1 else 0)
theorem sz_kp_le (uu : Nat → Nat) (s : Nat) : ∀ k, sz_kp uu s k ≤ k
  | 0 => Nat.le_refl _
  | k + 1 => by have := sz_kp_le uu s k; rw [sz_kp]; split <;> omega
def sz_ls (nd : Nat → Nat) (A : Nat → Nat) (s b : Nat) : Nat → Nat
  | 0 => b
  | k + 1 => if sz_may nd s k then min (sz_ls nd A s b k) (A (s ||| 2 ^ k)) else sz_ls nd A s b k
theorem sz_ls_y {nd A : Nat → Nat} {s b k : Nat} (h : sz_may nd s k) : sz_ls nd A s b (k + 1) = min (sz_ls nd A s b k) (A (s ||| 2 ^ k)) := by rw [sz_ls, if_pos h]
theorem sz_ls_n {nd A : Nat → Nat} {s b k : Nat} (h : ¬ sz_may nd s k) : sz_ls nd A s b (k + 1) = sz_ls nd A s b k := by rw [sz_ls, if_neg h]
theorem sz_ls_b (nd A : Nat → Nat) (s b : Nat) : ∀ k, sz_ls nd A s b k ≤ b
  | 0 => Nat.le_refl _
  | k + 1 => by
    have := sz_ls_b nd A s b k
    by_cases q : sz_may nd s k
    · rw [sz_ls_y q]; omega
    · rw [sz_ls_n q]; exact this
theorem sz_ls_min (nd A : Nat → Nat) (s : Nat) : ∀ k, sz_ls nd A s 99 k = min 99 (sz_ls nd A s 1000 k)
  | 0 => rfl
  | k + 1 => by
    have := sz_ls_min nd A s k
    by_cases q : sz_may nd s k
    · rw [sz_ls_y q, sz_ls_y q]; omega
    · rw [sz_ls_n q, sz_ls_n q]; exact this
theorem sz_ls_le {nd A : Nat → Nat} {s b j : Nat} (hj : sz_may nd s j) : ∀ k, j < k → sz_ls nd A s b k ≤ A (s ||| 2 ^ j)
  | 0, h => by omega
  | k + 1, h => by
    by_cases e : j = k
    · subst e; rw [sz_ls_y hj]; omega
    · have := sz_ls_le (A := A) (b := b) hj k (by omega)
      by_cases q : sz_may nd s k
      · rw [sz_ls_y q]; omega
      · rw [sz_ls_n q]; exact this
theorem sz_ls_none {nd A : Nat → Nat} {s b : Nat} : ∀ k, (∀ j, j < k → ¬ sz_may nd s j) → sz_ls nd A s b k = b
  | 0, _ => rfl
  | k + 1, h => by rw [sz_ls_n (h k (by omega))]; exact sz_ls_none k (fun j hj => h j (by omega))
/-- one of the lines that may come does it -/
theorem sz_ls_at {nd A : Nat → Nat} {s : Nat} (hA : ∀ t, A t ≤ 99) : ∀ k, (∃ j, j < k ∧ sz_may nd s j) → ∃ j, j < k ∧ sz_may nd s j ∧ A (s ||| 2 ^ j) ≤ sz_ls nd A s 99 k
  | 0, h => by obtain ⟨j, hj, -⟩ := h; omega
  | k + 1, h => by
    by_cases q : sz_may nd s k
    · by_cases w : A (s ||| 2 ^ k) ≤ sz_ls nd A s 99 k
      · exact ⟨k, by omega, q, by rw [sz_ls_y q]; omega⟩
      · have hex : ∃ j, j < k ∧ sz_may nd s j := by
          apply Classical.byContradiction
          intro hno
          have := sz_ls_none (A := A) (b := 99) k (fun j hj z => hno ⟨j, hj, z⟩)
          have := hA (s ||| 2 ^ k)
          omega
        obtain ⟨j, j1, j2, j3⟩ := sz_ls_at hA k hex
        exact ⟨j, by omega, j2, by rw [sz_ls_y q]; omega⟩
    · have hex : ∃ j, j < k ∧ sz_may nd s j := by
        obtain ⟨j, j1, j2⟩ := h
        by_cases e : j = k
        · subst e; exact absurd j2 q
        · exact ⟨j, by omega, j2⟩
      obtain ⟨j, j1, j2, j3⟩ := sz_ls_at hA k hex
      exact ⟨j, by omega, j2, by rw [sz_ls_n q]; exact j3⟩
theorem sz_ls_congr {nd A A' : Nat → Nat} {s b : Nat} : ∀ k, (∀ j, j < k → sz_may nd s j → A (s ||| 2 ^ j) = A' (s ||| 2 ^ j)) → sz_ls nd A s b k = sz_ls nd A' s b k
  | 0, _ => rfl
  | k + 1, h => by
    have ih := sz_ls_congr (A := A) (A' := A') (b := b) k (fun j hj => h j (by omega))
    by_cases q : sz_may nd s k
    · rw [sz_ls_y q, sz_ls_y q, ih, h k (by omega) q]
    · rw [sz_ls_n q, sz_ls_n q, ih]
theorem sz_or_gt {s k M : Nat} (hs : s < 2 ^ M) (hk : k < M) (hb : ¬ s.testBit k = true) : s < s ||| 2 ^ k ∧ s ||| 2 ^ k < 2 ^ M := by
  refine ⟨?_, Nat.or_lt_two_pow hs (Nat.pow_lt_pow_right (by omega) hk)⟩
  have h1 : s ≤ s ||| 2 ^ k := Nat.left_le_or
  rcases Nat.lt_or_ge s (s ||| 2 ^ k) with h | h
  · exact h
  · exfalso
    have e : s ||| 2 ^ k = s := by omega
    have := congrArg (fun v => v.testBit k) e
    simp only [Nat.testBit_or, Nat.testBit_two_pow_self, Bool.or_true] at this
    exact hb this.symm
/-- at every set but the full one some line may come -/
theorem sz_may_ex {nd : Nat → Nat} {s M : Nat} (hs : s < 2 ^ M - 1) (hnd : ∀ j, j < M → nd j < 2 ^ j) : ∃ k, k < M ∧ sz_may nd s k := by
  have key : ∀ m, (∀ j, j < m → s.testBit j = true) ∨ ∃ k, k < m ∧ ¬ s.testBit k = true ∧ ∀ j, j < k → s.testBit j = true := by
    intro m
    induction m with
    | zero => exact Or.inl (fun j hj => by omega)
    | succ m ih =>
      rcases ih with ih | ⟨k, k1, k2, k3⟩
      · by_cases q : s.testBit m = true
        · left
          intro j hj
          by_cases e : j = m
          · rw [e]; exact q
          · exact ih j (by omega)
        · exact Or.inr ⟨m, by omega, q, ih⟩
      · exact Or.inr ⟨k, by omega, k2, k3⟩
  rcases key M with hall | ⟨k, k1, k2, k3⟩
  · exfalso
    have e : s = 2 ^ M - 1 := by
      apply Nat.eq_of_testBit_eq
      intro j
      rw [Nat.testBit_two_pow_sub_one]
      by_cases hj : j < M
      · rw [hall j hj, decide_eq_true hj]
      · rw [decide_eq_false hj]
        exact Nat.testBit_lt_two_pow (Nat.lt_of_lt_of_le (show s < 2 ^ M by omega) (Nat.pow_le_pow_right (by omega) (by omega)))
    omega
  · refine ⟨k, k1, k2, ?_⟩
    apply Nat.eq_of_testBit_eq
    intro j
    rw [sp_nd_bit, Nat.zero_testBit]
    by_cases hj : j < k
    · rw [k3 j hj]; simp
    · rw [Nat.testBit_lt_two_pow (Nat.lt_of_lt_of_le (hnd k k1) (Nat.pow_le_pow_right (by omega) (by omega)))]; rfl
/-- the least behind a set, once d sets from the full one down are done -/
def sz_A (nd uu : Nat → Nat) (M : Nat) : Nat → Nat → Nat
  | 0 => fun _ => 0
  | d + 1 => fun s => if s = 2 ^ M - 1 - (d + 1) then max (1 + sz_kp uu s M) (sz_ls nd (sz_A nd uu M d) s 99 M) else sz_A nd uu M d s
theorem sz_A_at (nd uu : Nat → Nat) (M d : Nat) : sz_A nd uu M (d + 1) (2 ^ M - 1 - (d + 1)) = max (1 + sz_kp uu (2 ^ M - 1 - (d + 1)) M) (sz_ls nd (sz_A nd uu M d) (2 ^ M - 1 - (d + 1)) 99 M) := by
  rw [sz_A]; exact if_pos rfl
theorem sz_A_ne {nd uu : Nat → Nat} {M d s : Nat} (h : s ≠ 2 ^ M - 1 - (d + 1)) : sz_A nd uu M (d + 1) s = sz_A nd uu M d s := by
  rw [sz_A]; exact if_neg h
theorem sz_A_le {nd uu : Nat → Nat} {M : Nat} (hM : M ≤ 12) : ∀ d s, sz_A nd uu M d s ≤ 99
  | 0, s => Nat.zero_le _
  | d + 1, s => by
    by_cases e : s = 2 ^ M - 1 - (d + 1)
    · rw [e, sz_A_at]
      have h1 := sz_kp_le uu (2 ^ M - 1 - (d + 1)) M
      have h2 := sz_ls_b nd (sz_A nd uu M d) (2 ^ M - 1 - (d + 1)) 99 M
      omega
    · rw [sz_A_ne e]; exact sz_A_le hM d s
theorem sz_A_stay {nd uu : Nat → Nat} {M : Nat} {s d : Nat} (h : 2 ^ M - 1 - d ≤ s) : ∀ e, d + e ≤ 2 ^ M - 1 → sz_A nd uu M (d + e) s = sz_A nd uu M d s
  | 0, _ => rfl
  | e + 1, he => by
    rw [← Nat.add_assoc, sz_A_ne (by omega)]
    exact sz_A_stay h e (by omega)
/-- the table -/
def sz_AA (nd uu : Nat → Nat) (M s : Nat) : Nat := sz_A nd uu M (2 ^ M - 1) s
theorem sz_AA_fix {nd uu : Nat → Nat} {M s : Nat} (hs : s < 2 ^ M - 1) : sz_AA nd uu M s = max (1 + sz_kp uu s M) (sz_ls nd (sz_AA nd uu M) s 99 M) := by
  have e : s = 2 ^ M - 1 - ((2 ^ M - 1 - s - 1) + 1) := by omega
  have h1 := sz_A_stay (nd := nd) (uu := uu) (M := M) (s := s) (d := 2 ^ M - 1 - s - 1 + 1) (by omega) s (by omega)
  rw [show 2 ^ M - 1 - s - 1 + 1 + s = 2 ^ M - 1 by omega] at h1
  have h2 := sz_A_at nd uu M (2 ^ M - 1 - s - 1)
  rw [← e] at h2
  show sz_A nd uu M (2 ^ M - 1) s = _
  rw [h1, h2]
  congr 1
  refine sz_ls_congr M (fun j hj hm => ?_)
  obtain ⟨g1, g2⟩ := sz_or_gt (show s < 2 ^ M by omega) hj hm.1
  have h3 := sz_A_stay (nd := nd) (uu := uu) (M := M) (s := s ||| 2 ^ j) (d := 2 ^ M - 1 - s - 1) (by omega) (s + 1) (by omega)
  rw [show 2 ^ M - 1 - s - 1 + (s + 1) = 2 ^ M - 1 by omega] at h3
  exact h3.symm
theorem sz_M12 {M : Nat} (hM : M ≤ 12) : 2 ^ M ≤ 4096 := Nat.pow_le_pow_right (n := 2) (by omega) hM
theorem sz_mayX {ne : Nat → Int32} {nd : Nat → Nat} {M s k : Nat} (hM : M ≤ 12) (hs : s < 2 ^ M) (hk : k < M) (hne : ne k = Int32.ofNat (nd k)) (hnd : nd k < 4096) : f_X1_mayCome (Int32.ofNat k) (Int32.ofNat s) ne = some (if sz_may nd s k then 1 else 0) ∧ f_X10_mayCome (Int32.ofNat s) (Int32.ofNat k) ne = some (if sz_may nd s k then 1 else 0) := by
  have h12 := sz_M12 hM
  have hlt : sp_nd (nd k) s < 4096 := sp_nd_lt' (N := 12) hnd
  have hz : (Int32.ofNat (nd k) &&& (Int32.ofNat s ^^^ (-1 : Int32)) = 0) ↔ sp_nd (nd k) s = 0 := by
    rw [sb_nd32]
    exact sp_i_inj (j := 0) (by show sp_nd (nd k) s < _; omega) (by omega)
  have key : (if ((Int32.ofNat s >>> (Int32.ofNat k &&& 31)) &&& (1 : Int32)) = 0 then (sp_ld ne 12 (Int32.ofNat k) (fun v1 => if (v1 &&& (Int32.ofNat s ^^^ (-1 : Int32))) = 0 then (some (1 : Int32)) else (some (0 : Int32)))) else (some (0 : Int32))) = some (if sz_may nd s k then 1 else 0) := by
    rw [sb_bit32 (show s < 2 ^ 31 by omega) (by omega), sp_ld_at (show k < 12 by omega) (by omega), hne]
    by_cases q : s.testBit k = true
    · rw [if_pos q, if_neg (by decide), if_neg (fun z => z.1 q)]
    · rw [if_neg q, if_pos rfl]
      by_cases w : sp_nd (nd k) s = 0
      · rw [if_pos (hz.mpr w), if_pos ⟨q, w⟩]
      · rw [if_neg (fun z => w (hz.mp z)), if_neg (fun z => w z.2)]
  exact ⟨key, key⟩
theorem sz_keptX1 {us : Nat → Int32} {uu : Nat → Nat} {M s : Nat} (hM : M ≤ 12) (hs : s < 2 ^ M) (hus : ∀ k, k < M → us k = Int32.ofNat (uu k) ∧ uu k < 4096) : f_X1_keptOf (Int32.ofNat s) (Int32.ofNat M) us = some (Int32.ofNat (sz_kp uu s M)) ∧ f_X10_keptBehind (Int32.ofNat s) (Int32.ofNat M) us = some (Int32.ofNat (1 + sz_kp uu s M)) := by
  have h12 := sz_M12 hM
  have hz : ∀ k, k < M → ((Int32.ofNat (uu k) &&& (Int32.ofNat s ^^^ (-1 : Int32)) = 0) ↔ sp_nd (uu k) s = 0) := by
    intro k hk
    have hlt : sp_nd (uu k) s < 4096 := sp_nd_lt' (N := 12) (hus k hk).2
    rw [sb_nd32]
    exact sp_i_inj (j := 0) (by show sp_nd (uu k) s < _; omega) (by omega)
  constructor
  · unfold f_X1_keptOf
    rw [sp_bndE]
    refine sp_lp_fn M (fun k => (Int32.ofNat (sz_kp uu s k), Int32.ofNat k)) (fun k hk rec => ?_) (fun rec => ?_) (sp_F_lt (by omega)) rfl
    · rw [f_X1_keptOf_L4_eq, if_neg (fun q => by have := (sp_i_le (by omega) (by omega)).mp q; omega), sb_bit32 (show s < 2 ^ 31 by omega) (by omega)]
      simp only [sp_bndE, sp_i_succ, sp_ld_at (show k < 12 by omega) (by omega : 12 < 1000000), (hus k hk).1]
      rw [sz_kp]
      by_cases q : s.testBit k = true
      · rw [if_pos q, if_neg (by decide)]
        by_cases w : sp_nd (uu k) s = 0
        · rw [if_pos ((hz k hk).mpr w), if_neg (fun z => z.2 w)]; rfl
        · rw [if_neg (fun z => w ((hz k hk).mp z)), if_pos ⟨q, w⟩]
      · rw [if_neg q, if_pos rfl, if_neg (fun z => q z.1)]; rfl
    · rw [f_X1_keptOf_L4_eq, if_pos ((sp_i_le (by omega) (by omega)).mpr (Nat.le_refl _))]
  · unfold f_X10_keptBehind
    rw [sp_bndE]
    refine sp_lp_fn M (fun k => (Int32.ofNat (1 + sz_kp uu s k), Int32.ofNat k)) (fun k hk rec => ?_) (fun rec => ?_) (sp_F_lt (by omega)) rfl
    · rw [f_X10_keptBehind_L4_eq, if_neg (fun q => by have := (sp_i_le (by omega) (by omega)).mp q; omega), sb_bit32 (show s < 2 ^ 31 by omega) (by omega)]
      simp only [sp_bndE, sp_i_succ, sp_ld_at (show k < 12 by omega) (by omega : 12 < 1000000), (hus k hk).1]
      rw [sz_kp]
      by_cases q : s.testBit k = true
      · rw [if_pos q, if_pos rfl]
        by_cases w : sp_nd (uu k) s = 0
        · rw [if_pos ((hz k hk).mpr w), if_neg (fun z => z.2 w), Int32.add_zero]; rfl
        · rw [if_neg (fun z => w ((hz k hk).mp z)), if_pos ⟨q, w⟩, Nat.add_assoc]
      · rw [if_neg q, if_neg (by decide), if_neg (fun z => q z.1), Int32.add_zero]; rfl
    · rw [f_X10_keptBehind_L4_eq, if_pos ((sp_i_le (by omega) (by omega)).mpr (Nat.le_refl _))]
theorem sz_leastX {ne ah : Nat → Int32} {nd A : Nat → Nat} {M s : Nat} (hM : M ≤ 12) (hs : s < 2 ^ M) (hne : ∀ k, k < M → ne k = Int32.ofNat (nd k) ∧ nd k < 4096) (hA : ∀ t, A t ≤ 99) (hah : ∀ t, s < t → t < 2 ^ M → ah t = Int32.ofNat (A t)) : f_X1_leastBehind (Int32.ofNat s) (Int32.ofNat M) ne ah = some (Int32.ofNat (sz_ls nd A s 99 M)) := by
  have h12 := sz_M12 hM
  unfold f_X1_leastBehind
  rw [sp_bndE]
  refine sp_lp_fn M (fun k => (Int32.ofNat (sz_ls nd A s 99 k), Int32.ofNat k)) (fun k hk rec => ?_) (fun rec => ?_) (sp_F_lt (by omega)) rfl
  · have hb := sz_ls_b nd A s 99 k
    rw [f_X1_leastBehind_L5_eq, if_neg (fun q => by have := (sp_i_le (by omega) (by omega)).mp q; omega), (sz_mayX hM hs hk (hne k hk).1 (hne k hk).2).1, Option.bind_some]
    by_cases q : sz_may nd s k
    · obtain ⟨g1, g2⟩ := sz_or_gt hs hk q.1
      have hAk := hA (s ||| 2 ^ k)
      rw [if_pos q, sz_ls_y q]
      simp only [sp_bndE, sp_one_ne, if_false, sb_one32 (show k < 31 by omega), sb_or32, sp_ld_at (show s ||| 2 ^ k < 4096 by omega) (by omega : 4096 < 1000000), hah _ g1 g2, sp_i_succ]
      by_cases w : A (s ||| 2 ^ k) < sz_ls nd A s 99 k
      · rw [if_pos ((sp_i_lt (by omega) (by omega)).mpr w), Nat.min_eq_right (by omega)]
      · rw [if_neg (fun z => w ((sp_i_lt (by omega) (by omega)).mp z)), Nat.min_eq_left (by omega)]
    · rw [if_neg q, sz_ls_n q]
      simp only [sp_bndE, if_true, sp_i_succ]
  · rw [f_X1_leastBehind_L5_eq, if_pos ((sp_i_le (by omega) (by omega)).mpr (Nat.le_refl _))]
theorem sz_leastM {ne ah : Nat → Int32} {nd A : Nat → Nat} {M s : Nat} (hM : M ≤ 12) (hs : s < 2 ^ M) (hne : ∀ k, k < M → ne k = Int32.ofNat (nd k) ∧ nd k < 4096) (hA : ∀ t, A t ≤ 99) (hah : ∀ t, s < t → t < 2 ^ M → ah t = Int32.ofNat (A t)) (kk : Int32 → Option (Nat → Int32)) : sp_lp (f_X10_layKept_L44 (Int32.ofNat M) kk (Int32.ofNat s) ne ah) sp_F ((1000 : Int32), (0 : Int32)) = kk (Int32.ofNat (sz_ls nd A s 1000 M)) := by
  have h12 := sz_M12 hM
  refine sp_lp_fn M (fun k => (Int32.ofNat (sz_ls nd A s 1000 k), Int32.ofNat k)) (fun k hk rec => ?_) (fun rec => ?_) (sp_F_lt (by omega)) rfl
  · have hb := sz_ls_b nd A s 1000 k
    rw [f_X10_layKept_L44_eq, if_neg (fun q => by have := (sp_i_le (by omega) (by omega)).mp q; omega), (sz_mayX hM hs hk (hne k hk).1 (hne k hk).2).2, Option.bind_some]
    by_cases q : sz_may nd s k
    · obtain ⟨g1, g2⟩ := sz_or_gt hs hk q.1
      have hAk := hA (s ||| 2 ^ k)
      rw [if_pos q, sz_ls_y q]
      simp only [sp_bndE, sp_one_ne, if_false, sb_one32 (show k < 31 by omega), sb_or32, sp_ld_at (show s ||| 2 ^ k < 4096 by omega) (by omega : 4096 < 1000000), hah _ g1 g2, sp_i_succ]
      by_cases w : sz_ls nd A s 1000 k ≤ A (s ||| 2 ^ k)
      · rw [if_pos ((sp_i_le (by omega) (by omega)).mpr w), Nat.min_eq_left (by omega)]
      · rw [if_neg (fun z => w ((sp_i_le (by omega) (by omega)).mp z)), Nat.min_eq_right (by omega)]
    · rw [if_neg q, sz_ls_n q]
      simp only [sp_bndE, if_true, sp_i_succ]
  · rw [f_X10_layKept_L44_eq, if_pos ((sp_i_le (by omega) (by omega)).mpr (Nat.le_refl _))]
