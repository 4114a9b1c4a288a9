/-! fewest: the table, the row -/
theorem sz_stB_at {β : Type} {f : Nat → Int32} {N i : Nat} {x : Int32} {k : (Nat → Int32) → Option β} (hi : i < N) (hN : N < 1000000) : sp_stB f N (Int32.ofNat i) x k = k (upd f i (vp_nar .byte x)) := by
  unfold sp_stB
  rw [if_neg (sp_i_in hi hN), sp_i_nat (by omega)]
theorem sz_nar : ∀ v, v < 128 → vp_nar .byte ((Int32.ofNat v).toInt8.toInt32) = Int32.ofNat v := by decide +kernel
theorem sz_max {a b : Nat} (ha : a < 1000) (hb : b < 1000) : (if Int32.ofNat a < Int32.ofNat b then Int32.ofNat b else Int32.ofNat a) = Int32.ofNat (max a b) := by
  by_cases w : a < b
  · rw [if_pos ((sp_i_lt (by omega) (by omega)).mpr w), Nat.max_eq_right (by omega)]
  · rw [if_neg (fun z => w ((sp_i_lt (by omega) (by omega)).mp z)), Nat.max_eq_left (by omega)]
/-- the class's table -/
theorem sz_tabX {ne us ah0 : Nat → Int32} {nd uu : Nat → Nat} {M : Nat} (h1 : 1 ≤ M) (hM : M ≤ 12) (hne : ∀ k, k < M → ne k = Int32.ofNat (nd k) ∧ nd k < 4096) (hus : ∀ k, k < M → us k = Int32.ofNat (uu k) ∧ uu k < 4096) (h0 : ah0 (2 ^ M - 1) = 0) {kk : (Nat → Int32) → Option ((Nat → Int32) × Int32 × Int32 × (Nat → Int32) × (Nat → Int32) × (Nat → Int32) × (Nat → Int32))} (Q : Option ((Nat → Int32) × Int32 × Int32 × (Nat → Int32) × (Nat → Int32) × (Nat → Int32) × (Nat → Int32)) → Prop) (hk : ∀ ah : Nat → Int32, (∀ s, s < 2 ^ M → ah s = Int32.ofNat (sz_AA nd uu M s)) → Q (kk ah)) : Q (sp_lp (f_X1_arrange_L25 kk (Int32.ofNat M) us ne) sp_F (Int32.ofNat (2 ^ M - 2), ah0)) := by
  have h12 := sz_M12 hM
  have h2 : 2 ≤ 2 ^ M := Nat.pow_le_pow_right (n := 2) (by omega) h1
  refine sz_lp_Q Q (2 ^ M - 1) (fun d s => ∃ ah : Nat → Int32, s = (sp_bk (2 ^ M - 2) d, ah) ∧ ∀ t, 2 ^ M - 1 - d ≤ t → t < 2 ^ M → ah t = Int32.ofNat (sz_A nd uu M d t)) ?_ ?_ sp_F _ (sp_F_lt (by omega)) ⟨ah0, by unfold sp_bk; rw [if_pos (by omega), Nat.sub_zero], fun t h3 h4 => by rw [show t = 2 ^ M - 1 by omega, h0]; rfl⟩
  · rintro d s hd ⟨ah, rfl, ha⟩
    right
    have hb : sp_bk (2 ^ M - 2) d = Int32.ofNat (2 ^ M - 1 - (d + 1)) := by unfold sp_bk; rw [if_pos (by omega)]; congr 1; omega
    have hnx : Int32.ofNat (2 ^ M - 1 - (d + 1)) + (-1 : Int32) = sp_bk (2 ^ M - 2) (d + 1) := by
      rw [← sp_bk_next (show d ≤ 2 ^ M - 2 by omega)]; congr 2; omega
    have hlt : 2 ^ M - 1 - (d + 1) < 2 ^ M := by omega
    have hkp := sz_kp_le uu (2 ^ M - 1 - (d + 1)) M
    have hls := sz_ls_b nd (sz_A nd uu M d) (2 ^ M - 1 - (d + 1)) 99 M
    have e1 := (sz_keptX1 hM hlt hus).1
    have e2 := sz_leastX (ah := ah) (A := sz_A nd uu M d) hM hlt hne (sz_A_le hM d) (fun t t1 t2 => ha t (by omega) t2)
    refine ⟨(sp_bk (2 ^ M - 2) (d + 1), upd ah (2 ^ M - 1 - (d + 1)) (Int32.ofNat (sz_A nd uu M (d + 1) (2 ^ M - 1 - (d + 1))))), ⟨_, rfl, fun t t1 t2 => ?_⟩, fun rec => ?_⟩
    · by_cases e : t = 2 ^ M - 1 - (d + 1)
      · rw [e, sz_upd_at]
      · rw [sz_upd_ne e, sz_A_ne e]; exact ha t (by omega) t2
    · rw [hb, f_X1_arrange_L25_eq, if_neg (sp_i_nn (by omega)), e1, Option.bind_some, e2, Option.bind_some, show (1 : Int32) + Int32.ofNat (sz_kp uu (2 ^ M - 1 - (d + 1)) M) = Int32.ofNat (1 + sz_kp uu (2 ^ M - 1 - (d + 1)) M) from sp_i_add 1 _, sz_max (by omega) (by omega), sz_stB_at (show 2 ^ M - 1 - (d + 1) < 4096 by omega) (by omega), sz_nar _ (by omega), sp_bndE, hnx, sz_A_at]
  · rintro s ⟨ah, rfl, ha⟩
    refine ⟨_, hk ah (fun s hs => ha s (by omega) hs), fun rec => ?_⟩
    have hb : sp_bk (2 ^ M - 2) (2 ^ M - 1) = -1 := by unfold sp_bk; rw [if_neg (by omega)]
    rw [hb, f_X1_arrange_L25_eq, if_pos (by decide)]
/-- the reference's table -/
theorem sz_tabM {ne us lk : Nat → Int32} {nd uu : Nat → Nat} {M : Nat} (hM : M ≤ 12) (hne : ∀ k, k < M → ne k = Int32.ofNat (nd k) ∧ nd k < 4096) (hus : ∀ k, k < M → us k = Int32.ofNat (uu k) ∧ uu k < 4096) (hnd : ∀ j, j < M → nd j < 2 ^ j) : ∃ ah : Nat → Int32, f_X10_layKept (Int32.ofNat M) ne us lk = some ah ∧ ∀ s, s < 2 ^ M → ah s = Int32.ofNat (sz_AA nd uu M s) := by
  have h12 := sz_M12 hM
  have h2 : 1 ≤ 2 ^ M := Nat.one_le_two_pow
  unfold f_X10_layKept
  rw [sb_one32 (show M < 31 by omega), sp_i_pred h2, sp_bndE, sp_bndE]
  refine sz_lp_Q (fun o => ∃ ah : Nat → Int32, o = some ah ∧ ∀ s, s < 2 ^ M → ah s = Int32.ofNat (sz_AA nd uu M s)) (2 ^ M - 1 + 1) (fun i s => ∃ ah : Nat → Int32, s = (sp_bk (2 ^ M - 1) i, ah) ∧ ∀ d, i = d + 1 → ∀ t, 2 ^ M - 1 - d ≤ t → t < 2 ^ M → ah t = Int32.ofNat (sz_A nd uu M d t)) ?_ ?_ sp_F _ (sp_F_lt (by omega)) ⟨lk, by unfold sp_bk; rw [if_pos (by omega), Nat.sub_zero], fun d hd => by omega⟩
  · rintro i s hi ⟨ah, rfl, ha⟩
    right
    have hb : sp_bk (2 ^ M - 1) i = Int32.ofNat (2 ^ M - 1 - i) := by unfold sp_bk; rw [if_pos (by omega)]
    have hnx : Int32.ofNat (2 ^ M - 1 - i) + (-1 : Int32) = sp_bk (2 ^ M - 1) (i + 1) := sp_bk_next (by omega)
    by_cases hi0 : i = 0
    · refine ⟨(sp_bk (2 ^ M - 1) (i + 1), upd ah (2 ^ M - 1 - i) 0), ⟨_, rfl, fun d hd t t1 t2 => ?_⟩, fun rec => ?_⟩
      · obtain rfl : d = 0 := by omega
        rw [show t = 2 ^ M - 1 - i by omega, sz_upd_at]; rfl
      · rw [hb, f_X10_layKept_L11_eq, if_neg (sp_i_nn (by omega)), sp_bndE, if_pos (show Int32.ofNat (2 ^ M - 1 - i) = Int32.ofNat (2 ^ M - 1) by rw [hi0, Nat.sub_zero]), sp_st_at (show 2 ^ M - 1 - i < 4096 by omega) (by omega)]
        show sp_bnd _ _ = _
        rw [sp_bndE, hnx]
    · obtain ⟨d, rfl⟩ : ∃ d, i = d + 1 := ⟨i - 1, by omega⟩
      have hlt : 2 ^ M - 1 - (d + 1) < 2 ^ M := by omega
      have hkp := sz_kp_le uu (2 ^ M - 1 - (d + 1)) M
      have hls := sz_ls_b nd (sz_A nd uu M d) (2 ^ M - 1 - (d + 1)) 99 M
      have ha' := ha d rfl
      have e1 := (sz_keptX1 hM hlt hus).2
      have e2 := fun kk => sz_leastM (ah := ah) (A := sz_A nd uu M d) hM hlt hne (sz_A_le hM d) (fun t t1 t2 => ha' t (by omega) t2) kk
      have e3 : sz_ls nd (sz_A nd uu M d) (2 ^ M - 1 - (d + 1)) 1000 M = sz_ls nd (sz_A nd uu M d) (2 ^ M - 1 - (d + 1)) 99 M := by
        obtain ⟨k, k1, k2⟩ := sz_may_ex (show 2 ^ M - 1 - (d + 1) < 2 ^ M - 1 by omega) hnd
        have q1 := sz_ls_le (A := sz_A nd uu M d) (b := 1000) k2 M k1
        have q2 := sz_A_le (nd := nd) (uu := uu) hM d (2 ^ M - 1 - (d + 1) ||| 2 ^ k)
        have q3 := sz_ls_min nd (sz_A nd uu M d) (2 ^ M - 1 - (d + 1)) M
        omega
      refine ⟨(sp_bk (2 ^ M - 1) (d + 1 + 1), upd ah (2 ^ M - 1 - (d + 1)) (Int32.ofNat (sz_A nd uu M (d + 1) (2 ^ M - 1 - (d + 1))))), ⟨_, rfl, fun d' hd' t t1 t2 => ?_⟩, fun rec => ?_⟩
      · obtain rfl : d' = d + 1 := by omega
        by_cases e : t = 2 ^ M - 1 - (d + 1)
        · rw [e, sz_upd_at]
        · rw [sz_upd_ne e, sz_A_ne e]; exact ha' t (by omega) t2
      · rw [hb, f_X10_layKept_L11_eq, if_neg (sp_i_nn (by omega)), sp_bndE, if_neg (fun z => by have := (sp_i_inj (by omega) (by omega)).mp z; omega), e1, Option.bind_some, sp_bndE, e2, e3]
        show sp_bnd _ _ = _
        rw [sp_bndE, sz_A_at]
        by_cases w : 1 + sz_kp uu (2 ^ M - 1 - (d + 1)) M ≤ sz_ls nd (sz_A nd uu M d) (2 ^ M - 1 - (d + 1)) 99 M
        · rw [if_pos ((sp_i_le (by omega) (by omega)).mpr w), Nat.max_eq_right w]
          show sp_st _ _ _ _ _ = _
          rw [sp_st_at (show 2 ^ M - 1 - (d + 1) < 4096 by omega) (by omega)]
          show sp_bnd _ _ = _
          rw [sp_bndE, hnx]
        · rw [if_neg (fun z => w ((sp_i_le (by omega) (by omega)).mp z)), Nat.max_eq_left (by omega)]
          show sp_st _ _ _ _ _ = _
          rw [sp_st_at (show 2 ^ M - 1 - (d + 1) < 4096 by omega) (by omega)]
          show sp_bnd _ _ = _
          rw [sp_bndE, hnx]
  · rintro s ⟨ah, rfl, ha⟩
    refine ⟨_, ⟨ah, rfl, fun s hs => ha (2 ^ M - 1) rfl s (by omega) hs⟩, fun rec => ?_⟩
    have hb : sp_bk (2 ^ M - 1) (2 ^ M - 1 + 1) = -1 := by unfold sp_bk; rw [if_neg (by omega)]
    rw [hb, f_X10_layKept_L11_eq, if_pos (by decide)]
/-- a line may come and keeps to the least -/
abbrev sz_gd (nd A : Nat → Nat) (L s k : Nat) : Prop := sz_may nd s k ∧ A (s ||| 2 ^ k) ≤ L
def sz_nx (nd A : Nat → Nat) (L s : Nat) : Nat → Nat
  | 0 => 0
  | m + 1 => if sz_nx nd A L s m < m then sz_nx nd A L s m else if sz_gd nd A L s m then m else m + 1
theorem sz_nx_spec (nd A : Nat → Nat) (L s : Nat) : ∀ m, (sz_nx nd A L s m < m ∧ sz_gd nd A L s (sz_nx nd A L s m) ∧ ∀ j, j < sz_nx nd A L s m → ¬ sz_gd nd A L s j) ∨ (sz_nx nd A L s m = m ∧ ∀ j, j < m → ¬ sz_gd nd A L s j)
  | 0 => Or.inr ⟨rfl, fun j hj => by omega⟩
  | m + 1 => by
    rw [sz_nx]
    rcases sz_nx_spec nd A L s m with ⟨h1, h2, h3⟩ | ⟨h1, h2⟩
    · rw [if_pos h1]
      exact Or.inl ⟨by omega, h2, h3⟩
    · rw [if_neg (by omega)]
      by_cases q : sz_gd nd A L s m
      · rw [if_pos q]
        exact Or.inl ⟨by omega, q, h2⟩
      · rw [if_neg q]
        refine Or.inr ⟨rfl, fun j hj => ?_⟩
        by_cases e : j = m
        · rw [e]; exact q
        · exact h2 j (by omega)
/-- the next line, the sets that have come -/
abbrev sz_nxt (nd uu : Nat → Nat) (M s : Nat) : Nat := sz_nx nd (sz_AA nd uu M) (sz_AA nd uu M 0) s M
def sz_cs (nd uu : Nat → Nat) (M : Nat) : Nat → Nat
  | 0 => 0
  | a + 1 => sz_cs nd uu M a ||| 2 ^ sz_nxt nd uu M (sz_cs nd uu M a)
theorem sz_nxt_ok {nd uu : Nat → Nat} {M s : Nat} (hM : M ≤ 12) (hnd : ∀ j, j < M → nd j < 2 ^ j) (hs : s < 2 ^ M) (hp : sp_pc s M < M) (hA : sz_AA nd uu M s ≤ sz_AA nd uu M 0) : sz_nxt nd uu M s < M ∧ sz_gd nd (sz_AA nd uu M) (sz_AA nd uu M 0) s (sz_nxt nd uu M s) ∧ ∀ j, j < sz_nxt nd uu M s → ¬ sz_gd nd (sz_AA nd uu M) (sz_AA nd uu M 0) s j := by
  have hf : s < 2 ^ M - 1 := by
    rcases Nat.lt_or_ge s (2 ^ M - 1) with h | h
    · exact h
    · have e : s = 2 ^ M - 1 := by omega
      rw [e, sz_pc_full M M (Nat.le_refl _)] at hp
      omega
  have hfix := sz_AA_fix (nd := nd) (uu := uu) hf
  obtain ⟨k, k1, k2, k3⟩ := sz_ls_at (A := sz_AA nd uu M) (fun t => sz_A_le hM _ t) M (sz_may_ex hf hnd)
  rcases sz_nx_spec nd (sz_AA nd uu M) (sz_AA nd uu M 0) s M with h | ⟨h1, h2⟩
  · exact h
  · exact absurd ⟨k2, by omega⟩ (h2 k k1)
theorem sz_cs_ok {nd uu : Nat → Nat} {M : Nat} (hM : M ≤ 12) (hnd : ∀ j, j < M → nd j < 2 ^ j) : ∀ a, a ≤ M → sz_cs nd uu M a < 2 ^ M ∧ sp_pc (sz_cs nd uu M a) M = a ∧ sz_AA nd uu M (sz_cs nd uu M a) ≤ sz_AA nd uu M 0
  | 0, _ => by
    have key : ∀ m, sp_pc 0 m = 0 := by
      intro m
      induction m with
      | zero => rfl
      | succ m ih => rw [sp_pc, ih, Nat.zero_testBit]; rfl
    exact ⟨Nat.two_pow_pos _, key M, Nat.le_refl _⟩
  | a + 1, h => by
    obtain ⟨h1, h2, h3⟩ := sz_cs_ok hM hnd a (by omega)
    obtain ⟨k1, k2, -⟩ := sz_nxt_ok hM hnd h1 (by omega) h3
    rw [sz_cs]
    refine ⟨(sz_or_gt h1 k1 k2.1.1).2, ?_, k2.2⟩
    rw [sz_pc_or (Bool.eq_false_iff.mpr k2.1.1), h2, if_pos k1]
/-- what a row of both sides has -/
def sz_rows (nd uu : Nat → Nat) (M : Nat) (ne ah : Nat → Int32) : Prop := (∀ k, k < M → ne k = Int32.ofNat (nd k) ∧ nd k < 4096) ∧ ∀ s, s < 2 ^ M → ah s = Int32.ofNat (sz_AA nd uu M s)
theorem sz_firstX {nd uu : Nat → Nat} {M s : Nat} {ne ah : Nat → Int32} (hM : M ≤ 12) (hr : sz_rows nd uu M ne ah) (hnd : ∀ j, j < M → nd j < 2 ^ j) (hs : s < 2 ^ M) (hp : sp_pc s M < M) (hA : sz_AA nd uu M s ≤ sz_AA nd uu M 0) : f_X1_firstOf (Int32.ofNat s) (Int32.ofNat M) (Int32.ofNat (sz_AA nd uu M 0)) ne ah = some (Int32.ofNat (sz_nxt nd uu M s)) := by
  have h12 := sz_M12 hM
  have hL : sz_AA nd uu M 0 ≤ 99 := sz_A_le hM _ _
  obtain ⟨k1, k2, k3⟩ := sz_nxt_ok hM hnd hs hp hA
  unfold f_X1_firstOf
  rw [sp_bndE]
  generalize sz_nxt nd uu M s = k0 at *
  refine sp_lp_fn k0 (fun j => Int32.ofNat j) (fun j hj rec => ?_) (fun rec => ?_) (sp_F_lt (by omega)) rfl
  · rw [f_X1_firstOf_L2_eq, if_neg (fun q => by have := (sp_i_le (by omega) (by omega)).mp q; omega), (sz_mayX hM hs (show j < M by omega) (hr.1 j (by omega)).1 (hr.1 j (by omega)).2).1, Option.bind_some]
    by_cases q : sz_may nd s j
    · obtain ⟨g1, g2⟩ := sz_or_gt hs (show j < M by omega) q.1
      have hAk : sz_AA nd uu M (s ||| 2 ^ j) ≤ 99 := sz_A_le hM _ _
      have hno : ¬ sz_AA nd uu M (s ||| 2 ^ j) ≤ sz_AA nd uu M 0 := fun z => k3 j hj ⟨q, z⟩
      rw [if_pos q, sp_bndE, if_neg (by decide), sb_one32 (show j < 31 by omega), sb_or32, sp_ld_at (show s ||| 2 ^ j < 4096 by omega) (by omega), hr.2 _ g2, if_pos ((sp_i_lt (by omega) (by omega)).mpr (by omega)), sp_bndE, sp_i_succ]
    · rw [if_neg q, sp_bndE, if_pos rfl, sp_bndE, sp_i_succ]
  · obtain ⟨g1, g2⟩ := sz_or_gt hs k1 k2.1.1
    have hAk : sz_AA nd uu M (s ||| 2 ^ k0) ≤ 99 := sz_A_le hM _ _
    have hle := k2.2
    rw [f_X1_firstOf_L2_eq, if_neg (fun q => by have := (sp_i_le (by omega) (by omega)).mp q; omega), (sz_mayX hM hs k1 (hr.1 k0 k1).1 (hr.1 k0 k1).2).1, Option.bind_some, if_pos k2.1, sp_bndE, if_neg (by decide), sb_one32 (show k0 < 31 by omega), sb_or32, sp_ld_at (show s ||| 2 ^ k0 < 4096 by omega) (by omega), hr.2 _ g2, if_neg (fun z => by have := (sp_i_lt (by omega) (by omega)).mp z; omega)]
theorem sz_nextM {nd uu : Nat → Nat} {M s : Nat} {ne ah : Nat → Int32} (hM : M ≤ 12) (hr : sz_rows nd uu M ne ah) (hnd : ∀ j, j < M → nd j < 2 ^ j) (hs : s < 2 ^ M) (hp : sp_pc s M < M) (hA : sz_AA nd uu M s ≤ sz_AA nd uu M 0) (kk : Int32 → Option (Int32 × Int32 × (Nat → Int32) × (Nat → Int32) × (Nat → Int32) × (Nat → Int32))) : sp_lp (f_X10_fewest_L82 (Int32.ofNat s) ne ah (Int32.ofNat (sz_AA nd uu M 0)) kk) sp_F (0 : Int32) = kk (Int32.ofNat (sz_nxt nd uu M s)) := by
  have h12 := sz_M12 hM
  have hL : sz_AA nd uu M 0 ≤ 99 := sz_A_le hM _ _
  obtain ⟨k1, k2, k3⟩ := sz_nxt_ok hM hnd hs hp hA
  generalize sz_nxt nd uu M s = k0 at *
  refine sp_lp_fn k0 (fun j => Int32.ofNat j) (fun j hj rec => ?_) (fun rec => ?_) (sp_F_lt (by omega)) rfl
  · rw [f_X10_fewest_L82_eq, (sz_mayX hM hs (show j < M by omega) (hr.1 j (by omega)).1 (hr.1 j (by omega)).2).2, Option.bind_some]
    by_cases q : sz_may nd s j
    · obtain ⟨g1, g2⟩ := sz_or_gt hs (show j < M by omega) q.1
      have hAk : sz_AA nd uu M (s ||| 2 ^ j) ≤ 99 := sz_A_le hM _ _
      have hno : ¬ sz_AA nd uu M (s ||| 2 ^ j) ≤ sz_AA nd uu M 0 := fun z => k3 j hj ⟨q, z⟩
      rw [if_pos q, sp_bndE, if_neg (by decide), sb_one32 (show j < 31 by omega), sb_or32, sp_ld_at (show s ||| 2 ^ j < 4096 by omega) (by omega), hr.2 _ g2, if_neg (fun z => hno ((sp_i_le (by omega) (by omega)).mp z)), sp_bndE, sp_i_succ]
    · rw [if_neg q, sp_bndE, if_pos rfl, sp_bndE, sp_i_succ]
  · obtain ⟨g1, g2⟩ := sz_or_gt hs k1 k2.1.1
    have hAk : sz_AA nd uu M (s ||| 2 ^ k0) ≤ 99 := sz_A_le hM _ _
    have hle := k2.2
    rw [f_X10_fewest_L82_eq, (sz_mayX hM hs k1 (hr.1 k0 k1).1 (hr.1 k0 k1).2).2, Option.bind_some, if_pos k2.1, sp_bndE, if_neg (by decide), sb_one32 (show k0 < 31 by omega), sb_or32, sp_ld_at (show s ||| 2 ^ k0 < 4096 by omega) (by omega), hr.2 _ g2, if_pos ((sp_i_le (by omega) (by omega)).mpr hle)]
theorem sz_rowX {nd uu ln : Nat → Nat} {M : Nat} {li ne ah : Nat → Int32} (hM : M ≤ 12) (hr : sz_rows nd uu M ne ah) (hnd : ∀ j, j < M → nd j < 2 ^ j) (hli : ∀ j, j < M → li j = Int32.ofNat (ln j)) (ro : Nat → Int32) : ∃ ro' : Nat → Int32, f_X1_fillRow ro (Int32.ofNat M) (Int32.ofNat (sz_AA nd uu M 0)) li ne ah = some ro' ∧ ∀ a, a < M → ro' a = Int32.ofNat (ln (sz_nxt nd uu M (sz_cs nd uu M a))) := by
  unfold f_X1_fillRow
  rw [sp_bndE]
  refine sz_lp_Q (fun o => ∃ ro' : Nat → Int32, o = some ro' ∧ ∀ a, a < M → ro' a = Int32.ofNat (ln (sz_nxt nd uu M (sz_cs nd uu M a)))) M (fun a s => ∃ ro' : Nat → Int32, s = (Int32.ofNat (sz_cs nd uu M a), Int32.ofNat a, ro') ∧ ∀ j, j < a → ro' j = Int32.ofNat (ln (sz_nxt nd uu M (sz_cs nd uu M j)))) ?_ ?_ sp_F _ (sp_F_lt (by omega)) ⟨ro, rfl, fun j hj => by omega⟩
  · rintro a s ha ⟨ro', rfl, h1⟩
    right
    obtain ⟨c1, c2, c3⟩ := sz_cs_ok (nd := nd) (uu := uu) hM hnd a (by omega)
    obtain ⟨k1, k2, -⟩ := sz_nxt_ok hM hnd c1 (by omega) c3
    refine ⟨(Int32.ofNat (sz_cs nd uu M (a + 1)), Int32.ofNat (a + 1), upd ro' a (Int32.ofNat (ln (sz_nxt nd uu M (sz_cs nd uu M a))))), ⟨_, rfl, fun j hj => ?_⟩, fun rec => ?_⟩
    · by_cases e : j = a
      · subst e; exact sz_upd_at _ _ _
      · rw [sz_upd_ne e]; exact h1 j (by omega)
    · rw [f_X1_fillRow_L4_eq, if_neg (fun q => by have := (sp_i_le (by omega) (by omega)).mp q; omega), sz_firstX hM hr hnd c1 (by omega) c3, Option.bind_some, sz_cs]
      generalize sz_nxt nd uu M (sz_cs nd uu M a) = k0 at *
      rw [sp_ld_at (show k0 < 12 by omega) (by omega), hli k0 k1, sp_st_at (show a < 12 by omega) (by omega), sb_one32 (show k0 < 31 by omega), sb_or32, sp_bndE, sp_bndE, sp_i_succ]
  · rintro s ⟨ro', rfl, h1⟩
    exact ⟨_, ⟨ro', rfl, h1⟩, fun rec => by rw [f_X1_fillRow_L4_eq, if_pos ((sp_i_le (by omega) (by omega)).mpr (Nat.le_refl _))]⟩
theorem sz_rowM {nd uu ln : Nat → Nat} {M k : Nat} {ma ne us ah : Nat → Int32} (hM : M ≤ 12) (hr : sz_rows nd uu M ne ah) (hnd : ∀ j, j < M → nd j < 2 ^ j) (hma : ∀ j, j < M → ma j = Int32.ofNat (ln j)) (hk : k ≤ 12) (kk : Option (Int32 × Int32 × (Nat → Int32) × (Nat → Int32) × (Nat → Int32) × (Nat → Int32))) : sp_lp (f_X10_fewest_L70 (Int32.ofNat M) kk (Int32.ofNat k) ma ne us ah (Int32.ofNat (sz_AA nd uu M 0))) sp_F ((0 : Int32), (0 : Int32)) = if k < M then some (Int32.ofNat (ln (sz_nxt nd uu M (sz_cs nd uu M k))), Int32.ofNat M, ma, ne, us, ah) else kk := by
  have hstep : ∀ a, a < M → a < k → ∀ rec, f_X10_fewest_L70 (Int32.ofNat M) kk (Int32.ofNat k) ma ne us ah (Int32.ofNat (sz_AA nd uu M 0)) rec (Int32.ofNat (sz_cs nd uu M a), Int32.ofNat a) = rec (Int32.ofNat (sz_cs nd uu M (a + 1)), Int32.ofNat (a + 1)) := by
    intro a ha hak rec
    obtain ⟨c1, c2, c3⟩ := sz_cs_ok (nd := nd) (uu := uu) hM hnd a (by omega)
    obtain ⟨k1, k2, -⟩ := sz_nxt_ok hM hnd c1 (by omega) c3
    rw [f_X10_fewest_L70_eq, if_neg (fun q => by have := (sp_i_le (by omega) (by omega)).mp q; omega), sp_bndE, sz_nextM hM hr hnd c1 (by omega) c3, sz_cs]
    generalize sz_nxt nd uu M (sz_cs nd uu M a) = k0 at *
    rw [if_neg (fun z => by have := (sp_i_inj (by omega) (by omega)).mp z; omega), sb_one32 (show k0 < 31 by omega), sb_or32, sp_bndE, sp_bndE, sp_i_succ]
  by_cases hkM : k < M
  · rw [if_pos hkM]
    refine sp_lp_fn k (fun a => (Int32.ofNat (sz_cs nd uu M a), Int32.ofNat a)) (fun a ha rec => hstep a (by omega) ha rec) (fun rec => ?_) (sp_F_lt (by omega)) rfl
    obtain ⟨c1, c2, c3⟩ := sz_cs_ok (nd := nd) (uu := uu) hM hnd k (by omega)
    obtain ⟨k1, k2, -⟩ := sz_nxt_ok hM hnd c1 (by omega) c3
    rw [f_X10_fewest_L70_eq, if_neg (fun q => by have := (sp_i_le (by omega) (by omega)).mp q; omega), sp_bndE, sz_nextM hM hr hnd c1 (by omega) c3]
    generalize sz_nxt nd uu M (sz_cs nd uu M k) = k0 at *
    rw [if_pos rfl, sp_ld_at (show k0 < 12 by omega) (by omega), hma k0 k1]
  · rw [if_neg hkM]
    refine sp_lp_fn M (fun a => (Int32.ofNat (sz_cs nd uu M a), Int32.ofNat a)) (fun a ha rec => hstep a ha (by omega) rec) (fun rec => ?_) (sp_F_lt (by omega)) rfl
    rw [f_X10_fewest_L70_eq, if_pos ((sp_i_le (by omega) (by omega)).mpr (Nat.le_refl _))]
