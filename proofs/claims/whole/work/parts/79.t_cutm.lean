/-! cuts: the reference's tables -/
theorem sz_div3 : ∀ v, v < 27 → Int32.ofNat v / (3 : Int32) = Int32.ofNat (v / 3) ∧ Int32.ofNat v - Int32.ofNat v / (3 : Int32) * (3 : Int32) = Int32.ofNat (v % 3) := by decide +kernel
theorem sz_sh6 : ∀ k, k < 3 → (64 : Int32) <<< (Int32.ofNat k &&& 31) = Int32.ofNat (2 ^ (k + 6)) := by decide +kernel
theorem sz_lay1 {a : Nat} (ha : a < 27) {kk : (Nat → Int32) → Option ((Nat → Int32) × (Nat → Int32))} (c : Nat → Int32) (hc : c a = 0) (Q : Option ((Nat → Int32) × (Nat → Int32)) → Prop) (hk : ∀ c' : Nat → Int32, c' a = Int32.ofNat (sz_tcl a) → (∀ j, j ≠ a → c' j = c j) → Q (kk c')) : Q (sp_lp (f_X10_laySmall_L19 kk (Int32.ofNat a)) sp_F (Int32.ofNat a, (0 : Int32), c)) := by
  refine sz_lp_Q Q 3 (fun k s => ∃ c' : Nat → Int32, s = (Int32.ofNat (a / 3 ^ k), Int32.ofNat k, c') ∧ c' a = Int32.ofNat (sz_or (sz_dg a) k) ∧ ∀ j, j ≠ a → c' j = c j) ?_ ?_ sp_F _ (sp_F_lt (by omega)) ⟨c, by rw [Nat.pow_zero, Nat.div_one]; rfl, hc, fun j _ => rfl⟩
  · rintro k s hk' ⟨c', rfl, h1, h2⟩
    right
    have hlt : a / 3 ^ k < 27 := Nat.lt_of_le_of_lt (Nat.div_le_self _ _) ha
    obtain ⟨d1, d2⟩ := sz_div3 _ hlt
    have hm : a / 3 ^ k % 3 < 3 := Nat.mod_lt _ (by omega)
    have e1 : (Int32.ofNat (a / 3 ^ k % 3) = (1 : Int32)) ↔ a / 3 ^ k % 3 = 1 := sp_i_inj (j := 1) (by omega) (by omega)
    have e2 : (Int32.ofNat (a / 3 ^ k % 3) = (2 : Int32)) ↔ a / 3 ^ k % 3 = 2 := sp_i_inj (j := 2) (by omega) (by omega)
    refine ⟨(Int32.ofNat (a / 3 ^ (k + 1)), Int32.ofNat (k + 1), upd c' a (Int32.ofNat (sz_or (sz_dg a) (k + 1)))), ⟨_, rfl, sz_upd_at _ _ _, fun j hj => by rw [sz_upd_ne hj]; exact h2 j hj⟩, fun rec => ?_⟩
    rw [f_X10_laySmall_L19_eq, if_neg (show ¬ (3 : Int32) ≤ Int32.ofNat k from fun q => by have := (sp_i_le (i := 3) (by omega) (by omega)).mp q; omega), sp_ld_at (show a < 27 by omega) (by omega), h1, d2, d1, sb_one32 (show k < 31 by omega), sz_sh6 k hk', Nat.div_div_eq_div_mul, ← Nat.pow_succ, sz_or_s]
    unfold sz_dg
    by_cases q1 : a / 3 ^ k % 3 = 1
    · rw [if_pos q1]
      simp only [sp_bndE, if_pos (e1.mpr q1), sp_st_at (show a < 27 by omega) (by omega : 27 < 1000000), sb_or32, sp_i_succ]
    · rw [if_neg q1]
      by_cases q2 : a / 3 ^ k % 3 = 2
      · rw [if_pos q2]
        simp only [sp_bndE, if_neg (fun z => q1 (e1.mp z)), if_pos (e2.mpr q2), sp_st_at (show a < 27 by omega) (by omega : 27 < 1000000), sb_or32, sp_i_succ]
      · rw [if_neg q2, Nat.or_zero]
        simp only [sp_bndE, if_neg (fun z => q1 (e1.mp z)), if_neg (fun z => q2 (e2.mp z)), sp_st_at (show a < 27 by omega) (by omega : 27 < 1000000), Int32.or_zero, sp_i_succ]
  · rintro s ⟨c', rfl, h1, h2⟩
    exact ⟨_, hk c' h1 h2, fun rec => by rw [f_X10_laySmall_L19_eq, if_pos (by decide)]⟩
theorem sz_smallOf {c : Nat} (hc : c < 4096) : f_X10_smallOf (Int32.ofNat c) = some (Int32.ofNat (sz_so c)) := by
  have step : ∀ (v k : Nat), k < 3 → ∀ (kk : Int32 → Option Int32) (rec : Int32 × Int32 → Option Int32), f_X10_smallOf_L4 kk (Int32.ofNat c) rec (Int32.ofNat v, Int32.ofNat k) = rec (Int32.ofNat (3 * v + sz_dc c k), Int32.ofNat k + (-1 : Int32)) := by
    intro v k hk kk rec
    have h6 : (6 : Int32) + Int32.ofNat k = Int32.ofNat (k + 6) := by rw [show k + 6 = 6 + k by omega]; exact sp_i_add 6 k
    have h3 : (3 : Int32) * Int32.ofNat v = Int32.ofNat (3 * v) := (Int32.ofNat_mul 3 v).symm
    rw [f_X10_smallOf_L4_eq, if_neg (sp_i_nn (by omega)), h6, sb_bit32 (show c < 2 ^ 31 by omega) (by omega), sb_bit32 (show c < 2 ^ 31 by omega) (by omega)]
    unfold sz_dc
    by_cases q1 : c.testBit k = true
    · rw [if_pos q1, if_pos q1]
      simp only [sp_bndE, if_true, h3]
      rw [show (1 : Int32) = Int32.ofNat 1 from rfl, sp_i_add]
    · rw [if_neg q1, if_neg q1]
      by_cases q2 : c.testBit (k + 6) = true
      · rw [if_pos q2, if_pos q2]
        simp only [sp_bndE, sz_01, if_false, if_true, h3]
        rw [show (2 : Int32) = Int32.ofNat 2 from rfl, sp_i_add]
      · rw [if_neg q2, if_neg q2]
        simp only [sp_bndE, sz_01, if_false, h3, Int32.add_zero, Nat.add_zero]
  unfold f_X10_smallOf sz_so
  rw [sp_bndE]
  refine sp_lp_fn 3 (fun i => ((if i = 0 then Int32.ofNat 0 else if i = 1 then Int32.ofNat (3 * 0 + sz_dc c 2) else if i = 2 then Int32.ofNat (3 * (3 * 0 + sz_dc c 2) + sz_dc c 1) else Int32.ofNat (3 * (3 * (3 * 0 + sz_dc c 2) + sz_dc c 1) + sz_dc c 0)), sp_bk 2 i)) (fun i hi rec => ?_) (fun rec => ?_) (sp_F_lt (by omega)) rfl
  · have hb : sp_bk 2 i = Int32.ofNat (2 - i) := by unfold sp_bk; rw [if_pos (by omega)]
    have hnx := sp_bk_next (show i ≤ 2 by omega)
    rcases (show i = 0 ∨ i = 1 ∨ i = 2 by omega) with rfl | rfl | rfl
    · exact (step 0 2 (by omega) _ rec).trans (congrArg (fun q => rec (_, q)) hnx)
    · exact (step (3 * 0 + sz_dc c 2) 1 (by omega) _ rec).trans (congrArg (fun q => rec (_, q)) hnx)
    · exact (step (3 * (3 * 0 + sz_dc c 2) + sz_dc c 1) 0 (by omega) _ rec).trans (congrArg (fun q => rec (_, q)) hnx)
  · show f_X10_smallOf_L4 _ _ rec (Int32.ofNat (3 * (3 * (3 * 0 + sz_dc c 2) + sz_dc c 1) + sz_dc c 0), (-1 : Int32)) = _
    rw [f_X10_smallOf_L4_eq, if_pos (by decide)]
theorem sz_so_lt (c : Nat) : sz_so c < 27 := by
  have h : ∀ k, sz_dc c k < 3 := by
    intro k
    unfold sz_dc
    split
    · omega
    · split <;> omega
  have h0 := h 0
  have h1 := h 1
  have h2 := h 2
  unfold sz_so
  omega
theorem sz_lay2 {a b : Nat} (ha : a < 27) (hb : b < 27) {c : Nat → Int32} (hc : ∀ j, j < 27 → c j = Int32.ofNat (sz_tcl j)) (kk : Int32 → Option ((Nat → Int32) × (Nat → Int32))) : sp_lp (f_X10_laySmall_L98 kk c (Int32.ofNat a) (Int32.ofNat b)) sp_F ((0 : Int32), (0 : Int32)) = kk (Int32.ofNat (sz_su a b)) := by
  unfold sz_su
  refine sp_lp_fn 3 (fun k => (Int32.ofNat (sz_or (sz_one a b) k), Int32.ofNat k)) (fun k hk rec => ?_) (fun rec => ?_) (sp_F_lt (by omega)) rfl
  · have hlt := sz_cn_lt (k := k) (sz_t1' ha).1 (sz_t1' hb).1
    have hso := sz_so_lt (sz_cn (sz_tcl a) (sz_tcl b) k)
    rw [f_X10_laySmall_L98_eq, if_neg (show ¬ (3 : Int32) ≤ Int32.ofNat k from fun q => by have := (sp_i_le (i := 3) (by omega) (by omega)).mp q; omega), sp_ld_at (show a < 27 by omega) (by omega), hc a ha, sp_ld_at (show b < 27 by omega) (by omega), hc b hb, sp_cutM (show k < 6 by omega), sz_or_s]
    unfold sz_one
    by_cases q : (sz_tcl a).testBit k = true ∧ (sz_tcl b).testBit (k + 6) = true
    · rw [if_pos q]
      rcases sp_isClause01 (Int32.ofNat (sz_cn (sz_tcl a) (sz_tcl b) k)) with e | e
      · rw [e, Option.bind_some, if_pos rfl, Option.bind_some, if_neg (fun z => absurd (Option.some.inj z.2.2) (by decide)), Nat.or_zero]
        simp only [sp_bndE, if_true, Int32.or_zero, sp_i_succ]
      · have hne : ¬ Int32.ofNat (sz_cn (sz_tcl a) (sz_tcl b) k) = -9 := sp_i_neg (by omega)
        rw [e, Option.bind_some, if_neg (by decide), Option.bind_some, if_pos ⟨q.1, q.2, rfl⟩]
        simp only [sp_bndE, if_neg hne, sz_smallOf hlt, Option.bind_some, sb_one32 (show sz_so (sz_cn (sz_tcl a) (sz_tcl b) k) < 31 by omega), sb_or32, sp_i_succ]
    · rw [if_neg q, Option.bind_some, if_neg (fun z => q ⟨z.1, z.2.1⟩), Nat.or_zero]
      simp only [sp_bndE, if_true, Int32.or_zero, sp_i_succ]
  · rw [f_X10_laySmall_L98_eq, if_pos (by decide)]
theorem sz_i_27 (k i : Nat) : (27 : Int32) * Int32.ofNat k + Int32.ofNat i = Int32.ofNat (27 * k + i) := by rw [Int32.ofNat_add, Int32.ofNat_mul]; rfl
theorem sz_lay3 {a : Nat} (ha : a < 27) {c : Nat → Int32} (hc : ∀ j, j < 27 → c j = Int32.ofNat (sz_tcl j)) {kk : (Nat → Int32) → Option ((Nat → Int32) × (Nat → Int32))} (su : Nat → Int32) (Q : Option ((Nat → Int32) × (Nat → Int32)) → Prop) (hk : ∀ su' : Nat → Int32, (∀ b, b < 27 → su' (27 * a + b) = Int32.ofNat (sz_su a b)) → (∀ j, j < 27 * a → su' j = su j) → Q (kk su')) : Q (sp_lp (f_X10_laySmall_L87 kk (Int32.ofNat a) c) sp_F ((0 : Int32), su)) := by
  refine sz_lp_Q Q 27 (fun b s => ∃ su' : Nat → Int32, s = (Int32.ofNat b, su') ∧ (∀ j, j < b → su' (27 * a + j) = Int32.ofNat (sz_su a j)) ∧ ∀ j, j < 27 * a → su' j = su j) ?_ ?_ sp_F _ (sp_F_lt (by omega)) ⟨su, rfl, fun j hj => by omega, fun j _ => rfl⟩
  · rintro b s hb ⟨su', rfl, h1, h2⟩
    right
    refine ⟨(Int32.ofNat (b + 1), upd su' (27 * a + b) (Int32.ofNat (sz_su a b))), ⟨_, rfl, fun j hj => ?_, fun j hj => by rw [sz_upd_ne (by omega)]; exact h2 j hj⟩, fun rec => ?_⟩
    · by_cases e : j = b
      · subst e; exact sz_upd_at _ _ _
      · rw [sz_upd_ne (by omega)]; exact h1 j (by omega)
    · rw [f_X10_laySmall_L87_eq, if_neg (show ¬ (27 : Int32) ≤ Int32.ofNat b from fun q => by have := (sp_i_le (i := 27) (by omega) (by omega)).mp q; omega), sp_bndE, sz_lay2 ha hb hc, sz_i_27]
      show sp_st _ _ _ _ _ = _
      rw [sp_st_at (show 27 * a + b < 729 by omega) (by omega), sp_bndE, sp_i_succ]
  · rintro s ⟨su', rfl, h1, h2⟩
    exact ⟨_, hk su' h1 h2, fun rec => by rw [f_X10_laySmall_L87_eq, if_pos (by decide)]⟩
theorem sz_laySmall (sc su : Nat → Int32) : ∃ c d : Nat → Int32, f_X10_laySmall sc su = some (c, d) ∧ (∀ j, j < 27 → c j = Int32.ofNat (sz_tcl j)) ∧ ∀ a b, a < 27 → b < 27 → d (27 * a + b) = Int32.ofNat (sz_su a b) := by
  unfold f_X10_laySmall
  rw [sp_bndE]
  refine sz_lp_Q (fun o => ∃ c d : Nat → Int32, o = some (c, d) ∧ (∀ j, j < 27 → c j = Int32.ofNat (sz_tcl j)) ∧ ∀ a b, a < 27 → b < 27 → d (27 * a + b) = Int32.ofNat (sz_su a b)) 27 (fun a s => ∃ c : Nat → Int32, s = (Int32.ofNat a, c) ∧ ∀ j, j < a → c j = Int32.ofNat (sz_tcl j)) ?_ ?_ sp_F _ (sp_F_lt (by omega)) ⟨sc, rfl, fun j hj => by omega⟩
  · rintro a s ha ⟨c, rfl, h1⟩
    right
    have key : ∃ c' : Nat → Int32, (c' a = Int32.ofNat (sz_tcl a) ∧ ∀ j, j ≠ a → c' j = upd c a 0 j) ∧ ∀ rec, f_X10_laySmall_L2 (fun (c3 : Nat → Int32) => sp_bnd (fun (c7 : Nat → Int32) => some (c3, c7)) (fun k8 => sp_lp (f_X10_laySmall_L79 k8 c3) sp_F ((0 : Int32), su))) rec (Int32.ofNat a, c) = rec (Int32.ofNat (a + 1), c') := by
      have hsub : ∃ c' : Nat → Int32, (c' a = Int32.ofNat (sz_tcl a) ∧ ∀ j, j ≠ a → c' j = upd c a 0 j) ∧ ∀ kk : (Nat → Int32) → Option ((Nat → Int32) × (Nat → Int32)), sp_lp (f_X10_laySmall_L19 kk (Int32.ofNat a)) sp_F (Int32.ofNat a, (0 : Int32), upd c a 0) = kk c' := by
        refine ⟨upd (upd c a 0) a (Int32.ofNat (sz_tcl a)), ⟨sz_upd_at _ _ _, fun j hj => sz_upd_ne hj⟩, fun kk => ?_⟩
        refine sz_lay1 ha (kk := kk) (upd c a 0) (sz_upd_at _ _ _) (fun o => o = kk (upd (upd c a 0) a (Int32.ofNat (sz_tcl a)))) (fun c' w1 w2 => ?_)
        congr 1
        funext j
        by_cases e : j = a
        · subst e; rw [w1, sz_upd_at]
        · rw [w2 j e]; exact (sz_upd_ne e).symm
      obtain ⟨c', w1, w2⟩ := hsub
      refine ⟨c', w1, fun rec => ?_⟩
      rw [f_X10_laySmall_L2_eq, if_neg (show ¬ (27 : Int32) ≤ Int32.ofNat a from fun q => by have := (sp_i_le (i := 27) (by omega) (by omega)).mp q; omega), sp_st_at (show a < 27 by omega) (by omega), sp_bndE, w2, sp_bndE, sp_i_succ]
    obtain ⟨c', ⟨w1, w2⟩, w3⟩ := key
    refine ⟨(Int32.ofNat (a + 1), c'), ⟨c', rfl, fun j hj => ?_⟩, w3⟩
    by_cases e : j = a
    · rw [e]; exact w1
    · rw [w2 j e, sz_upd_ne e]; exact h1 j (by omega)
  · rintro s ⟨c, rfl, h1⟩
    have key : ∃ d : Nat → Int32, sp_lp (f_X10_laySmall_L79 (fun (c7 : Nat → Int32) => some (c, c7)) c) sp_F ((0 : Int32), su) = some (c, d) ∧ ∀ a b, a < 27 → b < 27 → d (27 * a + b) = Int32.ofNat (sz_su a b) := by
      refine sz_lp_Q (fun o => ∃ d : Nat → Int32, o = some (c, d) ∧ ∀ a b, a < 27 → b < 27 → d (27 * a + b) = Int32.ofNat (sz_su a b)) 27 (fun a s => ∃ d : Nat → Int32, s = (Int32.ofNat a, d) ∧ ∀ a' b, a' < a → b < 27 → d (27 * a' + b) = Int32.ofNat (sz_su a' b)) ?_ ?_ sp_F _ (sp_F_lt (by omega)) ⟨su, rfl, fun a' b h => by omega⟩
      · rintro a s ha ⟨d, rfl, g1⟩
        right
        have hsub : ∃ d' : Nat → Int32, ((∀ b, b < 27 → d' (27 * a + b) = Int32.ofNat (sz_su a b)) ∧ ∀ j, j < 27 * a → d' j = d j) ∧ ∀ rec, f_X10_laySmall_L79 (fun (c7 : Nat → Int32) => some (c, c7)) c rec (Int32.ofNat a, d) = rec (Int32.ofNat (a + 1), d') := by
          have hrow : ∀ kk : (Nat → Int32) → Option ((Nat → Int32) × (Nat → Int32)), sp_lp (f_X10_laySmall_L87 kk (Int32.ofNat a) c) sp_F ((0 : Int32), d) = kk (fun j => if 27 * a ≤ j ∧ j < 27 * a + 27 then Int32.ofNat (sz_su a (j - 27 * a)) else d j) := by
            intro kk
            refine sp_lp_fn 27 (fun b => (Int32.ofNat b, fun j => if 27 * a ≤ j ∧ j < 27 * a + b then Int32.ofNat (sz_su a (j - 27 * a)) else d j)) (fun b hb rec => ?_) (fun rec => ?_) (sp_F_lt (by omega)) ?_
            · rw [f_X10_laySmall_L87_eq, if_neg (show ¬ (27 : Int32) ≤ Int32.ofNat b from fun q => by have := (sp_i_le (i := 27) (by omega) (by omega)).mp q; omega), sp_bndE, sz_lay2 ha hb h1, sz_i_27]
              show sp_st _ _ _ _ _ = _
              rw [sp_st_at (show 27 * a + b < 729 by omega) (by omega), sp_bndE, sp_i_succ]
              congr 2
              funext j
              by_cases e : j = 27 * a + b
              · subst e
                rw [sz_upd_at, if_pos (by omega), show 27 * a + b - 27 * a = b by omega]
              · rw [sz_upd_ne e]
                by_cases w : 27 * a ≤ j ∧ j < 27 * a + b
                · rw [if_pos w, if_pos (by omega)]
                · rw [if_neg w, if_neg (by omega)]
            · rw [f_X10_laySmall_L87_eq, if_pos (by decide)]
            · show _ = (Int32.ofNat 0, fun j => if 27 * a ≤ j ∧ j < 27 * a + 0 then _ else d j)
              congr 1
              funext j
              rw [if_neg (by omega)]
          refine ⟨fun j => if 27 * a ≤ j ∧ j < 27 * a + 27 then Int32.ofNat (sz_su a (j - 27 * a)) else d j, ⟨fun b hb => ?_, fun j hj => ?_⟩, fun rec => ?_⟩
          · show (if 27 * a ≤ 27 * a + b ∧ 27 * a + b < 27 * a + 27 then _ else _) = _
            rw [if_pos (by omega), show 27 * a + b - 27 * a = b by omega]
          · show (if 27 * a ≤ j ∧ j < 27 * a + 27 then _ else _) = _
            rw [if_neg (by omega)]
          · rw [f_X10_laySmall_L79_eq, if_neg (show ¬ (27 : Int32) ≤ Int32.ofNat a from fun q => by have := (sp_i_le (i := 27) (by omega) (by omega)).mp q; omega), sp_bndE, hrow, sp_bndE, sp_i_succ]
        obtain ⟨d', ⟨w1, w2⟩, w3⟩ := hsub
        refine ⟨(Int32.ofNat (a + 1), d'), ⟨d', rfl, fun a' b h3 h4 => ?_⟩, w3⟩
        by_cases e : a' = a
        · rw [e]; exact w1 b h4
        · rw [w2 _ (by omega)]; exact g1 a' b (by omega) h4
      · rintro s ⟨d, rfl, g1⟩
        exact ⟨_, ⟨d, rfl, g1⟩, fun rec => by rw [f_X10_laySmall_L79_eq, if_pos (by decide)]⟩
    obtain ⟨d, d1, d2⟩ := key
    refine ⟨_, ⟨c, d, rfl, h1, d2⟩, fun rec => ?_⟩
    rw [f_X10_laySmall_L2_eq, if_pos (by decide), sp_bndE, d1]
theorem sz_oneCut {S : Nat} (hS : S < 2 ^ 27) {d : Nat → Int32} (hd : ∀ a b, a < 27 → b < 27 → d (27 * a + b) = Int32.ofNat (sz_su a b)) : f_X10_oneCut (Int32.ofNat S) d = some (Int32.ofNat (sz_oc S)) := by
  have inner : ∀ (a acc : Nat), a < 27 → ∀ kk : Int32 → Option Int32, sp_lp (f_X10_oneCut_L13 kk (Int32.ofNat S) (Int32.ofNat a) d) sp_F (Int32.ofNat acc, (0 : Int32)) = kk (Int32.ofNat (acc ||| (if S.testBit a = true then sz_or (fun b => if S.testBit b = true then sz_su a b else 0) 27 else 0))) := by
    intro a acc ha kk
    by_cases q : S.testBit a = true
    · rw [if_pos q]
      refine sp_lp_fn 27 (fun b => (Int32.ofNat (acc ||| sz_or (fun b => if S.testBit b = true then sz_su a b else 0) b), Int32.ofNat b)) (fun b hb rec => ?_) (fun rec => ?_) (sp_F_lt (by omega)) ?_
      · rw [f_X10_oneCut_L13_eq, if_neg (show ¬ (27 : Int32) ≤ Int32.ofNat b from fun z => by have := (sp_i_le (i := 27) (by omega) (by omega)).mp z; omega), sb_bit32 (show S < 2 ^ 31 by omega) (by omega), if_pos q, if_pos rfl, sb_bit32 (show S < 2 ^ 31 by omega) (by omega), sz_i_27, sz_or_s]
        by_cases w : S.testBit b = true
        · rw [if_pos w, if_pos w]
          simp only [sp_bndE, if_true, sp_ld_at (show 27 * a + b < 729 by omega) (by omega : 729 < 1000000), hd a b ha hb, sb_or32, Nat.or_assoc, sp_i_succ]
        · rw [if_neg w, if_neg w, Nat.or_zero]
          simp only [sp_bndE, sz_01, if_false, Int32.or_zero, sp_i_succ]
      · rw [f_X10_oneCut_L13_eq, if_pos (by decide)]
      · show _ = (Int32.ofNat (acc ||| 0), Int32.ofNat 0)
        rw [Nat.or_zero]; rfl
    · rw [if_neg q, Nat.or_zero]
      refine sp_lp_fn 0 (fun _ => (Int32.ofNat acc, (0 : Int32))) (fun i hi => by omega) (fun rec => ?_) (sp_F_lt (by omega)) rfl
      rw [f_X10_oneCut_L13_eq, if_neg (by decide), sb_bit32 (show S < 2 ^ 31 by omega) (by omega), if_neg q, if_neg (by decide)]
  unfold f_X10_oneCut sz_oc
  rw [sp_bndE]
  refine sp_lp_fn 27 (fun a => (Int32.ofNat (sz_or (fun a => if S.testBit a = true then sz_or (fun b => if S.testBit b = true then sz_su a b else 0) 27 else 0) a), Int32.ofNat a)) (fun a ha rec => ?_) (fun rec => ?_) (sp_F_lt (by omega)) rfl
  · rw [f_X10_oneCut_L4_eq, if_neg (show ¬ (27 : Int32) ≤ Int32.ofNat a from fun z => by have := (sp_i_le (i := 27) (by omega) (by omega)).mp z; omega), sp_bndE, inner _ _ ha, sp_bndE, sp_i_succ]
    rfl
  · rw [f_X10_oneCut_L4_eq, if_pos (by decide)]
