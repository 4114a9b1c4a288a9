/-! a heap of two proofs -/
def sz_hk2 (p2 pn : Int32) (mn cl le ri lt : Nat → Int32) : Int32 → (Nat → Int32) → (Nat → Int32) → (Nat → Int32) → (Nat → Int32) → (Nat → Int32) → Option (Int32 × Int32 × (Nat → Int32) × (Nat → Int32) × (Nat → Int32) × (Nat → Int32) × (Nat → Int32) × Int32 × (Nat → Int32) × (Nat → Int32) × (Nat → Int32) × (Nat → Int32) × (Nat → Int32)) := fun (_c24 : Int32) (c25 : Nat → Int32) (c26 : Nat → Int32) (c27 : Nat → Int32) (c28 : Nat → Int32) (c29 : Nat → Int32) => sp_ld mn 12 p2 (fun v31 => sp_ld c29 48 (((24 : Int32) + v31) - (1 : Int32)) (fun v32 => sp_bnd (v32 + (1 : Int32)) (fun v33 => if v33 ≤ (24 : Int32) then (Option.bind (f_X10_comes pn mn cl le ri lt v33 c25 c26 c27 c28) (fun q9 => match q9 with | (r34, c35, c36, c37, c38, c39, c40) => some (r34, c35, c36, c37, c38, c39, c40, v33, c25, c26, c27, c28, c29))) else (some ((-3 : Int32), pn, mn, cl, le, ri, lt, v33, c25, c26, c27, c28, c29)))))
def sz_hk1 (p2 pn : Int32) (mn cl le ri lt sf : Nat → Int32) : Int32 → (Nat → Int32) → (Nat → Int32) → (Nat → Int32) → (Nat → Int32) → (Nat → Int32) → Option (Int32 × Int32 × (Nat → Int32) × (Nat → Int32) × (Nat → Int32) × (Nat → Int32) × (Nat → Int32) × Int32 × (Nat → Int32) × (Nat → Int32) × (Nat → Int32) × (Nat → Int32) × (Nat → Int32)) := fun c10 c11 c12 c13 c14 c15 => sp_bnd (sz_hk2 p2 pn mn cl le ri lt) (fun k30 => sp_lp (f_X10_heap_L58 mn p2 k30 cl le ri lt sf) sp_F ((0 : Int32), c10, c11, c12, c13, c14, c15))
theorem sz_heapE {p1 p2 pn nm : Int32} {mn cl le ri lt nc nl nr nt sd sf : Nat → Int32} (h1 : f_X10_isProof p1 pn = some 1) (h2 : f_X10_isProof p2 pn = some 1) : f_X10_heap p1 p2 pn mn cl le ri lt nm nc nl nr nt sd sf = sp_lp (f_X10_heap_L25 mn p1 (sz_hk1 p2 pn mn cl le ri lt sf) cl le ri lt sf) sp_F ((0 : Int32), (0 : Int32), nc, nl, nr, nt, sd) := by
  unfold f_X10_heap
  rw [h1, Option.bind_some, if_neg (by decide), h2, Option.bind_some, if_neg (by decide), sp_bndE]
  rfl
theorem sz_pred64 {a : Nat} (h : 1 ≤ a) : Int64.ofNat a - 1 = Int64.ofNat (a - 1) := by
  have : Int64.ofNat a = Int64.ofNat (a - 1) + 1 := by
    rw [show (1 : Int64) = Int64.ofNat 1 from rfl, ← Int64.ofNat_add]; congr 1; omega
  rw [this]
  simp
theorem sz_pc_full (t : Nat) : ∀ l, l ≤ t → sp_pc (2 ^ t - 1) l = l
  | 0, _ => rfl
  | l + 1, h => by rw [sp_pc, sz_pc_full t l (by omega), Nat.testBit_two_pow_sub_one, if_pos (by simp; omega)]
theorem sz_pc_more (t : Nat) : ∀ d, sp_pc (2 ^ t - 1) (t + d) = t
  | 0 => sz_pc_full t t (Nat.le_refl _)
  | d + 1 => by rw [← Nat.add_assoc, sp_pc, sz_pc_more t d, Nat.testBit_two_pow_sub_one, if_neg (by simp)]; rfl
/-- the first lines of a draft -/
theorem sz_prefix {x : sp_PrT} {m t : Nat} (h : sz_dr x m) (ht : t < m) (nu : Nat → Int32) : ∃ (y : sp_PrT) (nu' : Nat → Int32), f_X2_keepOnly (((1 : Int64) <<< ((Int32.ofNat t + (1 : Int32)).toInt64 &&& 63)) - (1 : Int64)) x.1 x.2.1 x.2.2.1 x.2.2.2.1 x.2.2.2.2.1 (Int32.ofNat m) nu = some (y.1, y.2.1, y.2.2.1, y.2.2.2.1, y.2.2.2.2.1, y.2.2.2.2.2.1, y.2.2.2.2.2.2, nu') ∧ sz_dr y (t + 1) ∧ sz_eq y x (t + 1) := by
  have hm := h.1
  have hS : 2 ^ (t + 1) - 1 < 2 ^ 63 := Nat.lt_of_lt_of_le (show 2 ^ (t + 1) - 1 < 2 ^ (t + 1) by have := Nat.one_le_two_pow (n := t + 1); omega) (Nat.pow_le_pow_right (by omega) (by omega))
  have hcl : sz_cls x (2 ^ (t + 1) - 1) m := by
    intro l hl hb hg
    rw [Nat.testBit_two_pow_sub_one] at hb
    have hlt : l < t + 1 := of_decide_eq_true hb
    rcases sz_line h hl with ⟨g, -, -⟩ | ⟨-, u, v, k, hu, hv, hk, e1, e2, -⟩
    · exact absurd g hg
    · rw [e1, e2, sp_i_nat (by omega), sp_i_nat (by omega), Nat.testBit_two_pow_sub_one, Nat.testBit_two_pow_sub_one]
      exact ⟨decide_eq_true (by omega), decide_eq_true (by omega)⟩
  obtain ⟨y, nu', k1, k2, k3⟩ := sz_keep h hS hcl nu
  have hpm : sp_pc (2 ^ (t + 1) - 1) m = t + 1 := by
    have := sz_pc_more (t + 1) (m - (t + 1))
    rw [show t + 1 + (m - (t + 1)) = m by omega] at this
    exact this
  rw [hpm] at k2
  refine ⟨y, nu', ?_, k2, fun l hl => ?_⟩
  · rw [sp_i_succ, sb_one64 (by omega), sz_pred64 Nat.one_le_two_pow]
    exact k1
  · obtain ⟨r1, r2, r3, r4⟩ := k3 l (by omega) (by rw [Nat.testBit_two_pow_sub_one]; exact decide_eq_true hl)
    rw [sz_pc_full (t + 1) l (by omega)] at r1 r2 r3 r4
    rcases sz_line h (show l < m by omega) with ⟨g, g2, g3⟩ | ⟨g, u, v, k, hu, hv, hk, e1, e2, -⟩
    · rw [if_pos g] at r3 r4
      exact ⟨r1, by rw [r3, g2], by rw [r4, g3], r2⟩
    · rw [if_neg g] at r3 r4
      rw [e1, sp_i_nat (by omega), sz_pc_full (t + 1) u (by omega)] at r3
      rw [e2, sp_i_nat (by omega), sz_pc_full (t + 1) v (by omega)] at r4
      exact ⟨r1, by rw [r3, e1], by rw [r4, e2], r2⟩
theorem sz_heapsE {sd sf nu : Nat → Int32} {ut : Int64} {x0 z1 z2 x1 x2 y : sp_PrT} {n1 n2 t m2 : Nat} {sd1 sd2 nu' : Nat → Int32} (h1 : f_X5_goesThrough 1 sd sf ut x0.1 x0.2.1 x0.2.2.1 x0.2.2.2.1 x0.2.2.2.2.1 0 0 z1.1 z1.2.1 z1.2.2.1 z1.2.2.2.1 (Int32.ofNat n1) = some (1, sd1, x1.1, x1.2.1, x1.2.2.1, x1.2.2.2.1, x1.2.2.2.2.1, x1.2.2.2.2.2.1, x1.2.2.2.2.2.2)) (h2 : f_X5_goesThrough 1 sd1 sf ut x1.1 x1.2.1 x1.2.2.1 x1.2.2.2.1 x1.2.2.2.2.1 x1.2.2.2.2.2.1 x1.2.2.2.2.2.2 z2.1 z2.2.1 z2.2.2.1 z2.2.2.2.1 (Int32.ofNat n2) = some (1, sd2, x2.1, x2.2.1, x2.2.2.1, x2.2.2.2.1, x2.2.2.2.2.1, x2.2.2.2.2.2.1, x2.2.2.2.2.2.2)) (hn2 : 1 ≤ n2) (hn24 : n2 ≤ 24) (ht : sd2 (n2 - 1) = Int32.ofNat t) (ht48 : t < 48) (hm2 : x2.2.2.2.2.2.1 = Int32.ofNat m2) (h3 : f_X2_keepOnly (((1 : Int64) <<< ((Int32.ofNat t + (1 : Int32)).toInt64 &&& 63)) - (1 : Int64)) x2.1 x2.2.1 x2.2.2.1 x2.2.2.2.1 x2.2.2.2.2.1 (Int32.ofNat m2) nu = some (y.1, y.2.1, y.2.2.1, y.2.2.2.1, y.2.2.2.2.1, y.2.2.2.2.2.1, y.2.2.2.2.2.2, nu')) (hy : y.2.2.2.2.2.1 = Int32.ofNat (t + 1)) : f_X5_heaps sd sf nu ut x0.1 x0.2.1 x0.2.2.1 x0.2.2.2.1 x0.2.2.2.2.1 z1.1 z1.2.1 z1.2.2.1 z1.2.2.2.1 (Int32.ofNat n1) z2.1 z2.2.1 z2.2.2.1 z2.2.2.2.1 (Int32.ofNat n2) = some ((if 24 < t + 1 then 0 else 1), sd2, nu', y.1, y.2.1, y.2.2.1, y.2.2.2.1, y.2.2.2.2.1, y.2.2.2.2.2.1, y.2.2.2.2.2.2) := by
  unfold f_X5_heaps f_X2_clear
  rw [Option.bind_some]
  show Option.bind _ _ = _
  rw [h1, Option.bind_some]
  show (if (1 : Int32) = 0 then _ else _) = _
  rw [if_neg (by decide), h2, Option.bind_some]
  show (if (1 : Int32) = 0 then _ else _) = _
  rw [if_neg (by decide), sp_i_pred hn2, sp_ld_at (show n2 - 1 < 48 by omega) (by omega), ht, hm2, h3, Option.bind_some]
  show (if (24 : Int32) < y.2.2.2.2.2.1 then _ else _) = _
  rw [hy]
  have hlt : ((24 : Int32) < Int32.ofNat (t + 1)) ↔ 24 < t + 1 := sp_i_lt (i := 24) (by omega) (by omega)
  by_cases q : 24 < t + 1
  · rw [if_pos (hlt.mpr q), if_pos q]
  · rw [if_neg (fun w => q (hlt.mp w)), if_neg q]
