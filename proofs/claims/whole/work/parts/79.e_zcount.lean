/-! how many cuts fall away by way 4: no fewer than there are units -/
def sz_sg (f : Nat → Nat) : Nat → Nat
  | 0 => 0
  | n + 1 => sz_sg f n + f n
theorem sz_sg_s (f : Nat → Nat) (n : Nat) : sz_sg f (n + 1) = sz_sg f n + f n := rfl
theorem sz_sg_le {f g : Nat → Nat} : ∀ n, (∀ i, i < n → f i ≤ g i) → sz_sg f n ≤ sz_sg g n
  | 0, _ => Nat.le_refl _
  | n + 1, h => by
    have h1 := sz_sg_le n (fun i hi => h i (by omega))
    have h2 := h n (by omega)
    rw [sz_sg_s, sz_sg_s]; omega
theorem sz_sg_zero : ∀ n, sz_sg (fun _ => 0) n = 0
  | 0 => rfl
  | n + 1 => by rw [sz_sg_s, sz_sg_zero n]
theorem sz_sg_add (f g : Nat → Nat) : ∀ n, sz_sg (fun i => f i + g i) n = sz_sg f n + sz_sg g n
  | 0 => rfl
  | n + 1 => by rw [sz_sg_s, sz_sg_s, sz_sg_s, sz_sg_add f g n]; omega
theorem sz_sg_dbl (f : Nat → Nat) : ∀ n, sz_sg (fun i => 2 * f i) n = 2 * sz_sg f n
  | 0 => rfl
  | n + 1 => by rw [sz_sg_s, sz_sg_s, sz_sg_dbl f n]; omega
theorem sz_sg_swap (f : Nat → Nat → Nat) (m : Nat) : ∀ n, sz_sg (fun i => sz_sg (f i) m) n = sz_sg (fun j => sz_sg (fun i => f i j) n) m
  | 0 => (sz_sg_zero m).symm
  | n + 1 => by
    rw [sz_sg_s, sz_sg_swap f m n, ← sz_sg_add]
    rfl
theorem sz_sg_pos {f : Nat → Nat} : ∀ n, 0 < sz_sg f n → ∃ i, i < n ∧ 0 < f i
  | 0, h => absurd h (by rw [sz_sg]; omega)
  | n + 1, h => by
    rw [sz_sg_s] at h
    by_cases q : 0 < f n
    · exact ⟨n, by omega, q⟩
    · obtain ⟨i, h1, h2⟩ := sz_sg_pos (f := f) n (by omega)
      exact ⟨i, by omega, h2⟩
theorem sz_sg_one (a : Nat) : ∀ n, sz_sg (fun i => if i = a then 1 else 0) n = if a < n then 1 else 0
  | 0 => by rw [if_neg (by omega)]; rfl
  | n + 1 => by
    rw [sz_sg_s, sz_sg_one a n]
    by_cases q : a < n
    · rw [if_pos q, if_neg (show ¬ n = a by omega), if_pos (by omega)]
    · by_cases e : n = a
      · rw [if_neg q, if_pos e, if_pos (by omega)]
      · rw [if_neg q, if_neg e, if_neg (by omega)]
/-- from how many units a line is cut -/
def sz_w (z : sp_PrT) (R n l : Nat) : Nat := sz_sg (fun u => if sp_frm z l u ∧ sz_un z R n u then 1 else 0) n
theorem sz_w_le {z : sp_PrT} {n : Nat} (h : sp_prOK z n) (R : Nat) {l : Nat} (hl : l < n) : sz_w z R n l ≤ 2 := by
  have hn := h.2.1
  unfold sz_w
  by_cases hg : z.2.2.2.1 l = -9
  · have := sz_sg_le (f := fun u => if sp_frm z l u ∧ sz_un z R n u then 1 else 0) (g := fun _ => 0) n (fun i hi => by
      show (if _ then 1 else 0) ≤ 0
      rw [if_neg (fun q => q.1.1 hg)]
      exact Nat.le_refl _)
    rw [sz_sg_zero] at this
    omega
  · obtain ⟨a, b, k, ha, hb, hk, e1, e2, e3, -⟩ := sp_cutL h hl hg
    have := sz_sg_le (f := fun u => if sp_frm z l u ∧ sz_un z R n u then 1 else 0) (g := fun u => (if u = a then 1 else 0) + (if u = b then 1 else 0)) n (fun i hi => by
      show (if _ then 1 else 0) ≤ (if i = a then 1 else 0) + (if i = b then 1 else 0)
      by_cases q : sp_frm z l i ∧ sz_un z R n i
      · rw [if_pos q]
        rcases q.1.2 with q' | q'
        · rw [e1] at q'
          rw [if_pos ((sp_i_inj (by omega) (by omega)).mp q').symm]
          omega
        · rw [e2] at q'
          rw [if_pos (show i = b from ((sp_i_inj (by omega) (by omega)).mp q').symm)]
          omega
      · rw [if_neg q]; omega)
    rw [sz_sg_add, sz_sg_one, sz_sg_one] at this
    refine Nat.le_trans this ?_
    split <;> split <;> omega
theorem sz_ct_sg {z : sp_PrT} {R n a : Nat} (hu : sz_un z R n a) : ∀ d, sz_ct z R a d ≤ sz_sg (fun l => if sp_frm z l a ∧ sz_un z R n a then 1 else 0) (a + 1 + d)
  | 0 => by rw [sz_ct]; omega
  | d + 1 => by
    have ih := sz_ct_sg hu d
    rw [sz_ct, ← Nat.add_assoc, sz_sg_s]
    by_cases q : R.testBit (a + 1 + d) = true ∧ sp_frm z (a + 1 + d) a
    · rw [if_pos q, if_pos ⟨q.2, hu⟩]; omega
    · rw [if_neg q]; omega
theorem sz_few {z : sp_PrT} {n : Nat} (h : sp_prOK z n) (R : Nat) : sz_sg (fun u => if sz_un z R n u then 1 else 0) n ≤ sz_sg (fun l => min 1 (sz_w z R n l)) n := by
  have k1 : sz_sg (fun u => 2 * (if sz_un z R n u then 1 else 0)) n ≤ sz_sg (fun u => sz_sg (fun l => if sp_frm z l u ∧ sz_un z R n u then 1 else 0) n) n := by
    refine sz_sg_le n (fun u hu => ?_)
    show 2 * (if sz_un z R n u then 1 else 0) ≤ sz_sg (fun l => if sp_frm z l u ∧ sz_un z R n u then 1 else 0) n
    by_cases q : sz_un z R n u
    · rw [if_pos q]
      have h1 := sz_ct_sg q (n - 1 - u)
      rw [show u + 1 + (n - 1 - u) = n by omega] at h1
      have h2 := q.2.2.2
      omega
    · rw [if_neg q]; omega
  rw [sz_sg_dbl, ← sz_sg_swap (fun l u => if sp_frm z l u ∧ sz_un z R n u then 1 else 0) n n] at k1
  have k2 : sz_sg (fun l => sz_w z R n l) n ≤ sz_sg (fun l => 2 * min 1 (sz_w z R n l)) n := by
    refine sz_sg_le n (fun l hl => ?_)
    have := sz_w_le h R hl
    show sz_w z R n l ≤ 2 * min 1 (sz_w z R n l)
    omega
  rw [sz_sg_dbl] at k2
  have k3 : sz_sg (fun l => sz_w z R n l) n = sz_sg (fun l => sz_sg (fun u => if sp_frm z l u ∧ sz_un z R n u then 1 else 0) n) n := rfl
  omega
/-- a cut from a unit falls away -/
theorem sz_drop {z x : sp_PrT} {n l u : Nat} {sd sf : Nat → Int32} {ut : Int64} (h : sp_prOK z n) (hl : l < n) (hin : ∀ j, j < n → ∃ b : Int32, (b = 0 ∨ b = 1) ∧ f_X9_isIn (Int32.ofNat j) ut = some b) (hf : sp_frm z l u) (hu : u < n) (hi : f_X9_isIn (Int32.ofNat u) ut = some 1) : ∃ r : Int32, f_X5_standIn (Int32.ofNat l) 4 sd sf ut x.1 x.2.1 x.2.2.1 x.2.2.2.1 x.2.2.2.2.1 x.2.2.2.2.2.1 x.2.2.2.2.2.2 z.1 z.2.1 z.2.2.1 z.2.2.2.1 = some (r, x.1, x.2.1, x.2.2.1, x.2.2.2.1, x.2.2.2.2.1, x.2.2.2.2.2.1, x.2.2.2.2.2.2) := by
  have hn := h.2.1
  obtain ⟨a, b, k, ha, hb, hk, e1, e2, e3, -⟩ := sp_cutL h hl hf.1
  obtain ⟨ba, a1, a2⟩ := hin a (by omega)
  obtain ⟨bb, b1, b2⟩ := hin b (by omega)
  unfold f_X5_standIn
  rw [sp_isGround h hl, Option.bind_some, if_neg hf.1, if_pos rfl]
  simp only [sp_ld_at (show l < 48 by omega) (by omega : 48 < 1000000), e1, e2, e3, sp_ld_at (show a < 48 by omega) (by omega : 48 < 1000000), sp_ld_at (show b < 48 by omega) (by omega : 48 < 1000000), sp_bndE, if_neg (show ¬ (4 : Int32) = 3 by decide), if_pos (show (4 : Int32) = 4 from rfl), a2, b2, Option.bind_some]
  rcases a1 with rfl | rfl
  · rcases b1 with rfl | rfl
    · exfalso
      rcases hf.2 with q | q
      · rw [e1] at q
        rw [← q, a2] at hi
        exact absurd (Option.some.inj hi) (by decide)
      · rw [e2] at q
        rw [← q, b2] at hi
        exact absurd (Option.some.inj hi) (by decide)
    · simp only [sp_one_ne, if_false, if_true]
      exact ⟨_, rfl⟩
  · simp only [sp_one_ne, if_false]
    exact ⟨_, rfl⟩
