/-! drafts: loops with what is kept, lines added, proofs that come -/
theorem sz_lp_Q {σ β : Type} {F : (σ → Option β) → σ → Option β} (Q : Option β → Prop) (n : Nat) (P : Nat → σ → Prop) (hstep : ∀ i s, i < n → P i s → (∃ o, Q o ∧ ∀ rec, F rec s = o) ∨ (∃ s', P (i + 1) s' ∧ ∀ rec, F rec s = rec s')) (hend : ∀ s, P n s → ∃ o, Q o ∧ ∀ rec, F rec s = o) : ∀ (fuel : Nat) (s : σ), n < fuel → P 0 s → Q (sp_lp F fuel s) := by
  have key : ∀ (k i fuel : Nat) (s : σ), i + k = n → k < fuel → P i s → Q (sp_lp F fuel s) := by
    intro k
    induction k with
    | zero =>
      intro i fuel s hi hf hP
      obtain rfl : i = n := by omega
      cases fuel with
      | zero => omega
      | succ f =>
        obtain ⟨o, h1, h2⟩ := hend s hP
        show Q (F (sp_lp F f) s)
        rw [h2]; exact h1
    | succ k ih =>
      intro i fuel s hi hf hP
      cases fuel with
      | zero => omega
      | succ f =>
        show Q (F (sp_lp F f) s)
        rcases hstep i s (by omega) hP with ⟨o, h1, h2⟩ | ⟨s', h1, h2⟩
        · rw [h2]; exact h1
        · rw [h2]
          exact ih (i + 1) f s' (by omega) (by omega) h1
  intro fuel s hf hP
  exact key n 0 fuel s (by omega) hf hP
theorem sz_lp2 {σ τ β γ : Type} {F : (σ → Option β) → σ → Option β} {G : (τ → Option γ) → τ → Option γ} (Q : Option β → Option γ → Prop) (n : Nat) (P : Nat → σ → τ → Prop) (hstep : ∀ i s t, i < n → P i s t → (∃ o u, Q o u ∧ (∀ rec, F rec s = o) ∧ ∀ rec, G rec t = u) ∨ (∃ s' t', P (i + 1) s' t' ∧ (∀ rec, F rec s = rec s') ∧ ∀ rec, G rec t = rec t')) (hend : ∀ s t, P n s t → ∃ o u, Q o u ∧ (∀ rec, F rec s = o) ∧ ∀ rec, G rec t = u) : ∀ (f g : Nat) (s : σ) (t : τ), n < f → n < g → P 0 s t → Q (sp_lp F f s) (sp_lp G g t) := by
  have key : ∀ (k i f g : Nat) (s : σ) (t : τ), i + k = n → k < f → k < g → P i s t → Q (sp_lp F f s) (sp_lp G g t) := by
    intro k
    induction k with
    | zero =>
      intro i f g s t hi hf hg hP
      obtain rfl : i = n := by omega
      cases f with
      | zero => omega
      | succ f =>
        cases g with
        | zero => omega
        | succ g =>
          obtain ⟨o, u, h1, h2, h3⟩ := hend s t hP
          show Q (F (sp_lp F f) s) (G (sp_lp G g) t)
          rw [h2, h3]; exact h1
    | succ k ih =>
      intro i f g s t hi hf hg hP
      cases f with
      | zero => omega
      | succ f =>
        cases g with
        | zero => omega
        | succ g =>
          show Q (F (sp_lp F f) s) (G (sp_lp G g) t)
          rcases hstep i s t (by omega) hP with ⟨o, u, h1, h2, h3⟩ | ⟨s', t', h1, h2, h3⟩
          · rw [h2, h3]; exact h1
          · rw [h2, h3]
            exact ih (i + 1) f g s' t' (by omega) (by omega) (by omega) h1
  intro f g s t hf hg hP
  exact key n 0 f g s t (by omega) hf hg hP
/-- a draft of m lines -/
def sz_dr (x : sp_PrT) (m : Nat) : Prop := m ≤ 48 ∧ x.2.2.2.2.2.1 = Int32.ofNat m ∧ (∀ l, l < m → sp_lineOK x.1 x.2.1 x.2.2.1 x.2.2.2.1 l) ∧ x.2.2.2.2.2.2 = Int32.ofNat (sp_gn x.2.2.2.1 m) ∧ ∀ l, l < m → x.2.2.2.1 l = -9 → x.2.2.2.2.1 (sp_gn x.2.2.2.1 l) = Int32.ofNat l
theorem sz_dr_pr {x : sp_PrT} {m : Nat} (h : sz_dr x m) (h1 : 1 ≤ m) (h24 : m ≤ 24) : sp_prOK x m := ⟨h1, h24, h.2.1, h.2.2.1, h.2.2.2.1, h.2.2.2.2⟩
/-- the reference's new lines are the draft's -/
def sz_sm (x : sp_PrT) (nc nl nr nt : Nat → Int32) (m : Nat) : Prop := ∀ l, l < m → nc l = x.1 l ∧ nl l = x.2.1 l ∧ nr l = x.2.2.1 l ∧ nt l = x.2.2.2.1 l
theorem sz_gn_ext {lt lt' : Nat → Int32} : ∀ n, (∀ l, l < n → lt l = lt' l) → sp_gn lt n = sp_gn lt' n
  | 0, _ => rfl
  | n + 1, h => by rw [sp_gn, sp_gn, sz_gn_ext n (fun l hl => h l (by omega)), h n (by omega)]
/-- a new line -/
def sz_new (x : sp_PrT) (m : Nat) (c a b t : Int32) : sp_PrT := (upd x.1 m c, upd x.2.1 m a, upd x.2.2.1 m b, upd x.2.2.2.1 m t, (if t = -9 then upd x.2.2.2.2.1 (sp_gn x.2.2.2.1 m) (Int32.ofNat m) else x.2.2.2.2.1), Int32.ofNat (m + 1), (if t = -9 then Int32.ofNat (sp_gn x.2.2.2.1 m + 1) else x.2.2.2.2.2.2))
/-- a new line's form -/
def sz_ok (x : sp_PrT) (m : Nat) (c a b t : Int32) : Prop := f_X10_isClause c = some 1 ∧ ((a = -9 ∧ b = -9 ∧ t = -9) ∨ ∃ i j k : Nat, i < m ∧ j < m ∧ k < 6 ∧ a = Int32.ofNat i ∧ b = Int32.ofNat j ∧ t = Int32.ofNat k ∧ f_X10_cutOf (x.1 i) (x.1 j) (Int32.ofNat k) = some c)
theorem sz_new_dr {x : sp_PrT} {m : Nat} {c a b t : Int32} (h : sz_dr x m) (hm : m < 48) (hok : sz_ok x m c a b t) : sz_dr (sz_new x m c a b t) (m + 1) := by
  have hgn : sp_gn (upd x.2.2.2.1 m t) m = sp_gn x.2.2.2.1 m := sz_gn_ext m (fun l hl => sz_upd_ne (by omega))
  have hgl : ∀ l, l < m → sp_gn (upd x.2.2.2.1 m t) l = sp_gn x.2.2.2.1 l := fun l hl => sz_gn_ext l (fun j hj => sz_upd_ne (by omega))
  refine ⟨by omega, rfl, fun l hl => ?_, ?_, fun l hl hg => ?_⟩
  · show sp_lineOK (upd x.1 m c) (upd x.2.1 m a) (upd x.2.2.1 m b) (upd x.2.2.2.1 m t) l
    unfold sp_lineOK
    by_cases e : l = m
    · subst e
      rw [sz_upd_at, sz_upd_at, sz_upd_at, sz_upd_at]
      refine ⟨hok.1, ?_⟩
      rcases hok.2 with q | ⟨i, j, k, hi, hj, hk, e1, e2, e3, e4⟩
      · exact Or.inl q
      · exact Or.inr ⟨i, j, k, hi, hj, hk, e1, e2, e3, by rw [sz_upd_ne (by omega), sz_upd_ne (by omega)]; exact e4⟩
    · rw [sz_upd_ne e, sz_upd_ne e, sz_upd_ne e, sz_upd_ne e]
      obtain ⟨q1, q2⟩ := h.2.2.1 l (by omega)
      refine ⟨q1, ?_⟩
      rcases q2 with q | ⟨i, j, k, hi, hj, hk, e1, e2, e3, e4⟩
      · exact Or.inl q
      · exact Or.inr ⟨i, j, k, hi, hj, hk, e1, e2, e3, by rw [sz_upd_ne (by omega), sz_upd_ne (by omega)]; exact e4⟩
  · show (if t = -9 then Int32.ofNat (sp_gn x.2.2.2.1 m + 1) else x.2.2.2.2.2.2) = Int32.ofNat (sp_gn (upd x.2.2.2.1 m t) (m + 1))
    rw [sp_gn, hgn, sz_upd_at]
    by_cases q : t = -9
    · rw [if_pos q, if_pos q]
    · rw [if_neg q, if_neg q]; exact h.2.2.2.1
  · show (if t = -9 then upd x.2.2.2.2.1 (sp_gn x.2.2.2.1 m) (Int32.ofNat m) else x.2.2.2.2.1) (sp_gn (upd x.2.2.2.1 m t) l) = Int32.ofNat l
    have hg' : upd x.2.2.2.1 m t l = -9 := hg
    by_cases e : l = m
    · subst e
      rw [sz_upd_at] at hg'
      rw [if_pos hg', hgn, sz_upd_at]
    · rw [sz_upd_ne e] at hg'
      have hlm : l < m := by omega
      rw [hgl l hlm]
      have hlt := sp_gn_lt hlm hg'
      by_cases q : t = -9
      · rw [if_pos q, sz_upd_ne (by omega)]
        exact h.2.2.2.2 l hlm hg'
      · rw [if_neg q]
        exact h.2.2.2.2 l hlm hg'
theorem sz_add {x : sp_PrT} {m : Nat} {c a b t : Int32} (h : sz_dr x m) (hm : m < 48) (hok : sz_ok x m c a b t) : f_X2_add c a b t x.1 x.2.1 x.2.2.1 x.2.2.2.1 x.2.2.2.2.1 x.2.2.2.2.2.1 x.2.2.2.2.2.2 = some (Int32.ofNat m, (sz_new x m c a b t).1, (sz_new x m c a b t).2.1, (sz_new x m c a b t).2.2.1, (sz_new x m c a b t).2.2.2.1, (sz_new x m c a b t).2.2.2.2.1, (sz_new x m c a b t).2.2.2.2.2.1, (sz_new x m c a b t).2.2.2.2.2.2) := by
  have hgl := sp_gn_le x.2.2.2.1 m
  unfold f_X2_add
  rw [h.2.1, if_pos (show Int32.ofNat m < 48 from (sp_i_lt (n := 48) (by omega) (by omega)).mpr hm), sp_st_at (show m < 48 by omega) (by omega), sp_st_at (show m < 48 by omega) (by omega), sp_st_at (show m < 48 by omega) (by omega), sp_st_at (show m < 48 by omega) (by omega), sp_bndE]
  have hpm : Int32.ofNat (m + 1) - 1 = Int32.ofNat m := sp_i_pred (i := m + 1) (by omega)
  unfold sz_new
  rcases hok.2 with ⟨e1, e2, e3⟩ | ⟨i, j, k, hi, hj, hk, e1, e2, e3, e4⟩
  · rw [if_neg (show ¬ (0 : Int32) ≤ a by rw [e1]; decide), h.2.2.2.1, sp_st_at (show sp_gn x.2.2.2.1 m < 48 by omega) (by omega)]
    simp only [sp_bndE, sp_i_succ, hpm, if_pos e3]
  · have ht : ¬ t = -9 := by rw [e3]; exact sp_i_neg (by omega)
    rw [if_pos (show (0 : Int32) ≤ a by rw [e1]; exact Int32.not_lt.mp (sp_i_nn (by omega)))]
    simp only [sp_bndE, sp_i_succ, hpm, if_neg ht]
theorem sz_addM {nc nl nr nt : Nat → Int32} {m : Nat} (hm : m < 64) (c a b t : Int32) : f_X10_add c a b t (Int32.ofNat m) nc nl nr nt = some (Int32.ofNat m, Int32.ofNat (m + 1), upd nc m c, upd nl m a, upd nr m b, upd nt m t) := by
  unfold f_X10_add
  rw [sp_st_at (show m < 64 by omega) (by omega), sp_st_at (show m < 64 by omega) (by omega), sp_st_at (show m < 64 by omega) (by omega), sp_st_at (show m < 64 by omega) (by omega), sp_bndE, sp_i_succ, sp_i_pred (i := m + 1) (by omega)]
  rfl
theorem sz_new_sm {x : sp_PrT} {nc nl nr nt : Nat → Int32} {m : Nat} {c a b t : Int32} (h : sz_sm x nc nl nr nt m) : sz_sm (sz_new x m c a b t) (upd nc m c) (upd nl m a) (upd nr m b) (upd nt m t) (m + 1) := by
  intro l hl
  show upd nc m c l = upd x.1 m c l ∧ upd nl m a l = upd x.2.1 m a l ∧ upd nr m b l = upd x.2.2.1 m b l ∧ upd nt m t l = upd x.2.2.2.1 m t l
  by_cases e : l = m
  · subst e
    simp only [sz_upd_at]
    exact ⟨trivial, trivial, trivial, trivial⟩
  · simp only [sz_upd_ne e]
    exact h l (by omega)
