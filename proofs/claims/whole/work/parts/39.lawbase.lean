/-! the whole world of the law, by counting its cells -/
noncomputable def sp_cnt (q : Nat × va_E) (l : va_W) : Nat := @List.count _ (@instBEqOfDecidableEq _ (fun a b => Classical.propDecidable (a = b))) q l
theorem sp_cnt_app (q : Nat × va_E) (a b : va_W) : sp_cnt q (a ++ b) = sp_cnt q a + sp_cnt q b := @List.count_append _ (@instBEqOfDecidableEq _ (fun a b => Classical.propDecidable (a = b))) q a b
theorem sp_cnt_perm {l₁ l₂ : va_W} (h : l₁.Perm l₂) (q : Nat × va_E) : sp_cnt q l₁ = sp_cnt q l₂ := @List.Perm.count_eq _ (@instBEqOfDecidableEq _ (fun a b => Classical.propDecidable (a = b))) l₁ l₂ h q
theorem sp_perm_of {l₁ l₂ : va_W} (h : ∀ q, sp_cnt q l₁ = sp_cnt q l₂) : l₁.Perm l₂ := by
  have : DecidableEq (Nat × va_E) := fun a b => Classical.propDecidable (a = b)
  refine (@List.perm_iff_count _ (@instBEqOfDecidableEq _ (fun a b => Classical.propDecidable (a = b))) _ l₁ l₂).mpr h
def sp_G {α : Type} (n : Nat) (F : Nat → α → va_W) (x : Nat → α) (ex : List Nat) : va_W := ((List.range n).filter (fun k => !ex.contains k)).flatMap (fun k => F k (x k))
theorem sp_PG_G (q5 : Nat → ClassId) (n : Nat) (u : Nat → Nat → Nat) (x : Nat → sp_PrT) : sp_PG q5 n u x = sp_G n (fun k => sp_pr (u k) q5) x [] := by
  unfold sp_PG sp_G
  rw [show (List.range n).filter (fun k => !([] : List Nat).contains k) = List.range n from List.filter_eq_self.mpr (fun _ _ => rfl)]
theorem sp_SG_G (q5 : Nat → ClassId) (n : Nat) (u : Nat → Nat → Nat) (x : Nat → sp_ShT) : sp_SG q5 n u x = sp_G n (fun k => sp_sh (u k) q5) x [] := by
  unfold sp_SG sp_G
  rw [show (List.range n).filter (fun k => !([] : List Nat).contains k) = List.range n from List.filter_eq_self.mpr (fun _ _ => rfl)]
theorem sp_flt {α : Type} (F : Nat → List α) (i : Nat) (ex : List Nat) (hex : i ∉ ex) : ∀ L : List Nat, L.Nodup → i ∈ L → ((L.filter (fun k => !ex.contains k)).flatMap F).Perm (F i ++ (L.filter (fun k => !(i :: ex).contains k)).flatMap F)
  | [], _, h => absurd h List.not_mem_nil
  | a :: L, hn, h => by
    have hn' := List.nodup_cons.mp hn
    by_cases hai : a = i
    · subst hai
      have e1 : (a :: L).filter (fun k => !ex.contains k) = a :: L.filter (fun k => !ex.contains k) := by
        rw [List.filter_cons_of_pos]; simp [hex]
      have e2 : (a :: L).filter (fun k => !(a :: ex).contains k) = L.filter (fun k => !ex.contains k) := by
        rw [List.filter_cons_of_neg (by simp)]
        apply List.filter_congr
        intro k hk
        have : k ≠ a := fun e => hn'.1 (e ▸ hk)
        simp [this]
      rw [e1, e2, List.flatMap_cons]
    · have hi : i ∈ L := by
        rcases List.mem_cons.mp h with h | h
        · exact absurd h.symm hai
        · exact h
      have ih := sp_flt F i ex hex L hn'.2 hi
      by_cases hx : a ∈ ex
      · rw [List.filter_cons_of_neg (by simp [hx]), List.filter_cons_of_neg (by simp [hx])]
        exact ih
      · rw [List.filter_cons_of_pos (by simp [hx]), List.filter_cons_of_pos (by simp [hx, hai]), List.flatMap_cons, List.flatMap_cons]
        exact (ih.append_left _).trans (List.perm_append_comm_assoc _ _ _)
theorem sp_Gc {α : Type} {n : Nat} {F : Nat → α → va_W} {x : Nat → α} {i : Nat} (ex : List Nat) (hi : i < n) (hex : i ∉ ex) (q : Nat × va_E) : sp_cnt q (sp_G n F x ex) = sp_cnt q (F i (x i)) + sp_cnt q (sp_G n F x (i :: ex)) := by
  rw [← sp_cnt_app]
  exact sp_cnt_perm (sp_flt (fun k => F k (x k)) i ex hex (List.range n) List.nodup_range (List.mem_range.mpr hi)) q
theorem sp_Gu {α : Type} {n : Nat} {F : Nat → α → va_W} {x : Nat → α} {i : Nat} {v : α} (ex : List Nat) (hex : i ∈ ex) : sp_G n F (sp_up x i v) ex = sp_G n F x ex := by
  unfold sp_G
  show (List.map _ _).flatten = (List.map _ _).flatten
  congr 1
  apply List.map_congr_left
  intro k hk
  have h1 := (List.mem_filter.mp hk).2
  have : k ≠ i := by
    intro e
    subst e
    simp [hex] at h1
  simp [sp_up, this]
theorem sp_up_self {α : Type} (x : Nat → α) (i : Nat) (v : α) : sp_up x i v i = v := by simp [sp_up]
theorem sp_up_ne {α : Type} (x : Nat → α) {i j : Nat} (v : α) (h : j ≠ i) : sp_up x i v j = x j := by simp [sp_up, h]
section SPG
variable {α : Type} {n : Nat} {F : Nat → α → va_W} {x : Nat → α} {i j k : Nat} {v : α}
theorem sp_G1 (hi : i < n) (q : Nat × va_E) : sp_cnt q (sp_G n F x []) = sp_cnt q (F i (x i)) + sp_cnt q (sp_G n F x [i]) := sp_Gc [] hi List.not_mem_nil q
theorem sp_G2 (hi : i < n) (hj : j < n) (hij : j ≠ i) (q : Nat × va_E) : sp_cnt q (sp_G n F x []) = sp_cnt q (F i (x i)) + sp_cnt q (F j (x j)) + sp_cnt q (sp_G n F x [j, i]) := by
  rw [sp_G1 hi, sp_Gc [i] hj (by simp [hij])]; omega
theorem sp_G3 (hi : i < n) (hj : j < n) (hk : k < n) (hij : j ≠ i) (hik : k ≠ i) (hjk : k ≠ j) (q : Nat × va_E) : sp_cnt q (sp_G n F x []) = sp_cnt q (F i (x i)) + sp_cnt q (F j (x j)) + sp_cnt q (F k (x k)) + sp_cnt q (sp_G n F x [k, j, i]) := by
  rw [sp_G2 hi hj hij, sp_Gc [j, i] hk (by simp [hik, hjk])]; omega
theorem sp_U1 (hi : i < n) (q : Nat × va_E) : sp_cnt q (sp_G n F (sp_up x i v) []) = sp_cnt q (F i v) + sp_cnt q (sp_G n F x [i]) := by
  rw [sp_G1 hi, sp_up_self, sp_Gu [i] (by simp)]
theorem sp_U2 (hi : i < n) (hj : j < n) (hij : j ≠ i) (q : Nat × va_E) : sp_cnt q (sp_G n F (sp_up x j v) []) = sp_cnt q (F i (x i)) + sp_cnt q (F j v) + sp_cnt q (sp_G n F x [j, i]) := by
  rw [sp_G2 hi hj hij, sp_up_self, sp_up_ne _ _ (Ne.symm hij), sp_Gu [j, i] (by simp)]
theorem sp_U3 (hi : i < n) (hj : j < n) (hk : k < n) (hij : j ≠ i) (hik : k ≠ i) (hjk : k ≠ j) (q : Nat × va_E) : sp_cnt q (sp_G n F (sp_up x k v) []) = sp_cnt q (F i (x i)) + sp_cnt q (F j (x j)) + sp_cnt q (F k v) + sp_cnt q (sp_G n F x [k, j, i]) := by
  rw [sp_G3 hi hj hk hij hik hjk, sp_up_self, sp_up_ne _ _ (Ne.symm hik), sp_up_ne _ _ (Ne.symm hjk), sp_Gu [k, j, i] (by simp)]
end SPG
/-! places -/
theorem sp_ok_in {n : Nat} {p : Int32} : sp_ok n p = true ↔ vp_in p n := by simp [sp_ok, vp_in]
theorem sp_in_lt {n : Nat} {p : Int32} (h : vp_in p n) : p.toNatClampNeg < n := Nat.not_le.mp fun q => h (Or.inr q)
theorem sp_ix_eq {n : Nat} {p : Int32} (h : vp_in p n) : sp_ix n p = p.toNatClampNeg := if_neg h
theorem sp_ix_lt {n : Nat} {p : Int32} (hn : 0 < n) : sp_ix n p < n := by
  unfold sp_ix
  split
  · exact hn
  · rename_i h; exact sp_in_lt h
theorem sp_in_inj {n : Nat} {p q : Int32} (hp : vp_in p n) (hq : vp_in q n) (h : p.toNatClampNeg = q.toNatClampNeg) : p = q := by
  have h1 : ¬ p < 0 := fun e => hp (Or.inl e)
  have h2 : ¬ q < 0 := fun e => hq (Or.inl e)
  rw [Int32.not_lt, Int32.le_iff_toInt_le] at h1 h2
  have h3 : (0 : Int32).toInt = 0 := rfl
  rw [h3] at h1 h2
  apply Int32.toInt_inj.mp
  have e1 : p.toNatClampNeg = p.toInt.toNat := rfl
  have e2 : q.toNatClampNeg = q.toInt.toNat := rfl
  omega
theorem sp_ix2_eq {n : Nat} {p q : Int32} (h : vp_in p n) : sp_ix2 n p q = p.toNatClampNeg := by unfold sp_ix2; rw [if_pos (sp_ok_in.mpr h)]
theorem sp_ix12_eq {n : Nat} {p q : Int32} (h : vp_in q n) : sp_ix12 n p q = q.toNatClampNeg := by unfold sp_ix12; rw [if_pos (sp_ok_in.mpr h)]
theorem sp_ix2_lt {n : Nat} {p q : Int32} (hn : 1 < n) : sp_ix2 n p q < n := by
  unfold sp_ix2
  split
  · rename_i h; exact sp_in_lt (sp_ok_in.mp h)
  · split
    · split <;> omega
    · omega
theorem sp_ix12_lt {n : Nat} {p q : Int32} (hn : 1 < n) : sp_ix12 n p q < n := by
  unfold sp_ix12
  split
  · rename_i h; exact sp_in_lt (sp_ok_in.mp h)
  · split
    · split <;> omega
    · omega
theorem sp_ix_ne {n : Nat} {p q : Int32} (hpq : ¬ p = q) : sp_ix12 n p q ≠ sp_ix2 n p q := by
  unfold sp_ix12 sp_ix2
  by_cases hp : sp_ok n p = true <;> by_cases hq : sp_ok n q = true
  · rw [if_pos hq, if_pos hp]
    exact fun e => hpq (sp_in_inj (sp_ok_in.mp hp) (sp_ok_in.mp hq) e.symm)
  · rw [if_neg hq, if_pos hp, if_pos hp]; split <;> omega
  · rw [if_pos hq, if_neg hp, if_pos hq]; split <;> omega
  · rw [if_neg hq, if_neg hp, if_neg hp, if_neg hq]; omega
theorem sp_ixT_eq {i j : Nat} {pn : Int32} (h : vp_in pn 12) : sp_ixT i j pn = pn.toNatClampNeg := by unfold sp_ixT; rw [if_pos (sp_ok_in.mpr h)]
theorem sp_ixT_lt {i j : Nat} {pn : Int32} : sp_ixT i j pn < 12 := by
  unfold sp_ixT
  split
  · rename_i h; exact sp_in_lt (sp_ok_in.mp h)
  · split
    · omega
    · split <;> omega
theorem sp_lt_nat {p q : Int32} {n : Nat} (hp : vp_in p n) (hpq : p < q) : p.toNatClampNeg < q.toNatClampNeg := by
  have h1 : ¬ p < 0 := fun e => hp (Or.inl e)
  rw [Int32.not_lt, Int32.le_iff_toInt_le] at h1
  rw [Int32.lt_iff_toInt_lt] at hpq
  have h3 : (0 : Int32).toInt = 0 := rfl
  rw [h3] at h1
  have e1 : p.toNatClampNeg = p.toInt.toNat := rfl
  have e2 : q.toNatClampNeg = q.toInt.toNat := rfl
  omega
theorem sp_ixT_ne {p q pn : Int32} (hp : vp_in p 12) (hpn : p < pn) (hq : vp_in q 12) (hqn : q < pn) : sp_ixT p.toNatClampNeg q.toNatClampNeg pn ≠ p.toNatClampNeg ∧ sp_ixT p.toNatClampNeg q.toNatClampNeg pn ≠ q.toNatClampNeg := by
  have h1 := sp_lt_nat hp hpn
  have h2 := sp_lt_nat hq hqn
  unfold sp_ixT
  split
  · omega
  · split
    · omega
    · split
      · omega
      · omega
/-! a call at the whole world -/
def sp_Li (l : Launch) (y : MethodName) (w : List Cond) (rm : Room) (D : va_G) (q5 : Nat → ClassId) (av : List Value) (WS : va_W) (r : Int32) (WS' : va_W) : Prop := ∃ (g : Nat) (wc w1 RR : va_W), g ≤ 2 ∧ sp_Ci l y w rm D q5 g av wc r w1 ∧ WS.Perm (wc ++ RR) ∧ wc.map (fun q => q.1) = w1.map (fun q => q.1) ∧ (w1 ++ RR).Perm WS'
def sp_Ll (l : Launch) (y : MethodName) (w : List Cond) (rm : Room) (D : va_G) (q5 : Nat → ClassId) (av : List Value) (WS : va_W) (r : Int64) (WS' : va_W) : Prop := ∃ (g : Nat) (wc w1 RR : va_W), g ≤ 2 ∧ sp_Cl l y w rm D q5 g av wc r w1 ∧ WS.Perm (wc ++ RR) ∧ wc.map (fun q => q.1) = w1.map (fun q => q.1) ∧ (w1 ++ RR).Perm WS'
section SPL
variable {p : Program} {l : Launch} {e : Env} {R : Room} {s : State} {m : MethodId} {args : Array Value} {below : List Frame} {meth : Method} {c : Code} {H : Heap} {locs : List Loc} {cells slots : Nat} {Q : State → Prop} {cc : ByteArray} {nL : Nat} {Ts : List Cond} {own : String} {pc : Nat} {ls : Array Slot} {rest : List Value} {D : va_G} {A : Nat → Prop} {q5 : Nat → ClassId}
variable {y : MethodName} {bytes : ByteArray} {maxL n index : Nat} {ret : Option FieldType} {w : List Cond} {rm : Room} {As : List Value} {WS WS' : va_W} {b : Nat}
theorem sp_callLi {r : Int32} (S : CallFix p m c cc nL s args Ts own) (hK : va_K D vwCl (sp_ty q5) s) (hG : sp_GG 2 A s s.heap) (hA : ∀ q : Nat, s.heap.size ≤ q → A q) (hW : sp_wd D A s.heap WS H locs) (hM : sp_Li l y w rm D q5 (.ref b :: As) WS r WS') {C : String} {T : u_T} {N : Nat} (cw : CallW R s args own C index y bytes maxL ret w rm 0 0 n) (ci k : Nat) {fs : List Value} (hc : vwCl[ci]? = some (C, T, N)) (he : WS[k]? = some (b, .inr (ci, fs)))
    (hn : As.length = n) (hsz : ls.size = nL) (hroom : (rest.map fun v => v.category).sum ≤ 8) (hdg : decode cc pc = .ok (.invokevirtual index, 3)) (hf : cells ≤ R.cells ∧ slots ≤ R.slots) {st0 : List Value} (hst : st0 = As.reverse ++ .ref b :: rest)
    (kk : ∀ (H1 : Heap) (locs1 : List Loc), sp_wd D A s.heap WS' H1 locs1 → W p l e R s m args below meth c H1 locs1 cells slots Q (F0 m (pc + 3) ls (.int r :: rest))) : W p l e R s m args below meth c H locs cells slots Q (F0 m pc ls st0) := by
  obtain ⟨g, wc, w1, RR, hg, hM, hp, hfst, hp'⟩ := hM
  exact sp_callViP S hK hG hA hW hM hg cw ci k hc he hp hfst hp' hn hsz hroom hdg hf hst kk
theorem sp_callLl {r : Int64} (S : CallFix p m c cc nL s args Ts own) (hK : va_K D vwCl (sp_ty q5) s) (hG : sp_GG 2 A s s.heap) (hA : ∀ q : Nat, s.heap.size ≤ q → A q) (hW : sp_wd D A s.heap WS H locs) (hM : sp_Ll l y w rm D q5 (.ref b :: As) WS r WS') {C : String} {T : u_T} {N : Nat} (cw : CallW R s args own C index y bytes maxL ret w rm 0 0 n) (ci k : Nat) {fs : List Value} (hc : vwCl[ci]? = some (C, T, N)) (he : WS[k]? = some (b, .inr (ci, fs)))
    (hn : As.length = n) (hsz : ls.size = nL) (hroom : (rest.map fun v => v.category).sum ≤ 8) (hdg : decode cc pc = .ok (.invokevirtual index, 3)) (hf : cells ≤ R.cells ∧ slots ≤ R.slots) {st0 : List Value} (hst : st0 = As.reverse ++ .ref b :: rest)
    (kk : ∀ (H1 : Heap) (locs1 : List Loc), sp_wd D A s.heap WS' H1 locs1 → W p l e R s m args below meth c H1 locs1 cells slots Q (F0 m (pc + 3) ls (.long r :: rest))) : W p l e R s m args below meth c H locs cells slots Q (F0 m pc ls st0) := by
  obtain ⟨g, wc, w1, RR, hg, hM, hp, hfst, hp'⟩ := hM
  exact sp_callVlP S hK hG hA hW hM hg cw ci k hc he hp hfst hp' hn hsz hroom hdg hf hst kk
end SPL
