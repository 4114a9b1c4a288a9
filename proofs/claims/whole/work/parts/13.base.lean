/-! combinators of the pure programs: names, rows with their bounds, loops by fuel -/
def sp_bnd {α β : Type} (e : α) (k : α → Option β) : Option β := k e
def sp_ld {α β : Type} (f : Nat → α) (N : Nat) (i : Int32) (k : α → Option β) : Option β := if i < 0 ∨ N ≤ i.toNatClampNeg then none else k (f i.toNatClampNeg)
def sp_st {β : Type} (f : Nat → Int32) (N : Nat) (i x : Int32) (k : (Nat → Int32) → Option β) : Option β := if i < 0 ∨ N ≤ i.toNatClampNeg then none else k (upd f i.toNatClampNeg x)
def sp_stB {β : Type} (f : Nat → Int32) (N : Nat) (i x : Int32) (k : (Nat → Int32) → Option β) : Option β := if i < 0 ∨ N ≤ i.toNatClampNeg then none else k (upd f i.toNatClampNeg (vp_nar .byte x))
def sp_stL {β : Type} (f : Nat → Int64) (N : Nat) (i : Int32) (x : Int64) (k : (Nat → Int64) → Option β) : Option β := if i < 0 ∨ N ≤ i.toNatClampNeg then none else k (vp_updL f i.toNatClampNeg x)
/-- System.arraycopy over rows of ints -/
def sp_cp {β : Type} (f : Nat → Int32) (n0 : Nat) (g : Nat → Int32) (n1 : Nat) (sp dp n : Int32) (k : (Nat → Int32) → Option β) : Option β := if sp < 0 ∨ dp < 0 ∨ n < 0 ∨ n0 < sp.toNatClampNeg + n.toNatClampNeg ∨ n1 < dp.toNatClampNeg + n.toNatClampNeg then none else k (va_cpy f g sp.toNatClampNeg dp.toNatClampNeg n.toNatClampNeg)
def sp_lp {σ β : Type} (F : (σ → Option β) → σ → Option β) : Nat → σ → Option β
  | 0, _ => none
  | n + 1, s => F (sp_lp F n) s
def sp_F : Nat := 5000
theorem sp_lp0 {σ β : Type} {F : (σ → Option β) → σ → Option β} {s : σ} {o : β} (h : sp_lp F 0 s = some o) : False := by cases h
theorem sp_lpS {σ β : Type} {F : (σ → Option β) → σ → Option β} {n : Nat} {s : σ} {o : Option β} (h : sp_lp F (n + 1) s = o) : F (sp_lp F n) s = o := h
theorem sp_hb {α β : Type} {e : α} {k : α → Option β} {o : β} (h : sp_bnd e k = some o) : ∃ v, v = e ∧ k v = some o := ⟨e, rfl, h⟩
theorem sp_ht {β : Type} {c : Prop} [Decidable c] {a b : Option β} {o : Option β} (h : (if c then a else b) = o) (hc : c) : a = o := by rw [if_pos hc] at h; exact h
theorem sp_hf {β : Type} {c : Prop} [Decidable c] {a b : Option β} {o : Option β} (h : (if c then a else b) = o) (hc : ¬ c) : b = o := by rw [if_neg hc] at h; exact h
theorem sp_hc {α β : Type} {x : Option α} {k : α → Option β} {o : β} (h : Option.bind x k = some o) : ∃ r, x = some r ∧ k r = some o := by
  cases x with
  | none => cases h
  | some r => exact ⟨r, rfl, h⟩
theorem sp_hld {α β : Type} {f : Nat → α} {N : Nat} {i : Int32} {k : α → Option β} {o : β} (h : sp_ld f N i k = some o) : vp_in i N ∧ ∃ v, v = f i.toNatClampNeg ∧ k v = some o := by
  unfold sp_ld at h
  split at h
  · cases h
  · rename_i hc; exact ⟨hc, _, rfl, h⟩
theorem sp_hst {β : Type} {f : Nat → Int32} {N : Nat} {i x : Int32} {k : (Nat → Int32) → Option β} {o : β} (h : sp_st f N i x k = some o) : vp_in i N ∧ ∃ v, v = upd f i.toNatClampNeg x ∧ k v = some o := by
  unfold sp_st at h
  split at h
  · cases h
  · rename_i hc; exact ⟨hc, _, rfl, h⟩
theorem sp_hstB {β : Type} {f : Nat → Int32} {N : Nat} {i x : Int32} {k : (Nat → Int32) → Option β} {o : β} (h : sp_stB f N i x k = some o) : vp_in i N ∧ ∃ v, v = upd f i.toNatClampNeg (vp_nar .byte x) ∧ k v = some o := by
  unfold sp_stB at h
  split at h
  · cases h
  · rename_i hc; exact ⟨hc, _, rfl, h⟩
theorem sp_hstL {β : Type} {f : Nat → Int64} {N : Nat} {i : Int32} {x : Int64} {k : (Nat → Int64) → Option β} {o : β} (h : sp_stL f N i x k = some o) : vp_in i N ∧ ∃ v, v = vp_updL f i.toNatClampNeg x ∧ k v = some o := by
  unfold sp_stL at h
  split at h
  · cases h
  · rename_i hc; exact ⟨hc, _, rfl, h⟩
theorem sp_hcp {β : Type} {f g : Nat → Int32} {n0 n1 : Nat} {sp dp n : Int32} {k : (Nat → Int32) → Option β} {o : β} (h : sp_cp f n0 g n1 sp dp n k = some o) : (¬ sp < 0 ∧ ¬ dp < 0 ∧ ¬ n < 0 ∧ sp.toNatClampNeg + n.toNatClampNeg ≤ n0 ∧ dp.toNatClampNeg + n.toNatClampNeg ≤ n1) ∧ ∃ v, v = va_cpy f g sp.toNatClampNeg dp.toNatClampNeg n.toNatClampNeg ∧ k v = some o := by
  unfold sp_cp at h
  split at h
  · cases h
  · rename_i hc
    refine ⟨⟨fun q => hc (Or.inl q), fun q => hc (Or.inr (Or.inl q)), fun q => hc (Or.inr (Or.inr (Or.inl q))), Nat.not_lt.mp fun q => hc (Or.inr (Or.inr (Or.inr (Or.inl q)))), Nat.not_lt.mp fun q => hc (Or.inr (Or.inr (Or.inr (Or.inr q))))⟩, _, rfl, h⟩
/-! the worlds, and what is carried of the tables -/
abbrev sp_ty (q5 : Nat → ClassId) : List (ClassId × FieldType) := [(q5 0, .int), (q5 1, .long), (q5 2, .byte), (q5 3, .object "ShortProofs$Proof"), (q5 4, .object "ShortProofs$Sheet")]
def sp_nwM : List (String × Nat × MethodName × String) := [(RX9, 17, yX2_init, RX9), (RX9, 24, yX4_init, RX9), (RX9, 27, yX3_init, RX9), (RX9, 34, yX6_init, RX9), (RX9, 41, yX1_init, RX9), (RX9, 48, yX5_init, RX9), (RX9, 55, yX8_init, RX9), (RX1, 64, yX9_isIn, RX9), (RX2, 49, yX9_isIn, RX9), (RX3, 17, yX2_init, RX9), (RX5, 11, yX2_init, RX9), (RX5, 70, yX9_isIn, RX9), (RX7, 34, yX9_isIn, RX9), (RX8, 26, yX9_isIn, RX9)]
def sp_nwF : List (String × Nat) := [(RX0, 29), (RX8, 78)]
def sp_lt : Nat → Int64 := fun k => match k with
  | 0 => -6148914691236517206
  | 1 => -3689348814741910324
  | 2 => -1085102592571150096
  | 3 => -71777214294589696
  | 4 => -281470681808896
  | _ => -4294967296
def sp_ST (A : Nat → Prop) (U : State) (H : Heap) : Prop := (∀ q ∈ sp_nwF, va_Nw (.fieldLinkNest q.1 q.2 RX9 "LETTER_TABLES" "[J" RX9) U) ∧ ∃ t : Nat, va_Z RX9 "LETTER_TABLES" "[J" (.ref t) A U H ∧ va_T .long t 6 (fun j => .long (sp_lt j)) A U H
def sp_GG (g : Nat) (A : Nat → Prop) (U : State) (H : Heap) : Prop := (1 ≤ g → ∀ q ∈ sp_nwM, va_Nw (.methodLinkNest q.1 q.2.1 q.2.2.1 q.2.2.2) U) ∧ (2 ≤ g → sp_ST A U H)
theorem sp_ST.to {A B : Nat → Prop} {s U : State} {H : Heap} (h : sp_ST A s s.heap) (hW : s.WarmedH U.vm) (hk : ∀ a : Nat, a < s.heap.size → ¬ A a → H[a]? = s.heap[a]?) (hAB : ∀ q, B q → A q) : sp_ST B U H := by
  obtain ⟨h0, t, h1, h2⟩ := h
  exact ⟨fun q hq => va_Nw.warmF hW (h0 q hq), t, ((h1.moved hW.alike).kept hk).narrow hAB, ((h2.moved hW.alike).kept hk).narrow hAB⟩
theorem sp_GG.to {g g' : Nat} {A B : Nat → Prop} {s U : State} {H : Heap} (h : sp_GG g A s s.heap) (hg : g' ≤ g) (hW : s.WarmedH U.vm) (hk : ∀ a : Nat, a < s.heap.size → ¬ A a → H[a]? = s.heap[a]?) (hAB : ∀ q, B q → A q) : sp_GG g' B U H :=
  ⟨fun h1 q hq => va_Nw.warmM hW (h.1 (Nat.le_trans h1 hg) q hq), fun h2 => (h.2 (Nat.le_trans h2 hg)).to hW hk hAB⟩
theorem sp_GG.call {g : Nat} {A : Nat → Prop} {U V : State} (hv : U.vm = V.vm) (hh : U.heap = V.heap) (h : sp_GG g A U U.heap) : sp_GG g A V V.heap := by
  refine ⟨fun h1 q hq => va_Nw.same rfl hv (h.1 h1 q hq), fun h2 => ?_⟩
  obtain ⟨h0, t, e1, e2⟩ := h.2 h2
  have ha : U.vm.Alike V.vm := by rw [hv]; exact Vm.Alike.refl V.vm
  exact ⟨fun q hq => va_Nw.same rfl hv (h0 q hq), t, by rw [← hh]; exact e1.moved ha, by rw [← hh]; exact e2.moved ha⟩
def sp_wd (D : va_G) (A : Nat → Prop) (H0 : Heap) (ws : va_W) (H : Heap) (locs : List Loc) : Prop := va_P D vwCl ws H ∧ va_D A ws ∧ va_S A H0 H locs
/-! one list of cells put into another, place by place -/
def sp_pu : va_W → List Nat → va_W → va_W
  | WS, i :: is, c :: cs => sp_pu (WS.set i c) is cs
  | WS, _, _ => WS
theorem sp_pu_get : ∀ (is : List Nat) (WS w1 : va_W) (k : Nat) (q : Nat × va_E), (sp_pu WS is w1)[k]? = some q → (∃ j : Nat, w1[j]? = some q ∧ is[j]? = some k) ∨ (WS[k]? = some q ∧ ∀ j : Nat, is[j]? = some k → w1.length ≤ j)
  | [], WS, w1, k, q, h => Or.inr ⟨by cases w1 <;> exact h, fun j hj => by simp at hj⟩
  | i :: is, WS, [], k, q, h => Or.inr ⟨h, fun j hj => by simp⟩
  | i :: is, WS, c :: cs, k, q, h => by
    rcases sp_pu_get is (WS.set i c) cs k q h with ⟨j, h1, h2⟩ | ⟨h1, h2⟩
    · exact Or.inl ⟨j + 1, by rw [List.getElem?_cons_succ]; exact h1, by rw [List.getElem?_cons_succ]; exact h2⟩
    · by_cases hk : i = k
      · subst hk
        have hl : i < WS.length := by
          have := (List.getElem?_eq_some_iff.mp h1).1
          rwa [List.length_set] at this
        rw [List.getElem?_set_self hl] at h1
        exact Or.inl ⟨0, by rw [List.getElem?_cons_zero]; exact h1, by rw [List.getElem?_cons_zero]⟩
      · rw [List.getElem?_set_ne hk] at h1
        refine Or.inr ⟨h1, fun j hj => ?_⟩
        cases j with
        | zero => rw [List.getElem?_cons_zero] at hj; exact absurd (Option.some.inj hj) hk
        | succ j => rw [List.getElem?_cons_succ] at hj; have := h2 j hj; simp; omega
theorem sp_pu_fst : ∀ (is : List Nat) (WS wc w1 : va_W), va_nd is = true → is.map (fun i => WS[i]?) = wc.map some → wc.map (fun q => q.1) = w1.map (fun q => q.1) → (sp_pu WS is w1).map (fun q => q.1) = WS.map (fun q => q.1)
  | [], WS, wc, w1, _, _, _ => by cases w1 <;> rfl
  | i :: is, WS, [], w1, _, h, _ => by simp at h
  | i :: is, WS, d :: wc, [], _, _, h => by simp at h
  | i :: is, WS, d :: wc, c :: cs, hn, h, hf => by
    simp only [va_nd, Bool.and_eq_true, decide_eq_true_eq] at hn
    simp only [List.map_cons, List.cons.injEq] at h hf
    have hset : (WS.set i c).map (fun q => q.1) = WS.map (fun q => q.1) := by
      apply List.ext_getElem?
      intro k
      rw [List.getElem?_map, List.getElem?_map]
      by_cases hk : i = k
      · subst hk
        have hl : i < WS.length := (List.getElem?_eq_some_iff.mp h.1).1
        rw [List.getElem?_set_self hl, h.1]
        simp [hf.1]
      · rw [List.getElem?_set_ne hk]
    show (sp_pu (WS.set i c) is cs).map _ = _
    rw [sp_pu_fst is (WS.set i c) wc cs hn.2 ?_ hf.2, hset]
    rw [← h.2]
    apply List.map_congr_left
    intro k hk
    rw [List.getElem?_set_ne]
    intro e
    subst e
    exact hn.1 hk
theorem sp_D_fst {A : Nat → Prop} {ws ws' : va_W} (h : va_D A ws) (hf : ws'.map (fun q => q.1) = ws.map (fun q => q.1)) : va_D A ws' := by
  have key : ∀ (k : Nat) (q : Nat × va_E), ws'[k]? = some q → ∃ q0, ws[k]? = some q0 ∧ q0.1 = q.1 := by
    intro k q hk
    have h1 : (ws'.map (fun q => q.1))[k]? = some q.1 := by rw [List.getElem?_map, hk]; rfl
    rw [hf, List.getElem?_map] at h1
    cases h2 : ws[k]? with
    | none => rw [h2] at h1; cases h1
    | some q0 => rw [h2] at h1; exact ⟨q0, rfl, Option.some.inj h1⟩
  refine ⟨fun i j x y hi hj hxy => ?_, fun k q hk => ?_⟩
  · obtain ⟨x0, h1, h2⟩ := key i x hi
    obtain ⟨y0, h3, h4⟩ := key j y hj
    exact h.1 i j x0 y0 h1 h3 (h2.trans (hxy.trans h4.symm))
  · obtain ⟨q0, h1, h2⟩ := key k q hk
    rw [← h2]
    exact h.2 k q0 h1
theorem sp_upd {A0 : Nat → Prop} {D : va_G} {cl : List vw_C} {WS wc w1 : va_W} {H H1 : Heap} (hP : va_P D cl WS H) (hD : va_D A0 WS) (isC : List Nat) (hC : isC.map (fun i => WS[i]?) = wc.map some) (hnd : va_nd isC = true) (hf : wc.map (fun q => q.1) = w1.map (fun q => q.1))
    (hk : ∀ q : Nat, q < H.size → ¬ va_A wc H.size q → H1[q]? = H[q]?) (hP1 : va_P D cl w1 H1) : va_P D cl (sp_pu WS isC w1) H1 ∧ va_D A0 (sp_pu WS isC w1) := by
  refine ⟨fun k q hq => ?_, sp_D_fst hD (sp_pu_fst isC WS wc w1 hnd hC hf)⟩
  rcases sp_pu_get isC WS w1 k q hq with ⟨j, h1, h2⟩ | ⟨h1, h2⟩
  · exact hP1 j q h1
  · have hl := (hP k q h1).lt
    refine (hP k q h1).kept (hk q.1 hl (fun hA => ?_))
    rcases hA with ⟨j, e, hj⟩ | hA
    · have h3 : (isC.map (fun i => WS[i]?))[j]? = some (some (q.1, e)) := by rw [hC, List.getElem?_map, hj]; rfl
      rw [List.getElem?_map] at h3
      cases hi : isC[j]? with
      | none => rw [hi] at h3; cases h3
      | some i =>
        rw [hi] at h3
        have h4 : WS[i]? = some (q.1, e) := Option.some.inj h3
        have h5 := hD.1 k i q (q.1, e) h1 h4 rfl
        subst h5
        have h6 := h2 j hi
        have h7 : wc.length = w1.length := by
          have := congrArg List.length hf
          simpa using this
        have h8 := (List.getElem?_eq_some_iff.mp hj).1
        omega
    · omega
/-! contracts: the world before, the answer, the world behind; no cell is made -/
def sp_Pc (D : va_G) (q5 : Nat → ClassId) (g : Nat) (ws : va_W) (sz : Nat) : State → Prop := fun U => U.heap.size = sz ∧ va_P D vwCl ws U.heap ∧ va_K D vwCl (sp_ty q5) U ∧ va_D (fun _ => True) ws ∧ sp_GG g (va_A ws sz) U U.heap
def sp_Ci (l : Launch) (y : MethodName) (w : List Cond) (rm : Room) (D : va_G) (q5 : Nat → ClassId) (g : Nat) (av : List Value) (ws : va_W) (r : Int32) (ws' : va_W) : Prop := ∀ sz : Nat, Met l y w rm (va_Pc av (sp_Pc D q5 g ws sz)) (va_Qi (fun x (_ : Unit) => x = r) (fun _ t => va_P D vwCl ws' t.heap) (va_A ws sz)) 0 0 (va_A ws sz)
def sp_Cl (l : Launch) (y : MethodName) (w : List Cond) (rm : Room) (D : va_G) (q5 : Nat → ClassId) (g : Nat) (av : List Value) (ws : va_W) (r : Int64) (ws' : va_W) : Prop := ∀ sz : Nat, Met l y w rm (va_Pc av (sp_Pc D q5 g ws sz)) (va_Ql (fun x (_ : Unit) => x = r) (fun _ t => va_P D vwCl ws' t.heap) (va_A ws sz)) 0 0 (va_A ws sz)
def sp_Cv (l : Launch) (y : MethodName) (w : List Cond) (rm : Room) (D : va_G) (q5 : Nat → ClassId) (g : Nat) (av : List Value) (ws : va_W) (ws' : va_W) : Prop := ∀ sz : Nat, Met l y w rm (va_Pc av (sp_Pc D q5 g ws sz)) (va_Qv (fun (_ : Unit) => True) (fun _ t => va_P D vwCl ws' t.heap) (va_A ws sz)) 0 0 (va_A ws sz)
abbrev sp_Qi (D : va_G) (r : Int32) (ws' : va_W) (A : Nat → Prop) : Array Value → State → Outcome → State → Prop := va_Qi (fun x (_ : Unit) => x = r) (fun _ t => va_P D vwCl ws' t.heap) A
abbrev sp_Ql (D : va_G) (r : Int64) (ws' : va_W) (A : Nat → Prop) : Array Value → State → Outcome → State → Prop := va_Ql (fun x (_ : Unit) => x = r) (fun _ t => va_P D vwCl ws' t.heap) A
abbrev sp_Qv (D : va_G) (ws' : va_W) (A : Nat → Prop) : Array Value → State → Outcome → State → Prop := va_Qv (fun (_ : Unit) => True) (fun _ t => va_P D vwCl ws' t.heap) A
theorem sp_blind {D : va_G} {q5 : Nat → ClassId} {g : Nat} {av : List Value} {ws : va_W} {sz : Nat} : FrameBlind (va_Pc av (sp_Pc D q5 g ws sz)) := by
  intro a U g0 mk q
  obtain ⟨h0, h1, h2, h3, h4, h5⟩ := q
  exact ⟨h0, h1, h2, va_K.moved (u := U) (U := U.calling g0 mk a) (Vm.Alike.refl U.vm) h3, h4, sp_GG.call (U := U) (V := U.calling g0 mk a) rfl rfl h5⟩
theorem sp_of {l : Launch} {y : MethodName} {w w' : List Cond} {rm : Room} {D : va_G} {q5 : Nat → ClassId} {g : Nat} {av : List Value} {ws : va_W} {cc : ByteArray} {maxL : Nat} {ret : Option FieldType} {own : String} {sz : Nat} {Qc : (Nat → Prop) → Array Value → State → Outcome → State → Prop} (hy : plainName y.cls = true) (hw : w = Cond.code y cc maxL ret :: w') (ho : y.cls = own) (hlen : (lg_sl av).length ≤ maxL)
    (body : ∀ (p : Program) (e : Env) (s : State) (m : MethodId) (args : Array Value) (below : List Frame) (meth : Method) (c : Code) (A : Nat → Prop) (ls : Array Slot) (Q : State → Prop), Q = MQ below (Qc A) args s 0 0 A → CallFix p m c cc maxL s args w own → meth.sig.returnType = ret → meth.locks = false → va_K D vwCl (sp_ty q5) s → sp_GG g A s s.heap → (∀ q : Nat, s.heap.size ≤ q → A q) → sp_wd D A s.heap ws s.heap [] → lv_has ls maxL (lv_args 0 av) → W p l e rm s m args below meth c s.heap [] 0 0 Q (F0 m 0 ls [])) :
    Met l y w rm (va_Pc av (sp_Pc D q5 g ws sz)) (Qc (va_A ws sz)) 0 0 (va_A ws sz) := by
  refine Met.ofW (cc := cc) (maxL := maxL) (ret := ret) hy hw ?_
  intro p e s m args below meth c s₁ B hml hv
  obtain ⟨rfl, hsz, hP, hK, hD0, hG⟩ := hv
  have hts := atoms_spec (ws := w) B.pre
  have hown : s.vm.findClass own = some m.cls := by rw [← ho]; exact findClass_of_methodNamed B.named
  subst hsz
  have hl := lv_entry av (n := maxL) hlen
  rw [lg_entry_eq]
  generalize (lg_sl av ++ List.replicate (maxL - (lg_sl av).length) Slot.unset).toArray = ls at hl ⊢
  exact body p e s m _ below meth c (va_A ws s.heap.size) ls _ rfl ⟨B.exec, B.bytes, hml, hown, hts⟩ B.returns B.notSynchronized hK hG (fun q h => Or.inr h) ⟨hP, hD0.self, va_S.rf⟩ hl
theorem sp_hck {β : Type} {N : Nat} {i : Int32} {k : Option β} {o : β} (h : (if i < 0 ∨ N ≤ i.toNatClampNeg then none else k) = some o) : vp_in i N ∧ k = some o := by
  split at h
  · cases h
  · rename_i hc; exact ⟨hc, h⟩
def sp_ck {β : Type} (N : Nat) (i : Int32) (k : Option β) : Option β := if i < 0 ∨ N ≤ i.toNatClampNeg then none else k
def sp_zb {β : Type} (r : Int32) (k : Option β) : Option β := if r = 0 ∨ r = 1 then k else none
theorem sp_hz {β : Type} {r : Int32} {k : Option β} {o : β} (h : sp_zb r k = some o) : narrow .boolean (.int r) = .int r ∧ k = some o := by
  unfold sp_zb at h
  split at h
  · rename_i hc
    refine ⟨?_, h⟩
    rcases hc with hc | hc <;> subst hc <;> rfl
  · cases h
