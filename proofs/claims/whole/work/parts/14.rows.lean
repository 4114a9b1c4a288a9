section SPR
variable {p : Program} {l : Launch} {e : Env} {R : Room} {s : State} {m : MethodId} {args : Array Value} {below : List Frame} {meth : Method} {c : Code} {H : Heap} {locs : List Loc} {cells slots : Nat} {Q : State → Prop} {cc : ByteArray} {nL : Nat} {Ts : List Cond} {own : String} {pc : Nat} {ls : Array Slot} {rest : List Value} {D : va_G} {A : Nat → Prop} {H0 : Heap} {ws : va_W} {q5 : Nat → ClassId} {a : Nat}
theorem sp_topi {x v : Int32} (h : v = x) (k : W p l e R s m args below meth c H locs cells slots Q (F0 m pc ls (.int v :: rest))) : W p l e R s m args below meth c H locs cells slots Q (F0 m pc ls (.int x :: rest)) := h ▸ k
theorem sp_topl {x v : Int64} (h : v = x) (k : W p l e R s m args below meth c H locs cells slots Q (F0 m pc ls (.long v :: rest))) : W p l e R s m args below meth c H locs cells slots Q (F0 m pc ls (.long x :: rest)) := h ▸ k
theorem sp_get (S : CallFix p m c cc nL s args Ts own) (hK : va_K D vwCl (sp_ty q5) s) (hW : sp_wd D A H0 ws H locs) {C : String} {T : u_T} {N ci index : Nat} (hin : ∀ w ∈ u_ws C T N, w ∈ Ts) (q0 : Nat) {fs : List Value} (he : ws[q0]? = some (a, .inr (ci, fs))) (hc : vwCl[ci]? = some (C, T, N)) (k : Nat) (hk : k < N) (hlink : (Cond.fieldLink own index (T k).1 (T k).2.1 (T k).2.2.1).before args s = true) {v : Value} (hv : fs[k]? = some v) (hdg : decode cc pc = .ok (.getfield index, 3))
    (kk : W p l e R s m args below meth c H locs cells slots Q (F0 m (pc + 3) ls (v :: rest))) : W p l e R s m args below meth c H locs cells slots Q (F0 m pc ls (.ref a :: rest)) :=
  va_get S.1 S.2.1 S.2.2.2.2 hin S.2.2.2.1 hK hW.1 q0 he hc k hk hlink (fun _ h => h) hv hdg kk
theorem sp_put (S : CallFix p m c cc nL s args Ts own) (hK : va_K D vwCl (sp_ty q5) s) (hW : sp_wd D A H0 ws H locs) {C : String} {T : u_T} {N ci index : Nat} (hin : ∀ w ∈ u_ws C T N, w ∈ Ts) {ty0 : Nat → FieldType} (hty : ∀ k, k < N → parseFieldDescriptor (T k).2.2.1 = some (ty0 k)) (hnm : ∀ a, a < N → ∀ b, b < N → a ≠ b → (T a).2.1 ≠ (T b).2.1) (q0 : Nat) {fs : List Value} (he : ws[q0]? = some (a, .inr (ci, fs))) (hc : vwCl[ci]? = some (C, T, N)) (k : Nat) (hk : k < N) (hlink : (Cond.fieldLink own index (T k).1 (T k).2.1 (T k).2.2.1).before args s = true) (hfin : (T k).2.2.2 = false) {v : Value} (hn : narrow (ty0 k) v = v) (hfit : fits (ty0 k) v = true) (hl : k < fs.length) {ws' : va_W} (hws : ws.set q0 (a, .inr (ci, fs.set k v)) = ws')
    (hdg : decode cc pc = .ok (.putfield index, 3)) (kk : ∀ (H1 : Heap) (locs1 : List Loc), sp_wd D A H0 ws' H1 locs1 → W p l e R s m args below meth c H1 locs1 cells slots Q (F0 m (pc + 3) ls rest)) : W p l e R s m args below meth c H locs cells slots Q (F0 m pc ls (v :: .ref a :: rest)) := by
  subst hws
  exact va_put S.1 S.2.1 S.2.2.2.2 hin ty0 hty hnm S.2.2.2.1 hK hW.1 hW.2.1 hW.2.2 q0 he hc k hk hlink (fun _ h => h) hfin (hty k hk) hn hfit hl hdg (fun H1 locs1 h1 h2 h3 => kk H1 locs1 ⟨h1, h2, h3⟩)
theorem sp_iald (S : CallFix p m c cc nL s args Ts own) (hK : va_K D vwCl (sp_ty q5) s) (hW : sp_wd D A H0 ws H locs) (q0 : Nat) {n : Nat} {f : Nat → Int32} (ha : ws[q0]? = some (a, .inl (q5 0, n, .inl f))) {i : Int32} (hin : vp_in i n) {v : Int32} (hv : v = f i.toNatClampNeg) (hdg : decode cc pc = .ok (.iaload, 1))
    (kk : W p l e R s m args below meth c H locs cells slots Q (F0 m (pc + 1) ls (.int v :: rest))) : W p l e R s m args below meth c H locs cells slots Q (F0 m pc ls (.int i :: .ref a :: rest)) := by
  subst hv
  exact va_iald S.1 S.2.1 hK hW.1 q0 0 ha rfl hin hdg kk
theorem sp_bald (S : CallFix p m c cc nL s args Ts own) (hK : va_K D vwCl (sp_ty q5) s) (hW : sp_wd D A H0 ws H locs) (q0 : Nat) {n : Nat} {f : Nat → Int32} (ha : ws[q0]? = some (a, .inl (q5 2, n, .inl f))) {i : Int32} (hin : vp_in i n) {v : Int32} (hv : v = f i.toNatClampNeg) (hdg : decode cc pc = .ok (.baload, 1))
    (kk : W p l e R s m args below meth c H locs cells slots Q (F0 m (pc + 1) ls (.int v :: rest))) : W p l e R s m args below meth c H locs cells slots Q (F0 m pc ls (.int i :: .ref a :: rest)) := by
  subst hv
  exact va_bald S.1 S.2.1 hK hW.1 q0 2 ha rfl hin hdg kk
theorem sp_lald (S : CallFix p m c cc nL s args Ts own) (hK : va_K D vwCl (sp_ty q5) s) (hW : sp_wd D A H0 ws H locs) (q0 : Nat) {n : Nat} {f : Nat → Int64} (ha : ws[q0]? = some (a, .inl (q5 1, n, .inr (.inl f)))) {i : Int32} (hin : vp_in i n) {v : Int64} (hv : v = f i.toNatClampNeg) (hdg : decode cc pc = .ok (.laload, 1))
    (kk : W p l e R s m args below meth c H locs cells slots Q (F0 m (pc + 1) ls (.long v :: rest))) : W p l e R s m args below meth c H locs cells slots Q (F0 m pc ls (.int i :: .ref a :: rest)) := by
  subst hv
  exact va_lald S.1 S.2.1 hK hW.1 q0 1 ha rfl hin hdg kk
theorem sp_iast (S : CallFix p m c cc nL s args Ts own) (hK : va_K D vwCl (sp_ty q5) s) (hW : sp_wd D A H0 ws H locs) (q0 : Nat) {n : Nat} {f : Nat → Int32} (ha : ws[q0]? = some (a, .inl (q5 0, n, .inl f))) {i x : Int32} (hin : vp_in i n) {g : Nat → Int32} (hg : g = upd f i.toNatClampNeg x) {ws' : va_W} (hws : ws.set q0 (a, .inl (q5 0, n, .inl g)) = ws') (hdg : decode cc pc = .ok (.iastore, 1))
    (kk : ∀ (H1 : Heap) (locs1 : List Loc), sp_wd D A H0 ws' H1 locs1 → W p l e R s m args below meth c H1 locs1 cells slots Q (F0 m (pc + 1) ls rest)) : W p l e R s m args below meth c H locs cells slots Q (F0 m pc ls (.int x :: .int i :: .ref a :: rest)) := by
  subst hws; subst hg
  exact va_iast S.1 S.2.1 hK hW.1 hW.2.1 hW.2.2 q0 0 ha rfl hin hdg (fun H1 locs1 h1 h2 h3 => kk H1 locs1 ⟨h1, h2, h3⟩)
theorem sp_bast (S : CallFix p m c cc nL s args Ts own) (hK : va_K D vwCl (sp_ty q5) s) (hW : sp_wd D A H0 ws H locs) (q0 : Nat) {n : Nat} {f : Nat → Int32} (ha : ws[q0]? = some (a, .inl (q5 2, n, .inl f))) {i x : Int32} (hin : vp_in i n) {g : Nat → Int32} (hg : g = upd f i.toNatClampNeg (vp_nar .byte x)) {ws' : va_W} (hws : ws.set q0 (a, .inl (q5 2, n, .inl g)) = ws') (hdg : decode cc pc = .ok (.bastore, 1))
    (kk : ∀ (H1 : Heap) (locs1 : List Loc), sp_wd D A H0 ws' H1 locs1 → W p l e R s m args below meth c H1 locs1 cells slots Q (F0 m (pc + 1) ls rest)) : W p l e R s m args below meth c H locs cells slots Q (F0 m pc ls (.int x :: .int i :: .ref a :: rest)) := by
  subst hws; subst hg
  exact va_bast S.1 S.2.1 hK hW.1 hW.2.1 hW.2.2 q0 2 ha rfl hin hdg (fun H1 locs1 h1 h2 h3 => kk H1 locs1 ⟨h1, h2, h3⟩)
theorem sp_last (S : CallFix p m c cc nL s args Ts own) (hK : va_K D vwCl (sp_ty q5) s) (hW : sp_wd D A H0 ws H locs) (q0 : Nat) {n : Nat} {f : Nat → Int64} (ha : ws[q0]? = some (a, .inl (q5 1, n, .inr (.inl f)))) {i : Int32} {x : Int64} (hin : vp_in i n) {g : Nat → Int64} (hg : g = vp_updL f i.toNatClampNeg x) {ws' : va_W} (hws : ws.set q0 (a, .inl (q5 1, n, .inr (.inl g))) = ws') (hdg : decode cc pc = .ok (.lastore, 1))
    (kk : ∀ (H1 : Heap) (locs1 : List Loc), sp_wd D A H0 ws' H1 locs1 → W p l e R s m args below meth c H1 locs1 cells slots Q (F0 m (pc + 1) ls rest)) : W p l e R s m args below meth c H locs cells slots Q (F0 m pc ls (.long x :: .int i :: .ref a :: rest)) := by
  subst hws; subst hg
  exact va_last S.1 S.2.1 hK hW.1 hW.2.1 hW.2.2 q0 1 ha rfl hin hdg (fun H1 locs1 h1 h2 h3 => kk H1 locs1 ⟨h1, h2, h3⟩)
/-- a row of references: the place's object is told -/
theorem sp_aldq (S : CallFix p m c cc nL s args Ts own) (hK : va_K D vwCl (sp_ty q5) s) (hW : sp_wd D A H0 ws H locs) (q0 t0 : Nat) {n : Nat} {C : String} {cA : ClassId} {f : Nat → Option Nat} (ha : ws[q0]? = some (a, .inl (cA, n, .inr (.inr (.inr (.inr f)))))) (ht : (sp_ty q5)[t0]? = some (cA, .object C)) {i : Int32} (hin : vp_in i n) {v : Nat} (hv : f i.toNatClampNeg = some v) (hdg : decode cc pc = .ok (.aaload, 1))
    (kk : W p l e R s m args below meth c H locs cells slots Q (F0 m (pc + 1) ls (.ref v :: rest))) : W p l e R s m args below meth c H locs cells slots Q (F0 m pc ls (.int i :: .ref a :: rest)) := by
  refine va_aldq S.1 S.2.1 hK hW.1 q0 t0 ha ht hin hdg ?_
  rw [hv]
  exact kk
/-- the static row of tables -/
theorem sp_gets (S : CallFix p m c cc nL s args Ts own) {g : Nat} (hG : sp_GG g A s s.heap) (hg : 2 ≤ g) (hW : sp_wd D A s.heap ws H locs) {index : Nat} (hw : (own, index) ∈ sp_nwF) (hdg : decode cc pc = .ok (.getstatic index, 3))
    (kk : ∀ t : Nat, va_T .long t 6 (fun j => .long (sp_lt j)) A s s.heap → W p l e R s m args below meth c H locs cells slots Q (F0 m (pc + 3) ls (.ref t :: rest))) : W p l e R s m args below meth c H locs cells slots Q (F0 m pc ls rest) := by
  obtain ⟨h0, t, h1, h2⟩ := hG.2 hg
  exact va_getsN S.1 S.2.1 h1 hW.2.2 S.2.2.2.1 (va_Nw.use rfl (h0 _ hw)) (fun _ h => h) hdg (kk t h2)
theorem sp_tl (S : CallFix p m c cc nL s args Ts own) (hW : sp_wd D A s.heap ws H locs) {t : Nat} (hT : va_T .long t 6 (fun j => .long (sp_lt j)) A s s.heap) {i : Int32} (hin : vp_in i 6) {v : Int64} (hv : v = sp_lt i.toNatClampNeg) (hdg : decode cc pc = .ok (.laload, 1))
    (kk : W p l e R s m args below meth c H locs cells slots Q (F0 m (pc + 1) ls (.long v :: rest))) : W p l e R s m args below meth c H locs cells slots Q (F0 m pc ls (.int i :: .ref t :: rest)) :=
  va_tl S.1 S.2.1 hT hW.2.2 hin (v := .long v) (by rw [hv]) hdg kk
theorem sp_copy (S : CallFix p m c cc nL s args Ts own) (hK : va_K D vwCl (sp_ty q5) s) (hW : sp_wd D A H0 ws H locs) (hsz : ls.size = nL) {index : Nat} (hlink : (Cond.methodLink own index arraycopyName).before args s = true) (hnat : (Cond.native arraycopyName).before args s = true) (hstat : (Cond.static arraycopyName).before args s = true) (hini : (Cond.initialized "java/lang/System").before args s = true)
    (q0 q1 : Nat) {a0 n0 n1 : Nat} {f g0 : Nat → Int32} (ha0 : ws[q0]? = some (a0, .inl (q5 0, n0, .inl f))) (ha1 : ws[q1]? = some (a, .inl (q5 0, n1, .inl g0))) {sp dp n : Int32} (h : ¬ sp < 0 ∧ ¬ dp < 0 ∧ ¬ n < 0 ∧ sp.toNatClampNeg + n.toNatClampNeg ≤ n0 ∧ dp.toNatClampNeg + n.toNatClampNeg ≤ n1) {g : Nat → Int32} (hg : g = va_cpy f g0 sp.toNatClampNeg dp.toNatClampNeg n.toNatClampNeg) {ws' : va_W} (hws : ws.set q1 (a, .inl (q5 0, n1, .inl g)) = ws')
    (hframes : 1 ≤ R.frames) (hlocals : (rest.map fun v => v.category).sum + (nativeFrameWords "java/lang/System" "arraycopy" 5 + 11) ≤ R.locals) (hdg : decode cc pc = .ok (.invokestatic index, 3))
    (kk : ∀ (H1 : Heap) (locs1 : List Loc), sp_wd D A H0 ws' H1 locs1 → W p l e R s m args below meth c H1 locs1 cells slots Q (F0 m (pc + 3) ls rest)) : W p l e R s m args below meth c H locs cells slots Q (F0 m pc ls (.int n :: .int dp :: .ref a :: .int sp :: .ref a0 :: rest)) := by
  subst hws; subst hg
  exact va_copyi S.1 S.2.1 (by rw [S.2.2.1, hsz]) S.2.2.2.1 hlink hnat hstat hini hK hW.1 hW.2.1 hW.2.2 q0 q1 0 0 (ty := .int) ha0 ha1 rfl rfl rfl h.1 h.2.1 h.2.2.1 h.2.2.2.1 h.2.2.2.2 (fun _ _ => rfl) hframes hlocals hdg (fun H1 locs1 h1 h2 h3 => kk H1 locs1 ⟨h1, h2, h3⟩)
theorem sp_mmax (S : CallFix p m c cc nL s args Ts own) (hsz : ls.size = nL) {index : Nat} (hlink : (Cond.methodLink own index Lib.Math.max.name).before args s = true) (hstat : (Cond.static Lib.Math.max.name).before args s = true) (hini : (Cond.initialized "java/lang/Math").before args s = true) (hcode : (Cond.code Lib.Math.max.name Lib.Math.max.code 2 (some .int)).before args s = true)
    (hframes : 1 ≤ R.frames) (hlocals : (rest.map fun v => v.category).sum + 13 ≤ R.locals) (hc : cells ≤ R.cells) (hs : slots ≤ R.slots) {x y : Int32} (hdg : decode cc pc = .ok (.invokestatic index, 3))
    (kk : W p l e R s m args below meth c H locs cells slots Q (F0 m (pc + 3) ls (.int (if x < y then y else x) :: rest))) : W p l e R s m args below meth c H locs cells slots Q (F0 m pc ls (.int y :: .int x :: rest)) :=
  va_mmax S.1 S.2.1 (by rw [S.2.2.1, hsz]) S.2.2.2.1 hlink hstat hini hcode hframes hlocals hc hs hdg kk
theorem sp_mmin (S : CallFix p m c cc nL s args Ts own) (hsz : ls.size = nL) {index : Nat} (hlink : (Cond.methodLink own index Lib.Math.min.name).before args s = true) (hstat : (Cond.static Lib.Math.min.name).before args s = true) (hini : (Cond.initialized "java/lang/Math").before args s = true) (hcode : (Cond.code Lib.Math.min.name Lib.Math.min.code 2 (some .int)).before args s = true)
    (hframes : 1 ≤ R.frames) (hlocals : (rest.map fun v => v.category).sum + 13 ≤ R.locals) (hc : cells ≤ R.cells) (hs : slots ≤ R.slots) {x y : Int32} (hdg : decode cc pc = .ok (.invokestatic index, 3))
    (kk : W p l e R s m args below meth c H locs cells slots Q (F0 m (pc + 3) ls (.int (if y < x then y else x) :: rest))) : W p l e R s m args below meth c H locs cells slots Q (F0 m pc ls (.int y :: .int x :: rest)) :=
  va_mmin S.1 S.2.1 (by rw [S.2.2.1, hsz]) S.2.2.2.1 hlink hstat hini hcode hframes hlocals hc hs hdg kk
/-! calls -/
theorem sp_pre {g g' : Nat} {av : List Value} {WS wc : va_W} (hK : va_K D vwCl (sp_ty q5) s) (hG : sp_GG g A s s.heap) (hg : g' ≤ g) (hA : ∀ q : Nat, s.heap.size ≤ q → A q) (hW : sp_wd D A s.heap WS H locs) (isC : List Nat) (hC : isC.map (fun i => WS[i]?) = wc.map some) (hnd : va_nd isC = true) : ∀ U : State, U.heap = H → s.WarmedH U.vm → va_Pc av (sp_Pc D q5 g' wc H.size) av.toArray U := by
  intro U hU hWm
  have hF := va_free (wc := wc) hW.2.1 hW.2.2 hA isC hC
  have hPc : va_P D vwCl wc H := fun k q hk => by
    have h1 : (isC.map (fun i => WS[i]?))[k]? = some (some q) := by rw [hC, List.getElem?_map, hk]; rfl
    rw [List.getElem?_map] at h1
    cases hi : isC[k]? with
    | none => rw [hi] at h1; cases h1
    | some i => rw [hi] at h1; exact hW.1 i q (Option.some.inj h1)
  refine ⟨rfl, by rw [hU], by rw [hU]; exact hPc, va_K.moved hWm.alike hK, (hW.2.1.sub isC hnd hC).weaken (fun _ _ _ _ => trivial), ?_⟩
  rw [hU]
  exact hG.to hg hWm hW.2.2.2.1 hF
theorem sp_recv {WS wc : va_W} {C : String} {T : u_T} {N ci b k : Nat} {fs : List Value} (hK : va_K D vwCl (sp_ty q5) s) (hW : sp_wd D A H0 WS H locs) (hc : vwCl[ci]? = some (C, T, N)) (he : WS[k]? = some (b, .inr (ci, fs))) : ∃ cell : Cell, H[b]? = some cell ∧ cell.vm.isStatics = false ∧ s.vm.findClass C = some cell.cls := va_recv hK hW.1 hc he
variable {y : MethodName} {bytes : ByteArray} {maxL n index : Nat} {ret : Option FieldType} {w : List Cond} {rm : Room} {As : List Value} {g g' : Nat} {WS wc w1 WS' : va_W} {b : Nat}
theorem sp_runi {st0 : List Value} {av : List Value} {r : Int32} (hK : va_K D vwCl (sp_ty q5) s) (hA : ∀ q : Nat, s.heap.size ≤ q → A q) (hW : sp_wd D A s.heap WS H locs) (isC : List Nat) (hC : isC.map (fun i => WS[i]?) = wc.map some) (hnd : va_nd isC = true) (hfst : wc.map (fun q => q.1) = w1.map (fun q => q.1)) (hWS : sp_pu WS isC w1 = WS')
    (hr : va_Run p l e R s m args below meth c H locs cells slots 0 0 (F0 m pc ls st0) rest (va_Qi (fun x (_ : Unit) => x = r) (fun _ t => va_P D vwCl w1 t.heap) (va_A wc H.size) av.toArray) (va_A wc H.size))
    (kk : ∀ (H1 : Heap) (locs1 : List Loc), sp_wd D A s.heap WS' H1 locs1 → W p l e R s m args below meth c H1 locs1 cells slots Q (F0 m (pc + 3) ls (.int r :: rest))) : W p l e R s m args below meth c H locs cells slots Q (F0 m pc ls st0) := by
  subst hWS
  have hF := va_free (wc := wc) hW.2.1 hW.2.2 hA isC hC
  refine va_calli hr hW.2.2 (fun q _ h => hF q h) hF (fun r' u t H1 locs1 ht hvm hw hB hz hk hS => ?_)
  subst hw
  rw [ht] at hB
  obtain ⟨h1, h2⟩ := sp_upd hW.1 hW.2.1 isC hC hnd hfst hk hB
  exact kk H1 locs1 ⟨h1, h2, hS⟩
theorem sp_runl {st0 : List Value} {av : List Value} {r : Int64} (hK : va_K D vwCl (sp_ty q5) s) (hA : ∀ q : Nat, s.heap.size ≤ q → A q) (hW : sp_wd D A s.heap WS H locs) (isC : List Nat) (hC : isC.map (fun i => WS[i]?) = wc.map some) (hnd : va_nd isC = true) (hfst : wc.map (fun q => q.1) = w1.map (fun q => q.1)) (hWS : sp_pu WS isC w1 = WS')
    (hr : va_Run p l e R s m args below meth c H locs cells slots 0 0 (F0 m pc ls st0) rest (va_Ql (fun x (_ : Unit) => x = r) (fun _ t => va_P D vwCl w1 t.heap) (va_A wc H.size) av.toArray) (va_A wc H.size))
    (kk : ∀ (H1 : Heap) (locs1 : List Loc), sp_wd D A s.heap WS' H1 locs1 → W p l e R s m args below meth c H1 locs1 cells slots Q (F0 m (pc + 3) ls (.long r :: rest))) : W p l e R s m args below meth c H locs cells slots Q (F0 m pc ls st0) := by
  subst hWS
  have hF := va_free (wc := wc) hW.2.1 hW.2.2 hA isC hC
  refine va_calll hr hW.2.2 (fun q _ h => hF q h) hF (fun r' u t H1 locs1 ht hvm hw hB hz hk hS => ?_)
  subst hw
  rw [ht] at hB
  obtain ⟨h1, h2⟩ := sp_upd hW.1 hW.2.1 isC hC hnd hfst hk hB
  exact kk H1 locs1 ⟨h1, h2, hS⟩
theorem sp_runv {st0 : List Value} {av : List Value} (hK : va_K D vwCl (sp_ty q5) s) (hA : ∀ q : Nat, s.heap.size ≤ q → A q) (hW : sp_wd D A s.heap WS H locs) (isC : List Nat) (hC : isC.map (fun i => WS[i]?) = wc.map some) (hnd : va_nd isC = true) (hfst : wc.map (fun q => q.1) = w1.map (fun q => q.1)) (hWS : sp_pu WS isC w1 = WS')
    (hr : va_Run p l e R s m args below meth c H locs cells slots 0 0 (F0 m pc ls st0) rest (va_Qv (fun (_ : Unit) => True) (fun _ t => va_P D vwCl w1 t.heap) (va_A wc H.size) av.toArray) (va_A wc H.size))
    (kk : ∀ (H1 : Heap) (locs1 : List Loc), sp_wd D A s.heap WS' H1 locs1 → W p l e R s m args below meth c H1 locs1 cells slots Q (F0 m (pc + 3) ls rest)) : W p l e R s m args below meth c H locs cells slots Q (F0 m pc ls st0) := by
  subst hWS
  have hF := va_free (wc := wc) hW.2.1 hW.2.2 hA isC hC
  refine va_callv hr hW.2.2 (fun q _ h => hF q h) hF (fun u t H1 locs1 ht hvm hw hB hz hk hS => ?_)
  rw [ht] at hB
  obtain ⟨h1, h2⟩ := sp_upd hW.1 hW.2.1 isC hC hnd hfst hk hB
  exact kk H1 locs1 ⟨h1, h2, hS⟩
theorem sp_callVi {r : Int32} (S : CallFix p m c cc nL s args Ts own) (hK : va_K D vwCl (sp_ty q5) s) (hG : sp_GG g A s s.heap) (hA : ∀ q : Nat, s.heap.size ≤ q → A q) (hW : sp_wd D A s.heap WS H locs) (hM : sp_Ci l y w rm D q5 g' (.ref b :: As) wc r w1) (hg : g' ≤ g) {C : String} {T : u_T} {N : Nat} (cw : CallW R s args own C index y bytes maxL ret w rm 0 0 n) (ci k : Nat) {fs : List Value} (hc : vwCl[ci]? = some (C, T, N)) (he : WS[k]? = some (b, .inr (ci, fs))) (isC : List Nat) (hC : isC.map (fun i => WS[i]?) = wc.map some) (hnd : va_nd isC = true) (hfst : wc.map (fun q => q.1) = w1.map (fun q => q.1)) (hWS : sp_pu WS isC w1 = WS')
    (hn : As.length = n) (hsz : ls.size = nL) (hroom : (rest.map fun v => v.category).sum ≤ 8) (hdg : decode cc pc = .ok (.invokevirtual index, 3)) (hf : cells ≤ R.cells ∧ slots ≤ R.slots) {st0 : List Value} (hst : st0 = As.reverse ++ .ref b :: rest)
    (kk : ∀ (H1 : Heap) (locs1 : List Loc), sp_wd D A s.heap WS' H1 locs1 → W p l e R s m args below meth c H1 locs1 cells slots Q (F0 m (pc + 3) ls (.int r :: rest))) : W p l e R s m args below meth c H locs cells slots Q (F0 m pc ls st0) :=
  sp_runi hK hA hW isC hC hnd hfst hWS (va_runV (As := As) (rest := rest) S (hM H.size) cw ⟨sp_blind, sp_recv (wc := wc) hK hW hc he, sp_pre hK hG hg hA hW isC hC hnd⟩ rfl hn hsz hst (lv_room hroom) hdg hf) kk
theorem sp_callVl {r : Int64} (S : CallFix p m c cc nL s args Ts own) (hK : va_K D vwCl (sp_ty q5) s) (hG : sp_GG g A s s.heap) (hA : ∀ q : Nat, s.heap.size ≤ q → A q) (hW : sp_wd D A s.heap WS H locs) (hM : sp_Cl l y w rm D q5 g' (.ref b :: As) wc r w1) (hg : g' ≤ g) {C : String} {T : u_T} {N : Nat} (cw : CallW R s args own C index y bytes maxL ret w rm 0 0 n) (ci k : Nat) {fs : List Value} (hc : vwCl[ci]? = some (C, T, N)) (he : WS[k]? = some (b, .inr (ci, fs))) (isC : List Nat) (hC : isC.map (fun i => WS[i]?) = wc.map some) (hnd : va_nd isC = true) (hfst : wc.map (fun q => q.1) = w1.map (fun q => q.1)) (hWS : sp_pu WS isC w1 = WS')
    (hn : As.length = n) (hsz : ls.size = nL) (hroom : (rest.map fun v => v.category).sum ≤ 8) (hdg : decode cc pc = .ok (.invokevirtual index, 3)) (hf : cells ≤ R.cells ∧ slots ≤ R.slots) {st0 : List Value} (hst : st0 = As.reverse ++ .ref b :: rest)
    (kk : ∀ (H1 : Heap) (locs1 : List Loc), sp_wd D A s.heap WS' H1 locs1 → W p l e R s m args below meth c H1 locs1 cells slots Q (F0 m (pc + 3) ls (.long r :: rest))) : W p l e R s m args below meth c H locs cells slots Q (F0 m pc ls st0) :=
  sp_runl hK hA hW isC hC hnd hfst hWS (va_runV (As := As) (rest := rest) S (hM H.size) cw ⟨sp_blind, sp_recv (wc := wc) hK hW hc he, sp_pre hK hG hg hA hW isC hC hnd⟩ rfl hn hsz hst (lv_room hroom) hdg hf) kk
theorem sp_callVv (S : CallFix p m c cc nL s args Ts own) (hK : va_K D vwCl (sp_ty q5) s) (hG : sp_GG g A s s.heap) (hA : ∀ q : Nat, s.heap.size ≤ q → A q) (hW : sp_wd D A s.heap WS H locs) (hM : sp_Cv l y w rm D q5 g' (.ref b :: As) wc w1) (hg : g' ≤ g) {C : String} {T : u_T} {N : Nat} (cw : CallW R s args own C index y bytes maxL ret w rm 0 0 n) (ci k : Nat) {fs : List Value} (hc : vwCl[ci]? = some (C, T, N)) (he : WS[k]? = some (b, .inr (ci, fs))) (isC : List Nat) (hC : isC.map (fun i => WS[i]?) = wc.map some) (hnd : va_nd isC = true) (hfst : wc.map (fun q => q.1) = w1.map (fun q => q.1)) (hWS : sp_pu WS isC w1 = WS')
    (hn : As.length = n) (hsz : ls.size = nL) (hroom : (rest.map fun v => v.category).sum ≤ 8) (hdg : decode cc pc = .ok (.invokevirtual index, 3)) (hf : cells ≤ R.cells ∧ slots ≤ R.slots) {st0 : List Value} (hst : st0 = As.reverse ++ .ref b :: rest)
    (kk : ∀ (H1 : Heap) (locs1 : List Loc), sp_wd D A s.heap WS' H1 locs1 → W p l e R s m args below meth c H1 locs1 cells slots Q (F0 m (pc + 3) ls rest)) : W p l e R s m args below meth c H locs cells slots Q (F0 m pc ls st0) :=
  sp_runv hK hA hW isC hC hnd hfst hWS (va_runV (As := As) (rest := rest) S (hM H.size) cw ⟨sp_blind, sp_recv (wc := wc) hK hW hc he, sp_pre hK hG hg hA hW isC hC hnd⟩ rfl hn hsz hst (lv_room hroom) hdg hf) kk
theorem sp_callSi {r : Int32} (S : CallFix p m c cc nL s args Ts own) (hK : va_K D vwCl (sp_ty q5) s) (hG : sp_GG g A s s.heap) (hA : ∀ q : Nat, s.heap.size ≤ q → A q) (hW : sp_wd D A s.heap WS H locs) (hM : sp_Ci l y w rm D q5 g' As wc r w1) (hg : g' ≤ g) (cw : CallB R s args own index y bytes maxL ret w rm 0 0 n ∧ (Cond.static y).before args s = true) (isC : List Nat) (hC : isC.map (fun i => WS[i]?) = wc.map some) (hnd : va_nd isC = true) (hfst : wc.map (fun q => q.1) = w1.map (fun q => q.1)) (hWS : sp_pu WS isC w1 = WS')
    (hn : As.length = n) (hsz : ls.size = nL) (hroom : (rest.map fun v => v.category).sum ≤ 8) (hdg : decode cc pc = .ok (.invokestatic index, 3)) (hf : cells ≤ R.cells ∧ slots ≤ R.slots) {st0 : List Value} (hst : st0 = As.reverse ++ rest)
    (kk : ∀ (H1 : Heap) (locs1 : List Loc), sp_wd D A s.heap WS' H1 locs1 → W p l e R s m args below meth c H1 locs1 cells slots Q (F0 m (pc + 3) ls (.int r :: rest))) : W p l e R s m args below meth c H locs cells slots Q (F0 m pc ls st0) :=
  sp_runi hK hA hW isC hC hnd hfst hWS (va_runS (As := As) (rest := rest) S (hM H.size) cw ⟨sp_blind, sp_pre hK hG hg hA hW isC hC hnd⟩ rfl hn hsz hst (lv_room hroom) hdg hf) kk
theorem sp_callSl {r : Int64} (S : CallFix p m c cc nL s args Ts own) (hK : va_K D vwCl (sp_ty q5) s) (hG : sp_GG g A s s.heap) (hA : ∀ q : Nat, s.heap.size ≤ q → A q) (hW : sp_wd D A s.heap WS H locs) (hM : sp_Cl l y w rm D q5 g' As wc r w1) (hg : g' ≤ g) (cw : CallB R s args own index y bytes maxL ret w rm 0 0 n ∧ (Cond.static y).before args s = true) (isC : List Nat) (hC : isC.map (fun i => WS[i]?) = wc.map some) (hnd : va_nd isC = true) (hfst : wc.map (fun q => q.1) = w1.map (fun q => q.1)) (hWS : sp_pu WS isC w1 = WS')
    (hn : As.length = n) (hsz : ls.size = nL) (hroom : (rest.map fun v => v.category).sum ≤ 8) (hdg : decode cc pc = .ok (.invokestatic index, 3)) (hf : cells ≤ R.cells ∧ slots ≤ R.slots) {st0 : List Value} (hst : st0 = As.reverse ++ rest)
    (kk : ∀ (H1 : Heap) (locs1 : List Loc), sp_wd D A s.heap WS' H1 locs1 → W p l e R s m args below meth c H1 locs1 cells slots Q (F0 m (pc + 3) ls (.long r :: rest))) : W p l e R s m args below meth c H locs cells slots Q (F0 m pc ls st0) :=
  sp_runl hK hA hW isC hC hnd hfst hWS (va_runS (As := As) (rest := rest) S (hM H.size) cw ⟨sp_blind, sp_pre hK hG hg hA hW isC hC hnd⟩ rfl hn hsz hst (lv_room hroom) hdg hf) kk
theorem sp_callNi {r : Int32} {host : String} (S : CallFix p m c cc nL s args Ts own) (hK : va_K D vwCl (sp_ty q5) s) (hG : sp_GG g A s s.heap) (hA : ∀ q : Nat, s.heap.size ≤ q → A q) (hW : sp_wd D A s.heap WS H locs) (hM : sp_Ci l y w rm D q5 g' As wc r w1) (hg : g' ≤ g) (cw : va_CN R s args own index y host bytes maxL ret w rm 0 0 n ∧ (Cond.static y).before args s = true ∧ True) (isC : List Nat) (hC : isC.map (fun i => WS[i]?) = wc.map some) (hnd : va_nd isC = true) (hfst : wc.map (fun q => q.1) = w1.map (fun q => q.1)) (hWS : sp_pu WS isC w1 = WS')
    (hn : As.length = n) (hsz : ls.size = nL) (hroom : (rest.map fun v => v.category).sum ≤ 8) (hdg : decode cc pc = .ok (.invokestatic index, 3)) (hf : cells ≤ R.cells ∧ slots ≤ R.slots) {st0 : List Value} (hst : st0 = As.reverse ++ rest)
    (kk : ∀ (H1 : Heap) (locs1 : List Loc), sp_wd D A s.heap WS' H1 locs1 → W p l e R s m args below meth c H1 locs1 cells slots Q (F0 m (pc + 3) ls (.int r :: rest))) : W p l e R s m args below meth c H locs cells slots Q (F0 m pc ls st0) :=
  sp_runi hK hA hW isC hC hnd hfst hWS (va_runSN (As := As) (rest := rest) S (hM H.size) cw ⟨sp_blind, sp_pre hK hG hg hA hW isC hC hnd⟩ rfl hn hsz hst (lv_room hroom) hdg hf) kk
/-! ends -/
theorem sp_iret {r : Int32} (S : CallFix p m c cc nL s args Ts own) (hr : meth.sig.returnType = some .int) (hlk : meth.locks = false) (hW : sp_wd D A s.heap ws H locs) (hQ : Q = MQ below (sp_Qi D r ws A) args s cells slots A) (hdg : decode cc pc = .ok (.ireturn, 1)) : W p l e R s m args below meth c H locs cells slots Q (F0 m pc ls [.int r]) := by
  subst hQ
  exact W.iret S.1 S.2.1 hr (fun _ ht _ => ⟨⟨r, (), rfl, rfl, by show va_P D vwCl ws _; rw [ht]; exact hW.1⟩, hW.2.2.F ht⟩) hW.2.2.2.2 hdg hlk
theorem sp_zret {r : Int32} (S : CallFix p m c cc nL s args Ts own) (hr : meth.sig.returnType = some .boolean) (hlk : meth.locks = false) (hW : sp_wd D A s.heap ws H locs) (hn : narrow .boolean (.int r) = .int r) (hQ : Q = MQ below (sp_Qi D r ws A) args s cells slots A) (hdg : decode cc pc = .ok (.ireturn, 1)) : W p l e R s m args below meth c H locs cells slots Q (F0 m pc ls [.int r]) := by
  subst hQ
  exact W.zret S.1 S.2.1 hr hn (fun _ ht _ => ⟨⟨r, (), rfl, rfl, by show va_P D vwCl ws _; rw [ht]; exact hW.1⟩, hW.2.2.F ht⟩) hW.2.2.2.2 hdg hlk
theorem sp_lret {r : Int64} (S : CallFix p m c cc nL s args Ts own) (hr : meth.sig.returnType = some .long) (hlk : meth.locks = false) (hW : sp_wd D A s.heap ws H locs) (hQ : Q = MQ below (sp_Ql D r ws A) args s cells slots A) (hdg : decode cc pc = .ok (.lreturn, 1)) : W p l e R s m args below meth c H locs cells slots Q (F0 m pc ls [.long r]) := by
  subst hQ
  exact W.lret S.1 S.2.1 hr (fun _ ht _ => ⟨⟨r, (), rfl, rfl, by show va_P D vwCl ws _; rw [ht]; exact hW.1⟩, hW.2.2.F ht⟩) hW.2.2.2.2 hdg hlk
theorem sp_vret (S : CallFix p m c cc nL s args Ts own) (hr : meth.sig.returnType = none) (hlk : meth.locks = false) (hW : sp_wd D A s.heap ws H locs) (hQ : Q = MQ below (sp_Qv D ws A) args s cells slots A) (hdg : decode cc pc = .ok (.return_, 1)) : W p l e R s m args below meth c H locs cells slots Q (F0 m pc ls []) := by
  subst hQ
  exact W.vret S.1 S.2.1 hr (fun _ ht _ => ⟨⟨(), rfl, trivial, by show va_P D vwCl ws _; rw [ht]; exact hW.1⟩, hW.2.2.F ht⟩) hW.2.2.2.2 hdg hlk
end SPR
