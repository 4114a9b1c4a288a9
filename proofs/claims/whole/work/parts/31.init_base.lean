/-! constructors: contracts, rows -/
def sp_AO (U : State) : Prop := va_AO "ShortProofs$Proof" U ∧ va_AO "ShortProofs$Sheet" U
def sp_PI (D : va_G) (q5 : Nat → ClassId) (ws : va_W) (sz : Nat) : State → Prop := fun U => sp_Pc D q5 2 ws sz U ∧ sp_AO U
def sp_CI {σ : Type} (l : Launch) (y : MethodName) (w : List Cond) (rm : Room) (D : va_G) (q5 : Nat → ClassId) (mc ms : Nat) (c0 : va_E) (cond : Nat → σ → Prop) (post : σ → va_W) : Prop := ∀ b sz : Nat, Met l y w rm (va_Pc [.ref b] (sp_PI D q5 [(b, c0)] sz)) (va_Qv (fun u : σ => cond b u) (fun u t => va_P D vwCl (post u) t.heap ∧ va_D (va_A [(b, c0)] sz) (post u)) (va_A [(b, c0)] sz)) mc ms (va_A [(b, c0)] sz)
theorem sp_AO.moved {u U : State} (hvm : u.vm.Alike U.vm) (h : sp_AO u) : sp_AO U := ⟨h.1.moved hvm, h.2.moved hvm⟩
theorem sp_blindI {D : va_G} {q5 : Nat → ClassId} {av : List Value} {ws : va_W} {sz : Nat} : FrameBlind (va_Pc av (sp_PI D q5 ws sz)) := by
  intro a U g0 mk q
  obtain ⟨h0, h1, h2⟩ := q
  have h3 := sp_blind a U g0 mk ⟨h0, h1⟩
  exact ⟨h3.1, h3.2, h2.moved (Vm.Alike.refl U.vm)⟩
theorem sp_ofI {σ : Type} {l : Launch} {y : MethodName} {w w' : List Cond} {rm : Room} {D : va_G} {q5 : Nat → ClassId} {mc ms : Nat} {c0 : va_E} {cc : ByteArray} {maxL : Nat} {own : String} {cond : Nat → σ → Prop} {post : σ → va_W} (hy : plainName y.cls = true) (hw : w = Cond.code y cc maxL none :: w') (ho : y.cls = own) (hnm : y.name = "<init>") (hlen : 1 ≤ maxL)
    (body : ∀ (b : Nat) (p : Program) (e : Env) (s : State) (m : MethodId) (args : Array Value) (below : List Frame) (meth : Method) (c : Code) (A : Nat → Prop) (ls : Array Slot) (Q : State → Prop), Q = MQ below (va_Qv (fun u : σ => cond b u) (fun u t => va_P D vwCl (post u) t.heap ∧ va_D A (post u)) A) args s mc ms A → CallFix p m c cc maxL s args w own → meth.sig.returnType = none → meth.locks = false → meth.name = "<init>" → va_K D vwCl (sp_ty q5) s → sp_GG 2 A s s.heap → sp_AO s → (∀ q : Nat, s.heap.size ≤ q → A q) → sp_wd D A s.heap [(b, c0)] s.heap [] → lv_has ls maxL [(0, .ref b)] → W p l e rm s m args below meth c s.heap [] 0 0 Q (F0 m 0 ls [])) :
    sp_CI l y w rm D q5 mc ms c0 cond post := by
  intro b sz
  refine Met.ofW (cc := cc) (maxL := maxL) (ret := none) hy hw ?_
  intro p e s m args below meth c s₁ B hml hv
  obtain ⟨rfl, ⟨hsz, hP, hK, hD0, hG⟩, hAO⟩ := hv
  have hts := atoms_spec (ws := w) B.pre
  have hown : s.vm.findClass own = some m.cls := by rw [← ho]; exact findClass_of_methodNamed B.named
  have hin : meth.name = "<init>" := (name_of_methodNamed B.named B.method).1.trans hnm
  subst hsz
  have hl := lv_entry [Value.ref b] (n := maxL) hlen
  rw [lg_entry_eq]
  generalize (lg_sl [Value.ref b] ++ List.replicate (maxL - (lg_sl [Value.ref b]).length) Slot.unset).toArray = ls at hl ⊢
  exact body b p e s m _ below meth c (va_A [(b, c0)] s.heap.size) ls _ rfl ⟨B.exec, B.bytes, hml, hown, hts⟩ B.returns B.notSynchronized hin hK hG hAO (fun q h => Or.inr h) ⟨hP, hD0.self, va_S.rf⟩ hl
theorem sp_postN {D : va_G} {A : Nat → Prop} {H0 H H1 : Heap} {wc w1 R : va_W} {locs locs1 : List Loc} (h : sp_wd D A H0 (wc ++ R) H locs) (hA : ∀ q : Nat, H0.size ≤ q → A q) (hk : ∀ q : Nat, q < H.size → ¬ va_A wc H.size q → H1[q]? = H[q]?) (hB : va_P D vwCl w1 H1) (hD1 : va_D (va_A wc H.size) w1) (hS : va_S A H0 H1 locs1) : sp_wd D A H0 (w1 ++ R) H1 locs1 := by
  have hF := sp_freeP h hA
  have hn := (sp_Dm.mp h.2.1).1
  rw [List.map_append, List.nodup_append] at hn
  have hdis : ∀ q ∈ R, ¬ va_A wc H.size q.1 := by
    intro q hq hA
    have h1 := sp_Pm.mp h.1 q (List.mem_append_right _ hq)
    rcases hA with ⟨k, e, hk⟩ | hA
    · exact hn.2.2 q.1 (List.mem_map.mpr ⟨(q.1, e), List.mem_of_getElem? hk, rfl⟩) q.1 (List.mem_map.mpr ⟨q, hq, rfl⟩) rfl
    · have := h1.lt; omega
  refine ⟨sp_Pm.mpr fun q hq => ?_, sp_Dm.mpr ⟨?_, fun q hq => ?_⟩, hS⟩
  · rcases List.mem_append.mp hq with hq | hq
    · exact sp_Pm.mp hB q hq
    · have h1 := sp_Pm.mp h.1 q (List.mem_append_right _ hq)
      exact h1.kept (hk q.1 h1.lt (hdis q hq))
  · rw [List.map_append, List.nodup_append]
    refine ⟨(sp_Dm.mp hD1).1, hn.2.1, fun x hx y hy e => ?_⟩
    obtain ⟨q1, hq1, rfl⟩ := List.mem_map.mp hx
    obtain ⟨q2, hq2, rfl⟩ := List.mem_map.mp hy
    exact hdis q2 hq2 (e ▸ (sp_Dm.mp hD1).2 q1 hq1)
  · rcases List.mem_append.mp hq with hq | hq
    · exact hF q.1 ((sp_Dm.mp hD1).2 q hq)
    · exact (sp_Dm.mp h.2.1).2 q (List.mem_append_right _ hq)
section SPN
variable {p : Program} {l : Launch} {e : Env} {R : Room} {s : State} {m : MethodId} {args : Array Value} {below : List Frame} {meth : Method} {c : Code} {H : Heap} {locs : List Loc} {cells slots : Nat} {Q : State → Prop} {cc : ByteArray} {nL : Nat} {Ts : List Cond} {own : String} {pc : Nat} {ls : Array Slot} {rest : List Value} {D : va_G} {A : Nat → Prop} {q5 : Nat → ClassId} {a : Nat} {ws : va_W}
theorem sp_obj (S : CallFix p m c cc nL s args Ts own) (hsz : ls.size = nL) {idx : Nat} (hlink : (Cond.methodLink own idx Lib.objectInit).before args s = true) (hinst : (Cond.instanceMethod Lib.objectInit).before args s = true) (hcode : (Cond.code Lib.objectInit ⟨#[0xb1]⟩ 1 none).before args s = true) (hframes : 1 ≤ R.frames) (hlocals : (rest.map fun v => v.category).sum + 12 ≤ R.locals) (hdg : decode cc pc = .ok (.invokespecial idx, 3))
    (kk : W p l e R s m args below meth c H locs cells slots Q (F0 m (pc + 3) ls rest)) : W p l e R s m args below meth c H locs cells slots Q (F0 m pc ls (.ref a :: rest)) := by
  refine W.objInit S.1 S.2.1 S.2.2.2.1 hlink hinst hcode rfl (by rw [S.2.2.1]; exact hsz) rfl hdg hframes ?_ kk
  show 2 * 0 + _ + 12 ≤ _
  omega
theorem sp_newa {atype : ArrayType} (S : CallFix p m c cc nL s args Ts own) (hK : va_K D vwCl (sp_ty q5) s) (hW : sp_wd D A s.heap ws H locs) (hA : ∀ q : Nat, s.heap.size ≤ q → A q) (k : Nat) {ty : FieldType} (hty : newarray.typeOf atype = ty) (hk : (sp_ty q5)[k]? = some (q5 k, ty)) (hp : ∀ (U : State) (x y : ClassId), va_RA U x ty → va_RA U y ty → x = y) (harr : (Cond.arrayClass ty).before args s = true) {n : Int32} {N' : Nat} {a0 : vp_A} (ha : ∀ cA : ClassId, vp_cell cA a0 = arrV cA N' (fun _ => defaultValue ty)) (hn : ¬ n < 0) (hN : n.toNatClampNeg = N') (hbytes : N' * componentBytes ty ≤ 536870912) (hcells : cells + 1 ≤ R.cells) (hslots : slots + N' ≤ R.slots) (hdg : decode cc pc = .ok (.newarray atype, 2))
    (kk : ∀ (q : Nat) (H1 : Heap), sp_wd D A s.heap (ws ++ [(q, .inl (q5 k, a0))]) H1 locs → W p l e R s m args below meth c H1 locs (cells + 1) (slots + N') Q (F0 m (pc + 2) ls (.ref q :: rest))) : W p l e R s m args below meth c H locs cells slots Q (F0 m pc ls (.int n :: rest)) := by
  refine va_newa S.1 S.2.1 (by rw [hty]; exact harr) hty hK hW.1 hW.2.1 hW.2.2 hA ha hn hN hbytes hcells hslots hdg (fun q cA H1 h1 h2 h3 h4 => ?_)
  have e1 := hp s cA (q5 k) (h1.2 5 (cA, ty) rfl).2 (hK.2 k _ hk).2
  subst e1
  exact kk q H1 ⟨h2, h3, h4⟩
theorem sp_newq (S : CallFix p m c cc nL s args Ts own) (hK : va_K D vwCl (sp_ty q5) s) (hW : sp_wd D A s.heap ws H locs) (hA : ∀ q : Nat, s.heap.size ≤ q → A q) (k : Nat) {C : String} {index : Nat} (hk : (sp_ty q5)[k]? = some (q5 k, .object C)) (hcl : (Cond.classLink own index C).before args s = true) (hover : va_AO C s) {n : Int32} {N' : Nat} (hn : ¬ n < 0) (hN : n.toNatClampNeg = N') (hbytes : N' * 4 ≤ 536870912) (hcells : cells + 1 ≤ R.cells) (hslots : slots + N' ≤ R.slots) (hdg : decode cc pc = .ok (.anewarray index, 3))
    (kk : ∀ (q : Nat) (H1 : Heap), sp_wd D A s.heap (ws ++ [(q, .inl (q5 k, N', .inr (.inr (.inr (.inr (fun _ => none))))))]) H1 locs → W p l e R s m args below meth c H1 locs (cells + 1) (slots + N') Q (F0 m (pc + 3) ls (.ref q :: rest))) : W p l e R s m args below meth c H locs cells slots Q (F0 m pc ls (.int n :: rest)) := by
  refine va_newq S.1 S.2.1 S.2.2.2.1 hcl hover hK hW.1 hW.2.1 hW.2.2 hA hn hN hbytes hcells hslots hdg (fun q cA H1 h1 h2 h3 h4 => ?_)
  have e1 : cA = q5 k := by
    obtain ⟨_, _, _, _, _, g1⟩ := (h1.2 5 (cA, .object C) rfl).2
    obtain ⟨_, _, _, _, _, g2⟩ := (hK.2 k _ hk).2
    exact Option.some.inj (g1.symm.trans g2)
  subst e1
  exact kk q H1 ⟨h2, h3, h4⟩
theorem sp_putI (S : CallFix p m c cc nL s args Ts own) (hK : va_K D vwCl (sp_ty q5) s) (hW : sp_wd D A s.heap ws H locs) (hin2 : meth.name = "<init>") {C : String} {T : u_T} {N ci index : Nat} (hin : ∀ w ∈ u_ws C T N, w ∈ Ts) {ty0 : Nat → FieldType} (hty : ∀ k, k < N → parseFieldDescriptor (T k).2.2.1 = some (ty0 k)) (hnm : ∀ a, a < N → ∀ b, b < N → a ≠ b → (T a).2.1 ≠ (T b).2.1) (q0 : Nat) {fs : List Value} (he : ws[q0]? = some (a, .inr (ci, fs))) (hc : vwCl[ci]? = some (C, T, N)) (k : Nat) (hk : k < N) (hlink : (Cond.fieldLink own index (T k).1 (T k).2.1 (T k).2.2.1).before args s = true) (hfin : (T k).2.2.2 = true) (hdecl : (T k).1 = own) {v : Value} (hn : narrow (ty0 k) v = v) (hfit : fits (ty0 k) v = true) (hl : k < fs.length) {ws' : va_W} (hws : ws.set q0 (a, .inr (ci, fs.set k v)) = ws')
    (hdg : decode cc pc = .ok (.putfield index, 3)) (kk : ∀ (H1 : Heap) (locs1 : List Loc), sp_wd D A s.heap ws' H1 locs1 → W p l e R s m args below meth c H1 locs1 cells slots Q (F0 m (pc + 3) ls rest)) : W p l e R s m args below meth c H locs cells slots Q (F0 m pc ls (v :: .ref a :: rest)) := by
  subst hws
  exact va_putF S.1 S.2.1 S.2.2.2.2 hin ty0 hty hnm S.2.2.2.1 hK hW.1 hW.2.1 hW.2.2 q0 he hc k hk hlink (fun _ h => h) hfin hin2 hdecl (hty k hk) hn hfit hl hdg (fun H1 locs1 h1 h2 h3 => kk H1 locs1 ⟨h1, h2, h3⟩)
theorem sp_mkN {σ : Type} {y : MethodName} {bytes : ByteArray} {maxL index i2 mc ms : Nat} {w : List Cond} {rm : Room} {host : String} {cond : Nat → σ → Prop} {post : σ → va_W} (S : CallFix p m c cc nL s args Ts own) (hK : va_K D vwCl (sp_ty q5) s) (hG : sp_GG 2 A s s.heap) (hAO : sp_AO s) (hA : ∀ q : Nat, s.heap.size ≤ q → A q) (hW : sp_wd D A s.heap ws H locs) {C : String} {T : u_T} {N ci : Nat} (hin : ∀ w ∈ u_ws C T N, w ∈ Ts) (ty : Nat → FieldType) (hty : ∀ k, k < N → parseFieldDescriptor (T k).2.2.1 = some (ty k)) (hcl : (Cond.classLink own index C).before args s = true) (hinst : (Cond.instantiable C N).before args s = true) (hini : (Cond.initialized C).before args s = true) (hc : vwCl[ci]? = some (C, T, N)) {fs : List Value} (hfs : ∀ j, j < N → defaultValue (ty j) = vp_V fs j)
    (hM : sp_CI l y w rm D q5 mc ms (.inr (ci, fs)) cond post) (cw : va_CN R s args own i2 y host bytes maxL none w rm mc ms 0 ∧ y.name = "<init>" ∧ (Cond.instanceMethod y).before args s = true) (hsz : ls.size = nL) (hroom : (rest.map fun v => v.category).sum + 1 ≤ 8) (hcells : cells + 1 + mc ≤ R.cells) (hslots : slots + N + ms ≤ R.slots) (dn : decode cc pc = .ok (.new index, 3)) (dd : decode cc (pc + 3) = .ok (.dup, 1)) (di : decode cc (pc + 4) = .ok (.invokespecial i2, 3))
    (kk : ∀ (b : Nat) (u : σ) (H1 : Heap) (locs1 : List Loc), cond b u → sp_wd D A s.heap (ws ++ post u) H1 locs1 → W p l e R s m args below meth c H1 locs1 (cells + 1 + mc) (slots + N + ms) Q (F0 m (pc + 7) ls (.ref b :: rest))) : W p l e R s m args below meth c H locs cells slots Q (F0 m pc ls rest) := by
  refine va_new (fs := fs) S.1 S.2.1 S.2.2.2.2 hin ty hty S.2.2.2.1 hcl hinst hini hK hW.1 hW.2.1 hW.2.2 hA hc hfs (by omega) (by omega) dn (fun b H1 h1 h2 h3 => ?_)
  have hW1 : sp_wd D A s.heap (ws ++ [(b, .inr (ci, fs))]) H1 locs := ⟨h1, h2, h3⟩
  have hW2 := hW1.perm (List.perm_append_comm)
  have hF := sp_freeP hW2 hA
  refine lv_dup S.1 S.2.1 dd rfl ?_
  refine va_callv (va_runIN (As := []) (rest := .ref b :: rest) S (hM b H1.size) cw ⟨sp_blindI, fun U hU hWm => ⟨(sp_preP (av := [.ref b]) hK hG (Nat.le_refl 2) hA hW2 U hU hWm).1, (sp_preP (av := [.ref b]) hK hG (Nat.le_refl 2) hA hW2 U hU hWm).2, hAO.moved hWm.alike⟩⟩ rfl rfl hsz rfl (lv_room ?_) di ⟨hcells, hslots⟩) hW2.2.2 (fun q _ h => hF q h) hF (fun u t H2 locs2 ht hvm hw hB hz hk hS => ?_)
  · show 1 + (rest.map fun v => v.category).sum ≤ 8
    omega
  · rw [ht] at hB
    exact kk b u H2 locs2 hw ((sp_postN hW2 hA hk hB.1 hB.2 hS).perm List.perm_append_comm)
theorem sp_mkI {σ : Type} {y : MethodName} {bytes : ByteArray} {maxL index i2 mc ms : Nat} {w : List Cond} {rm : Room} {cond : Nat → σ → Prop} {post : σ → va_W} (S : CallFix p m c cc nL s args Ts own) (hK : va_K D vwCl (sp_ty q5) s) (hG : sp_GG 2 A s s.heap) (hAO : sp_AO s) (hA : ∀ q : Nat, s.heap.size ≤ q → A q) (hW : sp_wd D A s.heap ws H locs) {C : String} {T : u_T} {N ci : Nat} (hin : ∀ w ∈ u_ws C T N, w ∈ Ts) (ty : Nat → FieldType) (hty : ∀ k, k < N → parseFieldDescriptor (T k).2.2.1 = some (ty k)) (hcl : (Cond.classLink own index C).before args s = true) (hinst : (Cond.instantiable C N).before args s = true) (hini : (Cond.initialized C).before args s = true) (hc : vwCl[ci]? = some (C, T, N)) {fs : List Value} (hfs : ∀ j, j < N → defaultValue (ty j) = vp_V fs j)
    (hM : sp_CI l y w rm D q5 mc ms (.inr (ci, fs)) cond post) (cw : CallB R s args own i2 y bytes maxL none w rm mc ms 0 ∧ y.name = "<init>" ∧ (Cond.instanceMethod y).before args s = true) (hsz : ls.size = nL) (hroom : (rest.map fun v => v.category).sum + 1 ≤ 8) (hcells : cells + 1 + mc ≤ R.cells) (hslots : slots + N + ms ≤ R.slots) (dn : decode cc pc = .ok (.new index, 3)) (dd : decode cc (pc + 3) = .ok (.dup, 1)) (di : decode cc (pc + 4) = .ok (.invokespecial i2, 3))
    (kk : ∀ (b : Nat) (u : σ) (H1 : Heap) (locs1 : List Loc), cond b u → sp_wd D A s.heap (ws ++ post u) H1 locs1 → W p l e R s m args below meth c H1 locs1 (cells + 1 + mc) (slots + N + ms) Q (F0 m (pc + 7) ls (.ref b :: rest))) : W p l e R s m args below meth c H locs cells slots Q (F0 m pc ls rest) := by
  refine va_new (fs := fs) S.1 S.2.1 S.2.2.2.2 hin ty hty S.2.2.2.1 hcl hinst hini hK hW.1 hW.2.1 hW.2.2 hA hc hfs (by omega) (by omega) dn (fun b H1 h1 h2 h3 => ?_)
  have hW1 : sp_wd D A s.heap (ws ++ [(b, .inr (ci, fs))]) H1 locs := ⟨h1, h2, h3⟩
  have hW2 := hW1.perm (List.perm_append_comm)
  have hF := sp_freeP hW2 hA
  refine lv_dup S.1 S.2.1 dd rfl ?_
  refine va_callv (va_runI (As := []) (rest := .ref b :: rest) S (hM b H1.size) cw ⟨sp_blindI, fun U hU hWm => ⟨(sp_preP (av := [.ref b]) hK hG (Nat.le_refl 2) hA hW2 U hU hWm).1, (sp_preP (av := [.ref b]) hK hG (Nat.le_refl 2) hA hW2 U hU hWm).2, hAO.moved hWm.alike⟩⟩ rfl rfl hsz rfl (lv_room ?_) di ⟨hcells, hslots⟩) hW2.2.2 (fun q _ h => hF q h) hF (fun u t H2 locs2 ht hvm hw hB hz hk hS => ?_)
  · show 1 + (rest.map fun v => v.category).sum ≤ 8
    omega
  · rw [ht] at hB
    exact kk b u H2 locs2 hw ((sp_postN hW2 hA hk hB.1 hB.2 hS).perm List.perm_append_comm)
theorem sp_endI {σ : Type} {cond : Nat → σ → Prop} {post : σ → va_W} {b : Nat} (S : CallFix p m c cc nL s args Ts own) (hr : meth.sig.returnType = none) (hlk : meth.locks = false) (hW : sp_wd D A s.heap ws H locs) (u : σ) (hu : cond b u) (hws : ws = post u) (hQ : Q = MQ below (va_Qv (fun u : σ => cond b u) (fun u t => va_P D vwCl (post u) t.heap ∧ va_D A (post u)) A) args s cells slots A) (hdg : decode cc pc = .ok (.return_, 1)) : W p l e R s m args below meth c H locs cells slots Q (F0 m pc ls []) := by
  subst hQ
  refine W.vret S.1 S.2.1 hr (fun t ht _ => ⟨⟨u, rfl, hu, ?_, ?_⟩, hW.2.2.F ht⟩) hW.2.2.2.2 hdg hlk
  · rw [ht, ← hws]; exact hW.1
  · rw [← hws]; exact hW.2.1
end SPN
theorem sp_raI (U : State) (x y : ClassId) (h1 : va_RA U x .int) (h2 : va_RA U y .int) : x = y := by
  have g1 : U.vm.findClass ("[" ++ FieldType.int.toString) = some x := h1
  have g2 : U.vm.findClass ("[" ++ FieldType.int.toString) = some y := h2
  exact Option.some.inj (g1.symm.trans g2)
theorem sp_raB (U : State) (x y : ClassId) (h1 : va_RA U x .byte) (h2 : va_RA U y .byte) : x = y := by
  have g1 : U.vm.findClass ("[" ++ FieldType.byte.toString) = some x := h1
  have g2 : U.vm.findClass ("[" ++ FieldType.byte.toString) = some y := h2
  exact Option.some.inj (g1.symm.trans g2)
theorem sp_raL (U : State) (x y : ClassId) (h1 : va_RA U x .long) (h2 : va_RA U y .long) : x = y := by
  have g1 : U.vm.findClass ("[" ++ FieldType.long.toString) = some x := h1
  have g2 : U.vm.findClass ("[" ++ FieldType.long.toString) = some y := h2
  exact Option.some.inj (g1.symm.trans g2)
theorem sp_haI (N : Nat) (cA : ClassId) : vp_cell cA (N, .inl (fun _ => 0)) = arrV cA N (fun _ => defaultValue .int) := rfl
theorem sp_haB (N : Nat) (cA : ClassId) : vp_cell cA (N, .inl (fun _ => 0)) = arrV cA N (fun _ => defaultValue .byte) := rfl
theorem sp_haL (N : Nat) (cA : ClassId) : vp_cell cA (N, .inr (.inl (fun _ => 0))) = arrV cA N (fun _ => defaultValue .long) := rfl
