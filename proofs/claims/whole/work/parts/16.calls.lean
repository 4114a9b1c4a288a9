/-! worlds up to the order of their cells: the callee's cells ahead, the rest behind -/
theorem sp_Pm {D : va_G} {cl : List vw_C} {ws : va_W} {H : Heap} : va_P D cl ws H ↔ ∀ q ∈ ws, va_at D cl q H :=
  ⟨fun h q hq => by obtain ⟨k, hk⟩ := List.mem_iff_getElem?.mp hq; exact h k q hk, fun h k q hk => h q (List.mem_of_getElem? hk)⟩
theorem sp_Dm {A : Nat → Prop} {ws : va_W} : va_D A ws ↔ (ws.map (fun q => q.1)).Nodup ∧ ∀ q ∈ ws, A q.1 := by
  constructor
  · intro h
    refine ⟨List.pairwise_iff_getElem.mpr fun i j hi hj hij he => ?_, fun q hq => ?_⟩
    · rw [List.length_map] at hi hj
      rw [List.getElem_map, List.getElem_map] at he
      have := h.1 i j _ _ (List.getElem?_eq_getElem hi) (List.getElem?_eq_getElem hj) he
      omega
    · obtain ⟨k, hk⟩ := List.mem_iff_getElem?.mp hq
      exact h.2 k q hk
  · intro h
    refine ⟨fun i j p q hi hj he => ?_, fun k q hk => h.2 q (List.mem_of_getElem? hk)⟩
    have h1 := List.pairwise_iff_getElem.mp h.1
    obtain ⟨hil, hi⟩ := List.getElem?_eq_some_iff.mp hi
    obtain ⟨hjl, hj⟩ := List.getElem?_eq_some_iff.mp hj
    rcases Nat.lt_trichotomy i j with hl | hl | hl
    · exact absurd (by rw [List.getElem_map, List.getElem_map, hi, hj]; exact he) (h1 i j (by rw [List.length_map]; exact hil) (by rw [List.length_map]; exact hjl) hl)
    · exact hl
    · exact absurd (by rw [List.getElem_map, List.getElem_map, hi, hj]; exact he.symm) (h1 j i (by rw [List.length_map]; exact hjl) (by rw [List.length_map]; exact hil) hl)
theorem sp_wd.perm {D : va_G} {A : Nat → Prop} {H0 H : Heap} {ws ws' : va_W} {locs : List Loc} (h : sp_wd D A H0 ws H locs) (hp : ws.Perm ws') : sp_wd D A H0 ws' H locs := by
  refine ⟨sp_Pm.mpr fun q hq => sp_Pm.mp h.1 q (hp.mem_iff.mpr hq), sp_Dm.mpr ⟨?_, fun q hq => (sp_Dm.mp h.2.1).2 q (hp.mem_iff.mpr hq)⟩, h.2.2⟩
  exact (hp.map _).nodup_iff.mp (sp_Dm.mp h.2.1).1
theorem sp_freeP {D : va_G} {A : Nat → Prop} {H0 H : Heap} {wc R : va_W} {locs : List Loc} (h : sp_wd D A H0 (wc ++ R) H locs) (hA : ∀ q : Nat, H0.size ≤ q → A q) : ∀ q, va_A wc H.size q → A q := by
  intro q hq
  rcases hq with ⟨k, e, hk⟩ | hq
  · exact (sp_Dm.mp h.2.1).2 (q, e) (List.mem_append_left _ (List.mem_of_getElem? hk))
  · exact hA q (Nat.le_trans h.2.2.1 hq)
theorem sp_postP {D : va_G} {A : Nat → Prop} {H0 H H1 : Heap} {wc w1 R : va_W} {locs locs1 : List Loc} (h : sp_wd D A H0 (wc ++ R) H locs) (hfst : wc.map (fun q => q.1) = w1.map (fun q => q.1)) (hk : ∀ q : Nat, q < H.size → ¬ va_A wc H.size q → H1[q]? = H[q]?) (hB : va_P D vwCl w1 H1) (hS : va_S A H0 H1 locs1) : sp_wd D A H0 (w1 ++ R) H1 locs1 := by
  refine ⟨sp_Pm.mpr fun q hq => ?_, sp_D_fst h.2.1 (by rw [List.map_append, List.map_append, hfst]), hS⟩
  rcases List.mem_append.mp hq with hq | hq
  · exact sp_Pm.mp hB q hq
  · have h1 := sp_Pm.mp h.1 q (List.mem_append_right _ hq)
    refine h1.kept (hk q.1 h1.lt fun hA => ?_)
    rcases hA with ⟨k, e, hk⟩ | hA
    · have hn := (sp_Dm.mp h.2.1).1
      rw [List.map_append, List.nodup_append] at hn
      exact hn.2.2 q.1 (List.mem_map.mpr ⟨(q.1, e), List.mem_of_getElem? hk, rfl⟩) q.1 (List.mem_map.mpr ⟨q, hq, rfl⟩) rfl
    · have := h1.lt; omega
def sp_fl : List va_W → va_W
  | [] => []
  | [r] => r
  | r :: r1 :: rs => r ++ sp_fl (r1 :: rs)
theorem sp_fl_eq : ∀ l : List va_W, sp_fl l = l.flatten
  | [] => rfl
  | [r] => by simp [sp_fl]
  | r :: r1 :: rs => by rw [sp_fl, sp_fl_eq (r1 :: rs)]; simp
theorem sp_pq (RS : List va_W) (i0 ic ir : List Nat) (h : i0.Perm (ic ++ ir)) : (sp_fl (i0.map fun i => RS.getD i [])).Perm (sp_fl (ic.map fun i => RS.getD i []) ++ sp_fl (ir.map fun i => RS.getD i [])) := by
  rw [sp_fl_eq, sp_fl_eq, sp_fl_eq, ← List.flatten_append, ← List.map_append]
  exact (h.map _).flatten
theorem sp_pq' (RS : List va_W) (i0 ic ir : List Nat) (h : i0.Perm (ic ++ ir)) : (sp_fl (ic.map fun i => RS.getD i []) ++ sp_fl (ir.map fun i => RS.getD i [])).Perm (sp_fl (i0.map fun i => RS.getD i [])) := (sp_pq RS i0 ic ir h).symm
theorem sp_pn (ws : va_W) : ws.Perm (ws ++ []) := by rw [List.append_nil]
theorem sp_pn' (ws : va_W) : (ws ++ []).Perm ws := by rw [List.append_nil]
section SPQ
variable {p : Program} {l : Launch} {e : Env} {R : Room} {s : State} {m : MethodId} {args : Array Value} {below : List Frame} {meth : Method} {c : Code} {H : Heap} {locs : List Loc} {cells slots : Nat} {Q : State → Prop} {cc : ByteArray} {nL : Nat} {Ts : List Cond} {own : String} {pc : Nat} {ls : Array Slot} {rest : List Value} {D : va_G} {A : Nat → Prop} {H0 : Heap} {q5 : Nat → ClassId}
variable {y : MethodName} {bytes : ByteArray} {maxL n index : Nat} {ret : Option FieldType} {w : List Cond} {rm : Room} {As : List Value} {g g' : Nat} {WS wc w1 WS' RR : va_W} {b : Nat}
theorem sp_preP {av : List Value} (hK : va_K D vwCl (sp_ty q5) s) (hG : sp_GG g A s s.heap) (hg : g' ≤ g) (hA : ∀ q : Nat, s.heap.size ≤ q → A q) (hW : sp_wd D A s.heap (wc ++ RR) H locs) : ∀ U : State, U.heap = H → s.WarmedH U.vm → va_Pc av (sp_Pc D q5 g' wc H.size) av.toArray U := by
  intro U hU hWm
  refine ⟨rfl, by rw [hU], ?_, va_K.moved hWm.alike hK, ?_, ?_⟩
  · rw [hU]; exact sp_Pm.mpr fun q hq => sp_Pm.mp hW.1 q (List.mem_append_left _ hq)
  · have hn := (sp_Dm.mp hW.2.1).1
    rw [List.map_append, List.nodup_append] at hn
    exact sp_Dm.mpr ⟨hn.1, fun _ _ => trivial⟩
  · rw [hU]
    exact hG.to hg hWm hW.2.2.2.1 (sp_freeP hW hA)
theorem sp_callViP {r : Int32} (S : CallFix p m c cc nL s args Ts own) (hK : va_K D vwCl (sp_ty q5) s) (hG : sp_GG g A s s.heap) (hA : ∀ q : Nat, s.heap.size ≤ q → A q) (hW : sp_wd D A s.heap WS H locs) (hM : sp_Ci l y w rm D q5 g' (.ref b :: As) wc r w1) (hg : g' ≤ g) {C : String} {T : u_T} {N : Nat} (cw : CallW R s args own C index y bytes maxL ret w rm 0 0 n) (ci k : Nat) {fs : List Value} (hc : vwCl[ci]? = some (C, T, N)) (he : WS[k]? = some (b, .inr (ci, fs))) (hp : WS.Perm (wc ++ RR)) (hfst : wc.map (fun q => q.1) = w1.map (fun q => q.1)) (hp' : (w1 ++ RR).Perm WS')
    (hn : As.length = n) (hsz : ls.size = nL) (hroom : (rest.map fun v => v.category).sum ≤ 8) (hdg : decode cc pc = .ok (.invokevirtual index, 3)) (hf : cells ≤ R.cells ∧ slots ≤ R.slots) {st0 : List Value} (hst : st0 = As.reverse ++ .ref b :: rest)
    (kk : ∀ (H1 : Heap) (locs1 : List Loc), sp_wd D A s.heap WS' H1 locs1 → W p l e R s m args below meth c H1 locs1 cells slots Q (F0 m (pc + 3) ls (.int r :: rest))) : W p l e R s m args below meth c H locs cells slots Q (F0 m pc ls st0) := by
  have hW2 := hW.perm hp
  have hF := sp_freeP hW2 hA
  refine va_calli (va_runV (As := As) (rest := rest) S (hM H.size) cw ⟨sp_blind, sp_recv (wc := wc) hK hW hc he, sp_preP hK hG hg hA hW2⟩ rfl hn hsz hst (lv_room hroom) hdg hf) hW.2.2 (fun q _ h => hF q h) hF (fun r' u t H1 locs1 ht hvm hw hB hz hk hS => ?_)
  subst hw
  rw [ht] at hB
  exact kk H1 locs1 ((sp_postP hW2 hfst hk hB hS).perm hp')
theorem sp_callVlP {r : Int64} (S : CallFix p m c cc nL s args Ts own) (hK : va_K D vwCl (sp_ty q5) s) (hG : sp_GG g A s s.heap) (hA : ∀ q : Nat, s.heap.size ≤ q → A q) (hW : sp_wd D A s.heap WS H locs) (hM : sp_Cl l y w rm D q5 g' (.ref b :: As) wc r w1) (hg : g' ≤ g) {C : String} {T : u_T} {N : Nat} (cw : CallW R s args own C index y bytes maxL ret w rm 0 0 n) (ci k : Nat) {fs : List Value} (hc : vwCl[ci]? = some (C, T, N)) (he : WS[k]? = some (b, .inr (ci, fs))) (hp : WS.Perm (wc ++ RR)) (hfst : wc.map (fun q => q.1) = w1.map (fun q => q.1)) (hp' : (w1 ++ RR).Perm WS')
    (hn : As.length = n) (hsz : ls.size = nL) (hroom : (rest.map fun v => v.category).sum ≤ 8) (hdg : decode cc pc = .ok (.invokevirtual index, 3)) (hf : cells ≤ R.cells ∧ slots ≤ R.slots) {st0 : List Value} (hst : st0 = As.reverse ++ .ref b :: rest)
    (kk : ∀ (H1 : Heap) (locs1 : List Loc), sp_wd D A s.heap WS' H1 locs1 → W p l e R s m args below meth c H1 locs1 cells slots Q (F0 m (pc + 3) ls (.long r :: rest))) : W p l e R s m args below meth c H locs cells slots Q (F0 m pc ls st0) := by
  have hW2 := hW.perm hp
  have hF := sp_freeP hW2 hA
  refine va_calll (va_runV (As := As) (rest := rest) S (hM H.size) cw ⟨sp_blind, sp_recv (wc := wc) hK hW hc he, sp_preP hK hG hg hA hW2⟩ rfl hn hsz hst (lv_room hroom) hdg hf) hW.2.2 (fun q _ h => hF q h) hF (fun r' u t H1 locs1 ht hvm hw hB hz hk hS => ?_)
  subst hw
  rw [ht] at hB
  exact kk H1 locs1 ((sp_postP hW2 hfst hk hB hS).perm hp')
theorem sp_callVvP (S : CallFix p m c cc nL s args Ts own) (hK : va_K D vwCl (sp_ty q5) s) (hG : sp_GG g A s s.heap) (hA : ∀ q : Nat, s.heap.size ≤ q → A q) (hW : sp_wd D A s.heap WS H locs) (hM : sp_Cv l y w rm D q5 g' (.ref b :: As) wc w1) (hg : g' ≤ g) {C : String} {T : u_T} {N : Nat} (cw : CallW R s args own C index y bytes maxL ret w rm 0 0 n) (ci k : Nat) {fs : List Value} (hc : vwCl[ci]? = some (C, T, N)) (he : WS[k]? = some (b, .inr (ci, fs))) (hp : WS.Perm (wc ++ RR)) (hfst : wc.map (fun q => q.1) = w1.map (fun q => q.1)) (hp' : (w1 ++ RR).Perm WS')
    (hn : As.length = n) (hsz : ls.size = nL) (hroom : (rest.map fun v => v.category).sum ≤ 8) (hdg : decode cc pc = .ok (.invokevirtual index, 3)) (hf : cells ≤ R.cells ∧ slots ≤ R.slots) {st0 : List Value} (hst : st0 = As.reverse ++ .ref b :: rest)
    (kk : ∀ (H1 : Heap) (locs1 : List Loc), sp_wd D A s.heap WS' H1 locs1 → W p l e R s m args below meth c H1 locs1 cells slots Q (F0 m (pc + 3) ls rest)) : W p l e R s m args below meth c H locs cells slots Q (F0 m pc ls st0) := by
  have hW2 := hW.perm hp
  have hF := sp_freeP hW2 hA
  refine va_callv (va_runV (As := As) (rest := rest) S (hM H.size) cw ⟨sp_blind, sp_recv (wc := wc) hK hW hc he, sp_preP hK hG hg hA hW2⟩ rfl hn hsz hst (lv_room hroom) hdg hf) hW.2.2 (fun q _ h => hF q h) hF (fun u t H1 locs1 ht hvm hw hB hz hk hS => ?_)
  rw [ht] at hB
  exact kk H1 locs1 ((sp_postP hW2 hfst hk hB hS).perm hp')
theorem sp_callSiP {r : Int32} (S : CallFix p m c cc nL s args Ts own) (hK : va_K D vwCl (sp_ty q5) s) (hG : sp_GG g A s s.heap) (hA : ∀ q : Nat, s.heap.size ≤ q → A q) (hW : sp_wd D A s.heap WS H locs) (hM : sp_Ci l y w rm D q5 g' As wc r w1) (hg : g' ≤ g) (cw : CallB R s args own index y bytes maxL ret w rm 0 0 n ∧ (Cond.static y).before args s = true) (hp : WS.Perm (wc ++ RR)) (hfst : wc.map (fun q => q.1) = w1.map (fun q => q.1)) (hp' : (w1 ++ RR).Perm WS')
    (hn : As.length = n) (hsz : ls.size = nL) (hroom : (rest.map fun v => v.category).sum ≤ 8) (hdg : decode cc pc = .ok (.invokestatic index, 3)) (hf : cells ≤ R.cells ∧ slots ≤ R.slots) {st0 : List Value} (hst : st0 = As.reverse ++ rest)
    (kk : ∀ (H1 : Heap) (locs1 : List Loc), sp_wd D A s.heap WS' H1 locs1 → W p l e R s m args below meth c H1 locs1 cells slots Q (F0 m (pc + 3) ls (.int r :: rest))) : W p l e R s m args below meth c H locs cells slots Q (F0 m pc ls st0) := by
  have hW2 := hW.perm hp
  have hF := sp_freeP hW2 hA
  refine va_calli (va_runS (As := As) (rest := rest) S (hM H.size) cw ⟨sp_blind, sp_preP hK hG hg hA hW2⟩ rfl hn hsz hst (lv_room hroom) hdg hf) hW.2.2 (fun q _ h => hF q h) hF (fun r' u t H1 locs1 ht hvm hw hB hz hk hS => ?_)
  subst hw
  rw [ht] at hB
  exact kk H1 locs1 ((sp_postP hW2 hfst hk hB hS).perm hp')
theorem sp_callSlP {r : Int64} (S : CallFix p m c cc nL s args Ts own) (hK : va_K D vwCl (sp_ty q5) s) (hG : sp_GG g A s s.heap) (hA : ∀ q : Nat, s.heap.size ≤ q → A q) (hW : sp_wd D A s.heap WS H locs) (hM : sp_Cl l y w rm D q5 g' As wc r w1) (hg : g' ≤ g) (cw : CallB R s args own index y bytes maxL ret w rm 0 0 n ∧ (Cond.static y).before args s = true) (hp : WS.Perm (wc ++ RR)) (hfst : wc.map (fun q => q.1) = w1.map (fun q => q.1)) (hp' : (w1 ++ RR).Perm WS')
    (hn : As.length = n) (hsz : ls.size = nL) (hroom : (rest.map fun v => v.category).sum ≤ 8) (hdg : decode cc pc = .ok (.invokestatic index, 3)) (hf : cells ≤ R.cells ∧ slots ≤ R.slots) {st0 : List Value} (hst : st0 = As.reverse ++ rest)
    (kk : ∀ (H1 : Heap) (locs1 : List Loc), sp_wd D A s.heap WS' H1 locs1 → W p l e R s m args below meth c H1 locs1 cells slots Q (F0 m (pc + 3) ls (.long r :: rest))) : W p l e R s m args below meth c H locs cells slots Q (F0 m pc ls st0) := by
  have hW2 := hW.perm hp
  have hF := sp_freeP hW2 hA
  refine va_calll (va_runS (As := As) (rest := rest) S (hM H.size) cw ⟨sp_blind, sp_preP hK hG hg hA hW2⟩ rfl hn hsz hst (lv_room hroom) hdg hf) hW.2.2 (fun q _ h => hF q h) hF (fun r' u t H1 locs1 ht hvm hw hB hz hk hS => ?_)
  subst hw
  rw [ht] at hB
  exact kk H1 locs1 ((sp_postP hW2 hfst hk hB hS).perm hp')
end SPQ
