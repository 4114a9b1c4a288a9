/-! THE CLAIM OUT OF ONE WALK OF THE LAW'S BODY. Your part is whole_start (and what it stands on); all else here is the same for every law, but numbers. -/
def R_law : String := "ShortProofsLaw"
def lw_P (b : Addr) (xs : List Int32) (args : Array Value) (s : State) : Prop := args = #[.ref b] ∧ s.IntsAt b xs ∧ xs.length ≤ 3072 ∧ (Jvm.Cond.and given_1 narrow_1).before args s = true
def lw_Q (_ : Array Value) (s : State) (o : Outcome) (t : State) : Prop := o = .returned (some (.int 1)) ∧ Framed s o t [] 600000 7302250
def lw_Z (below : List Frame) (a : Array Value) (s : State) : State → Prop := fun t => ∃ o, t.status = .running ∧ Ended t below o ∧ lw_Q a s o t
/-- the law's own end, with 1 on the stack, nothing written that was there before, its room as the claim has it -/
theorem lw_ret {p : Program} {l : Launch} {e : Env} {s : State} {m : MethodId} {below : List Frame} {meth : Method} {c : Code} {b : Nat} (hx : p.tables.exec = Jvm.exec) (hb : c.code = code) (hr : meth.sig.returnType = ret) (hlocks : meth.locks = false) {pc : Nat} {H : Heap} {ls : Array Slot} (hdg : decode code pc = .ok (.ireturn, 1)) : W p l e room_1 s m #[Value.ref b] below meth c H [] 600000 7302250 (lw_Z below #[Value.ref b] s) (F0 m pc ls [.int 1]) := by
  intro T hT X
  obtain ⟨fs, hret, hrun, hended, hW, hframe⟩ := X.leave (v := some (.int 1)) (hlocks := hlocks) (fun h => by rw [hr] at h; cases h)
  have hmeth' : T.vm.method? m = some meth := X.method'
  refine ⟨T.setFrames fs, ?_, .returned (some (.int 1)), hrun, hended, rfl, ⟨_, rfl⟩, hW, hframe⟩
  jvm_step X.here [X.here.top, hx, hb, hdg, hmeth', hr, ret, narrow_b1]
  (try refine ⟨rfl, ?_⟩); (try refine ⟨rfl, ?_⟩)
  first | (intro acts; rw [hret _ acts rfl rfl rfl]) | rw [hret _ _ rfl rfl rfl]
  exact Steps.refl _
/-- what holds at the law's entry: the machine, the code, the tables' words (any of lw_tbl by 'hts w (by decide +kernel)'), the script of L ints xs at the cell b, what the Statement gives of the start (any of its parts by flat_of_before) -/
def lw_At (p : Program) (s : State) (m : MethodId) (meth : Method) (c : Code) (b L : Nat) (xs : Nat → Int32) : Prop :=
  p.tables.exec = Jvm.exec ∧ c.code = code ∧ meth.sig.returnType = ret ∧ c.maxLocals = 4 ∧ s.vm.findClass R_law = some m.cls ∧ (∀ w ∈ lw_tbl, w.before #[Value.ref b] s = true) ∧ va_X b L xs s s.heap ∧ b < s.heap.size ∧ meth.locks = false ∧ (Jvm.Cond.and given_1 narrow_1).before #[Value.ref b] s = true
def sp_x0 : sp_XS := (fun _ => sp_pr0, fun _ => sp_sh0, ((fun _ => 0), 0, 0), sp_pr0, ((fun _ => 0), (fun _ => 0)), ((fun _ => 0), 0, 0, (fun _ => 0), (fun _ => 0), (fun _ => 0), (fun _ => 0)), ((fun _ => 0), (fun _ => 0), (fun _ => 0), 0), sp_pr0, ((fun _ => 0), (fun _ => 0)), (0, -1, 0, 0))
def sp_y0 : sp_MS := (0, 0, (upd (upd (upd (upd (fun _ => 0) 0 (-9)) 1 (-9)) 2 (-9)) 3 (-9)), (fun _ => 0), (fun _ => 0), 0, (fun _ => 0), (fun _ => 0), (fun _ => 0), (fun _ => 0), (fun _ => 0), 0, (fun _ => 0), (fun _ => 0), (fun _ => 0), (fun _ => 0), 0, 0, (fun _ => 0), 0, (fun _ => 0), (fun _ => 0), (fun _ => 0), (fun _ => 0), (fun _ => 0), (fun _ => 0), (fun _ => 0), (fun _ => 0), (fun _ => 0), (fun _ => 0), (fun _ => 0), (fun _ => 0))
theorem sp_rel0 : sp_Rel sp_x0 sp_y0 := by
  refine ⟨0, by decide, rfl, rfl, rfl, rfl, fun k hk => ⟨Or.inl ⟨?_, rfl⟩, ⟨0, by decide, rfl, rfl⟩, fun _ _ => rfl⟩, fun p hp => absurd hp (Nat.not_lt_zero p), Or.inl rfl⟩
  rcases (show k = 0 ∨ k = 1 ∨ k = 2 ∨ k = 3 by omega) with rfl | rfl | rfl | rfl <;> rfl
theorem sp_head {L i : Nat} (hL : L ≤ 3072) (hi : i ≤ 4000) : (Int32.ofNat L - 6 < Int32.ofNat i) ↔ L < i + 6 := by
  rw [Int32.lt_iff_toInt_lt, Int32.toInt_sub, Int32.toInt_ofNat_of_lt (by omega), Int32.toInt_ofNat_of_lt (by omega), show (6 : Int32).toInt = 6 from rfl, Int.bmod_eq_of_le (by omega) (by omega)]
  omega
theorem sp_and31 (x : Int32) : ∃ j : Nat, j < 32 ∧ x &&& 31 = Int32.ofNat j := by
  refine ⟨(x &&& 31).toBitVec.toNat, ?_, ?_⟩
  · rw [Int32.toBitVec_and, BitVec.toNat_and]
    exact Nat.lt_succ_of_le (Nat.le_trans Nat.and_le_right (by decide))
  · apply Int32.toBitVec_inj.mp
    rw [Int32.toBitVec_ofNat', BitVec.ofNat_toNat, BitVec.setWidth_eq]
theorem lw_switch {p : Program} {l : Launch} {e : Env} {s : State} {m : MethodId} {below : List Frame} {meth : Method} {c : Code} {D : va_G} {A : Nat → Prop} {q5 : Nat → ClassId} {b L : Nat} {xs : Nat → Int32} {u : sp_XT} {w : Nat → Nat} {i : Nat} {x : sp_XS} {y : sp_MS} {H : Heap} {locs : List Loc} {ls : Array Slot} {Q : State → Prop} (C : sp_ctx p s m meth c D q5 A b L xs u) (hi : i + 6 ≤ L) (hR : sp_Rel x y) (hW : sp_wd D A s.heap (sp_XW q5 u x ++ sp_MW q5 w y) H locs) (hl : lv_has ls 4 [(3, .int (Int32.ofNat i)), (0, .ref b), (1, .ref (u.1 0)), (2, .ref (w 0))])
    (kk : ∀ (x' : sp_XS) (y' : sp_MS) (H : Heap) (locs : List Loc), sp_Rel x' y' → sp_wd D A s.heap (sp_XW q5 u x' ++ sp_MW q5 w y') H locs → W p l e room_1 s m #[Value.ref b] below meth c H locs 139 16093 Q (F0 m 1211 ls [])) : W p l e room_1 s m #[Value.ref b] below meth c H locs 139 16093 Q (F0 m 33 ls [.int (xs i &&& 31)]) := by
  obtain ⟨j, hj, hz⟩ := sp_and31 (xs i)
  rw [hz]
  match j, hj with
  | 0, _ => exact lv_tableIn (tgt := 168) (off := 135) C.1.1 C.1.2.1 dL_law_33 (by decide) (by decide) rfl (by decide) (lo_text C hi hR hW hl kk)
  | 1, _ => exact lv_tableIn (tgt := 221) (off := 188) C.1.1 C.1.2.1 dL_law_33 (by decide) (by decide) rfl (by decide) (lo_line C hi hR hW hl kk)
  | 2, _ => exact lv_tableIn (tgt := 264) (off := 231) C.1.1 C.1.2.1 dL_law_33 (by decide) (by decide) rfl (by decide) (lo_size C hi hR hW hl kk)
  | 3, _ => exact lv_tableIn (tgt := 297) (off := 264) C.1.1 C.1.2.1 dL_law_33 (by decide) (by decide) rfl (by decide) (lo_rests C hi hR hW hl kk)
  | 4, _ => exact lv_tableIn (tgt := 320) (off := 287) C.1.1 C.1.2.1 dL_law_33 (by decide) (by decide) rfl (by decide) (lo_truly C hi hR hW hl kk)
  | 5, _ => exact lv_tableIn (tgt := 343) (off := 310) C.1.1 C.1.2.1 dL_law_33 (by decide) (by decide) rfl (by decide) (lo_fewest C hi hR hW hl kk)
  | 6, _ => exact lv_tableIn (tgt := 376) (off := 343) C.1.1 C.1.2.1 dL_law_33 (by decide) (by decide) rfl (by decide) (lo_shorter C hi hR hW hl kk)
  | 7, _ => exact lv_tableIn (tgt := 409) (off := 376) C.1.1 C.1.2.1 dL_law_33 (by decide) (by decide) rfl (by decide) (lo_safe C hi hR hW hl kk)
  | 8, _ => exact lv_tableIn (tgt := 442) (off := 409) C.1.1 C.1.2.1 dL_law_33 (by decide) (by decide) rfl (by decide) (lo_twice C hi hR hW hl kk)
  | 9, _ => exact lv_tableIn (tgt := 465) (off := 432) C.1.1 C.1.2.1 dL_law_33 (by decide) (by decide) rfl (by decide) (lo_heap C hi hR hW hl kk)
  | 10, _ => exact lv_tableIn (tgt := 498) (off := 465) C.1.1 C.1.2.1 dL_law_33 (by decide) (by decide) rfl (by decide) (lo_shared C hi hR hW hl kk)
  | 11, _ => exact lv_tableIn (tgt := 531) (off := 498) C.1.1 C.1.2.1 dL_law_33 (by decide) (by decide) rfl (by decide) (lo_core C hi hR hW hl kk)
  | 12, _ => exact lv_tableIn (tgt := 574) (off := 541) C.1.1 C.1.2.1 dL_law_33 (by decide) (by decide) rfl (by decide) (lo_middle C hi hR hW hl kk)
  | 13, _ => exact lv_tableIn (tgt := 618) (off := 585) C.1.1 C.1.2.1 dL_law_33 (by decide) (by decide) rfl (by decide) (lo_truths C hi hR hW hl kk)
  | 14, _ => exact lv_tableIn (tgt := 662) (off := 629) C.1.1 C.1.2.1 dL_law_33 (by decide) (by decide) rfl (by decide) (lo_cuts C hi hR hW hl kk)
  | 15, _ => exact lv_tableIn (tgt := 695) (off := 662) C.1.1 C.1.2.1 dL_law_33 (by decide) (by decide) rfl (by decide) (lo_units C hi hR hW hl kk)
  | 16, _ => exact lv_tableIn (tgt := 728) (off := 695) C.1.1 C.1.2.1 dL_law_33 (by decide) (by decide) rfl (by decide) (lo_follows C hi hR hW hl kk)
  | 17, _ => exact lv_tableIn (tgt := 761) (off := 728) C.1.1 C.1.2.1 dL_law_33 (by decide) (by decide) rfl (by decide) (lo_cut C hi hR hW hl kk)
  | 18, _ => exact lv_tableIn (tgt := 804) (off := 771) C.1.1 C.1.2.1 dL_law_33 (by decide) (by decide) rfl (by decide) (lo_stronger C hi hR hW hl kk)
  | 19, _ => exact lv_tableIn (tgt := 837) (off := 804) C.1.1 C.1.2.1 dL_law_33 (by decide) (by decide) rfl (by decide) (lo_sheet C hi hR hW hl kk)
  | 20, _ => exact lv_tableIn (tgt := 880) (off := 847) C.1.1 C.1.2.1 dL_law_33 (by decide) (by decide) rfl (by decide) (lo_lose C hi hR hW hl kk)
  | 21, _ => exact lv_tableIn (tgt := 903) (off := 870) C.1.1 C.1.2.1 dL_law_33 (by decide) (by decide) rfl (by decide) (lo_put C hi hR hW hl kk)
  | 22, _ => exact lv_tableIn (tgt := 946) (off := 913) C.1.1 C.1.2.1 dL_law_33 (by decide) (by decide) rfl (by decide) (lo_cell C hi hR hW hl kk)
  | 23, _ => exact lv_tableIn (tgt := 990) (off := 957) C.1.1 C.1.2.1 dL_law_33 (by decide) (by decide) rfl (by decide) (lo_copy C hi hR hW hl kk)
  | 24, _ => exact lv_tableIn (tgt := 1053) (off := 1020) C.1.1 C.1.2.1 dL_law_33 (by decide) (by decide) rfl (by decide) (lo_tell C hi hR hW hl kk)
  | 25, _ => exact lv_tableIn (tgt := 1086) (off := 1053) C.1.1 C.1.2.1 dL_law_33 (by decide) (by decide) rfl (by decide) (lo_show C hi hR hW hl kk)
  | 26, _ => exact lv_tableIn (tgt := 1119) (off := 1086) C.1.1 C.1.2.1 dL_law_33 (by decide) (by decide) rfl (by decide) (lo_as C hi hR hW hl kk)
  | 27, _ => exact lv_tableIn (tgt := 1162) (off := 1129) C.1.1 C.1.2.1 dL_law_33 (by decide) (by decide) rfl (by decide) (lo_trace C hi hR hW hl kk)
  | 28, _ => exact lv_tableIn (tgt := 1175) (off := 1142) C.1.1 C.1.2.1 dL_law_33 (by decide) (by decide) rfl (by decide) (lo_fault C hi hR hW hl kk)
  | 29, _ => exact lv_tableIn (tgt := 1188) (off := 1155) C.1.1 C.1.2.1 dL_law_33 (by decide) (by decide) rfl (by decide) (lo_many C hi hR hW hl kk)
  | 30, _ => exact lv_tableOut (tgt := 1211) C.1.1 C.1.2.1 dL_law_33 (by decide) (by decide) (kk x y _ _ hR hW)
  | 31, _ => exact lv_tableOut (tgt := 1211) C.1.1 C.1.2.1 dL_law_33 (by decide) (by decide) (kk x y _ _ hR hW)
  | j + 32, hj => exact absurd hj (by omega)
theorem lw_loop {p : Program} {l : Launch} {e : Env} {s : State} {m : MethodId} {below : List Frame} {meth : Method} {c : Code} {D : va_G} {A : Nat → Prop} {q5 : Nat → ClassId} {b L : Nat} {xs : Nat → Int32} {u : sp_XT} {w : Nat → Nat} (C : sp_ctx p s m meth c D q5 A b L xs u) (hr : meth.sig.returnType = ret) (hlk : meth.locks = false) (hAs : ∀ q, A q → s.heap.size ≤ q) : ∀ (n i : Nat) (x : sp_XS) (y : sp_MS) (H : Heap) (locs : List Loc) (ls : Array Slot), L < i + 6 * n + 6 → i ≤ 3900 → sp_Rel x y → sp_wd D A s.heap (sp_XW q5 u x ++ sp_MW q5 w y) H locs → lv_has ls 4 [(3, .int (Int32.ofNat i)), (0, .ref b), (1, .ref (u.1 0)), (2, .ref (w 0))] → W p l e room_1 s m #[Value.ref b] below meth c H locs 139 16093 (lw_Z below #[Value.ref b] s) (F0 m 18 ls []) := by
  obtain ⟨S, hK, hG, hA, hX, hbl, hbA, hu, hL⟩ := id C
  have hx := S.1
  have hb := S.2.1
  intro n
  induction n with
  | zero =>
    intro i x y H locs ls hn hi hR hW hl
    refine lv_iload_n hx hb dL_law_18 rfl (lv_at hl 0 rfl) ?_
    refine lv_aload_n hx hb dL_law_19 rfl (lv_at hl 1 rfl) ?_
    refine va_slen hx hb hX hbl hbA hW.2.2 dL_law_20 ?_
    refine lv_bipush (v := 6) hx hb dL_law_21 (by decide) ?_
    refine lv_isub hx hb dL_law_23 ?_
    refine lv_icmp_gt (tgt := 1217) hx hb dL_law_24 (by decide) (fun hc => ?_) (fun hc => absurd ((sp_head hL (by omega)).mpr (by omega)) hc)
    refine va_forget (fun q hq => hAs _ (hW.2.2.2.2 q hq)) ?_
    refine W.widen (k := 600000) (n := 7302250) (by decide) (by decide) ?_
    refine lv_iconst (v := 1) hx hb dL_law_1217 (by decide) ?_
    exact lw_ret hx hb hr hlk dL_law_1218
  | succ n ih =>
    intro i x y H locs ls hn hi hR hW hl
    refine lv_iload_n hx hb dL_law_18 rfl (lv_at hl 0 rfl) ?_
    refine lv_aload_n hx hb dL_law_19 rfl (lv_at hl 1 rfl) ?_
    refine va_slen hx hb hX hbl hbA hW.2.2 dL_law_20 ?_
    refine lv_bipush (v := 6) hx hb dL_law_21 (by decide) ?_
    refine lv_isub hx hb dL_law_23 ?_
    refine lv_icmp_gt (tgt := 1217) hx hb dL_law_24 (by decide) (fun hc => ?_) (fun hc => ?_)
    · refine va_forget (fun q hq => hAs _ (hW.2.2.2.2 q hq)) ?_
      refine W.widen (k := 600000) (n := 7302250) (by decide) (by decide) ?_
      refine lv_iconst (v := 1) hx hb dL_law_1217 (by decide) ?_
      exact lw_ret hx hb hr hlk dL_law_1218
    · have hi6 : i + 6 ≤ L := by
        rcases Nat.lt_or_ge L (i + 6) with h | h
        · exact absurd ((sp_head hL (by omega)).mpr h) hc
        · exact h
      refine lv_aload_n hx hb dL_law_27 rfl (lv_at hl 1 rfl) ?_
      refine lv_iload_n hx hb dL_law_28 rfl (lv_at hl 0 rfl) ?_
      refine va_sld hx hb hX hbl hbA hW.2.2 (sp_i_in (by omega) (by omega)) dL_law_29 ?_
      rw [sp_i_nat (by omega)]
      refine lv_bipush (v := 31) hx hb dL_law_30 (by decide) ?_
      refine lv_iand hx hb dL_law_32 ?_
      refine lw_switch C hi6 hR hW hl (fun x' y' H locs hR hW => ?_)
      refine lv_iinc (v := Int32.ofNat (i + 6)) (lv' := [(3, .int (Int32.ofNat (i + 6))), (0, .ref b), (1, .ref (u.1 0)), (2, .ref (w 0))]) hx hb dL_law_1211 hl (k := 0) rfl (by rw [Int32.ofNat_add]; rfl) (by decide) rfl (fun ls hl => ?_)
      refine lv_goto (tgt := 18) hx hb dL_law_1214 (by decide) ?_
      exact ih (i + 6) x' y' _ _ _ (by omega) (by omega) hR hW hl
theorem sp_arr {s : State} {args : Array Value} {ty : FieldType} (h : (Cond.arrayClass ty).before args s = true) (hp : ∀ (U : State) (x : ClassId), U.vm.findClass ("[" ++ ty.toString) = some x → va_RA U x ty) : ∃ cA : ClassId, ArrOfT s cA ty ∧ va_RA s cA ty := by
  obtain ⟨c, k, comp, h1, h2, h3⟩ := Cond.arrayClass_spec h
  exact ⟨c, fun N z => ⟨(fun k h => by cases h), k, h2, comp, h3⟩, hp s c h1⟩
theorem sp_arrq {s : State} {args : Array Value} {C : String} (h : (Cond.arrayOver (.object C)).before args s = true) : ∃ cA : ClassId, ArrOfT s cA (.object C) ∧ va_RA s cA (.object C) := by
  obtain ⟨comp, cA, kA, hcomp, hidx, hkA, hkindA, hnameA⟩ := Cond.arrayOver_spec h
  exact ⟨cA, fun N z => ⟨(fun k h => by cases h), kA, hkA, comp, hkindA⟩, kA, comp, hkA, hkindA, hcomp, hnameA⟩
set_option maxHeartbeats 4000000 in
theorem whole_start {p : Program} {e : Env} {s : State} {m : MethodId} {below : List Frame} {meth : Method} {c : Code} (l : Launch) {b L : Nat} {xs : Nat → Int32} (hL : L ≤ 3072) (C0 : lw_At p s m meth c b L xs) : W p l e room_1 s m #[Value.ref b] below meth c s.heap [] 0 0 (lw_Z below #[Value.ref b] s) (entryFrame m ([Value.ref b] : List Value).toArray 4) := by
  obtain ⟨hx, hb, hr, hml, hown, hts, hX, hbl, hlk, hgv⟩ := C0
  obtain ⟨c0, i0, k0⟩ := u_known hts inb_X1 (hts _ iw_802)
  obtain ⟨c1, i1, k1⟩ := u_known hts inb_X2 (hts _ iw_810)
  obtain ⟨c2, i2, k2⟩ := u_known hts inb_X3 (hts _ iw_806)
  obtain ⟨c3, i3, k3⟩ := u_known hts inb_X4 (hts _ iw_808)
  obtain ⟨c4, i4, k4⟩ := u_known hts inb_X5 (hts _ iw_826)
  obtain ⟨c5, i5, k5⟩ := u_known hts inb_X6 (hts _ iw_804)
  obtain ⟨c6, i6, k6⟩ := u_known hts inb_X8 (hts _ iw_824)
  obtain ⟨c7, i7, k7⟩ := u_known hts inb_X9 (hts _ iw_1027)
  obtain ⟨c8, i8, k8⟩ := u_known hts inb_X10 (hts _ iw_1029)
  obtain ⟨aI, aI1, aI2⟩ := sp_arr (hts _ iw_820) (fun U x h => h)
  obtain ⟨aL, aL1, aL2⟩ := sp_arr (hts _ iw_840) (fun U x h => h)
  obtain ⟨aB, aB1, aB2⟩ := sp_arr (hts _ iw_831) (fun U x h => h)
  have hoP := hts (Cond.arrayOver (.object "ShortProofs$Proof")) (it1 (List.mem_of_getElem? (i := 25) rfl))
  have hoS := hts (Cond.arrayOver (.object "ShortProofs$Sheet")) (it1 (List.mem_of_getElem? (i := 84) rfl))
  obtain ⟨aP, aP1, aP2⟩ := sp_arrq hoP
  obtain ⟨aS, aS1, aS2⟩ := sp_arrq hoS
  let D : va_G := (fun k => match k with | 0 => c0 | 1 => c1 | 2 => c2 | 3 => c3 | 4 => c4 | 5 => c5 | 6 => c6 | 7 => c7 | _ => c8, fun k => match k with | 0 => i0 | 1 => i1 | 2 => i2 | 3 => i3 | 4 => i4 | 5 => i5 | 6 => i6 | 7 => i7 | _ => i8)
  let q5 : Nat → ClassId := fun k => match k with | 0 => aI | 1 => aL | 2 => aB | 3 => aP | _ => aS
  have hK : va_K D vwCl (sp_ty q5) s := by
    refine ⟨fun c q hq => ?_, fun k q hk => ?_⟩
    · match c, hq with
      | 0, hq => cases hq; exact k0
      | 1, hq => cases hq; exact k1
      | 2, hq => cases hq; exact k2
      | 3, hq => cases hq; exact k3
      | 4, hq => cases hq; exact k4
      | 5, hq => cases hq; exact k5
      | 6, hq => cases hq; exact k6
      | 7, hq => cases hq; exact k7
      | 8, hq => cases hq; exact k8
      | c + 9, hq => cases hq
    · match k, hk with
      | 0, hk => cases hk; exact ⟨aI1, aI2⟩
      | 1, hk => cases hk; exact ⟨aL1, aL2⟩
      | 2, hk => cases hk; exact ⟨aB1, aB2⟩
      | 3, hk => cases hk; exact ⟨aP1, aP2⟩
      | 4, hk => cases hk; exact ⟨aS1, aS2⟩
      | k + 5, hk => cases hk
  have hAn : ∀ a : Nat, a < s.heap.size → ¬ (fun q => s.heap.size ≤ q) a := fun a h1 h2 => by have h2 : s.heap.size ≤ a := h2; omega
  have hfl := flat_of_before _ hgv
  obtain ⟨t, ht, hT⟩ := va_Tof (tm := (Term.static "ShortProofs" "LETTER_TABLES" "[J")) (ty := .long) (N := 6) (f := fun j => .long (sp_lt j)) (A := fun q => s.heap.size ≤ q) (by decide) (hfl (Cond.arrayOf (Term.static "ShortProofs" "LETTER_TABLES" "[J") .long) (by decide +kernel)) (va_eqt (hfl (Cond.eq (.length (Term.static "ShortProofs" "LETTER_TABLES" "[J")) (.int 6)) (by decide +kernel))) (fun j hj => by
    match j, hj with
    | 0, _ => exact va_eqtl (hfl (Cond.eq (.elem (Term.static "ShortProofs" "LETTER_TABLES" "[J") (.int 0)) (.long (-6148914691236517206))) (by decide +kernel))
    | 1, _ => exact va_eqtl (hfl (Cond.eq (.elem (Term.static "ShortProofs" "LETTER_TABLES" "[J") (.int 1)) (.long (-3689348814741910324))) (by decide +kernel))
    | 2, _ => exact va_eqtl (hfl (Cond.eq (.elem (Term.static "ShortProofs" "LETTER_TABLES" "[J") (.int 2)) (.long (-1085102592571150096))) (by decide +kernel))
    | 3, _ => exact va_eqtl (hfl (Cond.eq (.elem (Term.static "ShortProofs" "LETTER_TABLES" "[J") (.int 3)) (.long (-71777214294589696))) (by decide +kernel))
    | 4, _ => exact va_eqtl (hfl (Cond.eq (.elem (Term.static "ShortProofs" "LETTER_TABLES" "[J") (.int 4)) (.long (-281470681808896))) (by decide +kernel))
    | 5, _ => exact va_eqtl (hfl (Cond.eq (.elem (Term.static "ShortProofs" "LETTER_TABLES" "[J") (.int 5)) (.long (-4294967296))) (by decide +kernel))
    | j + 6, hj => exact absurd hj (by omega)) hAn
  have hZ := va_Zof (C := "ShortProofs") (n := "LETTER_TABLES") (d := "[J") (A := fun q => s.heap.size ≤ q) (hts _ (it3 (List.mem_of_getElem? (i := 117) rfl))) (hts (Cond.initialized RX9) iw_18) ht hAn
  have hG : sp_GG 2 (fun q => s.heap.size ≤ q) s s.heap := by
    refine ⟨fun _ => ?_, fun _ => ⟨?_, t, hZ, hT⟩⟩
    · exact List.forall_mem_cons.mpr ⟨va_Nw.of rfl (hts _ (it1 (List.mem_of_getElem? (i := 27) rfl))), List.forall_mem_cons.mpr ⟨va_Nw.of rfl (hts _ (it1 (List.mem_of_getElem? (i := 86) rfl))), List.forall_mem_cons.mpr ⟨va_Nw.of rfl (hts _ (it1 (List.mem_of_getElem? (i := 105) rfl))), List.forall_mem_cons.mpr ⟨va_Nw.of rfl (hts _ (it1 (List.mem_of_getElem? (i := 128) rfl))), List.forall_mem_cons.mpr ⟨va_Nw.of rfl (hts _ (it1 (List.mem_of_getElem? (i := 141) rfl))), List.forall_mem_cons.mpr ⟨va_Nw.of rfl (hts _ (it1 (List.mem_of_getElem? (i := 173) rfl))), List.forall_mem_cons.mpr ⟨va_Nw.of rfl (hts _ (it1 (List.mem_of_getElem? (i := 198) rfl))), List.forall_mem_cons.mpr ⟨va_Nw.of rfl (hts _ (it2 (List.mem_of_getElem? (i := 204) rfl))), List.forall_mem_cons.mpr ⟨va_Nw.of rfl (hts _ (it2 (List.mem_of_getElem? (i := 177) rfl))), List.forall_mem_cons.mpr ⟨va_Nw.of rfl (hts _ (it1 (List.mem_of_getElem? (i := 110) rfl))), List.forall_mem_cons.mpr ⟨va_Nw.of rfl (hts _ (it1 (List.mem_of_getElem? (i := 178) rfl))), List.forall_mem_cons.mpr ⟨va_Nw.of rfl (hts _ (it3 (List.mem_of_getElem? (i := 11) rfl))), List.forall_mem_cons.mpr ⟨va_Nw.of rfl (hts _ (it3 (List.mem_of_getElem? (i := 186) rfl))), List.forall_mem_cons.mpr ⟨va_Nw.of rfl (hts _ (it3 (List.mem_of_getElem? (i := 136) rfl))), (fun _ h => absurd h List.not_mem_nil)⟩⟩⟩⟩⟩⟩⟩⟩⟩⟩⟩⟩⟩⟩
    · exact List.forall_mem_cons.mpr ⟨va_Nw.of rfl (hts _ (it3 (List.mem_of_getElem? (i := 116) rfl))), List.forall_mem_cons.mpr ⟨va_Nw.of rfl (hts _ (it3 (List.mem_of_getElem? (i := 158) rfl))), (fun _ h => absurd h List.not_mem_nil)⟩⟩
  have hAO : sp_AO s := ⟨va_AO.of hoP, va_AO.of hoS⟩
  have S : CallFix p m c cL_law 4 s #[Value.ref b] lw_tbl RL := ⟨hx, hb, hml, hown, hts⟩
  have hA : ∀ q : Nat, s.heap.size ≤ q → (fun q => s.heap.size ≤ q) q := fun _ h => h
  have hW : sp_wd D (fun q => s.heap.size ≤ q) s.heap [] s.heap [] := ⟨fun k q hk => (by cases hk), ⟨fun i j p q hi => (by cases hi), fun k q hk => (by cases hk)⟩, va_S.rf⟩
  have hl := lv_entry [Value.ref b] (n := 4) (Nat.le_of_ble_eq_true rfl)
  rw [lg_entry_eq]
  generalize (lg_sl [Value.ref b] ++ List.replicate (4 - (lg_sl [Value.ref b]).length) Slot.unset).toArray = ls at hl ⊢
  have hl : lv_has ls 4 [(0, .ref b)] := hl
  refine sp_mkI S hK hG hAO hA hW inb_X9 tyX9 tyX9_ok (hts _ iw_1026) (hts _ iw_1027) (hts _ iw_18) (ci := 7) rfl (fs := [.null, .null, .null, .null, .null, .null, .null, .int 0, .int 0, .int 0, .int 0]) (fun j hj => by rcases (show j = 0 ∨ j = 1 ∨ j = 2 ∨ j = 3 ∨ j = 4 ∨ j = 5 ∨ j = 6 ∨ j = 7 ∨ j = 8 ∨ j = 9 ∨ j = 10 by omega) with rfl | rfl | rfl | rfl | rfl | rfl | rfl | rfl | rfl | rfl | rfl <;> rfl) c_X9_init (cwI (Ts := wsX9_init) 0 (fun w hw => hts w (inw_wsX9_init w hw)) goi_X9 rfl rfl rfl (hts _ iw_18) (hts _ iw_1030) (hts _ iw_1032) rfl (by decide +kernel) (by decide)) hl.1 (Nat.le_of_ble_eq_true rfl) (by decide) (by decide) dL_law_0 dL_law_3 dL_law_4 (fun b1 u H locs hu hW => ?_)
  obtain ⟨rfl, hu1, hu2⟩ := hu
  have hu : sp_XC (u.1 0) u := ⟨rfl, hu1, hu2⟩
  refine lv_astore_n (lv' := [(1, .ref (u.1 0)), (0, .ref b)]) hx hb dL_law_7 rfl hl (by decide) rfl (fun ls hl => ?_)
  refine sp_mkI S hK hG hAO hA hW inb_X10 tyX10 tyX10_ok (hts _ iw_1028) (hts _ iw_1029) (hts _ iw_156) (ci := 8) rfl (fs := [.int 0, .int 0, .null, .null, .null, .int 0, .null, .null, .null, .null, .null, .int 0, .null, .null, .null, .null, .int 0, .int 0, .null, .int 0, .null, .null, .null, .null, .null, .null, .null, .null, .null, .null, .null, .null]) (fun j hj => by rcases (show j = 0 ∨ j = 1 ∨ j = 2 ∨ j = 3 ∨ j = 4 ∨ j = 5 ∨ j = 6 ∨ j = 7 ∨ j = 8 ∨ j = 9 ∨ j = 10 ∨ j = 11 ∨ j = 12 ∨ j = 13 ∨ j = 14 ∨ j = 15 ∨ j = 16 ∨ j = 17 ∨ j = 18 ∨ j = 19 ∨ j = 20 ∨ j = 21 ∨ j = 22 ∨ j = 23 ∨ j = 24 ∨ j = 25 ∨ j = 26 ∨ j = 27 ∨ j = 28 ∨ j = 29 ∨ j = 30 ∨ j = 31 by omega) with rfl | rfl | rfl | rfl | rfl | rfl | rfl | rfl | rfl | rfl | rfl | rfl | rfl | rfl | rfl | rfl | rfl | rfl | rfl | rfl | rfl | rfl | rfl | rfl | rfl | rfl | rfl | rfl | rfl | rfl | rfl | rfl <;> rfl) c_X10_init (cwI (Ts := wsX10_init) 0 (fun w hw => hts w (inw_wsX10_init w hw)) goi_X10 rfl rfl rfl (hts _ iw_156) (hts _ iw_1031) (hts _ iw_1033) rfl (by decide +kernel) (by decide)) hl.1 (Nat.le_of_ble_eq_true rfl) (by decide) (by decide) dL_law_8 dL_law_11 dL_law_12 (fun b2 w H locs hw hW => ?_)
  subst hw
  refine lv_astore_n (lv' := [(2, .ref (w 0)), (1, .ref (u.1 0)), (0, .ref b)]) hx hb dL_law_15 rfl hl (by decide) rfl (fun ls hl => ?_)
  refine lv_iconst (v := 0) hx hb dL_law_16 (by decide) ?_
  refine lv_istore_n (lv' := [(3, .int 0), (2, .ref (w 0)), (1, .ref (u.1 0)), (0, .ref b)]) hx hb dL_law_17 rfl hl (by decide) rfl (fun ls hl => ?_)
  have hW := hW.perm (ws' := sp_XW q5 u sp_x0 ++ sp_MW q5 w sp_y0) (sp_perm_of fun q => by
    simp only [sp_XW0, sp_XW, sp_MW, sp_x0, sp_y0, sp_pr0, sp_pr, sp_cnt_app, List.nil_append]
    omega)
  have hl : lv_has ls 4 [(3, .int (Int32.ofNat 0)), (0, .ref b), (1, .ref (u.1 0)), (2, .ref (w 0))] := lv_sub hl [0, 3, 2, 1] rfl
  exact lw_loop (D := D) (q5 := q5) (A := fun q => s.heap.size ≤ q) ⟨S, hK, hG, hA, hX, hbl, hAn b hbl, hu, hL⟩ hr hlk (fun _ h => h) 513 0 sp_x0 sp_y0 _ _ _ (by omega) (by omega) sp_rel0 hW hl
