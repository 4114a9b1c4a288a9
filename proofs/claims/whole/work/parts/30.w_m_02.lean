def f_X10_line (p1 : Int32) (p2 : Int32) (p3 : Int32) (pn : Int32) (mn : Nat → Int32) (cl : Nat → Int32) (le : Nat → Int32) (ri : Nat → Int32) (lt : Nat → Int32) : Option (Int32) := Option.bind (f_X10_isLine p1 p2 pn mn) (fun r1 => if r1 = 0 then (some (-1 : Int32)) else (sp_bnd (((24 : Int32) * p1) + p2) (fun v2 => if p3 = (0 : Int32) then (sp_ld cl 288 v2 (fun v3 => some v3)) else (if p3 = (1 : Int32) then (Option.bind (f_X10_kindOf p1 p2 mn lt) (fun r4 => some r4)) else (if p3 = (2 : Int32) then (sp_ld le 288 v2 (fun v5 => some v5)) else (if p3 = (3 : Int32) then (sp_ld ri 288 v2 (fun v6 => some v6)) else (if p3 = (4 : Int32) then (sp_ld lt 288 v2 (fun v7 => some v7)) else (some (-2 : Int32)))))))))
def rmX10_line : Room := { frames := 2, cells := 0, slots := 0, locals := 43 }
set_option maxRecDepth 4000 in
theorem c_X10_line {l : Launch} {D : va_G} {q5 : Nat → ClassId} (a : Nat → Nat) (fa : Int32) (tr : Int32) (la : Nat → Int32) (sl : Nat → Int32) (ce : Nat → Int32) (pn : Int32) (mn : Nat → Int32) (cl : Nat → Int32) (le : Nat → Int32) (ri : Nat → Int32) (lt : Nat → Int32) (nm : Int32) (nc : Nat → Int32) (nl : Nat → Int32) (nr : Nat → Int32) (nt : Nat → Int32) (at9 : Int32) (en9 : Int32) (de : Nat → Int32) (mm : Int32) (ma : Nat → Int32) (ne : Nat → Int32) (us : Nat → Int32) (lk : Nat → Int32) (sd : Nat → Int32) (sf : Nat → Int32) (nu : Nat → Int32) (gt : Nat → Int64) (gl : Nat → Int32) (tb : Nat → Int64) (sc : Nat → Int32) (su : Nat → Int32) (p1 : Int32) (p2 : Int32) (p3 : Int32) {r' : Int32} (hf : f_X10_line p1 p2 p3 pn mn cl le ri lt = some r') : sp_Ci l yX10_line wsX10_line rmX10_line D q5 0 [.ref (a 0), .int p1, .int p2, .int p3] (sw_M a q5 fa tr la sl ce pn mn cl le ri lt nm nc nl nr nt at9 en9 de mm ma ne us lk sd sf nu gt gl tb sc su) r' (sw_M a q5 fa tr la sl ce pn mn cl le ri lt nm nc nl nr nt at9 en9 de mm ma ne us lk sd sf nu gt gl tb sc su) := by
  intro sz
  refine sp_of (cc := cX10_line) (maxL := 5) (ret := some .int) (own := RX10) (Qc := sp_Qi D r' (sw_M a q5 fa tr la sl ce pn mn cl le ri lt nm nc nl nr nt at9 en9 de mm ma ne us lk sd sf nu gt gl tb sc su)) (by decide) rfl rfl (Nat.le_of_ble_eq_true rfl) ?_
  intro p e s m args below meth c A ls Q hQ S hr hlk hK hG hA hW hl
  have hx := S.1
  have hb := S.2.1
  unfold f_X10_line at hf
  have inX10 : ∀ w ∈ u_ws RX10 TX10 32, w ∈ wsX10_line := (fun _ h => List.mem_cons_of_mem _ (List.mem_append_right _ h))
  have lk1 := S.2.2.2.2 (Cond.fieldLink RX10 22 "ShortProofsModel" "clauses" "[I") (List.mem_of_getElem? (i := 1) rfl)
  have lk2 := S.2.2.2.2 (Cond.fieldLink RX10 25 "ShortProofsModel" "lefts" "[I") (List.mem_of_getElem? (i := 2) rfl)
  have lk3 := S.2.2.2.2 (Cond.fieldLink RX10 28 "ShortProofsModel" "rights" "[I") (List.mem_of_getElem? (i := 3) rfl)
  have lk4 := S.2.2.2.2 (Cond.fieldLink RX10 31 "ShortProofsModel" "letters" "[I") (List.mem_of_getElem? (i := 4) rfl)
  refine lv_aload_n hx hb dX10_line_0 rfl (lv_at hl 0 rfl) ?_
  refine lv_iload_n hx hb dX10_line_1 rfl (lv_at hl 1 rfl) ?_
  refine lv_iload_n hx hb dX10_line_2 rfl (lv_at hl 2 rfl) ?_
  obtain ⟨r1, hc1, hf⟩ := sp_hc hf
  refine sp_callViP (rest := []) S hK hG hA hW (c_X10_isLine a fa tr la sl ce pn mn cl le ri lt nm nc nl nr nt at9 en9 de mm ma ne us lk sd sf nu gt gl tb sc su p1 p2 hc1) (by decide) (cwV 2 S.2.2.2.2 gX10_line_X10_isLine rfl rfl rfl (by decide +kernel) (by decide)) 8 0 rfl rfl (sp_pn _) rfl (WS' := sw_M a q5 fa tr la sl ce pn mn cl le ri lt nm nc nl nr nt at9 en9 de mm ma ne us lk sd sf nu gt gl tb sc su) (sp_pn' _) rfl hl.1 (Nat.le_of_ble_eq_true rfl) dX10_line_3 ⟨Nat.zero_le _, Nat.zero_le _⟩ rfl (fun H locs hW => ?_)
  refine lv_if_ne (tgt := 11) hx hb dX10_line_6 (by decide) (fun hc => ?_) (fun hc => ?_)
  · have hf := sp_hf hf hc
    refine lv_bipush (v := 24) hx hb dX10_line_11 (by decide) ?_
    refine lv_iload_n hx hb dX10_line_13 rfl (lv_at hl 1 rfl) ?_
    refine lv_imul hx hb dX10_line_14 ?_
    refine lv_iload_n hx hb dX10_line_15 rfl (lv_at hl 2 rfl) ?_
    refine lv_iadd hx hb dX10_line_16 ?_
    obtain ⟨v2, ev2, hf⟩ := sp_hb hf
    refine sp_topi ev2 ?_
    refine lv_istore (lv' := [(4, .int v2), (0, .ref (a 0)), (1, .int p1), (2, .int p2), (3, .int p3)]) hx hb dX10_line_17 hl (by decide) rfl (fun ls hl => ?_)
    refine lv_iload_n hx hb dX10_line_19 rfl (lv_at hl 4 rfl) ?_
    by_cases hs0 : p3 = (0 : Int32)
    · have hf := sp_ht hf hs0
      refine lv_tableIn (tgt := 56) (off := 36) hx hb dX10_line_20 (by rw [hs0]; decide) (by rw [hs0]; decide) (by rw [hs0]; rfl) (by decide) ?_
      refine lv_aload_n hx hb dX10_line_56 rfl (lv_at hl 1 rfl) ?_
      refine sp_get S hK hW inX10 0 rfl rfl 7 (by decide) lk1 rfl dX10_line_57 ?_
      refine lv_iload hx hb dX10_line_60 (lv_at hl 0 rfl) ?_
      obtain ⟨hin, v3, ev3, hf⟩ := sp_hld hf
      refine sp_iald S hK hW 5 rfl hin ev3 dX10_line_62 ?_
      have q0 := Option.some.inj hf
      subst q0
      exact sp_iret S hr hlk hW hQ dX10_line_63
    have hf := sp_hf hf hs0
    by_cases hs1 : p3 = (1 : Int32)
    · have hf := sp_ht hf hs1
      refine lv_tableIn (tgt := 64) (off := 44) hx hb dX10_line_20 (by rw [hs1]; decide) (by rw [hs1]; decide) (by rw [hs1]; rfl) (by decide) ?_
      refine lv_aload_n hx hb dX10_line_64 rfl (lv_at hl 1 rfl) ?_
      refine lv_iload_n hx hb dX10_line_65 rfl (lv_at hl 2 rfl) ?_
      refine lv_iload_n hx hb dX10_line_66 rfl (lv_at hl 3 rfl) ?_
      obtain ⟨r4, hc4, hf⟩ := sp_hc hf
      refine sp_callViP (rest := []) S hK hG hA hW (c_X10_kindOf a fa tr la sl ce pn mn cl le ri lt nm nc nl nr nt at9 en9 de mm ma ne us lk sd sf nu gt gl tb sc su p1 p2 hc4) (by decide) (cwV 2 S.2.2.2.2 gX10_line_X10_kindOf rfl rfl rfl (by decide +kernel) (by decide)) 8 0 rfl rfl (sp_pn _) rfl (WS' := sw_M a q5 fa tr la sl ce pn mn cl le ri lt nm nc nl nr nt at9 en9 de mm ma ne us lk sd sf nu gt gl tb sc su) (sp_pn' _) rfl hl.1 (Nat.le_of_ble_eq_true rfl) dX10_line_67 ⟨Nat.zero_le _, Nat.zero_le _⟩ rfl (fun H locs hW => ?_)
      have q0 := Option.some.inj hf
      subst q0
      exact sp_iret S hr hlk hW hQ dX10_line_70
    have hf := sp_hf hf hs1
    by_cases hs2 : p3 = (2 : Int32)
    · have hf := sp_ht hf hs2
      refine lv_tableIn (tgt := 71) (off := 51) hx hb dX10_line_20 (by rw [hs2]; decide) (by rw [hs2]; decide) (by rw [hs2]; rfl) (by decide) ?_
      refine lv_aload_n hx hb dX10_line_71 rfl (lv_at hl 1 rfl) ?_
      refine sp_get S hK hW inX10 0 rfl rfl 8 (by decide) lk2 rfl dX10_line_72 ?_
      refine lv_iload hx hb dX10_line_75 (lv_at hl 0 rfl) ?_
      obtain ⟨hin, v5, ev5, hf⟩ := sp_hld hf
      refine sp_iald S hK hW 6 rfl hin ev5 dX10_line_77 ?_
      have q0 := Option.some.inj hf
      subst q0
      exact sp_iret S hr hlk hW hQ dX10_line_78
    have hf := sp_hf hf hs2
    by_cases hs3 : p3 = (3 : Int32)
    · have hf := sp_ht hf hs3
      refine lv_tableIn (tgt := 79) (off := 59) hx hb dX10_line_20 (by rw [hs3]; decide) (by rw [hs3]; decide) (by rw [hs3]; rfl) (by decide) ?_
      refine lv_aload_n hx hb dX10_line_79 rfl (lv_at hl 1 rfl) ?_
      refine sp_get S hK hW inX10 0 rfl rfl 9 (by decide) lk3 rfl dX10_line_80 ?_
      refine lv_iload hx hb dX10_line_83 (lv_at hl 0 rfl) ?_
      obtain ⟨hin, v6, ev6, hf⟩ := sp_hld hf
      refine sp_iald S hK hW 7 rfl hin ev6 dX10_line_85 ?_
      have q0 := Option.some.inj hf
      subst q0
      exact sp_iret S hr hlk hW hQ dX10_line_86
    have hf := sp_hf hf hs3
    by_cases hs4 : p3 = (4 : Int32)
    · have hf := sp_ht hf hs4
      refine lv_tableIn (tgt := 87) (off := 67) hx hb dX10_line_20 (by rw [hs4]; decide) (by rw [hs4]; decide) (by rw [hs4]; rfl) (by decide) ?_
      refine lv_aload_n hx hb dX10_line_87 rfl (lv_at hl 1 rfl) ?_
      refine sp_get S hK hW inX10 0 rfl rfl 10 (by decide) lk4 rfl dX10_line_88 ?_
      refine lv_iload hx hb dX10_line_91 (lv_at hl 0 rfl) ?_
      obtain ⟨hin, v7, ev7, hf⟩ := sp_hld hf
      refine sp_iald S hK hW 8 rfl hin ev7 dX10_line_93 ?_
      have q0 := Option.some.inj hf
      subst q0
      exact sp_iret S hr hlk hW hQ dX10_line_94
    have hf := sp_hf hf hs4
    have hz0 : p3.toInt ≠ 0 := sp_nei hs0
    have hz1 : p3.toInt ≠ 1 := sp_nei hs1
    have hz2 : p3.toInt ≠ 2 := sp_nei hs2
    have hz3 : p3.toInt ≠ 3 := sp_nei hs3
    have hz4 : p3.toInt ≠ 4 := sp_nei hs4
    refine lv_tableOut (tgt := 95) hx hb dX10_line_20 (by omega) (by decide) ?_
    refine lv_bipush (v := (-2)) hx hb dX10_line_95 (by decide) ?_
    have q0 := Option.some.inj hf
    subst q0
    exact sp_iret S hr hlk hW hQ dX10_line_97
  · have hf := sp_ht hf hc
    refine lv_iconst (v := (-1)) hx hb dX10_line_9 (by decide) ?_
    have q0 := Option.some.inj hf
    subst q0
    exact sp_iret S hr hlk hW hQ dX10_line_10

def f_X10_restsOf_L20 (k8 : Int32 → Option (Int32)) (lt : Nat → Int32) (p1 : Int32) (le : Nat → Int32) (ri : Nat → Int32) (rec20 : (Int32 × Int32) → Option (Int32)) (s9 : Int32 × Int32) : Option (Int32) := match s9 with
  | (y5, y6) => if y6 < 0 then (k8 y5) else (sp_bnd (fun (x9 : Int32) => sp_bnd (y6 + (-1 : Int32)) (fun v11 => rec20 (x9, v11))) (fun k10 => if ((y5 >>> (y6 &&& 31)) &&& (1 : Int32)) = (1 : Int32) then (sp_ld lt 288 (((24 : Int32) * p1) + y6) (fun v12 => if v12 = (-9 : Int32) then (k10 y5) else (sp_ld le 288 (((24 : Int32) * p1) + y6) (fun v13 => sp_ld ri 288 (((24 : Int32) * p1) + y6) (fun v14 => sp_bnd (y5 ||| (((1 : Int32) <<< (v13 &&& 31)) ||| ((1 : Int32) <<< (v14 &&& 31)))) (fun v15 => k10 v15)))))) else (k10 y5)))
theorem f_X10_restsOf_L20_eq {rec20 : (Int32 × Int32) → Option (Int32)} {k8 : Int32 → Option (Int32)} {lt : Nat → Int32} {p1 : Int32} {le : Nat → Int32} {ri : Nat → Int32} {y5 : Int32} {y6 : Int32} : f_X10_restsOf_L20 k8 lt p1 le ri rec20 (y5, y6) = (if y6 < 0 then (k8 y5) else (sp_bnd (fun (x9 : Int32) => sp_bnd (y6 + (-1 : Int32)) (fun v11 => rec20 (x9, v11))) (fun k10 => if ((y5 >>> (y6 &&& 31)) &&& (1 : Int32)) = (1 : Int32) then (sp_ld lt 288 (((24 : Int32) * p1) + y6) (fun v12 => if v12 = (-9 : Int32) then (k10 y5) else (sp_ld le 288 (((24 : Int32) * p1) + y6) (fun v13 => sp_ld ri 288 (((24 : Int32) * p1) + y6) (fun v14 => sp_bnd (y5 ||| (((1 : Int32) <<< (v13 &&& 31)) ||| ((1 : Int32) <<< (v14 &&& 31)))) (fun v15 => k10 v15)))))) else (k10 y5)))) := rfl
def f_X10_restsOf (p1 : Int32) (mn : Nat → Int32) (le : Nat → Int32) (ri : Nat → Int32) (lt : Nat → Int32) : Option (Int32) := sp_ld mn 12 p1 (fun v1 => sp_bnd ((1 : Int32) <<< ((v1 - (1 : Int32)) &&& 31)) (fun v2 => sp_ld mn 12 p1 (fun v3 => sp_bnd (v3 - (1 : Int32)) (fun v4 => sp_bnd (fun (x7 : Int32) => some x7) (fun k8 => sp_lp (f_X10_restsOf_L20 k8 lt p1 le ri) sp_F (v2, v4))))))
def rmX10_restsOf : Room := { frames := 0, cells := 0, slots := 0, locals := 0 }
set_option maxRecDepth 4000 in
theorem c_X10_restsOf {l : Launch} {D : va_G} {q5 : Nat → ClassId} (a : Nat → Nat) (fa : Int32) (tr : Int32) (la : Nat → Int32) (sl : Nat → Int32) (ce : Nat → Int32) (pn : Int32) (mn : Nat → Int32) (cl : Nat → Int32) (le : Nat → Int32) (ri : Nat → Int32) (lt : Nat → Int32) (nm : Int32) (nc : Nat → Int32) (nl : Nat → Int32) (nr : Nat → Int32) (nt : Nat → Int32) (at9 : Int32) (en9 : Int32) (de : Nat → Int32) (mm : Int32) (ma : Nat → Int32) (ne : Nat → Int32) (us : Nat → Int32) (lk : Nat → Int32) (sd : Nat → Int32) (sf : Nat → Int32) (nu : Nat → Int32) (gt : Nat → Int64) (gl : Nat → Int32) (tb : Nat → Int64) (sc : Nat → Int32) (su : Nat → Int32) (p1 : Int32) {r' : Int32} (hf : f_X10_restsOf p1 mn le ri lt = some r') : sp_Ci l yX10_restsOf wsX10_restsOf rmX10_restsOf D q5 0 [.ref (a 0), .int p1] (sw_M a q5 fa tr la sl ce pn mn cl le ri lt nm nc nl nr nt at9 en9 de mm ma ne us lk sd sf nu gt gl tb sc su) r' (sw_M a q5 fa tr la sl ce pn mn cl le ri lt nm nc nl nr nt at9 en9 de mm ma ne us lk sd sf nu gt gl tb sc su) := by
  intro sz
  refine sp_of (cc := cX10_restsOf) (maxL := 4) (ret := some .int) (own := RX10) (Qc := sp_Qi D r' (sw_M a q5 fa tr la sl ce pn mn cl le ri lt nm nc nl nr nt at9 en9 de mm ma ne us lk sd sf nu gt gl tb sc su)) (by decide) rfl rfl (Nat.le_of_ble_eq_true rfl) ?_
  intro p e s m args below meth c A ls Q hQ S hr hlk hK hG hA hW hl
  have hx := S.1
  have hb := S.2.1
  unfold f_X10_restsOf at hf
  have inX10 : ∀ w ∈ u_ws RX10 TX10 32, w ∈ wsX10_restsOf := (fun _ h => List.mem_cons_of_mem _ (List.mem_append_right _ h))
  have lk1 := S.2.2.2.2 (Cond.fieldLink RX10 19 "ShortProofsModel" "many" "[I") (List.mem_of_getElem? (i := 1) rfl)
  have lk2 := S.2.2.2.2 (Cond.fieldLink RX10 31 "ShortProofsModel" "letters" "[I") (List.mem_of_getElem? (i := 2) rfl)
  have lk3 := S.2.2.2.2 (Cond.fieldLink RX10 25 "ShortProofsModel" "lefts" "[I") (List.mem_of_getElem? (i := 3) rfl)
  have lk4 := S.2.2.2.2 (Cond.fieldLink RX10 28 "ShortProofsModel" "rights" "[I") (List.mem_of_getElem? (i := 4) rfl)
  refine lv_iconst (v := 1) hx hb dX10_restsOf_0 (by decide) ?_
  refine lv_aload_n hx hb dX10_restsOf_1 rfl (lv_at hl 0 rfl) ?_
  refine sp_get S hK hW inX10 0 rfl rfl 6 (by decide) lk1 rfl dX10_restsOf_2 ?_
  refine lv_iload_n hx hb dX10_restsOf_5 rfl (lv_at hl 1 rfl) ?_
  obtain ⟨hin, v1, ev1, hf⟩ := sp_hld hf
  refine sp_iald S hK hW 4 rfl hin ev1 dX10_restsOf_6 ?_
  refine lv_iconst (v := 1) hx hb dX10_restsOf_7 (by decide) ?_
  refine lv_isub hx hb dX10_restsOf_8 ?_
  refine lv_ishl hx hb dX10_restsOf_9 ?_
  obtain ⟨v2, ev2, hf⟩ := sp_hb hf
  refine sp_topi ev2 ?_
  refine lv_istore_n (lv' := [(2, .int v2), (0, .ref (a 0)), (1, .int p1)]) hx hb dX10_restsOf_10 rfl hl (by decide) rfl (fun ls hl => ?_)
  refine lv_aload_n hx hb dX10_restsOf_11 rfl (lv_at hl 1 rfl) ?_
  refine sp_get S hK hW inX10 0 rfl rfl 6 (by decide) lk1 rfl dX10_restsOf_12 ?_
  refine lv_iload_n hx hb dX10_restsOf_15 rfl (lv_at hl 2 rfl) ?_
  obtain ⟨hin, v3, ev3, hf⟩ := sp_hld hf
  refine sp_iald S hK hW 4 rfl hin ev3 dX10_restsOf_16 ?_
  refine lv_iconst (v := 1) hx hb dX10_restsOf_17 (by decide) ?_
  refine lv_isub hx hb dX10_restsOf_18 ?_
  obtain ⟨v4, ev4, hf⟩ := sp_hb hf
  refine sp_topi ev4 ?_
  refine lv_istore_n (lv' := [(3, .int v4), (2, .int v2), (0, .ref (a 0)), (1, .int p1)]) hx hb dX10_restsOf_19 rfl hl (by decide) rfl (fun ls hl => ?_)
  obtain ⟨k8, ek8, hf⟩ := sp_hb hf
  have hj8 : ∀ (x7 : Int32) (H : Heap) (locs : List Loc) (ls : Array Slot), k8 x7 = some r' → sp_wd D A s.heap (sw_M a q5 fa tr la sl ce pn mn cl le ri lt nm nc nl nr nt at9 en9 de mm ma ne us lk sd sf nu gt gl tb sc su) H locs → lv_has ls 4 [(2, .int x7)] → W p l e rmX10_restsOf s m args below meth c H locs 0 0 Q (F0 m 85 ls []) := by
    intro x7 H locs ls hf hW hl
    rw [ek8] at hf
    refine lv_iload_n hx hb dX10_restsOf_85 rfl (lv_at hl 0 rfl) ?_
    have q0 := Option.some.inj hf
    subst q0
    exact sp_iret S hr hlk hW hQ dX10_restsOf_86
  have hlp20 : ∀ (n9 : Nat) (y5 : Int32) (y6 : Int32) (H : Heap) (locs : List Loc) (ls : Array Slot), sp_lp (f_X10_restsOf_L20 k8 lt p1 le ri) n9 (y5, y6) = some r' → sp_wd D A s.heap (sw_M a q5 fa tr la sl ce pn mn cl le ri lt nm nc nl nr nt at9 en9 de mm ma ne us lk sd sf nu gt gl tb sc su) H locs → lv_has ls 4 [(0, .ref (a 0)), (1, .int p1), (2, .int y5), (3, .int y6)] → W p l e rmX10_restsOf s m args below meth c H locs 0 0 Q (F0 m 20 ls []) := by
    intro n9
    induction n9 with
    | zero =>
      intro y5 y6 H locs ls hf hW hl
      exact (sp_lp0 hf).elim
    | succ n9 ih20 =>
      intro y5 y6 H locs ls hf hW hl
      have hf := sp_lpS hf
      rw [f_X10_restsOf_L20_eq] at hf
      refine lv_iload_n hx hb dX10_restsOf_20 rfl (lv_at hl 3 rfl) ?_
      refine lv_if_lt (tgt := 85) hx hb dX10_restsOf_21 (by decide) (fun hc => ?_) (fun hc => ?_)
      · have hf := sp_ht hf hc
        exact hj8 _ _ _ _ hf hW (lv_sub hl [2] rfl)
      · have hf := sp_hf hf hc
        refine lv_iload_n hx hb dX10_restsOf_24 rfl (lv_at hl 2 rfl) ?_
        refine lv_iload_n hx hb dX10_restsOf_25 rfl (lv_at hl 3 rfl) ?_
        refine lv_ishr hx hb dX10_restsOf_26 ?_
        refine lv_iconst (v := 1) hx hb dX10_restsOf_27 (by decide) ?_
        refine lv_iand hx hb dX10_restsOf_28 ?_
        refine lv_iconst (v := 1) hx hb dX10_restsOf_29 (by decide) ?_
        obtain ⟨k10, ek10, hf⟩ := sp_hb hf
        have hj10 : ∀ (x9 : Int32) (H : Heap) (locs : List Loc) (ls : Array Slot), k10 x9 = some r' → sp_wd D A s.heap (sw_M a q5 fa tr la sl ce pn mn cl le ri lt nm nc nl nr nt at9 en9 de mm ma ne us lk sd sf nu gt gl tb sc su) H locs → lv_has ls 4 [(0, .ref (a 0)), (1, .int p1), (2, .int x9), (3, .int y6)] → W p l e rmX10_restsOf s m args below meth c H locs 0 0 Q (F0 m 79 ls []) := by
          intro x9 H locs ls hf hW hl
          rw [ek10] at hf
          obtain ⟨v11, ev11, hf⟩ := sp_hb hf
          refine lv_iinc (v := v11) (lv' := [(3, .int v11), (0, .ref (a 0)), (1, .int p1), (2, .int x9)]) hx hb dX10_restsOf_79 hl (k := 3) rfl (by rw [ev11]; rfl) (by decide) rfl (fun ls hl => ?_)
          refine lv_goto (tgt := 20) hx hb dX10_restsOf_82 (by decide) ?_
          exact ih20 _ _ _ _ _ hf hW (lv_sub hl [1, 2, 3, 0] rfl)
        refine lv_icmp_ne (tgt := 79) hx hb dX10_restsOf_30 (by decide) (fun hc => ?_) (fun hc => ?_)
        · have hf := sp_hf hf hc
          exact hj10 _ _ _ _ hf hW (lv_sub hl [0, 1, 2, 3] rfl)
        · have hf := sp_ht hf hc
          refine lv_aload_n hx hb dX10_restsOf_33 rfl (lv_at hl 0 rfl) ?_
          refine sp_get S hK hW inX10 0 rfl rfl 10 (by decide) lk2 rfl dX10_restsOf_34 ?_
          refine lv_bipush (v := 24) hx hb dX10_restsOf_37 (by decide) ?_
          refine lv_iload_n hx hb dX10_restsOf_39 rfl (lv_at hl 1 rfl) ?_
          refine lv_imul hx hb dX10_restsOf_40 ?_
          refine lv_iload_n hx hb dX10_restsOf_41 rfl (lv_at hl 3 rfl) ?_
          refine lv_iadd hx hb dX10_restsOf_42 ?_
          obtain ⟨hin, v12, ev12, hf⟩ := sp_hld hf
          refine sp_iald S hK hW 8 rfl hin ev12 dX10_restsOf_43 ?_
          refine lv_bipush (v := (-9)) hx hb dX10_restsOf_44 (by decide) ?_
          refine lv_icmp_eq (tgt := 79) hx hb dX10_restsOf_46 (by decide) (fun hc => ?_) (fun hc => ?_)
          · have hf := sp_ht hf hc
            exact hj10 _ _ _ _ hf hW (lv_sub hl [0, 1, 2, 3] rfl)
          · have hf := sp_hf hf hc
            refine lv_iload_n hx hb dX10_restsOf_49 rfl (lv_at hl 2 rfl) ?_
            refine lv_iconst (v := 1) hx hb dX10_restsOf_50 (by decide) ?_
            refine lv_aload_n hx hb dX10_restsOf_51 rfl (lv_at hl 0 rfl) ?_
            refine sp_get S hK hW inX10 0 rfl rfl 8 (by decide) lk3 rfl dX10_restsOf_52 ?_
            refine lv_bipush (v := 24) hx hb dX10_restsOf_55 (by decide) ?_
            refine lv_iload_n hx hb dX10_restsOf_57 rfl (lv_at hl 1 rfl) ?_
            refine lv_imul hx hb dX10_restsOf_58 ?_
            refine lv_iload_n hx hb dX10_restsOf_59 rfl (lv_at hl 3 rfl) ?_
            refine lv_iadd hx hb dX10_restsOf_60 ?_
            obtain ⟨hin, v13, ev13, hf⟩ := sp_hld hf
            refine sp_iald S hK hW 6 rfl hin ev13 dX10_restsOf_61 ?_
            refine lv_ishl hx hb dX10_restsOf_62 ?_
            refine lv_iconst (v := 1) hx hb dX10_restsOf_63 (by decide) ?_
            refine lv_aload_n hx hb dX10_restsOf_64 rfl (lv_at hl 0 rfl) ?_
            refine sp_get S hK hW inX10 0 rfl rfl 9 (by decide) lk4 rfl dX10_restsOf_65 ?_
            refine lv_bipush (v := 24) hx hb dX10_restsOf_68 (by decide) ?_
            refine lv_iload_n hx hb dX10_restsOf_70 rfl (lv_at hl 1 rfl) ?_
            refine lv_imul hx hb dX10_restsOf_71 ?_
            refine lv_iload_n hx hb dX10_restsOf_72 rfl (lv_at hl 3 rfl) ?_
            refine lv_iadd hx hb dX10_restsOf_73 ?_
            obtain ⟨hin, v14, ev14, hf⟩ := sp_hld hf
            refine sp_iald S hK hW 7 rfl hin ev14 dX10_restsOf_74 ?_
            refine lv_ishl hx hb dX10_restsOf_75 ?_
            refine lv_ior hx hb dX10_restsOf_76 ?_
            refine lv_ior hx hb dX10_restsOf_77 ?_
            obtain ⟨v15, ev15, hf⟩ := sp_hb hf
            refine sp_topi ev15 ?_
            refine lv_istore_n (lv' := [(2, .int v15), (0, .ref (a 0)), (1, .int p1), (3, .int y6)]) hx hb dX10_restsOf_78 rfl hl (by decide) rfl (fun ls hl => ?_)
            exact hj10 _ _ _ _ hf hW (lv_sub hl [1, 2, 0, 3] rfl)
  exact hlp20 _ _ _ _ _ _ hf hW (lv_sub hl [2, 3, 1, 0] rfl)

def f_X10_rests (p1 : Int32) (pn : Int32) (mn : Nat → Int32) (le : Nat → Int32) (ri : Nat → Int32) (lt : Nat → Int32) : Option (Int32) := Option.bind (f_X10_isProof p1 pn) (fun r1 => if r1 = 0 then (some (-1 : Int32)) else (Option.bind (f_X10_restsOf p1 mn le ri lt) (fun r2 => some r2)))
def rmX10_rests : Room := { frames := 1, cells := 0, slots := 0, locals := 23 }
set_option maxRecDepth 4000 in
theorem c_X10_rests {l : Launch} {D : va_G} {q5 : Nat → ClassId} (a : Nat → Nat) (fa : Int32) (tr : Int32) (la : Nat → Int32) (sl : Nat → Int32) (ce : Nat → Int32) (pn : Int32) (mn : Nat → Int32) (cl : Nat → Int32) (le : Nat → Int32) (ri : Nat → Int32) (lt : Nat → Int32) (nm : Int32) (nc : Nat → Int32) (nl : Nat → Int32) (nr : Nat → Int32) (nt : Nat → Int32) (at9 : Int32) (en9 : Int32) (de : Nat → Int32) (mm : Int32) (ma : Nat → Int32) (ne : Nat → Int32) (us : Nat → Int32) (lk : Nat → Int32) (sd : Nat → Int32) (sf : Nat → Int32) (nu : Nat → Int32) (gt : Nat → Int64) (gl : Nat → Int32) (tb : Nat → Int64) (sc : Nat → Int32) (su : Nat → Int32) (p1 : Int32) {r' : Int32} (hf : f_X10_rests p1 pn mn le ri lt = some r') : sp_Ci l yX10_rests wsX10_rests rmX10_rests D q5 0 [.ref (a 0), .int p1] (sw_M a q5 fa tr la sl ce pn mn cl le ri lt nm nc nl nr nt at9 en9 de mm ma ne us lk sd sf nu gt gl tb sc su) r' (sw_M a q5 fa tr la sl ce pn mn cl le ri lt nm nc nl nr nt at9 en9 de mm ma ne us lk sd sf nu gt gl tb sc su) := by
  intro sz
  refine sp_of (cc := cX10_rests) (maxL := 2) (ret := some .int) (own := RX10) (Qc := sp_Qi D r' (sw_M a q5 fa tr la sl ce pn mn cl le ri lt nm nc nl nr nt at9 en9 de mm ma ne us lk sd sf nu gt gl tb sc su)) (by decide) rfl rfl (Nat.le_of_ble_eq_true rfl) ?_
  intro p e s m args below meth c A ls Q hQ S hr hlk hK hG hA hW hl
  have hx := S.1
  have hb := S.2.1
  unfold f_X10_rests at hf
  refine lv_aload_n hx hb dX10_rests_0 rfl (lv_at hl 0 rfl) ?_
  refine lv_iload_n hx hb dX10_rests_1 rfl (lv_at hl 1 rfl) ?_
  obtain ⟨r1, hc1, hf⟩ := sp_hc hf
  refine sp_callViP (rest := []) S hK hG hA hW (c_X10_isProof a fa tr la sl ce pn mn cl le ri lt nm nc nl nr nt at9 en9 de mm ma ne us lk sd sf nu gt gl tb sc su p1 hc1) (by decide) (cwV 1 S.2.2.2.2 gX10_rests_X10_isProof rfl rfl rfl (by decide +kernel) (by decide)) 8 0 rfl rfl (sp_pn _) rfl (WS' := sw_M a q5 fa tr la sl ce pn mn cl le ri lt nm nc nl nr nt at9 en9 de mm ma ne us lk sd sf nu gt gl tb sc su) (sp_pn' _) rfl hl.1 (Nat.le_of_ble_eq_true rfl) dX10_rests_2 ⟨Nat.zero_le _, Nat.zero_le _⟩ rfl (fun H locs hW => ?_)
  refine lv_if_eq (tgt := 16) hx hb dX10_rests_5 (by decide) (fun hc => ?_) (fun hc => ?_)
  · have hf := sp_ht hf hc
    refine lv_iconst (v := (-1)) hx hb dX10_rests_16 (by decide) ?_
    have q0 := Option.some.inj hf
    subst q0
    exact sp_iret S hr hlk hW hQ dX10_rests_17
  · have hf := sp_hf hf hc
    refine lv_aload_n hx hb dX10_rests_8 rfl (lv_at hl 0 rfl) ?_
    refine lv_iload_n hx hb dX10_rests_9 rfl (lv_at hl 1 rfl) ?_
    obtain ⟨r2, hc2, hf⟩ := sp_hc hf
    refine sp_callViP (rest := []) S hK hG hA hW (c_X10_restsOf a fa tr la sl ce pn mn cl le ri lt nm nc nl nr nt at9 en9 de mm ma ne us lk sd sf nu gt gl tb sc su p1 hc2) (by decide) (cwV 1 S.2.2.2.2 gX10_rests_X10_restsOf rfl rfl rfl (by decide +kernel) (by decide)) 8 0 rfl rfl (sp_pn _) rfl (WS' := sw_M a q5 fa tr la sl ce pn mn cl le ri lt nm nc nl nr nt at9 en9 de mm ma ne us lk sd sf nu gt gl tb sc su) (sp_pn' _) rfl hl.1 (Nat.le_of_ble_eq_true rfl) dX10_rests_10 ⟨Nat.zero_le _, Nat.zero_le _⟩ rfl (fun H locs hW => ?_)
    refine lv_goto (tgt := 17) hx hb dX10_rests_13 (by decide) ?_
    have q0 := Option.some.inj hf
    subst q0
    exact sp_iret S hr hlk hW hQ dX10_rests_17

def f_X10_groundsOf_L4 (mn : Nat → Int32) (p1 : Int32) (k4 : Int32 → Option (Int32)) (lt : Nat → Int32) (rec4 : (Int32 × Int32) → Option (Int32)) (s9 : Int32 × Int32) : Option (Int32) := match s9 with
  | (y1, y2) => sp_ld mn 12 p1 (fun v5 => if v5 ≤ y2 then (k4 y1) else (sp_ld lt 288 (((24 : Int32) * p1) + y2) (fun v6 => sp_bnd (fun (x7 : Int32) => sp_bnd (y1 + x7) (fun v9 => sp_bnd (y2 + (1 : Int32)) (fun v10 => rec4 (v9, v10)))) (fun k8 => if v6 = (-9 : Int32) then (k8 (1 : Int32)) else (k8 (0 : Int32))))))
theorem f_X10_groundsOf_L4_eq {rec4 : (Int32 × Int32) → Option (Int32)} {mn : Nat → Int32} {p1 : Int32} {k4 : Int32 → Option (Int32)} {lt : Nat → Int32} {y1 : Int32} {y2 : Int32} : f_X10_groundsOf_L4 mn p1 k4 lt rec4 (y1, y2) = (sp_ld mn 12 p1 (fun v5 => if v5 ≤ y2 then (k4 y1) else (sp_ld lt 288 (((24 : Int32) * p1) + y2) (fun v6 => sp_bnd (fun (x7 : Int32) => sp_bnd (y1 + x7) (fun v9 => sp_bnd (y2 + (1 : Int32)) (fun v10 => rec4 (v9, v10)))) (fun k8 => if v6 = (-9 : Int32) then (k8 (1 : Int32)) else (k8 (0 : Int32))))))) := rfl
def f_X10_groundsOf (p1 : Int32) (mn : Nat → Int32) (lt : Nat → Int32) : Option (Int32) := sp_bnd (fun (x3 : Int32) => some x3) (fun k4 => sp_lp (f_X10_groundsOf_L4 mn p1 k4 lt) sp_F ((0 : Int32), (0 : Int32)))
def rmX10_groundsOf : Room := { frames := 0, cells := 0, slots := 0, locals := 0 }
set_option maxRecDepth 4000 in
theorem c_X10_groundsOf {l : Launch} {D : va_G} {q5 : Nat → ClassId} (a : Nat → Nat) (fa : Int32) (tr : Int32) (la : Nat → Int32) (sl : Nat → Int32) (ce : Nat → Int32) (pn : Int32) (mn : Nat → Int32) (cl : Nat → Int32) (le : Nat → Int32) (ri : Nat → Int32) (lt : Nat → Int32) (nm : Int32) (nc : Nat → Int32) (nl : Nat → Int32) (nr : Nat → Int32) (nt : Nat → Int32) (at9 : Int32) (en9 : Int32) (de : Nat → Int32) (mm : Int32) (ma : Nat → Int32) (ne : Nat → Int32) (us : Nat → Int32) (lk : Nat → Int32) (sd : Nat → Int32) (sf : Nat → Int32) (nu : Nat → Int32) (gt : Nat → Int64) (gl : Nat → Int32) (tb : Nat → Int64) (sc : Nat → Int32) (su : Nat → Int32) (p1 : Int32) {r' : Int32} (hf : f_X10_groundsOf p1 mn lt = some r') : sp_Ci l yX10_groundsOf wsX10_groundsOf rmX10_groundsOf D q5 0 [.ref (a 0), .int p1] (sw_M a q5 fa tr la sl ce pn mn cl le ri lt nm nc nl nr nt at9 en9 de mm ma ne us lk sd sf nu gt gl tb sc su) r' (sw_M a q5 fa tr la sl ce pn mn cl le ri lt nm nc nl nr nt at9 en9 de mm ma ne us lk sd sf nu gt gl tb sc su) := by
  intro sz
  refine sp_of (cc := cX10_groundsOf) (maxL := 4) (ret := some .int) (own := RX10) (Qc := sp_Qi D r' (sw_M a q5 fa tr la sl ce pn mn cl le ri lt nm nc nl nr nt at9 en9 de mm ma ne us lk sd sf nu gt gl tb sc su)) (by decide) rfl rfl (Nat.le_of_ble_eq_true rfl) ?_
  intro p e s m args below meth c A ls Q hQ S hr hlk hK hG hA hW hl
  have hx := S.1
  have hb := S.2.1
  unfold f_X10_groundsOf at hf
  have inX10 : ∀ w ∈ u_ws RX10 TX10 32, w ∈ wsX10_groundsOf := (fun _ h => List.mem_cons_of_mem _ (List.mem_append_right _ h))
  have lk1 := S.2.2.2.2 (Cond.fieldLink RX10 19 "ShortProofsModel" "many" "[I") (List.mem_of_getElem? (i := 1) rfl)
  have lk2 := S.2.2.2.2 (Cond.fieldLink RX10 31 "ShortProofsModel" "letters" "[I") (List.mem_of_getElem? (i := 2) rfl)
  refine lv_iconst (v := 0) hx hb dX10_groundsOf_0 (by decide) ?_
  refine lv_istore_n (lv' := [(2, .int (0 : Int32)), (0, .ref (a 0)), (1, .int p1)]) hx hb dX10_groundsOf_1 rfl hl (by decide) rfl (fun ls hl => ?_)
  refine lv_iconst (v := 0) hx hb dX10_groundsOf_2 (by decide) ?_
  refine lv_istore_n (lv' := [(3, .int (0 : Int32)), (2, .int (0 : Int32)), (0, .ref (a 0)), (1, .int p1)]) hx hb dX10_groundsOf_3 rfl hl (by decide) rfl (fun ls hl => ?_)
  obtain ⟨k4, ek4, hf⟩ := sp_hb hf
  have hj4 : ∀ (x3 : Int32) (H : Heap) (locs : List Loc) (ls : Array Slot), k4 x3 = some r' → sp_wd D A s.heap (sw_M a q5 fa tr la sl ce pn mn cl le ri lt nm nc nl nr nt at9 en9 de mm ma ne us lk sd sf nu gt gl tb sc su) H locs → lv_has ls 4 [(2, .int x3)] → W p l e rmX10_groundsOf s m args below meth c H locs 0 0 Q (F0 m 44 ls []) := by
    intro x3 H locs ls hf hW hl
    rw [ek4] at hf
    refine lv_iload_n hx hb dX10_groundsOf_44 rfl (lv_at hl 0 rfl) ?_
    have q0 := Option.some.inj hf
    subst q0
    exact sp_iret S hr hlk hW hQ dX10_groundsOf_45
  have hlp4 : ∀ (n9 : Nat) (y1 : Int32) (y2 : Int32) (H : Heap) (locs : List Loc) (ls : Array Slot), sp_lp (f_X10_groundsOf_L4 mn p1 k4 lt) n9 (y1, y2) = some r' → sp_wd D A s.heap (sw_M a q5 fa tr la sl ce pn mn cl le ri lt nm nc nl nr nt at9 en9 de mm ma ne us lk sd sf nu gt gl tb sc su) H locs → lv_has ls 4 [(0, .ref (a 0)), (1, .int p1), (2, .int y1), (3, .int y2)] → W p l e rmX10_groundsOf s m args below meth c H locs 0 0 Q (F0 m 4 ls []) := by
    intro n9
    induction n9 with
    | zero =>
      intro y1 y2 H locs ls hf hW hl
      exact (sp_lp0 hf).elim
    | succ n9 ih4 =>
      intro y1 y2 H locs ls hf hW hl
      have hf := sp_lpS hf
      rw [f_X10_groundsOf_L4_eq] at hf
      refine lv_iload_n hx hb dX10_groundsOf_4 rfl (lv_at hl 3 rfl) ?_
      refine lv_aload_n hx hb dX10_groundsOf_5 rfl (lv_at hl 0 rfl) ?_
      refine sp_get S hK hW inX10 0 rfl rfl 6 (by decide) lk1 rfl dX10_groundsOf_6 ?_
      refine lv_iload_n hx hb dX10_groundsOf_9 rfl (lv_at hl 1 rfl) ?_
      obtain ⟨hin, v5, ev5, hf⟩ := sp_hld hf
      refine sp_iald S hK hW 4 rfl hin ev5 dX10_groundsOf_10 ?_
      refine lv_icmp_ge (tgt := 44) hx hb dX10_groundsOf_11 (by decide) (fun hc => ?_) (fun hc => ?_)
      · have hf := sp_ht hf hc
        exact hj4 _ _ _ _ hf hW (lv_sub hl [2] rfl)
      · have hf := sp_hf hf hc
        refine lv_iload_n hx hb dX10_groundsOf_14 rfl (lv_at hl 2 rfl) ?_
        refine lv_aload_n hx hb dX10_groundsOf_15 rfl (lv_at hl 0 rfl) ?_
        refine sp_get S hK hW inX10 0 rfl rfl 10 (by decide) lk2 rfl dX10_groundsOf_16 ?_
        refine lv_bipush (v := 24) hx hb dX10_groundsOf_19 (by decide) ?_
        refine lv_iload_n hx hb dX10_groundsOf_21 rfl (lv_at hl 1 rfl) ?_
        refine lv_imul hx hb dX10_groundsOf_22 ?_
        refine lv_iload_n hx hb dX10_groundsOf_23 rfl (lv_at hl 3 rfl) ?_
        refine lv_iadd hx hb dX10_groundsOf_24 ?_
        obtain ⟨hin, v6, ev6, hf⟩ := sp_hld hf
        refine sp_iald S hK hW 8 rfl hin ev6 dX10_groundsOf_25 ?_
        refine lv_bipush (v := (-9)) hx hb dX10_groundsOf_26 (by decide) ?_
        obtain ⟨k8, ek8, hf⟩ := sp_hb hf
        have hj8 : ∀ (x7 : Int32) (H : Heap) (locs : List Loc) (ls : Array Slot), k8 x7 = some r' → sp_wd D A s.heap (sw_M a q5 fa tr la sl ce pn mn cl le ri lt nm nc nl nr nt at9 en9 de mm ma ne us lk sd sf nu gt gl tb sc su) H locs → lv_has ls 4 [(0, .ref (a 0)), (1, .int p1), (3, .int y2)] → W p l e rmX10_groundsOf s m args below meth c H locs 0 0 Q (F0 m 36 ls [.int x7, .int y1]) := by
          intro x7 H locs ls hf hW hl
          rw [ek8] at hf
          refine lv_iadd hx hb dX10_groundsOf_36 ?_
          obtain ⟨v9, ev9, hf⟩ := sp_hb hf
          refine sp_topi ev9 ?_
          refine lv_istore_n (lv' := [(2, .int v9), (0, .ref (a 0)), (1, .int p1), (3, .int y2)]) hx hb dX10_groundsOf_37 rfl hl (by decide) rfl (fun ls hl => ?_)
          obtain ⟨v10, ev10, hf⟩ := sp_hb hf
          refine lv_iinc (v := v10) (lv' := [(3, .int v10), (2, .int v9), (0, .ref (a 0)), (1, .int p1)]) hx hb dX10_groundsOf_38 hl (k := 3) rfl (by rw [ev10]; rfl) (by decide) rfl (fun ls hl => ?_)
          refine lv_goto (tgt := 4) hx hb dX10_groundsOf_41 (by decide) ?_
          exact ih4 _ _ _ _ _ hf hW (lv_sub hl [2, 3, 1, 0] rfl)
        refine lv_icmp_ne (tgt := 35) hx hb dX10_groundsOf_28 (by decide) (fun hc => ?_) (fun hc => ?_)
        · have hf := sp_hf hf hc
          refine lv_iconst (v := 0) hx hb dX10_groundsOf_35 (by decide) ?_
          exact hj8 _ _ _ _ hf hW (lv_sub hl [0, 1, 3] rfl)
        · have hf := sp_ht hf hc
          refine lv_iconst (v := 1) hx hb dX10_groundsOf_31 (by decide) ?_
          refine lv_goto (tgt := 36) hx hb dX10_groundsOf_32 (by decide) ?_
          exact hj8 _ _ _ _ hf hW (lv_sub hl [0, 1, 3] rfl)
  exact hlp4 _ _ _ _ _ _ hf hW (lv_sub hl [2, 3, 1, 0] rfl)

def f_X10_truly_L37 (mn : Nat → Int32) (p1 : Int32) (k8 : Int32 → Option (Int32)) (lt : Nat → Int32) (r3 : Int32) (rec37 : (Int32 × Int32 × Int32) → Option (Int32)) (s9 : Int32 × Int32 × Int32) : Option (Int32) := match s9 with
  | (y4, y5, y6) => sp_ld mn 12 p1 (fun v9 => if v9 ≤ y6 then (k8 y4) else (sp_ld lt 288 (((24 : Int32) * p1) + y6) (fun v10 => sp_bnd (fun (x11 : Int32) (x12 : Int32) => sp_bnd (y6 + (1 : Int32)) (fun v14 => rec37 (x11, x12, v14))) (fun k13 => if v10 = (-9 : Int32) then (sp_bnd (y4 ||| (((r3 >>> (y6 &&& 31)) &&& (1 : Int32)) <<< (y5 &&& 31))) (fun v15 => sp_bnd (y5 + (1 : Int32)) (fun v16 => k13 v15 v16))) else (k13 y4 y5)))))
theorem f_X10_truly_L37_eq {rec37 : (Int32 × Int32 × Int32) → Option (Int32)} {mn : Nat → Int32} {p1 : Int32} {k8 : Int32 → Option (Int32)} {lt : Nat → Int32} {r3 : Int32} {y4 : Int32} {y5 : Int32} {y6 : Int32} : f_X10_truly_L37 mn p1 k8 lt r3 rec37 (y4, y5, y6) = (sp_ld mn 12 p1 (fun v9 => if v9 ≤ y6 then (k8 y4) else (sp_ld lt 288 (((24 : Int32) * p1) + y6) (fun v10 => sp_bnd (fun (x11 : Int32) (x12 : Int32) => sp_bnd (y6 + (1 : Int32)) (fun v14 => rec37 (x11, x12, v14))) (fun k13 => if v10 = (-9 : Int32) then (sp_bnd (y4 ||| (((r3 >>> (y6 &&& 31)) &&& (1 : Int32)) <<< (y5 &&& 31))) (fun v15 => sp_bnd (y5 + (1 : Int32)) (fun v16 => k13 v15 v16))) else (k13 y4 y5)))))) := rfl
def f_X10_truly (p1 : Int32) (pn : Int32) (mn : Nat → Int32) (le : Nat → Int32) (ri : Nat → Int32) (lt : Nat → Int32) : Option (Int32) := Option.bind (f_X10_isProof p1 pn) (fun r1 => if r1 = 0 then (some (-1 : Int32)) else (Option.bind (f_X10_groundsOf p1 mn lt) (fun r2 => if r2 ≤ (10 : Int32) then (Option.bind (f_X10_restsOf p1 mn le ri lt) (fun r3 => sp_bnd (fun (x7 : Int32) => some x7) (fun k8 => sp_lp (f_X10_truly_L37 mn p1 k8 lt r3) sp_F ((0 : Int32), (0 : Int32), (0 : Int32))))) else (some (-3 : Int32)))))
def rmX10_truly : Room := { frames := 1, cells := 0, slots := 0, locals := 23 }
set_option maxRecDepth 4000 in
theorem c_X10_truly {l : Launch} {D : va_G} {q5 : Nat → ClassId} (a : Nat → Nat) (fa : Int32) (tr : Int32) (la : Nat → Int32) (sl : Nat → Int32) (ce : Nat → Int32) (pn : Int32) (mn : Nat → Int32) (cl : Nat → Int32) (le : Nat → Int32) (ri : Nat → Int32) (lt : Nat → Int32) (nm : Int32) (nc : Nat → Int32) (nl : Nat → Int32) (nr : Nat → Int32) (nt : Nat → Int32) (at9 : Int32) (en9 : Int32) (de : Nat → Int32) (mm : Int32) (ma : Nat → Int32) (ne : Nat → Int32) (us : Nat → Int32) (lk : Nat → Int32) (sd : Nat → Int32) (sf : Nat → Int32) (nu : Nat → Int32) (gt : Nat → Int64) (gl : Nat → Int32) (tb : Nat → Int64) (sc : Nat → Int32) (su : Nat → Int32) (p1 : Int32) {r' : Int32} (hf : f_X10_truly p1 pn mn le ri lt = some r') : sp_Ci l yX10_truly wsX10_truly rmX10_truly D q5 0 [.ref (a 0), .int p1] (sw_M a q5 fa tr la sl ce pn mn cl le ri lt nm nc nl nr nt at9 en9 de mm ma ne us lk sd sf nu gt gl tb sc su) r' (sw_M a q5 fa tr la sl ce pn mn cl le ri lt nm nc nl nr nt at9 en9 de mm ma ne us lk sd sf nu gt gl tb sc su) := by
  intro sz
  refine sp_of (cc := cX10_truly) (maxL := 6) (ret := some .int) (own := RX10) (Qc := sp_Qi D r' (sw_M a q5 fa tr la sl ce pn mn cl le ri lt nm nc nl nr nt at9 en9 de mm ma ne us lk sd sf nu gt gl tb sc su)) (by decide) rfl rfl (Nat.le_of_ble_eq_true rfl) ?_
  intro p e s m args below meth c A ls Q hQ S hr hlk hK hG hA hW hl
  have hx := S.1
  have hb := S.2.1
  unfold f_X10_truly at hf
  have inX10 : ∀ w ∈ u_ws RX10 TX10 32, w ∈ wsX10_truly := (fun _ h => List.mem_cons_of_mem _ (List.mem_append_right _ h))
  have lk1 := S.2.2.2.2 (Cond.fieldLink RX10 19 "ShortProofsModel" "many" "[I") (List.mem_of_getElem? (i := 1) rfl)
  have lk2 := S.2.2.2.2 (Cond.fieldLink RX10 31 "ShortProofsModel" "letters" "[I") (List.mem_of_getElem? (i := 2) rfl)
  refine lv_aload_n hx hb dX10_truly_0 rfl (lv_at hl 0 rfl) ?_
  refine lv_iload_n hx hb dX10_truly_1 rfl (lv_at hl 1 rfl) ?_
  obtain ⟨r1, hc1, hf⟩ := sp_hc hf
  refine sp_callViP (rest := []) S hK hG hA hW (c_X10_isProof a fa tr la sl ce pn mn cl le ri lt nm nc nl nr nt at9 en9 de mm ma ne us lk sd sf nu gt gl tb sc su p1 hc1) (by decide) (cwV 1 S.2.2.2.2 gX10_truly_X10_isProof rfl rfl rfl (by decide +kernel) (by decide)) 8 0 rfl rfl (sp_pn _) rfl (WS' := sw_M a q5 fa tr la sl ce pn mn cl le ri lt nm nc nl nr nt at9 en9 de mm ma ne us lk sd sf nu gt gl tb sc su) (sp_pn' _) rfl hl.1 (Nat.le_of_ble_eq_true rfl) dX10_truly_2 ⟨Nat.zero_le _, Nat.zero_le _⟩ rfl (fun H locs hW => ?_)
  refine lv_if_ne (tgt := 10) hx hb dX10_truly_5 (by decide) (fun hc => ?_) (fun hc => ?_)
  · have hf := sp_hf hf hc
    refine lv_aload_n hx hb dX10_truly_10 rfl (lv_at hl 0 rfl) ?_
    refine lv_iload_n hx hb dX10_truly_11 rfl (lv_at hl 1 rfl) ?_
    obtain ⟨r2, hc2, hf⟩ := sp_hc hf
    refine sp_callViP (rest := []) S hK hG hA hW (c_X10_groundsOf a fa tr la sl ce pn mn cl le ri lt nm nc nl nr nt at9 en9 de mm ma ne us lk sd sf nu gt gl tb sc su p1 hc2) (by decide) (cwV 1 S.2.2.2.2 gX10_truly_X10_groundsOf rfl rfl rfl (by decide +kernel) (by decide)) 8 0 rfl rfl (sp_pn _) rfl (WS' := sw_M a q5 fa tr la sl ce pn mn cl le ri lt nm nc nl nr nt at9 en9 de mm ma ne us lk sd sf nu gt gl tb sc su) (sp_pn' _) rfl hl.1 (Nat.le_of_ble_eq_true rfl) dX10_truly_12 ⟨Nat.zero_le _, Nat.zero_le _⟩ rfl (fun H locs hW => ?_)
    refine lv_bipush (v := 10) hx hb dX10_truly_15 (by decide) ?_
    refine lv_icmp_le (tgt := 23) hx hb dX10_truly_17 (by decide) (fun hc => ?_) (fun hc => ?_)
    · have hf := sp_ht hf hc
      refine lv_aload_n hx hb dX10_truly_23 rfl (lv_at hl 0 rfl) ?_
      refine lv_iload_n hx hb dX10_truly_24 rfl (lv_at hl 1 rfl) ?_
      obtain ⟨r3, hc3, hf⟩ := sp_hc hf
      refine sp_callViP (rest := []) S hK hG hA hW (c_X10_restsOf a fa tr la sl ce pn mn cl le ri lt nm nc nl nr nt at9 en9 de mm ma ne us lk sd sf nu gt gl tb sc su p1 hc3) (by decide) (cwV 1 S.2.2.2.2 gX10_truly_X10_restsOf rfl rfl rfl (by decide +kernel) (by decide)) 8 0 rfl rfl (sp_pn _) rfl (WS' := sw_M a q5 fa tr la sl ce pn mn cl le ri lt nm nc nl nr nt at9 en9 de mm ma ne us lk sd sf nu gt gl tb sc su) (sp_pn' _) rfl hl.1 (Nat.le_of_ble_eq_true rfl) dX10_truly_25 ⟨Nat.zero_le _, Nat.zero_le _⟩ rfl (fun H locs hW => ?_)
      refine lv_istore_n (lv' := [(2, .int r3), (0, .ref (a 0)), (1, .int p1)]) hx hb dX10_truly_28 rfl hl (by decide) rfl (fun ls hl => ?_)
      refine lv_iconst (v := 0) hx hb dX10_truly_29 (by decide) ?_
      refine lv_istore_n (lv' := [(3, .int (0 : Int32)), (2, .int r3), (0, .ref (a 0)), (1, .int p1)]) hx hb dX10_truly_30 rfl hl (by decide) rfl (fun ls hl => ?_)
      refine lv_iconst (v := 0) hx hb dX10_truly_31 (by decide) ?_
      refine lv_istore (lv' := [(4, .int (0 : Int32)), (3, .int (0 : Int32)), (2, .int r3), (0, .ref (a 0)), (1, .int p1)]) hx hb dX10_truly_32 hl (by decide) rfl (fun ls hl => ?_)
      refine lv_iconst (v := 0) hx hb dX10_truly_34 (by decide) ?_
      refine lv_istore (lv' := [(5, .int (0 : Int32)), (4, .int (0 : Int32)), (3, .int (0 : Int32)), (2, .int r3), (0, .ref (a 0)), (1, .int p1)]) hx hb dX10_truly_35 hl (by decide) rfl (fun ls hl => ?_)
      obtain ⟨k8, ek8, hf⟩ := sp_hb hf
      have hj8 : ∀ (x7 : Int32) (H : Heap) (locs : List Loc) (ls : Array Slot), k8 x7 = some r' → sp_wd D A s.heap (sw_M a q5 fa tr la sl ce pn mn cl le ri lt nm nc nl nr nt at9 en9 de mm ma ne us lk sd sf nu gt gl tb sc su) H locs → lv_has ls 6 [(3, .int x7)] → W p l e rmX10_truly s m args below meth c H locs 0 0 Q (F0 m 86 ls []) := by
        intro x7 H locs ls hf hW hl
        rw [ek8] at hf
        refine lv_iload_n hx hb dX10_truly_86 rfl (lv_at hl 0 rfl) ?_
        have q0 := Option.some.inj hf
        subst q0
        exact sp_iret S hr hlk hW hQ dX10_truly_87
      have hlp37 : ∀ (n9 : Nat) (y4 : Int32) (y5 : Int32) (y6 : Int32) (H : Heap) (locs : List Loc) (ls : Array Slot), sp_lp (f_X10_truly_L37 mn p1 k8 lt r3) n9 (y4, y5, y6) = some r' → sp_wd D A s.heap (sw_M a q5 fa tr la sl ce pn mn cl le ri lt nm nc nl nr nt at9 en9 de mm ma ne us lk sd sf nu gt gl tb sc su) H locs → lv_has ls 6 [(0, .ref (a 0)), (1, .int p1), (2, .int r3), (3, .int y4), (4, .int y5), (5, .int y6)] → W p l e rmX10_truly s m args below meth c H locs 0 0 Q (F0 m 37 ls []) := by
        intro n9
        induction n9 with
        | zero =>
          intro y4 y5 y6 H locs ls hf hW hl
          exact (sp_lp0 hf).elim
        | succ n9 ih37 =>
          intro y4 y5 y6 H locs ls hf hW hl
          have hf := sp_lpS hf
          rw [f_X10_truly_L37_eq] at hf
          refine lv_iload hx hb dX10_truly_37 (lv_at hl 5 rfl) ?_
          refine lv_aload_n hx hb dX10_truly_39 rfl (lv_at hl 0 rfl) ?_
          refine sp_get S hK hW inX10 0 rfl rfl 6 (by decide) lk1 rfl dX10_truly_40 ?_
          refine lv_iload_n hx hb dX10_truly_43 rfl (lv_at hl 1 rfl) ?_
          obtain ⟨hin, v9, ev9, hf⟩ := sp_hld hf
          refine sp_iald S hK hW 4 rfl hin ev9 dX10_truly_44 ?_
          refine lv_icmp_ge (tgt := 86) hx hb dX10_truly_45 (by decide) (fun hc => ?_) (fun hc => ?_)
          · have hf := sp_ht hf hc
            exact hj8 _ _ _ _ hf hW (lv_sub hl [3] rfl)
          · have hf := sp_hf hf hc
            refine lv_aload_n hx hb dX10_truly_48 rfl (lv_at hl 0 rfl) ?_
            refine sp_get S hK hW inX10 0 rfl rfl 10 (by decide) lk2 rfl dX10_truly_49 ?_
            refine lv_bipush (v := 24) hx hb dX10_truly_52 (by decide) ?_
            refine lv_iload_n hx hb dX10_truly_54 rfl (lv_at hl 1 rfl) ?_
            refine lv_imul hx hb dX10_truly_55 ?_
            refine lv_iload hx hb dX10_truly_56 (lv_at hl 5 rfl) ?_
            refine lv_iadd hx hb dX10_truly_58 ?_
            obtain ⟨hin, v10, ev10, hf⟩ := sp_hld hf
            refine sp_iald S hK hW 8 rfl hin ev10 dX10_truly_59 ?_
            refine lv_bipush (v := (-9)) hx hb dX10_truly_60 (by decide) ?_
            obtain ⟨k13, ek13, hf⟩ := sp_hb hf
            have hj13 : ∀ (x11 : Int32) (x12 : Int32) (H : Heap) (locs : List Loc) (ls : Array Slot), k13 x11 x12 = some r' → sp_wd D A s.heap (sw_M a q5 fa tr la sl ce pn mn cl le ri lt nm nc nl nr nt at9 en9 de mm ma ne us lk sd sf nu gt gl tb sc su) H locs → lv_has ls 6 [(0, .ref (a 0)), (1, .int p1), (2, .int r3), (3, .int x11), (4, .int x12), (5, .int y6)] → W p l e rmX10_truly s m args below meth c H locs 0 0 Q (F0 m 80 ls []) := by
              intro x11 x12 H locs ls hf hW hl
              rw [ek13] at hf
              obtain ⟨v14, ev14, hf⟩ := sp_hb hf
              refine lv_iinc (v := v14) (lv' := [(5, .int v14), (0, .ref (a 0)), (1, .int p1), (2, .int r3), (3, .int x11), (4, .int x12)]) hx hb dX10_truly_80 hl (k := 5) rfl (by rw [ev14]; rfl) (by decide) rfl (fun ls hl => ?_)
              refine lv_goto (tgt := 37) hx hb dX10_truly_83 (by decide) ?_
              exact ih37 _ _ _ _ _ _ hf hW (lv_sub hl [1, 2, 3, 4, 5, 0] rfl)
            refine lv_icmp_ne (tgt := 80) hx hb dX10_truly_62 (by decide) (fun hc => ?_) (fun hc => ?_)
            · have hf := sp_hf hf hc
              exact hj13 _ _ _ _ _ hf hW (lv_sub hl [0, 1, 2, 3, 4, 5] rfl)
            · have hf := sp_ht hf hc
              refine lv_iload_n hx hb dX10_truly_65 rfl (lv_at hl 3 rfl) ?_
              refine lv_iload_n hx hb dX10_truly_66 rfl (lv_at hl 2 rfl) ?_
              refine lv_iload hx hb dX10_truly_67 (lv_at hl 5 rfl) ?_
              refine lv_ishr hx hb dX10_truly_69 ?_
              refine lv_iconst (v := 1) hx hb dX10_truly_70 (by decide) ?_
              refine lv_iand hx hb dX10_truly_71 ?_
              refine lv_iload hx hb dX10_truly_72 (lv_at hl 4 rfl) ?_
              refine lv_ishl hx hb dX10_truly_74 ?_
              refine lv_ior hx hb dX10_truly_75 ?_
              obtain ⟨v15, ev15, hf⟩ := sp_hb hf
              refine sp_topi ev15 ?_
              refine lv_istore_n (lv' := [(3, .int v15), (0, .ref (a 0)), (1, .int p1), (2, .int r3), (4, .int y5), (5, .int y6)]) hx hb dX10_truly_76 rfl hl (by decide) rfl (fun ls hl => ?_)
              obtain ⟨v16, ev16, hf⟩ := sp_hb hf
              refine lv_iinc (v := v16) (lv' := [(4, .int v16), (3, .int v15), (0, .ref (a 0)), (1, .int p1), (2, .int r3), (5, .int y6)]) hx hb dX10_truly_77 hl (k := 4) rfl (by rw [ev16]; rfl) (by decide) rfl (fun ls hl => ?_)
              exact hj13 _ _ _ _ _ hf hW (lv_sub hl [2, 3, 4, 1, 0, 5] rfl)
      exact hlp37 _ _ _ _ _ _ _ hf hW (lv_sub hl [4, 5, 3, 2, 1, 0] rfl)
    · have hf := sp_hf hf hc
      refine lv_bipush (v := (-3)) hx hb dX10_truly_20 (by decide) ?_
      have q0 := Option.some.inj hf
      subst q0
      exact sp_iret S hr hlk hW hQ dX10_truly_22
  · have hf := sp_ht hf hc
    refine lv_iconst (v := (-1)) hx hb dX10_truly_8 (by decide) ?_
    have q0 := Option.some.inj hf
    subst q0
    exact sp_iret S hr hlk hW hQ dX10_truly_9

def f_X10_isFrom (p1 : Int32) (p2 : Int32) (p3 : Int32) (le : Nat → Int32) (ri : Nat → Int32) (lt : Nat → Int32) : Option (Int32) := sp_ld lt 288 (((24 : Int32) * p1) + p2) (fun v1 => if v1 = (-9 : Int32) then (some (0 : Int32)) else (sp_ld le 288 (((24 : Int32) * p1) + p2) (fun v2 => if v2 = p3 then (some (1 : Int32)) else (sp_ld ri 288 (((24 : Int32) * p1) + p2) (fun v3 => if v3 = p3 then (some (1 : Int32)) else (some (0 : Int32)))))))
def rmX10_isFrom : Room := { frames := 0, cells := 0, slots := 0, locals := 0 }
set_option maxRecDepth 4000 in
theorem c_X10_isFrom {l : Launch} {D : va_G} {q5 : Nat → ClassId} (a : Nat → Nat) (fa : Int32) (tr : Int32) (la : Nat → Int32) (sl : Nat → Int32) (ce : Nat → Int32) (pn : Int32) (mn : Nat → Int32) (cl : Nat → Int32) (le : Nat → Int32) (ri : Nat → Int32) (lt : Nat → Int32) (nm : Int32) (nc : Nat → Int32) (nl : Nat → Int32) (nr : Nat → Int32) (nt : Nat → Int32) (at9 : Int32) (en9 : Int32) (de : Nat → Int32) (mm : Int32) (ma : Nat → Int32) (ne : Nat → Int32) (us : Nat → Int32) (lk : Nat → Int32) (sd : Nat → Int32) (sf : Nat → Int32) (nu : Nat → Int32) (gt : Nat → Int64) (gl : Nat → Int32) (tb : Nat → Int64) (sc : Nat → Int32) (su : Nat → Int32) (p1 : Int32) (p2 : Int32) (p3 : Int32) {r' : Int32} (hf : f_X10_isFrom p1 p2 p3 le ri lt = some r') : sp_Ci l yX10_isFrom wsX10_isFrom rmX10_isFrom D q5 0 [.ref (a 0), .int p1, .int p2, .int p3] (sw_M a q5 fa tr la sl ce pn mn cl le ri lt nm nc nl nr nt at9 en9 de mm ma ne us lk sd sf nu gt gl tb sc su) r' (sw_M a q5 fa tr la sl ce pn mn cl le ri lt nm nc nl nr nt at9 en9 de mm ma ne us lk sd sf nu gt gl tb sc su) := by
  intro sz
  refine sp_of (cc := cX10_isFrom) (maxL := 4) (ret := some .boolean) (own := RX10) (Qc := sp_Qi D r' (sw_M a q5 fa tr la sl ce pn mn cl le ri lt nm nc nl nr nt at9 en9 de mm ma ne us lk sd sf nu gt gl tb sc su)) (by decide) rfl rfl (Nat.le_of_ble_eq_true rfl) ?_
  intro p e s m args below meth c A ls Q hQ S hr hlk hK hG hA hW hl
  have hx := S.1
  have hb := S.2.1
  unfold f_X10_isFrom at hf
  have inX10 : ∀ w ∈ u_ws RX10 TX10 32, w ∈ wsX10_isFrom := (fun _ h => List.mem_cons_of_mem _ (List.mem_append_right _ h))
  have lk1 := S.2.2.2.2 (Cond.fieldLink RX10 31 "ShortProofsModel" "letters" "[I") (List.mem_of_getElem? (i := 1) rfl)
  have lk2 := S.2.2.2.2 (Cond.fieldLink RX10 25 "ShortProofsModel" "lefts" "[I") (List.mem_of_getElem? (i := 2) rfl)
  have lk3 := S.2.2.2.2 (Cond.fieldLink RX10 28 "ShortProofsModel" "rights" "[I") (List.mem_of_getElem? (i := 3) rfl)
  refine lv_aload_n hx hb dX10_isFrom_0 rfl (lv_at hl 0 rfl) ?_
  refine sp_get S hK hW inX10 0 rfl rfl 10 (by decide) lk1 rfl dX10_isFrom_1 ?_
  refine lv_bipush (v := 24) hx hb dX10_isFrom_4 (by decide) ?_
  refine lv_iload_n hx hb dX10_isFrom_6 rfl (lv_at hl 1 rfl) ?_
  refine lv_imul hx hb dX10_isFrom_7 ?_
  refine lv_iload_n hx hb dX10_isFrom_8 rfl (lv_at hl 2 rfl) ?_
  refine lv_iadd hx hb dX10_isFrom_9 ?_
  obtain ⟨hin, v1, ev1, hf⟩ := sp_hld hf
  refine sp_iald S hK hW 8 rfl hin ev1 dX10_isFrom_10 ?_
  refine lv_bipush (v := (-9)) hx hb dX10_isFrom_11 (by decide) ?_
  refine lv_icmp_eq (tgt := 50) hx hb dX10_isFrom_13 (by decide) (fun hc => ?_) (fun hc => ?_)
  · have hf := sp_ht hf hc
    refine lv_iconst (v := 0) hx hb dX10_isFrom_50 (by decide) ?_
    have q0 := Option.some.inj hf
    subst q0
    exact sp_zret S hr hlk hW rfl hQ dX10_isFrom_51
  · have hf := sp_hf hf hc
    refine lv_aload_n hx hb dX10_isFrom_16 rfl (lv_at hl 0 rfl) ?_
    refine sp_get S hK hW inX10 0 rfl rfl 8 (by decide) lk2 rfl dX10_isFrom_17 ?_
    refine lv_bipush (v := 24) hx hb dX10_isFrom_20 (by decide) ?_
    refine lv_iload_n hx hb dX10_isFrom_22 rfl (lv_at hl 1 rfl) ?_
    refine lv_imul hx hb dX10_isFrom_23 ?_
    refine lv_iload_n hx hb dX10_isFrom_24 rfl (lv_at hl 2 rfl) ?_
    refine lv_iadd hx hb dX10_isFrom_25 ?_
    obtain ⟨hin, v2, ev2, hf⟩ := sp_hld hf
    refine sp_iald S hK hW 6 rfl hin ev2 dX10_isFrom_26 ?_
    refine lv_iload_n hx hb dX10_isFrom_27 rfl (lv_at hl 3 rfl) ?_
    refine lv_icmp_eq (tgt := 46) hx hb dX10_isFrom_28 (by decide) (fun hc => ?_) (fun hc => ?_)
    · have hf := sp_ht hf hc
      refine lv_iconst (v := 1) hx hb dX10_isFrom_46 (by decide) ?_
      refine lv_goto (tgt := 51) hx hb dX10_isFrom_47 (by decide) ?_
      have q0 := Option.some.inj hf
      subst q0
      exact sp_zret S hr hlk hW rfl hQ dX10_isFrom_51
    · have hf := sp_hf hf hc
      refine lv_aload_n hx hb dX10_isFrom_31 rfl (lv_at hl 0 rfl) ?_
      refine sp_get S hK hW inX10 0 rfl rfl 9 (by decide) lk3 rfl dX10_isFrom_32 ?_
      refine lv_bipush (v := 24) hx hb dX10_isFrom_35 (by decide) ?_
      refine lv_iload_n hx hb dX10_isFrom_37 rfl (lv_at hl 1 rfl) ?_
      refine lv_imul hx hb dX10_isFrom_38 ?_
      refine lv_iload_n hx hb dX10_isFrom_39 rfl (lv_at hl 2 rfl) ?_
      refine lv_iadd hx hb dX10_isFrom_40 ?_
      obtain ⟨hin, v3, ev3, hf⟩ := sp_hld hf
      refine sp_iald S hK hW 7 rfl hin ev3 dX10_isFrom_41 ?_
      refine lv_iload_n hx hb dX10_isFrom_42 rfl (lv_at hl 3 rfl) ?_
      refine lv_icmp_ne (tgt := 50) hx hb dX10_isFrom_43 (by decide) (fun hc => ?_) (fun hc => ?_)
      · have hf := sp_hf hf hc
        refine lv_iconst (v := 0) hx hb dX10_isFrom_50 (by decide) ?_
        have q0 := Option.some.inj hf
        subst q0
        exact sp_zret S hr hlk hW rfl hQ dX10_isFrom_51
      · have hf := sp_ht hf hc
        refine lv_iconst (v := 1) hx hb dX10_isFrom_46 (by decide) ?_
        refine lv_goto (tgt := 51) hx hb dX10_isFrom_47 (by decide) ?_
        have q0 := Option.some.inj hf
        subst q0
        exact sp_zret S hr hlk hW rfl hQ dX10_isFrom_51

def f_X10_signs_L4 (mn : Nat → Int32) (p1 : Int32) (k4 : Int32 → Option (Int32)) (cl : Nat → Int32) (rec4 : (Int32 × Int32) → Option (Int32)) (s9 : Int32 × Int32) : Option (Int32) := match s9 with
  | (y1, y2) => sp_ld mn 12 p1 (fun v5 => if v5 ≤ y2 then (k4 y1) else (sp_ld cl 288 (((24 : Int32) * p1) + y2) (fun v6 => Option.bind (f_X10_bitsOf v6) (fun r7 => sp_bnd (y1 + r7) (fun v8 => sp_bnd (y2 + (1 : Int32)) (fun v9 => rec4 (v8, v9)))))))
theorem f_X10_signs_L4_eq {rec4 : (Int32 × Int32) → Option (Int32)} {mn : Nat → Int32} {p1 : Int32} {k4 : Int32 → Option (Int32)} {cl : Nat → Int32} {y1 : Int32} {y2 : Int32} : f_X10_signs_L4 mn p1 k4 cl rec4 (y1, y2) = (sp_ld mn 12 p1 (fun v5 => if v5 ≤ y2 then (k4 y1) else (sp_ld cl 288 (((24 : Int32) * p1) + y2) (fun v6 => Option.bind (f_X10_bitsOf v6) (fun r7 => sp_bnd (y1 + r7) (fun v8 => sp_bnd (y2 + (1 : Int32)) (fun v9 => rec4 (v8, v9)))))))) := rfl
def f_X10_signs (p1 : Int32) (mn : Nat → Int32) (cl : Nat → Int32) : Option (Int32) := sp_bnd (fun (x3 : Int32) => some x3) (fun k4 => sp_lp (f_X10_signs_L4 mn p1 k4 cl) sp_F ((0 : Int32), (0 : Int32)))
def rmX10_signs : Room := { frames := 1, cells := 0, slots := 0, locals := 22 }
set_option maxRecDepth 4000 in
theorem c_X10_signs {l : Launch} {D : va_G} {q5 : Nat → ClassId} (a : Nat → Nat) (fa : Int32) (tr : Int32) (la : Nat → Int32) (sl : Nat → Int32) (ce : Nat → Int32) (pn : Int32) (mn : Nat → Int32) (cl : Nat → Int32) (le : Nat → Int32) (ri : Nat → Int32) (lt : Nat → Int32) (nm : Int32) (nc : Nat → Int32) (nl : Nat → Int32) (nr : Nat → Int32) (nt : Nat → Int32) (at9 : Int32) (en9 : Int32) (de : Nat → Int32) (mm : Int32) (ma : Nat → Int32) (ne : Nat → Int32) (us : Nat → Int32) (lk : Nat → Int32) (sd : Nat → Int32) (sf : Nat → Int32) (nu : Nat → Int32) (gt : Nat → Int64) (gl : Nat → Int32) (tb : Nat → Int64) (sc : Nat → Int32) (su : Nat → Int32) (p1 : Int32) {r' : Int32} (hf : f_X10_signs p1 mn cl = some r') : sp_Ci l yX10_signs wsX10_signs rmX10_signs D q5 0 [.ref (a 0), .int p1] (sw_M a q5 fa tr la sl ce pn mn cl le ri lt nm nc nl nr nt at9 en9 de mm ma ne us lk sd sf nu gt gl tb sc su) r' (sw_M a q5 fa tr la sl ce pn mn cl le ri lt nm nc nl nr nt at9 en9 de mm ma ne us lk sd sf nu gt gl tb sc su) := by
  intro sz
  refine sp_of (cc := cX10_signs) (maxL := 4) (ret := some .int) (own := RX10) (Qc := sp_Qi D r' (sw_M a q5 fa tr la sl ce pn mn cl le ri lt nm nc nl nr nt at9 en9 de mm ma ne us lk sd sf nu gt gl tb sc su)) (by decide) rfl rfl (Nat.le_of_ble_eq_true rfl) ?_
  intro p e s m args below meth c A ls Q hQ S hr hlk hK hG hA hW hl
  have hx := S.1
  have hb := S.2.1
  unfold f_X10_signs at hf
  have inX10 : ∀ w ∈ u_ws RX10 TX10 32, w ∈ wsX10_signs := (fun _ h => List.mem_cons_of_mem _ (List.mem_append_right _ h))
  have lk1 := S.2.2.2.2 (Cond.fieldLink RX10 19 "ShortProofsModel" "many" "[I") (List.mem_of_getElem? (i := 1) rfl)
  have lk2 := S.2.2.2.2 (Cond.fieldLink RX10 22 "ShortProofsModel" "clauses" "[I") (List.mem_of_getElem? (i := 2) rfl)
  refine lv_iconst (v := 0) hx hb dX10_signs_0 (by decide) ?_
  refine lv_istore_n (lv' := [(2, .int (0 : Int32)), (0, .ref (a 0)), (1, .int p1)]) hx hb dX10_signs_1 rfl hl (by decide) rfl (fun ls hl => ?_)
  refine lv_iconst (v := 0) hx hb dX10_signs_2 (by decide) ?_
  refine lv_istore_n (lv' := [(3, .int (0 : Int32)), (2, .int (0 : Int32)), (0, .ref (a 0)), (1, .int p1)]) hx hb dX10_signs_3 rfl hl (by decide) rfl (fun ls hl => ?_)
  obtain ⟨k4, ek4, hf⟩ := sp_hb hf
  have hj4 : ∀ (x3 : Int32) (H : Heap) (locs : List Loc) (ls : Array Slot), k4 x3 = some r' → sp_wd D A s.heap (sw_M a q5 fa tr la sl ce pn mn cl le ri lt nm nc nl nr nt at9 en9 de mm ma ne us lk sd sf nu gt gl tb sc su) H locs → lv_has ls 4 [(2, .int x3)] → W p l e rmX10_signs s m args below meth c H locs 0 0 Q (F0 m 37 ls []) := by
    intro x3 H locs ls hf hW hl
    rw [ek4] at hf
    refine lv_iload_n hx hb dX10_signs_37 rfl (lv_at hl 0 rfl) ?_
    have q0 := Option.some.inj hf
    subst q0
    exact sp_iret S hr hlk hW hQ dX10_signs_38
  have hlp4 : ∀ (n9 : Nat) (y1 : Int32) (y2 : Int32) (H : Heap) (locs : List Loc) (ls : Array Slot), sp_lp (f_X10_signs_L4 mn p1 k4 cl) n9 (y1, y2) = some r' → sp_wd D A s.heap (sw_M a q5 fa tr la sl ce pn mn cl le ri lt nm nc nl nr nt at9 en9 de mm ma ne us lk sd sf nu gt gl tb sc su) H locs → lv_has ls 4 [(0, .ref (a 0)), (1, .int p1), (2, .int y1), (3, .int y2)] → W p l e rmX10_signs s m args below meth c H locs 0 0 Q (F0 m 4 ls []) := by
    intro n9
    induction n9 with
    | zero =>
      intro y1 y2 H locs ls hf hW hl
      exact (sp_lp0 hf).elim
    | succ n9 ih4 =>
      intro y1 y2 H locs ls hf hW hl
      have hf := sp_lpS hf
      rw [f_X10_signs_L4_eq] at hf
      refine lv_iload_n hx hb dX10_signs_4 rfl (lv_at hl 3 rfl) ?_
      refine lv_aload_n hx hb dX10_signs_5 rfl (lv_at hl 0 rfl) ?_
      refine sp_get S hK hW inX10 0 rfl rfl 6 (by decide) lk1 rfl dX10_signs_6 ?_
      refine lv_iload_n hx hb dX10_signs_9 rfl (lv_at hl 1 rfl) ?_
      obtain ⟨hin, v5, ev5, hf⟩ := sp_hld hf
      refine sp_iald S hK hW 4 rfl hin ev5 dX10_signs_10 ?_
      refine lv_icmp_ge (tgt := 37) hx hb dX10_signs_11 (by decide) (fun hc => ?_) (fun hc => ?_)
      · have hf := sp_ht hf hc
        exact hj4 _ _ _ _ hf hW (lv_sub hl [2] rfl)
      · have hf := sp_hf hf hc
        refine lv_iload_n hx hb dX10_signs_14 rfl (lv_at hl 2 rfl) ?_
        refine lv_aload_n hx hb dX10_signs_15 rfl (lv_at hl 0 rfl) ?_
        refine sp_get S hK hW inX10 0 rfl rfl 7 (by decide) lk2 rfl dX10_signs_16 ?_
        refine lv_bipush (v := 24) hx hb dX10_signs_19 (by decide) ?_
        refine lv_iload_n hx hb dX10_signs_21 rfl (lv_at hl 1 rfl) ?_
        refine lv_imul hx hb dX10_signs_22 ?_
        refine lv_iload_n hx hb dX10_signs_23 rfl (lv_at hl 3 rfl) ?_
        refine lv_iadd hx hb dX10_signs_24 ?_
        obtain ⟨hin, v6, ev6, hf⟩ := sp_hld hf
        refine sp_iald S hK hW 5 rfl hin ev6 dX10_signs_25 ?_
        obtain ⟨r7, hc7, hf⟩ := sp_hc hf
        refine sp_callSi (rest := [.int y1]) S hK hG hA hW (c_X10_bitsOf v6 hc7) (by decide) (va_cwS 1 S.2.2.2.2 gX10_signs_X10_bitsOf rfl rfl rfl (by decide +kernel) (by decide)) (isC := []) rfl rfl rfl (WS' := sw_M a q5 fa tr la sl ce pn mn cl le ri lt nm nc nl nr nt at9 en9 de mm ma ne us lk sd sf nu gt gl tb sc su) rfl rfl hl.1 (Nat.le_of_ble_eq_true rfl) dX10_signs_26 ⟨Nat.zero_le _, Nat.zero_le _⟩ rfl (fun H locs hW => ?_)
        refine lv_iadd hx hb dX10_signs_29 ?_
        obtain ⟨v8, ev8, hf⟩ := sp_hb hf
        refine sp_topi ev8 ?_
        refine lv_istore_n (lv' := [(2, .int v8), (0, .ref (a 0)), (1, .int p1), (3, .int y2)]) hx hb dX10_signs_30 rfl hl (by decide) rfl (fun ls hl => ?_)
        obtain ⟨v9, ev9, hf⟩ := sp_hb hf
        refine lv_iinc (v := v9) (lv' := [(3, .int v9), (2, .int v8), (0, .ref (a 0)), (1, .int p1)]) hx hb dX10_signs_31 hl (k := 3) rfl (by rw [ev9]; rfl) (by decide) rfl (fun ls hl => ?_)
        refine lv_goto (tgt := 4) hx hb dX10_signs_34 (by decide) ?_
        exact ih4 _ _ _ _ _ hf hW (lv_sub hl [2, 3, 1, 0] rfl)
  exact hlp4 _ _ _ _ _ _ hf hW (lv_sub hl [2, 3, 1, 0] rfl)

def f_X10_widest_L4 (mn : Nat → Int32) (p1 : Int32) (k4 : Int32 → Option (Int32)) (cl : Nat → Int32) (rec4 : (Int32 × Int32) → Option (Int32)) (s9 : Int32 × Int32) : Option (Int32) := match s9 with
  | (y1, y2) => sp_ld mn 12 p1 (fun v5 => if v5 ≤ y2 then (k4 y1) else (sp_ld cl 288 (((24 : Int32) * p1) + y2) (fun v6 => Option.bind (f_X10_bitsOf v6) (fun r7 => sp_bnd (fun (x8 : Int32) => sp_bnd (y2 + (1 : Int32)) (fun v10 => rec4 (x8, v10))) (fun k9 => if r7 ≤ y1 then (k9 y1) else (k9 r7))))))
theorem f_X10_widest_L4_eq {rec4 : (Int32 × Int32) → Option (Int32)} {mn : Nat → Int32} {p1 : Int32} {k4 : Int32 → Option (Int32)} {cl : Nat → Int32} {y1 : Int32} {y2 : Int32} : f_X10_widest_L4 mn p1 k4 cl rec4 (y1, y2) = (sp_ld mn 12 p1 (fun v5 => if v5 ≤ y2 then (k4 y1) else (sp_ld cl 288 (((24 : Int32) * p1) + y2) (fun v6 => Option.bind (f_X10_bitsOf v6) (fun r7 => sp_bnd (fun (x8 : Int32) => sp_bnd (y2 + (1 : Int32)) (fun v10 => rec4 (x8, v10))) (fun k9 => if r7 ≤ y1 then (k9 y1) else (k9 r7))))))) := rfl
def f_X10_widest (p1 : Int32) (mn : Nat → Int32) (cl : Nat → Int32) : Option (Int32) := sp_bnd (fun (x3 : Int32) => some x3) (fun k4 => sp_lp (f_X10_widest_L4 mn p1 k4 cl) sp_F ((0 : Int32), (0 : Int32)))
def rmX10_widest : Room := { frames := 1, cells := 0, slots := 0, locals := 22 }
set_option maxRecDepth 4000 in
theorem c_X10_widest {l : Launch} {D : va_G} {q5 : Nat → ClassId} (a : Nat → Nat) (fa : Int32) (tr : Int32) (la : Nat → Int32) (sl : Nat → Int32) (ce : Nat → Int32) (pn : Int32) (mn : Nat → Int32) (cl : Nat → Int32) (le : Nat → Int32) (ri : Nat → Int32) (lt : Nat → Int32) (nm : Int32) (nc : Nat → Int32) (nl : Nat → Int32) (nr : Nat → Int32) (nt : Nat → Int32) (at9 : Int32) (en9 : Int32) (de : Nat → Int32) (mm : Int32) (ma : Nat → Int32) (ne : Nat → Int32) (us : Nat → Int32) (lk : Nat → Int32) (sd : Nat → Int32) (sf : Nat → Int32) (nu : Nat → Int32) (gt : Nat → Int64) (gl : Nat → Int32) (tb : Nat → Int64) (sc : Nat → Int32) (su : Nat → Int32) (p1 : Int32) {r' : Int32} (hf : f_X10_widest p1 mn cl = some r') : sp_Ci l yX10_widest wsX10_widest rmX10_widest D q5 0 [.ref (a 0), .int p1] (sw_M a q5 fa tr la sl ce pn mn cl le ri lt nm nc nl nr nt at9 en9 de mm ma ne us lk sd sf nu gt gl tb sc su) r' (sw_M a q5 fa tr la sl ce pn mn cl le ri lt nm nc nl nr nt at9 en9 de mm ma ne us lk sd sf nu gt gl tb sc su) := by
  intro sz
  refine sp_of (cc := cX10_widest) (maxL := 5) (ret := some .int) (own := RX10) (Qc := sp_Qi D r' (sw_M a q5 fa tr la sl ce pn mn cl le ri lt nm nc nl nr nt at9 en9 de mm ma ne us lk sd sf nu gt gl tb sc su)) (by decide) rfl rfl (Nat.le_of_ble_eq_true rfl) ?_
  intro p e s m args below meth c A ls Q hQ S hr hlk hK hG hA hW hl
  have hx := S.1
  have hb := S.2.1
  unfold f_X10_widest at hf
  have inX10 : ∀ w ∈ u_ws RX10 TX10 32, w ∈ wsX10_widest := (fun _ h => List.mem_cons_of_mem _ (List.mem_append_right _ h))
  have lk1 := S.2.2.2.2 (Cond.fieldLink RX10 19 "ShortProofsModel" "many" "[I") (List.mem_of_getElem? (i := 1) rfl)
  have lk2 := S.2.2.2.2 (Cond.fieldLink RX10 22 "ShortProofsModel" "clauses" "[I") (List.mem_of_getElem? (i := 2) rfl)
  refine lv_iconst (v := 0) hx hb dX10_widest_0 (by decide) ?_
  refine lv_istore_n (lv' := [(2, .int (0 : Int32)), (0, .ref (a 0)), (1, .int p1)]) hx hb dX10_widest_1 rfl hl (by decide) rfl (fun ls hl => ?_)
  refine lv_iconst (v := 0) hx hb dX10_widest_2 (by decide) ?_
  refine lv_istore_n (lv' := [(3, .int (0 : Int32)), (2, .int (0 : Int32)), (0, .ref (a 0)), (1, .int p1)]) hx hb dX10_widest_3 rfl hl (by decide) rfl (fun ls hl => ?_)
  obtain ⟨k4, ek4, hf⟩ := sp_hb hf
  have hj4 : ∀ (x3 : Int32) (H : Heap) (locs : List Loc) (ls : Array Slot), k4 x3 = some r' → sp_wd D A s.heap (sw_M a q5 fa tr la sl ce pn mn cl le ri lt nm nc nl nr nt at9 en9 de mm ma ne us lk sd sf nu gt gl tb sc su) H locs → lv_has ls 5 [(2, .int x3)] → W p l e rmX10_widest s m args below meth c H locs 0 0 Q (F0 m 49 ls []) := by
    intro x3 H locs ls hf hW hl
    rw [ek4] at hf
    refine lv_iload_n hx hb dX10_widest_49 rfl (lv_at hl 0 rfl) ?_
    have q0 := Option.some.inj hf
    subst q0
    exact sp_iret S hr hlk hW hQ dX10_widest_50
  have hlp4 : ∀ (n9 : Nat) (y1 : Int32) (y2 : Int32) (H : Heap) (locs : List Loc) (ls : Array Slot), sp_lp (f_X10_widest_L4 mn p1 k4 cl) n9 (y1, y2) = some r' → sp_wd D A s.heap (sw_M a q5 fa tr la sl ce pn mn cl le ri lt nm nc nl nr nt at9 en9 de mm ma ne us lk sd sf nu gt gl tb sc su) H locs → lv_has ls 5 [(0, .ref (a 0)), (1, .int p1), (2, .int y1), (3, .int y2)] → W p l e rmX10_widest s m args below meth c H locs 0 0 Q (F0 m 4 ls []) := by
    intro n9
    induction n9 with
    | zero =>
      intro y1 y2 H locs ls hf hW hl
      exact (sp_lp0 hf).elim
    | succ n9 ih4 =>
      intro y1 y2 H locs ls hf hW hl
      have hf := sp_lpS hf
      rw [f_X10_widest_L4_eq] at hf
      refine lv_iload_n hx hb dX10_widest_4 rfl (lv_at hl 3 rfl) ?_
      refine lv_aload_n hx hb dX10_widest_5 rfl (lv_at hl 0 rfl) ?_
      refine sp_get S hK hW inX10 0 rfl rfl 6 (by decide) lk1 rfl dX10_widest_6 ?_
      refine lv_iload_n hx hb dX10_widest_9 rfl (lv_at hl 1 rfl) ?_
      obtain ⟨hin, v5, ev5, hf⟩ := sp_hld hf
      refine sp_iald S hK hW 4 rfl hin ev5 dX10_widest_10 ?_
      refine lv_icmp_ge (tgt := 49) hx hb dX10_widest_11 (by decide) (fun hc => ?_) (fun hc => ?_)
      · have hf := sp_ht hf hc
        exact hj4 _ _ _ _ hf hW (lv_sub hl [2] rfl)
      · have hf := sp_hf hf hc
        refine lv_aload_n hx hb dX10_widest_14 rfl (lv_at hl 0 rfl) ?_
        refine sp_get S hK hW inX10 0 rfl rfl 7 (by decide) lk2 rfl dX10_widest_15 ?_
        refine lv_bipush (v := 24) hx hb dX10_widest_18 (by decide) ?_
        refine lv_iload_n hx hb dX10_widest_20 rfl (lv_at hl 1 rfl) ?_
        refine lv_imul hx hb dX10_widest_21 ?_
        refine lv_iload_n hx hb dX10_widest_22 rfl (lv_at hl 3 rfl) ?_
        refine lv_iadd hx hb dX10_widest_23 ?_
        obtain ⟨hin, v6, ev6, hf⟩ := sp_hld hf
        refine sp_iald S hK hW 5 rfl hin ev6 dX10_widest_24 ?_
        obtain ⟨r7, hc7, hf⟩ := sp_hc hf
        refine sp_callSi (rest := []) S hK hG hA hW (c_X10_bitsOf v6 hc7) (by decide) (va_cwS 1 S.2.2.2.2 gX10_widest_X10_bitsOf rfl rfl rfl (by decide +kernel) (by decide)) (isC := []) rfl rfl rfl (WS' := sw_M a q5 fa tr la sl ce pn mn cl le ri lt nm nc nl nr nt at9 en9 de mm ma ne us lk sd sf nu gt gl tb sc su) rfl rfl hl.1 (Nat.le_of_ble_eq_true rfl) dX10_widest_25 ⟨Nat.zero_le _, Nat.zero_le _⟩ rfl (fun H locs hW => ?_)
        refine lv_istore (lv' := [(4, .int r7), (0, .ref (a 0)), (1, .int p1), (2, .int y1), (3, .int y2)]) hx hb dX10_widest_28 hl (by decide) rfl (fun ls hl => ?_)
        refine lv_iload hx hb dX10_widest_30 (lv_at hl 0 rfl) ?_
        refine lv_iload_n hx hb dX10_widest_32 rfl (lv_at hl 3 rfl) ?_
        obtain ⟨k9, ek9, hf⟩ := sp_hb hf
        have hj9 : ∀ (x8 : Int32) (H : Heap) (locs : List Loc) (ls : Array Slot), k9 x8 = some r' → sp_wd D A s.heap (sw_M a q5 fa tr la sl ce pn mn cl le ri lt nm nc nl nr nt at9 en9 de mm ma ne us lk sd sf nu gt gl tb sc su) H locs → lv_has ls 5 [(0, .ref (a 0)), (1, .int p1), (3, .int y2)] → W p l e rmX10_widest s m args below meth c H locs 0 0 Q (F0 m 42 ls [.int x8]) := by
          intro x8 H locs ls hf hW hl
          rw [ek9] at hf
          refine lv_istore_n (lv' := [(2, .int x8), (0, .ref (a 0)), (1, .int p1), (3, .int y2)]) hx hb dX10_widest_42 rfl hl (by decide) rfl (fun ls hl => ?_)
          obtain ⟨v10, ev10, hf⟩ := sp_hb hf
          refine lv_iinc (v := v10) (lv' := [(3, .int v10), (2, .int x8), (0, .ref (a 0)), (1, .int p1)]) hx hb dX10_widest_43 hl (k := 3) rfl (by rw [ev10]; rfl) (by decide) rfl (fun ls hl => ?_)
          refine lv_goto (tgt := 4) hx hb dX10_widest_46 (by decide) ?_
          exact ih4 _ _ _ _ _ hf hW (lv_sub hl [2, 3, 1, 0] rfl)
        refine lv_icmp_le (tgt := 41) hx hb dX10_widest_33 (by decide) (fun hc => ?_) (fun hc => ?_)
        · have hf := sp_ht hf hc
          refine lv_iload_n hx hb dX10_widest_41 rfl (lv_at hl 3 rfl) ?_
          exact hj9 _ _ _ _ hf hW (lv_sub hl [1, 2, 4] rfl)
        · have hf := sp_hf hf hc
          refine lv_iload hx hb dX10_widest_36 (lv_at hl 0 rfl) ?_
          refine lv_goto (tgt := 42) hx hb dX10_widest_38 (by decide) ?_
          exact hj9 _ _ _ _ hf hW (lv_sub hl [1, 2, 4] rfl)
  exact hlp4 _ _ _ _ _ _ hf hW (lv_sub hl [2, 3, 1, 0] rfl)

def f_X10_deep_L2 (mn : Nat → Int32) (p1 : Int32) (k4 : (Nat → Int32) → Option (Int32 × (Nat → Int32))) (lt : Nat → Int32) (le : Nat → Int32) (ri : Nat → Int32) (rec2 : (Int32 × (Nat → Int32)) → Option (Int32 × (Nat → Int32))) (s9 : Int32 × (Nat → Int32)) : Option (Int32 × (Nat → Int32)) := match s9 with
  | (y1, c2) => sp_ld mn 12 p1 (fun v7 => if v7 ≤ y1 then (k4 c2) else (sp_bnd (((24 : Int32) * p1) + y1) (fun v8 => sp_st c2 24 y1 (0 : Int32) (fun c9 => sp_ld lt 288 v8 (fun v10 => sp_bnd (fun (c11 : Nat → Int32) => sp_bnd (y1 + (1 : Int32)) (fun v13 => rec2 (v13, c11))) (fun k12 => if v10 = (-9 : Int32) then (k12 c9) else (sp_ld le 288 v8 (fun v14 => sp_ld c9 24 v14 (fun v15 => sp_ld ri 288 v8 (fun v16 => sp_ld c9 24 v16 (fun v17 => sp_bnd (fun (x18 : Int32) => sp_st c9 24 y1 ((1 : Int32) + x18) (fun c20 => k12 c20)) (fun k19 => if v15 ≤ v17 then (k19 v17) else (k19 v15)))))))))))))
theorem f_X10_deep_L2_eq {rec2 : (Int32 × (Nat → Int32)) → Option (Int32 × (Nat → Int32))} {mn : Nat → Int32} {p1 : Int32} {k4 : (Nat → Int32) → Option (Int32 × (Nat → Int32))} {lt : Nat → Int32} {le : Nat → Int32} {ri : Nat → Int32} {y1 : Int32} {c2 : Nat → Int32} : f_X10_deep_L2 mn p1 k4 lt le ri rec2 (y1, c2) = (sp_ld mn 12 p1 (fun v7 => if v7 ≤ y1 then (k4 c2) else (sp_bnd (((24 : Int32) * p1) + y1) (fun v8 => sp_st c2 24 y1 (0 : Int32) (fun c9 => sp_ld lt 288 v8 (fun v10 => sp_bnd (fun (c11 : Nat → Int32) => sp_bnd (y1 + (1 : Int32)) (fun v13 => rec2 (v13, c11))) (fun k12 => if v10 = (-9 : Int32) then (k12 c9) else (sp_ld le 288 v8 (fun v14 => sp_ld c9 24 v14 (fun v15 => sp_ld ri 288 v8 (fun v16 => sp_ld c9 24 v16 (fun v17 => sp_bnd (fun (x18 : Int32) => sp_st c9 24 y1 ((1 : Int32) + x18) (fun c20 => k12 c20)) (fun k19 => if v15 ≤ v17 then (k19 v17) else (k19 v15)))))))))))))) := rfl
def f_X10_deep (p1 : Int32) (mn : Nat → Int32) (le : Nat → Int32) (ri : Nat → Int32) (lt : Nat → Int32) (de : Nat → Int32) : Option (Int32 × (Nat → Int32)) := sp_bnd (fun (c3 : Nat → Int32) => sp_ld mn 12 p1 (fun v5 => sp_ld c3 24 (v5 - (1 : Int32)) (fun v6 => some (v6, c3)))) (fun k4 => sp_lp (f_X10_deep_L2 mn p1 k4 lt le ri) sp_F ((0 : Int32), de))
def rmX10_deep : Room := { frames := 0, cells := 0, slots := 0, locals := 0 }
set_option maxRecDepth 4000 in
theorem c_X10_deep {l : Launch} {D : va_G} {q5 : Nat → ClassId} (a : Nat → Nat) (fa : Int32) (tr : Int32) (la : Nat → Int32) (sl : Nat → Int32) (ce : Nat → Int32) (pn : Int32) (mn : Nat → Int32) (cl : Nat → Int32) (le : Nat → Int32) (ri : Nat → Int32) (lt : Nat → Int32) (nm : Int32) (nc : Nat → Int32) (nl : Nat → Int32) (nr : Nat → Int32) (nt : Nat → Int32) (at9 : Int32) (en9 : Int32) (de : Nat → Int32) (mm : Int32) (ma : Nat → Int32) (ne : Nat → Int32) (us : Nat → Int32) (lk : Nat → Int32) (sd : Nat → Int32) (sf : Nat → Int32) (nu : Nat → Int32) (gt : Nat → Int64) (gl : Nat → Int32) (tb : Nat → Int64) (sc : Nat → Int32) (su : Nat → Int32) (p1 : Int32) {r' : Int32} {de' : Nat → Int32} (hf : f_X10_deep p1 mn le ri lt de = some (r', de')) : sp_Ci l yX10_deep wsX10_deep rmX10_deep D q5 0 [.ref (a 0), .int p1] (sw_M a q5 fa tr la sl ce pn mn cl le ri lt nm nc nl nr nt at9 en9 de mm ma ne us lk sd sf nu gt gl tb sc su) r' (sw_M a q5 fa tr la sl ce pn mn cl le ri lt nm nc nl nr nt at9 en9 de' mm ma ne us lk sd sf nu gt gl tb sc su) := by
  intro sz
  refine sp_of (cc := cX10_deep) (maxL := 6) (ret := some .int) (own := RX10) (Qc := sp_Qi D r' (sw_M a q5 fa tr la sl ce pn mn cl le ri lt nm nc nl nr nt at9 en9 de' mm ma ne us lk sd sf nu gt gl tb sc su)) (by decide) rfl rfl (Nat.le_of_ble_eq_true rfl) ?_
  intro p e s m args below meth c A ls Q hQ S hr hlk hK hG hA hW hl
  have hx := S.1
  have hb := S.2.1
  unfold f_X10_deep at hf
  have inX10 : ∀ w ∈ u_ws RX10 TX10 32, w ∈ wsX10_deep := (fun _ h => List.mem_cons_of_mem _ (List.mem_append_right _ h))
  have lk1 := S.2.2.2.2 (Cond.fieldLink RX10 46 "ShortProofsModel" "depths" "[I") (List.mem_of_getElem? (i := 2) rfl)
  have lk2 := S.2.2.2.2 (Cond.fieldLink RX10 19 "ShortProofsModel" "many" "[I") (List.mem_of_getElem? (i := 1) rfl)
  have lk3 := S.2.2.2.2 (Cond.fieldLink RX10 31 "ShortProofsModel" "letters" "[I") (List.mem_of_getElem? (i := 3) rfl)
  have lk4 := S.2.2.2.2 (Cond.fieldLink RX10 25 "ShortProofsModel" "lefts" "[I") (List.mem_of_getElem? (i := 4) rfl)
  have lk5 := S.2.2.2.2 (Cond.fieldLink RX10 28 "ShortProofsModel" "rights" "[I") (List.mem_of_getElem? (i := 5) rfl)
  refine lv_iconst (v := 0) hx hb dX10_deep_0 (by decide) ?_
  refine lv_istore_n (lv' := [(2, .int (0 : Int32)), (0, .ref (a 0)), (1, .int p1)]) hx hb dX10_deep_1 rfl hl (by decide) rfl (fun ls hl => ?_)
  obtain ⟨k4, ek4, hf⟩ := sp_hb hf
  have hj4 : ∀ (c3 : Nat → Int32) (H : Heap) (locs : List Loc) (ls : Array Slot), k4 c3 = some (r', de') → sp_wd D A s.heap (sw_M a q5 fa tr la sl ce pn mn cl le ri lt nm nc nl nr nt at9 en9 c3 mm ma ne us lk sd sf nu gt gl tb sc su) H locs → lv_has ls 6 [(0, .ref (a 0)), (1, .int p1)] → W p l e rmX10_deep s m args below meth c H locs 0 0 Q (F0 m 91 ls []) := by
    intro c3 H locs ls hf hW hl
    rw [ek4] at hf
    refine lv_aload_n hx hb dX10_deep_91 rfl (lv_at hl 0 rfl) ?_
    refine sp_get S hK hW inX10 0 rfl rfl 18 (by decide) lk1 rfl dX10_deep_92 ?_
    refine lv_aload_n hx hb dX10_deep_95 rfl (lv_at hl 0 rfl) ?_
    refine sp_get S hK hW inX10 0 rfl rfl 6 (by decide) lk2 rfl dX10_deep_96 ?_
    refine lv_iload_n hx hb dX10_deep_99 rfl (lv_at hl 1 rfl) ?_
    obtain ⟨hin, v5, ev5, hf⟩ := sp_hld hf
    refine sp_iald S hK hW 4 rfl hin ev5 dX10_deep_100 ?_
    refine lv_iconst (v := 1) hx hb dX10_deep_101 (by decide) ?_
    refine lv_isub hx hb dX10_deep_102 ?_
    obtain ⟨hin, v6, ev6, hf⟩ := sp_hld hf
    refine sp_iald S hK hW 13 rfl hin ev6 dX10_deep_103 ?_
    have q0 := Option.some.inj hf
    obtain ⟨q1, z1⟩ := Prod.mk.inj q0
    subst q1
    subst z1
    exact sp_iret S hr hlk hW hQ dX10_deep_104
  have hlp2 : ∀ (n9 : Nat) (y1 : Int32) (c2 : Nat → Int32) (H : Heap) (locs : List Loc) (ls : Array Slot), sp_lp (f_X10_deep_L2 mn p1 k4 lt le ri) n9 (y1, c2) = some (r', de') → sp_wd D A s.heap (sw_M a q5 fa tr la sl ce pn mn cl le ri lt nm nc nl nr nt at9 en9 c2 mm ma ne us lk sd sf nu gt gl tb sc su) H locs → lv_has ls 6 [(0, .ref (a 0)), (1, .int p1), (2, .int y1)] → W p l e rmX10_deep s m args below meth c H locs 0 0 Q (F0 m 2 ls []) := by
    intro n9
    induction n9 with
    | zero =>
      intro y1 c2 H locs ls hf hW hl
      exact (sp_lp0 hf).elim
    | succ n9 ih2 =>
      intro y1 c2 H locs ls hf hW hl
      have hf := sp_lpS hf
      rw [f_X10_deep_L2_eq] at hf
      refine lv_iload_n hx hb dX10_deep_2 rfl (lv_at hl 2 rfl) ?_
      refine lv_aload_n hx hb dX10_deep_3 rfl (lv_at hl 0 rfl) ?_
      refine sp_get S hK hW inX10 0 rfl rfl 6 (by decide) lk2 rfl dX10_deep_4 ?_
      refine lv_iload_n hx hb dX10_deep_7 rfl (lv_at hl 1 rfl) ?_
      obtain ⟨hin, v7, ev7, hf⟩ := sp_hld hf
      refine sp_iald S hK hW 4 rfl hin ev7 dX10_deep_8 ?_
      refine lv_icmp_ge (tgt := 91) hx hb dX10_deep_9 (by decide) (fun hc => ?_) (fun hc => ?_)
      · have hf := sp_ht hf hc
        exact hj4 _ _ _ _ hf hW (lv_sub hl [0, 1] rfl)
      · have hf := sp_hf hf hc
        refine lv_bipush (v := 24) hx hb dX10_deep_12 (by decide) ?_
        refine lv_iload_n hx hb dX10_deep_14 rfl (lv_at hl 1 rfl) ?_
        refine lv_imul hx hb dX10_deep_15 ?_
        refine lv_iload_n hx hb dX10_deep_16 rfl (lv_at hl 2 rfl) ?_
        refine lv_iadd hx hb dX10_deep_17 ?_
        obtain ⟨v8, ev8, hf⟩ := sp_hb hf
        refine sp_topi ev8 ?_
        refine lv_istore_n (lv' := [(3, .int v8), (0, .ref (a 0)), (1, .int p1), (2, .int y1)]) hx hb dX10_deep_18 rfl hl (by decide) rfl (fun ls hl => ?_)
        refine lv_aload_n hx hb dX10_deep_19 rfl (lv_at hl 1 rfl) ?_
        refine sp_get S hK hW inX10 0 rfl rfl 18 (by decide) lk1 rfl dX10_deep_20 ?_
        refine lv_iload_n hx hb dX10_deep_23 rfl (lv_at hl 3 rfl) ?_
        refine lv_iconst (v := 0) hx hb dX10_deep_24 (by decide) ?_
        obtain ⟨hin, c9, ec9, hf⟩ := sp_hst hf
        refine sp_iast S hK hW 13 rfl hin ec9 (ws' := sw_M a q5 fa tr la sl ce pn mn cl le ri lt nm nc nl nr nt at9 en9 c9 mm ma ne us lk sd sf nu gt gl tb sc su) rfl dX10_deep_25 (fun H locs hW => ?_)
        refine lv_aload_n hx hb dX10_deep_26 rfl (lv_at hl 1 rfl) ?_
        refine sp_get S hK hW inX10 0 rfl rfl 10 (by decide) lk3 rfl dX10_deep_27 ?_
        refine lv_iload_n hx hb dX10_deep_30 rfl (lv_at hl 0 rfl) ?_
        obtain ⟨hin, v10, ev10, hf⟩ := sp_hld hf
        refine sp_iald S hK hW 8 rfl hin ev10 dX10_deep_31 ?_
        refine lv_bipush (v := (-9)) hx hb dX10_deep_32 (by decide) ?_
        obtain ⟨k12, ek12, hf⟩ := sp_hb hf
        have hj12 : ∀ (c11 : Nat → Int32) (H : Heap) (locs : List Loc) (ls : Array Slot), k12 c11 = some (r', de') → sp_wd D A s.heap (sw_M a q5 fa tr la sl ce pn mn cl le ri lt nm nc nl nr nt at9 en9 c11 mm ma ne us lk sd sf nu gt gl tb sc su) H locs → lv_has ls 6 [(0, .ref (a 0)), (1, .int p1), (2, .int y1)] → W p l e rmX10_deep s m args below meth c H locs 0 0 Q (F0 m 85 ls []) := by
          intro c11 H locs ls hf hW hl
          rw [ek12] at hf
          obtain ⟨v13, ev13, hf⟩ := sp_hb hf
          refine lv_iinc (v := v13) (lv' := [(2, .int v13), (0, .ref (a 0)), (1, .int p1)]) hx hb dX10_deep_85 hl (k := 2) rfl (by rw [ev13]; rfl) (by decide) rfl (fun ls hl => ?_)
          refine lv_goto (tgt := 2) hx hb dX10_deep_88 (by decide) ?_
          exact ih2 _ _ _ _ _ hf hW (lv_sub hl [1, 2, 0] rfl)
        refine lv_icmp_eq (tgt := 85) hx hb dX10_deep_34 (by decide) (fun hc => ?_) (fun hc => ?_)
        · have hf := sp_ht hf hc
          exact hj12 _ _ _ _ hf hW (lv_sub hl [1, 2, 3] rfl)
        · have hf := sp_hf hf hc
          refine lv_aload_n hx hb dX10_deep_37 rfl (lv_at hl 1 rfl) ?_
          refine sp_get S hK hW inX10 0 rfl rfl 18 (by decide) lk1 rfl dX10_deep_38 ?_
          refine lv_aload_n hx hb dX10_deep_41 rfl (lv_at hl 1 rfl) ?_
          refine sp_get S hK hW inX10 0 rfl rfl 8 (by decide) lk4 rfl dX10_deep_42 ?_
          refine lv_iload_n hx hb dX10_deep_45 rfl (lv_at hl 0 rfl) ?_
          obtain ⟨hin, v14, ev14, hf⟩ := sp_hld hf
          refine sp_iald S hK hW 6 rfl hin ev14 dX10_deep_46 ?_
          obtain ⟨hin, v15, ev15, hf⟩ := sp_hld hf
          refine sp_iald S hK hW 13 rfl hin ev15 dX10_deep_47 ?_
          refine lv_istore (lv' := [(4, .int v15), (3, .int v8), (0, .ref (a 0)), (1, .int p1), (2, .int y1)]) hx hb dX10_deep_48 hl (by decide) rfl (fun ls hl => ?_)
          refine lv_aload_n hx hb dX10_deep_50 rfl (lv_at hl 2 rfl) ?_
          refine sp_get S hK hW inX10 0 rfl rfl 18 (by decide) lk1 rfl dX10_deep_51 ?_
          refine lv_aload_n hx hb dX10_deep_54 rfl (lv_at hl 2 rfl) ?_
          refine sp_get S hK hW inX10 0 rfl rfl 9 (by decide) lk5 rfl dX10_deep_55 ?_
          refine lv_iload_n hx hb dX10_deep_58 rfl (lv_at hl 1 rfl) ?_
          obtain ⟨hin, v16, ev16, hf⟩ := sp_hld hf
          refine sp_iald S hK hW 7 rfl hin ev16 dX10_deep_59 ?_
          obtain ⟨hin, v17, ev17, hf⟩ := sp_hld hf
          refine sp_iald S hK hW 13 rfl hin ev17 dX10_deep_60 ?_
          refine lv_istore (lv' := [(5, .int v17), (4, .int v15), (3, .int v8), (0, .ref (a 0)), (1, .int p1), (2, .int y1)]) hx hb dX10_deep_61 hl (by decide) rfl (fun ls hl => ?_)
          refine lv_aload_n hx hb dX10_deep_63 rfl (lv_at hl 3 rfl) ?_
          refine sp_get S hK hW inX10 0 rfl rfl 18 (by decide) lk1 rfl dX10_deep_64 ?_
          refine lv_iload_n hx hb dX10_deep_67 rfl (lv_at hl 5 rfl) ?_
          refine lv_iconst (v := 1) hx hb dX10_deep_68 (by decide) ?_
          refine lv_iload hx hb dX10_deep_69 (lv_at hl 1 rfl) ?_
          refine lv_iload hx hb dX10_deep_71 (lv_at hl 0 rfl) ?_
          obtain ⟨k19, ek19, hf⟩ := sp_hb hf
          have hj19 : ∀ (x18 : Int32) (H : Heap) (locs : List Loc) (ls : Array Slot), k19 x18 = some (r', de') → sp_wd D A s.heap (sw_M a q5 fa tr la sl ce pn mn cl le ri lt nm nc nl nr nt at9 en9 c9 mm ma ne us lk sd sf nu gt gl tb sc su) H locs → lv_has ls 6 [(0, .ref (a 0)), (1, .int p1), (2, .int y1)] → W p l e rmX10_deep s m args below meth c H locs 0 0 Q (F0 m 83 ls [.int x18, .int (1 : Int32), .int y1, .ref (a 13)]) := by
            intro x18 H locs ls hf hW hl
            rw [ek19] at hf
            refine lv_iadd hx hb dX10_deep_83 ?_
            obtain ⟨hin, c20, ec20, hf⟩ := sp_hst hf
            refine sp_iast S hK hW 13 rfl hin ec20 (ws' := sw_M a q5 fa tr la sl ce pn mn cl le ri lt nm nc nl nr nt at9 en9 c20 mm ma ne us lk sd sf nu gt gl tb sc su) rfl dX10_deep_84 (fun H locs hW => ?_)
            exact hj12 _ _ _ _ hf hW (lv_sub hl [0, 1, 2] rfl)
          refine lv_icmp_le (tgt := 81) hx hb dX10_deep_73 (by decide) (fun hc => ?_) (fun hc => ?_)
          · have hf := sp_ht hf hc
            refine lv_iload hx hb dX10_deep_81 (lv_at hl 0 rfl) ?_
            exact hj19 _ _ _ _ hf hW (lv_sub hl [3, 4, 5] rfl)
          · have hf := sp_hf hf hc
            refine lv_iload hx hb dX10_deep_76 (lv_at hl 1 rfl) ?_
            refine lv_goto (tgt := 83) hx hb dX10_deep_78 (by decide) ?_
            exact hj19 _ _ _ _ hf hW (lv_sub hl [3, 4, 5] rfl)
  exact hlp2 _ _ _ _ _ _ hf hW (lv_sub hl [1, 2, 0] rfl)
