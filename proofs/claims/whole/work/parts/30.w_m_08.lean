def f_X10_leastCore_L5 (p1 : Int32) (k4 : Int32 → Option (Int32)) (gt : Nat → Int64) (rec5 : (Int32 × Int32) → Option (Int32)) (s9 : Int32 × Int32) : Option (Int32) := match s9 with
  | (y1, y2) => if ((1 : Int32) <<< (p1 &&& 31)) ≤ y2 then (k4 y1) else (sp_bnd (fun (x5 : Int32) => sp_bnd (y2 + (1 : Int32)) (fun v7 => rec5 (x5, v7))) (fun k6 => if y1 = (-9 : Int32) then (Option.bind (f_X10_allTrue y2 p1 gt) (fun r8 => if (lg_cmp r8 (0 : Int64)) = 0 then (k6 y2) else (k6 y1))) else (Option.bind (f_X10_bitsOf y2) (fun r9 => Option.bind (f_X10_bitsOf y1) (fun r10 => if r10 ≤ r9 then (k6 y1) else (Option.bind (f_X10_allTrue y2 p1 gt) (fun r11 => if (lg_cmp r11 (0 : Int64)) = 0 then (k6 y2) else (k6 y1))))))))
theorem f_X10_leastCore_L5_eq {rec5 : (Int32 × Int32) → Option (Int32)} {p1 : Int32} {k4 : Int32 → Option (Int32)} {gt : Nat → Int64} {y1 : Int32} {y2 : Int32} : f_X10_leastCore_L5 p1 k4 gt rec5 (y1, y2) = (if ((1 : Int32) <<< (p1 &&& 31)) ≤ y2 then (k4 y1) else (sp_bnd (fun (x5 : Int32) => sp_bnd (y2 + (1 : Int32)) (fun v7 => rec5 (x5, v7))) (fun k6 => if y1 = (-9 : Int32) then (Option.bind (f_X10_allTrue y2 p1 gt) (fun r8 => if (lg_cmp r8 (0 : Int64)) = 0 then (k6 y2) else (k6 y1))) else (Option.bind (f_X10_bitsOf y2) (fun r9 => Option.bind (f_X10_bitsOf y1) (fun r10 => if r10 ≤ r9 then (k6 y1) else (Option.bind (f_X10_allTrue y2 p1 gt) (fun r11 => if (lg_cmp r11 (0 : Int64)) = 0 then (k6 y2) else (k6 y1))))))))) := rfl
def f_X10_leastCore (p1 : Int32) (gt : Nat → Int64) : Option (Int32) := sp_bnd (fun (x3 : Int32) => some x3) (fun k4 => sp_lp (f_X10_leastCore_L5 p1 k4 gt) sp_F ((-9 : Int32), (0 : Int32)))
def rmX10_leastCore : Room := { frames := 1, cells := 0, slots := 0, locals := 25 }
set_option maxRecDepth 4000 in
theorem c_X10_leastCore {l : Launch} {D : va_G} {q5 : Nat → ClassId} (a : Nat → Nat) (fa : Int32) (tr : Int32) (la : Nat → Int32) (sl : Nat → Int32) (ce : Nat → Int32) (pn : Int32) (mn : Nat → Int32) (cl : Nat → Int32) (le : Nat → Int32) (ri : Nat → Int32) (lt : Nat → Int32) (nm : Int32) (nc : Nat → Int32) (nl : Nat → Int32) (nr : Nat → Int32) (nt : Nat → Int32) (at9 : Int32) (en9 : Int32) (de : Nat → Int32) (mm : Int32) (ma : Nat → Int32) (ne : Nat → Int32) (us : Nat → Int32) (lk : Nat → Int32) (sd : Nat → Int32) (sf : Nat → Int32) (nu : Nat → Int32) (gt : Nat → Int64) (gl : Nat → Int32) (tb : Nat → Int64) (sc : Nat → Int32) (su : Nat → Int32) (p1 : Int32) {r' : Int32} (hf : f_X10_leastCore p1 gt = some r') : sp_Ci l yX10_leastCore wsX10_leastCore rmX10_leastCore D q5 0 [.ref (a 0), .int p1] (sw_M a q5 fa tr la sl ce pn mn cl le ri lt nm nc nl nr nt at9 en9 de mm ma ne us lk sd sf nu gt gl tb sc su) r' (sw_M a q5 fa tr la sl ce pn mn cl le ri lt nm nc nl nr nt at9 en9 de mm ma ne us lk sd sf nu gt gl tb sc su) := by
  intro sz
  refine sp_of (cc := cX10_leastCore) (maxL := 4) (ret := some .int) (own := RX10) (Qc := sp_Qi D r' (sw_M a q5 fa tr la sl ce pn mn cl le ri lt nm nc nl nr nt at9 en9 de mm ma ne us lk sd sf nu gt gl tb sc su)) (by decide) rfl rfl (Nat.le_of_ble_eq_true rfl) ?_
  intro p e s m args below meth c A ls Q hQ S hr hlk hK hG hA hW hl
  have hx := S.1
  have hb := S.2.1
  unfold f_X10_leastCore at hf
  refine lv_bipush (v := (-9)) hx hb dX10_leastCore_0 (by decide) ?_
  refine lv_istore_n (lv' := [(2, .int (-9 : Int32)), (0, .ref (a 0)), (1, .int p1)]) hx hb dX10_leastCore_2 rfl hl (by decide) rfl (fun ls hl => ?_)
  refine lv_iconst (v := 0) hx hb dX10_leastCore_3 (by decide) ?_
  refine lv_istore_n (lv' := [(3, .int (0 : Int32)), (2, .int (-9 : Int32)), (0, .ref (a 0)), (1, .int p1)]) hx hb dX10_leastCore_4 rfl hl (by decide) rfl (fun ls hl => ?_)
  obtain ⟨k4, ek4, hf⟩ := sp_hb hf
  have hj4 : ∀ (x3 : Int32) (H : Heap) (locs : List Loc) (ls : Array Slot), k4 x3 = some r' → sp_wd D A s.heap (sw_M a q5 fa tr la sl ce pn mn cl le ri lt nm nc nl nr nt at9 en9 de mm ma ne us lk sd sf nu gt gl tb sc su) H locs → lv_has ls 4 [(2, .int x3)] → W p l e rmX10_leastCore s m args below meth c H locs 0 0 Q (F0 m 48 ls []) := by
    intro x3 H locs ls hf hW hl
    rw [ek4] at hf
    refine lv_iload_n hx hb dX10_leastCore_48 rfl (lv_at hl 0 rfl) ?_
    have q0 := Option.some.inj hf
    subst q0
    exact sp_iret S hr hlk hW hQ dX10_leastCore_49
  have hlp5 : ∀ (n9 : Nat) (y1 : Int32) (y2 : Int32) (H : Heap) (locs : List Loc) (ls : Array Slot), sp_lp (f_X10_leastCore_L5 p1 k4 gt) n9 (y1, y2) = some r' → sp_wd D A s.heap (sw_M a q5 fa tr la sl ce pn mn cl le ri lt nm nc nl nr nt at9 en9 de mm ma ne us lk sd sf nu gt gl tb sc su) H locs → lv_has ls 4 [(0, .ref (a 0)), (1, .int p1), (2, .int y1), (3, .int y2)] → W p l e rmX10_leastCore s m args below meth c H locs 0 0 Q (F0 m 5 ls []) := by
    intro n9
    induction n9 with
    | zero =>
      intro y1 y2 H locs ls hf hW hl
      exact (sp_lp0 hf).elim
    | succ n9 ih5 =>
      intro y1 y2 H locs ls hf hW hl
      have hf := sp_lpS hf
      rw [f_X10_leastCore_L5_eq] at hf
      refine lv_iload_n hx hb dX10_leastCore_5 rfl (lv_at hl 3 rfl) ?_
      refine lv_iconst (v := 1) hx hb dX10_leastCore_6 (by decide) ?_
      refine lv_iload_n hx hb dX10_leastCore_7 rfl (lv_at hl 1 rfl) ?_
      refine lv_ishl hx hb dX10_leastCore_8 ?_
      refine lv_icmp_ge (tgt := 48) hx hb dX10_leastCore_9 (by decide) (fun hc => ?_) (fun hc => ?_)
      · have hf := sp_ht hf hc
        exact hj4 _ _ _ _ hf hW (lv_sub hl [2] rfl)
      · have hf := sp_hf hf hc
        refine lv_iload_n hx hb dX10_leastCore_12 rfl (lv_at hl 2 rfl) ?_
        refine lv_bipush (v := (-9)) hx hb dX10_leastCore_13 (by decide) ?_
        obtain ⟨k6, ek6, hf⟩ := sp_hb hf
        have hj6 : ∀ (x5 : Int32) (H : Heap) (locs : List Loc) (ls : Array Slot), k6 x5 = some r' → sp_wd D A s.heap (sw_M a q5 fa tr la sl ce pn mn cl le ri lt nm nc nl nr nt at9 en9 de mm ma ne us lk sd sf nu gt gl tb sc su) H locs → lv_has ls 4 [(0, .ref (a 0)), (1, .int p1), (2, .int x5), (3, .int y2)] → W p l e rmX10_leastCore s m args below meth c H locs 0 0 Q (F0 m 42 ls []) := by
          intro x5 H locs ls hf hW hl
          rw [ek6] at hf
          obtain ⟨v7, ev7, hf⟩ := sp_hb hf
          refine lv_iinc (v := v7) (lv' := [(3, .int v7), (0, .ref (a 0)), (1, .int p1), (2, .int x5)]) hx hb dX10_leastCore_42 hl (k := 3) rfl (by rw [ev7]; rfl) (by decide) rfl (fun ls hl => ?_)
          refine lv_goto (tgt := 5) hx hb dX10_leastCore_45 (by decide) ?_
          exact ih5 _ _ _ _ _ hf hW (lv_sub hl [1, 2, 3, 0] rfl)
        refine lv_icmp_eq (tgt := 29) hx hb dX10_leastCore_15 (by decide) (fun hc => ?_) (fun hc => ?_)
        · have hf := sp_ht hf hc
          refine lv_aload_n hx hb dX10_leastCore_29 rfl (lv_at hl 0 rfl) ?_
          refine lv_iload_n hx hb dX10_leastCore_30 rfl (lv_at hl 3 rfl) ?_
          refine lv_iload_n hx hb dX10_leastCore_31 rfl (lv_at hl 1 rfl) ?_
          obtain ⟨r8, hc8, hf⟩ := sp_hc hf
          refine sp_callVlP (rest := []) S hK hG hA hW (c_X10_allTrue a fa tr la sl ce pn mn cl le ri lt nm nc nl nr nt at9 en9 de mm ma ne us lk sd sf nu gt gl tb sc su y2 p1 hc8) (by decide) (cwV 2 S.2.2.2.2 gX10_leastCore_X10_allTrue rfl rfl rfl (by decide +kernel) (by decide)) 8 0 rfl rfl (sp_pn _) rfl (WS' := sw_M a q5 fa tr la sl ce pn mn cl le ri lt nm nc nl nr nt at9 en9 de mm ma ne us lk sd sf nu gt gl tb sc su) (sp_pn' _) rfl hl.1 (Nat.le_of_ble_eq_true rfl) dX10_leastCore_32 ⟨Nat.zero_le _, Nat.zero_le _⟩ rfl (fun H locs hW => ?_)
          refine lv_lconst (v := 0) hx hb dX10_leastCore_35 (by decide) ?_
          refine W.lcmp hx hb dX10_leastCore_36 ?_
          refine lv_if_ne (tgt := 42) hx hb dX10_leastCore_37 (by decide) (fun hc => ?_) (fun hc => ?_)
          · have hf := sp_hf hf hc
            exact hj6 _ _ _ _ hf hW (lv_sub hl [0, 1, 2, 3] rfl)
          · have hf := sp_ht hf hc
            refine lv_iload_n hx hb dX10_leastCore_40 rfl (lv_at hl 3 rfl) ?_
            refine lv_istore_n (lv' := [(2, .int y2), (0, .ref (a 0)), (1, .int p1), (3, .int y2)]) hx hb dX10_leastCore_41 rfl hl (by decide) rfl (fun ls hl => ?_)
            exact hj6 _ _ _ _ hf hW (lv_sub hl [1, 2, 0, 3] rfl)
        · have hf := sp_hf hf hc
          refine lv_iload_n hx hb dX10_leastCore_18 rfl (lv_at hl 3 rfl) ?_
          obtain ⟨r9, hc9, hf⟩ := sp_hc hf
          refine sp_callSi (rest := []) S hK hG hA hW (c_X10_bitsOf y2 hc9) (by decide) (va_cwS 1 S.2.2.2.2 gX10_leastCore_X10_bitsOf rfl rfl rfl (by decide +kernel) (by decide)) (isC := []) rfl rfl rfl (WS' := sw_M a q5 fa tr la sl ce pn mn cl le ri lt nm nc nl nr nt at9 en9 de mm ma ne us lk sd sf nu gt gl tb sc su) rfl rfl hl.1 (Nat.le_of_ble_eq_true rfl) dX10_leastCore_19 ⟨Nat.zero_le _, Nat.zero_le _⟩ rfl (fun H locs hW => ?_)
          refine lv_iload_n hx hb dX10_leastCore_22 rfl (lv_at hl 2 rfl) ?_
          obtain ⟨r10, hc10, hf⟩ := sp_hc hf
          refine sp_callSi (rest := [.int r9]) S hK hG hA hW (c_X10_bitsOf y1 hc10) (by decide) (va_cwS 1 S.2.2.2.2 gX10_leastCore_X10_bitsOf rfl rfl rfl (by decide +kernel) (by decide)) (isC := []) rfl rfl rfl (WS' := sw_M a q5 fa tr la sl ce pn mn cl le ri lt nm nc nl nr nt at9 en9 de mm ma ne us lk sd sf nu gt gl tb sc su) rfl rfl hl.1 (Nat.le_of_ble_eq_true rfl) dX10_leastCore_23 ⟨Nat.zero_le _, Nat.zero_le _⟩ rfl (fun H locs hW => ?_)
          refine lv_icmp_ge (tgt := 42) hx hb dX10_leastCore_26 (by decide) (fun hc => ?_) (fun hc => ?_)
          · have hf := sp_ht hf hc
            exact hj6 _ _ _ _ hf hW (lv_sub hl [0, 1, 2, 3] rfl)
          · have hf := sp_hf hf hc
            refine lv_aload_n hx hb dX10_leastCore_29 rfl (lv_at hl 0 rfl) ?_
            refine lv_iload_n hx hb dX10_leastCore_30 rfl (lv_at hl 3 rfl) ?_
            refine lv_iload_n hx hb dX10_leastCore_31 rfl (lv_at hl 1 rfl) ?_
            obtain ⟨r11, hc11, hf⟩ := sp_hc hf
            refine sp_callVlP (rest := []) S hK hG hA hW (c_X10_allTrue a fa tr la sl ce pn mn cl le ri lt nm nc nl nr nt at9 en9 de mm ma ne us lk sd sf nu gt gl tb sc su y2 p1 hc11) (by decide) (cwV 2 S.2.2.2.2 gX10_leastCore_X10_allTrue rfl rfl rfl (by decide +kernel) (by decide)) 8 0 rfl rfl (sp_pn _) rfl (WS' := sw_M a q5 fa tr la sl ce pn mn cl le ri lt nm nc nl nr nt at9 en9 de mm ma ne us lk sd sf nu gt gl tb sc su) (sp_pn' _) rfl hl.1 (Nat.le_of_ble_eq_true rfl) dX10_leastCore_32 ⟨Nat.zero_le _, Nat.zero_le _⟩ rfl (fun H locs hW => ?_)
            refine lv_lconst (v := 0) hx hb dX10_leastCore_35 (by decide) ?_
            refine W.lcmp hx hb dX10_leastCore_36 ?_
            refine lv_if_ne (tgt := 42) hx hb dX10_leastCore_37 (by decide) (fun hc => ?_) (fun hc => ?_)
            · have hf := sp_hf hf hc
              exact hj6 _ _ _ _ hf hW (lv_sub hl [0, 1, 2, 3] rfl)
            · have hf := sp_ht hf hc
              refine lv_iload_n hx hb dX10_leastCore_40 rfl (lv_at hl 3 rfl) ?_
              refine lv_istore_n (lv' := [(2, .int y2), (0, .ref (a 0)), (1, .int p1), (3, .int y2)]) hx hb dX10_leastCore_41 rfl hl (by decide) rfl (fun ls hl => ?_)
              exact hj6 _ _ _ _ hf hW (lv_sub hl [1, 2, 0, 3] rfl)
  exact hlp5 _ _ _ _ _ _ hf hW (lv_sub hl [2, 3, 1, 0] rfl)

def f_X10_manyBare_L4 (p1 : Int32) (k4 : Int32 → Option (Int32)) (gt : Nat → Int64) (rec4 : (Int32 × Int32) → Option (Int32)) (s9 : Int32 × Int32) : Option (Int32) := match s9 with
  | (y1, y2) => if ((1 : Int32) <<< (p1 &&& 31)) ≤ y2 then (k4 y1) else (Option.bind (f_X10_isBare y2 p1 gt) (fun r5 => sp_bnd (fun (x6 : Int32) => sp_bnd (y1 + x6) (fun v8 => sp_bnd (y2 + (1 : Int32)) (fun v9 => rec4 (v8, v9)))) (fun k7 => if r5 = 0 then (k7 (0 : Int32)) else (k7 (1 : Int32)))))
theorem f_X10_manyBare_L4_eq {rec4 : (Int32 × Int32) → Option (Int32)} {p1 : Int32} {k4 : Int32 → Option (Int32)} {gt : Nat → Int64} {y1 : Int32} {y2 : Int32} : f_X10_manyBare_L4 p1 k4 gt rec4 (y1, y2) = (if ((1 : Int32) <<< (p1 &&& 31)) ≤ y2 then (k4 y1) else (Option.bind (f_X10_isBare y2 p1 gt) (fun r5 => sp_bnd (fun (x6 : Int32) => sp_bnd (y1 + x6) (fun v8 => sp_bnd (y2 + (1 : Int32)) (fun v9 => rec4 (v8, v9)))) (fun k7 => if r5 = 0 then (k7 (0 : Int32)) else (k7 (1 : Int32)))))) := rfl
def f_X10_manyBare (p1 : Int32) (gt : Nat → Int64) : Option (Int32) := sp_bnd (fun (x3 : Int32) => some x3) (fun k4 => sp_lp (f_X10_manyBare_L4 p1 k4 gt) sp_F ((0 : Int32), (0 : Int32)))
def rmX10_manyBare : Room := { frames := 2, cells := 0, slots := 0, locals := 48 }
set_option maxRecDepth 4000 in
theorem c_X10_manyBare {l : Launch} {D : va_G} {q5 : Nat → ClassId} (a : Nat → Nat) (fa : Int32) (tr : Int32) (la : Nat → Int32) (sl : Nat → Int32) (ce : Nat → Int32) (pn : Int32) (mn : Nat → Int32) (cl : Nat → Int32) (le : Nat → Int32) (ri : Nat → Int32) (lt : Nat → Int32) (nm : Int32) (nc : Nat → Int32) (nl : Nat → Int32) (nr : Nat → Int32) (nt : Nat → Int32) (at9 : Int32) (en9 : Int32) (de : Nat → Int32) (mm : Int32) (ma : Nat → Int32) (ne : Nat → Int32) (us : Nat → Int32) (lk : Nat → Int32) (sd : Nat → Int32) (sf : Nat → Int32) (nu : Nat → Int32) (gt : Nat → Int64) (gl : Nat → Int32) (tb : Nat → Int64) (sc : Nat → Int32) (su : Nat → Int32) (p1 : Int32) {r' : Int32} (hf : f_X10_manyBare p1 gt = some r') : sp_Ci l yX10_manyBare wsX10_manyBare rmX10_manyBare D q5 0 [.ref (a 0), .int p1] (sw_M a q5 fa tr la sl ce pn mn cl le ri lt nm nc nl nr nt at9 en9 de mm ma ne us lk sd sf nu gt gl tb sc su) r' (sw_M a q5 fa tr la sl ce pn mn cl le ri lt nm nc nl nr nt at9 en9 de mm ma ne us lk sd sf nu gt gl tb sc su) := by
  intro sz
  refine sp_of (cc := cX10_manyBare) (maxL := 4) (ret := some .int) (own := RX10) (Qc := sp_Qi D r' (sw_M a q5 fa tr la sl ce pn mn cl le ri lt nm nc nl nr nt at9 en9 de mm ma ne us lk sd sf nu gt gl tb sc su)) (by decide) rfl rfl (Nat.le_of_ble_eq_true rfl) ?_
  intro p e s m args below meth c A ls Q hQ S hr hlk hK hG hA hW hl
  have hx := S.1
  have hb := S.2.1
  unfold f_X10_manyBare at hf
  refine lv_iconst (v := 0) hx hb dX10_manyBare_0 (by decide) ?_
  refine lv_istore_n (lv' := [(2, .int (0 : Int32)), (0, .ref (a 0)), (1, .int p1)]) hx hb dX10_manyBare_1 rfl hl (by decide) rfl (fun ls hl => ?_)
  refine lv_iconst (v := 0) hx hb dX10_manyBare_2 (by decide) ?_
  refine lv_istore_n (lv' := [(3, .int (0 : Int32)), (2, .int (0 : Int32)), (0, .ref (a 0)), (1, .int p1)]) hx hb dX10_manyBare_3 rfl hl (by decide) rfl (fun ls hl => ?_)
  obtain ⟨k4, ek4, hf⟩ := sp_hb hf
  have hj4 : ∀ (x3 : Int32) (H : Heap) (locs : List Loc) (ls : Array Slot), k4 x3 = some r' → sp_wd D A s.heap (sw_M a q5 fa tr la sl ce pn mn cl le ri lt nm nc nl nr nt at9 en9 de mm ma ne us lk sd sf nu gt gl tb sc su) H locs → lv_has ls 4 [(2, .int x3)] → W p l e rmX10_manyBare s m args below meth c H locs 0 0 Q (F0 m 34 ls []) := by
    intro x3 H locs ls hf hW hl
    rw [ek4] at hf
    refine lv_iload_n hx hb dX10_manyBare_34 rfl (lv_at hl 0 rfl) ?_
    have q0 := Option.some.inj hf
    subst q0
    exact sp_iret S hr hlk hW hQ dX10_manyBare_35
  have hlp4 : ∀ (n9 : Nat) (y1 : Int32) (y2 : Int32) (H : Heap) (locs : List Loc) (ls : Array Slot), sp_lp (f_X10_manyBare_L4 p1 k4 gt) n9 (y1, y2) = some r' → sp_wd D A s.heap (sw_M a q5 fa tr la sl ce pn mn cl le ri lt nm nc nl nr nt at9 en9 de mm ma ne us lk sd sf nu gt gl tb sc su) H locs → lv_has ls 4 [(0, .ref (a 0)), (1, .int p1), (2, .int y1), (3, .int y2)] → W p l e rmX10_manyBare s m args below meth c H locs 0 0 Q (F0 m 4 ls []) := by
    intro n9
    induction n9 with
    | zero =>
      intro y1 y2 H locs ls hf hW hl
      exact (sp_lp0 hf).elim
    | succ n9 ih4 =>
      intro y1 y2 H locs ls hf hW hl
      have hf := sp_lpS hf
      rw [f_X10_manyBare_L4_eq] at hf
      refine lv_iload_n hx hb dX10_manyBare_4 rfl (lv_at hl 3 rfl) ?_
      refine lv_iconst (v := 1) hx hb dX10_manyBare_5 (by decide) ?_
      refine lv_iload_n hx hb dX10_manyBare_6 rfl (lv_at hl 1 rfl) ?_
      refine lv_ishl hx hb dX10_manyBare_7 ?_
      refine lv_icmp_ge (tgt := 34) hx hb dX10_manyBare_8 (by decide) (fun hc => ?_) (fun hc => ?_)
      · have hf := sp_ht hf hc
        exact hj4 _ _ _ _ hf hW (lv_sub hl [2] rfl)
      · have hf := sp_hf hf hc
        refine lv_iload_n hx hb dX10_manyBare_11 rfl (lv_at hl 2 rfl) ?_
        refine lv_aload_n hx hb dX10_manyBare_12 rfl (lv_at hl 0 rfl) ?_
        refine lv_iload_n hx hb dX10_manyBare_13 rfl (lv_at hl 3 rfl) ?_
        refine lv_iload_n hx hb dX10_manyBare_14 rfl (lv_at hl 1 rfl) ?_
        obtain ⟨r5, hc5, hf⟩ := sp_hc hf
        refine sp_callViP (rest := [.int y1]) S hK hG hA hW (c_X10_isBare a fa tr la sl ce pn mn cl le ri lt nm nc nl nr nt at9 en9 de mm ma ne us lk sd sf nu gt gl tb sc su y2 p1 hc5) (by decide) (cwV 2 S.2.2.2.2 gX10_manyBare_X10_isBare rfl rfl rfl (by decide +kernel) (by decide)) 8 0 rfl rfl (sp_pn _) rfl (WS' := sw_M a q5 fa tr la sl ce pn mn cl le ri lt nm nc nl nr nt at9 en9 de mm ma ne us lk sd sf nu gt gl tb sc su) (sp_pn' _) rfl hl.1 (Nat.le_of_ble_eq_true rfl) dX10_manyBare_15 ⟨Nat.zero_le _, Nat.zero_le _⟩ rfl (fun H locs hW => ?_)
        obtain ⟨k7, ek7, hf⟩ := sp_hb hf
        have hj7 : ∀ (x6 : Int32) (H : Heap) (locs : List Loc) (ls : Array Slot), k7 x6 = some r' → sp_wd D A s.heap (sw_M a q5 fa tr la sl ce pn mn cl le ri lt nm nc nl nr nt at9 en9 de mm ma ne us lk sd sf nu gt gl tb sc su) H locs → lv_has ls 4 [(0, .ref (a 0)), (1, .int p1), (3, .int y2)] → W p l e rmX10_manyBare s m args below meth c H locs 0 0 Q (F0 m 26 ls [.int x6, .int y1]) := by
          intro x6 H locs ls hf hW hl
          rw [ek7] at hf
          refine lv_iadd hx hb dX10_manyBare_26 ?_
          obtain ⟨v8, ev8, hf⟩ := sp_hb hf
          refine sp_topi ev8 ?_
          refine lv_istore_n (lv' := [(2, .int v8), (0, .ref (a 0)), (1, .int p1), (3, .int y2)]) hx hb dX10_manyBare_27 rfl hl (by decide) rfl (fun ls hl => ?_)
          obtain ⟨v9, ev9, hf⟩ := sp_hb hf
          refine lv_iinc (v := v9) (lv' := [(3, .int v9), (2, .int v8), (0, .ref (a 0)), (1, .int p1)]) hx hb dX10_manyBare_28 hl (k := 3) rfl (by rw [ev9]; rfl) (by decide) rfl (fun ls hl => ?_)
          refine lv_goto (tgt := 4) hx hb dX10_manyBare_31 (by decide) ?_
          exact ih4 _ _ _ _ _ hf hW (lv_sub hl [2, 3, 1, 0] rfl)
        refine lv_if_eq (tgt := 25) hx hb dX10_manyBare_18 (by decide) (fun hc => ?_) (fun hc => ?_)
        · have hf := sp_ht hf hc
          refine lv_iconst (v := 0) hx hb dX10_manyBare_25 (by decide) ?_
          exact hj7 _ _ _ _ hf hW (lv_sub hl [0, 1, 3] rfl)
        · have hf := sp_hf hf hc
          refine lv_iconst (v := 1) hx hb dX10_manyBare_21 (by decide) ?_
          refine lv_goto (tgt := 26) hx hb dX10_manyBare_22 (by decide) ?_
          exact hj7 _ _ _ _ hf hW (lv_sub hl [0, 1, 3] rfl)
  exact hlp4 _ _ _ _ _ _ hf hW (lv_sub hl [2, 3, 1, 0] rfl)

def f_X10_core (p1 : Int32) (p2 : Int32) (p3 : Int32) (pn : Int32) (mn : Nat → Int32) (cl : Nat → Int32) (lt : Nat → Int32) (gt : Nat → Int64) (gl : Nat → Int32) : Option (Int32 × (Nat → Int64) × (Nat → Int32)) := Option.bind (f_X10_isProof p1 pn) (fun r1 => if r1 = 0 then (some ((-1 : Int32), gt, gl)) else (Option.bind (f_X10_groundsOf p1 mn lt) (fun r2 => if r2 ≤ (10 : Int32) then (Option.bind (f_X10_within p2 (0 : Int32) (3 : Int32)) (fun r3 => if r3 = 0 then (some ((-2 : Int32), gt, gl)) else (sp_bnd (Option.bind (f_X10_layGrounds p1 mn cl lt gt gl) (fun q9 => match q9 with | (c5, c6) => if p2 = (0 : Int32) then (Option.bind (f_X10_leastCore r2 c5) (fun r7 => some (r7, c5, c6))) else (if p2 = (1 : Int32) then (Option.bind (f_X10_manyBare r2 c5) (fun r8 => some (r8, c5, c6))) else (if p2 = (2 : Int32) then (Option.bind (f_X10_allTrue p3 r2 c5) (fun r9 => if (lg_cmp r9 (0 : Int64)) = 0 then (some ((1 : Int32), c5, c6)) else (some ((0 : Int32), c5, c6)))) else (Option.bind (f_X10_isBare p3 r2 c5) (fun r10 => if r10 = 0 then (some ((0 : Int32), c5, c6)) else (some ((1 : Int32), c5, c6)))))))) (fun k4 => if p2 ≤ (1 : Int32) then k4 else (Option.bind (f_X10_within p3 (0 : Int32) (((1 : Int32) <<< (r2 &&& 31)) - (1 : Int32))) (fun r11 => if r11 = 0 then (some ((-2 : Int32), gt, gl)) else k4)))))) else (some ((-3 : Int32), gt, gl)))))
def rmX10_core : Room := { frames := 3, cells := 0, slots := 0, locals := 71 }
set_option maxRecDepth 4000 in
theorem c_X10_core {l : Launch} {D : va_G} {q5 : Nat → ClassId} (a : Nat → Nat) (fa : Int32) (tr : Int32) (la : Nat → Int32) (sl : Nat → Int32) (ce : Nat → Int32) (pn : Int32) (mn : Nat → Int32) (cl : Nat → Int32) (le : Nat → Int32) (ri : Nat → Int32) (lt : Nat → Int32) (nm : Int32) (nc : Nat → Int32) (nl : Nat → Int32) (nr : Nat → Int32) (nt : Nat → Int32) (at9 : Int32) (en9 : Int32) (de : Nat → Int32) (mm : Int32) (ma : Nat → Int32) (ne : Nat → Int32) (us : Nat → Int32) (lk : Nat → Int32) (sd : Nat → Int32) (sf : Nat → Int32) (nu : Nat → Int32) (gt : Nat → Int64) (gl : Nat → Int32) (tb : Nat → Int64) (sc : Nat → Int32) (su : Nat → Int32) (p1 : Int32) (p2 : Int32) (p3 : Int32) {r' : Int32} {gt' : Nat → Int64} {gl' : Nat → Int32} (hf : f_X10_core p1 p2 p3 pn mn cl lt gt gl = some (r', gt', gl')) : sp_Ci l yX10_core wsX10_core rmX10_core D q5 0 [.ref (a 0), .int p1, .int p2, .int p3] (sw_M a q5 fa tr la sl ce pn mn cl le ri lt nm nc nl nr nt at9 en9 de mm ma ne us lk sd sf nu gt gl tb sc su) r' (sw_M a q5 fa tr la sl ce pn mn cl le ri lt nm nc nl nr nt at9 en9 de mm ma ne us lk sd sf nu gt' gl' tb sc su) := by
  intro sz
  refine sp_of (cc := cX10_core) (maxL := 5) (ret := some .int) (own := RX10) (Qc := sp_Qi D r' (sw_M a q5 fa tr la sl ce pn mn cl le ri lt nm nc nl nr nt at9 en9 de mm ma ne us lk sd sf nu gt' gl' tb sc su)) (by decide) rfl rfl (Nat.le_of_ble_eq_true rfl) ?_
  intro p e s m args below meth c A ls Q hQ S hr hlk hK hG hA hW hl
  have hx := S.1
  have hb := S.2.1
  unfold f_X10_core at hf
  refine lv_aload_n hx hb dX10_core_0 rfl (lv_at hl 0 rfl) ?_
  refine lv_iload_n hx hb dX10_core_1 rfl (lv_at hl 1 rfl) ?_
  obtain ⟨r1, hc1, hf⟩ := sp_hc hf
  refine sp_callViP (rest := []) S hK hG hA hW (c_X10_isProof a fa tr la sl ce pn mn cl le ri lt nm nc nl nr nt at9 en9 de mm ma ne us lk sd sf nu gt gl tb sc su p1 hc1) (by decide) (cwV 1 S.2.2.2.2 gX10_core_X10_isProof rfl rfl rfl (by decide +kernel) (by decide)) 8 0 rfl rfl (sp_pn _) rfl (WS' := sw_M a q5 fa tr la sl ce pn mn cl le ri lt nm nc nl nr nt at9 en9 de mm ma ne us lk sd sf nu gt gl tb sc su) (sp_pn' _) rfl hl.1 (Nat.le_of_ble_eq_true rfl) dX10_core_2 ⟨Nat.zero_le _, Nat.zero_le _⟩ rfl (fun H locs hW => ?_)
  refine lv_if_ne (tgt := 10) hx hb dX10_core_5 (by decide) (fun hc => ?_) (fun hc => ?_)
  · have hf := sp_hf hf hc
    refine lv_aload_n hx hb dX10_core_10 rfl (lv_at hl 0 rfl) ?_
    refine lv_iload_n hx hb dX10_core_11 rfl (lv_at hl 1 rfl) ?_
    obtain ⟨r2, hc2, hf⟩ := sp_hc hf
    refine sp_callViP (rest := []) S hK hG hA hW (c_X10_groundsOf a fa tr la sl ce pn mn cl le ri lt nm nc nl nr nt at9 en9 de mm ma ne us lk sd sf nu gt gl tb sc su p1 hc2) (by decide) (cwV 1 S.2.2.2.2 gX10_core_X10_groundsOf rfl rfl rfl (by decide +kernel) (by decide)) 8 0 rfl rfl (sp_pn _) rfl (WS' := sw_M a q5 fa tr la sl ce pn mn cl le ri lt nm nc nl nr nt at9 en9 de mm ma ne us lk sd sf nu gt gl tb sc su) (sp_pn' _) rfl hl.1 (Nat.le_of_ble_eq_true rfl) dX10_core_12 ⟨Nat.zero_le _, Nat.zero_le _⟩ rfl (fun H locs hW => ?_)
    refine lv_istore (lv' := [(4, .int r2), (0, .ref (a 0)), (1, .int p1), (2, .int p2), (3, .int p3)]) hx hb dX10_core_15 hl (by decide) rfl (fun ls hl => ?_)
    refine lv_iload hx hb dX10_core_17 (lv_at hl 0 rfl) ?_
    refine lv_bipush (v := 10) hx hb dX10_core_19 (by decide) ?_
    refine lv_icmp_le (tgt := 27) hx hb dX10_core_21 (by decide) (fun hc => ?_) (fun hc => ?_)
    · have hf := sp_ht hf hc
      refine lv_iload_n hx hb dX10_core_27 rfl (lv_at hl 3 rfl) ?_
      refine lv_iconst (v := 0) hx hb dX10_core_28 (by decide) ?_
      refine lv_iconst (v := 3) hx hb dX10_core_29 (by decide) ?_
      obtain ⟨r3, hc3, hf⟩ := sp_hc hf
      refine sp_callSi (rest := []) S hK hG hA hW (c_X10_within p2 (0 : Int32) (3 : Int32) hc3) (by decide) (va_cwS 3 S.2.2.2.2 gX10_core_X10_within rfl rfl rfl (by decide +kernel) (by decide)) (isC := []) rfl rfl rfl (WS' := sw_M a q5 fa tr la sl ce pn mn cl le ri lt nm nc nl nr nt at9 en9 de mm ma ne us lk sd sf nu gt gl tb sc su) rfl rfl hl.1 (Nat.le_of_ble_eq_true rfl) dX10_core_30 ⟨Nat.zero_le _, Nat.zero_le _⟩ rfl (fun H locs hW => ?_)
      refine lv_if_eq (tgt := 55) hx hb dX10_core_33 (by decide) (fun hc => ?_) (fun hc => ?_)
      · have hf := sp_ht hf hc
        refine lv_bipush (v := (-2)) hx hb dX10_core_55 (by decide) ?_
        have q0 := Option.some.inj hf
        obtain ⟨q1, z1⟩ := Prod.mk.inj q0
        obtain ⟨q2, z2⟩ := Prod.mk.inj z1
        subst q1
        subst q2
        subst z2
        exact sp_iret S hr hlk hW hQ dX10_core_57
      · have hf := sp_hf hf hc
        refine lv_iload_n hx hb dX10_core_36 rfl (lv_at hl 3 rfl) ?_
        refine lv_iconst (v := 1) hx hb dX10_core_37 (by decide) ?_
        obtain ⟨k4, ek4, hf⟩ := sp_hb hf
        have hj4 : ∀ (H : Heap) (locs : List Loc) (ls : Array Slot), k4 = some (r', gt', gl') → sp_wd D A s.heap (sw_M a q5 fa tr la sl ce pn mn cl le ri lt nm nc nl nr nt at9 en9 de mm ma ne us lk sd sf nu gt gl tb sc su) H locs → lv_has ls 5 [(0, .ref (a 0)), (1, .int p1), (2, .int p2), (3, .int p3), (4, .int r2)] → W p l e rmX10_core s m args below meth c H locs 0 0 Q (F0 m 58 ls []) := by
          intro H locs ls hf hW hl
          rw [ek4] at hf
          refine lv_aload_n hx hb dX10_core_58 rfl (lv_at hl 0 rfl) ?_
          refine lv_iload_n hx hb dX10_core_59 rfl (lv_at hl 1 rfl) ?_
          obtain ⟨⟨c5, c6⟩, hc6, hf⟩ := sp_hc hf
          refine sp_callVvP (rest := []) S hK hG hA hW (c_X10_layGrounds a fa tr la sl ce pn mn cl le ri lt nm nc nl nr nt at9 en9 de mm ma ne us lk sd sf nu gt gl tb sc su p1 hc6) (by decide) (cwV 1 S.2.2.2.2 gX10_core_X10_layGrounds rfl rfl rfl (by decide +kernel) (by decide)) 8 0 rfl rfl (sp_pn _) rfl (WS' := sw_M a q5 fa tr la sl ce pn mn cl le ri lt nm nc nl nr nt at9 en9 de mm ma ne us lk sd sf nu c5 c6 tb sc su) (sp_pn' _) rfl hl.1 (Nat.le_of_ble_eq_true rfl) dX10_core_60 ⟨Nat.zero_le _, Nat.zero_le _⟩ rfl (fun H locs hW => ?_)
          refine lv_iload_n hx hb dX10_core_63 rfl (lv_at hl 2 rfl) ?_
          by_cases hs0 : p2 = (0 : Int32)
          · have hf := sp_ht hf hs0
            refine lv_tableIn (tgt := 92) (off := 28) hx hb dX10_core_64 (by rw [hs0]; decide) (by rw [hs0]; decide) (by rw [hs0]; rfl) (by decide) ?_
            refine lv_aload_n hx hb dX10_core_92 rfl (lv_at hl 0 rfl) ?_
            refine lv_iload hx hb dX10_core_93 (lv_at hl 4 rfl) ?_
            obtain ⟨r7, hc7, hf⟩ := sp_hc hf
            refine sp_callViP (rest := []) S hK hG hA hW (c_X10_leastCore a fa tr la sl ce pn mn cl le ri lt nm nc nl nr nt at9 en9 de mm ma ne us lk sd sf nu c5 c6 tb sc su r2 hc7) (by decide) (cwV 1 S.2.2.2.2 gX10_core_X10_leastCore rfl rfl rfl (by decide +kernel) (by decide)) 8 0 rfl rfl (sp_pn _) rfl (WS' := sw_M a q5 fa tr la sl ce pn mn cl le ri lt nm nc nl nr nt at9 en9 de mm ma ne us lk sd sf nu c5 c6 tb sc su) (sp_pn' _) rfl hl.1 (Nat.le_of_ble_eq_true rfl) dX10_core_95 ⟨Nat.zero_le _, Nat.zero_le _⟩ rfl (fun H locs hW => ?_)
            have q0 := Option.some.inj hf
            obtain ⟨q1, z1⟩ := Prod.mk.inj q0
            obtain ⟨q2, z2⟩ := Prod.mk.inj z1
            subst q1
            subst q2
            subst z2
            exact sp_iret S hr hlk hW hQ dX10_core_98
          have hf := sp_hf hf hs0
          by_cases hs1 : p2 = (1 : Int32)
          · have hf := sp_ht hf hs1
            refine lv_tableIn (tgt := 99) (off := 35) hx hb dX10_core_64 (by rw [hs1]; decide) (by rw [hs1]; decide) (by rw [hs1]; rfl) (by decide) ?_
            refine lv_aload_n hx hb dX10_core_99 rfl (lv_at hl 0 rfl) ?_
            refine lv_iload hx hb dX10_core_100 (lv_at hl 4 rfl) ?_
            obtain ⟨r8, hc8, hf⟩ := sp_hc hf
            refine sp_callViP (rest := []) S hK hG hA hW (c_X10_manyBare a fa tr la sl ce pn mn cl le ri lt nm nc nl nr nt at9 en9 de mm ma ne us lk sd sf nu c5 c6 tb sc su r2 hc8) (by decide) (cwV 1 S.2.2.2.2 gX10_core_X10_manyBare rfl rfl rfl (by decide +kernel) (by decide)) 8 0 rfl rfl (sp_pn _) rfl (WS' := sw_M a q5 fa tr la sl ce pn mn cl le ri lt nm nc nl nr nt at9 en9 de mm ma ne us lk sd sf nu c5 c6 tb sc su) (sp_pn' _) rfl hl.1 (Nat.le_of_ble_eq_true rfl) dX10_core_102 ⟨Nat.zero_le _, Nat.zero_le _⟩ rfl (fun H locs hW => ?_)
            have q0 := Option.some.inj hf
            obtain ⟨q1, z1⟩ := Prod.mk.inj q0
            obtain ⟨q2, z2⟩ := Prod.mk.inj z1
            subst q1
            subst q2
            subst z2
            exact sp_iret S hr hlk hW hQ dX10_core_105
          have hf := sp_hf hf hs1
          by_cases hs2 : p2 = (2 : Int32)
          · have hf := sp_ht hf hs2
            refine lv_tableIn (tgt := 106) (off := 42) hx hb dX10_core_64 (by rw [hs2]; decide) (by rw [hs2]; decide) (by rw [hs2]; rfl) (by decide) ?_
            refine lv_aload_n hx hb dX10_core_106 rfl (lv_at hl 0 rfl) ?_
            refine lv_iload_n hx hb dX10_core_107 rfl (lv_at hl 3 rfl) ?_
            refine lv_iload hx hb dX10_core_108 (lv_at hl 4 rfl) ?_
            obtain ⟨r9, hc9, hf⟩ := sp_hc hf
            refine sp_callVlP (rest := []) S hK hG hA hW (c_X10_allTrue a fa tr la sl ce pn mn cl le ri lt nm nc nl nr nt at9 en9 de mm ma ne us lk sd sf nu c5 c6 tb sc su p3 r2 hc9) (by decide) (cwV 2 S.2.2.2.2 gX10_core_X10_allTrue rfl rfl rfl (by decide +kernel) (by decide)) 8 0 rfl rfl (sp_pn _) rfl (WS' := sw_M a q5 fa tr la sl ce pn mn cl le ri lt nm nc nl nr nt at9 en9 de mm ma ne us lk sd sf nu c5 c6 tb sc su) (sp_pn' _) rfl hl.1 (Nat.le_of_ble_eq_true rfl) dX10_core_110 ⟨Nat.zero_le _, Nat.zero_le _⟩ rfl (fun H locs hW => ?_)
            refine lv_lconst (v := 0) hx hb dX10_core_113 (by decide) ?_
            refine W.lcmp hx hb dX10_core_114 ?_
            refine lv_if_ne (tgt := 122) hx hb dX10_core_115 (by decide) (fun hc => ?_) (fun hc => ?_)
            · have hf := sp_hf hf hc
              refine lv_iconst (v := 0) hx hb dX10_core_122 (by decide) ?_
              have q0 := Option.some.inj hf
              obtain ⟨q1, z1⟩ := Prod.mk.inj q0
              obtain ⟨q2, z2⟩ := Prod.mk.inj z1
              subst q1
              subst q2
              subst z2
              exact sp_iret S hr hlk hW hQ dX10_core_123
            · have hf := sp_ht hf hc
              refine lv_iconst (v := 1) hx hb dX10_core_118 (by decide) ?_
              refine lv_goto (tgt := 123) hx hb dX10_core_119 (by decide) ?_
              have q0 := Option.some.inj hf
              obtain ⟨q1, z1⟩ := Prod.mk.inj q0
              obtain ⟨q2, z2⟩ := Prod.mk.inj z1
              subst q1
              subst q2
              subst z2
              exact sp_iret S hr hlk hW hQ dX10_core_123
          have hf := sp_hf hf hs2
          have hz0 : p2.toInt ≠ 0 := sp_nei hs0
          have hz1 : p2.toInt ≠ 1 := sp_nei hs1
          have hz2 : p2.toInt ≠ 2 := sp_nei hs2
          refine lv_tableOut (tgt := 124) hx hb dX10_core_64 (by omega) (by decide) ?_
          refine lv_aload_n hx hb dX10_core_124 rfl (lv_at hl 0 rfl) ?_
          refine lv_iload_n hx hb dX10_core_125 rfl (lv_at hl 3 rfl) ?_
          refine lv_iload hx hb dX10_core_126 (lv_at hl 4 rfl) ?_
          obtain ⟨r10, hc10, hf⟩ := sp_hc hf
          refine sp_callViP (rest := []) S hK hG hA hW (c_X10_isBare a fa tr la sl ce pn mn cl le ri lt nm nc nl nr nt at9 en9 de mm ma ne us lk sd sf nu c5 c6 tb sc su p3 r2 hc10) (by decide) (cwV 2 S.2.2.2.2 gX10_core_X10_isBare rfl rfl rfl (by decide +kernel) (by decide)) 8 0 rfl rfl (sp_pn _) rfl (WS' := sw_M a q5 fa tr la sl ce pn mn cl le ri lt nm nc nl nr nt at9 en9 de mm ma ne us lk sd sf nu c5 c6 tb sc su) (sp_pn' _) rfl hl.1 (Nat.le_of_ble_eq_true rfl) dX10_core_128 ⟨Nat.zero_le _, Nat.zero_le _⟩ rfl (fun H locs hW => ?_)
          refine lv_if_eq (tgt := 138) hx hb dX10_core_131 (by decide) (fun hc => ?_) (fun hc => ?_)
          · have hf := sp_ht hf hc
            refine lv_iconst (v := 0) hx hb dX10_core_138 (by decide) ?_
            have q0 := Option.some.inj hf
            obtain ⟨q1, z1⟩ := Prod.mk.inj q0
            obtain ⟨q2, z2⟩ := Prod.mk.inj z1
            subst q1
            subst q2
            subst z2
            exact sp_iret S hr hlk hW hQ dX10_core_139
          · have hf := sp_hf hf hc
            refine lv_iconst (v := 1) hx hb dX10_core_134 (by decide) ?_
            refine lv_goto (tgt := 139) hx hb dX10_core_135 (by decide) ?_
            have q0 := Option.some.inj hf
            obtain ⟨q1, z1⟩ := Prod.mk.inj q0
            obtain ⟨q2, z2⟩ := Prod.mk.inj z1
            subst q1
            subst q2
            subst z2
            exact sp_iret S hr hlk hW hQ dX10_core_139
        refine lv_icmp_le (tgt := 58) hx hb dX10_core_38 (by decide) (fun hc => ?_) (fun hc => ?_)
        · have hf := sp_ht hf hc
          exact hj4 _ _ _ hf hW (lv_sub hl [1, 2, 3, 4, 0] rfl)
        · have hf := sp_hf hf hc
          refine lv_iload_n hx hb dX10_core_41 rfl (lv_at hl 4 rfl) ?_
          refine lv_iconst (v := 0) hx hb dX10_core_42 (by decide) ?_
          refine lv_iconst (v := 1) hx hb dX10_core_43 (by decide) ?_
          refine lv_iload hx hb dX10_core_44 (lv_at hl 0 rfl) ?_
          refine lv_ishl hx hb dX10_core_46 ?_
          refine lv_iconst (v := 1) hx hb dX10_core_47 (by decide) ?_
          refine lv_isub hx hb dX10_core_48 ?_
          obtain ⟨r11, hc11, hf⟩ := sp_hc hf
          refine sp_callSi (rest := []) S hK hG hA hW (c_X10_within p3 (0 : Int32) (((1 : Int32) <<< (r2 &&& 31)) - (1 : Int32)) hc11) (by decide) (va_cwS 3 S.2.2.2.2 gX10_core_X10_within rfl rfl rfl (by decide +kernel) (by decide)) (isC := []) rfl rfl rfl (WS' := sw_M a q5 fa tr la sl ce pn mn cl le ri lt nm nc nl nr nt at9 en9 de mm ma ne us lk sd sf nu gt gl tb sc su) rfl rfl hl.1 (Nat.le_of_ble_eq_true rfl) dX10_core_49 ⟨Nat.zero_le _, Nat.zero_le _⟩ rfl (fun H locs hW => ?_)
          refine lv_if_ne (tgt := 58) hx hb dX10_core_52 (by decide) (fun hc => ?_) (fun hc => ?_)
          · have hf := sp_hf hf hc
            exact hj4 _ _ _ hf hW (lv_sub hl [1, 2, 3, 4, 0] rfl)
          · have hf := sp_ht hf hc
            refine lv_bipush (v := (-2)) hx hb dX10_core_55 (by decide) ?_
            have q0 := Option.some.inj hf
            obtain ⟨q1, z1⟩ := Prod.mk.inj q0
            obtain ⟨q2, z2⟩ := Prod.mk.inj z1
            subst q1
            subst q2
            subst z2
            exact sp_iret S hr hlk hW hQ dX10_core_57
    · have hf := sp_hf hf hc
      refine lv_bipush (v := (-3)) hx hb dX10_core_24 (by decide) ?_
      have q0 := Option.some.inj hf
      obtain ⟨q1, z1⟩ := Prod.mk.inj q0
      obtain ⟨q2, z2⟩ := Prod.mk.inj z1
      subst q1
      subst q2
      subst z2
      exact sp_iret S hr hlk hW hQ dX10_core_26
  · have hf := sp_ht hf hc
    refine lv_iconst (v := (-1)) hx hb dX10_core_8 (by decide) ?_
    have q0 := Option.some.inj hf
    obtain ⟨q1, z1⟩ := Prod.mk.inj q0
    obtain ⟨q2, z2⟩ := Prod.mk.inj z1
    subst q1
    subst q2
    subst z2
    exact sp_iret S hr hlk hW hQ dX10_core_9

def f_X10_halfOf (p1 : Int64) (p2 : Int32) : Option (Int64) := some ((p1 >>> (((32 : Int32) * p2).toInt64 &&& 63)) &&& (4294967295 : Int64))
def rmX10_halfOf : Room := { frames := 0, cells := 0, slots := 0, locals := 0 }
set_option maxRecDepth 4000 in
theorem c_X10_halfOf {l : Launch} {D : va_G} {q5 : Nat → ClassId} (p1 : Int64) (p2 : Int32) {r' : Int64} (hf : f_X10_halfOf p1 p2 = some r') : sp_Cl l yX10_halfOf wsX10_halfOf rmX10_halfOf D q5 0 [.long p1, .int p2] ([]) r' ([]) := by
  intro sz
  refine sp_of (cc := cX10_halfOf) (maxL := 3) (ret := some .long) (own := RX10) (Qc := sp_Ql D r' ([])) (by decide) rfl rfl (Nat.le_of_ble_eq_true rfl) ?_
  intro p e s m args below meth c A ls Q hQ S hr hlk hK hG hA hW hl
  have hx := S.1
  have hb := S.2.1
  unfold f_X10_halfOf at hf
  have lk1 := S.2.2.2.2 (Cond.constantLong RX10 267 (4294967295)) (List.mem_of_getElem? (i := 1) rfl)
  refine lv_lload_n hx hb dX10_halfOf_0 rfl (lv_at hl 0 rfl) ?_
  refine lv_bipush (v := 32) hx hb dX10_halfOf_1 (by decide) ?_
  refine lv_iload_n hx hb dX10_halfOf_3 rfl (lv_at hl 1 rfl) ?_
  refine lv_imul hx hb dX10_halfOf_4 ?_
  refine lv_lshr hx hb dX10_halfOf_5 rfl ?_
  refine lv_ldc2 hx hb S.2.2.2.1 lk1 dX10_halfOf_6 ?_
  refine lv_land hx hb dX10_halfOf_9 ?_
  have q0 := Option.some.inj hf
  subst q0
  exact sp_lret S hr hlk hW hQ dX10_halfOf_10

def f_X10_truths (p1 : Int32) (p2 : Int32) (p3 : Int32) (pn : Int32) (mn : Nat → Int32) (cl : Nat → Int32) (lt : Nat → Int32) (gt : Nat → Int64) (gl : Nat → Int32) : Option (Int64 × (Nat → Int64) × (Nat → Int32)) := Option.bind (f_X10_isProof p1 pn) (fun r1 => if r1 = 0 then (some ((-9223372036854775808 : Int64), gt, gl)) else (Option.bind (f_X10_within p3 (0 : Int32) (1 : Int32)) (fun r2 => if r2 = 0 then (some ((-9223372036854775808 : Int64), gt, gl)) else (Option.bind (f_X10_groundsOf p1 mn lt) (fun r3 => if (10 : Int32) < r3 then (some ((-9223372036854775808 : Int64), gt, gl)) else (Option.bind (f_X10_groundsOf p1 mn lt) (fun r4 => Option.bind (f_X10_within p2 (0 : Int32) (((1 : Int32) <<< (r4 &&& 31)) - (1 : Int32))) (fun r5 => if r5 = 0 then (some ((-9223372036854775808 : Int64), gt, gl)) else (Option.bind (f_X10_layGrounds p1 mn cl lt gt gl) (fun q9 => match q9 with | (c6, c7) => Option.bind (f_X10_groundsOf p1 mn lt) (fun r8 => Option.bind (f_X10_allTrue p2 r8 c6) (fun r9 => Option.bind (f_X10_halfOf r9 p3) (fun r10 => some (r10, c6, c7))))))))))))))
def rmX10_truths : Room := { frames := 3, cells := 0, slots := 0, locals := 68 }
set_option maxRecDepth 4000 in
theorem c_X10_truths {l : Launch} {D : va_G} {q5 : Nat → ClassId} (a : Nat → Nat) (fa : Int32) (tr : Int32) (la : Nat → Int32) (sl : Nat → Int32) (ce : Nat → Int32) (pn : Int32) (mn : Nat → Int32) (cl : Nat → Int32) (le : Nat → Int32) (ri : Nat → Int32) (lt : Nat → Int32) (nm : Int32) (nc : Nat → Int32) (nl : Nat → Int32) (nr : Nat → Int32) (nt : Nat → Int32) (at9 : Int32) (en9 : Int32) (de : Nat → Int32) (mm : Int32) (ma : Nat → Int32) (ne : Nat → Int32) (us : Nat → Int32) (lk : Nat → Int32) (sd : Nat → Int32) (sf : Nat → Int32) (nu : Nat → Int32) (gt : Nat → Int64) (gl : Nat → Int32) (tb : Nat → Int64) (sc : Nat → Int32) (su : Nat → Int32) (p1 : Int32) (p2 : Int32) (p3 : Int32) {r' : Int64} {gt' : Nat → Int64} {gl' : Nat → Int32} (hf : f_X10_truths p1 p2 p3 pn mn cl lt gt gl = some (r', gt', gl')) : sp_Cl l yX10_truths wsX10_truths rmX10_truths D q5 0 [.ref (a 0), .int p1, .int p2, .int p3] (sw_M a q5 fa tr la sl ce pn mn cl le ri lt nm nc nl nr nt at9 en9 de mm ma ne us lk sd sf nu gt gl tb sc su) r' (sw_M a q5 fa tr la sl ce pn mn cl le ri lt nm nc nl nr nt at9 en9 de mm ma ne us lk sd sf nu gt' gl' tb sc su) := by
  intro sz
  refine sp_of (cc := cX10_truths) (maxL := 4) (ret := some .long) (own := RX10) (Qc := sp_Ql D r' (sw_M a q5 fa tr la sl ce pn mn cl le ri lt nm nc nl nr nt at9 en9 de mm ma ne us lk sd sf nu gt' gl' tb sc su)) (by decide) rfl rfl (Nat.le_of_ble_eq_true rfl) ?_
  intro p e s m args below meth c A ls Q hQ S hr hlk hK hG hA hW hl
  have hx := S.1
  have hb := S.2.1
  unfold f_X10_truths at hf
  have lk1 := S.2.2.2.2 (Cond.constantLong RX10 90 (-9223372036854775808)) (List.mem_of_getElem? (i := 1) rfl)
  refine lv_aload_n hx hb dX10_truths_0 rfl (lv_at hl 0 rfl) ?_
  refine lv_iload_n hx hb dX10_truths_1 rfl (lv_at hl 1 rfl) ?_
  obtain ⟨r1, hc1, hf⟩ := sp_hc hf
  refine sp_callViP (rest := []) S hK hG hA hW (c_X10_isProof a fa tr la sl ce pn mn cl le ri lt nm nc nl nr nt at9 en9 de mm ma ne us lk sd sf nu gt gl tb sc su p1 hc1) (by decide) (cwV 1 S.2.2.2.2 gX10_truths_X10_isProof rfl rfl rfl (by decide +kernel) (by decide)) 8 0 rfl rfl (sp_pn _) rfl (WS' := sw_M a q5 fa tr la sl ce pn mn cl le ri lt nm nc nl nr nt at9 en9 de mm ma ne us lk sd sf nu gt gl tb sc su) (sp_pn' _) rfl hl.1 (Nat.le_of_ble_eq_true rfl) dX10_truths_2 ⟨Nat.zero_le _, Nat.zero_le _⟩ rfl (fun H locs hW => ?_)
  refine lv_if_eq (tgt := 44) hx hb dX10_truths_5 (by decide) (fun hc => ?_) (fun hc => ?_)
  · have hf := sp_ht hf hc
    refine lv_ldc2 hx hb S.2.2.2.1 lk1 dX10_truths_44 ?_
    have q0 := Option.some.inj hf
    obtain ⟨q1, z1⟩ := Prod.mk.inj q0
    obtain ⟨q2, z2⟩ := Prod.mk.inj z1
    subst q1
    subst q2
    subst z2
    exact sp_lret S hr hlk hW hQ dX10_truths_47
  · have hf := sp_hf hf hc
    refine lv_iload_n hx hb dX10_truths_8 rfl (lv_at hl 3 rfl) ?_
    refine lv_iconst (v := 0) hx hb dX10_truths_9 (by decide) ?_
    refine lv_iconst (v := 1) hx hb dX10_truths_10 (by decide) ?_
    obtain ⟨r2, hc2, hf⟩ := sp_hc hf
    refine sp_callSi (rest := []) S hK hG hA hW (c_X10_within p3 (0 : Int32) (1 : Int32) hc2) (by decide) (va_cwS 3 S.2.2.2.2 gX10_truths_X10_within rfl rfl rfl (by decide +kernel) (by decide)) (isC := []) rfl rfl rfl (WS' := sw_M a q5 fa tr la sl ce pn mn cl le ri lt nm nc nl nr nt at9 en9 de mm ma ne us lk sd sf nu gt gl tb sc su) rfl rfl hl.1 (Nat.le_of_ble_eq_true rfl) dX10_truths_11 ⟨Nat.zero_le _, Nat.zero_le _⟩ rfl (fun H locs hW => ?_)
    refine lv_if_eq (tgt := 44) hx hb dX10_truths_14 (by decide) (fun hc => ?_) (fun hc => ?_)
    · have hf := sp_ht hf hc
      refine lv_ldc2 hx hb S.2.2.2.1 lk1 dX10_truths_44 ?_
      have q0 := Option.some.inj hf
      obtain ⟨q1, z1⟩ := Prod.mk.inj q0
      obtain ⟨q2, z2⟩ := Prod.mk.inj z1
      subst q1
      subst q2
      subst z2
      exact sp_lret S hr hlk hW hQ dX10_truths_47
    · have hf := sp_hf hf hc
      refine lv_aload_n hx hb dX10_truths_17 rfl (lv_at hl 0 rfl) ?_
      refine lv_iload_n hx hb dX10_truths_18 rfl (lv_at hl 1 rfl) ?_
      obtain ⟨r3, hc3, hf⟩ := sp_hc hf
      refine sp_callViP (rest := []) S hK hG hA hW (c_X10_groundsOf a fa tr la sl ce pn mn cl le ri lt nm nc nl nr nt at9 en9 de mm ma ne us lk sd sf nu gt gl tb sc su p1 hc3) (by decide) (cwV 1 S.2.2.2.2 gX10_truths_X10_groundsOf rfl rfl rfl (by decide +kernel) (by decide)) 8 0 rfl rfl (sp_pn _) rfl (WS' := sw_M a q5 fa tr la sl ce pn mn cl le ri lt nm nc nl nr nt at9 en9 de mm ma ne us lk sd sf nu gt gl tb sc su) (sp_pn' _) rfl hl.1 (Nat.le_of_ble_eq_true rfl) dX10_truths_19 ⟨Nat.zero_le _, Nat.zero_le _⟩ rfl (fun H locs hW => ?_)
      refine lv_bipush (v := 10) hx hb dX10_truths_22 (by decide) ?_
      refine lv_icmp_gt (tgt := 44) hx hb dX10_truths_24 (by decide) (fun hc => ?_) (fun hc => ?_)
      · have hf := sp_ht hf hc
        refine lv_ldc2 hx hb S.2.2.2.1 lk1 dX10_truths_44 ?_
        have q0 := Option.some.inj hf
        obtain ⟨q1, z1⟩ := Prod.mk.inj q0
        obtain ⟨q2, z2⟩ := Prod.mk.inj z1
        subst q1
        subst q2
        subst z2
        exact sp_lret S hr hlk hW hQ dX10_truths_47
      · have hf := sp_hf hf hc
        refine lv_iload_n hx hb dX10_truths_27 rfl (lv_at hl 2 rfl) ?_
        refine lv_iconst (v := 0) hx hb dX10_truths_28 (by decide) ?_
        refine lv_iconst (v := 1) hx hb dX10_truths_29 (by decide) ?_
        refine lv_aload_n hx hb dX10_truths_30 rfl (lv_at hl 0 rfl) ?_
        refine lv_iload_n hx hb dX10_truths_31 rfl (lv_at hl 1 rfl) ?_
        obtain ⟨r4, hc4, hf⟩ := sp_hc hf
        refine sp_callViP (rest := [.int (1 : Int32), .int (0 : Int32), .int p2]) S hK hG hA hW (c_X10_groundsOf a fa tr la sl ce pn mn cl le ri lt nm nc nl nr nt at9 en9 de mm ma ne us lk sd sf nu gt gl tb sc su p1 hc4) (by decide) (cwV 1 S.2.2.2.2 gX10_truths_X10_groundsOf rfl rfl rfl (by decide +kernel) (by decide)) 8 0 rfl rfl (sp_pn _) rfl (WS' := sw_M a q5 fa tr la sl ce pn mn cl le ri lt nm nc nl nr nt at9 en9 de mm ma ne us lk sd sf nu gt gl tb sc su) (sp_pn' _) rfl hl.1 (Nat.le_of_ble_eq_true rfl) dX10_truths_32 ⟨Nat.zero_le _, Nat.zero_le _⟩ rfl (fun H locs hW => ?_)
        refine lv_ishl hx hb dX10_truths_35 ?_
        refine lv_iconst (v := 1) hx hb dX10_truths_36 (by decide) ?_
        refine lv_isub hx hb dX10_truths_37 ?_
        obtain ⟨r5, hc5, hf⟩ := sp_hc hf
        refine sp_callSi (rest := []) S hK hG hA hW (c_X10_within p2 (0 : Int32) (((1 : Int32) <<< (r4 &&& 31)) - (1 : Int32)) hc5) (by decide) (va_cwS 3 S.2.2.2.2 gX10_truths_X10_within rfl rfl rfl (by decide +kernel) (by decide)) (isC := []) rfl rfl rfl (WS' := sw_M a q5 fa tr la sl ce pn mn cl le ri lt nm nc nl nr nt at9 en9 de mm ma ne us lk sd sf nu gt gl tb sc su) rfl rfl hl.1 (Nat.le_of_ble_eq_true rfl) dX10_truths_38 ⟨Nat.zero_le _, Nat.zero_le _⟩ rfl (fun H locs hW => ?_)
        refine lv_if_ne (tgt := 48) hx hb dX10_truths_41 (by decide) (fun hc => ?_) (fun hc => ?_)
        · have hf := sp_hf hf hc
          refine lv_aload_n hx hb dX10_truths_48 rfl (lv_at hl 0 rfl) ?_
          refine lv_iload_n hx hb dX10_truths_49 rfl (lv_at hl 1 rfl) ?_
          obtain ⟨⟨c6, c7⟩, hc7, hf⟩ := sp_hc hf
          refine sp_callVvP (rest := []) S hK hG hA hW (c_X10_layGrounds a fa tr la sl ce pn mn cl le ri lt nm nc nl nr nt at9 en9 de mm ma ne us lk sd sf nu gt gl tb sc su p1 hc7) (by decide) (cwV 1 S.2.2.2.2 gX10_truths_X10_layGrounds rfl rfl rfl (by decide +kernel) (by decide)) 8 0 rfl rfl (sp_pn _) rfl (WS' := sw_M a q5 fa tr la sl ce pn mn cl le ri lt nm nc nl nr nt at9 en9 de mm ma ne us lk sd sf nu c6 c7 tb sc su) (sp_pn' _) rfl hl.1 (Nat.le_of_ble_eq_true rfl) dX10_truths_50 ⟨Nat.zero_le _, Nat.zero_le _⟩ rfl (fun H locs hW => ?_)
          refine lv_aload_n hx hb dX10_truths_53 rfl (lv_at hl 0 rfl) ?_
          refine lv_iload_n hx hb dX10_truths_54 rfl (lv_at hl 2 rfl) ?_
          refine lv_aload_n hx hb dX10_truths_55 rfl (lv_at hl 0 rfl) ?_
          refine lv_iload_n hx hb dX10_truths_56 rfl (lv_at hl 1 rfl) ?_
          obtain ⟨r8, hc8, hf⟩ := sp_hc hf
          refine sp_callViP (rest := [.int p2, .ref (a 0)]) S hK hG hA hW (c_X10_groundsOf a fa tr la sl ce pn mn cl le ri lt nm nc nl nr nt at9 en9 de mm ma ne us lk sd sf nu c6 c7 tb sc su p1 hc8) (by decide) (cwV 1 S.2.2.2.2 gX10_truths_X10_groundsOf rfl rfl rfl (by decide +kernel) (by decide)) 8 0 rfl rfl (sp_pn _) rfl (WS' := sw_M a q5 fa tr la sl ce pn mn cl le ri lt nm nc nl nr nt at9 en9 de mm ma ne us lk sd sf nu c6 c7 tb sc su) (sp_pn' _) rfl hl.1 (Nat.le_of_ble_eq_true rfl) dX10_truths_57 ⟨Nat.zero_le _, Nat.zero_le _⟩ rfl (fun H locs hW => ?_)
          obtain ⟨r9, hc9, hf⟩ := sp_hc hf
          refine sp_callVlP (rest := []) S hK hG hA hW (c_X10_allTrue a fa tr la sl ce pn mn cl le ri lt nm nc nl nr nt at9 en9 de mm ma ne us lk sd sf nu c6 c7 tb sc su p2 r8 hc9) (by decide) (cwV 2 S.2.2.2.2 gX10_truths_X10_allTrue rfl rfl rfl (by decide +kernel) (by decide)) 8 0 rfl rfl (sp_pn _) rfl (WS' := sw_M a q5 fa tr la sl ce pn mn cl le ri lt nm nc nl nr nt at9 en9 de mm ma ne us lk sd sf nu c6 c7 tb sc su) (sp_pn' _) rfl hl.1 (Nat.le_of_ble_eq_true rfl) dX10_truths_60 ⟨Nat.zero_le _, Nat.zero_le _⟩ rfl (fun H locs hW => ?_)
          refine lv_iload_n hx hb dX10_truths_63 rfl (lv_at hl 3 rfl) ?_
          obtain ⟨r10, hc10, hf⟩ := sp_hc hf
          refine sp_callSl (rest := []) S hK hG hA hW (c_X10_halfOf r9 p3 hc10) (by decide) (va_cwS 2 S.2.2.2.2 gX10_truths_X10_halfOf rfl rfl rfl (by decide +kernel) (by decide)) (isC := []) rfl rfl rfl (WS' := sw_M a q5 fa tr la sl ce pn mn cl le ri lt nm nc nl nr nt at9 en9 de mm ma ne us lk sd sf nu c6 c7 tb sc su) rfl rfl hl.1 (Nat.le_of_ble_eq_true rfl) dX10_truths_64 ⟨Nat.zero_le _, Nat.zero_le _⟩ rfl (fun H locs hW => ?_)
          have q0 := Option.some.inj hf
          obtain ⟨q1, z1⟩ := Prod.mk.inj q0
          obtain ⟨q2, z2⟩ := Prod.mk.inj z1
          subst q1
          subst q2
          subst z2
          exact sp_lret S hr hlk hW hQ dX10_truths_67
        · have hf := sp_ht hf hc
          refine lv_ldc2 hx hb S.2.2.2.1 lk1 dX10_truths_44 ?_
          have q0 := Option.some.inj hf
          obtain ⟨q1, z1⟩ := Prod.mk.inj q0
          obtain ⟨q2, z2⟩ := Prod.mk.inj z1
          subst q1
          subst q2
          subst z2
          exact sp_lret S hr hlk hW hQ dX10_truths_47
