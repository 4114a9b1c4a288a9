def f_X7_codeOf (p1 : Int32) : Option (Int32) := some ((p1 &&& (7 : Int32)) ||| (((p1 >>> ((6 : Int32) &&& 31)) &&& (7 : Int32)) <<< ((3 : Int32) &&& 31)))
def rmX7_codeOf : Room := { frames := 0, cells := 0, slots := 0, locals := 0 }
set_option maxRecDepth 4000 in
theorem c_X7_codeOf {l : Launch} {D : va_G} {q5 : Nat → ClassId} (p1 : Int32) {r' : Int32} (hf : f_X7_codeOf p1 = some r') : sp_Ci l yX7_codeOf wsX7_codeOf rmX7_codeOf D q5 0 [.int p1] ([]) r' ([]) := by
  intro sz
  refine sp_of (cc := cX7_codeOf) (maxL := 1) (ret := some .int) (own := RX7) (Qc := sp_Qi D r' ([])) (by decide) rfl rfl (Nat.le_of_ble_eq_true rfl) ?_
  intro p e s m args below meth c A ls Q hQ S hr hlk hK hG hA hW hl
  have hx := S.1
  have hb := S.2.1
  unfold f_X7_codeOf at hf
  refine lv_iload_n hx hb dX7_codeOf_0 rfl (lv_at hl 0 rfl) ?_
  refine lv_bipush (v := 7) hx hb dX7_codeOf_1 (by decide) ?_
  refine lv_iand hx hb dX7_codeOf_3 ?_
  refine lv_iload_n hx hb dX7_codeOf_4 rfl (lv_at hl 0 rfl) ?_
  refine lv_bipush (v := 6) hx hb dX7_codeOf_5 (by decide) ?_
  refine lv_ishr hx hb dX7_codeOf_7 ?_
  refine lv_bipush (v := 7) hx hb dX7_codeOf_8 (by decide) ?_
  refine lv_iand hx hb dX7_codeOf_10 ?_
  refine lv_iconst (v := 3) hx hb dX7_codeOf_11 (by decide) ?_
  refine lv_ishl hx hb dX7_codeOf_12 ?_
  refine lv_ior hx hb dX7_codeOf_13 ?_
  cases hf
  exact sp_iret S hr hlk hW hQ dX7_codeOf_14

def f_X7_cutsWith_L5 (k4 : Int64 → Option (Int64)) (p2 : Int64) (p1 : Int32) (rec5 : (Int64 × Int32) → Option (Int64)) (s9 : Int64 × Int32) : Option (Int64) := match s9 with
  | (y1, y2) => if (64 : Int32) ≤ y2 then (k4 y1) else (Option.bind (f_X9_isIn y2 p2) (fun r5 => sp_bnd (fun (x6 : Int64) => sp_bnd (y2 + (1 : Int32)) (fun v8 => rec5 (x6, v8))) (fun k7 => if r5 = 0 then (k7 y1) else (sp_bnd (((p1 &&& (y2 >>> ((3 : Int32) &&& 31))) ||| ((p1 >>> ((3 : Int32) &&& 31)) &&& y2)) &&& (7 : Int32)) (fun v9 => Option.bind (f_J6_bitCount_0f7a4 v9) (fun r10 => if r10 = (1 : Int32) then (sp_bnd (y1 ||| ((1 : Int64) <<< (((p1 ||| y2) &&& ((v9 ||| (v9 <<< ((3 : Int32) &&& 31))) ^^^ (-1 : Int32))).toInt64 &&& 63))) (fun v11 => k7 v11)) else (k7 y1)))))))
theorem f_X7_cutsWith_L5_eq {rec5 : (Int64 × Int32) → Option (Int64)} {k4 : Int64 → Option (Int64)} {p2 : Int64} {p1 : Int32} {y1 : Int64} {y2 : Int32} : f_X7_cutsWith_L5 k4 p2 p1 rec5 (y1, y2) = (if (64 : Int32) ≤ y2 then (k4 y1) else (Option.bind (f_X9_isIn y2 p2) (fun r5 => sp_bnd (fun (x6 : Int64) => sp_bnd (y2 + (1 : Int32)) (fun v8 => rec5 (x6, v8))) (fun k7 => if r5 = 0 then (k7 y1) else (sp_bnd (((p1 &&& (y2 >>> ((3 : Int32) &&& 31))) ||| ((p1 >>> ((3 : Int32) &&& 31)) &&& y2)) &&& (7 : Int32)) (fun v9 => Option.bind (f_J6_bitCount_0f7a4 v9) (fun r10 => if r10 = (1 : Int32) then (sp_bnd (y1 ||| ((1 : Int64) <<< (((p1 ||| y2) &&& ((v9 ||| (v9 <<< ((3 : Int32) &&& 31))) ^^^ (-1 : Int32))).toInt64 &&& 63))) (fun v11 => k7 v11)) else (k7 y1)))))))) := rfl
def f_X7_cutsWith (p1 : Int32) (p2 : Int64) : Option (Int64) := sp_bnd (fun (x3 : Int64) => some x3) (fun k4 => sp_lp (f_X7_cutsWith_L5 k4 p2 p1) sp_F ((0 : Int64), (0 : Int32)))
def rmX7_cutsWith : Room := { frames := 1, cells := 0, slots := 0, locals := 22 }
set_option maxRecDepth 4000 in
theorem c_X7_cutsWith {l : Launch} {D : va_G} {q5 : Nat → ClassId} (p1 : Int32) (p2 : Int64) {r' : Int64} (hf : f_X7_cutsWith p1 p2 = some r') : sp_Cl l yX7_cutsWith wsX7_cutsWith rmX7_cutsWith D q5 1 [.int p1, .long p2] ([]) r' ([]) := by
  intro sz
  refine sp_of (cc := cX7_cutsWith) (maxL := 7) (ret := some .long) (own := RX7) (Qc := sp_Ql D r' ([])) (by decide) rfl rfl (Nat.le_of_ble_eq_true rfl) ?_
  intro p e s m args below meth c A ls Q hQ S hr hlk hK hG hA hW hl
  have hx := S.1
  have hb := S.2.1
  unfold f_X7_cutsWith at hf
  have lk1 := S.2.2.2.2 (Cond.static yX9_isIn) (List.mem_of_getElem? (i := 1) rfl)
  have lk2 := S.2.2.2.2 (Cond.initialized RX9) (List.mem_of_getElem? (i := 2) rfl)
  refine lv_lconst (v := 0) hx hb dX7_cutsWith_0 (by decide) ?_
  refine lv_lstore_n (lv' := [(3, .long (0 : Int64)), (0, .int p1), (1, .long p2)]) hx hb dX7_cutsWith_1 rfl hl (by decide) rfl (fun ls hl => ?_)
  refine lv_iconst (v := 0) hx hb dX7_cutsWith_2 (by decide) ?_
  refine lv_istore (lv' := [(5, .int (0 : Int32)), (3, .long (0 : Int64)), (0, .int p1), (1, .long p2)]) hx hb dX7_cutsWith_3 hl (by decide) rfl (fun ls hl => ?_)
  obtain ⟨k4, ek4, hf⟩ := sp_hb hf
  have hj4 : ∀ (x3 : Int64) (H : Heap) (locs : List Loc) (ls : Array Slot), k4 x3 = some r' → sp_wd D A s.heap ([]) H locs → lv_has ls 7 [(3, .long x3)] → W p l e rmX7_cutsWith s m args below meth c H locs 0 0 Q (F0 m 76 ls []) := by
    intro x3 H locs ls hf hW hl
    rw [ek4] at hf
    refine lv_lload_n hx hb dX7_cutsWith_76 rfl (lv_at hl 0 rfl) ?_
    cases hf
    exact sp_lret S hr hlk hW hQ dX7_cutsWith_77
  have hlp5 : ∀ (n9 : Nat) (y1 : Int64) (y2 : Int32) (H : Heap) (locs : List Loc) (ls : Array Slot), sp_lp (f_X7_cutsWith_L5 k4 p2 p1) n9 (y1, y2) = some r' → sp_wd D A s.heap ([]) H locs → lv_has ls 7 [(0, .int p1), (1, .long p2), (3, .long y1), (5, .int y2)] → W p l e rmX7_cutsWith s m args below meth c H locs 0 0 Q (F0 m 5 ls []) := by
    intro n9
    induction n9 with
    | zero =>
      intro y1 y2 H locs ls hf hW hl
      exact (sp_lp0 hf).elim
    | succ n9 ih5 =>
      intro y1 y2 H locs ls hf hW hl
      have hf := sp_lpS hf
      rw [f_X7_cutsWith_L5_eq] at hf
      refine lv_iload hx hb dX7_cutsWith_5 (lv_at hl 3 rfl) ?_
      refine lv_bipush (v := 64) hx hb dX7_cutsWith_7 (by decide) ?_
      refine lv_icmp_ge (tgt := 76) hx hb dX7_cutsWith_9 (by decide) (fun hc => ?_) (fun hc => ?_)
      · have hf := sp_ht hf hc
        exact hj4 _ _ _ _ hf hW (lv_sub hl [2] rfl)
      · have hf := sp_hf hf hc
        refine lv_iload hx hb dX7_cutsWith_12 (lv_at hl 3 rfl) ?_
        refine lv_lload_n hx hb dX7_cutsWith_14 rfl (lv_at hl 1 rfl) ?_
        obtain ⟨r5, hc5, hf⟩ := sp_hc hf
        refine sp_callNi (rest := []) (host := RX9) S hK hG hA hW (c_X9_isIn y2 p2 hc5) (by decide) ⟨va_cnB 2 S.2.2.2.2 gX7_cutsWith_X9_isIn_n34 rfl rfl rfl (hG.1 (by decide) _ (List.mem_of_getElem? (i := 12) rfl)) lk2 (by decide +kernel) (by decide), lk1, trivial⟩ (isC := []) rfl rfl rfl (WS' := []) rfl rfl hl.1 (Nat.le_of_ble_eq_true rfl) dX7_cutsWith_15 ⟨Nat.zero_le _, Nat.zero_le _⟩ rfl (fun H locs hW => ?_)
        obtain ⟨k7, ek7, hf⟩ := sp_hb hf
        have hj7 : ∀ (x6 : Int64) (H : Heap) (locs : List Loc) (ls : Array Slot), k7 x6 = some r' → sp_wd D A s.heap ([]) H locs → lv_has ls 7 [(0, .int p1), (1, .long p2), (3, .long x6), (5, .int y2)] → W p l e rmX7_cutsWith s m args below meth c H locs 0 0 Q (F0 m 70 ls []) := by
          intro x6 H locs ls hf hW hl
          rw [ek7] at hf
          obtain ⟨v8, ev8, hf⟩ := sp_hb hf
          refine lv_iinc (v := v8) (lv' := [(5, .int v8), (0, .int p1), (1, .long p2), (3, .long x6)]) hx hb dX7_cutsWith_70 hl (k := 3) rfl (by rw [ev8]; rfl) (by decide) rfl (fun ls hl => ?_)
          refine lv_goto (tgt := 5) hx hb dX7_cutsWith_73 (by decide) ?_
          exact ih5 _ _ _ _ _ hf hW (lv_sub hl [1, 2, 3, 0] rfl)
        refine lv_if_ne (tgt := 24) hx hb dX7_cutsWith_18 (by decide) (fun hc => ?_) (fun hc => ?_)
        · have hf := sp_hf hf hc
          refine lv_iload_n hx hb dX7_cutsWith_24 rfl (lv_at hl 0 rfl) ?_
          refine lv_iload hx hb dX7_cutsWith_25 (lv_at hl 3 rfl) ?_
          refine lv_iconst (v := 3) hx hb dX7_cutsWith_27 (by decide) ?_
          refine lv_ishr hx hb dX7_cutsWith_28 ?_
          refine lv_iand hx hb dX7_cutsWith_29 ?_
          refine lv_iload_n hx hb dX7_cutsWith_30 rfl (lv_at hl 0 rfl) ?_
          refine lv_iconst (v := 3) hx hb dX7_cutsWith_31 (by decide) ?_
          refine lv_ishr hx hb dX7_cutsWith_32 ?_
          refine lv_iload hx hb dX7_cutsWith_33 (lv_at hl 3 rfl) ?_
          refine lv_iand hx hb dX7_cutsWith_35 ?_
          refine lv_ior hx hb dX7_cutsWith_36 ?_
          refine lv_bipush (v := 7) hx hb dX7_cutsWith_37 (by decide) ?_
          refine lv_iand hx hb dX7_cutsWith_39 ?_
          obtain ⟨v9, ev9, hf⟩ := sp_hb hf
          refine sp_topi ev9 ?_
          refine lv_istore (lv' := [(6, .int v9), (0, .int p1), (1, .long p2), (3, .long y1), (5, .int y2)]) hx hb dX7_cutsWith_40 hl (by decide) rfl (fun ls hl => ?_)
          refine lv_iload hx hb dX7_cutsWith_42 (lv_at hl 0 rfl) ?_
          obtain ⟨r10, hc10, hf⟩ := sp_hc hf
          refine sp_callSi (rest := []) S hK hG hA hW (c_J6_bitCount_0f7a4 v9 hc10) (by decide) (va_cwS 1 S.2.2.2.2 gX7_cutsWith_J6_bitCount_0f7a4 rfl rfl rfl (by decide +kernel) (by decide)) (isC := []) rfl rfl rfl (WS' := []) rfl rfl hl.1 (Nat.le_of_ble_eq_true rfl) dX7_cutsWith_44 ⟨Nat.zero_le _, Nat.zero_le _⟩ rfl (fun H locs hW => ?_)
          refine lv_iconst (v := 1) hx hb dX7_cutsWith_47 (by decide) ?_
          refine lv_icmp_ne (tgt := 70) hx hb dX7_cutsWith_48 (by decide) (fun hc => ?_) (fun hc => ?_)
          · have hf := sp_hf hf hc
            exact hj7 _ _ _ _ hf hW (lv_sub hl [1, 2, 3, 4] rfl)
          · have hf := sp_ht hf hc
            refine lv_lload_n hx hb dX7_cutsWith_51 rfl (lv_at hl 3 rfl) ?_
            refine lv_lconst (v := 1) hx hb dX7_cutsWith_52 (by decide) ?_
            refine lv_iload_n hx hb dX7_cutsWith_53 rfl (lv_at hl 1 rfl) ?_
            refine lv_iload hx hb dX7_cutsWith_54 (lv_at hl 4 rfl) ?_
            refine lv_ior hx hb dX7_cutsWith_56 ?_
            refine lv_iload hx hb dX7_cutsWith_57 (lv_at hl 0 rfl) ?_
            refine lv_iload hx hb dX7_cutsWith_59 (lv_at hl 0 rfl) ?_
            refine lv_iconst (v := 3) hx hb dX7_cutsWith_61 (by decide) ?_
            refine lv_ishl hx hb dX7_cutsWith_62 ?_
            refine lv_ior hx hb dX7_cutsWith_63 ?_
            refine lv_iconst (v := (-1)) hx hb dX7_cutsWith_64 (by decide) ?_
            refine lv_ixor hx hb dX7_cutsWith_65 ?_
            refine lv_iand hx hb dX7_cutsWith_66 ?_
            refine lv_lshl hx hb dX7_cutsWith_67 rfl ?_
            refine lv_lor hx hb dX7_cutsWith_68 ?_
            obtain ⟨v11, ev11, hf⟩ := sp_hb hf
            refine sp_topl ev11 ?_
            refine lv_lstore_n (lv' := [(3, .long v11), (6, .int v9), (0, .int p1), (1, .long p2), (5, .int y2)]) hx hb dX7_cutsWith_69 rfl hl (by decide) rfl (fun ls hl => ?_)
            exact hj7 _ _ _ _ hf hW (lv_sub hl [2, 3, 0, 4] rfl)
        · have hf := sp_ht hf hc
          refine lv_goto (tgt := 70) hx hb dX7_cutsWith_21 (by decide) ?_
          exact hj7 _ _ _ _ hf hW (lv_sub hl [0, 1, 2, 3] rfl)
  exact hlp5 _ _ _ _ _ _ hf hW (lv_sub hl [2, 3, 1, 0] rfl)

def f_X7_furtherCuts_d0 (p1 : Int64) (p2 : Int64) (p3 : Int64) (p4 : Int32) : Option (Int32) := none
def rmX7_furtherCuts_d0 : Room := { frames := 0, cells := 0, slots := 0, locals := 0 }
set_option maxRecDepth 4000 in
theorem c_X7_furtherCuts_d0 {l : Launch} {D : va_G} {q5 : Nat → ClassId} (p1 : Int64) (p2 : Int64) (p3 : Int64) (p4 : Int32) {r' : Int32} (hf : f_X7_furtherCuts_d0 p1 p2 p3 p4 = some r') : sp_Ci l yX7_furtherCuts wsX7_furtherCuts rmX7_furtherCuts_d0 D q5 0 [.long p1, .long p2, .long p3, .int p4] ([]) r' ([]) := by
  intro sz
  refine sp_of (cc := cX7_furtherCuts) (maxL := 10) (ret := some .int) (own := RX7) (Qc := sp_Qi D r' ([])) (by decide) rfl rfl (Nat.le_of_ble_eq_true rfl) ?_
  intro p e s m args below meth c A ls Q hQ S hr hlk hK hG hA hW hl
  have hx := S.1
  have hb := S.2.1
  cases hf

def f_X7_furtherCuts_d1_L18 (k4 : Int32 → Option (Int32)) (p4 : Int32) (p2 : Int64) (p1 : Int64) (p3 : Int64) (rec18 : (Int32 × Int32) → Option (Int32)) (s9 : Int32 × Int32) : Option (Int32) := match s9 with
  | (y1, y2) => if (64 : Int32) ≤ y2 then (k4 y1) else (if p4 ≤ (1 : Int32) then (k4 y1) else (if y1 = (2 : Int32) then (k4 y1) else (Option.bind (f_X9_isIn y2 (p2 &&& (p1 ^^^ (-1 : Int64)))) (fun r5 => sp_bnd (fun (x6 : Int32) => sp_bnd (y2 + (1 : Int32)) (fun v8 => rec18 (x6, v8))) (fun k7 => if r5 = 0 then (k7 y1) else (Option.bind (f_X7_cutsWith y2 p1) (fun r9 => Option.bind (f_X7_furtherCuts_d0 (p1 ||| ((1 : Int64) <<< (y2.toInt64 &&& 63))) (p2 ||| r9) p3 (p4 - (1 : Int32))) (fun r10 => if r10 = (-9 : Int32) then (k7 y1) else (sp_bnd (sp_bnd (r10 + (1 : Int32)) (fun v12 => k7 v12)) (fun k11 => if y1 = (-9 : Int32) then k11 else (if y1 ≤ (r10 + (1 : Int32)) then (k7 y1) else k11)))))))))))
theorem f_X7_furtherCuts_d1_L18_eq {rec18 : (Int32 × Int32) → Option (Int32)} {k4 : Int32 → Option (Int32)} {p4 : Int32} {p2 : Int64} {p1 : Int64} {p3 : Int64} {y1 : Int32} {y2 : Int32} : f_X7_furtherCuts_d1_L18 k4 p4 p2 p1 p3 rec18 (y1, y2) = (if (64 : Int32) ≤ y2 then (k4 y1) else (if p4 ≤ (1 : Int32) then (k4 y1) else (if y1 = (2 : Int32) then (k4 y1) else (Option.bind (f_X9_isIn y2 (p2 &&& (p1 ^^^ (-1 : Int64)))) (fun r5 => sp_bnd (fun (x6 : Int32) => sp_bnd (y2 + (1 : Int32)) (fun v8 => rec18 (x6, v8))) (fun k7 => if r5 = 0 then (k7 y1) else (Option.bind (f_X7_cutsWith y2 p1) (fun r9 => Option.bind (f_X7_furtherCuts_d0 (p1 ||| ((1 : Int64) <<< (y2.toInt64 &&& 63))) (p2 ||| r9) p3 (p4 - (1 : Int32))) (fun r10 => if r10 = (-9 : Int32) then (k7 y1) else (sp_bnd (sp_bnd (r10 + (1 : Int32)) (fun v12 => k7 v12)) (fun k11 => if y1 = (-9 : Int32) then k11 else (if y1 ≤ (r10 + (1 : Int32)) then (k7 y1) else k11)))))))))))) := rfl
def f_X7_furtherCuts_d1 (p1 : Int64) (p2 : Int64) (p3 : Int64) (p4 : Int32) : Option (Int32) := if (lg_cmp (p2 &&& p3) (0 : Int64)) = 0 then (sp_bnd (fun (x3 : Int32) => some x3) (fun k4 => sp_lp (f_X7_furtherCuts_d1_L18 k4 p4 p2 p1 p3) sp_F ((-9 : Int32), (0 : Int32)))) else (some (1 : Int32))
def rmX7_furtherCuts_d1 : Room := { frames := 2, cells := 0, slots := 0, locals := 48 }
set_option maxRecDepth 4000 in
theorem c_X7_furtherCuts_d1 {l : Launch} {D : va_G} {q5 : Nat → ClassId} (p1 : Int64) (p2 : Int64) (p3 : Int64) (p4 : Int32) {r' : Int32} (hf : f_X7_furtherCuts_d1 p1 p2 p3 p4 = some r') : sp_Ci l yX7_furtherCuts wsX7_furtherCuts rmX7_furtherCuts_d1 D q5 1 [.long p1, .long p2, .long p3, .int p4] ([]) r' ([]) := by
  intro sz
  refine sp_of (cc := cX7_furtherCuts) (maxL := 10) (ret := some .int) (own := RX7) (Qc := sp_Qi D r' ([])) (by decide) rfl rfl (Nat.le_of_ble_eq_true rfl) ?_
  intro p e s m args below meth c A ls Q hQ S hr hlk hK hG hA hW hl
  have hx := S.1
  have hb := S.2.1
  unfold f_X7_furtherCuts_d1 at hf
  have lk1 := S.2.2.2.2 (Cond.constantLong RX7 51 (-1)) (List.mem_of_getElem? (i := 1) rfl)
  have lk2 := S.2.2.2.2 (Cond.static yX9_isIn) (List.mem_of_getElem? (i := 2) rfl)
  have lk3 := S.2.2.2.2 (Cond.initialized RX9) (List.mem_of_getElem? (i := 3) rfl)
  refine lv_lload_n hx hb dX7_furtherCuts_0 rfl (lv_at hl 1 rfl) ?_
  refine lv_lload hx hb dX7_furtherCuts_1 (lv_at hl 2 rfl) ?_
  refine lv_land hx hb dX7_furtherCuts_3 ?_
  refine lv_lconst (v := 0) hx hb dX7_furtherCuts_4 (by decide) ?_
  refine W.lcmp hx hb dX7_furtherCuts_5 ?_
  refine lv_if_eq (tgt := 11) hx hb dX7_furtherCuts_6 (by decide) (fun hc => ?_) (fun hc => ?_)
  · have hf := sp_ht hf hc
    refine lv_bipush (v := (-9)) hx hb dX7_furtherCuts_11 (by decide) ?_
    refine lv_istore (lv' := [(7, .int (-9 : Int32)), (0, .long p1), (2, .long p2), (4, .long p3), (6, .int p4)]) hx hb dX7_furtherCuts_13 hl (by decide) rfl (fun ls hl => ?_)
    refine lv_iconst (v := 0) hx hb dX7_furtherCuts_15 (by decide) ?_
    refine lv_istore (lv' := [(8, .int (0 : Int32)), (7, .int (-9 : Int32)), (0, .long p1), (2, .long p2), (4, .long p3), (6, .int p4)]) hx hb dX7_furtherCuts_16 hl (by decide) rfl (fun ls hl => ?_)
    obtain ⟨k4, ek4, hf⟩ := sp_hb hf
    have hj4 : ∀ (x3 : Int32) (H : Heap) (locs : List Loc) (ls : Array Slot), k4 x3 = some r' → sp_wd D A s.heap ([]) H locs → lv_has ls 10 [(7, .int x3)] → W p l e rmX7_furtherCuts_d1 s m args below meth c H locs 0 0 Q (F0 m 115 ls []) := by
      intro x3 H locs ls hf hW hl
      rw [ek4] at hf
      refine lv_iload hx hb dX7_furtherCuts_115 (lv_at hl 0 rfl) ?_
      cases hf
      exact sp_iret S hr hlk hW hQ dX7_furtherCuts_117
    have hlp18 : ∀ (n9 : Nat) (y1 : Int32) (y2 : Int32) (H : Heap) (locs : List Loc) (ls : Array Slot), sp_lp (f_X7_furtherCuts_d1_L18 k4 p4 p2 p1 p3) n9 (y1, y2) = some r' → sp_wd D A s.heap ([]) H locs → lv_has ls 10 [(0, .long p1), (2, .long p2), (4, .long p3), (6, .int p4), (7, .int y1), (8, .int y2)] → W p l e rmX7_furtherCuts_d1 s m args below meth c H locs 0 0 Q (F0 m 18 ls []) := by
      intro n9
      induction n9 with
      | zero =>
        intro y1 y2 H locs ls hf hW hl
        exact (sp_lp0 hf).elim
      | succ n9 ih18 =>
        intro y1 y2 H locs ls hf hW hl
        have hf := sp_lpS hf
        rw [f_X7_furtherCuts_d1_L18_eq] at hf
        refine lv_iload hx hb dX7_furtherCuts_18 (lv_at hl 5 rfl) ?_
        refine lv_bipush (v := 64) hx hb dX7_furtherCuts_20 (by decide) ?_
        refine lv_icmp_ge (tgt := 115) hx hb dX7_furtherCuts_22 (by decide) (fun hc => ?_) (fun hc => ?_)
        · have hf := sp_ht hf hc
          exact hj4 _ _ _ _ hf hW (lv_sub hl [4] rfl)
        · have hf := sp_hf hf hc
          refine lv_iload hx hb dX7_furtherCuts_25 (lv_at hl 3 rfl) ?_
          refine lv_iconst (v := 1) hx hb dX7_furtherCuts_27 (by decide) ?_
          refine lv_icmp_le (tgt := 115) hx hb dX7_furtherCuts_28 (by decide) (fun hc => ?_) (fun hc => ?_)
          · have hf := sp_ht hf hc
            exact hj4 _ _ _ _ hf hW (lv_sub hl [4] rfl)
          · have hf := sp_hf hf hc
            refine lv_iload hx hb dX7_furtherCuts_31 (lv_at hl 4 rfl) ?_
            refine lv_iconst (v := 2) hx hb dX7_furtherCuts_33 (by decide) ?_
            refine lv_icmp_eq (tgt := 115) hx hb dX7_furtherCuts_34 (by decide) (fun hc => ?_) (fun hc => ?_)
            · have hf := sp_ht hf hc
              exact hj4 _ _ _ _ hf hW (lv_sub hl [4] rfl)
            · have hf := sp_hf hf hc
              refine lv_iload hx hb dX7_furtherCuts_37 (lv_at hl 5 rfl) ?_
              refine lv_lload_n hx hb dX7_furtherCuts_39 rfl (lv_at hl 1 rfl) ?_
              refine lv_lload_n hx hb dX7_furtherCuts_40 rfl (lv_at hl 0 rfl) ?_
              refine lv_ldc2 hx hb S.2.2.2.1 lk1 dX7_furtherCuts_41 ?_
              refine lv_lxor hx hb dX7_furtherCuts_44 ?_
              refine lv_land hx hb dX7_furtherCuts_45 ?_
              obtain ⟨r5, hc5, hf⟩ := sp_hc hf
              refine sp_callNi (rest := []) (host := RX9) S hK hG hA hW (c_X9_isIn y2 (p2 &&& (p1 ^^^ (-1 : Int64))) hc5) (by decide) ⟨va_cnB 2 S.2.2.2.2 gX7_furtherCuts_X9_isIn_n34 rfl rfl rfl (hG.1 (by decide) _ (List.mem_of_getElem? (i := 12) rfl)) lk3 (by decide +kernel) (by decide), lk2, trivial⟩ (isC := []) rfl rfl rfl (WS' := []) rfl rfl hl.1 (Nat.le_of_ble_eq_true rfl) dX7_furtherCuts_46 ⟨Nat.zero_le _, Nat.zero_le _⟩ rfl (fun H locs hW => ?_)
              obtain ⟨k7, ek7, hf⟩ := sp_hb hf
              have hj7 : ∀ (x6 : Int32) (H : Heap) (locs : List Loc) (ls : Array Slot), k7 x6 = some r' → sp_wd D A s.heap ([]) H locs → lv_has ls 10 [(0, .long p1), (2, .long p2), (4, .long p3), (6, .int p4), (7, .int x6), (8, .int y2)] → W p l e rmX7_furtherCuts_d1 s m args below meth c H locs 0 0 Q (F0 m 109 ls []) := by
                intro x6 H locs ls hf hW hl
                rw [ek7] at hf
                obtain ⟨v8, ev8, hf⟩ := sp_hb hf
                refine lv_iinc (v := v8) (lv' := [(8, .int v8), (0, .long p1), (2, .long p2), (4, .long p3), (6, .int p4), (7, .int x6)]) hx hb dX7_furtherCuts_109 hl (k := 5) rfl (by rw [ev8]; rfl) (by decide) rfl (fun ls hl => ?_)
                refine lv_goto (tgt := 18) hx hb dX7_furtherCuts_112 (by decide) ?_
                exact ih18 _ _ _ _ _ hf hW (lv_sub hl [1, 2, 3, 4, 5, 0] rfl)
              refine lv_if_ne (tgt := 55) hx hb dX7_furtherCuts_49 (by decide) (fun hc => ?_) (fun hc => ?_)
              · have hf := sp_hf hf hc
                refine lv_lload_n hx hb dX7_furtherCuts_55 rfl (lv_at hl 0 rfl) ?_
                refine lv_lconst (v := 1) hx hb dX7_furtherCuts_56 (by decide) ?_
                refine lv_iload hx hb dX7_furtherCuts_57 (lv_at hl 5 rfl) ?_
                refine lv_lshl hx hb dX7_furtherCuts_59 rfl ?_
                refine lv_lor hx hb dX7_furtherCuts_60 ?_
                refine lv_lload_n hx hb dX7_furtherCuts_61 rfl (lv_at hl 1 rfl) ?_
                refine lv_iload hx hb dX7_furtherCuts_62 (lv_at hl 5 rfl) ?_
                refine lv_lload_n hx hb dX7_furtherCuts_64 rfl (lv_at hl 0 rfl) ?_
                obtain ⟨r9, hc9, hf⟩ := sp_hc hf
                refine sp_callSl (rest := [.long p2, .long (p1 ||| ((1 : Int64) <<< (y2.toInt64 &&& 63)))]) S hK hG hA hW (c_X7_cutsWith y2 p1 hc9) (by decide) (va_cwS 2 S.2.2.2.2 gX7_furtherCuts_X7_cutsWith rfl rfl rfl (by decide +kernel) (by decide)) (isC := []) rfl rfl rfl (WS' := []) rfl rfl hl.1 (Nat.le_of_ble_eq_true rfl) dX7_furtherCuts_65 ⟨Nat.zero_le _, Nat.zero_le _⟩ rfl (fun H locs hW => ?_)
                refine lv_lor hx hb dX7_furtherCuts_68 ?_
                refine lv_lload hx hb dX7_furtherCuts_69 (lv_at hl 2 rfl) ?_
                refine lv_iload hx hb dX7_furtherCuts_71 (lv_at hl 3 rfl) ?_
                refine lv_iconst (v := 1) hx hb dX7_furtherCuts_73 (by decide) ?_
                refine lv_isub hx hb dX7_furtherCuts_74 ?_
                obtain ⟨r10, hc10, hf⟩ := sp_hc hf
                refine sp_callSi (rest := []) S hK hG hA hW (c_X7_furtherCuts_d0 (p1 ||| ((1 : Int64) <<< (y2.toInt64 &&& 63))) (p2 ||| r9) p3 (p4 - (1 : Int32)) hc10) (by decide) (va_cwS 4 S.2.2.2.2 gX7_furtherCuts_X7_furtherCuts rfl rfl rfl (by decide +kernel) (by decide)) (isC := []) rfl rfl rfl (WS' := []) rfl rfl hl.1 (Nat.le_of_ble_eq_true rfl) dX7_furtherCuts_75 ⟨Nat.zero_le _, Nat.zero_le _⟩ rfl (fun H locs hW => ?_)
                refine lv_istore (lv' := [(9, .int r10), (0, .long p1), (2, .long p2), (4, .long p3), (6, .int p4), (7, .int y1), (8, .int y2)]) hx hb dX7_furtherCuts_78 hl (by decide) rfl (fun ls hl => ?_)
                refine lv_iload hx hb dX7_furtherCuts_80 (lv_at hl 0 rfl) ?_
                refine lv_bipush (v := (-9)) hx hb dX7_furtherCuts_82 (by decide) ?_
                refine lv_icmp_eq (tgt := 109) hx hb dX7_furtherCuts_84 (by decide) (fun hc => ?_) (fun hc => ?_)
                · have hf := sp_ht hf hc
                  exact hj7 _ _ _ _ hf hW (lv_sub hl [1, 2, 3, 4, 5, 6] rfl)
                · have hf := sp_hf hf hc
                  refine lv_iload hx hb dX7_furtherCuts_87 (lv_at hl 5 rfl) ?_
                  refine lv_bipush (v := (-9)) hx hb dX7_furtherCuts_89 (by decide) ?_
                  obtain ⟨k11, ek11, hf⟩ := sp_hb hf
                  have hj11 : ∀ (H : Heap) (locs : List Loc) (ls : Array Slot), k11 = some r' → sp_wd D A s.heap ([]) H locs → lv_has ls 10 [(0, .long p1), (2, .long p2), (4, .long p3), (6, .int p4), (8, .int y2), (9, .int r10)] → W p l e rmX7_furtherCuts_d1 s m args below meth c H locs 0 0 Q (F0 m 103 ls []) := by
                    intro H locs ls hf hW hl
                    rw [ek11] at hf
                    refine lv_iload hx hb dX7_furtherCuts_103 (lv_at hl 5 rfl) ?_
                    refine lv_iconst (v := 1) hx hb dX7_furtherCuts_105 (by decide) ?_
                    refine lv_iadd hx hb dX7_furtherCuts_106 ?_
                    obtain ⟨v12, ev12, hf⟩ := sp_hb hf
                    refine sp_topi ev12 ?_
                    refine lv_istore (lv' := [(7, .int v12), (0, .long p1), (2, .long p2), (4, .long p3), (6, .int p4), (8, .int y2), (9, .int r10)]) hx hb dX7_furtherCuts_107 hl (by decide) rfl (fun ls hl => ?_)
                    exact hj7 _ _ _ _ hf hW (lv_sub hl [1, 2, 3, 4, 0, 5] rfl)
                  refine lv_icmp_eq (tgt := 103) hx hb dX7_furtherCuts_91 (by decide) (fun hc => ?_) (fun hc => ?_)
                  · have hf := sp_ht hf hc
                    exact hj11 _ _ _ hf hW (lv_sub hl [1, 2, 3, 4, 6, 0] rfl)
                  · have hf := sp_hf hf hc
                    refine lv_iload hx hb dX7_furtherCuts_94 (lv_at hl 0 rfl) ?_
                    refine lv_iconst (v := 1) hx hb dX7_furtherCuts_96 (by decide) ?_
                    refine lv_iadd hx hb dX7_furtherCuts_97 ?_
                    refine lv_iload hx hb dX7_furtherCuts_98 (lv_at hl 5 rfl) ?_
                    refine lv_icmp_ge (tgt := 109) hx hb dX7_furtherCuts_100 (by decide) (fun hc => ?_) (fun hc => ?_)
                    · have hf := sp_ht hf hc
                      exact hj7 _ _ _ _ hf hW (lv_sub hl [1, 2, 3, 4, 5, 6] rfl)
                    · have hf := sp_hf hf hc
                      exact hj11 _ _ _ hf hW (lv_sub hl [1, 2, 3, 4, 6, 0] rfl)
              · have hf := sp_ht hf hc
                refine lv_goto (tgt := 109) hx hb dX7_furtherCuts_52 (by decide) ?_
                exact hj7 _ _ _ _ hf hW (lv_sub hl [0, 1, 2, 3, 4, 5] rfl)
    exact hlp18 _ _ _ _ _ _ hf hW (lv_sub hl [2, 3, 4, 5, 1, 0] rfl)
  · have hf := sp_hf hf hc
    refine lv_iconst (v := 1) hx hb dX7_furtherCuts_9 (by decide) ?_
    cases hf
    exact sp_iret S hr hlk hW hQ dX7_furtherCuts_10

def f_X7_furtherCuts_d2_L18 (k4 : Int32 → Option (Int32)) (p4 : Int32) (p2 : Int64) (p1 : Int64) (p3 : Int64) (rec18 : (Int32 × Int32) → Option (Int32)) (s9 : Int32 × Int32) : Option (Int32) := match s9 with
  | (y1, y2) => if (64 : Int32) ≤ y2 then (k4 y1) else (if p4 ≤ (1 : Int32) then (k4 y1) else (if y1 = (2 : Int32) then (k4 y1) else (Option.bind (f_X9_isIn y2 (p2 &&& (p1 ^^^ (-1 : Int64)))) (fun r5 => sp_bnd (fun (x6 : Int32) => sp_bnd (y2 + (1 : Int32)) (fun v8 => rec18 (x6, v8))) (fun k7 => if r5 = 0 then (k7 y1) else (Option.bind (f_X7_cutsWith y2 p1) (fun r9 => Option.bind (f_X7_furtherCuts_d1 (p1 ||| ((1 : Int64) <<< (y2.toInt64 &&& 63))) (p2 ||| r9) p3 (p4 - (1 : Int32))) (fun r10 => if r10 = (-9 : Int32) then (k7 y1) else (sp_bnd (sp_bnd (r10 + (1 : Int32)) (fun v12 => k7 v12)) (fun k11 => if y1 = (-9 : Int32) then k11 else (if y1 ≤ (r10 + (1 : Int32)) then (k7 y1) else k11)))))))))))
theorem f_X7_furtherCuts_d2_L18_eq {rec18 : (Int32 × Int32) → Option (Int32)} {k4 : Int32 → Option (Int32)} {p4 : Int32} {p2 : Int64} {p1 : Int64} {p3 : Int64} {y1 : Int32} {y2 : Int32} : f_X7_furtherCuts_d2_L18 k4 p4 p2 p1 p3 rec18 (y1, y2) = (if (64 : Int32) ≤ y2 then (k4 y1) else (if p4 ≤ (1 : Int32) then (k4 y1) else (if y1 = (2 : Int32) then (k4 y1) else (Option.bind (f_X9_isIn y2 (p2 &&& (p1 ^^^ (-1 : Int64)))) (fun r5 => sp_bnd (fun (x6 : Int32) => sp_bnd (y2 + (1 : Int32)) (fun v8 => rec18 (x6, v8))) (fun k7 => if r5 = 0 then (k7 y1) else (Option.bind (f_X7_cutsWith y2 p1) (fun r9 => Option.bind (f_X7_furtherCuts_d1 (p1 ||| ((1 : Int64) <<< (y2.toInt64 &&& 63))) (p2 ||| r9) p3 (p4 - (1 : Int32))) (fun r10 => if r10 = (-9 : Int32) then (k7 y1) else (sp_bnd (sp_bnd (r10 + (1 : Int32)) (fun v12 => k7 v12)) (fun k11 => if y1 = (-9 : Int32) then k11 else (if y1 ≤ (r10 + (1 : Int32)) then (k7 y1) else k11)))))))))))) := rfl
def f_X7_furtherCuts_d2 (p1 : Int64) (p2 : Int64) (p3 : Int64) (p4 : Int32) : Option (Int32) := if (lg_cmp (p2 &&& p3) (0 : Int64)) = 0 then (sp_bnd (fun (x3 : Int32) => some x3) (fun k4 => sp_lp (f_X7_furtherCuts_d2_L18 k4 p4 p2 p1 p3) sp_F ((-9 : Int32), (0 : Int32)))) else (some (1 : Int32))
def rmX7_furtherCuts_d2 : Room := { frames := 3, cells := 0, slots := 0, locals := 77 }
set_option maxRecDepth 4000 in
theorem c_X7_furtherCuts_d2 {l : Launch} {D : va_G} {q5 : Nat → ClassId} (p1 : Int64) (p2 : Int64) (p3 : Int64) (p4 : Int32) {r' : Int32} (hf : f_X7_furtherCuts_d2 p1 p2 p3 p4 = some r') : sp_Ci l yX7_furtherCuts wsX7_furtherCuts rmX7_furtherCuts_d2 D q5 1 [.long p1, .long p2, .long p3, .int p4] ([]) r' ([]) := by
  intro sz
  refine sp_of (cc := cX7_furtherCuts) (maxL := 10) (ret := some .int) (own := RX7) (Qc := sp_Qi D r' ([])) (by decide) rfl rfl (Nat.le_of_ble_eq_true rfl) ?_
  intro p e s m args below meth c A ls Q hQ S hr hlk hK hG hA hW hl
  have hx := S.1
  have hb := S.2.1
  unfold f_X7_furtherCuts_d2 at hf
  have lk1 := S.2.2.2.2 (Cond.constantLong RX7 51 (-1)) (List.mem_of_getElem? (i := 1) rfl)
  have lk2 := S.2.2.2.2 (Cond.static yX9_isIn) (List.mem_of_getElem? (i := 2) rfl)
  have lk3 := S.2.2.2.2 (Cond.initialized RX9) (List.mem_of_getElem? (i := 3) rfl)
  refine lv_lload_n hx hb dX7_furtherCuts_0 rfl (lv_at hl 1 rfl) ?_
  refine lv_lload hx hb dX7_furtherCuts_1 (lv_at hl 2 rfl) ?_
  refine lv_land hx hb dX7_furtherCuts_3 ?_
  refine lv_lconst (v := 0) hx hb dX7_furtherCuts_4 (by decide) ?_
  refine W.lcmp hx hb dX7_furtherCuts_5 ?_
  refine lv_if_eq (tgt := 11) hx hb dX7_furtherCuts_6 (by decide) (fun hc => ?_) (fun hc => ?_)
  · have hf := sp_ht hf hc
    refine lv_bipush (v := (-9)) hx hb dX7_furtherCuts_11 (by decide) ?_
    refine lv_istore (lv' := [(7, .int (-9 : Int32)), (0, .long p1), (2, .long p2), (4, .long p3), (6, .int p4)]) hx hb dX7_furtherCuts_13 hl (by decide) rfl (fun ls hl => ?_)
    refine lv_iconst (v := 0) hx hb dX7_furtherCuts_15 (by decide) ?_
    refine lv_istore (lv' := [(8, .int (0 : Int32)), (7, .int (-9 : Int32)), (0, .long p1), (2, .long p2), (4, .long p3), (6, .int p4)]) hx hb dX7_furtherCuts_16 hl (by decide) rfl (fun ls hl => ?_)
    obtain ⟨k4, ek4, hf⟩ := sp_hb hf
    have hj4 : ∀ (x3 : Int32) (H : Heap) (locs : List Loc) (ls : Array Slot), k4 x3 = some r' → sp_wd D A s.heap ([]) H locs → lv_has ls 10 [(7, .int x3)] → W p l e rmX7_furtherCuts_d2 s m args below meth c H locs 0 0 Q (F0 m 115 ls []) := by
      intro x3 H locs ls hf hW hl
      rw [ek4] at hf
      refine lv_iload hx hb dX7_furtherCuts_115 (lv_at hl 0 rfl) ?_
      cases hf
      exact sp_iret S hr hlk hW hQ dX7_furtherCuts_117
    have hlp18 : ∀ (n9 : Nat) (y1 : Int32) (y2 : Int32) (H : Heap) (locs : List Loc) (ls : Array Slot), sp_lp (f_X7_furtherCuts_d2_L18 k4 p4 p2 p1 p3) n9 (y1, y2) = some r' → sp_wd D A s.heap ([]) H locs → lv_has ls 10 [(0, .long p1), (2, .long p2), (4, .long p3), (6, .int p4), (7, .int y1), (8, .int y2)] → W p l e rmX7_furtherCuts_d2 s m args below meth c H locs 0 0 Q (F0 m 18 ls []) := by
      intro n9
      induction n9 with
      | zero =>
        intro y1 y2 H locs ls hf hW hl
        exact (sp_lp0 hf).elim
      | succ n9 ih18 =>
        intro y1 y2 H locs ls hf hW hl
        have hf := sp_lpS hf
        rw [f_X7_furtherCuts_d2_L18_eq] at hf
        refine lv_iload hx hb dX7_furtherCuts_18 (lv_at hl 5 rfl) ?_
        refine lv_bipush (v := 64) hx hb dX7_furtherCuts_20 (by decide) ?_
        refine lv_icmp_ge (tgt := 115) hx hb dX7_furtherCuts_22 (by decide) (fun hc => ?_) (fun hc => ?_)
        · have hf := sp_ht hf hc
          exact hj4 _ _ _ _ hf hW (lv_sub hl [4] rfl)
        · have hf := sp_hf hf hc
          refine lv_iload hx hb dX7_furtherCuts_25 (lv_at hl 3 rfl) ?_
          refine lv_iconst (v := 1) hx hb dX7_furtherCuts_27 (by decide) ?_
          refine lv_icmp_le (tgt := 115) hx hb dX7_furtherCuts_28 (by decide) (fun hc => ?_) (fun hc => ?_)
          · have hf := sp_ht hf hc
            exact hj4 _ _ _ _ hf hW (lv_sub hl [4] rfl)
          · have hf := sp_hf hf hc
            refine lv_iload hx hb dX7_furtherCuts_31 (lv_at hl 4 rfl) ?_
            refine lv_iconst (v := 2) hx hb dX7_furtherCuts_33 (by decide) ?_
            refine lv_icmp_eq (tgt := 115) hx hb dX7_furtherCuts_34 (by decide) (fun hc => ?_) (fun hc => ?_)
            · have hf := sp_ht hf hc
              exact hj4 _ _ _ _ hf hW (lv_sub hl [4] rfl)
            · have hf := sp_hf hf hc
              refine lv_iload hx hb dX7_furtherCuts_37 (lv_at hl 5 rfl) ?_
              refine lv_lload_n hx hb dX7_furtherCuts_39 rfl (lv_at hl 1 rfl) ?_
              refine lv_lload_n hx hb dX7_furtherCuts_40 rfl (lv_at hl 0 rfl) ?_
              refine lv_ldc2 hx hb S.2.2.2.1 lk1 dX7_furtherCuts_41 ?_
              refine lv_lxor hx hb dX7_furtherCuts_44 ?_
              refine lv_land hx hb dX7_furtherCuts_45 ?_
              obtain ⟨r5, hc5, hf⟩ := sp_hc hf
              refine sp_callNi (rest := []) (host := RX9) S hK hG hA hW (c_X9_isIn y2 (p2 &&& (p1 ^^^ (-1 : Int64))) hc5) (by decide) ⟨va_cnB 2 S.2.2.2.2 gX7_furtherCuts_X9_isIn_n34 rfl rfl rfl (hG.1 (by decide) _ (List.mem_of_getElem? (i := 12) rfl)) lk3 (by decide +kernel) (by decide), lk2, trivial⟩ (isC := []) rfl rfl rfl (WS' := []) rfl rfl hl.1 (Nat.le_of_ble_eq_true rfl) dX7_furtherCuts_46 ⟨Nat.zero_le _, Nat.zero_le _⟩ rfl (fun H locs hW => ?_)
              obtain ⟨k7, ek7, hf⟩ := sp_hb hf
              have hj7 : ∀ (x6 : Int32) (H : Heap) (locs : List Loc) (ls : Array Slot), k7 x6 = some r' → sp_wd D A s.heap ([]) H locs → lv_has ls 10 [(0, .long p1), (2, .long p2), (4, .long p3), (6, .int p4), (7, .int x6), (8, .int y2)] → W p l e rmX7_furtherCuts_d2 s m args below meth c H locs 0 0 Q (F0 m 109 ls []) := by
                intro x6 H locs ls hf hW hl
                rw [ek7] at hf
                obtain ⟨v8, ev8, hf⟩ := sp_hb hf
                refine lv_iinc (v := v8) (lv' := [(8, .int v8), (0, .long p1), (2, .long p2), (4, .long p3), (6, .int p4), (7, .int x6)]) hx hb dX7_furtherCuts_109 hl (k := 5) rfl (by rw [ev8]; rfl) (by decide) rfl (fun ls hl => ?_)
                refine lv_goto (tgt := 18) hx hb dX7_furtherCuts_112 (by decide) ?_
                exact ih18 _ _ _ _ _ hf hW (lv_sub hl [1, 2, 3, 4, 5, 0] rfl)
              refine lv_if_ne (tgt := 55) hx hb dX7_furtherCuts_49 (by decide) (fun hc => ?_) (fun hc => ?_)
              · have hf := sp_hf hf hc
                refine lv_lload_n hx hb dX7_furtherCuts_55 rfl (lv_at hl 0 rfl) ?_
                refine lv_lconst (v := 1) hx hb dX7_furtherCuts_56 (by decide) ?_
                refine lv_iload hx hb dX7_furtherCuts_57 (lv_at hl 5 rfl) ?_
                refine lv_lshl hx hb dX7_furtherCuts_59 rfl ?_
                refine lv_lor hx hb dX7_furtherCuts_60 ?_
                refine lv_lload_n hx hb dX7_furtherCuts_61 rfl (lv_at hl 1 rfl) ?_
                refine lv_iload hx hb dX7_furtherCuts_62 (lv_at hl 5 rfl) ?_
                refine lv_lload_n hx hb dX7_furtherCuts_64 rfl (lv_at hl 0 rfl) ?_
                obtain ⟨r9, hc9, hf⟩ := sp_hc hf
                refine sp_callSl (rest := [.long p2, .long (p1 ||| ((1 : Int64) <<< (y2.toInt64 &&& 63)))]) S hK hG hA hW (c_X7_cutsWith y2 p1 hc9) (by decide) (va_cwS 2 S.2.2.2.2 gX7_furtherCuts_X7_cutsWith rfl rfl rfl (by decide +kernel) (by decide)) (isC := []) rfl rfl rfl (WS' := []) rfl rfl hl.1 (Nat.le_of_ble_eq_true rfl) dX7_furtherCuts_65 ⟨Nat.zero_le _, Nat.zero_le _⟩ rfl (fun H locs hW => ?_)
                refine lv_lor hx hb dX7_furtherCuts_68 ?_
                refine lv_lload hx hb dX7_furtherCuts_69 (lv_at hl 2 rfl) ?_
                refine lv_iload hx hb dX7_furtherCuts_71 (lv_at hl 3 rfl) ?_
                refine lv_iconst (v := 1) hx hb dX7_furtherCuts_73 (by decide) ?_
                refine lv_isub hx hb dX7_furtherCuts_74 ?_
                obtain ⟨r10, hc10, hf⟩ := sp_hc hf
                refine sp_callSi (rest := []) S hK hG hA hW (c_X7_furtherCuts_d1 (p1 ||| ((1 : Int64) <<< (y2.toInt64 &&& 63))) (p2 ||| r9) p3 (p4 - (1 : Int32)) hc10) (by decide) (va_cwS 4 S.2.2.2.2 gX7_furtherCuts_X7_furtherCuts rfl rfl rfl (by decide +kernel) (by decide)) (isC := []) rfl rfl rfl (WS' := []) rfl rfl hl.1 (Nat.le_of_ble_eq_true rfl) dX7_furtherCuts_75 ⟨Nat.zero_le _, Nat.zero_le _⟩ rfl (fun H locs hW => ?_)
                refine lv_istore (lv' := [(9, .int r10), (0, .long p1), (2, .long p2), (4, .long p3), (6, .int p4), (7, .int y1), (8, .int y2)]) hx hb dX7_furtherCuts_78 hl (by decide) rfl (fun ls hl => ?_)
                refine lv_iload hx hb dX7_furtherCuts_80 (lv_at hl 0 rfl) ?_
                refine lv_bipush (v := (-9)) hx hb dX7_furtherCuts_82 (by decide) ?_
                refine lv_icmp_eq (tgt := 109) hx hb dX7_furtherCuts_84 (by decide) (fun hc => ?_) (fun hc => ?_)
                · have hf := sp_ht hf hc
                  exact hj7 _ _ _ _ hf hW (lv_sub hl [1, 2, 3, 4, 5, 6] rfl)
                · have hf := sp_hf hf hc
                  refine lv_iload hx hb dX7_furtherCuts_87 (lv_at hl 5 rfl) ?_
                  refine lv_bipush (v := (-9)) hx hb dX7_furtherCuts_89 (by decide) ?_
                  obtain ⟨k11, ek11, hf⟩ := sp_hb hf
                  have hj11 : ∀ (H : Heap) (locs : List Loc) (ls : Array Slot), k11 = some r' → sp_wd D A s.heap ([]) H locs → lv_has ls 10 [(0, .long p1), (2, .long p2), (4, .long p3), (6, .int p4), (8, .int y2), (9, .int r10)] → W p l e rmX7_furtherCuts_d2 s m args below meth c H locs 0 0 Q (F0 m 103 ls []) := by
                    intro H locs ls hf hW hl
                    rw [ek11] at hf
                    refine lv_iload hx hb dX7_furtherCuts_103 (lv_at hl 5 rfl) ?_
                    refine lv_iconst (v := 1) hx hb dX7_furtherCuts_105 (by decide) ?_
                    refine lv_iadd hx hb dX7_furtherCuts_106 ?_
                    obtain ⟨v12, ev12, hf⟩ := sp_hb hf
                    refine sp_topi ev12 ?_
                    refine lv_istore (lv' := [(7, .int v12), (0, .long p1), (2, .long p2), (4, .long p3), (6, .int p4), (8, .int y2), (9, .int r10)]) hx hb dX7_furtherCuts_107 hl (by decide) rfl (fun ls hl => ?_)
                    exact hj7 _ _ _ _ hf hW (lv_sub hl [1, 2, 3, 4, 0, 5] rfl)
                  refine lv_icmp_eq (tgt := 103) hx hb dX7_furtherCuts_91 (by decide) (fun hc => ?_) (fun hc => ?_)
                  · have hf := sp_ht hf hc
                    exact hj11 _ _ _ hf hW (lv_sub hl [1, 2, 3, 4, 6, 0] rfl)
                  · have hf := sp_hf hf hc
                    refine lv_iload hx hb dX7_furtherCuts_94 (lv_at hl 0 rfl) ?_
                    refine lv_iconst (v := 1) hx hb dX7_furtherCuts_96 (by decide) ?_
                    refine lv_iadd hx hb dX7_furtherCuts_97 ?_
                    refine lv_iload hx hb dX7_furtherCuts_98 (lv_at hl 5 rfl) ?_
                    refine lv_icmp_ge (tgt := 109) hx hb dX7_furtherCuts_100 (by decide) (fun hc => ?_) (fun hc => ?_)
                    · have hf := sp_ht hf hc
                      exact hj7 _ _ _ _ hf hW (lv_sub hl [1, 2, 3, 4, 5, 6] rfl)
                    · have hf := sp_hf hf hc
                      exact hj11 _ _ _ hf hW (lv_sub hl [1, 2, 3, 4, 6, 0] rfl)
              · have hf := sp_ht hf hc
                refine lv_goto (tgt := 109) hx hb dX7_furtherCuts_52 (by decide) ?_
                exact hj7 _ _ _ _ hf hW (lv_sub hl [0, 1, 2, 3, 4, 5] rfl)
    exact hlp18 _ _ _ _ _ _ hf hW (lv_sub hl [2, 3, 4, 5, 1, 0] rfl)
  · have hf := sp_hf hf hc
    refine lv_iconst (v := 1) hx hb dX7_furtherCuts_9 (by decide) ?_
    cases hf
    exact sp_iret S hr hlk hW hQ dX7_furtherCuts_10

def f_X7_furtherCuts_d3_L18 (k4 : Int32 → Option (Int32)) (p4 : Int32) (p2 : Int64) (p1 : Int64) (p3 : Int64) (rec18 : (Int32 × Int32) → Option (Int32)) (s9 : Int32 × Int32) : Option (Int32) := match s9 with
  | (y1, y2) => if (64 : Int32) ≤ y2 then (k4 y1) else (if p4 ≤ (1 : Int32) then (k4 y1) else (if y1 = (2 : Int32) then (k4 y1) else (Option.bind (f_X9_isIn y2 (p2 &&& (p1 ^^^ (-1 : Int64)))) (fun r5 => sp_bnd (fun (x6 : Int32) => sp_bnd (y2 + (1 : Int32)) (fun v8 => rec18 (x6, v8))) (fun k7 => if r5 = 0 then (k7 y1) else (Option.bind (f_X7_cutsWith y2 p1) (fun r9 => Option.bind (f_X7_furtherCuts_d2 (p1 ||| ((1 : Int64) <<< (y2.toInt64 &&& 63))) (p2 ||| r9) p3 (p4 - (1 : Int32))) (fun r10 => if r10 = (-9 : Int32) then (k7 y1) else (sp_bnd (sp_bnd (r10 + (1 : Int32)) (fun v12 => k7 v12)) (fun k11 => if y1 = (-9 : Int32) then k11 else (if y1 ≤ (r10 + (1 : Int32)) then (k7 y1) else k11)))))))))))
theorem f_X7_furtherCuts_d3_L18_eq {rec18 : (Int32 × Int32) → Option (Int32)} {k4 : Int32 → Option (Int32)} {p4 : Int32} {p2 : Int64} {p1 : Int64} {p3 : Int64} {y1 : Int32} {y2 : Int32} : f_X7_furtherCuts_d3_L18 k4 p4 p2 p1 p3 rec18 (y1, y2) = (if (64 : Int32) ≤ y2 then (k4 y1) else (if p4 ≤ (1 : Int32) then (k4 y1) else (if y1 = (2 : Int32) then (k4 y1) else (Option.bind (f_X9_isIn y2 (p2 &&& (p1 ^^^ (-1 : Int64)))) (fun r5 => sp_bnd (fun (x6 : Int32) => sp_bnd (y2 + (1 : Int32)) (fun v8 => rec18 (x6, v8))) (fun k7 => if r5 = 0 then (k7 y1) else (Option.bind (f_X7_cutsWith y2 p1) (fun r9 => Option.bind (f_X7_furtherCuts_d2 (p1 ||| ((1 : Int64) <<< (y2.toInt64 &&& 63))) (p2 ||| r9) p3 (p4 - (1 : Int32))) (fun r10 => if r10 = (-9 : Int32) then (k7 y1) else (sp_bnd (sp_bnd (r10 + (1 : Int32)) (fun v12 => k7 v12)) (fun k11 => if y1 = (-9 : Int32) then k11 else (if y1 ≤ (r10 + (1 : Int32)) then (k7 y1) else k11)))))))))))) := rfl
def f_X7_furtherCuts_d3 (p1 : Int64) (p2 : Int64) (p3 : Int64) (p4 : Int32) : Option (Int32) := if (lg_cmp (p2 &&& p3) (0 : Int64)) = 0 then (sp_bnd (fun (x3 : Int32) => some x3) (fun k4 => sp_lp (f_X7_furtherCuts_d3_L18 k4 p4 p2 p1 p3) sp_F ((-9 : Int32), (0 : Int32)))) else (some (1 : Int32))
def rmX7_furtherCuts_d3 : Room := { frames := 4, cells := 0, slots := 0, locals := 106 }
set_option maxRecDepth 4000 in
theorem c_X7_furtherCuts_d3 {l : Launch} {D : va_G} {q5 : Nat → ClassId} (p1 : Int64) (p2 : Int64) (p3 : Int64) (p4 : Int32) {r' : Int32} (hf : f_X7_furtherCuts_d3 p1 p2 p3 p4 = some r') : sp_Ci l yX7_furtherCuts wsX7_furtherCuts rmX7_furtherCuts_d3 D q5 1 [.long p1, .long p2, .long p3, .int p4] ([]) r' ([]) := by
  intro sz
  refine sp_of (cc := cX7_furtherCuts) (maxL := 10) (ret := some .int) (own := RX7) (Qc := sp_Qi D r' ([])) (by decide) rfl rfl (Nat.le_of_ble_eq_true rfl) ?_
  intro p e s m args below meth c A ls Q hQ S hr hlk hK hG hA hW hl
  have hx := S.1
  have hb := S.2.1
  unfold f_X7_furtherCuts_d3 at hf
  have lk1 := S.2.2.2.2 (Cond.constantLong RX7 51 (-1)) (List.mem_of_getElem? (i := 1) rfl)
  have lk2 := S.2.2.2.2 (Cond.static yX9_isIn) (List.mem_of_getElem? (i := 2) rfl)
  have lk3 := S.2.2.2.2 (Cond.initialized RX9) (List.mem_of_getElem? (i := 3) rfl)
  refine lv_lload_n hx hb dX7_furtherCuts_0 rfl (lv_at hl 1 rfl) ?_
  refine lv_lload hx hb dX7_furtherCuts_1 (lv_at hl 2 rfl) ?_
  refine lv_land hx hb dX7_furtherCuts_3 ?_
  refine lv_lconst (v := 0) hx hb dX7_furtherCuts_4 (by decide) ?_
  refine W.lcmp hx hb dX7_furtherCuts_5 ?_
  refine lv_if_eq (tgt := 11) hx hb dX7_furtherCuts_6 (by decide) (fun hc => ?_) (fun hc => ?_)
  · have hf := sp_ht hf hc
    refine lv_bipush (v := (-9)) hx hb dX7_furtherCuts_11 (by decide) ?_
    refine lv_istore (lv' := [(7, .int (-9 : Int32)), (0, .long p1), (2, .long p2), (4, .long p3), (6, .int p4)]) hx hb dX7_furtherCuts_13 hl (by decide) rfl (fun ls hl => ?_)
    refine lv_iconst (v := 0) hx hb dX7_furtherCuts_15 (by decide) ?_
    refine lv_istore (lv' := [(8, .int (0 : Int32)), (7, .int (-9 : Int32)), (0, .long p1), (2, .long p2), (4, .long p3), (6, .int p4)]) hx hb dX7_furtherCuts_16 hl (by decide) rfl (fun ls hl => ?_)
    obtain ⟨k4, ek4, hf⟩ := sp_hb hf
    have hj4 : ∀ (x3 : Int32) (H : Heap) (locs : List Loc) (ls : Array Slot), k4 x3 = some r' → sp_wd D A s.heap ([]) H locs → lv_has ls 10 [(7, .int x3)] → W p l e rmX7_furtherCuts_d3 s m args below meth c H locs 0 0 Q (F0 m 115 ls []) := by
      intro x3 H locs ls hf hW hl
      rw [ek4] at hf
      refine lv_iload hx hb dX7_furtherCuts_115 (lv_at hl 0 rfl) ?_
      cases hf
      exact sp_iret S hr hlk hW hQ dX7_furtherCuts_117
    have hlp18 : ∀ (n9 : Nat) (y1 : Int32) (y2 : Int32) (H : Heap) (locs : List Loc) (ls : Array Slot), sp_lp (f_X7_furtherCuts_d3_L18 k4 p4 p2 p1 p3) n9 (y1, y2) = some r' → sp_wd D A s.heap ([]) H locs → lv_has ls 10 [(0, .long p1), (2, .long p2), (4, .long p3), (6, .int p4), (7, .int y1), (8, .int y2)] → W p l e rmX7_furtherCuts_d3 s m args below meth c H locs 0 0 Q (F0 m 18 ls []) := by
      intro n9
      induction n9 with
      | zero =>
        intro y1 y2 H locs ls hf hW hl
        exact (sp_lp0 hf).elim
      | succ n9 ih18 =>
        intro y1 y2 H locs ls hf hW hl
        have hf := sp_lpS hf
        rw [f_X7_furtherCuts_d3_L18_eq] at hf
        refine lv_iload hx hb dX7_furtherCuts_18 (lv_at hl 5 rfl) ?_
        refine lv_bipush (v := 64) hx hb dX7_furtherCuts_20 (by decide) ?_
        refine lv_icmp_ge (tgt := 115) hx hb dX7_furtherCuts_22 (by decide) (fun hc => ?_) (fun hc => ?_)
        · have hf := sp_ht hf hc
          exact hj4 _ _ _ _ hf hW (lv_sub hl [4] rfl)
        · have hf := sp_hf hf hc
          refine lv_iload hx hb dX7_furtherCuts_25 (lv_at hl 3 rfl) ?_
          refine lv_iconst (v := 1) hx hb dX7_furtherCuts_27 (by decide) ?_
          refine lv_icmp_le (tgt := 115) hx hb dX7_furtherCuts_28 (by decide) (fun hc => ?_) (fun hc => ?_)
          · have hf := sp_ht hf hc
            exact hj4 _ _ _ _ hf hW (lv_sub hl [4] rfl)
          · have hf := sp_hf hf hc
            refine lv_iload hx hb dX7_furtherCuts_31 (lv_at hl 4 rfl) ?_
            refine lv_iconst (v := 2) hx hb dX7_furtherCuts_33 (by decide) ?_
            refine lv_icmp_eq (tgt := 115) hx hb dX7_furtherCuts_34 (by decide) (fun hc => ?_) (fun hc => ?_)
            · have hf := sp_ht hf hc
              exact hj4 _ _ _ _ hf hW (lv_sub hl [4] rfl)
            · have hf := sp_hf hf hc
              refine lv_iload hx hb dX7_furtherCuts_37 (lv_at hl 5 rfl) ?_
              refine lv_lload_n hx hb dX7_furtherCuts_39 rfl (lv_at hl 1 rfl) ?_
              refine lv_lload_n hx hb dX7_furtherCuts_40 rfl (lv_at hl 0 rfl) ?_
              refine lv_ldc2 hx hb S.2.2.2.1 lk1 dX7_furtherCuts_41 ?_
              refine lv_lxor hx hb dX7_furtherCuts_44 ?_
              refine lv_land hx hb dX7_furtherCuts_45 ?_
              obtain ⟨r5, hc5, hf⟩ := sp_hc hf
              refine sp_callNi (rest := []) (host := RX9) S hK hG hA hW (c_X9_isIn y2 (p2 &&& (p1 ^^^ (-1 : Int64))) hc5) (by decide) ⟨va_cnB 2 S.2.2.2.2 gX7_furtherCuts_X9_isIn_n34 rfl rfl rfl (hG.1 (by decide) _ (List.mem_of_getElem? (i := 12) rfl)) lk3 (by decide +kernel) (by decide), lk2, trivial⟩ (isC := []) rfl rfl rfl (WS' := []) rfl rfl hl.1 (Nat.le_of_ble_eq_true rfl) dX7_furtherCuts_46 ⟨Nat.zero_le _, Nat.zero_le _⟩ rfl (fun H locs hW => ?_)
              obtain ⟨k7, ek7, hf⟩ := sp_hb hf
              have hj7 : ∀ (x6 : Int32) (H : Heap) (locs : List Loc) (ls : Array Slot), k7 x6 = some r' → sp_wd D A s.heap ([]) H locs → lv_has ls 10 [(0, .long p1), (2, .long p2), (4, .long p3), (6, .int p4), (7, .int x6), (8, .int y2)] → W p l e rmX7_furtherCuts_d3 s m args below meth c H locs 0 0 Q (F0 m 109 ls []) := by
                intro x6 H locs ls hf hW hl
                rw [ek7] at hf
                obtain ⟨v8, ev8, hf⟩ := sp_hb hf
                refine lv_iinc (v := v8) (lv' := [(8, .int v8), (0, .long p1), (2, .long p2), (4, .long p3), (6, .int p4), (7, .int x6)]) hx hb dX7_furtherCuts_109 hl (k := 5) rfl (by rw [ev8]; rfl) (by decide) rfl (fun ls hl => ?_)
                refine lv_goto (tgt := 18) hx hb dX7_furtherCuts_112 (by decide) ?_
                exact ih18 _ _ _ _ _ hf hW (lv_sub hl [1, 2, 3, 4, 5, 0] rfl)
              refine lv_if_ne (tgt := 55) hx hb dX7_furtherCuts_49 (by decide) (fun hc => ?_) (fun hc => ?_)
              · have hf := sp_hf hf hc
                refine lv_lload_n hx hb dX7_furtherCuts_55 rfl (lv_at hl 0 rfl) ?_
                refine lv_lconst (v := 1) hx hb dX7_furtherCuts_56 (by decide) ?_
                refine lv_iload hx hb dX7_furtherCuts_57 (lv_at hl 5 rfl) ?_
                refine lv_lshl hx hb dX7_furtherCuts_59 rfl ?_
                refine lv_lor hx hb dX7_furtherCuts_60 ?_
                refine lv_lload_n hx hb dX7_furtherCuts_61 rfl (lv_at hl 1 rfl) ?_
                refine lv_iload hx hb dX7_furtherCuts_62 (lv_at hl 5 rfl) ?_
                refine lv_lload_n hx hb dX7_furtherCuts_64 rfl (lv_at hl 0 rfl) ?_
                obtain ⟨r9, hc9, hf⟩ := sp_hc hf
                refine sp_callSl (rest := [.long p2, .long (p1 ||| ((1 : Int64) <<< (y2.toInt64 &&& 63)))]) S hK hG hA hW (c_X7_cutsWith y2 p1 hc9) (by decide) (va_cwS 2 S.2.2.2.2 gX7_furtherCuts_X7_cutsWith rfl rfl rfl (by decide +kernel) (by decide)) (isC := []) rfl rfl rfl (WS' := []) rfl rfl hl.1 (Nat.le_of_ble_eq_true rfl) dX7_furtherCuts_65 ⟨Nat.zero_le _, Nat.zero_le _⟩ rfl (fun H locs hW => ?_)
                refine lv_lor hx hb dX7_furtherCuts_68 ?_
                refine lv_lload hx hb dX7_furtherCuts_69 (lv_at hl 2 rfl) ?_
                refine lv_iload hx hb dX7_furtherCuts_71 (lv_at hl 3 rfl) ?_
                refine lv_iconst (v := 1) hx hb dX7_furtherCuts_73 (by decide) ?_
                refine lv_isub hx hb dX7_furtherCuts_74 ?_
                obtain ⟨r10, hc10, hf⟩ := sp_hc hf
                refine sp_callSi (rest := []) S hK hG hA hW (c_X7_furtherCuts_d2 (p1 ||| ((1 : Int64) <<< (y2.toInt64 &&& 63))) (p2 ||| r9) p3 (p4 - (1 : Int32)) hc10) (by decide) (va_cwS 4 S.2.2.2.2 gX7_furtherCuts_X7_furtherCuts rfl rfl rfl (by decide +kernel) (by decide)) (isC := []) rfl rfl rfl (WS' := []) rfl rfl hl.1 (Nat.le_of_ble_eq_true rfl) dX7_furtherCuts_75 ⟨Nat.zero_le _, Nat.zero_le _⟩ rfl (fun H locs hW => ?_)
                refine lv_istore (lv' := [(9, .int r10), (0, .long p1), (2, .long p2), (4, .long p3), (6, .int p4), (7, .int y1), (8, .int y2)]) hx hb dX7_furtherCuts_78 hl (by decide) rfl (fun ls hl => ?_)
                refine lv_iload hx hb dX7_furtherCuts_80 (lv_at hl 0 rfl) ?_
                refine lv_bipush (v := (-9)) hx hb dX7_furtherCuts_82 (by decide) ?_
                refine lv_icmp_eq (tgt := 109) hx hb dX7_furtherCuts_84 (by decide) (fun hc => ?_) (fun hc => ?_)
                · have hf := sp_ht hf hc
                  exact hj7 _ _ _ _ hf hW (lv_sub hl [1, 2, 3, 4, 5, 6] rfl)
                · have hf := sp_hf hf hc
                  refine lv_iload hx hb dX7_furtherCuts_87 (lv_at hl 5 rfl) ?_
                  refine lv_bipush (v := (-9)) hx hb dX7_furtherCuts_89 (by decide) ?_
                  obtain ⟨k11, ek11, hf⟩ := sp_hb hf
                  have hj11 : ∀ (H : Heap) (locs : List Loc) (ls : Array Slot), k11 = some r' → sp_wd D A s.heap ([]) H locs → lv_has ls 10 [(0, .long p1), (2, .long p2), (4, .long p3), (6, .int p4), (8, .int y2), (9, .int r10)] → W p l e rmX7_furtherCuts_d3 s m args below meth c H locs 0 0 Q (F0 m 103 ls []) := by
                    intro H locs ls hf hW hl
                    rw [ek11] at hf
                    refine lv_iload hx hb dX7_furtherCuts_103 (lv_at hl 5 rfl) ?_
                    refine lv_iconst (v := 1) hx hb dX7_furtherCuts_105 (by decide) ?_
                    refine lv_iadd hx hb dX7_furtherCuts_106 ?_
                    obtain ⟨v12, ev12, hf⟩ := sp_hb hf
                    refine sp_topi ev12 ?_
                    refine lv_istore (lv' := [(7, .int v12), (0, .long p1), (2, .long p2), (4, .long p3), (6, .int p4), (8, .int y2), (9, .int r10)]) hx hb dX7_furtherCuts_107 hl (by decide) rfl (fun ls hl => ?_)
                    exact hj7 _ _ _ _ hf hW (lv_sub hl [1, 2, 3, 4, 0, 5] rfl)
                  refine lv_icmp_eq (tgt := 103) hx hb dX7_furtherCuts_91 (by decide) (fun hc => ?_) (fun hc => ?_)
                  · have hf := sp_ht hf hc
                    exact hj11 _ _ _ hf hW (lv_sub hl [1, 2, 3, 4, 6, 0] rfl)
                  · have hf := sp_hf hf hc
                    refine lv_iload hx hb dX7_furtherCuts_94 (lv_at hl 0 rfl) ?_
                    refine lv_iconst (v := 1) hx hb dX7_furtherCuts_96 (by decide) ?_
                    refine lv_iadd hx hb dX7_furtherCuts_97 ?_
                    refine lv_iload hx hb dX7_furtherCuts_98 (lv_at hl 5 rfl) ?_
                    refine lv_icmp_ge (tgt := 109) hx hb dX7_furtherCuts_100 (by decide) (fun hc => ?_) (fun hc => ?_)
                    · have hf := sp_ht hf hc
                      exact hj7 _ _ _ _ hf hW (lv_sub hl [1, 2, 3, 4, 5, 6] rfl)
                    · have hf := sp_hf hf hc
                      exact hj11 _ _ _ hf hW (lv_sub hl [1, 2, 3, 4, 6, 0] rfl)
              · have hf := sp_ht hf hc
                refine lv_goto (tgt := 109) hx hb dX7_furtherCuts_52 (by decide) ?_
                exact hj7 _ _ _ _ hf hW (lv_sub hl [0, 1, 2, 3, 4, 5] rfl)
    exact hlp18 _ _ _ _ _ _ hf hW (lv_sub hl [2, 3, 4, 5, 1, 0] rfl)
  · have hf := sp_hf hf hc
    refine lv_iconst (v := 1) hx hb dX7_furtherCuts_9 (by decide) ?_
    cases hf
    exact sp_iret S hr hlk hW hQ dX7_furtherCuts_10

def f_X7_fewestCuts_L49 (k10 : Int64 → Int64 → Option (Int32)) (p2 : Int32) (x3 : Int64) (rec49 : (Int64 × Int64 × Int32) → Option (Int32)) (s9 : Int64 × Int64 × Int32) : Option (Int32) := match s9 with
  | (y5, y6, y7) => if (64 : Int32) ≤ y7 then (k10 y5 y6) else (Option.bind (f_X7_codeOf p2) (fun r12 => Option.bind (f_X0_isPart y7 r12) (fun r13 => sp_bnd (fun (x14 : Int64) => Option.bind (f_X9_isIn y7 x3) (fun r16 => sp_bnd (fun (x17 : Int64) => sp_bnd (y7 + (1 : Int32)) (fun v19 => rec49 (x14, x17, v19))) (fun k18 => if r16 = 0 then (k18 y6) else (Option.bind (f_X7_cutsWith y7 x3) (fun r20 => sp_bnd (y6 ||| r20) (fun v21 => k18 v21)))))) (fun k15 => if r13 = 0 then (k15 y5) else (sp_bnd (y5 ||| ((1 : Int64) <<< (y7.toInt64 &&& 63))) (fun v22 => k15 v22))))))
theorem f_X7_fewestCuts_L49_eq {rec49 : (Int64 × Int64 × Int32) → Option (Int32)} {k10 : Int64 → Int64 → Option (Int32)} {p2 : Int32} {x3 : Int64} {y5 : Int64} {y6 : Int64} {y7 : Int32} : f_X7_fewestCuts_L49 k10 p2 x3 rec49 (y5, y6, y7) = (if (64 : Int32) ≤ y7 then (k10 y5 y6) else (Option.bind (f_X7_codeOf p2) (fun r12 => Option.bind (f_X0_isPart y7 r12) (fun r13 => sp_bnd (fun (x14 : Int64) => Option.bind (f_X9_isIn y7 x3) (fun r16 => sp_bnd (fun (x17 : Int64) => sp_bnd (y7 + (1 : Int32)) (fun v19 => rec49 (x14, x17, v19))) (fun k18 => if r16 = 0 then (k18 y6) else (Option.bind (f_X7_cutsWith y7 x3) (fun r20 => sp_bnd (y6 ||| r20) (fun v21 => k18 v21)))))) (fun k15 => if r13 = 0 then (k15 y5) else (sp_bnd (y5 ||| ((1 : Int64) <<< (y7.toInt64 &&& 63))) (fun v22 => k15 v22))))))) := rfl
def f_X7_fewestCuts_L5 (gc2 : Int32) (k4 : Int64 → Option (Int32)) (gr2 : Nat → Int32) (cl2 : Nat → Int32) (rec5 : (Int64 × Int32) → Option (Int32)) (s9 : Int64 × Int32) : Option (Int32) := match s9 with
  | (y1, y2) => if gc2 ≤ y2 then (k4 y1) else (sp_ld gr2 48 y2 (fun v23 => sp_ld cl2 48 v23 (fun v24 => Option.bind (f_X7_codeOf v24) (fun r25 => sp_bnd (y1 ||| ((1 : Int64) <<< (r25.toInt64 &&& 63))) (fun v26 => sp_bnd (y2 + (1 : Int32)) (fun v27 => rec5 (v26, v27)))))))
theorem f_X7_fewestCuts_L5_eq {rec5 : (Int64 × Int32) → Option (Int32)} {gc2 : Int32} {k4 : Int64 → Option (Int32)} {gr2 : Nat → Int32} {cl2 : Nat → Int32} {y1 : Int64} {y2 : Int32} : f_X7_fewestCuts_L5 gc2 k4 gr2 cl2 rec5 (y1, y2) = (if gc2 ≤ y2 then (k4 y1) else (sp_ld gr2 48 y2 (fun v23 => sp_ld cl2 48 v23 (fun v24 => Option.bind (f_X7_codeOf v24) (fun r25 => sp_bnd (y1 ||| ((1 : Int64) <<< (r25.toInt64 &&& 63))) (fun v26 => sp_bnd (y2 + (1 : Int32)) (fun v27 => rec5 (v26, v27)))))))) := rfl
def f_X7_fewestCuts (p2 : Int32) (cl2 : Nat → Int32) (gr2 : Nat → Int32) (gc2 : Int32) : Option (Int32) := sp_bnd (fun (x3 : Int64) => sp_bnd (fun (x8 : Int64) (x9 : Int64) => if (lg_cmp (x3 &&& x8) (0 : Int64)) = 0 then (Option.bind (f_X7_furtherCuts_d3 x3 x9 x8 (3 : Int32)) (fun r11 => some r11)) else (some (0 : Int32))) (fun k10 => sp_lp (f_X7_fewestCuts_L49 k10 p2 x3) sp_F ((0 : Int64), (0 : Int64), (0 : Int32)))) (fun k4 => sp_lp (f_X7_fewestCuts_L5 gc2 k4 gr2 cl2) sp_F ((0 : Int64), (0 : Int32)))
def rmX7_fewestCuts : Room := { frames := 5, cells := 0, slots := 0, locals := 135 }
set_option maxRecDepth 4000 in
theorem c_X7_fewestCuts {l : Launch} {D : va_G} {q5 : Nat → ClassId} (d : Nat → Nat) (cl2 : Nat → Int32) (le2 : Nat → Int32) (ri2 : Nat → Int32) (lt2 : Nat → Int32) (gr2 : Nat → Int32) (ct2 : Int32) (gc2 : Int32) (p2 : Int32) {r' : Int32} (hf : f_X7_fewestCuts p2 cl2 gr2 gc2 = some r') : sp_Ci l yX7_fewestCuts wsX7_fewestCuts rmX7_fewestCuts D q5 1 [.ref (d 0), .int p2] (sw_P d q5 cl2 le2 ri2 lt2 gr2 ct2 gc2) r' (sw_P d q5 cl2 le2 ri2 lt2 gr2 ct2 gc2) := by
  intro sz
  refine sp_of (cc := cX7_fewestCuts) (maxL := 9) (ret := some .int) (own := RX7) (Qc := sp_Qi D r' (sw_P d q5 cl2 le2 ri2 lt2 gr2 ct2 gc2)) (by decide) rfl rfl (Nat.le_of_ble_eq_true rfl) ?_
  intro p e s m args below meth c A ls Q hQ S hr hlk hK hG hA hW hl
  have hx := S.1
  have hb := S.2.1
  unfold f_X7_fewestCuts at hf
  have inX2 : ∀ w ∈ u_ws RX2 TX2 7, w ∈ wsX7_fewestCuts := (fun _ h => List.mem_cons_of_mem _ (List.mem_append_right _ h))
  have lk1 := S.2.2.2.2 (Cond.static yX9_isIn) (List.mem_of_getElem? (i := 12) rfl)
  have lk2 := S.2.2.2.2 (Cond.initialized RX9) (List.mem_of_getElem? (i := 13) rfl)
  have lk3 := S.2.2.2.2 (Cond.fieldLink RX7 9 "ShortProofs$Proof" "groundCount" "I") (List.mem_of_getElem? (i := 1) rfl)
  have lk4 := S.2.2.2.2 (Cond.fieldLink RX7 15 "ShortProofs$Proof" "clauses" "[I") (List.mem_of_getElem? (i := 2) rfl)
  have lk5 := S.2.2.2.2 (Cond.fieldLink RX7 19 "ShortProofs$Proof" "grounds" "[I") (List.mem_of_getElem? (i := 3) rfl)
  refine lv_lconst (v := 0) hx hb dX7_fewestCuts_0 (by decide) ?_
  refine lv_lstore_n (lv' := [(2, .long (0 : Int64)), (0, .ref (d 0)), (1, .int p2)]) hx hb dX7_fewestCuts_1 rfl hl (by decide) rfl (fun ls hl => ?_)
  refine lv_iconst (v := 0) hx hb dX7_fewestCuts_2 (by decide) ?_
  refine lv_istore (lv' := [(4, .int (0 : Int32)), (2, .long (0 : Int64)), (0, .ref (d 0)), (1, .int p2)]) hx hb dX7_fewestCuts_3 hl (by decide) rfl (fun ls hl => ?_)
  obtain ⟨k4, ek4, hf⟩ := sp_hb hf
  have hj4 : ∀ (x3 : Int64) (H : Heap) (locs : List Loc) (ls : Array Slot), k4 x3 = some r' → sp_wd D A s.heap (sw_P d q5 cl2 le2 ri2 lt2 gr2 ct2 gc2) H locs → lv_has ls 9 [(1, .int p2), (2, .long x3)] → W p l e rmX7_fewestCuts s m args below meth c H locs 0 0 Q (F0 m 40 ls []) := by
    intro x3 H locs ls hf hW hl
    rw [ek4] at hf
    refine lv_lconst (v := 0) hx hb dX7_fewestCuts_40 (by decide) ?_
    refine lv_lstore (lv' := [(4, .long (0 : Int64)), (1, .int p2), (2, .long x3)]) hx hb dX7_fewestCuts_41 hl (by decide) rfl (fun ls hl => ?_)
    refine lv_lconst (v := 0) hx hb dX7_fewestCuts_43 (by decide) ?_
    refine lv_lstore (lv' := [(6, .long (0 : Int64)), (4, .long (0 : Int64)), (1, .int p2), (2, .long x3)]) hx hb dX7_fewestCuts_44 hl (by decide) rfl (fun ls hl => ?_)
    refine lv_iconst (v := 0) hx hb dX7_fewestCuts_46 (by decide) ?_
    refine lv_istore (lv' := [(8, .int (0 : Int32)), (6, .long (0 : Int64)), (4, .long (0 : Int64)), (1, .int p2), (2, .long x3)]) hx hb dX7_fewestCuts_47 hl (by decide) rfl (fun ls hl => ?_)
    obtain ⟨k10, ek10, hf⟩ := sp_hb hf
    have hj10 : ∀ (x8 : Int64) (x9 : Int64) (H : Heap) (locs : List Loc) (ls : Array Slot), k10 x8 x9 = some r' → sp_wd D A s.heap (sw_P d q5 cl2 le2 ri2 lt2 gr2 ct2 gc2) H locs → lv_has ls 9 [(2, .long x3), (4, .long x8), (6, .long x9)] → W p l e rmX7_fewestCuts s m args below meth c H locs 0 0 Q (F0 m 103 ls []) := by
      intro x8 x9 H locs ls hf hW hl
      rw [ek10] at hf
      refine lv_lload_n hx hb dX7_fewestCuts_103 rfl (lv_at hl 0 rfl) ?_
      refine lv_lload hx hb dX7_fewestCuts_104 (lv_at hl 1 rfl) ?_
      refine lv_land hx hb dX7_fewestCuts_106 ?_
      refine lv_lconst (v := 0) hx hb dX7_fewestCuts_107 (by decide) ?_
      refine W.lcmp hx hb dX7_fewestCuts_108 ?_
      refine lv_if_eq (tgt := 116) hx hb dX7_fewestCuts_109 (by decide) (fun hc => ?_) (fun hc => ?_)
      · have hf := sp_ht hf hc
        refine lv_lload_n hx hb dX7_fewestCuts_116 rfl (lv_at hl 0 rfl) ?_
        refine lv_lload hx hb dX7_fewestCuts_117 (lv_at hl 2 rfl) ?_
        refine lv_lload hx hb dX7_fewestCuts_119 (lv_at hl 1 rfl) ?_
        refine lv_iconst (v := 3) hx hb dX7_fewestCuts_121 (by decide) ?_
        obtain ⟨r11, hc11, hf⟩ := sp_hc hf
        refine sp_callSi (rest := []) S hK hG hA hW (c_X7_furtherCuts_d3 x3 x9 x8 (3 : Int32) hc11) (by decide) (va_cwS 4 S.2.2.2.2 gX7_fewestCuts_X7_furtherCuts rfl rfl rfl (by decide +kernel) (by decide)) (isC := []) rfl rfl rfl (WS' := sw_P d q5 cl2 le2 ri2 lt2 gr2 ct2 gc2) rfl rfl hl.1 (Nat.le_of_ble_eq_true rfl) dX7_fewestCuts_122 ⟨Nat.zero_le _, Nat.zero_le _⟩ rfl (fun H locs hW => ?_)
        cases hf
        exact sp_iret S hr hlk hW hQ dX7_fewestCuts_125
      · have hf := sp_hf hf hc
        refine lv_iconst (v := 0) hx hb dX7_fewestCuts_112 (by decide) ?_
        refine lv_goto (tgt := 125) hx hb dX7_fewestCuts_113 (by decide) ?_
        cases hf
        exact sp_iret S hr hlk hW hQ dX7_fewestCuts_125
    have hlp49 : ∀ (n9 : Nat) (y5 : Int64) (y6 : Int64) (y7 : Int32) (H : Heap) (locs : List Loc) (ls : Array Slot), sp_lp (f_X7_fewestCuts_L49 k10 p2 x3) n9 (y5, y6, y7) = some r' → sp_wd D A s.heap (sw_P d q5 cl2 le2 ri2 lt2 gr2 ct2 gc2) H locs → lv_has ls 9 [(1, .int p2), (2, .long x3), (4, .long y5), (6, .long y6), (8, .int y7)] → W p l e rmX7_fewestCuts s m args below meth c H locs 0 0 Q (F0 m 49 ls []) := by
      intro n9
      induction n9 with
      | zero =>
        intro y5 y6 y7 H locs ls hf hW hl
        exact (sp_lp0 hf).elim
      | succ n9 ih49 =>
        intro y5 y6 y7 H locs ls hf hW hl
        have hf := sp_lpS hf
        rw [f_X7_fewestCuts_L49_eq] at hf
        refine lv_iload hx hb dX7_fewestCuts_49 (lv_at hl 4 rfl) ?_
        refine lv_bipush (v := 64) hx hb dX7_fewestCuts_51 (by decide) ?_
        refine lv_icmp_ge (tgt := 103) hx hb dX7_fewestCuts_53 (by decide) (fun hc => ?_) (fun hc => ?_)
        · have hf := sp_ht hf hc
          exact hj10 _ _ _ _ _ hf hW (lv_sub hl [1, 2, 3] rfl)
        · have hf := sp_hf hf hc
          refine lv_iload hx hb dX7_fewestCuts_56 (lv_at hl 4 rfl) ?_
          refine lv_iload_n hx hb dX7_fewestCuts_58 rfl (lv_at hl 0 rfl) ?_
          obtain ⟨r12, hc12, hf⟩ := sp_hc hf
          refine sp_callSi (rest := [.int y7]) S hK hG hA hW (c_X7_codeOf p2 hc12) (by decide) (va_cwS 1 S.2.2.2.2 gX7_fewestCuts_X7_codeOf rfl rfl rfl (by decide +kernel) (by decide)) (isC := []) rfl rfl rfl (WS' := sw_P d q5 cl2 le2 ri2 lt2 gr2 ct2 gc2) rfl rfl hl.1 (Nat.le_of_ble_eq_true rfl) dX7_fewestCuts_59 ⟨Nat.zero_le _, Nat.zero_le _⟩ rfl (fun H locs hW => ?_)
          obtain ⟨r13, hc13, hf⟩ := sp_hc hf
          refine sp_callSi (rest := []) S hK hG hA hW (c_X0_isPart y7 r12 hc13) (by decide) (va_cwS 2 S.2.2.2.2 gX7_fewestCuts_X0_isPart rfl rfl rfl (by decide +kernel) (by decide)) (isC := []) rfl rfl rfl (WS' := sw_P d q5 cl2 le2 ri2 lt2 gr2 ct2 gc2) rfl rfl hl.1 (Nat.le_of_ble_eq_true rfl) dX7_fewestCuts_62 ⟨Nat.zero_le _, Nat.zero_le _⟩ rfl (fun H locs hW => ?_)
          obtain ⟨k15, ek15, hf⟩ := sp_hb hf
          have hj15 : ∀ (x14 : Int64) (H : Heap) (locs : List Loc) (ls : Array Slot), k15 x14 = some r' → sp_wd D A s.heap (sw_P d q5 cl2 le2 ri2 lt2 gr2 ct2 gc2) H locs → lv_has ls 9 [(1, .int p2), (2, .long x3), (4, .long x14), (6, .long y6), (8, .int y7)] → W p l e rmX7_fewestCuts s m args below meth c H locs 0 0 Q (F0 m 77 ls []) := by
            intro x14 H locs ls hf hW hl
            rw [ek15] at hf
            refine lv_iload hx hb dX7_fewestCuts_77 (lv_at hl 4 rfl) ?_
            refine lv_lload_n hx hb dX7_fewestCuts_79 rfl (lv_at hl 1 rfl) ?_
            obtain ⟨r16, hc16, hf⟩ := sp_hc hf
            refine sp_callNi (rest := []) (host := RX9) S hK hG hA hW (c_X9_isIn y7 x3 hc16) (by decide) ⟨va_cnB 2 S.2.2.2.2 gX7_fewestCuts_X9_isIn_n34 rfl rfl rfl (hG.1 (by decide) _ (List.mem_of_getElem? (i := 12) rfl)) lk2 (by decide +kernel) (by decide), lk1, trivial⟩ (isC := []) rfl rfl rfl (WS' := sw_P d q5 cl2 le2 ri2 lt2 gr2 ct2 gc2) rfl rfl hl.1 (Nat.le_of_ble_eq_true rfl) dX7_fewestCuts_80 ⟨Nat.zero_le _, Nat.zero_le _⟩ rfl (fun H locs hW => ?_)
            obtain ⟨k18, ek18, hf⟩ := sp_hb hf
            have hj18 : ∀ (x17 : Int64) (H : Heap) (locs : List Loc) (ls : Array Slot), k18 x17 = some r' → sp_wd D A s.heap (sw_P d q5 cl2 le2 ri2 lt2 gr2 ct2 gc2) H locs → lv_has ls 9 [(1, .int p2), (2, .long x3), (4, .long x14), (6, .long x17), (8, .int y7)] → W p l e rmX7_fewestCuts s m args below meth c H locs 0 0 Q (F0 m 97 ls []) := by
              intro x17 H locs ls hf hW hl
              rw [ek18] at hf
              obtain ⟨v19, ev19, hf⟩ := sp_hb hf
              refine lv_iinc (v := v19) (lv' := [(8, .int v19), (1, .int p2), (2, .long x3), (4, .long x14), (6, .long x17)]) hx hb dX7_fewestCuts_97 hl (k := 4) rfl (by rw [ev19]; rfl) (by decide) rfl (fun ls hl => ?_)
              refine lv_goto (tgt := 49) hx hb dX7_fewestCuts_100 (by decide) ?_
              exact ih49 _ _ _ _ _ _ hf hW (lv_sub hl [1, 2, 3, 4, 0] rfl)
            refine lv_if_eq (tgt := 97) hx hb dX7_fewestCuts_83 (by decide) (fun hc => ?_) (fun hc => ?_)
            · have hf := sp_ht hf hc
              exact hj18 _ _ _ _ hf hW (lv_sub hl [0, 1, 2, 3, 4] rfl)
            · have hf := sp_hf hf hc
              refine lv_lload hx hb dX7_fewestCuts_86 (lv_at hl 3 rfl) ?_
              refine lv_iload hx hb dX7_fewestCuts_88 (lv_at hl 4 rfl) ?_
              refine lv_lload_n hx hb dX7_fewestCuts_90 rfl (lv_at hl 1 rfl) ?_
              obtain ⟨r20, hc20, hf⟩ := sp_hc hf
              refine sp_callSl (rest := [.long y6]) S hK hG hA hW (c_X7_cutsWith y7 x3 hc20) (by decide) (va_cwS 2 S.2.2.2.2 gX7_fewestCuts_X7_cutsWith rfl rfl rfl (by decide +kernel) (by decide)) (isC := []) rfl rfl rfl (WS' := sw_P d q5 cl2 le2 ri2 lt2 gr2 ct2 gc2) rfl rfl hl.1 (Nat.le_of_ble_eq_true rfl) dX7_fewestCuts_91 ⟨Nat.zero_le _, Nat.zero_le _⟩ rfl (fun H locs hW => ?_)
              refine lv_lor hx hb dX7_fewestCuts_94 ?_
              obtain ⟨v21, ev21, hf⟩ := sp_hb hf
              refine sp_topl ev21 ?_
              refine lv_lstore (lv' := [(6, .long v21), (1, .int p2), (2, .long x3), (4, .long x14), (8, .int y7)]) hx hb dX7_fewestCuts_95 hl (by decide) rfl (fun ls hl => ?_)
              exact hj18 _ _ _ _ hf hW (lv_sub hl [1, 2, 3, 0, 4] rfl)
          refine lv_if_eq (tgt := 77) hx hb dX7_fewestCuts_65 (by decide) (fun hc => ?_) (fun hc => ?_)
          · have hf := sp_ht hf hc
            exact hj15 _ _ _ _ hf hW (lv_sub hl [0, 1, 2, 3, 4] rfl)
          · have hf := sp_hf hf hc
            refine lv_lload hx hb dX7_fewestCuts_68 (lv_at hl 2 rfl) ?_
            refine lv_lconst (v := 1) hx hb dX7_fewestCuts_70 (by decide) ?_
            refine lv_iload hx hb dX7_fewestCuts_71 (lv_at hl 4 rfl) ?_
            refine lv_lshl hx hb dX7_fewestCuts_73 rfl ?_
            refine lv_lor hx hb dX7_fewestCuts_74 ?_
            obtain ⟨v22, ev22, hf⟩ := sp_hb hf
            refine sp_topl ev22 ?_
            refine lv_lstore (lv' := [(4, .long v22), (1, .int p2), (2, .long x3), (6, .long y6), (8, .int y7)]) hx hb dX7_fewestCuts_75 hl (by decide) rfl (fun ls hl => ?_)
            exact hj15 _ _ _ _ hf hW (lv_sub hl [1, 2, 0, 3, 4] rfl)
    exact hlp49 _ _ _ _ _ _ _ hf hW (lv_sub hl [3, 4, 2, 1, 0] rfl)
  have hlp5 : ∀ (n9 : Nat) (y1 : Int64) (y2 : Int32) (H : Heap) (locs : List Loc) (ls : Array Slot), sp_lp (f_X7_fewestCuts_L5 gc2 k4 gr2 cl2) n9 (y1, y2) = some r' → sp_wd D A s.heap (sw_P d q5 cl2 le2 ri2 lt2 gr2 ct2 gc2) H locs → lv_has ls 9 [(0, .ref (d 0)), (1, .int p2), (2, .long y1), (4, .int y2)] → W p l e rmX7_fewestCuts s m args below meth c H locs 0 0 Q (F0 m 5 ls []) := by
    intro n9
    induction n9 with
    | zero =>
      intro y1 y2 H locs ls hf hW hl
      exact (sp_lp0 hf).elim
    | succ n9 ih5 =>
      intro y1 y2 H locs ls hf hW hl
      have hf := sp_lpS hf
      rw [f_X7_fewestCuts_L5_eq] at hf
      refine lv_iload hx hb dX7_fewestCuts_5 (lv_at hl 3 rfl) ?_
      refine lv_aload_n hx hb dX7_fewestCuts_7 rfl (lv_at hl 0 rfl) ?_
      refine sp_get S hK hW inX2 0 rfl rfl 6 (by decide) lk3 rfl dX7_fewestCuts_8 ?_
      refine lv_icmp_ge (tgt := 40) hx hb dX7_fewestCuts_11 (by decide) (fun hc => ?_) (fun hc => ?_)
      · have hf := sp_ht hf hc
        exact hj4 _ _ _ _ hf hW (lv_sub hl [1, 2] rfl)
      · have hf := sp_hf hf hc
        refine lv_lload_n hx hb dX7_fewestCuts_14 rfl (lv_at hl 2 rfl) ?_
        refine lv_lconst (v := 1) hx hb dX7_fewestCuts_15 (by decide) ?_
        refine lv_aload_n hx hb dX7_fewestCuts_16 rfl (lv_at hl 0 rfl) ?_
        refine sp_get S hK hW inX2 0 rfl rfl 0 (by decide) lk4 rfl dX7_fewestCuts_17 ?_
        refine lv_aload_n hx hb dX7_fewestCuts_20 rfl (lv_at hl 0 rfl) ?_
        refine sp_get S hK hW inX2 0 rfl rfl 4 (by decide) lk5 rfl dX7_fewestCuts_21 ?_
        refine lv_iload hx hb dX7_fewestCuts_24 (lv_at hl 3 rfl) ?_
        obtain ⟨hin, v23, ev23, hf⟩ := sp_hld hf
        refine sp_iald S hK hW 5 rfl hin ev23 dX7_fewestCuts_26 ?_
        obtain ⟨hin, v24, ev24, hf⟩ := sp_hld hf
        refine sp_iald S hK hW 1 rfl hin ev24 dX7_fewestCuts_27 ?_
        obtain ⟨r25, hc25, hf⟩ := sp_hc hf
        refine sp_callSi (rest := [.long (1 : Int64), .long y1]) S hK hG hA hW (c_X7_codeOf v24 hc25) (by decide) (va_cwS 1 S.2.2.2.2 gX7_fewestCuts_X7_codeOf rfl rfl rfl (by decide +kernel) (by decide)) (isC := []) rfl rfl rfl (WS' := sw_P d q5 cl2 le2 ri2 lt2 gr2 ct2 gc2) rfl rfl hl.1 (Nat.le_of_ble_eq_true rfl) dX7_fewestCuts_28 ⟨Nat.zero_le _, Nat.zero_le _⟩ rfl (fun H locs hW => ?_)
        refine lv_lshl hx hb dX7_fewestCuts_31 rfl ?_
        refine lv_lor hx hb dX7_fewestCuts_32 ?_
        obtain ⟨v26, ev26, hf⟩ := sp_hb hf
        refine sp_topl ev26 ?_
        refine lv_lstore_n (lv' := [(2, .long v26), (0, .ref (d 0)), (1, .int p2), (4, .int y2)]) hx hb dX7_fewestCuts_33 rfl hl (by decide) rfl (fun ls hl => ?_)
        obtain ⟨v27, ev27, hf⟩ := sp_hb hf
        refine lv_iinc (v := v27) (lv' := [(4, .int v27), (2, .long v26), (0, .ref (d 0)), (1, .int p2)]) hx hb dX7_fewestCuts_34 hl (k := 3) rfl (by rw [ev27]; rfl) (by decide) rfl (fun ls hl => ?_)
        refine lv_goto (tgt := 5) hx hb dX7_fewestCuts_37 (by decide) ?_
        exact ih5 _ _ _ _ _ hf hW (lv_sub hl [2, 3, 1, 0] rfl)
  exact hlp5 _ _ _ _ _ _ hf hW (lv_sub hl [2, 3, 1, 0] rfl)

def f_X7_withUnits_L4 (gc2 : Int32) (k4 : Int32 → Option (Int32)) (gr2 : Nat → Int32) (cl2 : Nat → Int32) (rec4 : (Int32 × Int32) → Option (Int32)) (s9 : Int32 × Int32) : Option (Int32) := match s9 with
  | (y1, y2) => if gc2 ≤ y2 then (k4 y1) else (sp_ld gr2 48 y2 (fun v5 => sp_ld cl2 48 v5 (fun v6 => sp_bnd (v6 &&& (y1 ^^^ (-1 : Int32))) (fun v7 => Option.bind (f_J6_bitCount_0f7a4 v7) (fun r8 => sp_bnd (fun (x9 : Int32) => sp_bnd (y2 + (1 : Int32)) (fun v11 => rec4 (x9, v11))) (fun k10 => if r8 = (1 : Int32) then (Option.bind (f_X0_others v7) (fun r12 => Option.bind (f_X0_isPart r12 y1) (fun r13 => if r13 = 0 then (Option.bind (f_X0_others v7) (fun r14 => sp_bnd (y1 ||| r14) (fun v15 => k10 v15))) else (k10 y1)))) else (k10 y1)))))))
theorem f_X7_withUnits_L4_eq {rec4 : (Int32 × Int32) → Option (Int32)} {gc2 : Int32} {k4 : Int32 → Option (Int32)} {gr2 : Nat → Int32} {cl2 : Nat → Int32} {y1 : Int32} {y2 : Int32} : f_X7_withUnits_L4 gc2 k4 gr2 cl2 rec4 (y1, y2) = (if gc2 ≤ y2 then (k4 y1) else (sp_ld gr2 48 y2 (fun v5 => sp_ld cl2 48 v5 (fun v6 => sp_bnd (v6 &&& (y1 ^^^ (-1 : Int32))) (fun v7 => Option.bind (f_J6_bitCount_0f7a4 v7) (fun r8 => sp_bnd (fun (x9 : Int32) => sp_bnd (y2 + (1 : Int32)) (fun v11 => rec4 (x9, v11))) (fun k10 => if r8 = (1 : Int32) then (Option.bind (f_X0_others v7) (fun r12 => Option.bind (f_X0_isPart r12 y1) (fun r13 => if r13 = 0 then (Option.bind (f_X0_others v7) (fun r14 => sp_bnd (y1 ||| r14) (fun v15 => k10 v15))) else (k10 y1)))) else (k10 y1)))))))) := rfl
def f_X7_withUnits (p2 : Int32) (cl2 : Nat → Int32) (gr2 : Nat → Int32) (gc2 : Int32) : Option (Int32) := sp_bnd (fun (x3 : Int32) => some x3) (fun k4 => sp_lp (f_X7_withUnits_L4 gc2 k4 gr2 cl2) sp_F (p2, (0 : Int32)))
def rmX7_withUnits : Room := { frames := 1, cells := 0, slots := 0, locals := 21 }
set_option maxRecDepth 4000 in
theorem c_X7_withUnits {l : Launch} {D : va_G} {q5 : Nat → ClassId} (d : Nat → Nat) (cl2 : Nat → Int32) (le2 : Nat → Int32) (ri2 : Nat → Int32) (lt2 : Nat → Int32) (gr2 : Nat → Int32) (ct2 : Int32) (gc2 : Int32) (p2 : Int32) {r' : Int32} (hf : f_X7_withUnits p2 cl2 gr2 gc2 = some r') : sp_Ci l yX7_withUnits wsX7_withUnits rmX7_withUnits D q5 0 [.ref (d 0), .int p2] (sw_P d q5 cl2 le2 ri2 lt2 gr2 ct2 gc2) r' (sw_P d q5 cl2 le2 ri2 lt2 gr2 ct2 gc2) := by
  intro sz
  refine sp_of (cc := cX7_withUnits) (maxL := 5) (ret := some .int) (own := RX7) (Qc := sp_Qi D r' (sw_P d q5 cl2 le2 ri2 lt2 gr2 ct2 gc2)) (by decide) rfl rfl (Nat.le_of_ble_eq_true rfl) ?_
  intro p e s m args below meth c A ls Q hQ S hr hlk hK hG hA hW hl
  have hx := S.1
  have hb := S.2.1
  unfold f_X7_withUnits at hf
  have inX2 : ∀ w ∈ u_ws RX2 TX2 7, w ∈ wsX7_withUnits := (fun _ h => List.mem_cons_of_mem _ (List.mem_append_right _ h))
  have lk1 := S.2.2.2.2 (Cond.fieldLink RX7 9 "ShortProofs$Proof" "groundCount" "I") (List.mem_of_getElem? (i := 1) rfl)
  have lk2 := S.2.2.2.2 (Cond.fieldLink RX7 15 "ShortProofs$Proof" "clauses" "[I") (List.mem_of_getElem? (i := 2) rfl)
  have lk3 := S.2.2.2.2 (Cond.fieldLink RX7 19 "ShortProofs$Proof" "grounds" "[I") (List.mem_of_getElem? (i := 3) rfl)
  refine lv_iload_n hx hb dX7_withUnits_0 rfl (lv_at hl 1 rfl) ?_
  refine lv_istore_n (lv' := [(2, .int p2), (0, .ref (d 0)), (1, .int p2)]) hx hb dX7_withUnits_1 rfl hl (by decide) rfl (fun ls hl => ?_)
  refine lv_iconst (v := 0) hx hb dX7_withUnits_2 (by decide) ?_
  refine lv_istore_n (lv' := [(3, .int (0 : Int32)), (2, .int p2), (0, .ref (d 0)), (1, .int p2)]) hx hb dX7_withUnits_3 rfl hl (by decide) rfl (fun ls hl => ?_)
  obtain ⟨k4, ek4, hf⟩ := sp_hb hf
  have hj4 : ∀ (x3 : Int32) (H : Heap) (locs : List Loc) (ls : Array Slot), k4 x3 = some r' → sp_wd D A s.heap (sw_P d q5 cl2 le2 ri2 lt2 gr2 ct2 gc2) H locs → lv_has ls 5 [(2, .int x3)] → W p l e rmX7_withUnits s m args below meth c H locs 0 0 Q (F0 m 64 ls []) := by
    intro x3 H locs ls hf hW hl
    rw [ek4] at hf
    refine lv_iload_n hx hb dX7_withUnits_64 rfl (lv_at hl 0 rfl) ?_
    cases hf
    exact sp_iret S hr hlk hW hQ dX7_withUnits_65
  have hlp4 : ∀ (n9 : Nat) (y1 : Int32) (y2 : Int32) (H : Heap) (locs : List Loc) (ls : Array Slot), sp_lp (f_X7_withUnits_L4 gc2 k4 gr2 cl2) n9 (y1, y2) = some r' → sp_wd D A s.heap (sw_P d q5 cl2 le2 ri2 lt2 gr2 ct2 gc2) H locs → lv_has ls 5 [(0, .ref (d 0)), (2, .int y1), (3, .int y2)] → W p l e rmX7_withUnits s m args below meth c H locs 0 0 Q (F0 m 4 ls []) := by
    intro n9
    induction n9 with
    | zero =>
      intro y1 y2 H locs ls hf hW hl
      exact (sp_lp0 hf).elim
    | succ n9 ih4 =>
      intro y1 y2 H locs ls hf hW hl
      have hf := sp_lpS hf
      rw [f_X7_withUnits_L4_eq] at hf
      refine lv_iload_n hx hb dX7_withUnits_4 rfl (lv_at hl 2 rfl) ?_
      refine lv_aload_n hx hb dX7_withUnits_5 rfl (lv_at hl 0 rfl) ?_
      refine sp_get S hK hW inX2 0 rfl rfl 6 (by decide) lk1 rfl dX7_withUnits_6 ?_
      refine lv_icmp_ge (tgt := 64) hx hb dX7_withUnits_9 (by decide) (fun hc => ?_) (fun hc => ?_)
      · have hf := sp_ht hf hc
        exact hj4 _ _ _ _ hf hW (lv_sub hl [1] rfl)
      · have hf := sp_hf hf hc
        refine lv_aload_n hx hb dX7_withUnits_12 rfl (lv_at hl 0 rfl) ?_
        refine sp_get S hK hW inX2 0 rfl rfl 0 (by decide) lk2 rfl dX7_withUnits_13 ?_
        refine lv_aload_n hx hb dX7_withUnits_16 rfl (lv_at hl 0 rfl) ?_
        refine sp_get S hK hW inX2 0 rfl rfl 4 (by decide) lk3 rfl dX7_withUnits_17 ?_
        refine lv_iload_n hx hb dX7_withUnits_20 rfl (lv_at hl 2 rfl) ?_
        obtain ⟨hin, v5, ev5, hf⟩ := sp_hld hf
        refine sp_iald S hK hW 5 rfl hin ev5 dX7_withUnits_21 ?_
        obtain ⟨hin, v6, ev6, hf⟩ := sp_hld hf
        refine sp_iald S hK hW 1 rfl hin ev6 dX7_withUnits_22 ?_
        refine lv_iload_n hx hb dX7_withUnits_23 rfl (lv_at hl 1 rfl) ?_
        refine lv_iconst (v := (-1)) hx hb dX7_withUnits_24 (by decide) ?_
        refine lv_ixor hx hb dX7_withUnits_25 ?_
        refine lv_iand hx hb dX7_withUnits_26 ?_
        obtain ⟨v7, ev7, hf⟩ := sp_hb hf
        refine sp_topi ev7 ?_
        refine lv_istore (lv' := [(4, .int v7), (0, .ref (d 0)), (2, .int y1), (3, .int y2)]) hx hb dX7_withUnits_27 hl (by decide) rfl (fun ls hl => ?_)
        refine lv_iload hx hb dX7_withUnits_29 (lv_at hl 0 rfl) ?_
        obtain ⟨r8, hc8, hf⟩ := sp_hc hf
        refine sp_callSi (rest := []) S hK hG hA hW (c_J6_bitCount_0f7a4 v7 hc8) (by decide) (va_cwS 1 S.2.2.2.2 gX7_withUnits_J6_bitCount_0f7a4 rfl rfl rfl (by decide +kernel) (by decide)) (isC := []) rfl rfl rfl (WS' := sw_P d q5 cl2 le2 ri2 lt2 gr2 ct2 gc2) rfl rfl hl.1 (Nat.le_of_ble_eq_true rfl) dX7_withUnits_31 ⟨Nat.zero_le _, Nat.zero_le _⟩ rfl (fun H locs hW => ?_)
        refine lv_iconst (v := 1) hx hb dX7_withUnits_34 (by decide) ?_
        obtain ⟨k10, ek10, hf⟩ := sp_hb hf
        have hj10 : ∀ (x9 : Int32) (H : Heap) (locs : List Loc) (ls : Array Slot), k10 x9 = some r' → sp_wd D A s.heap (sw_P d q5 cl2 le2 ri2 lt2 gr2 ct2 gc2) H locs → lv_has ls 5 [(0, .ref (d 0)), (2, .int x9), (3, .int y2)] → W p l e rmX7_withUnits s m args below meth c H locs 0 0 Q (F0 m 58 ls []) := by
          intro x9 H locs ls hf hW hl
          rw [ek10] at hf
          obtain ⟨v11, ev11, hf⟩ := sp_hb hf
          refine lv_iinc (v := v11) (lv' := [(3, .int v11), (0, .ref (d 0)), (2, .int x9)]) hx hb dX7_withUnits_58 hl (k := 2) rfl (by rw [ev11]; rfl) (by decide) rfl (fun ls hl => ?_)
          refine lv_goto (tgt := 4) hx hb dX7_withUnits_61 (by decide) ?_
          exact ih4 _ _ _ _ _ hf hW (lv_sub hl [1, 2, 0] rfl)
        refine lv_icmp_ne (tgt := 58) hx hb dX7_withUnits_35 (by decide) (fun hc => ?_) (fun hc => ?_)
        · have hf := sp_hf hf hc
          exact hj10 _ _ _ _ hf hW (lv_sub hl [1, 2, 3] rfl)
        · have hf := sp_ht hf hc
          refine lv_iload hx hb dX7_withUnits_38 (lv_at hl 0 rfl) ?_
          obtain ⟨r12, hc12, hf⟩ := sp_hc hf
          refine sp_callSi (rest := []) S hK hG hA hW (c_X0_others v7 hc12) (by decide) (va_cwS 1 S.2.2.2.2 gX7_withUnits_X0_others rfl rfl rfl (by decide +kernel) (by decide)) (isC := []) rfl rfl rfl (WS' := sw_P d q5 cl2 le2 ri2 lt2 gr2 ct2 gc2) rfl rfl hl.1 (Nat.le_of_ble_eq_true rfl) dX7_withUnits_40 ⟨Nat.zero_le _, Nat.zero_le _⟩ rfl (fun H locs hW => ?_)
          refine lv_iload_n hx hb dX7_withUnits_43 rfl (lv_at hl 2 rfl) ?_
          obtain ⟨r13, hc13, hf⟩ := sp_hc hf
          refine sp_callSi (rest := []) S hK hG hA hW (c_X0_isPart r12 y1 hc13) (by decide) (va_cwS 2 S.2.2.2.2 gX7_withUnits_X0_isPart rfl rfl rfl (by decide +kernel) (by decide)) (isC := []) rfl rfl rfl (WS' := sw_P d q5 cl2 le2 ri2 lt2 gr2 ct2 gc2) rfl rfl hl.1 (Nat.le_of_ble_eq_true rfl) dX7_withUnits_44 ⟨Nat.zero_le _, Nat.zero_le _⟩ rfl (fun H locs hW => ?_)
          refine lv_if_ne (tgt := 58) hx hb dX7_withUnits_47 (by decide) (fun hc => ?_) (fun hc => ?_)
          · have hf := sp_hf hf hc
            exact hj10 _ _ _ _ hf hW (lv_sub hl [1, 2, 3] rfl)
          · have hf := sp_ht hf hc
            refine lv_iload_n hx hb dX7_withUnits_50 rfl (lv_at hl 2 rfl) ?_
            refine lv_iload hx hb dX7_withUnits_51 (lv_at hl 0 rfl) ?_
            obtain ⟨r14, hc14, hf⟩ := sp_hc hf
            refine sp_callSi (rest := [.int y1]) S hK hG hA hW (c_X0_others v7 hc14) (by decide) (va_cwS 1 S.2.2.2.2 gX7_withUnits_X0_others rfl rfl rfl (by decide +kernel) (by decide)) (isC := []) rfl rfl rfl (WS' := sw_P d q5 cl2 le2 ri2 lt2 gr2 ct2 gc2) rfl rfl hl.1 (Nat.le_of_ble_eq_true rfl) dX7_withUnits_53 ⟨Nat.zero_le _, Nat.zero_le _⟩ rfl (fun H locs hW => ?_)
            refine lv_ior hx hb dX7_withUnits_56 ?_
            obtain ⟨v15, ev15, hf⟩ := sp_hb hf
            refine sp_topi ev15 ?_
            refine lv_istore_n (lv' := [(2, .int v15), (4, .int v7), (0, .ref (d 0)), (3, .int y2)]) hx hb dX7_withUnits_57 rfl hl (by decide) rfl (fun ls hl => ?_)
            exact hj10 _ _ _ _ hf hW (lv_sub hl [2, 0, 3] rfl)
  exact hlp4 _ _ _ _ _ _ hf hW (lv_sub hl [2, 1, 0] rfl)

def f_X7_isByUnits_L24 (gc2 : Int32) (k6 : Option (Int32)) (gr2 : Nat → Int32) (cl2 : Nat → Int32) (x3 : Int32) (rec24 : (Int32) → Option (Int32)) (s9 : Int32) : Option (Int32) := match s9 with
  | y5 => if gc2 ≤ y5 then k6 else (sp_ld gr2 48 y5 (fun v7 => sp_ld cl2 48 v7 (fun v8 => Option.bind (f_X0_isPart v8 x3) (fun r9 => if r9 = 0 then (sp_bnd (y5 + (1 : Int32)) (fun v10 => rec24 v10)) else (some (1 : Int32))))))
theorem f_X7_isByUnits_L24_eq {rec24 : (Int32) → Option (Int32)} {gc2 : Int32} {k6 : Option (Int32)} {gr2 : Nat → Int32} {cl2 : Nat → Int32} {x3 : Int32} {y5 : Int32} : f_X7_isByUnits_L24 gc2 k6 gr2 cl2 x3 rec24 y5 = (if gc2 ≤ y5 then k6 else (sp_ld gr2 48 y5 (fun v7 => sp_ld cl2 48 v7 (fun v8 => Option.bind (f_X0_isPart v8 x3) (fun r9 => if r9 = 0 then (sp_bnd (y5 + (1 : Int32)) (fun v10 => rec24 v10)) else (some (1 : Int32))))))) := rfl
def f_X7_isByUnits_L4 (k4 : Int32 → Option (Int32)) (cl2 : Nat → Int32) (gr2 : Nat → Int32) (gc2 : Int32) (rec4 : (Int32 × Int32) → Option (Int32)) (s9 : Int32 × Int32) : Option (Int32) := match s9 with
  | (y1, y2) => if (6 : Int32) ≤ y2 then (k4 y1) else (Option.bind (f_X7_withUnits y1 cl2 gr2 gc2) (fun r11 => sp_bnd (y2 + (1 : Int32)) (fun v12 => rec4 (r11, v12))))
theorem f_X7_isByUnits_L4_eq {rec4 : (Int32 × Int32) → Option (Int32)} {k4 : Int32 → Option (Int32)} {cl2 : Nat → Int32} {gr2 : Nat → Int32} {gc2 : Int32} {y1 : Int32} {y2 : Int32} : f_X7_isByUnits_L4 k4 cl2 gr2 gc2 rec4 (y1, y2) = (if (6 : Int32) ≤ y2 then (k4 y1) else (Option.bind (f_X7_withUnits y1 cl2 gr2 gc2) (fun r11 => sp_bnd (y2 + (1 : Int32)) (fun v12 => rec4 (r11, v12))))) := rfl
def f_X7_isByUnits (p2 : Int32) (cl2 : Nat → Int32) (gr2 : Nat → Int32) (gc2 : Int32) : Option (Int32) := sp_bnd (fun (x3 : Int32) => sp_bnd (some (0 : Int32)) (fun k6 => sp_lp (f_X7_isByUnits_L24 gc2 k6 gr2 cl2 x3) sp_F (0 : Int32))) (fun k4 => sp_lp (f_X7_isByUnits_L4 k4 cl2 gr2 gc2) sp_F (p2, (0 : Int32)))
def rmX7_isByUnits : Room := { frames := 2, cells := 0, slots := 0, locals := 45 }
set_option maxRecDepth 4000 in
theorem c_X7_isByUnits {l : Launch} {D : va_G} {q5 : Nat → ClassId} (d : Nat → Nat) (cl2 : Nat → Int32) (le2 : Nat → Int32) (ri2 : Nat → Int32) (lt2 : Nat → Int32) (gr2 : Nat → Int32) (ct2 : Int32) (gc2 : Int32) (p2 : Int32) {r' : Int32} (hf : f_X7_isByUnits p2 cl2 gr2 gc2 = some r') : sp_Ci l yX7_isByUnits wsX7_isByUnits rmX7_isByUnits D q5 0 [.ref (d 0), .int p2] (sw_P d q5 cl2 le2 ri2 lt2 gr2 ct2 gc2) r' (sw_P d q5 cl2 le2 ri2 lt2 gr2 ct2 gc2) := by
  intro sz
  refine sp_of (cc := cX7_isByUnits) (maxL := 4) (ret := some .boolean) (own := RX7) (Qc := sp_Qi D r' (sw_P d q5 cl2 le2 ri2 lt2 gr2 ct2 gc2)) (by decide) rfl rfl (Nat.le_of_ble_eq_true rfl) ?_
  intro p e s m args below meth c A ls Q hQ S hr hlk hK hG hA hW hl
  have hx := S.1
  have hb := S.2.1
  unfold f_X7_isByUnits at hf
  have inX2 : ∀ w ∈ u_ws RX2 TX2 7, w ∈ wsX7_isByUnits := (fun _ h => List.mem_cons_of_mem _ (List.mem_append_right _ h))
  have lk1 := S.2.2.2.2 (Cond.fieldLink RX7 9 "ShortProofs$Proof" "groundCount" "I") (List.mem_of_getElem? (i := 1) rfl)
  have lk2 := S.2.2.2.2 (Cond.fieldLink RX7 15 "ShortProofs$Proof" "clauses" "[I") (List.mem_of_getElem? (i := 2) rfl)
  have lk3 := S.2.2.2.2 (Cond.fieldLink RX7 19 "ShortProofs$Proof" "grounds" "[I") (List.mem_of_getElem? (i := 3) rfl)
  refine lv_iload_n hx hb dX7_isByUnits_0 rfl (lv_at hl 1 rfl) ?_
  refine lv_istore_n (lv' := [(2, .int p2), (0, .ref (d 0)), (1, .int p2)]) hx hb dX7_isByUnits_1 rfl hl (by decide) rfl (fun ls hl => ?_)
  refine lv_iconst (v := 0) hx hb dX7_isByUnits_2 (by decide) ?_
  refine lv_istore_n (lv' := [(3, .int (0 : Int32)), (2, .int p2), (0, .ref (d 0)), (1, .int p2)]) hx hb dX7_isByUnits_3 rfl hl (by decide) rfl (fun ls hl => ?_)
  obtain ⟨k4, ek4, hf⟩ := sp_hb hf
  have hj4 : ∀ (x3 : Int32) (H : Heap) (locs : List Loc) (ls : Array Slot), k4 x3 = some r' → sp_wd D A s.heap (sw_P d q5 cl2 le2 ri2 lt2 gr2 ct2 gc2) H locs → lv_has ls 4 [(0, .ref (d 0)), (2, .int x3)] → W p l e rmX7_isByUnits s m args below meth c H locs 0 0 Q (F0 m 22 ls []) := by
    intro x3 H locs ls hf hW hl
    rw [ek4] at hf
    refine lv_iconst (v := 0) hx hb dX7_isByUnits_22 (by decide) ?_
    refine lv_istore_n (lv' := [(3, .int (0 : Int32)), (0, .ref (d 0)), (2, .int x3)]) hx hb dX7_isByUnits_23 rfl hl (by decide) rfl (fun ls hl => ?_)
    obtain ⟨k6, ek6, hf⟩ := sp_hb hf
    have hj6 : ∀ (H : Heap) (locs : List Loc) (ls : Array Slot), k6 = some r' → sp_wd D A s.heap (sw_P d q5 cl2 le2 ri2 lt2 gr2 ct2 gc2) H locs → lv_has ls 4 [] → W p l e rmX7_isByUnits s m args below meth c H locs 0 0 Q (F0 m 58 ls []) := by
      intro H locs ls hf hW hl
      rw [ek6] at hf
      refine lv_iconst (v := 0) hx hb dX7_isByUnits_58 (by decide) ?_
      cases hf
      exact sp_zret S hr hlk hW rfl hQ dX7_isByUnits_59
    have hlp24 : ∀ (n9 : Nat) (y5 : Int32) (H : Heap) (locs : List Loc) (ls : Array Slot), sp_lp (f_X7_isByUnits_L24 gc2 k6 gr2 cl2 x3) n9 y5 = some r' → sp_wd D A s.heap (sw_P d q5 cl2 le2 ri2 lt2 gr2 ct2 gc2) H locs → lv_has ls 4 [(0, .ref (d 0)), (2, .int x3), (3, .int y5)] → W p l e rmX7_isByUnits s m args below meth c H locs 0 0 Q (F0 m 24 ls []) := by
      intro n9
      induction n9 with
      | zero =>
        intro y5 H locs ls hf hW hl
        exact (sp_lp0 hf).elim
      | succ n9 ih24 =>
        intro y5 H locs ls hf hW hl
        have hf := sp_lpS hf
        rw [f_X7_isByUnits_L24_eq] at hf
        refine lv_iload_n hx hb dX7_isByUnits_24 rfl (lv_at hl 2 rfl) ?_
        refine lv_aload_n hx hb dX7_isByUnits_25 rfl (lv_at hl 0 rfl) ?_
        refine sp_get S hK hW inX2 0 rfl rfl 6 (by decide) lk1 rfl dX7_isByUnits_26 ?_
        refine lv_icmp_ge (tgt := 58) hx hb dX7_isByUnits_29 (by decide) (fun hc => ?_) (fun hc => ?_)
        · have hf := sp_ht hf hc
          exact hj6 _ _ _ hf hW (lv_sub hl [] rfl)
        · have hf := sp_hf hf hc
          refine lv_aload_n hx hb dX7_isByUnits_32 rfl (lv_at hl 0 rfl) ?_
          refine sp_get S hK hW inX2 0 rfl rfl 0 (by decide) lk2 rfl dX7_isByUnits_33 ?_
          refine lv_aload_n hx hb dX7_isByUnits_36 rfl (lv_at hl 0 rfl) ?_
          refine sp_get S hK hW inX2 0 rfl rfl 4 (by decide) lk3 rfl dX7_isByUnits_37 ?_
          refine lv_iload_n hx hb dX7_isByUnits_40 rfl (lv_at hl 2 rfl) ?_
          obtain ⟨hin, v7, ev7, hf⟩ := sp_hld hf
          refine sp_iald S hK hW 5 rfl hin ev7 dX7_isByUnits_41 ?_
          obtain ⟨hin, v8, ev8, hf⟩ := sp_hld hf
          refine sp_iald S hK hW 1 rfl hin ev8 dX7_isByUnits_42 ?_
          refine lv_iload_n hx hb dX7_isByUnits_43 rfl (lv_at hl 1 rfl) ?_
          obtain ⟨r9, hc9, hf⟩ := sp_hc hf
          refine sp_callSi (rest := []) S hK hG hA hW (c_X0_isPart v8 x3 hc9) (by decide) (va_cwS 2 S.2.2.2.2 gX7_isByUnits_X0_isPart rfl rfl rfl (by decide +kernel) (by decide)) (isC := []) rfl rfl rfl (WS' := sw_P d q5 cl2 le2 ri2 lt2 gr2 ct2 gc2) rfl rfl hl.1 (Nat.le_of_ble_eq_true rfl) dX7_isByUnits_44 ⟨Nat.zero_le _, Nat.zero_le _⟩ rfl (fun H locs hW => ?_)
          refine lv_if_eq (tgt := 52) hx hb dX7_isByUnits_47 (by decide) (fun hc => ?_) (fun hc => ?_)
          · have hf := sp_ht hf hc
            obtain ⟨v10, ev10, hf⟩ := sp_hb hf
            refine lv_iinc (v := v10) (lv' := [(3, .int v10), (0, .ref (d 0)), (2, .int x3)]) hx hb dX7_isByUnits_52 hl (k := 2) rfl (by rw [ev10]; rfl) (by decide) rfl (fun ls hl => ?_)
            refine lv_goto (tgt := 24) hx hb dX7_isByUnits_55 (by decide) ?_
            exact ih24 _ _ _ _ hf hW (lv_sub hl [1, 2, 0] rfl)
          · have hf := sp_hf hf hc
            refine lv_iconst (v := 1) hx hb dX7_isByUnits_50 (by decide) ?_
            cases hf
            exact sp_zret S hr hlk hW rfl hQ dX7_isByUnits_51
    exact hlp24 _ _ _ _ _ hf hW (lv_sub hl [1, 2, 0] rfl)
  have hlp4 : ∀ (n9 : Nat) (y1 : Int32) (y2 : Int32) (H : Heap) (locs : List Loc) (ls : Array Slot), sp_lp (f_X7_isByUnits_L4 k4 cl2 gr2 gc2) n9 (y1, y2) = some r' → sp_wd D A s.heap (sw_P d q5 cl2 le2 ri2 lt2 gr2 ct2 gc2) H locs → lv_has ls 4 [(0, .ref (d 0)), (2, .int y1), (3, .int y2)] → W p l e rmX7_isByUnits s m args below meth c H locs 0 0 Q (F0 m 4 ls []) := by
    intro n9
    induction n9 with
    | zero =>
      intro y1 y2 H locs ls hf hW hl
      exact (sp_lp0 hf).elim
    | succ n9 ih4 =>
      intro y1 y2 H locs ls hf hW hl
      have hf := sp_lpS hf
      rw [f_X7_isByUnits_L4_eq] at hf
      refine lv_iload_n hx hb dX7_isByUnits_4 rfl (lv_at hl 2 rfl) ?_
      refine lv_bipush (v := 6) hx hb dX7_isByUnits_5 (by decide) ?_
      refine lv_icmp_ge (tgt := 22) hx hb dX7_isByUnits_7 (by decide) (fun hc => ?_) (fun hc => ?_)
      · have hf := sp_ht hf hc
        exact hj4 _ _ _ _ hf hW (lv_sub hl [0, 1] rfl)
      · have hf := sp_hf hf hc
        refine lv_aload_n hx hb dX7_isByUnits_10 rfl (lv_at hl 0 rfl) ?_
        refine lv_iload_n hx hb dX7_isByUnits_11 rfl (lv_at hl 1 rfl) ?_
        obtain ⟨r11, hc11, hf⟩ := sp_hc hf
        refine sp_callSiP (rest := []) S hK hG hA hW (c_X7_withUnits d cl2 le2 ri2 lt2 gr2 ct2 gc2 y1 hc11) (by decide) (va_cwS 2 S.2.2.2.2 gX7_isByUnits_X7_withUnits rfl rfl rfl (by decide +kernel) (by decide)) (sp_pn _) rfl (WS' := sw_P d q5 cl2 le2 ri2 lt2 gr2 ct2 gc2) (sp_pn' _) rfl hl.1 (Nat.le_of_ble_eq_true rfl) dX7_isByUnits_12 ⟨Nat.zero_le _, Nat.zero_le _⟩ rfl (fun H locs hW => ?_)
        refine lv_istore_n (lv' := [(2, .int r11), (0, .ref (d 0)), (3, .int y2)]) hx hb dX7_isByUnits_15 rfl hl (by decide) rfl (fun ls hl => ?_)
        obtain ⟨v12, ev12, hf⟩ := sp_hb hf
        refine lv_iinc (v := v12) (lv' := [(3, .int v12), (2, .int r11), (0, .ref (d 0))]) hx hb dX7_isByUnits_16 hl (k := 2) rfl (by rw [ev12]; rfl) (by decide) rfl (fun ls hl => ?_)
        refine lv_goto (tgt := 4) hx hb dX7_isByUnits_19 (by decide) ?_
        exact ih4 _ _ _ _ _ hf hW (lv_sub hl [2, 1, 0] rfl)
  exact hlp4 _ _ _ _ _ _ hf hW (lv_sub hl [2, 1, 0] rfl)
