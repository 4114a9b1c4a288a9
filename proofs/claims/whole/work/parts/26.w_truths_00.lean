def f_X8_allOf_L7 (gc2 : Int32) (k4 : Int64 → Option (Int64)) (p2 : Int32) (gr2 : Nat → Int32) (cl2 : Nat → Int32) (rec7 : (Int64 × Int32) → Option (Int64)) (s9 : Int64 × Int32) : Option (Int64) := match s9 with
  | (y1, y2) => if gc2 ≤ y2 then (k4 y1) else (Option.bind (f_X9_isIn y2 (p2.toInt64)) (fun r5 => sp_bnd (fun (x6 : Int64) => sp_bnd (y2 + (1 : Int32)) (fun v8 => rec7 (x6, v8))) (fun k7 => if r5 = 0 then (k7 y1) else (sp_ld gr2 48 y2 (fun v9 => sp_ld cl2 48 v9 (fun v10 => Option.bind (f_X0_tableOf v10) (fun r11 => sp_bnd (y1 &&& r11) (fun v12 => k7 v12))))))))
theorem f_X8_allOf_L7_eq {rec7 : (Int64 × Int32) → Option (Int64)} {gc2 : Int32} {k4 : Int64 → Option (Int64)} {p2 : Int32} {gr2 : Nat → Int32} {cl2 : Nat → Int32} {y1 : Int64} {y2 : Int32} : f_X8_allOf_L7 gc2 k4 p2 gr2 cl2 rec7 (y1, y2) = (if gc2 ≤ y2 then (k4 y1) else (Option.bind (f_X9_isIn y2 (p2.toInt64)) (fun r5 => sp_bnd (fun (x6 : Int64) => sp_bnd (y2 + (1 : Int32)) (fun v8 => rec7 (x6, v8))) (fun k7 => if r5 = 0 then (k7 y1) else (sp_ld gr2 48 y2 (fun v9 => sp_ld cl2 48 v9 (fun v10 => Option.bind (f_X0_tableOf v10) (fun r11 => sp_bnd (y1 &&& r11) (fun v12 => k7 v12))))))))) := rfl
def f_X8_allOf (p2 : Int32) (cl2 : Nat → Int32) (gr2 : Nat → Int32) (gc2 : Int32) : Option (Int64) := sp_bnd (fun (x3 : Int64) => some x3) (fun k4 => sp_lp (f_X8_allOf_L7 gc2 k4 p2 gr2 cl2) sp_F ((-1 : Int64), (0 : Int32)))
def rmX8_allOf : Room := { frames := 2, cells := 0, slots := 0, locals := 44 }
set_option maxRecDepth 4000 in
theorem c_X8_allOf {l : Launch} {D : va_G} {q5 : Nat → ClassId} (d : Nat → Nat) (cl2 : Nat → Int32) (le2 : Nat → Int32) (ri2 : Nat → Int32) (lt2 : Nat → Int32) (gr2 : Nat → Int32) (ct2 : Int32) (gc2 : Int32) (p2 : Int32) {r' : Int64} (hf : f_X8_allOf p2 cl2 gr2 gc2 = some r') : sp_Cl l yX8_allOf wsX8_allOf rmX8_allOf D q5 2 [.ref (d 0), .int p2] (sw_P d q5 cl2 le2 ri2 lt2 gr2 ct2 gc2) r' (sw_P d q5 cl2 le2 ri2 lt2 gr2 ct2 gc2) := by
  intro sz
  refine sp_of (cc := cX8_allOf) (maxL := 5) (ret := some .long) (own := RX8) (Qc := sp_Ql D r' (sw_P d q5 cl2 le2 ri2 lt2 gr2 ct2 gc2)) (by decide) rfl rfl (Nat.le_of_ble_eq_true rfl) ?_
  intro p e s m args below meth c A ls Q hQ S hr hlk hK hG hA hW hl
  have hx := S.1
  have hb := S.2.1
  unfold f_X8_allOf at hf
  have inX2 : ∀ w ∈ u_ws RX2 TX2 7, w ∈ wsX8_allOf := (fun _ h => List.mem_cons_of_mem _ (List.mem_append_right _ h))
  have lk1 := S.2.2.2.2 (Cond.constantLong RX8 18 (-1)) (List.mem_of_getElem? (i := 1) rfl)
  have lk2 := S.2.2.2.2 (Cond.fieldLink RX8 20 "ShortProofs$Proof" "groundCount" "I") (List.mem_of_getElem? (i := 2) rfl)
  have lk3 := S.2.2.2.2 (Cond.static yX9_isIn) (List.mem_of_getElem? (i := 5) rfl)
  have lk4 := S.2.2.2.2 (Cond.initialized RX9) (List.mem_of_getElem? (i := 6) rfl)
  have lk5 := S.2.2.2.2 (Cond.fieldLink RX8 30 "ShortProofs$Proof" "clauses" "[I") (List.mem_of_getElem? (i := 3) rfl)
  have lk6 := S.2.2.2.2 (Cond.fieldLink RX8 34 "ShortProofs$Proof" "grounds" "[I") (List.mem_of_getElem? (i := 4) rfl)
  refine lv_ldc2 hx hb S.2.2.2.1 lk1 dX8_allOf_0 ?_
  refine lv_lstore_n (lv' := [(2, .long (-1 : Int64)), (0, .ref (d 0)), (1, .int p2)]) hx hb dX8_allOf_3 rfl hl (by decide) rfl (fun ls hl => ?_)
  refine lv_iconst (v := 0) hx hb dX8_allOf_4 (by decide) ?_
  refine lv_istore (lv' := [(4, .int (0 : Int32)), (2, .long (-1 : Int64)), (0, .ref (d 0)), (1, .int p2)]) hx hb dX8_allOf_5 hl (by decide) rfl (fun ls hl => ?_)
  obtain ⟨k4, ek4, hf⟩ := sp_hb hf
  have hj4 : ∀ (x3 : Int64) (H : Heap) (locs : List Loc) (ls : Array Slot), k4 x3 = some r' → sp_wd D A s.heap (sw_P d q5 cl2 le2 ri2 lt2 gr2 ct2 gc2) H locs → lv_has ls 5 [(2, .long x3)] → W p l e rmX8_allOf s m args below meth c H locs 0 0 Q (F0 m 50 ls []) := by
    intro x3 H locs ls hf hW hl
    rw [ek4] at hf
    refine lv_lload_n hx hb dX8_allOf_50 rfl (lv_at hl 0 rfl) ?_
    cases hf
    exact sp_lret S hr hlk hW hQ dX8_allOf_51
  have hlp7 : ∀ (n9 : Nat) (y1 : Int64) (y2 : Int32) (H : Heap) (locs : List Loc) (ls : Array Slot), sp_lp (f_X8_allOf_L7 gc2 k4 p2 gr2 cl2) n9 (y1, y2) = some r' → sp_wd D A s.heap (sw_P d q5 cl2 le2 ri2 lt2 gr2 ct2 gc2) H locs → lv_has ls 5 [(0, .ref (d 0)), (1, .int p2), (2, .long y1), (4, .int y2)] → W p l e rmX8_allOf s m args below meth c H locs 0 0 Q (F0 m 7 ls []) := by
    intro n9
    induction n9 with
    | zero =>
      intro y1 y2 H locs ls hf hW hl
      exact (sp_lp0 hf).elim
    | succ n9 ih7 =>
      intro y1 y2 H locs ls hf hW hl
      have hf := sp_lpS hf
      rw [f_X8_allOf_L7_eq] at hf
      refine lv_iload hx hb dX8_allOf_7 (lv_at hl 3 rfl) ?_
      refine lv_aload_n hx hb dX8_allOf_9 rfl (lv_at hl 0 rfl) ?_
      refine sp_get S hK hW inX2 0 rfl rfl 6 (by decide) lk2 rfl dX8_allOf_10 ?_
      refine lv_icmp_ge (tgt := 50) hx hb dX8_allOf_13 (by decide) (fun hc => ?_) (fun hc => ?_)
      · have hf := sp_ht hf hc
        exact hj4 _ _ _ _ hf hW (lv_sub hl [2] rfl)
      · have hf := sp_hf hf hc
        refine lv_iload hx hb dX8_allOf_16 (lv_at hl 3 rfl) ?_
        refine lv_iload_n hx hb dX8_allOf_18 rfl (lv_at hl 1 rfl) ?_
        refine lv_i2l hx hb dX8_allOf_19 rfl ?_
        obtain ⟨r5, hc5, hf⟩ := sp_hc hf
        refine sp_callNi (rest := []) (host := RX9) S hK hG hA hW (c_X9_isIn y2 (p2.toInt64) hc5) (by decide) ⟨va_cnB 2 S.2.2.2.2 gX8_allOf_X9_isIn_n26 rfl rfl rfl (hG.1 (by decide) _ (List.mem_of_getElem? (i := 13) rfl)) lk4 (by decide +kernel) (by decide), lk3, trivial⟩ (isC := []) rfl rfl rfl (WS' := sw_P d q5 cl2 le2 ri2 lt2 gr2 ct2 gc2) rfl rfl hl.1 (Nat.le_of_ble_eq_true rfl) dX8_allOf_20 ⟨Nat.zero_le _, Nat.zero_le _⟩ rfl (fun H locs hW => ?_)
        obtain ⟨k7, ek7, hf⟩ := sp_hb hf
        have hj7 : ∀ (x6 : Int64) (H : Heap) (locs : List Loc) (ls : Array Slot), k7 x6 = some r' → sp_wd D A s.heap (sw_P d q5 cl2 le2 ri2 lt2 gr2 ct2 gc2) H locs → lv_has ls 5 [(0, .ref (d 0)), (1, .int p2), (2, .long x6), (4, .int y2)] → W p l e rmX8_allOf s m args below meth c H locs 0 0 Q (F0 m 44 ls []) := by
          intro x6 H locs ls hf hW hl
          rw [ek7] at hf
          obtain ⟨v8, ev8, hf⟩ := sp_hb hf
          refine lv_iinc (v := v8) (lv' := [(4, .int v8), (0, .ref (d 0)), (1, .int p2), (2, .long x6)]) hx hb dX8_allOf_44 hl (k := 3) rfl (by rw [ev8]; rfl) (by decide) rfl (fun ls hl => ?_)
          refine lv_goto (tgt := 7) hx hb dX8_allOf_47 (by decide) ?_
          exact ih7 _ _ _ _ _ hf hW (lv_sub hl [1, 2, 3, 0] rfl)
        refine lv_if_eq (tgt := 44) hx hb dX8_allOf_23 (by decide) (fun hc => ?_) (fun hc => ?_)
        · have hf := sp_ht hf hc
          exact hj7 _ _ _ _ hf hW (lv_sub hl [0, 1, 2, 3] rfl)
        · have hf := sp_hf hf hc
          refine lv_lload_n hx hb dX8_allOf_26 rfl (lv_at hl 2 rfl) ?_
          refine lv_aload_n hx hb dX8_allOf_27 rfl (lv_at hl 0 rfl) ?_
          refine sp_get S hK hW inX2 0 rfl rfl 0 (by decide) lk5 rfl dX8_allOf_28 ?_
          refine lv_aload_n hx hb dX8_allOf_31 rfl (lv_at hl 0 rfl) ?_
          refine sp_get S hK hW inX2 0 rfl rfl 4 (by decide) lk6 rfl dX8_allOf_32 ?_
          refine lv_iload hx hb dX8_allOf_35 (lv_at hl 3 rfl) ?_
          obtain ⟨hin, v9, ev9, hf⟩ := sp_hld hf
          refine sp_iald S hK hW 5 rfl hin ev9 dX8_allOf_37 ?_
          obtain ⟨hin, v10, ev10, hf⟩ := sp_hld hf
          refine sp_iald S hK hW 1 rfl hin ev10 dX8_allOf_38 ?_
          obtain ⟨r11, hc11, hf⟩ := sp_hc hf
          refine sp_callSl (rest := [.long y1]) S hK hG hA hW (c_X0_tableOf v10 hc11) (by decide) (va_cwS 1 S.2.2.2.2 gX8_allOf_X0_tableOf rfl rfl rfl (by decide +kernel) (by decide)) (isC := []) rfl rfl rfl (WS' := sw_P d q5 cl2 le2 ri2 lt2 gr2 ct2 gc2) rfl rfl hl.1 (Nat.le_of_ble_eq_true rfl) dX8_allOf_39 ⟨Nat.zero_le _, Nat.zero_le _⟩ rfl (fun H locs hW => ?_)
          refine lv_land hx hb dX8_allOf_42 ?_
          obtain ⟨v12, ev12, hf⟩ := sp_hb hf
          refine sp_topl ev12 ?_
          refine lv_lstore_n (lv' := [(2, .long v12), (0, .ref (d 0)), (1, .int p2), (4, .int y2)]) hx hb dX8_allOf_43 rfl hl (by decide) rfl (fun ls hl => ?_)
          exact hj7 _ _ _ _ hf hW (lv_sub hl [1, 2, 0, 3] rfl)
  exact hlp7 _ _ _ _ _ _ hf hW (lv_sub hl [2, 3, 1, 0] rfl)

def f_X8_fillTogether_L43 (y2 : Int32) (k12 : (Nat → Int64) → Option ((Nat → Int64))) (r8 : Int64) (rec43 : (Int32 × (Nat → Int64)) → Option ((Nat → Int64))) (s9 : Int32 × (Nat → Int64)) : Option ((Nat → Int64)) := match s9 with
  | (y9, c10) => if ((1 : Int32) <<< (y2 &&& 31)) ≤ y9 then (k12 c10) else (sp_ld c10 1024 y9 (fun v14 => sp_stL c10 1024 (y9 ||| ((1 : Int32) <<< (y2 &&& 31))) (v14 &&& r8) (fun c15 => sp_bnd (y9 + (1 : Int32)) (fun v16 => rec43 (v16, c15)))))
theorem f_X8_fillTogether_L43_eq {rec43 : (Int32 × (Nat → Int64)) → Option ((Nat → Int64))} {y2 : Int32} {k12 : (Nat → Int64) → Option ((Nat → Int64))} {r8 : Int64} {y9 : Int32} {c10 : Nat → Int64} : f_X8_fillTogether_L43 y2 k12 r8 rec43 (y9, c10) = (if ((1 : Int32) <<< (y2 &&& 31)) ≤ y9 then (k12 c10) else (sp_ld c10 1024 y9 (fun v14 => sp_stL c10 1024 (y9 ||| ((1 : Int32) <<< (y2 &&& 31))) (v14 &&& r8) (fun c15 => sp_bnd (y9 + (1 : Int32)) (fun v16 => rec43 (v16, c15)))))) := rfl
def f_X8_fillTogether_L11 (gc2 : Int32) (k5 : (Nat → Int64) → Option ((Nat → Int64))) (gr2 : Nat → Int32) (cl2 : Nat → Int32) (rec11 : (Int32 × (Nat → Int64)) → Option ((Nat → Int64))) (s9 : Int32 × (Nat → Int64)) : Option ((Nat → Int64)) := match s9 with
  | (y2, c3) => if gc2 ≤ y2 then (k5 c3) else (if (10 : Int32) ≤ y2 then (k5 c3) else (sp_ld gr2 48 y2 (fun v6 => sp_ld cl2 48 v6 (fun v7 => Option.bind (f_X0_tableOf v7) (fun r8 => sp_bnd (fun (c11 : Nat → Int64) => sp_bnd (y2 + (1 : Int32)) (fun v13 => rec11 (v13, c11))) (fun k12 => sp_lp (f_X8_fillTogether_L43 y2 k12 r8) sp_F ((0 : Int32), c3)))))))
theorem f_X8_fillTogether_L11_eq {rec11 : (Int32 × (Nat → Int64)) → Option ((Nat → Int64))} {gc2 : Int32} {k5 : (Nat → Int64) → Option ((Nat → Int64))} {gr2 : Nat → Int32} {cl2 : Nat → Int32} {y2 : Int32} {c3 : Nat → Int64} : f_X8_fillTogether_L11 gc2 k5 gr2 cl2 rec11 (y2, c3) = (if gc2 ≤ y2 then (k5 c3) else (if (10 : Int32) ≤ y2 then (k5 c3) else (sp_ld gr2 48 y2 (fun v6 => sp_ld cl2 48 v6 (fun v7 => Option.bind (f_X0_tableOf v7) (fun r8 => sp_bnd (fun (c11 : Nat → Int64) => sp_bnd (y2 + (1 : Int32)) (fun v13 => rec11 (v13, c11))) (fun k12 => sp_lp (f_X8_fillTogether_L43 y2 k12 r8) sp_F ((0 : Int32), c3)))))))) := rfl
def f_X8_fillTogether (tg : Nat → Int64) (cl2 : Nat → Int32) (gr2 : Nat → Int32) (gc2 : Int32) : Option ((Nat → Int64)) := sp_stL tg 1024 (0 : Int32) (-1 : Int64) (fun c1 => sp_bnd (fun (c4 : Nat → Int64) => some c4) (fun k5 => sp_lp (f_X8_fillTogether_L11 gc2 k5 gr2 cl2) sp_F ((0 : Int32), c1)))
def rmX8_fillTogether : Room := { frames := 2, cells := 0, slots := 0, locals := 44 }
set_option maxRecDepth 4000 in
theorem c_X8_fillTogether {l : Launch} {D : va_G} {q5 : Nat → ClassId} (a : Nat → Nat) (d : Nat → Nat) (tg : Nat → Int64) (bt : Nat → Int64) (cl2 : Nat → Int32) (le2 : Nat → Int32) (ri2 : Nat → Int32) (lt2 : Nat → Int32) (gr2 : Nat → Int32) (ct2 : Int32) (gc2 : Int32) {tg' : Nat → Int64} (hf : f_X8_fillTogether tg cl2 gr2 gc2 = some tg') : sp_Cv l yX8_fillTogether wsX8_fillTogether rmX8_fillTogether D q5 2 [.ref (a 0), .ref (d 0)] (sw_U a q5 tg bt ++ (sw_P d q5 cl2 le2 ri2 lt2 gr2 ct2 gc2)) (sw_U a q5 tg' bt ++ (sw_P d q5 cl2 le2 ri2 lt2 gr2 ct2 gc2)) := by
  intro sz
  refine sp_of (cc := cX8_fillTogether) (maxL := 6) (ret := none) (own := RX8) (Qc := sp_Qv D (sw_U a q5 tg' bt ++ (sw_P d q5 cl2 le2 ri2 lt2 gr2 ct2 gc2))) (by decide) rfl rfl (Nat.le_of_ble_eq_true rfl) ?_
  intro p e s m args below meth c A ls Q hQ S hr hlk hK hG hA hW hl
  have hx := S.1
  have hb := S.2.1
  unfold f_X8_fillTogether at hf
  have inX2 : ∀ w ∈ u_ws RX2 TX2 7, w ∈ wsX8_fillTogether := (fun _ h => List.mem_cons_of_mem _ (List.mem_append_right _ h))
  have inX8 : ∀ w ∈ u_ws RX8 TX8 2, w ∈ wsX8_fillTogether := (fun _ h => List.mem_cons_of_mem _ (List.mem_append_left _ (List.mem_append_right _ h)))
  have lk1 := S.2.2.2.2 (Cond.fieldLink RX8 9 "ShortProofs$Truths" "together" "[J") (List.mem_of_getElem? (i := 1) rfl)
  have lk2 := S.2.2.2.2 (Cond.constantLong RX8 18 (-1)) (List.mem_of_getElem? (i := 2) rfl)
  have lk3 := S.2.2.2.2 (Cond.fieldLink RX8 20 "ShortProofs$Proof" "groundCount" "I") (List.mem_of_getElem? (i := 3) rfl)
  have lk4 := S.2.2.2.2 (Cond.fieldLink RX8 30 "ShortProofs$Proof" "clauses" "[I") (List.mem_of_getElem? (i := 4) rfl)
  have lk5 := S.2.2.2.2 (Cond.fieldLink RX8 34 "ShortProofs$Proof" "grounds" "[I") (List.mem_of_getElem? (i := 5) rfl)
  refine lv_aload_n hx hb dX8_fillTogether_0 rfl (lv_at hl 0 rfl) ?_
  refine sp_get S hK hW inX8 0 rfl rfl 0 (by decide) lk1 rfl dX8_fillTogether_1 ?_
  refine lv_iconst (v := 0) hx hb dX8_fillTogether_4 (by decide) ?_
  refine lv_ldc2 hx hb S.2.2.2.1 lk2 dX8_fillTogether_5 ?_
  obtain ⟨hin, c1, ec1, hf⟩ := sp_hstL hf
  refine sp_last S hK hW 1 rfl hin ec1 (ws' := sw_U a q5 c1 bt ++ (sw_P d q5 cl2 le2 ri2 lt2 gr2 ct2 gc2)) rfl dX8_fillTogether_8 (fun H locs hW => ?_)
  refine lv_iconst (v := 0) hx hb dX8_fillTogether_9 (by decide) ?_
  refine lv_istore_n (lv' := [(2, .int (0 : Int32)), (0, .ref (a 0)), (1, .ref (d 0))]) hx hb dX8_fillTogether_10 rfl hl (by decide) rfl (fun ls hl => ?_)
  obtain ⟨k5, ek5, hf⟩ := sp_hb hf
  have hj5 : ∀ (c4 : Nat → Int64) (H : Heap) (locs : List Loc) (ls : Array Slot), k5 c4 = some tg' → sp_wd D A s.heap (sw_U a q5 c4 bt ++ (sw_P d q5 cl2 le2 ri2 lt2 gr2 ct2 gc2)) H locs → lv_has ls 6 [] → W p l e rmX8_fillTogether s m args below meth c H locs 0 0 Q (F0 m 83 ls []) := by
    intro c4 H locs ls hf hW hl
    rw [ek5] at hf
    cases hf
    exact sp_vret S hr hlk hW hQ dX8_fillTogether_83
  have hlp11 : ∀ (n9 : Nat) (y2 : Int32) (c3 : Nat → Int64) (H : Heap) (locs : List Loc) (ls : Array Slot), sp_lp (f_X8_fillTogether_L11 gc2 k5 gr2 cl2) n9 (y2, c3) = some tg' → sp_wd D A s.heap (sw_U a q5 c3 bt ++ (sw_P d q5 cl2 le2 ri2 lt2 gr2 ct2 gc2)) H locs → lv_has ls 6 [(0, .ref (a 0)), (1, .ref (d 0)), (2, .int y2)] → W p l e rmX8_fillTogether s m args below meth c H locs 0 0 Q (F0 m 11 ls []) := by
    intro n9
    induction n9 with
    | zero =>
      intro y2 c3 H locs ls hf hW hl
      exact (sp_lp0 hf).elim
    | succ n9 ih11 =>
      intro y2 c3 H locs ls hf hW hl
      have hf := sp_lpS hf
      rw [f_X8_fillTogether_L11_eq] at hf
      refine lv_iload_n hx hb dX8_fillTogether_11 rfl (lv_at hl 2 rfl) ?_
      refine lv_aload_n hx hb dX8_fillTogether_12 rfl (lv_at hl 1 rfl) ?_
      refine sp_get S hK hW inX2 3 rfl rfl 6 (by decide) lk3 rfl dX8_fillTogether_13 ?_
      refine lv_icmp_ge (tgt := 83) hx hb dX8_fillTogether_16 (by decide) (fun hc => ?_) (fun hc => ?_)
      · have hf := sp_ht hf hc
        exact hj5 _ _ _ _ hf hW (lv_sub hl [] rfl)
      · have hf := sp_hf hf hc
        refine lv_iload_n hx hb dX8_fillTogether_19 rfl (lv_at hl 2 rfl) ?_
        refine lv_bipush (v := 10) hx hb dX8_fillTogether_20 (by decide) ?_
        refine lv_icmp_ge (tgt := 83) hx hb dX8_fillTogether_22 (by decide) (fun hc => ?_) (fun hc => ?_)
        · have hf := sp_ht hf hc
          exact hj5 _ _ _ _ hf hW (lv_sub hl [] rfl)
        · have hf := sp_hf hf hc
          refine lv_aload_n hx hb dX8_fillTogether_25 rfl (lv_at hl 1 rfl) ?_
          refine sp_get S hK hW inX2 3 rfl rfl 0 (by decide) lk4 rfl dX8_fillTogether_26 ?_
          refine lv_aload_n hx hb dX8_fillTogether_29 rfl (lv_at hl 1 rfl) ?_
          refine sp_get S hK hW inX2 3 rfl rfl 4 (by decide) lk5 rfl dX8_fillTogether_30 ?_
          refine lv_iload_n hx hb dX8_fillTogether_33 rfl (lv_at hl 2 rfl) ?_
          obtain ⟨hin, v6, ev6, hf⟩ := sp_hld hf
          refine sp_iald S hK hW 8 rfl hin ev6 dX8_fillTogether_34 ?_
          obtain ⟨hin, v7, ev7, hf⟩ := sp_hld hf
          refine sp_iald S hK hW 4 rfl hin ev7 dX8_fillTogether_35 ?_
          obtain ⟨r8, hc8, hf⟩ := sp_hc hf
          refine sp_callSl (rest := []) S hK hG hA hW (c_X0_tableOf v7 hc8) (by decide) (va_cwS 1 S.2.2.2.2 gX8_fillTogether_X0_tableOf rfl rfl rfl (by decide +kernel) (by decide)) (isC := []) rfl rfl rfl (WS' := sw_U a q5 c3 bt ++ (sw_P d q5 cl2 le2 ri2 lt2 gr2 ct2 gc2)) rfl rfl hl.1 (Nat.le_of_ble_eq_true rfl) dX8_fillTogether_36 ⟨Nat.zero_le _, Nat.zero_le _⟩ rfl (fun H locs hW => ?_)
          refine lv_lstore_n (lv' := [(3, .long r8), (0, .ref (a 0)), (1, .ref (d 0)), (2, .int y2)]) hx hb dX8_fillTogether_39 rfl hl (by decide) rfl (fun ls hl => ?_)
          refine lv_iconst (v := 0) hx hb dX8_fillTogether_40 (by decide) ?_
          refine lv_istore (lv' := [(5, .int (0 : Int32)), (3, .long r8), (0, .ref (a 0)), (1, .ref (d 0)), (2, .int y2)]) hx hb dX8_fillTogether_41 hl (by decide) rfl (fun ls hl => ?_)
          obtain ⟨k12, ek12, hf⟩ := sp_hb hf
          have hj12 : ∀ (c11 : Nat → Int64) (H : Heap) (locs : List Loc) (ls : Array Slot), k12 c11 = some tg' → sp_wd D A s.heap (sw_U a q5 c11 bt ++ (sw_P d q5 cl2 le2 ri2 lt2 gr2 ct2 gc2)) H locs → lv_has ls 6 [(0, .ref (a 0)), (1, .ref (d 0)), (2, .int y2)] → W p l e rmX8_fillTogether s m args below meth c H locs 0 0 Q (F0 m 77 ls []) := by
            intro c11 H locs ls hf hW hl
            rw [ek12] at hf
            obtain ⟨v13, ev13, hf⟩ := sp_hb hf
            refine lv_iinc (v := v13) (lv' := [(2, .int v13), (0, .ref (a 0)), (1, .ref (d 0))]) hx hb dX8_fillTogether_77 hl (k := 2) rfl (by rw [ev13]; rfl) (by decide) rfl (fun ls hl => ?_)
            refine lv_goto (tgt := 11) hx hb dX8_fillTogether_80 (by decide) ?_
            exact ih11 _ _ _ _ _ hf hW (lv_sub hl [1, 2, 0] rfl)
          have hlp43 : ∀ (n9 : Nat) (y9 : Int32) (c10 : Nat → Int64) (H : Heap) (locs : List Loc) (ls : Array Slot), sp_lp (f_X8_fillTogether_L43 y2 k12 r8) n9 (y9, c10) = some tg' → sp_wd D A s.heap (sw_U a q5 c10 bt ++ (sw_P d q5 cl2 le2 ri2 lt2 gr2 ct2 gc2)) H locs → lv_has ls 6 [(0, .ref (a 0)), (1, .ref (d 0)), (2, .int y2), (3, .long r8), (5, .int y9)] → W p l e rmX8_fillTogether s m args below meth c H locs 0 0 Q (F0 m 43 ls []) := by
            intro n9
            induction n9 with
            | zero =>
              intro y9 c10 H locs ls hf hW hl
              exact (sp_lp0 hf).elim
            | succ n9 ih43 =>
              intro y9 c10 H locs ls hf hW hl
              have hf := sp_lpS hf
              rw [f_X8_fillTogether_L43_eq] at hf
              refine lv_iload hx hb dX8_fillTogether_43 (lv_at hl 4 rfl) ?_
              refine lv_iconst (v := 1) hx hb dX8_fillTogether_45 (by decide) ?_
              refine lv_iload_n hx hb dX8_fillTogether_46 rfl (lv_at hl 2 rfl) ?_
              refine lv_ishl hx hb dX8_fillTogether_47 ?_
              refine lv_icmp_ge (tgt := 77) hx hb dX8_fillTogether_48 (by decide) (fun hc => ?_) (fun hc => ?_)
              · have hf := sp_ht hf hc
                exact hj12 _ _ _ _ hf hW (lv_sub hl [0, 1, 2] rfl)
              · have hf := sp_hf hf hc
                refine lv_aload_n hx hb dX8_fillTogether_51 rfl (lv_at hl 0 rfl) ?_
                refine sp_get S hK hW inX8 0 rfl rfl 0 (by decide) lk1 rfl dX8_fillTogether_52 ?_
                refine lv_iload hx hb dX8_fillTogether_55 (lv_at hl 4 rfl) ?_
                refine lv_iconst (v := 1) hx hb dX8_fillTogether_57 (by decide) ?_
                refine lv_iload_n hx hb dX8_fillTogether_58 rfl (lv_at hl 2 rfl) ?_
                refine lv_ishl hx hb dX8_fillTogether_59 ?_
                refine lv_ior hx hb dX8_fillTogether_60 ?_
                refine lv_aload_n hx hb dX8_fillTogether_61 rfl (lv_at hl 0 rfl) ?_
                refine sp_get S hK hW inX8 0 rfl rfl 0 (by decide) lk1 rfl dX8_fillTogether_62 ?_
                refine lv_iload hx hb dX8_fillTogether_65 (lv_at hl 4 rfl) ?_
                obtain ⟨hin, v14, ev14, hf⟩ := sp_hld hf
                refine sp_lald S hK hW 1 rfl hin ev14 dX8_fillTogether_67 ?_
                refine lv_lload_n hx hb dX8_fillTogether_68 rfl (lv_at hl 3 rfl) ?_
                refine lv_land hx hb dX8_fillTogether_69 ?_
                obtain ⟨hin, c15, ec15, hf⟩ := sp_hstL hf
                refine sp_last S hK hW 1 rfl hin ec15 (ws' := sw_U a q5 c15 bt ++ (sw_P d q5 cl2 le2 ri2 lt2 gr2 ct2 gc2)) rfl dX8_fillTogether_70 (fun H locs hW => ?_)
                obtain ⟨v16, ev16, hf⟩ := sp_hb hf
                refine lv_iinc (v := v16) (lv' := [(5, .int v16), (0, .ref (a 0)), (1, .ref (d 0)), (2, .int y2), (3, .long r8)]) hx hb dX8_fillTogether_71 hl (k := 4) rfl (by rw [ev16]; rfl) (by decide) rfl (fun ls hl => ?_)
                refine lv_goto (tgt := 43) hx hb dX8_fillTogether_74 (by decide) ?_
                exact ih43 _ _ _ _ _ hf hW (lv_sub hl [1, 2, 3, 4, 0] rfl)
          exact hlp43 _ _ _ _ _ _ hf hW (lv_sub hl [2, 3, 4, 1, 0] rfl)
  exact hlp11 _ _ _ _ _ _ hf hW (lv_sub hl [1, 2, 0] rfl)

def f_X8_isCore (p1 : Int32) (tg : Nat → Int64) : Option (Int32) := sp_ld tg 1024 p1 (fun v1 => if (lg_cmp v1 (0 : Int64)) = 0 then (some (1 : Int32)) else (some (0 : Int32)))
def rmX8_isCore : Room := { frames := 0, cells := 0, slots := 0, locals := 0 }
set_option maxRecDepth 4000 in
theorem c_X8_isCore {l : Launch} {D : va_G} {q5 : Nat → ClassId} (a : Nat → Nat) (tg : Nat → Int64) (bt : Nat → Int64) (p1 : Int32) {r' : Int32} (hf : f_X8_isCore p1 tg = some r') : sp_Ci l yX8_isCore wsX8_isCore rmX8_isCore D q5 0 [.ref (a 0), .int p1] (sw_U a q5 tg bt) r' (sw_U a q5 tg bt) := by
  intro sz
  refine sp_of (cc := cX8_isCore) (maxL := 2) (ret := some .boolean) (own := RX8) (Qc := sp_Qi D r' (sw_U a q5 tg bt)) (by decide) rfl rfl (Nat.le_of_ble_eq_true rfl) ?_
  intro p e s m args below meth c A ls Q hQ S hr hlk hK hG hA hW hl
  have hx := S.1
  have hb := S.2.1
  unfold f_X8_isCore at hf
  have inX8 : ∀ w ∈ u_ws RX8 TX8 2, w ∈ wsX8_isCore := (fun _ h => List.mem_cons_of_mem _ (List.mem_append_right _ h))
  have lk1 := S.2.2.2.2 (Cond.fieldLink RX8 9 "ShortProofs$Truths" "together" "[J") (List.mem_of_getElem? (i := 1) rfl)
  refine lv_aload_n hx hb dX8_isCore_0 rfl (lv_at hl 0 rfl) ?_
  refine sp_get S hK hW inX8 0 rfl rfl 0 (by decide) lk1 rfl dX8_isCore_1 ?_
  refine lv_iload_n hx hb dX8_isCore_4 rfl (lv_at hl 1 rfl) ?_
  obtain ⟨hin, v1, ev1, hf⟩ := sp_hld hf
  refine sp_lald S hK hW 1 rfl hin ev1 dX8_isCore_5 ?_
  refine lv_lconst (v := 0) hx hb dX8_isCore_6 (by decide) ?_
  refine W.lcmp hx hb dX8_isCore_7 ?_
  refine lv_if_ne (tgt := 15) hx hb dX8_isCore_8 (by decide) (fun hc => ?_) (fun hc => ?_)
  · have hf := sp_hf hf hc
    refine lv_iconst (v := 0) hx hb dX8_isCore_15 (by decide) ?_
    cases hf
    exact sp_zret S hr hlk hW rfl hQ dX8_isCore_16
  · have hf := sp_ht hf hc
    refine lv_iconst (v := 1) hx hb dX8_isCore_11 (by decide) ?_
    refine lv_goto (tgt := 16) hx hb dX8_isCore_12 (by decide) ?_
    cases hf
    exact sp_zret S hr hlk hW rfl hQ dX8_isCore_16

def f_X8_isBare_L12 (k3 : Option (Int32)) (p1 : Int32) (tg : Nat → Int64) (rec12 : (Int32) → Option (Int32)) (s9 : Int32) : Option (Int32) := match s9 with
  | y2 => if (10 : Int32) ≤ y2 then k3 else (Option.bind (f_X9_isIn y2 (p1.toInt64)) (fun r4 => sp_bnd (sp_bnd (y2 + (1 : Int32)) (fun v6 => rec12 v6)) (fun k5 => if r4 = 0 then k5 else (Option.bind (f_X8_isCore (p1 &&& (((1 : Int32) <<< (y2 &&& 31)) ^^^ (-1 : Int32))) tg) (fun r7 => if r7 = 0 then k5 else (some (0 : Int32)))))))
theorem f_X8_isBare_L12_eq {rec12 : (Int32) → Option (Int32)} {k3 : Option (Int32)} {p1 : Int32} {tg : Nat → Int64} {y2 : Int32} : f_X8_isBare_L12 k3 p1 tg rec12 y2 = (if (10 : Int32) ≤ y2 then k3 else (Option.bind (f_X9_isIn y2 (p1.toInt64)) (fun r4 => sp_bnd (sp_bnd (y2 + (1 : Int32)) (fun v6 => rec12 v6)) (fun k5 => if r4 = 0 then k5 else (Option.bind (f_X8_isCore (p1 &&& (((1 : Int32) <<< (y2 &&& 31)) ^^^ (-1 : Int32))) tg) (fun r7 => if r7 = 0 then k5 else (some (0 : Int32)))))))) := rfl
def f_X8_isBare (p1 : Int32) (tg : Nat → Int64) : Option (Int32) := Option.bind (f_X8_isCore p1 tg) (fun r1 => if r1 = 0 then (some (0 : Int32)) else (sp_bnd (some (1 : Int32)) (fun k3 => sp_lp (f_X8_isBare_L12 k3 p1 tg) sp_F (0 : Int32))))
def rmX8_isBare : Room := { frames := 1, cells := 0, slots := 0, locals := 22 }
set_option maxRecDepth 4000 in
theorem c_X8_isBare {l : Launch} {D : va_G} {q5 : Nat → ClassId} (a : Nat → Nat) (tg : Nat → Int64) (bt : Nat → Int64) (p1 : Int32) {r' : Int32} (hf : f_X8_isBare p1 tg = some r') : sp_Ci l yX8_isBare wsX8_isBare rmX8_isBare D q5 1 [.ref (a 0), .int p1] (sw_U a q5 tg bt) r' (sw_U a q5 tg bt) := by
  intro sz
  refine sp_of (cc := cX8_isBare) (maxL := 3) (ret := some .boolean) (own := RX8) (Qc := sp_Qi D r' (sw_U a q5 tg bt)) (by decide) rfl rfl (Nat.le_of_ble_eq_true rfl) ?_
  intro p e s m args below meth c A ls Q hQ S hr hlk hK hG hA hW hl
  have hx := S.1
  have hb := S.2.1
  unfold f_X8_isBare at hf
  have lk1 := S.2.2.2.2 (Cond.static yX9_isIn) (List.mem_of_getElem? (i := 7) rfl)
  have lk2 := S.2.2.2.2 (Cond.initialized RX9) (List.mem_of_getElem? (i := 8) rfl)
  refine lv_aload_n hx hb dX8_isBare_0 rfl (lv_at hl 0 rfl) ?_
  refine lv_iload_n hx hb dX8_isBare_1 rfl (lv_at hl 1 rfl) ?_
  obtain ⟨r1, hc1, hf⟩ := sp_hc hf
  refine sp_callViP (rest := []) S hK hG hA hW (c_X8_isCore a tg bt p1 hc1) (by decide) (cwV 1 S.2.2.2.2 gX8_isBare_X8_isCore rfl rfl rfl (by decide +kernel) (by decide)) 6 0 rfl rfl (sp_pn _) rfl (WS' := sw_U a q5 tg bt) (sp_pn' _) rfl hl.1 (Nat.le_of_ble_eq_true rfl) dX8_isBare_2 ⟨Nat.zero_le _, Nat.zero_le _⟩ rfl (fun H locs hW => ?_)
  refine lv_if_ne (tgt := 10) hx hb dX8_isBare_5 (by decide) (fun hc => ?_) (fun hc => ?_)
  · have hf := sp_hf hf hc
    refine lv_iconst (v := 0) hx hb dX8_isBare_10 (by decide) ?_
    refine lv_istore_n (lv' := [(2, .int (0 : Int32)), (0, .ref (a 0)), (1, .int p1)]) hx hb dX8_isBare_11 rfl hl (by decide) rfl (fun ls hl => ?_)
    obtain ⟨k3, ek3, hf⟩ := sp_hb hf
    have hj3 : ∀ (H : Heap) (locs : List Loc) (ls : Array Slot), k3 = some r' → sp_wd D A s.heap (sw_U a q5 tg bt) H locs → lv_has ls 3 [] → W p l e rmX8_isBare s m args below meth c H locs 0 0 Q (F0 m 49 ls []) := by
      intro H locs ls hf hW hl
      rw [ek3] at hf
      refine lv_iconst (v := 1) hx hb dX8_isBare_49 (by decide) ?_
      cases hf
      exact sp_zret S hr hlk hW rfl hQ dX8_isBare_50
    have hlp12 : ∀ (n9 : Nat) (y2 : Int32) (H : Heap) (locs : List Loc) (ls : Array Slot), sp_lp (f_X8_isBare_L12 k3 p1 tg) n9 y2 = some r' → sp_wd D A s.heap (sw_U a q5 tg bt) H locs → lv_has ls 3 [(0, .ref (a 0)), (1, .int p1), (2, .int y2)] → W p l e rmX8_isBare s m args below meth c H locs 0 0 Q (F0 m 12 ls []) := by
      intro n9
      induction n9 with
      | zero =>
        intro y2 H locs ls hf hW hl
        exact (sp_lp0 hf).elim
      | succ n9 ih12 =>
        intro y2 H locs ls hf hW hl
        have hf := sp_lpS hf
        rw [f_X8_isBare_L12_eq] at hf
        refine lv_iload_n hx hb dX8_isBare_12 rfl (lv_at hl 2 rfl) ?_
        refine lv_bipush (v := 10) hx hb dX8_isBare_13 (by decide) ?_
        refine lv_icmp_ge (tgt := 49) hx hb dX8_isBare_15 (by decide) (fun hc => ?_) (fun hc => ?_)
        · have hf := sp_ht hf hc
          exact hj3 _ _ _ hf hW (lv_sub hl [] rfl)
        · have hf := sp_hf hf hc
          refine lv_iload_n hx hb dX8_isBare_18 rfl (lv_at hl 2 rfl) ?_
          refine lv_iload_n hx hb dX8_isBare_19 rfl (lv_at hl 1 rfl) ?_
          refine lv_i2l hx hb dX8_isBare_20 rfl ?_
          obtain ⟨r4, hc4, hf⟩ := sp_hc hf
          refine sp_callNi (rest := []) (host := RX9) S hK hG hA hW (c_X9_isIn y2 (p1.toInt64) hc4) (by decide) ⟨va_cnB 2 S.2.2.2.2 gX8_isBare_X9_isIn_n26 rfl rfl rfl (hG.1 (by decide) _ (List.mem_of_getElem? (i := 13) rfl)) lk2 (by decide +kernel) (by decide), lk1, trivial⟩ (isC := []) rfl rfl rfl (WS' := sw_U a q5 tg bt) rfl rfl hl.1 (Nat.le_of_ble_eq_true rfl) dX8_isBare_21 ⟨Nat.zero_le _, Nat.zero_le _⟩ rfl (fun H locs hW => ?_)
          obtain ⟨k5, ek5, hf⟩ := sp_hb hf
          have hj5 : ∀ (H : Heap) (locs : List Loc) (ls : Array Slot), k5 = some r' → sp_wd D A s.heap (sw_U a q5 tg bt) H locs → lv_has ls 3 [(0, .ref (a 0)), (1, .int p1), (2, .int y2)] → W p l e rmX8_isBare s m args below meth c H locs 0 0 Q (F0 m 43 ls []) := by
            intro H locs ls hf hW hl
            rw [ek5] at hf
            obtain ⟨v6, ev6, hf⟩ := sp_hb hf
            refine lv_iinc (v := v6) (lv' := [(2, .int v6), (0, .ref (a 0)), (1, .int p1)]) hx hb dX8_isBare_43 hl (k := 2) rfl (by rw [ev6]; rfl) (by decide) rfl (fun ls hl => ?_)
            refine lv_goto (tgt := 12) hx hb dX8_isBare_46 (by decide) ?_
            exact ih12 _ _ _ _ hf hW (lv_sub hl [1, 2, 0] rfl)
          refine lv_if_eq (tgt := 43) hx hb dX8_isBare_24 (by decide) (fun hc => ?_) (fun hc => ?_)
          · have hf := sp_ht hf hc
            exact hj5 _ _ _ hf hW (lv_sub hl [0, 1, 2] rfl)
          · have hf := sp_hf hf hc
            refine lv_aload_n hx hb dX8_isBare_27 rfl (lv_at hl 0 rfl) ?_
            refine lv_iload_n hx hb dX8_isBare_28 rfl (lv_at hl 1 rfl) ?_
            refine lv_iconst (v := 1) hx hb dX8_isBare_29 (by decide) ?_
            refine lv_iload_n hx hb dX8_isBare_30 rfl (lv_at hl 2 rfl) ?_
            refine lv_ishl hx hb dX8_isBare_31 ?_
            refine lv_iconst (v := (-1)) hx hb dX8_isBare_32 (by decide) ?_
            refine lv_ixor hx hb dX8_isBare_33 ?_
            refine lv_iand hx hb dX8_isBare_34 ?_
            obtain ⟨r7, hc7, hf⟩ := sp_hc hf
            refine sp_callViP (rest := []) S hK hG hA hW (c_X8_isCore a tg bt (p1 &&& (((1 : Int32) <<< (y2 &&& 31)) ^^^ (-1 : Int32))) hc7) (by decide) (cwV 1 S.2.2.2.2 gX8_isBare_X8_isCore rfl rfl rfl (by decide +kernel) (by decide)) 6 0 rfl rfl (sp_pn _) rfl (WS' := sw_U a q5 tg bt) (sp_pn' _) rfl hl.1 (Nat.le_of_ble_eq_true rfl) dX8_isBare_35 ⟨Nat.zero_le _, Nat.zero_le _⟩ rfl (fun H locs hW => ?_)
            refine lv_if_eq (tgt := 43) hx hb dX8_isBare_38 (by decide) (fun hc => ?_) (fun hc => ?_)
            · have hf := sp_ht hf hc
              exact hj5 _ _ _ hf hW (lv_sub hl [0, 1, 2] rfl)
            · have hf := sp_hf hf hc
              refine lv_iconst (v := 0) hx hb dX8_isBare_41 (by decide) ?_
              cases hf
              exact sp_zret S hr hlk hW rfl hQ dX8_isBare_42
    exact hlp12 _ _ _ _ _ hf hW (lv_sub hl [1, 2, 0] rfl)
  · have hf := sp_ht hf hc
    refine lv_iconst (v := 0) hx hb dX8_isBare_8 (by decide) ?_
    cases hf
    exact sp_zret S hr hlk hW rfl hQ dX8_isBare_9

def f_X8_leastCore_L5 (p1 : Int32) (k4 : Int32 → Option (Int32)) (tg : Nat → Int64) (rec5 : (Int32 × Int32) → Option (Int32)) (s9 : Int32 × Int32) : Option (Int32) := match s9 with
  | (y1, y2) => if p1 ≤ y2 then (k4 y1) else (Option.bind (f_X8_isCore y2 tg) (fun r5 => sp_bnd (fun (x6 : Int32) => sp_bnd (y2 + (1 : Int32)) (fun v8 => rec5 (x6, v8))) (fun k7 => if r5 = 0 then (k7 y1) else (sp_bnd (k7 y2) (fun k9 => if y1 = (-9 : Int32) then k9 else (Option.bind (f_J6_bitCount_0f7a4 y2) (fun r10 => Option.bind (f_J6_bitCount_0f7a4 y1) (fun r11 => if r11 ≤ r10 then (k7 y1) else k9))))))))
theorem f_X8_leastCore_L5_eq {rec5 : (Int32 × Int32) → Option (Int32)} {p1 : Int32} {k4 : Int32 → Option (Int32)} {tg : Nat → Int64} {y1 : Int32} {y2 : Int32} : f_X8_leastCore_L5 p1 k4 tg rec5 (y1, y2) = (if p1 ≤ y2 then (k4 y1) else (Option.bind (f_X8_isCore y2 tg) (fun r5 => sp_bnd (fun (x6 : Int32) => sp_bnd (y2 + (1 : Int32)) (fun v8 => rec5 (x6, v8))) (fun k7 => if r5 = 0 then (k7 y1) else (sp_bnd (k7 y2) (fun k9 => if y1 = (-9 : Int32) then k9 else (Option.bind (f_J6_bitCount_0f7a4 y2) (fun r10 => Option.bind (f_J6_bitCount_0f7a4 y1) (fun r11 => if r11 ≤ r10 then (k7 y1) else k9))))))))) := rfl
def f_X8_leastCore (p1 : Int32) (tg : Nat → Int64) : Option (Int32) := sp_bnd (fun (x3 : Int32) => some x3) (fun k4 => sp_lp (f_X8_leastCore_L5 p1 k4 tg) sp_F ((-9 : Int32), (0 : Int32)))
def rmX8_leastCore : Room := { frames := 1, cells := 0, slots := 0, locals := 21 }
set_option maxRecDepth 4000 in
theorem c_X8_leastCore {l : Launch} {D : va_G} {q5 : Nat → ClassId} (a : Nat → Nat) (tg : Nat → Int64) (bt : Nat → Int64) (p1 : Int32) {r' : Int32} (hf : f_X8_leastCore p1 tg = some r') : sp_Ci l yX8_leastCore wsX8_leastCore rmX8_leastCore D q5 0 [.ref (a 0), .int p1] (sw_U a q5 tg bt) r' (sw_U a q5 tg bt) := by
  intro sz
  refine sp_of (cc := cX8_leastCore) (maxL := 4) (ret := some .int) (own := RX8) (Qc := sp_Qi D r' (sw_U a q5 tg bt)) (by decide) rfl rfl (Nat.le_of_ble_eq_true rfl) ?_
  intro p e s m args below meth c A ls Q hQ S hr hlk hK hG hA hW hl
  have hx := S.1
  have hb := S.2.1
  unfold f_X8_leastCore at hf
  refine lv_bipush (v := (-9)) hx hb dX8_leastCore_0 (by decide) ?_
  refine lv_istore_n (lv' := [(2, .int (-9 : Int32)), (0, .ref (a 0)), (1, .int p1)]) hx hb dX8_leastCore_2 rfl hl (by decide) rfl (fun ls hl => ?_)
  refine lv_iconst (v := 0) hx hb dX8_leastCore_3 (by decide) ?_
  refine lv_istore_n (lv' := [(3, .int (0 : Int32)), (2, .int (-9 : Int32)), (0, .ref (a 0)), (1, .int p1)]) hx hb dX8_leastCore_4 rfl hl (by decide) rfl (fun ls hl => ?_)
  obtain ⟨k4, ek4, hf⟩ := sp_hb hf
  have hj4 : ∀ (x3 : Int32) (H : Heap) (locs : List Loc) (ls : Array Slot), k4 x3 = some r' → sp_wd D A s.heap (sw_U a q5 tg bt) H locs → lv_has ls 4 [(2, .int x3)] → W p l e rmX8_leastCore s m args below meth c H locs 0 0 Q (F0 m 43 ls []) := by
    intro x3 H locs ls hf hW hl
    rw [ek4] at hf
    refine lv_iload_n hx hb dX8_leastCore_43 rfl (lv_at hl 0 rfl) ?_
    cases hf
    exact sp_iret S hr hlk hW hQ dX8_leastCore_44
  have hlp5 : ∀ (n9 : Nat) (y1 : Int32) (y2 : Int32) (H : Heap) (locs : List Loc) (ls : Array Slot), sp_lp (f_X8_leastCore_L5 p1 k4 tg) n9 (y1, y2) = some r' → sp_wd D A s.heap (sw_U a q5 tg bt) H locs → lv_has ls 4 [(0, .ref (a 0)), (1, .int p1), (2, .int y1), (3, .int y2)] → W p l e rmX8_leastCore s m args below meth c H locs 0 0 Q (F0 m 5 ls []) := by
    intro n9
    induction n9 with
    | zero =>
      intro y1 y2 H locs ls hf hW hl
      exact (sp_lp0 hf).elim
    | succ n9 ih5 =>
      intro y1 y2 H locs ls hf hW hl
      have hf := sp_lpS hf
      rw [f_X8_leastCore_L5_eq] at hf
      refine lv_iload_n hx hb dX8_leastCore_5 rfl (lv_at hl 3 rfl) ?_
      refine lv_iload_n hx hb dX8_leastCore_6 rfl (lv_at hl 1 rfl) ?_
      refine lv_icmp_ge (tgt := 43) hx hb dX8_leastCore_7 (by decide) (fun hc => ?_) (fun hc => ?_)
      · have hf := sp_ht hf hc
        exact hj4 _ _ _ _ hf hW (lv_sub hl [2] rfl)
      · have hf := sp_hf hf hc
        refine lv_aload_n hx hb dX8_leastCore_10 rfl (lv_at hl 0 rfl) ?_
        refine lv_iload_n hx hb dX8_leastCore_11 rfl (lv_at hl 3 rfl) ?_
        obtain ⟨r5, hc5, hf⟩ := sp_hc hf
        refine sp_callViP (rest := []) S hK hG hA hW (c_X8_isCore a tg bt y2 hc5) (by decide) (cwV 1 S.2.2.2.2 gX8_leastCore_X8_isCore rfl rfl rfl (by decide +kernel) (by decide)) 6 0 rfl rfl (sp_pn _) rfl (WS' := sw_U a q5 tg bt) (sp_pn' _) rfl hl.1 (Nat.le_of_ble_eq_true rfl) dX8_leastCore_12 ⟨Nat.zero_le _, Nat.zero_le _⟩ rfl (fun H locs hW => ?_)
        obtain ⟨k7, ek7, hf⟩ := sp_hb hf
        have hj7 : ∀ (x6 : Int32) (H : Heap) (locs : List Loc) (ls : Array Slot), k7 x6 = some r' → sp_wd D A s.heap (sw_U a q5 tg bt) H locs → lv_has ls 4 [(0, .ref (a 0)), (1, .int p1), (2, .int x6), (3, .int y2)] → W p l e rmX8_leastCore s m args below meth c H locs 0 0 Q (F0 m 37 ls []) := by
          intro x6 H locs ls hf hW hl
          rw [ek7] at hf
          obtain ⟨v8, ev8, hf⟩ := sp_hb hf
          refine lv_iinc (v := v8) (lv' := [(3, .int v8), (0, .ref (a 0)), (1, .int p1), (2, .int x6)]) hx hb dX8_leastCore_37 hl (k := 3) rfl (by rw [ev8]; rfl) (by decide) rfl (fun ls hl => ?_)
          refine lv_goto (tgt := 5) hx hb dX8_leastCore_40 (by decide) ?_
          exact ih5 _ _ _ _ _ hf hW (lv_sub hl [1, 2, 3, 0] rfl)
        refine lv_if_eq (tgt := 37) hx hb dX8_leastCore_15 (by decide) (fun hc => ?_) (fun hc => ?_)
        · have hf := sp_ht hf hc
          exact hj7 _ _ _ _ hf hW (lv_sub hl [0, 1, 2, 3] rfl)
        · have hf := sp_hf hf hc
          refine lv_iload_n hx hb dX8_leastCore_18 rfl (lv_at hl 2 rfl) ?_
          refine lv_bipush (v := (-9)) hx hb dX8_leastCore_19 (by decide) ?_
          obtain ⟨k9, ek9, hf⟩ := sp_hb hf
          have hj9 : ∀ (H : Heap) (locs : List Loc) (ls : Array Slot), k9 = some r' → sp_wd D A s.heap (sw_U a q5 tg bt) H locs → lv_has ls 4 [(0, .ref (a 0)), (1, .int p1), (3, .int y2)] → W p l e rmX8_leastCore s m args below meth c H locs 0 0 Q (F0 m 35 ls []) := by
            intro H locs ls hf hW hl
            rw [ek9] at hf
            refine lv_iload_n hx hb dX8_leastCore_35 rfl (lv_at hl 2 rfl) ?_
            refine lv_istore_n (lv' := [(2, .int y2), (0, .ref (a 0)), (1, .int p1), (3, .int y2)]) hx hb dX8_leastCore_36 rfl hl (by decide) rfl (fun ls hl => ?_)
            exact hj7 _ _ _ _ hf hW (lv_sub hl [1, 2, 0, 3] rfl)
          refine lv_icmp_eq (tgt := 35) hx hb dX8_leastCore_21 (by decide) (fun hc => ?_) (fun hc => ?_)
          · have hf := sp_ht hf hc
            exact hj9 _ _ _ hf hW (lv_sub hl [0, 1, 3] rfl)
          · have hf := sp_hf hf hc
            refine lv_iload_n hx hb dX8_leastCore_24 rfl (lv_at hl 3 rfl) ?_
            obtain ⟨r10, hc10, hf⟩ := sp_hc hf
            refine sp_callSi (rest := []) S hK hG hA hW (c_J6_bitCount_0f7a4 y2 hc10) (by decide) (va_cwS 1 S.2.2.2.2 gX8_leastCore_J6_bitCount_0f7a4 rfl rfl rfl (by decide +kernel) (by decide)) (isC := []) rfl rfl rfl (WS' := sw_U a q5 tg bt) rfl rfl hl.1 (Nat.le_of_ble_eq_true rfl) dX8_leastCore_25 ⟨Nat.zero_le _, Nat.zero_le _⟩ rfl (fun H locs hW => ?_)
            refine lv_iload_n hx hb dX8_leastCore_28 rfl (lv_at hl 2 rfl) ?_
            obtain ⟨r11, hc11, hf⟩ := sp_hc hf
            refine sp_callSi (rest := [.int r10]) S hK hG hA hW (c_J6_bitCount_0f7a4 y1 hc11) (by decide) (va_cwS 1 S.2.2.2.2 gX8_leastCore_J6_bitCount_0f7a4 rfl rfl rfl (by decide +kernel) (by decide)) (isC := []) rfl rfl rfl (WS' := sw_U a q5 tg bt) rfl rfl hl.1 (Nat.le_of_ble_eq_true rfl) dX8_leastCore_29 ⟨Nat.zero_le _, Nat.zero_le _⟩ rfl (fun H locs hW => ?_)
            refine lv_icmp_ge (tgt := 37) hx hb dX8_leastCore_32 (by decide) (fun hc => ?_) (fun hc => ?_)
            · have hf := sp_ht hf hc
              exact hj7 _ _ _ _ hf hW (lv_sub hl [0, 1, 2, 3] rfl)
            · have hf := sp_hf hf hc
              exact hj9 _ _ _ hf hW (lv_sub hl [0, 1, 3] rfl)
  exact hlp5 _ _ _ _ _ _ hf hW (lv_sub hl [2, 3, 1, 0] rfl)

def f_X8_bareCores_L4 (p1 : Int32) (k4 : Int32 → Option (Int32)) (tg : Nat → Int64) (rec4 : (Int32 × Int32) → Option (Int32)) (s9 : Int32 × Int32) : Option (Int32) := match s9 with
  | (y1, y2) => if p1 ≤ y2 then (k4 y1) else (Option.bind (f_X8_isBare y2 tg) (fun r5 => sp_bnd (fun (x6 : Int32) => sp_bnd (y2 + (1 : Int32)) (fun v8 => rec4 (x6, v8))) (fun k7 => if r5 = 0 then (k7 y1) else (sp_bnd (y1 + (1 : Int32)) (fun v9 => k7 v9)))))
theorem f_X8_bareCores_L4_eq {rec4 : (Int32 × Int32) → Option (Int32)} {p1 : Int32} {k4 : Int32 → Option (Int32)} {tg : Nat → Int64} {y1 : Int32} {y2 : Int32} : f_X8_bareCores_L4 p1 k4 tg rec4 (y1, y2) = (if p1 ≤ y2 then (k4 y1) else (Option.bind (f_X8_isBare y2 tg) (fun r5 => sp_bnd (fun (x6 : Int32) => sp_bnd (y2 + (1 : Int32)) (fun v8 => rec4 (x6, v8))) (fun k7 => if r5 = 0 then (k7 y1) else (sp_bnd (y1 + (1 : Int32)) (fun v9 => k7 v9)))))) := rfl
def f_X8_bareCores (p1 : Int32) (tg : Nat → Int64) : Option (Int32) := sp_bnd (fun (x3 : Int32) => some x3) (fun k4 => sp_lp (f_X8_bareCores_L4 p1 k4 tg) sp_F ((0 : Int32), (0 : Int32)))
def rmX8_bareCores : Room := { frames := 2, cells := 0, slots := 0, locals := 44 }
set_option maxRecDepth 4000 in
theorem c_X8_bareCores {l : Launch} {D : va_G} {q5 : Nat → ClassId} (a : Nat → Nat) (tg : Nat → Int64) (bt : Nat → Int64) (p1 : Int32) {r' : Int32} (hf : f_X8_bareCores p1 tg = some r') : sp_Ci l yX8_bareCores wsX8_bareCores rmX8_bareCores D q5 1 [.ref (a 0), .int p1] (sw_U a q5 tg bt) r' (sw_U a q5 tg bt) := by
  intro sz
  refine sp_of (cc := cX8_bareCores) (maxL := 4) (ret := some .int) (own := RX8) (Qc := sp_Qi D r' (sw_U a q5 tg bt)) (by decide) rfl rfl (Nat.le_of_ble_eq_true rfl) ?_
  intro p e s m args below meth c A ls Q hQ S hr hlk hK hG hA hW hl
  have hx := S.1
  have hb := S.2.1
  unfold f_X8_bareCores at hf
  refine lv_iconst (v := 0) hx hb dX8_bareCores_0 (by decide) ?_
  refine lv_istore_n (lv' := [(2, .int (0 : Int32)), (0, .ref (a 0)), (1, .int p1)]) hx hb dX8_bareCores_1 rfl hl (by decide) rfl (fun ls hl => ?_)
  refine lv_iconst (v := 0) hx hb dX8_bareCores_2 (by decide) ?_
  refine lv_istore_n (lv' := [(3, .int (0 : Int32)), (2, .int (0 : Int32)), (0, .ref (a 0)), (1, .int p1)]) hx hb dX8_bareCores_3 rfl hl (by decide) rfl (fun ls hl => ?_)
  obtain ⟨k4, ek4, hf⟩ := sp_hb hf
  have hj4 : ∀ (x3 : Int32) (H : Heap) (locs : List Loc) (ls : Array Slot), k4 x3 = some r' → sp_wd D A s.heap (sw_U a q5 tg bt) H locs → lv_has ls 4 [(2, .int x3)] → W p l e rmX8_bareCores s m args below meth c H locs 0 0 Q (F0 m 26 ls []) := by
    intro x3 H locs ls hf hW hl
    rw [ek4] at hf
    refine lv_iload_n hx hb dX8_bareCores_26 rfl (lv_at hl 0 rfl) ?_
    cases hf
    exact sp_iret S hr hlk hW hQ dX8_bareCores_27
  have hlp4 : ∀ (n9 : Nat) (y1 : Int32) (y2 : Int32) (H : Heap) (locs : List Loc) (ls : Array Slot), sp_lp (f_X8_bareCores_L4 p1 k4 tg) n9 (y1, y2) = some r' → sp_wd D A s.heap (sw_U a q5 tg bt) H locs → lv_has ls 4 [(0, .ref (a 0)), (1, .int p1), (2, .int y1), (3, .int y2)] → W p l e rmX8_bareCores s m args below meth c H locs 0 0 Q (F0 m 4 ls []) := by
    intro n9
    induction n9 with
    | zero =>
      intro y1 y2 H locs ls hf hW hl
      exact (sp_lp0 hf).elim
    | succ n9 ih4 =>
      intro y1 y2 H locs ls hf hW hl
      have hf := sp_lpS hf
      rw [f_X8_bareCores_L4_eq] at hf
      refine lv_iload_n hx hb dX8_bareCores_4 rfl (lv_at hl 3 rfl) ?_
      refine lv_iload_n hx hb dX8_bareCores_5 rfl (lv_at hl 1 rfl) ?_
      refine lv_icmp_ge (tgt := 26) hx hb dX8_bareCores_6 (by decide) (fun hc => ?_) (fun hc => ?_)
      · have hf := sp_ht hf hc
        exact hj4 _ _ _ _ hf hW (lv_sub hl [2] rfl)
      · have hf := sp_hf hf hc
        refine lv_aload_n hx hb dX8_bareCores_9 rfl (lv_at hl 0 rfl) ?_
        refine lv_iload_n hx hb dX8_bareCores_10 rfl (lv_at hl 3 rfl) ?_
        obtain ⟨r5, hc5, hf⟩ := sp_hc hf
        refine sp_callViP (rest := []) S hK hG hA hW (c_X8_isBare a tg bt y2 hc5) (by decide) (cwV 1 S.2.2.2.2 gX8_bareCores_X8_isBare rfl rfl rfl (by decide +kernel) (by decide)) 6 0 rfl rfl (sp_pn _) rfl (WS' := sw_U a q5 tg bt) (sp_pn' _) rfl hl.1 (Nat.le_of_ble_eq_true rfl) dX8_bareCores_11 ⟨Nat.zero_le _, Nat.zero_le _⟩ rfl (fun H locs hW => ?_)
        obtain ⟨k7, ek7, hf⟩ := sp_hb hf
        have hj7 : ∀ (x6 : Int32) (H : Heap) (locs : List Loc) (ls : Array Slot), k7 x6 = some r' → sp_wd D A s.heap (sw_U a q5 tg bt) H locs → lv_has ls 4 [(0, .ref (a 0)), (1, .int p1), (2, .int x6), (3, .int y2)] → W p l e rmX8_bareCores s m args below meth c H locs 0 0 Q (F0 m 20 ls []) := by
          intro x6 H locs ls hf hW hl
          rw [ek7] at hf
          obtain ⟨v8, ev8, hf⟩ := sp_hb hf
          refine lv_iinc (v := v8) (lv' := [(3, .int v8), (0, .ref (a 0)), (1, .int p1), (2, .int x6)]) hx hb dX8_bareCores_20 hl (k := 3) rfl (by rw [ev8]; rfl) (by decide) rfl (fun ls hl => ?_)
          refine lv_goto (tgt := 4) hx hb dX8_bareCores_23 (by decide) ?_
          exact ih4 _ _ _ _ _ hf hW (lv_sub hl [1, 2, 3, 0] rfl)
        refine lv_if_eq (tgt := 20) hx hb dX8_bareCores_14 (by decide) (fun hc => ?_) (fun hc => ?_)
        · have hf := sp_ht hf hc
          exact hj7 _ _ _ _ hf hW (lv_sub hl [0, 1, 2, 3] rfl)
        · have hf := sp_hf hf hc
          obtain ⟨v9, ev9, hf⟩ := sp_hb hf
          refine lv_iinc (v := v9) (lv' := [(2, .int v9), (0, .ref (a 0)), (1, .int p1), (3, .int y2)]) hx hb dX8_bareCores_17 hl (k := 2) rfl (by rw [ev9]; rfl) (by decide) rfl (fun ls hl => ?_)
          exact hj7 _ _ _ _ hf hW (lv_sub hl [1, 2, 0, 3] rfl)
  exact hlp4 _ _ _ _ _ _ hf hW (lv_sub hl [2, 3, 1, 0] rfl)

def f_X8_middleOfCut (p2 : Int32) (p3 : Int32) (p4 : Int32) (bt : Nat → Int64) (le2 : Nat → Int32) (ri2 : Nat → Int32) (lt2 : Nat → Int32) : Option (Int64) := sp_ld le2 48 p2 (fun v1 => sp_ld bt 48 v1 (fun v2 => sp_ld ri2 48 p2 (fun v3 => sp_ld bt 48 v3 (fun v4 => sp_ld lt2 48 p2 (fun v5 => Option.bind (f_X9_isIn v5 (p4.toInt64)) (fun r6 => if r6 = 0 then (some (v2 ||| v4)) else (Option.bind (f_X9_isIn v5 (p3.toInt64)) (fun r7 => if r7 = 0 then (some (v2 &&& v4)) else (sp_ld sp_lt 6 v5 (fun v9 => some ((v2 &&& (v9 ^^^ (-1 : Int64))) ||| (v4 &&& v9))))))))))))
def rmX8_middleOfCut : Room := { frames := 1, cells := 0, slots := 0, locals := 22 }
set_option maxRecDepth 4000 in
theorem c_X8_middleOfCut {l : Launch} {D : va_G} {q5 : Nat → ClassId} (a : Nat → Nat) (d : Nat → Nat) (tg : Nat → Int64) (bt : Nat → Int64) (cl2 : Nat → Int32) (le2 : Nat → Int32) (ri2 : Nat → Int32) (lt2 : Nat → Int32) (gr2 : Nat → Int32) (ct2 : Int32) (gc2 : Int32) (p2 : Int32) (p3 : Int32) (p4 : Int32) {r' : Int64} (hf : f_X8_middleOfCut p2 p3 p4 bt le2 ri2 lt2 = some r') : sp_Cl l yX8_middleOfCut wsX8_middleOfCut rmX8_middleOfCut D q5 2 [.ref (a 0), .ref (d 0), .int p2, .int p3, .int p4] (sw_U a q5 tg bt ++ (sw_P d q5 cl2 le2 ri2 lt2 gr2 ct2 gc2)) r' (sw_U a q5 tg bt ++ (sw_P d q5 cl2 le2 ri2 lt2 gr2 ct2 gc2)) := by
  intro sz
  refine sp_of (cc := cX8_middleOfCut) (maxL := 12) (ret := some .long) (own := RX8) (Qc := sp_Ql D r' (sw_U a q5 tg bt ++ (sw_P d q5 cl2 le2 ri2 lt2 gr2 ct2 gc2))) (by decide) rfl rfl (Nat.le_of_ble_eq_true rfl) ?_
  intro p e s m args below meth c A ls Q hQ S hr hlk hK hG hA hW hl
  have hx := S.1
  have hb := S.2.1
  unfold f_X8_middleOfCut at hf
  have inX2 : ∀ w ∈ u_ws RX2 TX2 7, w ∈ wsX8_middleOfCut := (fun _ h => List.mem_cons_of_mem _ (List.mem_append_right _ h))
  have inX8 : ∀ w ∈ u_ws RX8 TX8 2, w ∈ wsX8_middleOfCut := (fun _ h => List.mem_cons_of_mem _ (List.mem_append_left _ (List.mem_append_right _ h)))
  have lk1 := S.2.2.2.2 (Cond.fieldLink RX8 15 "ShortProofs$Truths" "between" "[J") (List.mem_of_getElem? (i := 1) rfl)
  have lk2 := S.2.2.2.2 (Cond.fieldLink RX8 69 "ShortProofs$Proof" "lefts" "[I") (List.mem_of_getElem? (i := 2) rfl)
  have lk3 := S.2.2.2.2 (Cond.fieldLink RX8 72 "ShortProofs$Proof" "rights" "[I") (List.mem_of_getElem? (i := 3) rfl)
  have lk4 := S.2.2.2.2 (Cond.fieldLink RX8 75 "ShortProofs$Proof" "letters" "[I") (List.mem_of_getElem? (i := 4) rfl)
  have lk5 := S.2.2.2.2 (Cond.static yX9_isIn) (List.mem_of_getElem? (i := 6) rfl)
  have lk6 := S.2.2.2.2 (Cond.initialized RX9) (List.mem_of_getElem? (i := 7) rfl)
  have lk7 := S.2.2.2.2 (Cond.constantLong RX8 18 (-1)) (List.mem_of_getElem? (i := 5) rfl)
  refine lv_aload_n hx hb dX8_middleOfCut_0 rfl (lv_at hl 0 rfl) ?_
  refine sp_get S hK hW inX8 0 rfl rfl 1 (by decide) lk1 rfl dX8_middleOfCut_1 ?_
  refine lv_aload_n hx hb dX8_middleOfCut_4 rfl (lv_at hl 1 rfl) ?_
  refine sp_get S hK hW inX2 3 rfl rfl 1 (by decide) lk2 rfl dX8_middleOfCut_5 ?_
  refine lv_iload_n hx hb dX8_middleOfCut_8 rfl (lv_at hl 2 rfl) ?_
  obtain ⟨hin, v1, ev1, hf⟩ := sp_hld hf
  refine sp_iald S hK hW 5 rfl hin ev1 dX8_middleOfCut_9 ?_
  obtain ⟨hin, v2, ev2, hf⟩ := sp_hld hf
  refine sp_lald S hK hW 2 rfl hin ev2 dX8_middleOfCut_10 ?_
  refine lv_lstore (lv' := [(5, .long v2), (0, .ref (a 0)), (1, .ref (d 0)), (2, .int p2), (3, .int p3), (4, .int p4)]) hx hb dX8_middleOfCut_11 hl (by decide) rfl (fun ls hl => ?_)
  refine lv_aload_n hx hb dX8_middleOfCut_13 rfl (lv_at hl 1 rfl) ?_
  refine sp_get S hK hW inX8 0 rfl rfl 1 (by decide) lk1 rfl dX8_middleOfCut_14 ?_
  refine lv_aload_n hx hb dX8_middleOfCut_17 rfl (lv_at hl 2 rfl) ?_
  refine sp_get S hK hW inX2 3 rfl rfl 2 (by decide) lk3 rfl dX8_middleOfCut_18 ?_
  refine lv_iload_n hx hb dX8_middleOfCut_21 rfl (lv_at hl 3 rfl) ?_
  obtain ⟨hin, v3, ev3, hf⟩ := sp_hld hf
  refine sp_iald S hK hW 6 rfl hin ev3 dX8_middleOfCut_22 ?_
  obtain ⟨hin, v4, ev4, hf⟩ := sp_hld hf
  refine sp_lald S hK hW 2 rfl hin ev4 dX8_middleOfCut_23 ?_
  refine lv_lstore (lv' := [(7, .long v4), (5, .long v2), (0, .ref (a 0)), (1, .ref (d 0)), (2, .int p2), (3, .int p3), (4, .int p4)]) hx hb dX8_middleOfCut_24 hl (by decide) rfl (fun ls hl => ?_)
  refine lv_aload_n hx hb dX8_middleOfCut_26 rfl (lv_at hl 3 rfl) ?_
  refine sp_get S hK hW inX2 3 rfl rfl 3 (by decide) lk4 rfl dX8_middleOfCut_27 ?_
  refine lv_iload_n hx hb dX8_middleOfCut_30 rfl (lv_at hl 4 rfl) ?_
  obtain ⟨hin, v5, ev5, hf⟩ := sp_hld hf
  refine sp_iald S hK hW 7 rfl hin ev5 dX8_middleOfCut_31 ?_
  refine lv_istore (lv' := [(9, .int v5), (7, .long v4), (5, .long v2), (0, .ref (a 0)), (1, .ref (d 0)), (2, .int p2), (3, .int p3), (4, .int p4)]) hx hb dX8_middleOfCut_32 hl (by decide) rfl (fun ls hl => ?_)
  refine lv_iload hx hb dX8_middleOfCut_34 (lv_at hl 0 rfl) ?_
  refine lv_iload hx hb dX8_middleOfCut_36 (lv_at hl 7 rfl) ?_
  refine lv_i2l hx hb dX8_middleOfCut_38 rfl ?_
  obtain ⟨r6, hc6, hf⟩ := sp_hc hf
  refine sp_callNi (rest := []) (host := RX9) S hK hG hA hW (c_X9_isIn v5 (p4.toInt64) hc6) (by decide) ⟨va_cnB 2 S.2.2.2.2 gX8_middleOfCut_X9_isIn_n26 rfl rfl rfl (hG.1 (by decide) _ (List.mem_of_getElem? (i := 13) rfl)) lk6 (by decide +kernel) (by decide), lk5, trivial⟩ (isC := []) rfl rfl rfl (WS' := sw_U a q5 tg bt ++ (sw_P d q5 cl2 le2 ri2 lt2 gr2 ct2 gc2)) rfl rfl hl.1 (Nat.le_of_ble_eq_true rfl) dX8_middleOfCut_39 ⟨Nat.zero_le _, Nat.zero_le _⟩ rfl (fun H locs hW => ?_)
  refine lv_if_ne (tgt := 51) hx hb dX8_middleOfCut_42 (by decide) (fun hc => ?_) (fun hc => ?_)
  · have hf := sp_hf hf hc
    refine lv_iload hx hb dX8_middleOfCut_51 (lv_at hl 0 rfl) ?_
    refine lv_iload_n hx hb dX8_middleOfCut_53 rfl (lv_at hl 6 rfl) ?_
    refine lv_i2l hx hb dX8_middleOfCut_54 rfl ?_
    obtain ⟨r7, hc7, hf⟩ := sp_hc hf
    refine sp_callNi (rest := []) (host := RX9) S hK hG hA hW (c_X9_isIn v5 (p3.toInt64) hc7) (by decide) ⟨va_cnB 2 S.2.2.2.2 gX8_middleOfCut_X9_isIn_n26 rfl rfl rfl (hG.1 (by decide) _ (List.mem_of_getElem? (i := 13) rfl)) lk6 (by decide +kernel) (by decide), lk5, trivial⟩ (isC := []) rfl rfl rfl (WS' := sw_U a q5 tg bt ++ (sw_P d q5 cl2 le2 ri2 lt2 gr2 ct2 gc2)) rfl rfl hl.1 (Nat.le_of_ble_eq_true rfl) dX8_middleOfCut_55 ⟨Nat.zero_le _, Nat.zero_le _⟩ rfl (fun H locs hW => ?_)
    refine lv_if_ne (tgt := 67) hx hb dX8_middleOfCut_58 (by decide) (fun hc => ?_) (fun hc => ?_)
    · have hf := sp_hf hf hc
      refine sp_gets S hG (by decide) hW (List.mem_of_getElem? (i := 1) rfl) dX8_middleOfCut_67 (fun t8 ht8 => ?_)
      refine lv_iload hx hb dX8_middleOfCut_70 (lv_at hl 0 rfl) ?_
      obtain ⟨hin, v9, ev9, hf⟩ := sp_hld hf
      refine sp_tl S hW ht8 hin ev9 dX8_middleOfCut_72 ?_
      refine lv_lstore (lv' := [(10, .long v9), (9, .int v5), (7, .long v4), (5, .long v2), (0, .ref (a 0)), (1, .ref (d 0)), (2, .int p2), (3, .int p3), (4, .int p4)]) hx hb dX8_middleOfCut_73 hl (by decide) rfl (fun ls hl => ?_)
      refine lv_lload hx hb dX8_middleOfCut_75 (lv_at hl 3 rfl) ?_
      refine lv_lload hx hb dX8_middleOfCut_77 (lv_at hl 0 rfl) ?_
      refine lv_ldc2 hx hb S.2.2.2.1 lk7 dX8_middleOfCut_79 ?_
      refine lv_lxor hx hb dX8_middleOfCut_82 ?_
      refine lv_land hx hb dX8_middleOfCut_83 ?_
      refine lv_lload hx hb dX8_middleOfCut_84 (lv_at hl 2 rfl) ?_
      refine lv_lload hx hb dX8_middleOfCut_86 (lv_at hl 0 rfl) ?_
      refine lv_land hx hb dX8_middleOfCut_88 ?_
      refine lv_lor hx hb dX8_middleOfCut_89 ?_
      cases hf
      exact sp_lret S hr hlk hW hQ dX8_middleOfCut_90
    · have hf := sp_ht hf hc
      refine lv_lload hx hb dX8_middleOfCut_61 (lv_at hl 2 rfl) ?_
      refine lv_lload hx hb dX8_middleOfCut_63 (lv_at hl 1 rfl) ?_
      refine lv_land hx hb dX8_middleOfCut_65 ?_
      cases hf
      exact sp_lret S hr hlk hW hQ dX8_middleOfCut_66
  · have hf := sp_ht hf hc
    refine lv_lload hx hb dX8_middleOfCut_45 (lv_at hl 2 rfl) ?_
    refine lv_lload hx hb dX8_middleOfCut_47 (lv_at hl 1 rfl) ?_
    refine lv_lor hx hb dX8_middleOfCut_49 ?_
    cases hf
    exact sp_lret S hr hlk hW hQ dX8_middleOfCut_50

def f_X8_middleOf_L90 (ct2 : Int32) (k12 : (Nat → Int64) → Option (Int64 × (Nat → Int64))) (le2 : Nat → Int32) (x5 : Int32) (x6 : Int32) (ri2 : Nat → Int32) (lt2 : Nat → Int32) (rec90 : (Int32 × (Nat → Int64)) → Option (Int64 × (Nat → Int64))) (s9 : Int32 × (Nat → Int64)) : Option (Int64 × (Nat → Int64)) := match s9 with
  | (y9, c10) => if ct2 ≤ y9 then (k12 c10) else (Option.bind (f_X2_isGround y9 le2) (fun r14 => sp_bnd (fun (c15 : Nat → Int64) => sp_bnd (y9 + (1 : Int32)) (fun v17 => rec90 (v17, c15))) (fun k16 => if r14 = 0 then (Option.bind (f_X8_middleOfCut y9 x5 x6 c10 le2 ri2 lt2) (fun r18 => sp_stL c10 48 y9 r18 (fun c19 => k16 c19))) else (k16 c10))))
theorem f_X8_middleOf_L90_eq {rec90 : (Int32 × (Nat → Int64)) → Option (Int64 × (Nat → Int64))} {ct2 : Int32} {k12 : (Nat → Int64) → Option (Int64 × (Nat → Int64))} {le2 : Nat → Int32} {x5 : Int32} {x6 : Int32} {ri2 : Nat → Int32} {lt2 : Nat → Int32} {y9 : Int32} {c10 : Nat → Int64} : f_X8_middleOf_L90 ct2 k12 le2 x5 x6 ri2 lt2 rec90 (y9, c10) = (if ct2 ≤ y9 then (k12 c10) else (Option.bind (f_X2_isGround y9 le2) (fun r14 => sp_bnd (fun (c15 : Nat → Int64) => sp_bnd (y9 + (1 : Int32)) (fun v17 => rec90 (v17, c15))) (fun k16 => if r14 = 0 then (Option.bind (f_X8_middleOfCut y9 x5 x6 c10 le2 ri2 lt2) (fun r18 => sp_stL c10 48 y9 r18 (fun c19 => k16 c19))) else (k16 c10))))) := rfl
def f_X8_middleOf_L8 (gc2 : Int32) (k8 : Int32 → Int32 → (Nat → Int64) → Option (Int64 × (Nat → Int64))) (gr2 : Nat → Int32) (cl2 : Nat → Int32) (p2 : Int32) (rec8 : (Int32 × Int32 × Int32 × (Nat → Int64)) → Option (Int64 × (Nat → Int64))) (s9 : Int32 × Int32 × Int32 × (Nat → Int64)) : Option (Int64 × (Nat → Int64)) := match s9 with
  | (y1, y2, y3, c4) => if gc2 ≤ y3 then (k8 y1 y2 c4) else (sp_ld gr2 48 y3 (fun v20 => sp_ld cl2 48 v20 (fun v21 => Option.bind (f_X0_lettersOf v21) (fun r22 => Option.bind (f_X9_isIn y3 (p2.toInt64)) (fun r23 => sp_bnd (fun (x24 : Int32) (x25 : Int32) (c26 : Nat → Int64) => sp_bnd (y3 + (1 : Int32)) (fun v28 => rec8 (x24, x25, v28, c26))) (fun k27 => if r23 = 0 then (sp_bnd (y2 ||| r22) (fun v29 => sp_stL c4 48 v20 (-1 : Int64) (fun c30 => k27 y1 v29 c30))) else (sp_bnd (y1 ||| r22) (fun v31 => sp_stL c4 48 v20 (0 : Int64) (fun c32 => k27 v31 y2 c32)))))))))
theorem f_X8_middleOf_L8_eq {rec8 : (Int32 × Int32 × Int32 × (Nat → Int64)) → Option (Int64 × (Nat → Int64))} {gc2 : Int32} {k8 : Int32 → Int32 → (Nat → Int64) → Option (Int64 × (Nat → Int64))} {gr2 : Nat → Int32} {cl2 : Nat → Int32} {p2 : Int32} {y1 : Int32} {y2 : Int32} {y3 : Int32} {c4 : Nat → Int64} : f_X8_middleOf_L8 gc2 k8 gr2 cl2 p2 rec8 (y1, y2, y3, c4) = (if gc2 ≤ y3 then (k8 y1 y2 c4) else (sp_ld gr2 48 y3 (fun v20 => sp_ld cl2 48 v20 (fun v21 => Option.bind (f_X0_lettersOf v21) (fun r22 => Option.bind (f_X9_isIn y3 (p2.toInt64)) (fun r23 => sp_bnd (fun (x24 : Int32) (x25 : Int32) (c26 : Nat → Int64) => sp_bnd (y3 + (1 : Int32)) (fun v28 => rec8 (x24, x25, v28, c26))) (fun k27 => if r23 = 0 then (sp_bnd (y2 ||| r22) (fun v29 => sp_stL c4 48 v20 (-1 : Int64) (fun c30 => k27 y1 v29 c30))) else (sp_bnd (y1 ||| r22) (fun v31 => sp_stL c4 48 v20 (0 : Int64) (fun c32 => k27 v31 y2 c32)))))))))) := rfl
def f_X8_middleOf (p2 : Int32) (bt : Nat → Int64) (cl2 : Nat → Int32) (le2 : Nat → Int32) (ri2 : Nat → Int32) (lt2 : Nat → Int32) (gr2 : Nat → Int32) (ct2 : Int32) (gc2 : Int32) : Option (Int64 × (Nat → Int64)) := sp_bnd (fun (x5 : Int32) (x6 : Int32) (c7 : Nat → Int64) => sp_bnd (fun (c11 : Nat → Int64) => sp_ld c11 48 (ct2 - (1 : Int32)) (fun v13 => some (v13, c11))) (fun k12 => sp_lp (f_X8_middleOf_L90 ct2 k12 le2 x5 x6 ri2 lt2) sp_F ((0 : Int32), c7))) (fun k8 => sp_lp (f_X8_middleOf_L8 gc2 k8 gr2 cl2 p2) sp_F ((0 : Int32), (0 : Int32), (0 : Int32), bt))
def rmX8_middleOf : Room := { frames := 2, cells := 0, slots := 0, locals := 53 }
set_option maxRecDepth 4000 in
theorem c_X8_middleOf {l : Launch} {D : va_G} {q5 : Nat → ClassId} (a : Nat → Nat) (d : Nat → Nat) (tg : Nat → Int64) (bt : Nat → Int64) (cl2 : Nat → Int32) (le2 : Nat → Int32) (ri2 : Nat → Int32) (lt2 : Nat → Int32) (gr2 : Nat → Int32) (ct2 : Int32) (gc2 : Int32) (p2 : Int32) {r' : Int64} {bt' : Nat → Int64} (hf : f_X8_middleOf p2 bt cl2 le2 ri2 lt2 gr2 ct2 gc2 = some (r', bt')) : sp_Cl l yX8_middleOf wsX8_middleOf rmX8_middleOf D q5 2 [.ref (a 0), .ref (d 0), .int p2] (sw_U a q5 tg bt ++ (sw_P d q5 cl2 le2 ri2 lt2 gr2 ct2 gc2)) r' (sw_U a q5 tg bt' ++ (sw_P d q5 cl2 le2 ri2 lt2 gr2 ct2 gc2)) := by
  intro sz
  refine sp_of (cc := cX8_middleOf) (maxL := 8) (ret := some .long) (own := RX8) (Qc := sp_Ql D r' (sw_U a q5 tg bt' ++ (sw_P d q5 cl2 le2 ri2 lt2 gr2 ct2 gc2))) (by decide) rfl rfl (Nat.le_of_ble_eq_true rfl) ?_
  intro p e s m args below meth c A ls Q hQ S hr hlk hK hG hA hW hl
  have hx := S.1
  have hb := S.2.1
  unfold f_X8_middleOf at hf
  have inX2 : ∀ w ∈ u_ws RX2 TX2 7, w ∈ wsX8_middleOf := (fun _ h => List.mem_cons_of_mem _ (List.mem_append_left _ (List.mem_append_right _ h)))
  have inX8 : ∀ w ∈ u_ws RX8 TX8 2, w ∈ wsX8_middleOf := (fun _ h => List.mem_cons_of_mem _ (List.mem_append_right _ h))
  have lk1 := S.2.2.2.2 (Cond.fieldLink RX8 15 "ShortProofs$Truths" "between" "[J") (List.mem_of_getElem? (i := 4) rfl)
  have lk2 := S.2.2.2.2 (Cond.fieldLink RX8 59 "ShortProofs$Proof" "count" "I") (List.mem_of_getElem? (i := 6) rfl)
  have lk3 := S.2.2.2.2 (Cond.fieldLink RX8 20 "ShortProofs$Proof" "groundCount" "I") (List.mem_of_getElem? (i := 1) rfl)
  have lk4 := S.2.2.2.2 (Cond.fieldLink RX8 34 "ShortProofs$Proof" "grounds" "[I") (List.mem_of_getElem? (i := 2) rfl)
  have lk5 := S.2.2.2.2 (Cond.fieldLink RX8 30 "ShortProofs$Proof" "clauses" "[I") (List.mem_of_getElem? (i := 3) rfl)
  have lk6 := S.2.2.2.2 (Cond.static yX9_isIn) (List.mem_of_getElem? (i := 11) rfl)
  have lk7 := S.2.2.2.2 (Cond.initialized RX9) (List.mem_of_getElem? (i := 12) rfl)
  have lk8 := S.2.2.2.2 (Cond.constantLong RX8 18 (-1)) (List.mem_of_getElem? (i := 5) rfl)
  refine lv_iconst (v := 0) hx hb dX8_middleOf_0 (by decide) ?_
  refine lv_istore_n (lv' := [(3, .int (0 : Int32)), (0, .ref (a 0)), (1, .ref (d 0)), (2, .int p2)]) hx hb dX8_middleOf_1 rfl hl (by decide) rfl (fun ls hl => ?_)
  refine lv_iconst (v := 0) hx hb dX8_middleOf_2 (by decide) ?_
  refine lv_istore (lv' := [(4, .int (0 : Int32)), (3, .int (0 : Int32)), (0, .ref (a 0)), (1, .ref (d 0)), (2, .int p2)]) hx hb dX8_middleOf_3 hl (by decide) rfl (fun ls hl => ?_)
  refine lv_iconst (v := 0) hx hb dX8_middleOf_5 (by decide) ?_
  refine lv_istore (lv' := [(5, .int (0 : Int32)), (4, .int (0 : Int32)), (3, .int (0 : Int32)), (0, .ref (a 0)), (1, .ref (d 0)), (2, .int p2)]) hx hb dX8_middleOf_6 hl (by decide) rfl (fun ls hl => ?_)
  obtain ⟨k8, ek8, hf⟩ := sp_hb hf
  have hj8 : ∀ (x5 : Int32) (x6 : Int32) (c7 : Nat → Int64) (H : Heap) (locs : List Loc) (ls : Array Slot), k8 x5 x6 c7 = some (r', bt') → sp_wd D A s.heap (sw_U a q5 tg c7 ++ (sw_P d q5 cl2 le2 ri2 lt2 gr2 ct2 gc2)) H locs → lv_has ls 8 [(0, .ref (a 0)), (1, .ref (d 0)), (3, .int x5), (4, .int x6)] → W p l e rmX8_middleOf s m args below meth c H locs 0 0 Q (F0 m 87 ls []) := by
    intro x5 x6 c7 H locs ls hf hW hl
    rw [ek8] at hf
    refine lv_iconst (v := 0) hx hb dX8_middleOf_87 (by decide) ?_
    refine lv_istore (lv' := [(5, .int (0 : Int32)), (0, .ref (a 0)), (1, .ref (d 0)), (3, .int x5), (4, .int x6)]) hx hb dX8_middleOf_88 hl (by decide) rfl (fun ls hl => ?_)
    obtain ⟨k12, ek12, hf⟩ := sp_hb hf
    have hj12 : ∀ (c11 : Nat → Int64) (H : Heap) (locs : List Loc) (ls : Array Slot), k12 c11 = some (r', bt') → sp_wd D A s.heap (sw_U a q5 tg c11 ++ (sw_P d q5 cl2 le2 ri2 lt2 gr2 ct2 gc2)) H locs → lv_has ls 8 [(0, .ref (a 0)), (1, .ref (d 0))] → W p l e rmX8_middleOf s m args below meth c H locs 0 0 Q (F0 m 131 ls []) := by
      intro c11 H locs ls hf hW hl
      rw [ek12] at hf
      refine lv_aload_n hx hb dX8_middleOf_131 rfl (lv_at hl 0 rfl) ?_
      refine sp_get S hK hW inX8 0 rfl rfl 1 (by decide) lk1 rfl dX8_middleOf_132 ?_
      refine lv_aload_n hx hb dX8_middleOf_135 rfl (lv_at hl 1 rfl) ?_
      refine sp_get S hK hW inX2 3 rfl rfl 5 (by decide) lk2 rfl dX8_middleOf_136 ?_
      refine lv_iconst (v := 1) hx hb dX8_middleOf_139 (by decide) ?_
      refine lv_isub hx hb dX8_middleOf_140 ?_
      obtain ⟨hin, v13, ev13, hf⟩ := sp_hld hf
      refine sp_lald S hK hW 2 rfl hin ev13 dX8_middleOf_141 ?_
      cases hf
      exact sp_lret S hr hlk hW hQ dX8_middleOf_142
    have hlp90 : ∀ (n9 : Nat) (y9 : Int32) (c10 : Nat → Int64) (H : Heap) (locs : List Loc) (ls : Array Slot), sp_lp (f_X8_middleOf_L90 ct2 k12 le2 x5 x6 ri2 lt2) n9 (y9, c10) = some (r', bt') → sp_wd D A s.heap (sw_U a q5 tg c10 ++ (sw_P d q5 cl2 le2 ri2 lt2 gr2 ct2 gc2)) H locs → lv_has ls 8 [(0, .ref (a 0)), (1, .ref (d 0)), (3, .int x5), (4, .int x6), (5, .int y9)] → W p l e rmX8_middleOf s m args below meth c H locs 0 0 Q (F0 m 90 ls []) := by
      intro n9
      induction n9 with
      | zero =>
        intro y9 c10 H locs ls hf hW hl
        exact (sp_lp0 hf).elim
      | succ n9 ih90 =>
        intro y9 c10 H locs ls hf hW hl
        have hf := sp_lpS hf
        rw [f_X8_middleOf_L90_eq] at hf
        refine lv_iload hx hb dX8_middleOf_90 (lv_at hl 4 rfl) ?_
        refine lv_aload_n hx hb dX8_middleOf_92 rfl (lv_at hl 1 rfl) ?_
        refine sp_get S hK hW inX2 3 rfl rfl 5 (by decide) lk2 rfl dX8_middleOf_93 ?_
        refine lv_icmp_ge (tgt := 131) hx hb dX8_middleOf_96 (by decide) (fun hc => ?_) (fun hc => ?_)
        · have hf := sp_ht hf hc
          exact hj12 _ _ _ _ hf hW (lv_sub hl [0, 1] rfl)
        · have hf := sp_hf hf hc
          refine lv_aload_n hx hb dX8_middleOf_99 rfl (lv_at hl 1 rfl) ?_
          refine lv_iload hx hb dX8_middleOf_100 (lv_at hl 4 rfl) ?_
          obtain ⟨r14, hc14, hf⟩ := sp_hc hf
          refine sp_callViP (rest := []) S hK hG hA hW (c_X2_isGround d cl2 le2 ri2 lt2 gr2 ct2 gc2 y9 hc14) (by decide) (cwV 1 S.2.2.2.2 gX8_middleOf_X2_isGround rfl rfl rfl (by decide +kernel) (by decide)) 1 3 rfl rfl (sp_pq [sw_U a q5 tg c10, sw_P d q5 cl2 le2 ri2 lt2 gr2 ct2 gc2] [0, 1] [1] [0] (by decide)) rfl (WS' := sw_U a q5 tg c10 ++ (sw_P d q5 cl2 le2 ri2 lt2 gr2 ct2 gc2)) (sp_pq' [sw_U a q5 tg c10, sw_P d q5 cl2 le2 ri2 lt2 gr2 ct2 gc2] [0, 1] [1] [0] (by decide)) rfl hl.1 (Nat.le_of_ble_eq_true rfl) dX8_middleOf_102 ⟨Nat.zero_le _, Nat.zero_le _⟩ rfl (fun H locs hW => ?_)
          obtain ⟨k16, ek16, hf⟩ := sp_hb hf
          have hj16 : ∀ (c15 : Nat → Int64) (H : Heap) (locs : List Loc) (ls : Array Slot), k16 c15 = some (r', bt') → sp_wd D A s.heap (sw_U a q5 tg c15 ++ (sw_P d q5 cl2 le2 ri2 lt2 gr2 ct2 gc2)) H locs → lv_has ls 8 [(0, .ref (a 0)), (1, .ref (d 0)), (3, .int x5), (4, .int x6), (5, .int y9)] → W p l e rmX8_middleOf s m args below meth c H locs 0 0 Q (F0 m 125 ls []) := by
            intro c15 H locs ls hf hW hl
            rw [ek16] at hf
            obtain ⟨v17, ev17, hf⟩ := sp_hb hf
            refine lv_iinc (v := v17) (lv' := [(5, .int v17), (0, .ref (a 0)), (1, .ref (d 0)), (3, .int x5), (4, .int x6)]) hx hb dX8_middleOf_125 hl (k := 4) rfl (by rw [ev17]; rfl) (by decide) rfl (fun ls hl => ?_)
            refine lv_goto (tgt := 90) hx hb dX8_middleOf_128 (by decide) ?_
            exact ih90 _ _ _ _ _ hf hW (lv_sub hl [1, 2, 3, 4, 0] rfl)
          refine lv_if_ne (tgt := 125) hx hb dX8_middleOf_105 (by decide) (fun hc => ?_) (fun hc => ?_)
          · have hf := sp_hf hf hc
            exact hj16 _ _ _ _ hf hW (lv_sub hl [0, 1, 2, 3, 4] rfl)
          · have hf := sp_ht hf hc
            refine lv_aload_n hx hb dX8_middleOf_108 rfl (lv_at hl 0 rfl) ?_
            refine sp_get S hK hW inX8 0 rfl rfl 1 (by decide) lk1 rfl dX8_middleOf_109 ?_
            refine lv_iload hx hb dX8_middleOf_112 (lv_at hl 4 rfl) ?_
            refine lv_aload_n hx hb dX8_middleOf_114 rfl (lv_at hl 0 rfl) ?_
            refine lv_aload_n hx hb dX8_middleOf_115 rfl (lv_at hl 1 rfl) ?_
            refine lv_iload hx hb dX8_middleOf_116 (lv_at hl 4 rfl) ?_
            refine lv_iload_n hx hb dX8_middleOf_118 rfl (lv_at hl 2 rfl) ?_
            refine lv_iload hx hb dX8_middleOf_119 (lv_at hl 3 rfl) ?_
            obtain ⟨r18, hc18, hf⟩ := sp_hc hf
            refine sp_callVlP (rest := [.int y9, .ref (a 2)]) S hK hG hA hW (c_X8_middleOfCut a d tg c10 cl2 le2 ri2 lt2 gr2 ct2 gc2 y9 x5 x6 hc18) (by decide) (cwV 4 S.2.2.2.2 gX8_middleOf_X8_middleOfCut rfl rfl rfl (by decide +kernel) (by decide)) 6 0 rfl rfl (sp_pn _) rfl (WS' := sw_U a q5 tg c10 ++ (sw_P d q5 cl2 le2 ri2 lt2 gr2 ct2 gc2)) (sp_pn' _) rfl hl.1 (Nat.le_of_ble_eq_true rfl) dX8_middleOf_121 ⟨Nat.zero_le _, Nat.zero_le _⟩ rfl (fun H locs hW => ?_)
            obtain ⟨hin, c19, ec19, hf⟩ := sp_hstL hf
            refine sp_last S hK hW 2 rfl hin ec19 (ws' := sw_U a q5 tg c19 ++ (sw_P d q5 cl2 le2 ri2 lt2 gr2 ct2 gc2)) rfl dX8_middleOf_124 (fun H locs hW => ?_)
            exact hj16 _ _ _ _ hf hW (lv_sub hl [0, 1, 2, 3, 4] rfl)
    exact hlp90 _ _ _ _ _ _ hf hW (lv_sub hl [1, 2, 3, 4, 0] rfl)
  have hlp8 : ∀ (n9 : Nat) (y1 : Int32) (y2 : Int32) (y3 : Int32) (c4 : Nat → Int64) (H : Heap) (locs : List Loc) (ls : Array Slot), sp_lp (f_X8_middleOf_L8 gc2 k8 gr2 cl2 p2) n9 (y1, y2, y3, c4) = some (r', bt') → sp_wd D A s.heap (sw_U a q5 tg c4 ++ (sw_P d q5 cl2 le2 ri2 lt2 gr2 ct2 gc2)) H locs → lv_has ls 8 [(0, .ref (a 0)), (1, .ref (d 0)), (2, .int p2), (3, .int y1), (4, .int y2), (5, .int y3)] → W p l e rmX8_middleOf s m args below meth c H locs 0 0 Q (F0 m 8 ls []) := by
    intro n9
    induction n9 with
    | zero =>
      intro y1 y2 y3 c4 H locs ls hf hW hl
      exact (sp_lp0 hf).elim
    | succ n9 ih8 =>
      intro y1 y2 y3 c4 H locs ls hf hW hl
      have hf := sp_lpS hf
      rw [f_X8_middleOf_L8_eq] at hf
      refine lv_iload hx hb dX8_middleOf_8 (lv_at hl 5 rfl) ?_
      refine lv_aload_n hx hb dX8_middleOf_10 rfl (lv_at hl 1 rfl) ?_
      refine sp_get S hK hW inX2 3 rfl rfl 6 (by decide) lk3 rfl dX8_middleOf_11 ?_
      refine lv_icmp_ge (tgt := 87) hx hb dX8_middleOf_14 (by decide) (fun hc => ?_) (fun hc => ?_)
      · have hf := sp_ht hf hc
        exact hj8 _ _ _ _ _ _ hf hW (lv_sub hl [0, 1, 3, 4] rfl)
      · have hf := sp_hf hf hc
        refine lv_aload_n hx hb dX8_middleOf_17 rfl (lv_at hl 1 rfl) ?_
        refine sp_get S hK hW inX2 3 rfl rfl 4 (by decide) lk4 rfl dX8_middleOf_18 ?_
        refine lv_iload hx hb dX8_middleOf_21 (lv_at hl 5 rfl) ?_
        obtain ⟨hin, v20, ev20, hf⟩ := sp_hld hf
        refine sp_iald S hK hW 8 rfl hin ev20 dX8_middleOf_23 ?_
        refine lv_istore (lv' := [(6, .int v20), (0, .ref (a 0)), (1, .ref (d 0)), (2, .int p2), (3, .int y1), (4, .int y2), (5, .int y3)]) hx hb dX8_middleOf_24 hl (by decide) rfl (fun ls hl => ?_)
        refine lv_aload_n hx hb dX8_middleOf_26 rfl (lv_at hl 2 rfl) ?_
        refine sp_get S hK hW inX2 3 rfl rfl 0 (by decide) lk5 rfl dX8_middleOf_27 ?_
        refine lv_iload hx hb dX8_middleOf_30 (lv_at hl 0 rfl) ?_
        obtain ⟨hin, v21, ev21, hf⟩ := sp_hld hf
        refine sp_iald S hK hW 4 rfl hin ev21 dX8_middleOf_32 ?_
        obtain ⟨r22, hc22, hf⟩ := sp_hc hf
        refine sp_callSi (rest := []) S hK hG hA hW (c_X0_lettersOf v21 hc22) (by decide) (va_cwS 1 S.2.2.2.2 gX8_middleOf_X0_lettersOf rfl rfl rfl (by decide +kernel) (by decide)) (isC := []) rfl rfl rfl (WS' := sw_U a q5 tg c4 ++ (sw_P d q5 cl2 le2 ri2 lt2 gr2 ct2 gc2)) rfl rfl hl.1 (Nat.le_of_ble_eq_true rfl) dX8_middleOf_33 ⟨Nat.zero_le _, Nat.zero_le _⟩ rfl (fun H locs hW => ?_)
        refine lv_istore (lv' := [(7, .int r22), (6, .int v20), (0, .ref (a 0)), (1, .ref (d 0)), (2, .int p2), (3, .int y1), (4, .int y2), (5, .int y3)]) hx hb dX8_middleOf_36 hl (by decide) rfl (fun ls hl => ?_)
        refine lv_iload hx hb dX8_middleOf_38 (lv_at hl 7 rfl) ?_
        refine lv_iload_n hx hb dX8_middleOf_40 rfl (lv_at hl 4 rfl) ?_
        refine lv_i2l hx hb dX8_middleOf_41 rfl ?_
        obtain ⟨r23, hc23, hf⟩ := sp_hc hf
        refine sp_callNi (rest := []) (host := RX9) S hK hG hA hW (c_X9_isIn y3 (p2.toInt64) hc23) (by decide) ⟨va_cnB 2 S.2.2.2.2 gX8_middleOf_X9_isIn_n26 rfl rfl rfl (hG.1 (by decide) _ (List.mem_of_getElem? (i := 13) rfl)) lk7 (by decide +kernel) (by decide), lk6, trivial⟩ (isC := []) rfl rfl rfl (WS' := sw_U a q5 tg c4 ++ (sw_P d q5 cl2 le2 ri2 lt2 gr2 ct2 gc2)) rfl rfl hl.1 (Nat.le_of_ble_eq_true rfl) dX8_middleOf_42 ⟨Nat.zero_le _, Nat.zero_le _⟩ rfl (fun H locs hW => ?_)
        obtain ⟨k27, ek27, hf⟩ := sp_hb hf
        have hj27 : ∀ (x24 : Int32) (x25 : Int32) (c26 : Nat → Int64) (H : Heap) (locs : List Loc) (ls : Array Slot), k27 x24 x25 c26 = some (r', bt') → sp_wd D A s.heap (sw_U a q5 tg c26 ++ (sw_P d q5 cl2 le2 ri2 lt2 gr2 ct2 gc2)) H locs → lv_has ls 8 [(0, .ref (a 0)), (1, .ref (d 0)), (2, .int p2), (3, .int x24), (4, .int x25), (5, .int y3)] → W p l e rmX8_middleOf s m args below meth c H locs 0 0 Q (F0 m 81 ls []) := by
          intro x24 x25 c26 H locs ls hf hW hl
          rw [ek27] at hf
          obtain ⟨v28, ev28, hf⟩ := sp_hb hf
          refine lv_iinc (v := v28) (lv' := [(5, .int v28), (0, .ref (a 0)), (1, .ref (d 0)), (2, .int p2), (3, .int x24), (4, .int x25)]) hx hb dX8_middleOf_81 hl (k := 5) rfl (by rw [ev28]; rfl) (by decide) rfl (fun ls hl => ?_)
          refine lv_goto (tgt := 8) hx hb dX8_middleOf_84 (by decide) ?_
          exact ih8 _ _ _ _ _ _ _ hf hW (lv_sub hl [1, 2, 3, 4, 5, 0] rfl)
        refine lv_if_eq (tgt := 64) hx hb dX8_middleOf_45 (by decide) (fun hc => ?_) (fun hc => ?_)
        · have hf := sp_ht hf hc
          refine lv_iload hx hb dX8_middleOf_64 (lv_at hl 6 rfl) ?_
          refine lv_iload hx hb dX8_middleOf_66 (lv_at hl 0 rfl) ?_
          refine lv_ior hx hb dX8_middleOf_68 ?_
          obtain ⟨v29, ev29, hf⟩ := sp_hb hf
          refine sp_topi ev29 ?_
          refine lv_istore (lv' := [(4, .int v29), (7, .int r22), (6, .int v20), (0, .ref (a 0)), (1, .ref (d 0)), (2, .int p2), (3, .int y1), (5, .int y3)]) hx hb dX8_middleOf_69 hl (by decide) rfl (fun ls hl => ?_)
          refine lv_aload_n hx hb dX8_middleOf_71 rfl (lv_at hl 3 rfl) ?_
          refine sp_get S hK hW inX8 0 rfl rfl 1 (by decide) lk1 rfl dX8_middleOf_72 ?_
          refine lv_iload hx hb dX8_middleOf_75 (lv_at hl 2 rfl) ?_
          refine lv_ldc2 hx hb S.2.2.2.1 lk8 dX8_middleOf_77 ?_
          obtain ⟨hin, c30, ec30, hf⟩ := sp_hstL hf
          refine sp_last S hK hW 2 rfl hin ec30 (ws' := sw_U a q5 tg c30 ++ (sw_P d q5 cl2 le2 ri2 lt2 gr2 ct2 gc2)) rfl dX8_middleOf_80 (fun H locs hW => ?_)
          exact hj27 _ _ _ _ _ _ hf hW (lv_sub hl [3, 4, 5, 6, 0, 7] rfl)
        · have hf := sp_hf hf hc
          refine lv_iload_n hx hb dX8_middleOf_48 rfl (lv_at hl 5 rfl) ?_
          refine lv_iload hx hb dX8_middleOf_49 (lv_at hl 0 rfl) ?_
          refine lv_ior hx hb dX8_middleOf_51 ?_
          obtain ⟨v31, ev31, hf⟩ := sp_hb hf
          refine sp_topi ev31 ?_
          refine lv_istore_n (lv' := [(3, .int v31), (7, .int r22), (6, .int v20), (0, .ref (a 0)), (1, .ref (d 0)), (2, .int p2), (4, .int y2), (5, .int y3)]) hx hb dX8_middleOf_52 rfl hl (by decide) rfl (fun ls hl => ?_)
          refine lv_aload_n hx hb dX8_middleOf_53 rfl (lv_at hl 3 rfl) ?_
          refine sp_get S hK hW inX8 0 rfl rfl 1 (by decide) lk1 rfl dX8_middleOf_54 ?_
          refine lv_iload hx hb dX8_middleOf_57 (lv_at hl 2 rfl) ?_
          refine lv_lconst (v := 0) hx hb dX8_middleOf_59 (by decide) ?_
          obtain ⟨hin, c32, ec32, hf⟩ := sp_hstL hf
          refine sp_last S hK hW 2 rfl hin ec32 (ws' := sw_U a q5 tg c32 ++ (sw_P d q5 cl2 le2 ri2 lt2 gr2 ct2 gc2)) rfl dX8_middleOf_60 (fun H locs hW => ?_)
          refine lv_goto (tgt := 81) hx hb dX8_middleOf_61 (by decide) ?_
          exact hj27 _ _ _ _ _ _ hf hW (lv_sub hl [3, 4, 5, 0, 6, 7] rfl)
  exact hlp8 _ _ _ _ _ _ _ _ hf hW (lv_sub hl [3, 4, 5, 2, 1, 0] rfl)
