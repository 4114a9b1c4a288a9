def f_X3_take (p2 : Int32) (p3 : Int32) (co : Nat → Int32) (ce2 : Nat → Int32) : Option ((Nat → Int32) × Int32) := sp_cp ce2 60 co 60 p2 (0 : Int32) p3 (fun c1 => some (c1, p3))
def rmX3_take : Room := { frames := 1, cells := 0, slots := 0, locals := 60 }
set_option maxRecDepth 4000 in
theorem c_X3_take {l : Launch} {D : va_G} {q5 : Nat → ClassId} (a : Nat → Nat) (b : Nat → Nat) (d : Nat → Nat) (co : Nat → Int32) (cn : Int32) (pl : Int32) (cl1 : Nat → Int32) (le1 : Nat → Int32) (ri1 : Nat → Int32) (lt1 : Nat → Int32) (gr1 : Nat → Int32) (ct1 : Int32) (gc1 : Int32) (ce2 : Nat → Int32) (la2 : Int32) (ln2 : Int32) (p2 : Int32) (p3 : Int32) {co' : Nat → Int32} {cn' : Int32} (hf : f_X3_take p2 p3 co ce2 = some (co', cn')) : sp_Cv l yX3_take wsX3_take rmX3_take D q5 0 [.ref (a 0), .ref (d 0), .int p2, .int p3] (sw_R a (b 0) q5 co cn pl ++ (sw_P b q5 cl1 le1 ri1 lt1 gr1 ct1 gc1 ++ (sw_S d q5 ce2 la2 ln2))) (sw_R a (b 0) q5 co' cn' pl ++ (sw_P b q5 cl1 le1 ri1 lt1 gr1 ct1 gc1 ++ (sw_S d q5 ce2 la2 ln2))) := by
  intro sz
  refine sp_of (cc := cX3_take) (maxL := 4) (ret := none) (own := RX3) (Qc := sp_Qv D (sw_R a (b 0) q5 co' cn' pl ++ (sw_P b q5 cl1 le1 ri1 lt1 gr1 ct1 gc1 ++ (sw_S d q5 ce2 la2 ln2)))) (by decide) rfl rfl (Nat.le_of_ble_eq_true rfl) ?_
  intro p e s m args below meth c A ls Q hQ S hr hlk hK hG hA hW hl
  have hx := S.1
  have hb := S.2.1
  unfold f_X3_take at hf
  have inX3 : ∀ w ∈ u_ws RX3 TX3 4, w ∈ wsX3_take := (fun _ h => List.mem_cons_of_mem _ (List.mem_append_right _ h))
  have inX4 : ∀ w ∈ u_ws RX4 TX4 3, w ∈ wsX3_take := (fun _ h => List.mem_cons_of_mem _ (List.mem_append_left _ (List.mem_append_right _ h)))
  have lk1 := S.2.2.2.2 (Cond.fieldLink RX3 22 "ShortProofs$Sheet" "cells" "[I") (List.mem_of_getElem? (i := 1) rfl)
  have lk2 := S.2.2.2.2 (Cond.fieldLink RX3 9 "ShortProofs$Reader" "codes" "[I") (List.mem_of_getElem? (i := 2) rfl)
  have lk3 := S.2.2.2.2 (Cond.methodLink RX3 27 arraycopyName) (List.mem_of_getElem? (i := 3) rfl)
  have lk4 := S.2.2.2.2 (Cond.native arraycopyName) (List.mem_of_getElem? (i := 4) rfl)
  have lk5 := S.2.2.2.2 (Cond.static arraycopyName) (List.mem_of_getElem? (i := 5) rfl)
  have lk6 := S.2.2.2.2 (Cond.initialized "java/lang/System") (List.mem_of_getElem? (i := 6) rfl)
  have lk7 := S.2.2.2.2 (Cond.fieldLink RX3 33 "ShortProofs$Reader" "count" "I") (List.mem_of_getElem? (i := 7) rfl)
  refine lv_aload_n hx hb dX3_take_0 rfl (lv_at hl 1 rfl) ?_
  refine sp_get S hK hW inX4 8 rfl rfl 0 (by decide) lk1 rfl dX3_take_1 ?_
  refine lv_iload_n hx hb dX3_take_4 rfl (lv_at hl 2 rfl) ?_
  refine lv_aload_n hx hb dX3_take_5 rfl (lv_at hl 0 rfl) ?_
  refine sp_get S hK hW inX3 0 rfl rfl 0 (by decide) lk2 rfl dX3_take_6 ?_
  refine lv_iconst (v := 0) hx hb dX3_take_9 (by decide) ?_
  refine lv_iload_n hx hb dX3_take_10 rfl (lv_at hl 3 rfl) ?_
  obtain ⟨hin, c1, ec1, hf⟩ := sp_hcp hf
  refine sp_copy S hK hW hl.1 lk3 lk4 lk5 lk6 9 1 rfl rfl hin ec1 (ws' := sw_R a (b 0) q5 c1 cn pl ++ (sw_P b q5 cl1 le1 ri1 lt1 gr1 ct1 gc1 ++ (sw_S d q5 ce2 la2 ln2))) rfl (by decide) (by decide +kernel) dX3_take_11 (fun H locs hW => ?_)
  refine lv_aload_n hx hb dX3_take_14 rfl (lv_at hl 0 rfl) ?_
  refine lv_iload_n hx hb dX3_take_15 rfl (lv_at hl 3 rfl) ?_
  refine sp_put S hK hW inX3 tyX3_ok nmX3 0 rfl rfl 2 (by decide) lk7 rfl rfl rfl (Nat.le_of_ble_eq_true rfl) (ws' := sw_R a (b 0) q5 c1 p3 pl ++ (sw_P b q5 cl1 le1 ri1 lt1 gr1 ct1 gc1 ++ (sw_S d q5 ce2 la2 ln2))) rfl dX3_take_16 (fun H locs hW => ?_)
  cases hf
  exact sp_vret S hr hlk hW hQ dX3_take_19

def f_X3_codeAt (p1 : Int32) (co : Nat → Int32) (cn : Int32) : Option (Int32) := if cn ≤ p1 then (some (-9 : Int32)) else (sp_ld co 60 p1 (fun v1 => some v1))
def rmX3_codeAt : Room := { frames := 0, cells := 0, slots := 0, locals := 0 }
set_option maxRecDepth 4000 in
theorem c_X3_codeAt {l : Launch} {D : va_G} {q5 : Nat → ClassId} (a : Nat → Nat) (b : Nat → Nat) (co : Nat → Int32) (cn : Int32) (pl : Int32) (cl1 : Nat → Int32) (le1 : Nat → Int32) (ri1 : Nat → Int32) (lt1 : Nat → Int32) (gr1 : Nat → Int32) (ct1 : Int32) (gc1 : Int32) (p1 : Int32) {r' : Int32} (hf : f_X3_codeAt p1 co cn = some r') : sp_Ci l yX3_codeAt wsX3_codeAt rmX3_codeAt D q5 0 [.ref (a 0), .int p1] (sw_R a (b 0) q5 co cn pl ++ (sw_P b q5 cl1 le1 ri1 lt1 gr1 ct1 gc1)) r' (sw_R a (b 0) q5 co cn pl ++ (sw_P b q5 cl1 le1 ri1 lt1 gr1 ct1 gc1)) := by
  intro sz
  refine sp_of (cc := cX3_codeAt) (maxL := 2) (ret := some .int) (own := RX3) (Qc := sp_Qi D r' (sw_R a (b 0) q5 co cn pl ++ (sw_P b q5 cl1 le1 ri1 lt1 gr1 ct1 gc1))) (by decide) rfl rfl (Nat.le_of_ble_eq_true rfl) ?_
  intro p e s m args below meth c A ls Q hQ S hr hlk hK hG hA hW hl
  have hx := S.1
  have hb := S.2.1
  unfold f_X3_codeAt at hf
  have inX3 : ∀ w ∈ u_ws RX3 TX3 4, w ∈ wsX3_codeAt := (fun _ h => List.mem_cons_of_mem _ (List.mem_append_right _ h))
  have lk1 := S.2.2.2.2 (Cond.fieldLink RX3 33 "ShortProofs$Reader" "count" "I") (List.mem_of_getElem? (i := 1) rfl)
  have lk2 := S.2.2.2.2 (Cond.fieldLink RX3 9 "ShortProofs$Reader" "codes" "[I") (List.mem_of_getElem? (i := 2) rfl)
  refine lv_iload_n hx hb dX3_codeAt_0 rfl (lv_at hl 1 rfl) ?_
  refine lv_aload_n hx hb dX3_codeAt_1 rfl (lv_at hl 0 rfl) ?_
  refine sp_get S hK hW inX3 0 rfl rfl 2 (by decide) lk1 rfl dX3_codeAt_2 ?_
  refine lv_icmp_ge (tgt := 17) hx hb dX3_codeAt_5 (by decide) (fun hc => ?_) (fun hc => ?_)
  · have hf := sp_ht hf hc
    refine lv_bipush (v := (-9)) hx hb dX3_codeAt_17 (by decide) ?_
    cases hf
    exact sp_iret S hr hlk hW hQ dX3_codeAt_19
  · have hf := sp_hf hf hc
    refine lv_aload_n hx hb dX3_codeAt_8 rfl (lv_at hl 0 rfl) ?_
    refine sp_get S hK hW inX3 0 rfl rfl 0 (by decide) lk2 rfl dX3_codeAt_9 ?_
    refine lv_iload_n hx hb dX3_codeAt_12 rfl (lv_at hl 1 rfl) ?_
    obtain ⟨hin, v1, ev1, hf⟩ := sp_hld hf
    refine sp_iald S hK hW 1 rfl hin ev1 dX3_codeAt_13 ?_
    refine lv_goto (tgt := 19) hx hb dX3_codeAt_14 (by decide) ?_
    cases hf
    exact sp_iret S hr hlk hW hQ dX3_codeAt_19

def f_X3_reads (p1 : Int32) (co : Nat → Int32) (cn : Int32) (pl : Int32) : Option (Int32 × Int32) := Option.bind (f_X3_codeAt pl co cn) (fun r1 => if r1 = p1 then (sp_bnd (pl + (1 : Int32)) (fun v2 => some ((1 : Int32), v2))) else (some ((0 : Int32), pl)))
def rmX3_reads : Room := { frames := 1, cells := 0, slots := 0, locals := 21 }
set_option maxRecDepth 4000 in
theorem c_X3_reads {l : Launch} {D : va_G} {q5 : Nat → ClassId} (a : Nat → Nat) (b : Nat → Nat) (co : Nat → Int32) (cn : Int32) (pl : Int32) (cl1 : Nat → Int32) (le1 : Nat → Int32) (ri1 : Nat → Int32) (lt1 : Nat → Int32) (gr1 : Nat → Int32) (ct1 : Int32) (gc1 : Int32) (p1 : Int32) {r' : Int32} {pl' : Int32} (hf : f_X3_reads p1 co cn pl = some (r', pl')) : sp_Ci l yX3_reads wsX3_reads rmX3_reads D q5 0 [.ref (a 0), .int p1] (sw_R a (b 0) q5 co cn pl ++ (sw_P b q5 cl1 le1 ri1 lt1 gr1 ct1 gc1)) r' (sw_R a (b 0) q5 co cn pl' ++ (sw_P b q5 cl1 le1 ri1 lt1 gr1 ct1 gc1)) := by
  intro sz
  refine sp_of (cc := cX3_reads) (maxL := 2) (ret := some .boolean) (own := RX3) (Qc := sp_Qi D r' (sw_R a (b 0) q5 co cn pl' ++ (sw_P b q5 cl1 le1 ri1 lt1 gr1 ct1 gc1))) (by decide) rfl rfl (Nat.le_of_ble_eq_true rfl) ?_
  intro p e s m args below meth c A ls Q hQ S hr hlk hK hG hA hW hl
  have hx := S.1
  have hb := S.2.1
  unfold f_X3_reads at hf
  have inX3 : ∀ w ∈ u_ws RX3 TX3 4, w ∈ wsX3_reads := (fun _ h => List.mem_cons_of_mem _ (List.mem_append_right _ h))
  have lk1 := S.2.2.2.2 (Cond.fieldLink RX3 40 "ShortProofs$Reader" "place" "I") (List.mem_of_getElem? (i := 1) rfl)
  refine lv_aload_n hx hb dX3_reads_0 rfl (lv_at hl 0 rfl) ?_
  refine lv_aload_n hx hb dX3_reads_1 rfl (lv_at hl 0 rfl) ?_
  refine sp_get S hK hW inX3 0 rfl rfl 3 (by decide) lk1 rfl dX3_reads_2 ?_
  obtain ⟨r1, hc1, hf⟩ := sp_hc hf
  refine sp_callViP (rest := []) S hK hG hA hW (c_X3_codeAt a b co cn pl cl1 le1 ri1 lt1 gr1 ct1 gc1 pl hc1) (by decide) (cwV 1 S.2.2.2.2 gX3_reads_X3_codeAt rfl rfl rfl (by decide +kernel) (by decide)) 2 0 rfl rfl (sp_pn _) rfl (WS' := sw_R a (b 0) q5 co cn pl ++ (sw_P b q5 cl1 le1 ri1 lt1 gr1 ct1 gc1)) (sp_pn' _) rfl hl.1 (Nat.le_of_ble_eq_true rfl) dX3_reads_5 ⟨Nat.zero_le _, Nat.zero_le _⟩ rfl (fun H locs hW => ?_)
  refine lv_iload_n hx hb dX3_reads_8 rfl (lv_at hl 1 rfl) ?_
  refine lv_icmp_eq (tgt := 14) hx hb dX3_reads_9 (by decide) (fun hc => ?_) (fun hc => ?_)
  · have hf := sp_ht hf hc
    refine lv_aload_n hx hb dX3_reads_14 rfl (lv_at hl 0 rfl) ?_
    refine lv_dup hx hb dX3_reads_15 rfl ?_
    refine sp_get S hK hW inX3 0 rfl rfl 3 (by decide) lk1 rfl dX3_reads_16 ?_
    refine lv_iconst (v := 1) hx hb dX3_reads_19 (by decide) ?_
    refine lv_iadd hx hb dX3_reads_20 ?_
    obtain ⟨v2, ev2, hf⟩ := sp_hb hf
    refine sp_topi ev2 ?_
    refine sp_put S hK hW inX3 tyX3_ok nmX3 0 rfl rfl 3 (by decide) lk1 rfl rfl rfl (Nat.le_of_ble_eq_true rfl) (ws' := sw_R a (b 0) q5 co cn v2 ++ (sw_P b q5 cl1 le1 ri1 lt1 gr1 ct1 gc1)) rfl dX3_reads_21 (fun H locs hW => ?_)
    refine lv_iconst (v := 1) hx hb dX3_reads_24 (by decide) ?_
    cases hf
    exact sp_zret S hr hlk hW rfl hQ dX3_reads_25
  · have hf := sp_hf hf hc
    refine lv_iconst (v := 0) hx hb dX3_reads_12 (by decide) ?_
    cases hf
    exact sp_zret S hr hlk hW rfl hQ dX3_reads_13

def f_X3_signOf (p1 : Int32) : Option (Int32) := sp_bnd (if p1 < (65 : Int32) then (some (0 : Int32)) else (if (71 : Int32) ≤ p1 then (some (0 : Int32)) else (Option.bind (f_X0_negated (p1 - (65 : Int32))) (fun r2 => some r2)))) (fun k1 => if p1 < (97 : Int32) then k1 else (if (103 : Int32) ≤ p1 then k1 else (Option.bind (f_X0_plain (p1 - (97 : Int32))) (fun r3 => some r3))))
def rmX3_signOf : Room := { frames := 1, cells := 0, slots := 0, locals := 20 }
set_option maxRecDepth 4000 in
theorem c_X3_signOf {l : Launch} {D : va_G} {q5 : Nat → ClassId} (p1 : Int32) {r' : Int32} (hf : f_X3_signOf p1 = some r') : sp_Ci l yX3_signOf wsX3_signOf rmX3_signOf D q5 0 [.int p1] ([]) r' ([]) := by
  intro sz
  refine sp_of (cc := cX3_signOf) (maxL := 1) (ret := some .int) (own := RX3) (Qc := sp_Qi D r' ([])) (by decide) rfl rfl (Nat.le_of_ble_eq_true rfl) ?_
  intro p e s m args below meth c A ls Q hQ S hr hlk hK hG hA hW hl
  have hx := S.1
  have hb := S.2.1
  unfold f_X3_signOf at hf
  refine lv_iload_n hx hb dX3_signOf_0 rfl (lv_at hl 0 rfl) ?_
  refine lv_bipush (v := 97) hx hb dX3_signOf_1 (by decide) ?_
  obtain ⟨k1, ek1, hf⟩ := sp_hb hf
  have hj1 : ∀ (H : Heap) (locs : List Loc) (ls : Array Slot), k1 = some r' → sp_wd D A s.heap ([]) H locs → lv_has ls 1 [(0, .int p1)] → W p l e rmX3_signOf s m args below meth c H locs 0 0 Q (F0 m 20 ls []) := by
    intro H locs ls hf hW hl
    rw [ek1] at hf
    refine lv_iload_n hx hb dX3_signOf_20 rfl (lv_at hl 0 rfl) ?_
    refine lv_bipush (v := 65) hx hb dX3_signOf_21 (by decide) ?_
    refine lv_icmp_lt (tgt := 40) hx hb dX3_signOf_23 (by decide) (fun hc => ?_) (fun hc => ?_)
    · have hf := sp_ht hf hc
      refine lv_iconst (v := 0) hx hb dX3_signOf_40 (by decide) ?_
      cases hf
      exact sp_iret S hr hlk hW hQ dX3_signOf_41
    · have hf := sp_hf hf hc
      refine lv_iload_n hx hb dX3_signOf_26 rfl (lv_at hl 0 rfl) ?_
      refine lv_bipush (v := 71) hx hb dX3_signOf_27 (by decide) ?_
      refine lv_icmp_ge (tgt := 40) hx hb dX3_signOf_29 (by decide) (fun hc => ?_) (fun hc => ?_)
      · have hf := sp_ht hf hc
        refine lv_iconst (v := 0) hx hb dX3_signOf_40 (by decide) ?_
        cases hf
        exact sp_iret S hr hlk hW hQ dX3_signOf_41
      · have hf := sp_hf hf hc
        refine lv_iload_n hx hb dX3_signOf_32 rfl (lv_at hl 0 rfl) ?_
        refine lv_bipush (v := 65) hx hb dX3_signOf_33 (by decide) ?_
        refine lv_isub hx hb dX3_signOf_35 ?_
        obtain ⟨r2, hc2, hf⟩ := sp_hc hf
        refine sp_callSi (rest := []) S hK hG hA hW (c_X0_negated (p1 - (65 : Int32)) hc2) (by decide) (va_cwS 1 S.2.2.2.2 gX3_signOf_X0_negated rfl rfl rfl (by decide +kernel) (by decide)) (isC := []) rfl rfl rfl (WS' := []) rfl rfl hl.1 (Nat.le_of_ble_eq_true rfl) dX3_signOf_36 ⟨Nat.zero_le _, Nat.zero_le _⟩ rfl (fun H locs hW => ?_)
        cases hf
        exact sp_iret S hr hlk hW hQ dX3_signOf_39
  refine lv_icmp_lt (tgt := 20) hx hb dX3_signOf_3 (by decide) (fun hc => ?_) (fun hc => ?_)
  · have hf := sp_ht hf hc
    exact hj1 _ _ _ hf hW (lv_sub hl [0] rfl)
  · have hf := sp_hf hf hc
    refine lv_iload_n hx hb dX3_signOf_6 rfl (lv_at hl 0 rfl) ?_
    refine lv_bipush (v := 103) hx hb dX3_signOf_7 (by decide) ?_
    refine lv_icmp_ge (tgt := 20) hx hb dX3_signOf_9 (by decide) (fun hc => ?_) (fun hc => ?_)
    · have hf := sp_ht hf hc
      exact hj1 _ _ _ hf hW (lv_sub hl [0] rfl)
    · have hf := sp_hf hf hc
      refine lv_iload_n hx hb dX3_signOf_12 rfl (lv_at hl 0 rfl) ?_
      refine lv_bipush (v := 97) hx hb dX3_signOf_13 (by decide) ?_
      refine lv_isub hx hb dX3_signOf_15 ?_
      obtain ⟨r3, hc3, hf⟩ := sp_hc hf
      refine sp_callSi (rest := []) S hK hG hA hW (c_X0_plain (p1 - (97 : Int32)) hc3) (by decide) (va_cwS 1 S.2.2.2.2 gX3_signOf_X0_plain rfl rfl rfl (by decide +kernel) (by decide)) (isC := []) rfl rfl rfl (WS' := []) rfl rfl hl.1 (Nat.le_of_ble_eq_true rfl) dX3_signOf_16 ⟨Nat.zero_le _, Nat.zero_le _⟩ rfl (fun H locs hW => ?_)
      cases hf
      exact sp_iret S hr hlk hW hQ dX3_signOf_19

def f_X3_readSigns_L4 (k6 : Int32 → Int32 → Option (Int32 × Int32)) (co : Nat → Int32) (cn : Int32) (rec4 : (Int32 × Int32 × Int32) → Option (Int32 × Int32)) (s9 : Int32 × Int32 × Int32) : Option (Int32 × Int32) := match s9 with
  | (y1, y2, c3) => if (6 : Int32) ≤ y2 then (k6 y1 c3) else (Option.bind (f_X3_codeAt c3 co cn) (fun r7 => Option.bind (f_X3_signOf r7) (fun r8 => if r8 = 0 then (some (y1, c3)) else (Option.bind (f_X0_lettersOf r8) (fun r9 => Option.bind (f_X0_lettersOf y1) (fun r10 => if (r9 &&& r10) = 0 then (sp_bnd (y1 ||| r8) (fun v11 => sp_bnd (c3 + (1 : Int32)) (fun v12 => sp_bnd (y2 + (1 : Int32)) (fun v13 => rec4 (v11, v13, v12))))) else (some (y1, c3))))))))
theorem f_X3_readSigns_L4_eq {rec4 : (Int32 × Int32 × Int32) → Option (Int32 × Int32)} {k6 : Int32 → Int32 → Option (Int32 × Int32)} {co : Nat → Int32} {cn : Int32} {y1 : Int32} {y2 : Int32} {c3 : Int32} : f_X3_readSigns_L4 k6 co cn rec4 (y1, y2, c3) = (if (6 : Int32) ≤ y2 then (k6 y1 c3) else (Option.bind (f_X3_codeAt c3 co cn) (fun r7 => Option.bind (f_X3_signOf r7) (fun r8 => if r8 = 0 then (some (y1, c3)) else (Option.bind (f_X0_lettersOf r8) (fun r9 => Option.bind (f_X0_lettersOf y1) (fun r10 => if (r9 &&& r10) = 0 then (sp_bnd (y1 ||| r8) (fun v11 => sp_bnd (c3 + (1 : Int32)) (fun v12 => sp_bnd (y2 + (1 : Int32)) (fun v13 => rec4 (v11, v13, v12))))) else (some (y1, c3))))))))) := rfl
def f_X3_readSigns (co : Nat → Int32) (cn : Int32) (pl : Int32) : Option (Int32 × Int32) := sp_bnd (fun (x4 : Int32) (c5 : Int32) => some (x4, c5)) (fun k6 => sp_lp (f_X3_readSigns_L4 k6 co cn) sp_F ((0 : Int32), (0 : Int32), pl))
def rmX3_readSigns : Room := { frames := 2, cells := 0, slots := 0, locals := 40 }
set_option maxRecDepth 4000 in
theorem c_X3_readSigns {l : Launch} {D : va_G} {q5 : Nat → ClassId} (a : Nat → Nat) (b : Nat → Nat) (co : Nat → Int32) (cn : Int32) (pl : Int32) (cl1 : Nat → Int32) (le1 : Nat → Int32) (ri1 : Nat → Int32) (lt1 : Nat → Int32) (gr1 : Nat → Int32) (ct1 : Int32) (gc1 : Int32) {r' : Int32} {pl' : Int32} (hf : f_X3_readSigns co cn pl = some (r', pl')) : sp_Ci l yX3_readSigns wsX3_readSigns rmX3_readSigns D q5 0 [.ref (a 0)] (sw_R a (b 0) q5 co cn pl ++ (sw_P b q5 cl1 le1 ri1 lt1 gr1 ct1 gc1)) r' (sw_R a (b 0) q5 co cn pl' ++ (sw_P b q5 cl1 le1 ri1 lt1 gr1 ct1 gc1)) := by
  intro sz
  refine sp_of (cc := cX3_readSigns) (maxL := 4) (ret := some .int) (own := RX3) (Qc := sp_Qi D r' (sw_R a (b 0) q5 co cn pl' ++ (sw_P b q5 cl1 le1 ri1 lt1 gr1 ct1 gc1))) (by decide) rfl rfl (Nat.le_of_ble_eq_true rfl) ?_
  intro p e s m args below meth c A ls Q hQ S hr hlk hK hG hA hW hl
  have hx := S.1
  have hb := S.2.1
  unfold f_X3_readSigns at hf
  have inX3 : ∀ w ∈ u_ws RX3 TX3 4, w ∈ wsX3_readSigns := (fun _ h => List.mem_cons_of_mem _ (List.mem_append_right _ h))
  have lk1 := S.2.2.2.2 (Cond.fieldLink RX3 40 "ShortProofs$Reader" "place" "I") (List.mem_of_getElem? (i := 1) rfl)
  refine lv_iconst (v := 0) hx hb dX3_readSigns_0 (by decide) ?_
  refine lv_istore_n (lv' := [(1, .int (0 : Int32)), (0, .ref (a 0))]) hx hb dX3_readSigns_1 rfl hl (by decide) rfl (fun ls hl => ?_)
  refine lv_iconst (v := 0) hx hb dX3_readSigns_2 (by decide) ?_
  refine lv_istore_n (lv' := [(2, .int (0 : Int32)), (1, .int (0 : Int32)), (0, .ref (a 0))]) hx hb dX3_readSigns_3 rfl hl (by decide) rfl (fun ls hl => ?_)
  obtain ⟨k6, ek6, hf⟩ := sp_hb hf
  have hj6 : ∀ (x4 : Int32) (c5 : Int32) (H : Heap) (locs : List Loc) (ls : Array Slot), k6 x4 c5 = some (r', pl') → sp_wd D A s.heap (sw_R a (b 0) q5 co cn c5 ++ (sw_P b q5 cl1 le1 ri1 lt1 gr1 ct1 gc1)) H locs → lv_has ls 4 [(1, .int x4)] → W p l e rmX3_readSigns s m args below meth c H locs 0 0 Q (F0 m 60 ls []) := by
    intro x4 c5 H locs ls hf hW hl
    rw [ek6] at hf
    refine lv_iload_n hx hb dX3_readSigns_60 rfl (lv_at hl 0 rfl) ?_
    cases hf
    exact sp_iret S hr hlk hW hQ dX3_readSigns_61
  have hlp4 : ∀ (n9 : Nat) (y1 : Int32) (y2 : Int32) (c3 : Int32) (H : Heap) (locs : List Loc) (ls : Array Slot), sp_lp (f_X3_readSigns_L4 k6 co cn) n9 (y1, y2, c3) = some (r', pl') → sp_wd D A s.heap (sw_R a (b 0) q5 co cn c3 ++ (sw_P b q5 cl1 le1 ri1 lt1 gr1 ct1 gc1)) H locs → lv_has ls 4 [(0, .ref (a 0)), (1, .int y1), (2, .int y2)] → W p l e rmX3_readSigns s m args below meth c H locs 0 0 Q (F0 m 4 ls []) := by
    intro n9
    induction n9 with
    | zero =>
      intro y1 y2 c3 H locs ls hf hW hl
      exact (sp_lp0 hf).elim
    | succ n9 ih4 =>
      intro y1 y2 c3 H locs ls hf hW hl
      have hf := sp_lpS hf
      rw [f_X3_readSigns_L4_eq] at hf
      refine lv_iload_n hx hb dX3_readSigns_4 rfl (lv_at hl 2 rfl) ?_
      refine lv_bipush (v := 6) hx hb dX3_readSigns_5 (by decide) ?_
      refine lv_icmp_ge (tgt := 60) hx hb dX3_readSigns_7 (by decide) (fun hc => ?_) (fun hc => ?_)
      · have hf := sp_ht hf hc
        exact hj6 _ _ _ _ _ hf hW (lv_sub hl [1] rfl)
      · have hf := sp_hf hf hc
        refine lv_aload_n hx hb dX3_readSigns_10 rfl (lv_at hl 0 rfl) ?_
        refine lv_aload_n hx hb dX3_readSigns_11 rfl (lv_at hl 0 rfl) ?_
        refine sp_get S hK hW inX3 0 rfl rfl 3 (by decide) lk1 rfl dX3_readSigns_12 ?_
        obtain ⟨r7, hc7, hf⟩ := sp_hc hf
        refine sp_callViP (rest := []) S hK hG hA hW (c_X3_codeAt a b co cn c3 cl1 le1 ri1 lt1 gr1 ct1 gc1 c3 hc7) (by decide) (cwV 1 S.2.2.2.2 gX3_readSigns_X3_codeAt rfl rfl rfl (by decide +kernel) (by decide)) 2 0 rfl rfl (sp_pn _) rfl (WS' := sw_R a (b 0) q5 co cn c3 ++ (sw_P b q5 cl1 le1 ri1 lt1 gr1 ct1 gc1)) (sp_pn' _) rfl hl.1 (Nat.le_of_ble_eq_true rfl) dX3_readSigns_15 ⟨Nat.zero_le _, Nat.zero_le _⟩ rfl (fun H locs hW => ?_)
        obtain ⟨r8, hc8, hf⟩ := sp_hc hf
        refine sp_callSi (rest := []) S hK hG hA hW (c_X3_signOf r7 hc8) (by decide) (va_cwS 1 S.2.2.2.2 gX3_readSigns_X3_signOf rfl rfl rfl (by decide +kernel) (by decide)) (isC := []) rfl rfl rfl (WS' := sw_R a (b 0) q5 co cn c3 ++ (sw_P b q5 cl1 le1 ri1 lt1 gr1 ct1 gc1)) rfl rfl hl.1 (Nat.le_of_ble_eq_true rfl) dX3_readSigns_18 ⟨Nat.zero_le _, Nat.zero_le _⟩ rfl (fun H locs hW => ?_)
        refine lv_istore_n (lv' := [(3, .int r8), (0, .ref (a 0)), (1, .int y1), (2, .int y2)]) hx hb dX3_readSigns_21 rfl hl (by decide) rfl (fun ls hl => ?_)
        refine lv_iload_n hx hb dX3_readSigns_22 rfl (lv_at hl 0 rfl) ?_
        refine lv_if_eq (tgt := 38) hx hb dX3_readSigns_23 (by decide) (fun hc => ?_) (fun hc => ?_)
        · have hf := sp_ht hf hc
          refine lv_iload_n hx hb dX3_readSigns_38 rfl (lv_at hl 2 rfl) ?_
          cases hf
          exact sp_iret S hr hlk hW hQ dX3_readSigns_39
        · have hf := sp_hf hf hc
          refine lv_iload_n hx hb dX3_readSigns_26 rfl (lv_at hl 0 rfl) ?_
          obtain ⟨r9, hc9, hf⟩ := sp_hc hf
          refine sp_callSi (rest := []) S hK hG hA hW (c_X0_lettersOf r8 hc9) (by decide) (va_cwS 1 S.2.2.2.2 gX3_readSigns_X0_lettersOf rfl rfl rfl (by decide +kernel) (by decide)) (isC := []) rfl rfl rfl (WS' := sw_R a (b 0) q5 co cn c3 ++ (sw_P b q5 cl1 le1 ri1 lt1 gr1 ct1 gc1)) rfl rfl hl.1 (Nat.le_of_ble_eq_true rfl) dX3_readSigns_27 ⟨Nat.zero_le _, Nat.zero_le _⟩ rfl (fun H locs hW => ?_)
          refine lv_iload_n hx hb dX3_readSigns_30 rfl (lv_at hl 2 rfl) ?_
          obtain ⟨r10, hc10, hf⟩ := sp_hc hf
          refine sp_callSi (rest := [.int r9]) S hK hG hA hW (c_X0_lettersOf y1 hc10) (by decide) (va_cwS 1 S.2.2.2.2 gX3_readSigns_X0_lettersOf rfl rfl rfl (by decide +kernel) (by decide)) (isC := []) rfl rfl rfl (WS' := sw_R a (b 0) q5 co cn c3 ++ (sw_P b q5 cl1 le1 ri1 lt1 gr1 ct1 gc1)) rfl rfl hl.1 (Nat.le_of_ble_eq_true rfl) dX3_readSigns_31 ⟨Nat.zero_le _, Nat.zero_le _⟩ rfl (fun H locs hW => ?_)
          refine lv_iand hx hb dX3_readSigns_34 ?_
          refine lv_if_eq (tgt := 40) hx hb dX3_readSigns_35 (by decide) (fun hc => ?_) (fun hc => ?_)
          · have hf := sp_ht hf hc
            refine lv_iload_n hx hb dX3_readSigns_40 rfl (lv_at hl 2 rfl) ?_
            refine lv_iload_n hx hb dX3_readSigns_41 rfl (lv_at hl 0 rfl) ?_
            refine lv_ior hx hb dX3_readSigns_42 ?_
            obtain ⟨v11, ev11, hf⟩ := sp_hb hf
            refine sp_topi ev11 ?_
            refine lv_istore_n (lv' := [(1, .int v11), (3, .int r8), (0, .ref (a 0)), (2, .int y2)]) hx hb dX3_readSigns_43 rfl hl (by decide) rfl (fun ls hl => ?_)
            refine lv_aload_n hx hb dX3_readSigns_44 rfl (lv_at hl 2 rfl) ?_
            refine lv_dup hx hb dX3_readSigns_45 rfl ?_
            refine sp_get S hK hW inX3 0 rfl rfl 3 (by decide) lk1 rfl dX3_readSigns_46 ?_
            refine lv_iconst (v := 1) hx hb dX3_readSigns_49 (by decide) ?_
            refine lv_iadd hx hb dX3_readSigns_50 ?_
            obtain ⟨v12, ev12, hf⟩ := sp_hb hf
            refine sp_topi ev12 ?_
            refine sp_put S hK hW inX3 tyX3_ok nmX3 0 rfl rfl 3 (by decide) lk1 rfl rfl rfl (Nat.le_of_ble_eq_true rfl) (ws' := sw_R a (b 0) q5 co cn v12 ++ (sw_P b q5 cl1 le1 ri1 lt1 gr1 ct1 gc1)) rfl dX3_readSigns_51 (fun H locs hW => ?_)
            obtain ⟨v13, ev13, hf⟩ := sp_hb hf
            refine lv_iinc (v := v13) (lv' := [(2, .int v13), (1, .int v11), (3, .int r8), (0, .ref (a 0))]) hx hb dX3_readSigns_54 hl (k := 3) rfl (by rw [ev13]; rfl) (by decide) rfl (fun ls hl => ?_)
            refine lv_goto (tgt := 4) hx hb dX3_readSigns_57 (by decide) ?_
            exact ih4 _ _ _ _ _ _ hf hW (lv_sub hl [3, 1, 0] rfl)
          · have hf := sp_hf hf hc
            refine lv_iload_n hx hb dX3_readSigns_38 rfl (lv_at hl 2 rfl) ?_
            cases hf
            exact sp_iret S hr hlk hW hQ dX3_readSigns_39
  exact hlp4 _ _ _ _ _ _ _ hf hW (lv_sub hl [2, 1, 0] rfl)

def f_X3_isDigit (p1 : Int32) : Option (Int32) := if p1 < (48 : Int32) then (some (0 : Int32)) else (if (57 : Int32) < p1 then (some (0 : Int32)) else (some (1 : Int32)))
def rmX3_isDigit : Room := { frames := 0, cells := 0, slots := 0, locals := 0 }
set_option maxRecDepth 4000 in
theorem c_X3_isDigit {l : Launch} {D : va_G} {q5 : Nat → ClassId} (p1 : Int32) {r' : Int32} (hf : f_X3_isDigit p1 = some r') : sp_Ci l yX3_isDigit wsX3_isDigit rmX3_isDigit D q5 0 [.int p1] ([]) r' ([]) := by
  intro sz
  refine sp_of (cc := cX3_isDigit) (maxL := 1) (ret := some .boolean) (own := RX3) (Qc := sp_Qi D r' ([])) (by decide) rfl rfl (Nat.le_of_ble_eq_true rfl) ?_
  intro p e s m args below meth c A ls Q hQ S hr hlk hK hG hA hW hl
  have hx := S.1
  have hb := S.2.1
  unfold f_X3_isDigit at hf
  refine lv_iload_n hx hb dX3_isDigit_0 rfl (lv_at hl 0 rfl) ?_
  refine lv_bipush (v := 48) hx hb dX3_isDigit_1 (by decide) ?_
  refine lv_icmp_lt (tgt := 16) hx hb dX3_isDigit_3 (by decide) (fun hc => ?_) (fun hc => ?_)
  · have hf := sp_ht hf hc
    refine lv_iconst (v := 0) hx hb dX3_isDigit_16 (by decide) ?_
    cases hf
    exact sp_zret S hr hlk hW rfl hQ dX3_isDigit_17
  · have hf := sp_hf hf hc
    refine lv_iload_n hx hb dX3_isDigit_6 rfl (lv_at hl 0 rfl) ?_
    refine lv_bipush (v := 57) hx hb dX3_isDigit_7 (by decide) ?_
    refine lv_icmp_gt (tgt := 16) hx hb dX3_isDigit_9 (by decide) (fun hc => ?_) (fun hc => ?_)
    · have hf := sp_ht hf hc
      refine lv_iconst (v := 0) hx hb dX3_isDigit_16 (by decide) ?_
      cases hf
      exact sp_zret S hr hlk hW rfl hQ dX3_isDigit_17
    · have hf := sp_hf hf hc
      refine lv_iconst (v := 1) hx hb dX3_isDigit_12 (by decide) ?_
      refine lv_goto (tgt := 17) hx hb dX3_isDigit_13 (by decide) ?_
      cases hf
      exact sp_zret S hr hlk hW rfl hQ dX3_isDigit_17

def f_X3_readLine (co : Nat → Int32) (cn : Int32) (pl : Int32) (ct1 : Int32) : Option (Int32 × Int32) := Option.bind (f_X3_codeAt pl co cn) (fun r1 => Option.bind (f_X3_isDigit r1) (fun r2 => if r2 = 0 then (some ((-9 : Int32), pl)) else (Option.bind (f_X3_codeAt pl co cn) (fun r3 => sp_bnd (r3 - (48 : Int32)) (fun v4 => Option.bind (f_X3_codeAt (pl + (1 : Int32)) co cn) (fun r5 => Option.bind (f_X3_isDigit r5) (fun r6 => sp_bnd (fun (x7 : Int32) (x8 : Int32) => if x7 < ct1 then (sp_bnd (pl + x8) (fun v10 => some (x7, v10))) else (some ((-9 : Int32), pl))) (fun k9 => if r6 = 0 then (k9 v4 (1 : Int32)) else (Option.bind (f_X3_codeAt (pl + (1 : Int32)) co cn) (fun r11 => sp_bnd ((((10 : Int32) * v4) + r11) - (48 : Int32)) (fun v12 => k9 v12 (2 : Int32))))))))))))
def rmX3_readLine : Room := { frames := 1, cells := 0, slots := 0, locals := 21 }
set_option maxRecDepth 4000 in
theorem c_X3_readLine {l : Launch} {D : va_G} {q5 : Nat → ClassId} (a : Nat → Nat) (b : Nat → Nat) (co : Nat → Int32) (cn : Int32) (pl : Int32) (cl1 : Nat → Int32) (le1 : Nat → Int32) (ri1 : Nat → Int32) (lt1 : Nat → Int32) (gr1 : Nat → Int32) (ct1 : Int32) (gc1 : Int32) {r' : Int32} {pl' : Int32} (hf : f_X3_readLine co cn pl ct1 = some (r', pl')) : sp_Ci l yX3_readLine wsX3_readLine rmX3_readLine D q5 0 [.ref (a 0)] (sw_R a (b 0) q5 co cn pl ++ (sw_P b q5 cl1 le1 ri1 lt1 gr1 ct1 gc1)) r' (sw_R a (b 0) q5 co cn pl' ++ (sw_P b q5 cl1 le1 ri1 lt1 gr1 ct1 gc1)) := by
  intro sz
  refine sp_of (cc := cX3_readLine) (maxL := 3) (ret := some .int) (own := RX3) (Qc := sp_Qi D r' (sw_R a (b 0) q5 co cn pl' ++ (sw_P b q5 cl1 le1 ri1 lt1 gr1 ct1 gc1))) (by decide) rfl rfl (Nat.le_of_ble_eq_true rfl) ?_
  intro p e s m args below meth c A ls Q hQ S hr hlk hK hG hA hW hl
  have hx := S.1
  have hb := S.2.1
  unfold f_X3_readLine at hf
  have inX2 : ∀ w ∈ u_ws RX2 TX2 7, w ∈ wsX3_readLine := (fun _ h => List.mem_cons_of_mem _ (List.mem_append_right _ h))
  have inX3 : ∀ w ∈ u_ws RX3 TX3 4, w ∈ wsX3_readLine := (fun _ h => List.mem_cons_of_mem _ (List.mem_append_left _ (List.mem_append_right _ h)))
  have lk1 := S.2.2.2.2 (Cond.fieldLink RX3 40 "ShortProofs$Reader" "place" "I") (List.mem_of_getElem? (i := 1) rfl)
  have lk2 := S.2.2.2.2 (Cond.fieldLink RX3 18 "ShortProofs$Reader" "proof" "LShortProofs$Proof;") (List.mem_of_getElem? (i := 2) rfl)
  have lk3 := S.2.2.2.2 (Cond.fieldLink RX3 96 "ShortProofs$Proof" "count" "I") (List.mem_of_getElem? (i := 3) rfl)
  refine lv_aload_n hx hb dX3_readLine_0 rfl (lv_at hl 0 rfl) ?_
  refine lv_aload_n hx hb dX3_readLine_1 rfl (lv_at hl 0 rfl) ?_
  refine sp_get S hK hW inX3 0 rfl rfl 3 (by decide) lk1 rfl dX3_readLine_2 ?_
  obtain ⟨r1, hc1, hf⟩ := sp_hc hf
  refine sp_callViP (rest := []) S hK hG hA hW (c_X3_codeAt a b co cn pl cl1 le1 ri1 lt1 gr1 ct1 gc1 pl hc1) (by decide) (cwV 1 S.2.2.2.2 gX3_readLine_X3_codeAt rfl rfl rfl (by decide +kernel) (by decide)) 2 0 rfl rfl (sp_pn _) rfl (WS' := sw_R a (b 0) q5 co cn pl ++ (sw_P b q5 cl1 le1 ri1 lt1 gr1 ct1 gc1)) (sp_pn' _) rfl hl.1 (Nat.le_of_ble_eq_true rfl) dX3_readLine_5 ⟨Nat.zero_le _, Nat.zero_le _⟩ rfl (fun H locs hW => ?_)
  obtain ⟨r2, hc2, hf⟩ := sp_hc hf
  refine sp_callSi (rest := []) S hK hG hA hW (c_X3_isDigit r1 hc2) (by decide) (va_cwS 1 S.2.2.2.2 gX3_readLine_X3_isDigit rfl rfl rfl (by decide +kernel) (by decide)) (isC := []) rfl rfl rfl (WS' := sw_R a (b 0) q5 co cn pl ++ (sw_P b q5 cl1 le1 ri1 lt1 gr1 ct1 gc1)) rfl rfl hl.1 (Nat.le_of_ble_eq_true rfl) dX3_readLine_8 ⟨Nat.zero_le _, Nat.zero_le _⟩ rfl (fun H locs hW => ?_)
  refine lv_if_ne (tgt := 17) hx hb dX3_readLine_11 (by decide) (fun hc => ?_) (fun hc => ?_)
  · have hf := sp_hf hf hc
    refine lv_aload_n hx hb dX3_readLine_17 rfl (lv_at hl 0 rfl) ?_
    refine lv_aload_n hx hb dX3_readLine_18 rfl (lv_at hl 0 rfl) ?_
    refine sp_get S hK hW inX3 0 rfl rfl 3 (by decide) lk1 rfl dX3_readLine_19 ?_
    obtain ⟨r3, hc3, hf⟩ := sp_hc hf
    refine sp_callViP (rest := []) S hK hG hA hW (c_X3_codeAt a b co cn pl cl1 le1 ri1 lt1 gr1 ct1 gc1 pl hc3) (by decide) (cwV 1 S.2.2.2.2 gX3_readLine_X3_codeAt rfl rfl rfl (by decide +kernel) (by decide)) 2 0 rfl rfl (sp_pn _) rfl (WS' := sw_R a (b 0) q5 co cn pl ++ (sw_P b q5 cl1 le1 ri1 lt1 gr1 ct1 gc1)) (sp_pn' _) rfl hl.1 (Nat.le_of_ble_eq_true rfl) dX3_readLine_22 ⟨Nat.zero_le _, Nat.zero_le _⟩ rfl (fun H locs hW => ?_)
    refine lv_bipush (v := 48) hx hb dX3_readLine_25 (by decide) ?_
    refine lv_isub hx hb dX3_readLine_27 ?_
    obtain ⟨v4, ev4, hf⟩ := sp_hb hf
    refine sp_topi ev4 ?_
    refine lv_istore_n (lv' := [(1, .int v4), (0, .ref (a 0))]) hx hb dX3_readLine_28 rfl hl (by decide) rfl (fun ls hl => ?_)
    refine lv_iconst (v := 1) hx hb dX3_readLine_29 (by decide) ?_
    refine lv_istore_n (lv' := [(2, .int (1 : Int32)), (1, .int v4), (0, .ref (a 0))]) hx hb dX3_readLine_30 rfl hl (by decide) rfl (fun ls hl => ?_)
    refine lv_aload_n hx hb dX3_readLine_31 rfl (lv_at hl 2 rfl) ?_
    refine lv_aload_n hx hb dX3_readLine_32 rfl (lv_at hl 2 rfl) ?_
    refine sp_get S hK hW inX3 0 rfl rfl 3 (by decide) lk1 rfl dX3_readLine_33 ?_
    refine lv_iconst (v := 1) hx hb dX3_readLine_36 (by decide) ?_
    refine lv_iadd hx hb dX3_readLine_37 ?_
    obtain ⟨r5, hc5, hf⟩ := sp_hc hf
    refine sp_callViP (rest := []) S hK hG hA hW (c_X3_codeAt a b co cn pl cl1 le1 ri1 lt1 gr1 ct1 gc1 (pl + (1 : Int32)) hc5) (by decide) (cwV 1 S.2.2.2.2 gX3_readLine_X3_codeAt rfl rfl rfl (by decide +kernel) (by decide)) 2 0 rfl rfl (sp_pn _) rfl (WS' := sw_R a (b 0) q5 co cn pl ++ (sw_P b q5 cl1 le1 ri1 lt1 gr1 ct1 gc1)) (sp_pn' _) rfl hl.1 (Nat.le_of_ble_eq_true rfl) dX3_readLine_38 ⟨Nat.zero_le _, Nat.zero_le _⟩ rfl (fun H locs hW => ?_)
    obtain ⟨r6, hc6, hf⟩ := sp_hc hf
    refine sp_callSi (rest := []) S hK hG hA hW (c_X3_isDigit r5 hc6) (by decide) (va_cwS 1 S.2.2.2.2 gX3_readLine_X3_isDigit rfl rfl rfl (by decide +kernel) (by decide)) (isC := []) rfl rfl rfl (WS' := sw_R a (b 0) q5 co cn pl ++ (sw_P b q5 cl1 le1 ri1 lt1 gr1 ct1 gc1)) rfl rfl hl.1 (Nat.le_of_ble_eq_true rfl) dX3_readLine_41 ⟨Nat.zero_le _, Nat.zero_le _⟩ rfl (fun H locs hW => ?_)
    obtain ⟨k9, ek9, hf⟩ := sp_hb hf
    have hj9 : ∀ (x7 : Int32) (x8 : Int32) (H : Heap) (locs : List Loc) (ls : Array Slot), k9 x7 x8 = some (r', pl') → sp_wd D A s.heap (sw_R a (b 0) q5 co cn pl ++ (sw_P b q5 cl1 le1 ri1 lt1 gr1 ct1 gc1)) H locs → lv_has ls 3 [(0, .ref (a 0)), (1, .int x7), (2, .int x8)] → W p l e rmX3_readLine s m args below meth c H locs 0 0 Q (F0 m 68 ls []) := by
      intro x7 x8 H locs ls hf hW hl
      rw [ek9] at hf
      refine lv_iload_n hx hb dX3_readLine_68 rfl (lv_at hl 1 rfl) ?_
      refine lv_aload_n hx hb dX3_readLine_69 rfl (lv_at hl 0 rfl) ?_
      refine sp_get S hK hW inX3 0 rfl rfl 1 (by decide) lk2 rfl dX3_readLine_70 ?_
      refine sp_get S hK hW inX2 2 rfl rfl 5 (by decide) lk3 rfl dX3_readLine_73 ?_
      refine lv_icmp_lt (tgt := 82) hx hb dX3_readLine_76 (by decide) (fun hc => ?_) (fun hc => ?_)
      · have hf := sp_ht hf hc
        refine lv_aload_n hx hb dX3_readLine_82 rfl (lv_at hl 0 rfl) ?_
        refine lv_dup hx hb dX3_readLine_83 rfl ?_
        refine sp_get S hK hW inX3 0 rfl rfl 3 (by decide) lk1 rfl dX3_readLine_84 ?_
        refine lv_iload_n hx hb dX3_readLine_87 rfl (lv_at hl 2 rfl) ?_
        refine lv_iadd hx hb dX3_readLine_88 ?_
        obtain ⟨v10, ev10, hf⟩ := sp_hb hf
        refine sp_topi ev10 ?_
        refine sp_put S hK hW inX3 tyX3_ok nmX3 0 rfl rfl 3 (by decide) lk1 rfl rfl rfl (Nat.le_of_ble_eq_true rfl) (ws' := sw_R a (b 0) q5 co cn v10 ++ (sw_P b q5 cl1 le1 ri1 lt1 gr1 ct1 gc1)) rfl dX3_readLine_89 (fun H locs hW => ?_)
        refine lv_iload_n hx hb dX3_readLine_92 rfl (lv_at hl 1 rfl) ?_
        cases hf
        exact sp_iret S hr hlk hW hQ dX3_readLine_93
      · have hf := sp_hf hf hc
        refine lv_bipush (v := (-9)) hx hb dX3_readLine_79 (by decide) ?_
        cases hf
        exact sp_iret S hr hlk hW hQ dX3_readLine_81
    refine lv_if_eq (tgt := 68) hx hb dX3_readLine_44 (by decide) (fun hc => ?_) (fun hc => ?_)
    · have hf := sp_ht hf hc
      exact hj9 _ _ _ _ _ hf hW (lv_sub hl [2, 1, 0] rfl)
    · have hf := sp_hf hf hc
      refine lv_bipush (v := 10) hx hb dX3_readLine_47 (by decide) ?_
      refine lv_iload_n hx hb dX3_readLine_49 rfl (lv_at hl 1 rfl) ?_
      refine lv_imul hx hb dX3_readLine_50 ?_
      refine lv_aload_n hx hb dX3_readLine_51 rfl (lv_at hl 2 rfl) ?_
      refine lv_aload_n hx hb dX3_readLine_52 rfl (lv_at hl 2 rfl) ?_
      refine sp_get S hK hW inX3 0 rfl rfl 3 (by decide) lk1 rfl dX3_readLine_53 ?_
      refine lv_iconst (v := 1) hx hb dX3_readLine_56 (by decide) ?_
      refine lv_iadd hx hb dX3_readLine_57 ?_
      obtain ⟨r11, hc11, hf⟩ := sp_hc hf
      refine sp_callViP (rest := [.int ((10 : Int32) * v4)]) S hK hG hA hW (c_X3_codeAt a b co cn pl cl1 le1 ri1 lt1 gr1 ct1 gc1 (pl + (1 : Int32)) hc11) (by decide) (cwV 1 S.2.2.2.2 gX3_readLine_X3_codeAt rfl rfl rfl (by decide +kernel) (by decide)) 2 0 rfl rfl (sp_pn _) rfl (WS' := sw_R a (b 0) q5 co cn pl ++ (sw_P b q5 cl1 le1 ri1 lt1 gr1 ct1 gc1)) (sp_pn' _) rfl hl.1 (Nat.le_of_ble_eq_true rfl) dX3_readLine_58 ⟨Nat.zero_le _, Nat.zero_le _⟩ rfl (fun H locs hW => ?_)
      refine lv_iadd hx hb dX3_readLine_61 ?_
      refine lv_bipush (v := 48) hx hb dX3_readLine_62 (by decide) ?_
      refine lv_isub hx hb dX3_readLine_64 ?_
      obtain ⟨v12, ev12, hf⟩ := sp_hb hf
      refine sp_topi ev12 ?_
      refine lv_istore_n (lv' := [(1, .int v12), (2, .int (1 : Int32)), (0, .ref (a 0))]) hx hb dX3_readLine_65 rfl hl (by decide) rfl (fun ls hl => ?_)
      refine lv_iconst (v := 2) hx hb dX3_readLine_66 (by decide) ?_
      refine lv_istore_n (lv' := [(2, .int (2 : Int32)), (1, .int v12), (0, .ref (a 0))]) hx hb dX3_readLine_67 rfl hl (by decide) rfl (fun ls hl => ?_)
      exact hj9 _ _ _ _ _ hf hW (lv_sub hl [2, 1, 0] rfl)
  · have hf := sp_ht hf hc
    refine lv_bipush (v := (-9)) hx hb dX3_readLine_14 (by decide) ?_
    cases hf
    exact sp_iret S hr hlk hW hQ dX3_readLine_16

def f_X3_readsCut (co : Nat → Int32) (cn : Int32) (pl : Int32) (cl1 : Nat → Int32) (le1 : Nat → Int32) (ri1 : Nat → Int32) (lt1 : Nat → Int32) (gr1 : Nat → Int32) (ct1 : Int32) (gc1 : Int32) : Option (Int32 × Int32 × (Nat → Int32) × (Nat → Int32) × (Nat → Int32) × (Nat → Int32) × (Nat → Int32) × Int32 × Int32) := Option.bind (f_X3_readLine co cn pl ct1) (fun q9 => match q9 with | (r1, c2) => if r1 = (-9 : Int32) then (some ((0 : Int32), c2, cl1, le1, ri1, lt1, gr1, ct1, gc1)) else (Option.bind (f_X3_reads (44 : Int32) co cn c2) (fun q9 => match q9 with | (r3, c4) => if r3 = 0 then (some ((0 : Int32), c4, cl1, le1, ri1, lt1, gr1, ct1, gc1)) else (Option.bind (f_X3_readLine co cn c4 ct1) (fun q9 => match q9 with | (r5, c6) => if r5 = (-9 : Int32) then (some ((0 : Int32), c6, cl1, le1, ri1, lt1, gr1, ct1, gc1)) else (Option.bind (f_X3_codeAt c6 co cn) (fun r7 => if r7 < (97 : Int32) then (some ((0 : Int32), c6, cl1, le1, ri1, lt1, gr1, ct1, gc1)) else (if r7 < (103 : Int32) then (sp_bnd (r7 - (97 : Int32)) (fun v8 => sp_ld cl1 48 r1 (fun v9 => sp_ld cl1 48 r5 (fun v10 => Option.bind (f_X0_cutOf v9 v10 v8) (fun r11 => if r11 = (-9 : Int32) then (some ((0 : Int32), c6, cl1, le1, ri1, lt1, gr1, ct1, gc1)) else (Option.bind (f_X2_add r11 r1 r5 v8 cl1 le1 ri1 lt1 gr1 ct1 gc1) (fun q9 => match q9 with | (r12, c13, c14, c15, c16, c17, c18, c19) => sp_bnd (c6 + (1 : Int32)) (fun v20 => some ((1 : Int32), v20, c13, c14, c15, c16, c17, c18, c19))))))))) else (some ((0 : Int32), c6, cl1, le1, ri1, lt1, gr1, ct1, gc1))))))))))
def rmX3_readsCut : Room := { frames := 2, cells := 0, slots := 0, locals := 46 }
set_option maxRecDepth 4000 in
theorem c_X3_readsCut {l : Launch} {D : va_G} {q5 : Nat → ClassId} (a : Nat → Nat) (b : Nat → Nat) (co : Nat → Int32) (cn : Int32) (pl : Int32) (cl1 : Nat → Int32) (le1 : Nat → Int32) (ri1 : Nat → Int32) (lt1 : Nat → Int32) (gr1 : Nat → Int32) (ct1 : Int32) (gc1 : Int32) {r' : Int32} {pl' : Int32} {cl1' : Nat → Int32} {le1' : Nat → Int32} {ri1' : Nat → Int32} {lt1' : Nat → Int32} {gr1' : Nat → Int32} {ct1' : Int32} {gc1' : Int32} (hf : f_X3_readsCut co cn pl cl1 le1 ri1 lt1 gr1 ct1 gc1 = some (r', pl', cl1', le1', ri1', lt1', gr1', ct1', gc1')) : sp_Ci l yX3_readsCut wsX3_readsCut rmX3_readsCut D q5 0 [.ref (a 0)] (sw_R a (b 0) q5 co cn pl ++ (sw_P b q5 cl1 le1 ri1 lt1 gr1 ct1 gc1)) r' (sw_R a (b 0) q5 co cn pl' ++ (sw_P b q5 cl1' le1' ri1' lt1' gr1' ct1' gc1')) := by
  intro sz
  refine sp_of (cc := cX3_readsCut) (maxL := 6) (ret := some .boolean) (own := RX3) (Qc := sp_Qi D r' (sw_R a (b 0) q5 co cn pl' ++ (sw_P b q5 cl1' le1' ri1' lt1' gr1' ct1' gc1'))) (by decide) rfl rfl (Nat.le_of_ble_eq_true rfl) ?_
  intro p e s m args below meth c A ls Q hQ S hr hlk hK hG hA hW hl
  have hx := S.1
  have hb := S.2.1
  unfold f_X3_readsCut at hf
  have inX2 : ∀ w ∈ u_ws RX2 TX2 7, w ∈ wsX3_readsCut := (fun _ h => List.mem_cons_of_mem _ (List.mem_append_right _ h))
  have inX3 : ∀ w ∈ u_ws RX3 TX3 4, w ∈ wsX3_readsCut := (fun _ h => List.mem_cons_of_mem _ (List.mem_append_left _ (List.mem_append_right _ h)))
  have lk1 := S.2.2.2.2 (Cond.fieldLink RX3 40 "ShortProofs$Reader" "place" "I") (List.mem_of_getElem? (i := 1) rfl)
  have lk2 := S.2.2.2.2 (Cond.fieldLink RX3 18 "ShortProofs$Reader" "proof" "LShortProofs$Proof;") (List.mem_of_getElem? (i := 2) rfl)
  have lk3 := S.2.2.2.2 (Cond.fieldLink RX3 82 "ShortProofs$Proof" "clauses" "[I") (List.mem_of_getElem? (i := 3) rfl)
  refine lv_aload_n hx hb dX3_readsCut_0 rfl (lv_at hl 0 rfl) ?_
  obtain ⟨⟨r1, c2⟩, hc2, hf⟩ := sp_hc hf
  refine sp_callViP (rest := []) S hK hG hA hW (c_X3_readLine a b co cn pl cl1 le1 ri1 lt1 gr1 ct1 gc1 hc2) (by decide) (cwV 0 S.2.2.2.2 gX3_readsCut_X3_readLine rfl rfl rfl (by decide +kernel) (by decide)) 2 0 rfl rfl (sp_pn _) rfl (WS' := sw_R a (b 0) q5 co cn c2 ++ (sw_P b q5 cl1 le1 ri1 lt1 gr1 ct1 gc1)) (sp_pn' _) rfl hl.1 (Nat.le_of_ble_eq_true rfl) dX3_readsCut_1 ⟨Nat.zero_le _, Nat.zero_le _⟩ rfl (fun H locs hW => ?_)
  refine lv_istore_n (lv' := [(1, .int r1), (0, .ref (a 0))]) hx hb dX3_readsCut_4 rfl hl (by decide) rfl (fun ls hl => ?_)
  refine lv_iload_n hx hb dX3_readsCut_5 rfl (lv_at hl 0 rfl) ?_
  refine lv_bipush (v := (-9)) hx hb dX3_readsCut_6 (by decide) ?_
  refine lv_icmp_eq (tgt := 20) hx hb dX3_readsCut_8 (by decide) (fun hc => ?_) (fun hc => ?_)
  · have hf := sp_ht hf hc
    refine lv_iconst (v := 0) hx hb dX3_readsCut_20 (by decide) ?_
    cases hf
    exact sp_zret S hr hlk hW rfl hQ dX3_readsCut_21
  · have hf := sp_hf hf hc
    refine lv_aload_n hx hb dX3_readsCut_11 rfl (lv_at hl 1 rfl) ?_
    refine lv_bipush (v := 44) hx hb dX3_readsCut_12 (by decide) ?_
    obtain ⟨⟨r3, c4⟩, hc4, hf⟩ := sp_hc hf
    refine sp_callViP (rest := []) S hK hG hA hW (c_X3_reads a b co cn c2 cl1 le1 ri1 lt1 gr1 ct1 gc1 (44 : Int32) hc4) (by decide) (cwV 1 S.2.2.2.2 gX3_readsCut_X3_reads rfl rfl rfl (by decide +kernel) (by decide)) 2 0 rfl rfl (sp_pn _) rfl (WS' := sw_R a (b 0) q5 co cn c4 ++ (sw_P b q5 cl1 le1 ri1 lt1 gr1 ct1 gc1)) (sp_pn' _) rfl hl.1 (Nat.le_of_ble_eq_true rfl) dX3_readsCut_14 ⟨Nat.zero_le _, Nat.zero_le _⟩ rfl (fun H locs hW => ?_)
    refine lv_if_ne (tgt := 22) hx hb dX3_readsCut_17 (by decide) (fun hc => ?_) (fun hc => ?_)
    · have hf := sp_hf hf hc
      refine lv_aload_n hx hb dX3_readsCut_22 rfl (lv_at hl 1 rfl) ?_
      obtain ⟨⟨r5, c6⟩, hc6, hf⟩ := sp_hc hf
      refine sp_callViP (rest := []) S hK hG hA hW (c_X3_readLine a b co cn c4 cl1 le1 ri1 lt1 gr1 ct1 gc1 hc6) (by decide) (cwV 0 S.2.2.2.2 gX3_readsCut_X3_readLine rfl rfl rfl (by decide +kernel) (by decide)) 2 0 rfl rfl (sp_pn _) rfl (WS' := sw_R a (b 0) q5 co cn c6 ++ (sw_P b q5 cl1 le1 ri1 lt1 gr1 ct1 gc1)) (sp_pn' _) rfl hl.1 (Nat.le_of_ble_eq_true rfl) dX3_readsCut_23 ⟨Nat.zero_le _, Nat.zero_le _⟩ rfl (fun H locs hW => ?_)
      refine lv_istore_n (lv' := [(2, .int r5), (1, .int r1), (0, .ref (a 0))]) hx hb dX3_readsCut_26 rfl hl (by decide) rfl (fun ls hl => ?_)
      refine lv_iload_n hx hb dX3_readsCut_27 rfl (lv_at hl 0 rfl) ?_
      refine lv_bipush (v := (-9)) hx hb dX3_readsCut_28 (by decide) ?_
      refine lv_icmp_ne (tgt := 35) hx hb dX3_readsCut_30 (by decide) (fun hc => ?_) (fun hc => ?_)
      · have hf := sp_hf hf hc
        refine lv_aload_n hx hb dX3_readsCut_35 rfl (lv_at hl 2 rfl) ?_
        refine lv_aload_n hx hb dX3_readsCut_36 rfl (lv_at hl 2 rfl) ?_
        refine sp_get S hK hW inX3 0 rfl rfl 3 (by decide) lk1 rfl dX3_readsCut_37 ?_
        obtain ⟨r7, hc7, hf⟩ := sp_hc hf
        refine sp_callViP (rest := []) S hK hG hA hW (c_X3_codeAt a b co cn c6 cl1 le1 ri1 lt1 gr1 ct1 gc1 c6 hc7) (by decide) (cwV 1 S.2.2.2.2 gX3_readsCut_X3_codeAt rfl rfl rfl (by decide +kernel) (by decide)) 2 0 rfl rfl (sp_pn _) rfl (WS' := sw_R a (b 0) q5 co cn c6 ++ (sw_P b q5 cl1 le1 ri1 lt1 gr1 ct1 gc1)) (sp_pn' _) rfl hl.1 (Nat.le_of_ble_eq_true rfl) dX3_readsCut_40 ⟨Nat.zero_le _, Nat.zero_le _⟩ rfl (fun H locs hW => ?_)
        refine lv_istore_n (lv' := [(3, .int r7), (2, .int r5), (1, .int r1), (0, .ref (a 0))]) hx hb dX3_readsCut_43 rfl hl (by decide) rfl (fun ls hl => ?_)
        refine lv_iload_n hx hb dX3_readsCut_44 rfl (lv_at hl 0 rfl) ?_
        refine lv_bipush (v := 97) hx hb dX3_readsCut_45 (by decide) ?_
        refine lv_icmp_lt (tgt := 56) hx hb dX3_readsCut_47 (by decide) (fun hc => ?_) (fun hc => ?_)
        · have hf := sp_ht hf hc
          refine lv_iconst (v := 0) hx hb dX3_readsCut_56 (by decide) ?_
          cases hf
          exact sp_zret S hr hlk hW rfl hQ dX3_readsCut_57
        · have hf := sp_hf hf hc
          refine lv_iload_n hx hb dX3_readsCut_50 rfl (lv_at hl 0 rfl) ?_
          refine lv_bipush (v := 103) hx hb dX3_readsCut_51 (by decide) ?_
          refine lv_icmp_lt (tgt := 58) hx hb dX3_readsCut_53 (by decide) (fun hc => ?_) (fun hc => ?_)
          · have hf := sp_ht hf hc
            refine lv_iload_n hx hb dX3_readsCut_58 rfl (lv_at hl 0 rfl) ?_
            refine lv_bipush (v := 97) hx hb dX3_readsCut_59 (by decide) ?_
            refine lv_isub hx hb dX3_readsCut_61 ?_
            obtain ⟨v8, ev8, hf⟩ := sp_hb hf
            refine sp_topi ev8 ?_
            refine lv_istore (lv' := [(4, .int v8), (3, .int r7), (2, .int r5), (1, .int r1), (0, .ref (a 0))]) hx hb dX3_readsCut_62 hl (by decide) rfl (fun ls hl => ?_)
            refine lv_aload_n hx hb dX3_readsCut_64 rfl (lv_at hl 4 rfl) ?_
            refine sp_get S hK hW inX3 0 rfl rfl 1 (by decide) lk2 rfl dX3_readsCut_65 ?_
            refine sp_get S hK hW inX2 2 rfl rfl 0 (by decide) lk3 rfl dX3_readsCut_68 ?_
            refine lv_iload_n hx hb dX3_readsCut_71 rfl (lv_at hl 3 rfl) ?_
            obtain ⟨hin, v9, ev9, hf⟩ := sp_hld hf
            refine sp_iald S hK hW 3 rfl hin ev9 dX3_readsCut_72 ?_
            refine lv_aload_n hx hb dX3_readsCut_73 rfl (lv_at hl 4 rfl) ?_
            refine sp_get S hK hW inX3 0 rfl rfl 1 (by decide) lk2 rfl dX3_readsCut_74 ?_
            refine sp_get S hK hW inX2 2 rfl rfl 0 (by decide) lk3 rfl dX3_readsCut_77 ?_
            refine lv_iload_n hx hb dX3_readsCut_80 rfl (lv_at hl 2 rfl) ?_
            obtain ⟨hin, v10, ev10, hf⟩ := sp_hld hf
            refine sp_iald S hK hW 3 rfl hin ev10 dX3_readsCut_81 ?_
            refine lv_iload hx hb dX3_readsCut_82 (lv_at hl 0 rfl) ?_
            obtain ⟨r11, hc11, hf⟩ := sp_hc hf
            refine sp_callSi (rest := []) S hK hG hA hW (c_X0_cutOf v9 v10 v8 hc11) (by decide) (va_cwS 3 S.2.2.2.2 gX3_readsCut_X0_cutOf rfl rfl rfl (by decide +kernel) (by decide)) (isC := []) rfl rfl rfl (WS' := sw_R a (b 0) q5 co cn c6 ++ (sw_P b q5 cl1 le1 ri1 lt1 gr1 ct1 gc1)) rfl rfl hl.1 (Nat.le_of_ble_eq_true rfl) dX3_readsCut_84 ⟨Nat.zero_le _, Nat.zero_le _⟩ rfl (fun H locs hW => ?_)
            refine lv_istore (lv' := [(5, .int r11), (4, .int v8), (3, .int r7), (2, .int r5), (1, .int r1), (0, .ref (a 0))]) hx hb dX3_readsCut_87 hl (by decide) rfl (fun ls hl => ?_)
            refine lv_iload hx hb dX3_readsCut_89 (lv_at hl 0 rfl) ?_
            refine lv_bipush (v := (-9)) hx hb dX3_readsCut_91 (by decide) ?_
            refine lv_icmp_ne (tgt := 98) hx hb dX3_readsCut_93 (by decide) (fun hc => ?_) (fun hc => ?_)
            · have hf := sp_hf hf hc
              refine lv_aload_n hx hb dX3_readsCut_98 rfl (lv_at hl 5 rfl) ?_
              refine sp_get S hK hW inX3 0 rfl rfl 1 (by decide) lk2 rfl dX3_readsCut_99 ?_
              refine lv_iload hx hb dX3_readsCut_102 (lv_at hl 0 rfl) ?_
              refine lv_iload_n hx hb dX3_readsCut_104 rfl (lv_at hl 4 rfl) ?_
              refine lv_iload_n hx hb dX3_readsCut_105 rfl (lv_at hl 3 rfl) ?_
              refine lv_iload hx hb dX3_readsCut_106 (lv_at hl 1 rfl) ?_
              obtain ⟨⟨r12, c13, c14, c15, c16, c17, c18, c19⟩, hc19, hf⟩ := sp_hc hf
              refine sp_callViP (rest := []) S hK hG hA hW (c_X2_add b cl1 le1 ri1 lt1 gr1 ct1 gc1 r11 r1 r5 v8 hc19) (by decide) (cwV 4 S.2.2.2.2 gX3_readsCut_X2_add rfl rfl rfl (by decide +kernel) (by decide)) 1 2 rfl rfl (sp_pq [sw_R a (b 0) q5 co cn c6, sw_P b q5 cl1 le1 ri1 lt1 gr1 ct1 gc1] [0, 1] [1] [0] (by decide)) rfl (WS' := sw_R a (b 0) q5 co cn c6 ++ (sw_P b q5 c13 c14 c15 c16 c17 c18 c19)) (sp_pq' [sw_R a (b 0) q5 co cn c6, sw_P b q5 c13 c14 c15 c16 c17 c18 c19] [0, 1] [1] [0] (by decide)) rfl hl.1 (Nat.le_of_ble_eq_true rfl) dX3_readsCut_108 ⟨Nat.zero_le _, Nat.zero_le _⟩ rfl (fun H locs hW => ?_)
              refine lv_pop hx hb dX3_readsCut_111 rfl ?_
              refine lv_aload_n hx hb dX3_readsCut_112 rfl (lv_at hl 5 rfl) ?_
              refine lv_dup hx hb dX3_readsCut_113 rfl ?_
              refine sp_get S hK hW inX3 0 rfl rfl 3 (by decide) lk1 rfl dX3_readsCut_114 ?_
              refine lv_iconst (v := 1) hx hb dX3_readsCut_117 (by decide) ?_
              refine lv_iadd hx hb dX3_readsCut_118 ?_
              obtain ⟨v20, ev20, hf⟩ := sp_hb hf
              refine sp_topi ev20 ?_
              refine sp_put S hK hW inX3 tyX3_ok nmX3 0 rfl rfl 3 (by decide) lk1 rfl rfl rfl (Nat.le_of_ble_eq_true rfl) (ws' := sw_R a (b 0) q5 co cn v20 ++ (sw_P b q5 c13 c14 c15 c16 c17 c18 c19)) rfl dX3_readsCut_119 (fun H locs hW => ?_)
              refine lv_iconst (v := 1) hx hb dX3_readsCut_122 (by decide) ?_
              cases hf
              exact sp_zret S hr hlk hW rfl hQ dX3_readsCut_123
            · have hf := sp_ht hf hc
              refine lv_iconst (v := 0) hx hb dX3_readsCut_96 (by decide) ?_
              cases hf
              exact sp_zret S hr hlk hW rfl hQ dX3_readsCut_97
          · have hf := sp_hf hf hc
            refine lv_iconst (v := 0) hx hb dX3_readsCut_56 (by decide) ?_
            cases hf
            exact sp_zret S hr hlk hW rfl hQ dX3_readsCut_57
      · have hf := sp_ht hf hc
        refine lv_iconst (v := 0) hx hb dX3_readsCut_33 (by decide) ?_
        cases hf
        exact sp_zret S hr hlk hW rfl hQ dX3_readsCut_34
    · have hf := sp_ht hf hc
      refine lv_iconst (v := 0) hx hb dX3_readsCut_20 (by decide) ?_
      cases hf
      exact sp_zret S hr hlk hW rfl hQ dX3_readsCut_21

def f_X3_readsItem (co : Nat → Int32) (cn : Int32) (pl : Int32) (cl1 : Nat → Int32) (le1 : Nat → Int32) (ri1 : Nat → Int32) (lt1 : Nat → Int32) (gr1 : Nat → Int32) (ct1 : Int32) (gc1 : Int32) : Option (Int32 × Int32 × (Nat → Int32) × (Nat → Int32) × (Nat → Int32) × (Nat → Int32) × (Nat → Int32) × Int32 × Int32) := Option.bind (f_X3_reads (103 : Int32) co cn pl) (fun q9 => match q9 with | (r1, c2) => if r1 = 0 then (Option.bind (f_X3_reads (99 : Int32) co cn c2) (fun q9 => match q9 with | (r3, c4) => if r3 = 0 then (some ((0 : Int32), c4, cl1, le1, ri1, lt1, gr1, ct1, gc1)) else (Option.bind (f_X3_readsCut co cn c4 cl1 le1 ri1 lt1 gr1 ct1 gc1) (fun q9 => match q9 with | (r5, c6, c7, c8, c9, c10, c11, c12, c13) => if r5 = 0 then (some ((0 : Int32), c6, c7, c8, c9, c10, c11, c12, c13)) else (some ((1 : Int32), c6, c7, c8, c9, c10, c11, c12, c13)))))) else (Option.bind (f_X3_readSigns co cn c2) (fun q9 => match q9 with | (r14, c15) => Option.bind (f_X2_addGround r14 cl1 le1 ri1 lt1 gr1 ct1 gc1) (fun q9 => match q9 with | (r16, c17, c18, c19, c20, c21, c22, c23) => some ((1 : Int32), c15, c17, c18, c19, c20, c21, c22, c23)))))
def rmX3_readsItem : Room := { frames := 3, cells := 0, slots := 0, locals := 71 }
set_option maxRecDepth 4000 in
theorem c_X3_readsItem {l : Launch} {D : va_G} {q5 : Nat → ClassId} (a : Nat → Nat) (b : Nat → Nat) (co : Nat → Int32) (cn : Int32) (pl : Int32) (cl1 : Nat → Int32) (le1 : Nat → Int32) (ri1 : Nat → Int32) (lt1 : Nat → Int32) (gr1 : Nat → Int32) (ct1 : Int32) (gc1 : Int32) {r' : Int32} {pl' : Int32} {cl1' : Nat → Int32} {le1' : Nat → Int32} {ri1' : Nat → Int32} {lt1' : Nat → Int32} {gr1' : Nat → Int32} {ct1' : Int32} {gc1' : Int32} (hf : f_X3_readsItem co cn pl cl1 le1 ri1 lt1 gr1 ct1 gc1 = some (r', pl', cl1', le1', ri1', lt1', gr1', ct1', gc1')) : sp_Ci l yX3_readsItem wsX3_readsItem rmX3_readsItem D q5 0 [.ref (a 0)] (sw_R a (b 0) q5 co cn pl ++ (sw_P b q5 cl1 le1 ri1 lt1 gr1 ct1 gc1)) r' (sw_R a (b 0) q5 co cn pl' ++ (sw_P b q5 cl1' le1' ri1' lt1' gr1' ct1' gc1')) := by
  intro sz
  refine sp_of (cc := cX3_readsItem) (maxL := 1) (ret := some .boolean) (own := RX3) (Qc := sp_Qi D r' (sw_R a (b 0) q5 co cn pl' ++ (sw_P b q5 cl1' le1' ri1' lt1' gr1' ct1' gc1'))) (by decide) rfl rfl (Nat.le_of_ble_eq_true rfl) ?_
  intro p e s m args below meth c A ls Q hQ S hr hlk hK hG hA hW hl
  have hx := S.1
  have hb := S.2.1
  unfold f_X3_readsItem at hf
  have inX3 : ∀ w ∈ u_ws RX3 TX3 4, w ∈ wsX3_readsItem := (fun _ h => List.mem_cons_of_mem _ (List.mem_append_left _ (List.mem_append_right _ h)))
  have lk1 := S.2.2.2.2 (Cond.fieldLink RX3 18 "ShortProofs$Reader" "proof" "LShortProofs$Proof;") (List.mem_of_getElem? (i := 1) rfl)
  refine lv_aload_n hx hb dX3_readsItem_0 rfl (lv_at hl 0 rfl) ?_
  refine lv_bipush (v := 103) hx hb dX3_readsItem_1 (by decide) ?_
  obtain ⟨⟨r1, c2⟩, hc2, hf⟩ := sp_hc hf
  refine sp_callViP (rest := []) S hK hG hA hW (c_X3_reads a b co cn pl cl1 le1 ri1 lt1 gr1 ct1 gc1 (103 : Int32) hc2) (by decide) (cwV 1 S.2.2.2.2 gX3_readsItem_X3_reads rfl rfl rfl (by decide +kernel) (by decide)) 2 0 rfl rfl (sp_pn _) rfl (WS' := sw_R a (b 0) q5 co cn c2 ++ (sw_P b q5 cl1 le1 ri1 lt1 gr1 ct1 gc1)) (sp_pn' _) rfl hl.1 (Nat.le_of_ble_eq_true rfl) dX3_readsItem_3 ⟨Nat.zero_le _, Nat.zero_le _⟩ rfl (fun H locs hW => ?_)
  refine lv_if_eq (tgt := 23) hx hb dX3_readsItem_6 (by decide) (fun hc => ?_) (fun hc => ?_)
  · have hf := sp_ht hf hc
    refine lv_aload_n hx hb dX3_readsItem_23 rfl (lv_at hl 0 rfl) ?_
    refine lv_bipush (v := 99) hx hb dX3_readsItem_24 (by decide) ?_
    obtain ⟨⟨r3, c4⟩, hc4, hf⟩ := sp_hc hf
    refine sp_callViP (rest := []) S hK hG hA hW (c_X3_reads a b co cn c2 cl1 le1 ri1 lt1 gr1 ct1 gc1 (99 : Int32) hc4) (by decide) (cwV 1 S.2.2.2.2 gX3_readsItem_X3_reads rfl rfl rfl (by decide +kernel) (by decide)) 2 0 rfl rfl (sp_pn _) rfl (WS' := sw_R a (b 0) q5 co cn c4 ++ (sw_P b q5 cl1 le1 ri1 lt1 gr1 ct1 gc1)) (sp_pn' _) rfl hl.1 (Nat.le_of_ble_eq_true rfl) dX3_readsItem_26 ⟨Nat.zero_le _, Nat.zero_le _⟩ rfl (fun H locs hW => ?_)
    refine lv_if_eq (tgt := 43) hx hb dX3_readsItem_29 (by decide) (fun hc => ?_) (fun hc => ?_)
    · have hf := sp_ht hf hc
      refine lv_iconst (v := 0) hx hb dX3_readsItem_43 (by decide) ?_
      cases hf
      exact sp_zret S hr hlk hW rfl hQ dX3_readsItem_44
    · have hf := sp_hf hf hc
      refine lv_aload_n hx hb dX3_readsItem_32 rfl (lv_at hl 0 rfl) ?_
      obtain ⟨⟨r5, c6, c7, c8, c9, c10, c11, c12, c13⟩, hc13, hf⟩ := sp_hc hf
      refine sp_callViP (rest := []) S hK hG hA hW (c_X3_readsCut a b co cn c4 cl1 le1 ri1 lt1 gr1 ct1 gc1 hc13) (by decide) (cwV 0 S.2.2.2.2 gX3_readsItem_X3_readsCut rfl rfl rfl (by decide +kernel) (by decide)) 2 0 rfl rfl (sp_pn _) rfl (WS' := sw_R a (b 0) q5 co cn c6 ++ (sw_P b q5 c7 c8 c9 c10 c11 c12 c13)) (sp_pn' _) rfl hl.1 (Nat.le_of_ble_eq_true rfl) dX3_readsItem_33 ⟨Nat.zero_le _, Nat.zero_le _⟩ rfl (fun H locs hW => ?_)
      refine lv_if_eq (tgt := 43) hx hb dX3_readsItem_36 (by decide) (fun hc => ?_) (fun hc => ?_)
      · have hf := sp_ht hf hc
        refine lv_iconst (v := 0) hx hb dX3_readsItem_43 (by decide) ?_
        cases hf
        exact sp_zret S hr hlk hW rfl hQ dX3_readsItem_44
      · have hf := sp_hf hf hc
        refine lv_iconst (v := 1) hx hb dX3_readsItem_39 (by decide) ?_
        refine lv_goto (tgt := 44) hx hb dX3_readsItem_40 (by decide) ?_
        cases hf
        exact sp_zret S hr hlk hW rfl hQ dX3_readsItem_44
  · have hf := sp_hf hf hc
    refine lv_aload_n hx hb dX3_readsItem_9 rfl (lv_at hl 0 rfl) ?_
    refine sp_get S hK hW inX3 0 rfl rfl 1 (by decide) lk1 rfl dX3_readsItem_10 ?_
    refine lv_aload_n hx hb dX3_readsItem_13 rfl (lv_at hl 0 rfl) ?_
    obtain ⟨⟨r14, c15⟩, hc15, hf⟩ := sp_hc hf
    refine sp_callViP (rest := [.ref (b 0)]) S hK hG hA hW (c_X3_readSigns a b co cn c2 cl1 le1 ri1 lt1 gr1 ct1 gc1 hc15) (by decide) (cwV 0 S.2.2.2.2 gX3_readsItem_X3_readSigns rfl rfl rfl (by decide +kernel) (by decide)) 2 0 rfl rfl (sp_pn _) rfl (WS' := sw_R a (b 0) q5 co cn c15 ++ (sw_P b q5 cl1 le1 ri1 lt1 gr1 ct1 gc1)) (sp_pn' _) rfl hl.1 (Nat.le_of_ble_eq_true rfl) dX3_readsItem_14 ⟨Nat.zero_le _, Nat.zero_le _⟩ rfl (fun H locs hW => ?_)
    obtain ⟨⟨r16, c17, c18, c19, c20, c21, c22, c23⟩, hc23, hf⟩ := sp_hc hf
    refine sp_callViP (rest := []) S hK hG hA hW (c_X2_addGround b cl1 le1 ri1 lt1 gr1 ct1 gc1 r14 hc23) (by decide) (cwV 1 S.2.2.2.2 gX3_readsItem_X2_addGround rfl rfl rfl (by decide +kernel) (by decide)) 1 2 rfl rfl (sp_pq [sw_R a (b 0) q5 co cn c15, sw_P b q5 cl1 le1 ri1 lt1 gr1 ct1 gc1] [0, 1] [1] [0] (by decide)) rfl (WS' := sw_R a (b 0) q5 co cn c15 ++ (sw_P b q5 c17 c18 c19 c20 c21 c22 c23)) (sp_pq' [sw_R a (b 0) q5 co cn c15, sw_P b q5 c17 c18 c19 c20 c21 c22 c23] [0, 1] [1] [0] (by decide)) rfl hl.1 (Nat.le_of_ble_eq_true rfl) dX3_readsItem_17 ⟨Nat.zero_le _, Nat.zero_le _⟩ rfl (fun H locs hW => ?_)
    refine lv_pop hx hb dX3_readsItem_20 rfl ?_
    refine lv_iconst (v := 1) hx hb dX3_readsItem_21 (by decide) ?_
    cases hf
    exact sp_zret S hr hlk hW rfl hQ dX3_readsItem_22

def f_X3_isText_L14 (k20 : Int32 → (Nat → Int32) → (Nat → Int32) → (Nat → Int32) → (Nat → Int32) → (Nat → Int32) → Int32 → Int32 → Option (Int32 × Int32 × (Nat → Int32) × (Nat → Int32) × (Nat → Int32) × (Nat → Int32) × (Nat → Int32) × Int32 × Int32)) (co : Nat → Int32) (cn : Int32) (rec14 : (Int32 × Int32 × (Nat → Int32) × (Nat → Int32) × (Nat → Int32) × (Nat → Int32) × (Nat → Int32) × Int32 × Int32) → Option (Int32 × Int32 × (Nat → Int32) × (Nat → Int32) × (Nat → Int32) × (Nat → Int32) × (Nat → Int32) × Int32 × Int32)) (s9 : Int32 × Int32 × (Nat → Int32) × (Nat → Int32) × (Nat → Int32) × (Nat → Int32) × (Nat → Int32) × Int32 × Int32) : Option (Int32 × Int32 × (Nat → Int32) × (Nat → Int32) × (Nat → Int32) × (Nat → Int32) × (Nat → Int32) × Int32 × Int32) := match s9 with
  | (y3, c4, c5, c6, c7, c8, c9, c10, c11) => if (16 : Int32) < y3 then (k20 c4 c5 c6 c7 c8 c9 c10 c11) else (Option.bind (f_X3_readsItem co cn c4 c5 c6 c7 c8 c9 c10 c11) (fun q9 => match q9 with | (r21, c22, c23, c24, c25, c26, c27, c28, c29) => if r21 = 0 then (some ((0 : Int32), c22, c23, c24, c25, c26, c27, c28, c29)) else (if c22 = cn then (some ((1 : Int32), c22, c23, c24, c25, c26, c27, c28, c29)) else (if y3 = (16 : Int32) then (some ((0 : Int32), c22, c23, c24, c25, c26, c27, c28, c29)) else (Option.bind (f_X3_reads (59 : Int32) co cn c22) (fun q9 => match q9 with | (r30, c31) => if r30 = 0 then (some ((0 : Int32), c31, c23, c24, c25, c26, c27, c28, c29)) else (sp_bnd (y3 + (1 : Int32)) (fun v32 => rec14 (v32, c31, c23, c24, c25, c26, c27, c28, c29)))))))))
theorem f_X3_isText_L14_eq {rec14 : (Int32 × Int32 × (Nat → Int32) × (Nat → Int32) × (Nat → Int32) × (Nat → Int32) × (Nat → Int32) × Int32 × Int32) → Option (Int32 × Int32 × (Nat → Int32) × (Nat → Int32) × (Nat → Int32) × (Nat → Int32) × (Nat → Int32) × Int32 × Int32)} {k20 : Int32 → (Nat → Int32) → (Nat → Int32) → (Nat → Int32) → (Nat → Int32) → (Nat → Int32) → Int32 → Int32 → Option (Int32 × Int32 × (Nat → Int32) × (Nat → Int32) × (Nat → Int32) × (Nat → Int32) × (Nat → Int32) × Int32 × Int32)} {co : Nat → Int32} {cn : Int32} {y3 : Int32} {c4 : Int32} {c5 : Nat → Int32} {c6 : Nat → Int32} {c7 : Nat → Int32} {c8 : Nat → Int32} {c9 : Nat → Int32} {c10 : Int32} {c11 : Int32} : f_X3_isText_L14 k20 co cn rec14 (y3, c4, c5, c6, c7, c8, c9, c10, c11) = (if (16 : Int32) < y3 then (k20 c4 c5 c6 c7 c8 c9 c10 c11) else (Option.bind (f_X3_readsItem co cn c4 c5 c6 c7 c8 c9 c10 c11) (fun q9 => match q9 with | (r21, c22, c23, c24, c25, c26, c27, c28, c29) => if r21 = 0 then (some ((0 : Int32), c22, c23, c24, c25, c26, c27, c28, c29)) else (if c22 = cn then (some ((1 : Int32), c22, c23, c24, c25, c26, c27, c28, c29)) else (if y3 = (16 : Int32) then (some ((0 : Int32), c22, c23, c24, c25, c26, c27, c28, c29)) else (Option.bind (f_X3_reads (59 : Int32) co cn c22) (fun q9 => match q9 with | (r30, c31) => if r30 = 0 then (some ((0 : Int32), c31, c23, c24, c25, c26, c27, c28, c29)) else (sp_bnd (y3 + (1 : Int32)) (fun v32 => rec14 (v32, c31, c23, c24, c25, c26, c27, c28, c29)))))))))) := rfl
def f_X3_isText (co : Nat → Int32) (cn : Int32) (cl1 : Nat → Int32) (le1 : Nat → Int32) (ri1 : Nat → Int32) (lt1 : Nat → Int32) (gr1 : Nat → Int32) : Option (Int32 × Int32 × (Nat → Int32) × (Nat → Int32) × (Nat → Int32) × (Nat → Int32) × (Nat → Int32) × Int32 × Int32) := Option.bind (f_X2_clear) (fun q9 => match q9 with | (c1, c2) => sp_bnd (fun (c12 : Int32) (c13 : Nat → Int32) (c14 : Nat → Int32) (c15 : Nat → Int32) (c16 : Nat → Int32) (c17 : Nat → Int32) (c18 : Int32) (c19 : Int32) => some ((0 : Int32), c12, c13, c14, c15, c16, c17, c18, c19)) (fun k20 => sp_lp (f_X3_isText_L14 k20 co cn) sp_F ((1 : Int32), (0 : Int32), cl1, le1, ri1, lt1, gr1, c1, c2)))
def rmX3_isText : Room := { frames := 4, cells := 0, slots := 0, locals := 91 }
set_option maxRecDepth 4000 in
theorem c_X3_isText {l : Launch} {D : va_G} {q5 : Nat → ClassId} (a : Nat → Nat) (b : Nat → Nat) (co : Nat → Int32) (cn : Int32) (pl : Int32) (cl1 : Nat → Int32) (le1 : Nat → Int32) (ri1 : Nat → Int32) (lt1 : Nat → Int32) (gr1 : Nat → Int32) (ct1 : Int32) (gc1 : Int32) {r' : Int32} {pl' : Int32} {cl1' : Nat → Int32} {le1' : Nat → Int32} {ri1' : Nat → Int32} {lt1' : Nat → Int32} {gr1' : Nat → Int32} {ct1' : Int32} {gc1' : Int32} (hf : f_X3_isText co cn cl1 le1 ri1 lt1 gr1 = some (r', pl', cl1', le1', ri1', lt1', gr1', ct1', gc1')) : sp_Ci l yX3_isText wsX3_isText rmX3_isText D q5 0 [.ref (a 0)] (sw_R a (b 0) q5 co cn pl ++ (sw_P b q5 cl1 le1 ri1 lt1 gr1 ct1 gc1)) r' (sw_R a (b 0) q5 co cn pl' ++ (sw_P b q5 cl1' le1' ri1' lt1' gr1' ct1' gc1')) := by
  intro sz
  refine sp_of (cc := cX3_isText) (maxL := 2) (ret := some .boolean) (own := RX3) (Qc := sp_Qi D r' (sw_R a (b 0) q5 co cn pl' ++ (sw_P b q5 cl1' le1' ri1' lt1' gr1' ct1' gc1'))) (by decide) rfl rfl (Nat.le_of_ble_eq_true rfl) ?_
  intro p e s m args below meth c A ls Q hQ S hr hlk hK hG hA hW hl
  have hx := S.1
  have hb := S.2.1
  unfold f_X3_isText at hf
  have inX3 : ∀ w ∈ u_ws RX3 TX3 4, w ∈ wsX3_isText := (fun _ h => List.mem_cons_of_mem _ (List.mem_append_left _ (List.mem_append_right _ h)))
  have lk1 := S.2.2.2.2 (Cond.fieldLink RX3 18 "ShortProofs$Reader" "proof" "LShortProofs$Proof;") (List.mem_of_getElem? (i := 1) rfl)
  have lk2 := S.2.2.2.2 (Cond.fieldLink RX3 40 "ShortProofs$Reader" "place" "I") (List.mem_of_getElem? (i := 2) rfl)
  have lk3 := S.2.2.2.2 (Cond.fieldLink RX3 33 "ShortProofs$Reader" "count" "I") (List.mem_of_getElem? (i := 3) rfl)
  refine lv_aload_n hx hb dX3_isText_0 rfl (lv_at hl 0 rfl) ?_
  refine sp_get S hK hW inX3 0 rfl rfl 1 (by decide) lk1 rfl dX3_isText_1 ?_
  obtain ⟨⟨c1, c2⟩, hc2, hf⟩ := sp_hc hf
  refine sp_callVvP (rest := []) S hK hG hA hW (c_X2_clear b cl1 le1 ri1 lt1 gr1 ct1 gc1 hc2) (by decide) (cwV 0 S.2.2.2.2 gX3_isText_X2_clear rfl rfl rfl (by decide +kernel) (by decide)) 1 2 rfl rfl (sp_pq [sw_R a (b 0) q5 co cn pl, sw_P b q5 cl1 le1 ri1 lt1 gr1 ct1 gc1] [0, 1] [1] [0] (by decide)) rfl (WS' := sw_R a (b 0) q5 co cn pl ++ (sw_P b q5 cl1 le1 ri1 lt1 gr1 c1 c2)) (sp_pq' [sw_R a (b 0) q5 co cn pl, sw_P b q5 cl1 le1 ri1 lt1 gr1 c1 c2] [0, 1] [1] [0] (by decide)) rfl hl.1 (Nat.le_of_ble_eq_true rfl) dX3_isText_4 ⟨Nat.zero_le _, Nat.zero_le _⟩ rfl (fun H locs hW => ?_)
  refine lv_aload_n hx hb dX3_isText_7 rfl (lv_at hl 0 rfl) ?_
  refine lv_iconst (v := 0) hx hb dX3_isText_8 (by decide) ?_
  refine sp_put S hK hW inX3 tyX3_ok nmX3 0 rfl rfl 3 (by decide) lk2 rfl rfl rfl (Nat.le_of_ble_eq_true rfl) (ws' := sw_R a (b 0) q5 co cn (0 : Int32) ++ (sw_P b q5 cl1 le1 ri1 lt1 gr1 c1 c2)) rfl dX3_isText_9 (fun H locs hW => ?_)
  refine lv_iconst (v := 1) hx hb dX3_isText_12 (by decide) ?_
  refine lv_istore_n (lv' := [(1, .int (1 : Int32)), (0, .ref (a 0))]) hx hb dX3_isText_13 rfl hl (by decide) rfl (fun ls hl => ?_)
  obtain ⟨k20, ek20, hf⟩ := sp_hb hf
  have hj20 : ∀ (c12 : Int32) (c13 : Nat → Int32) (c14 : Nat → Int32) (c15 : Nat → Int32) (c16 : Nat → Int32) (c17 : Nat → Int32) (c18 : Int32) (c19 : Int32) (H : Heap) (locs : List Loc) (ls : Array Slot), k20 c12 c13 c14 c15 c16 c17 c18 c19 = some (r', pl', cl1', le1', ri1', lt1', gr1', ct1', gc1') → sp_wd D A s.heap (sw_R a (b 0) q5 co cn c12 ++ (sw_P b q5 c13 c14 c15 c16 c17 c18 c19)) H locs → lv_has ls 2 [] → W p l e rmX3_isText s m args below meth c H locs 0 0 Q (F0 m 65 ls []) := by
    intro c12 c13 c14 c15 c16 c17 c18 c19 H locs ls hf hW hl
    rw [ek20] at hf
    refine lv_iconst (v := 0) hx hb dX3_isText_65 (by decide) ?_
    cases hf
    exact sp_zret S hr hlk hW rfl hQ dX3_isText_66
  have hlp14 : ∀ (n9 : Nat) (y3 : Int32) (c4 : Int32) (c5 : Nat → Int32) (c6 : Nat → Int32) (c7 : Nat → Int32) (c8 : Nat → Int32) (c9 : Nat → Int32) (c10 : Int32) (c11 : Int32) (H : Heap) (locs : List Loc) (ls : Array Slot), sp_lp (f_X3_isText_L14 k20 co cn) n9 (y3, c4, c5, c6, c7, c8, c9, c10, c11) = some (r', pl', cl1', le1', ri1', lt1', gr1', ct1', gc1') → sp_wd D A s.heap (sw_R a (b 0) q5 co cn c4 ++ (sw_P b q5 c5 c6 c7 c8 c9 c10 c11)) H locs → lv_has ls 2 [(0, .ref (a 0)), (1, .int y3)] → W p l e rmX3_isText s m args below meth c H locs 0 0 Q (F0 m 14 ls []) := by
    intro n9
    induction n9 with
    | zero =>
      intro y3 c4 c5 c6 c7 c8 c9 c10 c11 H locs ls hf hW hl
      exact (sp_lp0 hf).elim
    | succ n9 ih14 =>
      intro y3 c4 c5 c6 c7 c8 c9 c10 c11 H locs ls hf hW hl
      have hf := sp_lpS hf
      rw [f_X3_isText_L14_eq] at hf
      refine lv_iload_n hx hb dX3_isText_14 rfl (lv_at hl 1 rfl) ?_
      refine lv_bipush (v := 16) hx hb dX3_isText_15 (by decide) ?_
      refine lv_icmp_gt (tgt := 65) hx hb dX3_isText_17 (by decide) (fun hc => ?_) (fun hc => ?_)
      · have hf := sp_ht hf hc
        exact hj20 _ _ _ _ _ _ _ _ _ _ _ hf hW (lv_sub hl [] rfl)
      · have hf := sp_hf hf hc
        refine lv_aload_n hx hb dX3_isText_20 rfl (lv_at hl 0 rfl) ?_
        obtain ⟨⟨r21, c22, c23, c24, c25, c26, c27, c28, c29⟩, hc29, hf⟩ := sp_hc hf
        refine sp_callViP (rest := []) S hK hG hA hW (c_X3_readsItem a b co cn c4 c5 c6 c7 c8 c9 c10 c11 hc29) (by decide) (cwV 0 S.2.2.2.2 gX3_isText_X3_readsItem rfl rfl rfl (by decide +kernel) (by decide)) 2 0 rfl rfl (sp_pn _) rfl (WS' := sw_R a (b 0) q5 co cn c22 ++ (sw_P b q5 c23 c24 c25 c26 c27 c28 c29)) (sp_pn' _) rfl hl.1 (Nat.le_of_ble_eq_true rfl) dX3_isText_21 ⟨Nat.zero_le _, Nat.zero_le _⟩ rfl (fun H locs hW => ?_)
        refine lv_if_ne (tgt := 29) hx hb dX3_isText_24 (by decide) (fun hc => ?_) (fun hc => ?_)
        · have hf := sp_hf hf hc
          refine lv_aload_n hx hb dX3_isText_29 rfl (lv_at hl 0 rfl) ?_
          refine sp_get S hK hW inX3 0 rfl rfl 3 (by decide) lk2 rfl dX3_isText_30 ?_
          refine lv_aload_n hx hb dX3_isText_33 rfl (lv_at hl 0 rfl) ?_
          refine sp_get S hK hW inX3 0 rfl rfl 2 (by decide) lk3 rfl dX3_isText_34 ?_
          refine lv_icmp_ne (tgt := 42) hx hb dX3_isText_37 (by decide) (fun hc => ?_) (fun hc => ?_)
          · have hf := sp_hf hf hc
            refine lv_iload_n hx hb dX3_isText_42 rfl (lv_at hl 1 rfl) ?_
            refine lv_bipush (v := 16) hx hb dX3_isText_43 (by decide) ?_
            refine lv_icmp_eq (tgt := 57) hx hb dX3_isText_45 (by decide) (fun hc => ?_) (fun hc => ?_)
            · have hf := sp_ht hf hc
              refine lv_iconst (v := 0) hx hb dX3_isText_57 (by decide) ?_
              cases hf
              exact sp_zret S hr hlk hW rfl hQ dX3_isText_58
            · have hf := sp_hf hf hc
              refine lv_aload_n hx hb dX3_isText_48 rfl (lv_at hl 0 rfl) ?_
              refine lv_bipush (v := 59) hx hb dX3_isText_49 (by decide) ?_
              obtain ⟨⟨r30, c31⟩, hc31, hf⟩ := sp_hc hf
              refine sp_callViP (rest := []) S hK hG hA hW (c_X3_reads a b co cn c22 c23 c24 c25 c26 c27 c28 c29 (59 : Int32) hc31) (by decide) (cwV 1 S.2.2.2.2 gX3_isText_X3_reads rfl rfl rfl (by decide +kernel) (by decide)) 2 0 rfl rfl (sp_pn _) rfl (WS' := sw_R a (b 0) q5 co cn c31 ++ (sw_P b q5 c23 c24 c25 c26 c27 c28 c29)) (sp_pn' _) rfl hl.1 (Nat.le_of_ble_eq_true rfl) dX3_isText_51 ⟨Nat.zero_le _, Nat.zero_le _⟩ rfl (fun H locs hW => ?_)
              refine lv_if_ne (tgt := 59) hx hb dX3_isText_54 (by decide) (fun hc => ?_) (fun hc => ?_)
              · have hf := sp_hf hf hc
                obtain ⟨v32, ev32, hf⟩ := sp_hb hf
                refine lv_iinc (v := v32) (lv' := [(1, .int v32), (0, .ref (a 0))]) hx hb dX3_isText_59 hl (k := 1) rfl (by rw [ev32]; rfl) (by decide) rfl (fun ls hl => ?_)
                refine lv_goto (tgt := 14) hx hb dX3_isText_62 (by decide) ?_
                exact ih14 _ _ _ _ _ _ _ _ _ _ _ _ hf hW (lv_sub hl [1, 0] rfl)
              · have hf := sp_ht hf hc
                refine lv_iconst (v := 0) hx hb dX3_isText_57 (by decide) ?_
                cases hf
                exact sp_zret S hr hlk hW rfl hQ dX3_isText_58
          · have hf := sp_ht hf hc
            refine lv_iconst (v := 1) hx hb dX3_isText_40 (by decide) ?_
            cases hf
            exact sp_zret S hr hlk hW rfl hQ dX3_isText_41
        · have hf := sp_ht hf hc
          refine lv_iconst (v := 0) hx hb dX3_isText_27 (by decide) ?_
          cases hf
          exact sp_zret S hr hlk hW rfl hQ dX3_isText_28
  exact hlp14 _ _ _ _ _ _ _ _ _ _ _ _ _ hf hW (lv_sub hl [1, 0] rfl)
