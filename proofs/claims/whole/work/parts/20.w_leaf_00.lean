def f_X0_isClause (p1 : Int32) : Option (Int32) := if p1 < 0 then (some (0 : Int32)) else (if (4095 : Int32) < p1 then (some (0 : Int32)) else (if (p1 &&& (p1 >>> ((6 : Int32) &&& 31))) = 0 then (some (1 : Int32)) else (some (0 : Int32))))
def rmX0_isClause : Room := { frames := 0, cells := 0, slots := 0, locals := 0 }
set_option maxRecDepth 4000 in
theorem c_X0_isClause {l : Launch} {D : va_G} {q5 : Nat → ClassId} (p1 : Int32) {r' : Int32} (hf : f_X0_isClause p1 = some r') : sp_Ci l yX0_isClause wsX0_isClause rmX0_isClause D q5 0 [.int p1] ([]) r' ([]) := by
  intro sz
  refine sp_of (cc := cX0_isClause) (maxL := 1) (ret := some .boolean) (own := RX0) (Qc := sp_Qi D r' ([])) (by decide) rfl rfl (Nat.le_of_ble_eq_true rfl) ?_
  intro p e s m args below meth c A ls Q hQ S hr hlk hK hG hA hW hl
  have hx := S.1
  have hb := S.2.1
  unfold f_X0_isClause at hf
  refine lv_iload_n hx hb dX0_isClause_0 rfl (lv_at hl 0 rfl) ?_
  refine lv_if_lt (tgt := 24) hx hb dX0_isClause_1 (by decide) (fun hc => ?_) (fun hc => ?_)
  · have hf := sp_ht hf hc
    refine lv_iconst (v := 0) hx hb dX0_isClause_24 (by decide) ?_
    cases hf
    exact sp_zret S hr hlk hW rfl hQ dX0_isClause_25
  · have hf := sp_hf hf hc
    refine lv_iload_n hx hb dX0_isClause_4 rfl (lv_at hl 0 rfl) ?_
    refine lv_sipush (v := 4095) hx hb dX0_isClause_5 (by decide) ?_
    refine lv_icmp_gt (tgt := 24) hx hb dX0_isClause_8 (by decide) (fun hc => ?_) (fun hc => ?_)
    · have hf := sp_ht hf hc
      refine lv_iconst (v := 0) hx hb dX0_isClause_24 (by decide) ?_
      cases hf
      exact sp_zret S hr hlk hW rfl hQ dX0_isClause_25
    · have hf := sp_hf hf hc
      refine lv_iload_n hx hb dX0_isClause_11 rfl (lv_at hl 0 rfl) ?_
      refine lv_iload_n hx hb dX0_isClause_12 rfl (lv_at hl 0 rfl) ?_
      refine lv_bipush (v := 6) hx hb dX0_isClause_13 (by decide) ?_
      refine lv_ishr hx hb dX0_isClause_15 ?_
      refine lv_iand hx hb dX0_isClause_16 ?_
      refine lv_if_ne (tgt := 24) hx hb dX0_isClause_17 (by decide) (fun hc => ?_) (fun hc => ?_)
      · have hf := sp_hf hf hc
        refine lv_iconst (v := 0) hx hb dX0_isClause_24 (by decide) ?_
        cases hf
        exact sp_zret S hr hlk hW rfl hQ dX0_isClause_25
      · have hf := sp_ht hf hc
        refine lv_iconst (v := 1) hx hb dX0_isClause_20 (by decide) ?_
        refine lv_goto (tgt := 25) hx hb dX0_isClause_21 (by decide) ?_
        cases hf
        exact sp_zret S hr hlk hW rfl hQ dX0_isClause_25

def f_X0_lettersOf (p1 : Int32) : Option (Int32) := some ((p1 ||| (p1 >>> ((6 : Int32) &&& 31))) &&& (63 : Int32))
def rmX0_lettersOf : Room := { frames := 0, cells := 0, slots := 0, locals := 0 }
set_option maxRecDepth 4000 in
theorem c_X0_lettersOf {l : Launch} {D : va_G} {q5 : Nat → ClassId} (p1 : Int32) {r' : Int32} (hf : f_X0_lettersOf p1 = some r') : sp_Ci l yX0_lettersOf wsX0_lettersOf rmX0_lettersOf D q5 0 [.int p1] ([]) r' ([]) := by
  intro sz
  refine sp_of (cc := cX0_lettersOf) (maxL := 1) (ret := some .int) (own := RX0) (Qc := sp_Qi D r' ([])) (by decide) rfl rfl (Nat.le_of_ble_eq_true rfl) ?_
  intro p e s m args below meth c A ls Q hQ S hr hlk hK hG hA hW hl
  have hx := S.1
  have hb := S.2.1
  unfold f_X0_lettersOf at hf
  refine lv_iload_n hx hb dX0_lettersOf_0 rfl (lv_at hl 0 rfl) ?_
  refine lv_iload_n hx hb dX0_lettersOf_1 rfl (lv_at hl 0 rfl) ?_
  refine lv_bipush (v := 6) hx hb dX0_lettersOf_2 (by decide) ?_
  refine lv_ishr hx hb dX0_lettersOf_4 ?_
  refine lv_ior hx hb dX0_lettersOf_5 ?_
  refine lv_bipush (v := 63) hx hb dX0_lettersOf_6 (by decide) ?_
  refine lv_iand hx hb dX0_lettersOf_8 ?_
  cases hf
  exact sp_iret S hr hlk hW hQ dX0_lettersOf_9

def f_X0_isSmall (p1 : Int32) : Option (Int32) := Option.bind (f_X0_lettersOf p1) (fun r1 => if (8 : Int32) ≤ r1 then (some (0 : Int32)) else (some (1 : Int32)))
def rmX0_isSmall : Room := { frames := 1, cells := 0, slots := 0, locals := 20 }
set_option maxRecDepth 4000 in
theorem c_X0_isSmall {l : Launch} {D : va_G} {q5 : Nat → ClassId} (p1 : Int32) {r' : Int32} (hf : f_X0_isSmall p1 = some r') : sp_Ci l yX0_isSmall wsX0_isSmall rmX0_isSmall D q5 0 [.int p1] ([]) r' ([]) := by
  intro sz
  refine sp_of (cc := cX0_isSmall) (maxL := 1) (ret := some .boolean) (own := RX0) (Qc := sp_Qi D r' ([])) (by decide) rfl rfl (Nat.le_of_ble_eq_true rfl) ?_
  intro p e s m args below meth c A ls Q hQ S hr hlk hK hG hA hW hl
  have hx := S.1
  have hb := S.2.1
  unfold f_X0_isSmall at hf
  refine lv_iload_n hx hb dX0_isSmall_0 rfl (lv_at hl 0 rfl) ?_
  obtain ⟨r1, hc1, hf⟩ := sp_hc hf
  refine sp_callSi (rest := []) S hK hG hA hW (c_X0_lettersOf p1 hc1) (by decide) (va_cwS 1 S.2.2.2.2 gX0_isSmall_X0_lettersOf rfl rfl rfl (by decide +kernel) (by decide)) (isC := []) rfl rfl rfl (WS' := []) rfl rfl hl.1 (Nat.le_of_ble_eq_true rfl) dX0_isSmall_1 ⟨Nat.zero_le _, Nat.zero_le _⟩ rfl (fun H locs hW => ?_)
  refine lv_bipush (v := 8) hx hb dX0_isSmall_4 (by decide) ?_
  refine lv_icmp_ge (tgt := 13) hx hb dX0_isSmall_6 (by decide) (fun hc => ?_) (fun hc => ?_)
  · have hf := sp_ht hf hc
    refine lv_iconst (v := 0) hx hb dX0_isSmall_13 (by decide) ?_
    cases hf
    exact sp_zret S hr hlk hW rfl hQ dX0_isSmall_14
  · have hf := sp_hf hf hc
    refine lv_iconst (v := 1) hx hb dX0_isSmall_9 (by decide) ?_
    refine lv_goto (tgt := 14) hx hb dX0_isSmall_10 (by decide) ?_
    cases hf
    exact sp_zret S hr hlk hW rfl hQ dX0_isSmall_14

def f_X0_isPart (p1 : Int32) (p2 : Int32) : Option (Int32) := if (p1 &&& (p2 ^^^ (-1 : Int32))) = 0 then (some (1 : Int32)) else (some (0 : Int32))
def rmX0_isPart : Room := { frames := 0, cells := 0, slots := 0, locals := 0 }
set_option maxRecDepth 4000 in
theorem c_X0_isPart {l : Launch} {D : va_G} {q5 : Nat → ClassId} (p1 : Int32) (p2 : Int32) {r' : Int32} (hf : f_X0_isPart p1 p2 = some r') : sp_Ci l yX0_isPart wsX0_isPart rmX0_isPart D q5 0 [.int p1, .int p2] ([]) r' ([]) := by
  intro sz
  refine sp_of (cc := cX0_isPart) (maxL := 2) (ret := some .boolean) (own := RX0) (Qc := sp_Qi D r' ([])) (by decide) rfl rfl (Nat.le_of_ble_eq_true rfl) ?_
  intro p e s m args below meth c A ls Q hQ S hr hlk hK hG hA hW hl
  have hx := S.1
  have hb := S.2.1
  unfold f_X0_isPart at hf
  refine lv_iload_n hx hb dX0_isPart_0 rfl (lv_at hl 0 rfl) ?_
  refine lv_iload_n hx hb dX0_isPart_1 rfl (lv_at hl 1 rfl) ?_
  refine lv_iconst (v := (-1)) hx hb dX0_isPart_2 (by decide) ?_
  refine lv_ixor hx hb dX0_isPart_3 ?_
  refine lv_iand hx hb dX0_isPart_4 ?_
  refine lv_if_ne (tgt := 12) hx hb dX0_isPart_5 (by decide) (fun hc => ?_) (fun hc => ?_)
  · have hf := sp_hf hf hc
    refine lv_iconst (v := 0) hx hb dX0_isPart_12 (by decide) ?_
    cases hf
    exact sp_zret S hr hlk hW rfl hQ dX0_isPart_13
  · have hf := sp_ht hf hc
    refine lv_iconst (v := 1) hx hb dX0_isPart_8 (by decide) ?_
    refine lv_goto (tgt := 13) hx hb dX0_isPart_9 (by decide) ?_
    cases hf
    exact sp_zret S hr hlk hW rfl hQ dX0_isPart_13

def f_X0_plain (p1 : Int32) : Option (Int32) := some ((1 : Int32) <<< (p1 &&& 31))
def rmX0_plain : Room := { frames := 0, cells := 0, slots := 0, locals := 0 }
set_option maxRecDepth 4000 in
theorem c_X0_plain {l : Launch} {D : va_G} {q5 : Nat → ClassId} (p1 : Int32) {r' : Int32} (hf : f_X0_plain p1 = some r') : sp_Ci l yX0_plain wsX0_plain rmX0_plain D q5 0 [.int p1] ([]) r' ([]) := by
  intro sz
  refine sp_of (cc := cX0_plain) (maxL := 1) (ret := some .int) (own := RX0) (Qc := sp_Qi D r' ([])) (by decide) rfl rfl (Nat.le_of_ble_eq_true rfl) ?_
  intro p e s m args below meth c A ls Q hQ S hr hlk hK hG hA hW hl
  have hx := S.1
  have hb := S.2.1
  unfold f_X0_plain at hf
  refine lv_iconst (v := 1) hx hb dX0_plain_0 (by decide) ?_
  refine lv_iload_n hx hb dX0_plain_1 rfl (lv_at hl 0 rfl) ?_
  refine lv_ishl hx hb dX0_plain_2 ?_
  cases hf
  exact sp_iret S hr hlk hW hQ dX0_plain_3

def f_X0_negated (p1 : Int32) : Option (Int32) := some ((1 : Int32) <<< ((p1 + (6 : Int32)) &&& 31))
def rmX0_negated : Room := { frames := 0, cells := 0, slots := 0, locals := 0 }
set_option maxRecDepth 4000 in
theorem c_X0_negated {l : Launch} {D : va_G} {q5 : Nat → ClassId} (p1 : Int32) {r' : Int32} (hf : f_X0_negated p1 = some r') : sp_Ci l yX0_negated wsX0_negated rmX0_negated D q5 0 [.int p1] ([]) r' ([]) := by
  intro sz
  refine sp_of (cc := cX0_negated) (maxL := 1) (ret := some .int) (own := RX0) (Qc := sp_Qi D r' ([])) (by decide) rfl rfl (Nat.le_of_ble_eq_true rfl) ?_
  intro p e s m args below meth c A ls Q hQ S hr hlk hK hG hA hW hl
  have hx := S.1
  have hb := S.2.1
  unfold f_X0_negated at hf
  refine lv_iconst (v := 1) hx hb dX0_negated_0 (by decide) ?_
  refine lv_iload_n hx hb dX0_negated_1 rfl (lv_at hl 0 rfl) ?_
  refine lv_bipush (v := 6) hx hb dX0_negated_2 (by decide) ?_
  refine lv_iadd hx hb dX0_negated_4 ?_
  refine lv_ishl hx hb dX0_negated_5 ?_
  cases hf
  exact sp_iret S hr hlk hW hQ dX0_negated_6

def f_X0_others (p1 : Int32) : Option (Int32) := some ((p1 >>> ((6 : Int32) &&& 31)) ||| ((p1 <<< ((6 : Int32) &&& 31)) &&& (4095 : Int32)))
def rmX0_others : Room := { frames := 0, cells := 0, slots := 0, locals := 0 }
set_option maxRecDepth 4000 in
theorem c_X0_others {l : Launch} {D : va_G} {q5 : Nat → ClassId} (p1 : Int32) {r' : Int32} (hf : f_X0_others p1 = some r') : sp_Ci l yX0_others wsX0_others rmX0_others D q5 0 [.int p1] ([]) r' ([]) := by
  intro sz
  refine sp_of (cc := cX0_others) (maxL := 1) (ret := some .int) (own := RX0) (Qc := sp_Qi D r' ([])) (by decide) rfl rfl (Nat.le_of_ble_eq_true rfl) ?_
  intro p e s m args below meth c A ls Q hQ S hr hlk hK hG hA hW hl
  have hx := S.1
  have hb := S.2.1
  unfold f_X0_others at hf
  refine lv_iload_n hx hb dX0_others_0 rfl (lv_at hl 0 rfl) ?_
  refine lv_bipush (v := 6) hx hb dX0_others_1 (by decide) ?_
  refine lv_ishr hx hb dX0_others_3 ?_
  refine lv_iload_n hx hb dX0_others_4 rfl (lv_at hl 0 rfl) ?_
  refine lv_bipush (v := 6) hx hb dX0_others_5 (by decide) ?_
  refine lv_ishl hx hb dX0_others_7 ?_
  refine lv_sipush (v := 4095) hx hb dX0_others_8 (by decide) ?_
  refine lv_iand hx hb dX0_others_11 ?_
  refine lv_ior hx hb dX0_others_12 ?_
  cases hf
  exact sp_iret S hr hlk hW hQ dX0_others_13

def f_X0_cutOf (p1 : Int32) (p2 : Int32) (p3 : Int32) : Option (Int32) := Option.bind (f_X0_plain p3) (fun r1 => Option.bind (f_X0_negated p3) (fun r2 => Option.bind (f_X0_isPart r1 p1) (fun r3 => if r3 = 0 then (some (-9 : Int32)) else (Option.bind (f_X0_isPart r2 p2) (fun r4 => if r4 = 0 then (some (-9 : Int32)) else (sp_bnd ((p1 &&& (r1 ^^^ (-1 : Int32))) ||| (p2 &&& (r2 ^^^ (-1 : Int32)))) (fun v5 => Option.bind (f_X0_isClause v5) (fun r6 => if r6 = 0 then (some (-9 : Int32)) else (some v5)))))))))
def rmX0_cutOf : Room := { frames := 1, cells := 0, slots := 0, locals := 21 }
set_option maxRecDepth 4000 in
theorem c_X0_cutOf {l : Launch} {D : va_G} {q5 : Nat → ClassId} (p1 : Int32) (p2 : Int32) (p3 : Int32) {r' : Int32} (hf : f_X0_cutOf p1 p2 p3 = some r') : sp_Ci l yX0_cutOf wsX0_cutOf rmX0_cutOf D q5 0 [.int p1, .int p2, .int p3] ([]) r' ([]) := by
  intro sz
  refine sp_of (cc := cX0_cutOf) (maxL := 6) (ret := some .int) (own := RX0) (Qc := sp_Qi D r' ([])) (by decide) rfl rfl (Nat.le_of_ble_eq_true rfl) ?_
  intro p e s m args below meth c A ls Q hQ S hr hlk hK hG hA hW hl
  have hx := S.1
  have hb := S.2.1
  unfold f_X0_cutOf at hf
  refine lv_iload_n hx hb dX0_cutOf_0 rfl (lv_at hl 2 rfl) ?_
  obtain ⟨r1, hc1, hf⟩ := sp_hc hf
  refine sp_callSi (rest := []) S hK hG hA hW (c_X0_plain p3 hc1) (by decide) (va_cwS 1 S.2.2.2.2 gX0_cutOf_X0_plain rfl rfl rfl (by decide +kernel) (by decide)) (isC := []) rfl rfl rfl (WS' := []) rfl rfl hl.1 (Nat.le_of_ble_eq_true rfl) dX0_cutOf_1 ⟨Nat.zero_le _, Nat.zero_le _⟩ rfl (fun H locs hW => ?_)
  refine lv_istore_n (lv' := [(3, .int r1), (0, .int p1), (1, .int p2), (2, .int p3)]) hx hb dX0_cutOf_4 rfl hl (by decide) rfl (fun ls hl => ?_)
  refine lv_iload_n hx hb dX0_cutOf_5 rfl (lv_at hl 3 rfl) ?_
  obtain ⟨r2, hc2, hf⟩ := sp_hc hf
  refine sp_callSi (rest := []) S hK hG hA hW (c_X0_negated p3 hc2) (by decide) (va_cwS 1 S.2.2.2.2 gX0_cutOf_X0_negated rfl rfl rfl (by decide +kernel) (by decide)) (isC := []) rfl rfl rfl (WS' := []) rfl rfl hl.1 (Nat.le_of_ble_eq_true rfl) dX0_cutOf_6 ⟨Nat.zero_le _, Nat.zero_le _⟩ rfl (fun H locs hW => ?_)
  refine lv_istore (lv' := [(4, .int r2), (3, .int r1), (0, .int p1), (1, .int p2), (2, .int p3)]) hx hb dX0_cutOf_9 hl (by decide) rfl (fun ls hl => ?_)
  refine lv_iload_n hx hb dX0_cutOf_11 rfl (lv_at hl 1 rfl) ?_
  refine lv_iload_n hx hb dX0_cutOf_12 rfl (lv_at hl 2 rfl) ?_
  obtain ⟨r3, hc3, hf⟩ := sp_hc hf
  refine sp_callSi (rest := []) S hK hG hA hW (c_X0_isPart r1 p1 hc3) (by decide) (va_cwS 2 S.2.2.2.2 gX0_cutOf_X0_isPart rfl rfl rfl (by decide +kernel) (by decide)) (isC := []) rfl rfl rfl (WS' := []) rfl rfl hl.1 (Nat.le_of_ble_eq_true rfl) dX0_cutOf_13 ⟨Nat.zero_le _, Nat.zero_le _⟩ rfl (fun H locs hW => ?_)
  refine lv_if_eq (tgt := 28) hx hb dX0_cutOf_16 (by decide) (fun hc => ?_) (fun hc => ?_)
  · have hf := sp_ht hf hc
    refine lv_bipush (v := (-9)) hx hb dX0_cutOf_28 (by decide) ?_
    cases hf
    exact sp_iret S hr hlk hW hQ dX0_cutOf_30
  · have hf := sp_hf hf hc
    refine lv_iload hx hb dX0_cutOf_19 (lv_at hl 0 rfl) ?_
    refine lv_iload_n hx hb dX0_cutOf_21 rfl (lv_at hl 3 rfl) ?_
    obtain ⟨r4, hc4, hf⟩ := sp_hc hf
    refine sp_callSi (rest := []) S hK hG hA hW (c_X0_isPart r2 p2 hc4) (by decide) (va_cwS 2 S.2.2.2.2 gX0_cutOf_X0_isPart rfl rfl rfl (by decide +kernel) (by decide)) (isC := []) rfl rfl rfl (WS' := []) rfl rfl hl.1 (Nat.le_of_ble_eq_true rfl) dX0_cutOf_22 ⟨Nat.zero_le _, Nat.zero_le _⟩ rfl (fun H locs hW => ?_)
    refine lv_if_ne (tgt := 31) hx hb dX0_cutOf_25 (by decide) (fun hc => ?_) (fun hc => ?_)
    · have hf := sp_hf hf hc
      refine lv_iload_n hx hb dX0_cutOf_31 rfl (lv_at hl 2 rfl) ?_
      refine lv_iload_n hx hb dX0_cutOf_32 rfl (lv_at hl 1 rfl) ?_
      refine lv_iconst (v := (-1)) hx hb dX0_cutOf_33 (by decide) ?_
      refine lv_ixor hx hb dX0_cutOf_34 ?_
      refine lv_iand hx hb dX0_cutOf_35 ?_
      refine lv_iload_n hx hb dX0_cutOf_36 rfl (lv_at hl 3 rfl) ?_
      refine lv_iload hx hb dX0_cutOf_37 (lv_at hl 0 rfl) ?_
      refine lv_iconst (v := (-1)) hx hb dX0_cutOf_39 (by decide) ?_
      refine lv_ixor hx hb dX0_cutOf_40 ?_
      refine lv_iand hx hb dX0_cutOf_41 ?_
      refine lv_ior hx hb dX0_cutOf_42 ?_
      obtain ⟨v5, ev5, hf⟩ := sp_hb hf
      refine sp_topi ev5 ?_
      refine lv_istore (lv' := [(5, .int v5), (4, .int r2), (3, .int r1), (0, .int p1), (1, .int p2), (2, .int p3)]) hx hb dX0_cutOf_43 hl (by decide) rfl (fun ls hl => ?_)
      refine lv_iload hx hb dX0_cutOf_45 (lv_at hl 0 rfl) ?_
      obtain ⟨r6, hc6, hf⟩ := sp_hc hf
      refine sp_callSi (rest := []) S hK hG hA hW (c_X0_isClause v5 hc6) (by decide) (va_cwS 1 S.2.2.2.2 gX0_cutOf_X0_isClause rfl rfl rfl (by decide +kernel) (by decide)) (isC := []) rfl rfl rfl (WS' := []) rfl rfl hl.1 (Nat.le_of_ble_eq_true rfl) dX0_cutOf_47 ⟨Nat.zero_le _, Nat.zero_le _⟩ rfl (fun H locs hW => ?_)
      refine lv_if_eq (tgt := 58) hx hb dX0_cutOf_50 (by decide) (fun hc => ?_) (fun hc => ?_)
      · have hf := sp_ht hf hc
        refine lv_bipush (v := (-9)) hx hb dX0_cutOf_58 (by decide) ?_
        cases hf
        exact sp_iret S hr hlk hW hQ dX0_cutOf_60
      · have hf := sp_hf hf hc
        refine lv_iload hx hb dX0_cutOf_53 (lv_at hl 0 rfl) ?_
        refine lv_goto (tgt := 60) hx hb dX0_cutOf_55 (by decide) ?_
        cases hf
        exact sp_iret S hr hlk hW hQ dX0_cutOf_60
    · have hf := sp_ht hf hc
      refine lv_bipush (v := (-9)) hx hb dX0_cutOf_28 (by decide) ?_
      cases hf
      exact sp_iret S hr hlk hW hQ dX0_cutOf_30

def f_X0_tableOf_L4 (k4 : Int64 → Option (Int64)) (p1 : Int32) (rec4 : (Int64 × Int32) → Option (Int64)) (s9 : Int64 × Int32) : Option (Int64) := match s9 with
  | (y1, y2) => if (6 : Int32) ≤ y2 then (k4 y1) else (Option.bind (f_X0_plain y2) (fun r5 => Option.bind (f_X0_isPart r5 p1) (fun r6 => sp_bnd (fun (x7 : Int64) => Option.bind (f_X0_negated y2) (fun r9 => Option.bind (f_X0_isPart r9 p1) (fun r10 => sp_bnd (fun (x11 : Int64) => sp_bnd (y2 + (1 : Int32)) (fun v13 => rec4 (x11, v13))) (fun k12 => if r10 = 0 then (k12 x7) else (sp_ld sp_lt 6 y2 (fun v15 => sp_bnd (x7 ||| (v15 ^^^ (-1 : Int64))) (fun v16 => k12 v16))))))) (fun k8 => if r6 = 0 then (k8 y1) else (sp_ld sp_lt 6 y2 (fun v18 => sp_bnd (y1 ||| v18) (fun v19 => k8 v19)))))))
theorem f_X0_tableOf_L4_eq {rec4 : (Int64 × Int32) → Option (Int64)} {k4 : Int64 → Option (Int64)} {p1 : Int32} {y1 : Int64} {y2 : Int32} : f_X0_tableOf_L4 k4 p1 rec4 (y1, y2) = (if (6 : Int32) ≤ y2 then (k4 y1) else (Option.bind (f_X0_plain y2) (fun r5 => Option.bind (f_X0_isPart r5 p1) (fun r6 => sp_bnd (fun (x7 : Int64) => Option.bind (f_X0_negated y2) (fun r9 => Option.bind (f_X0_isPart r9 p1) (fun r10 => sp_bnd (fun (x11 : Int64) => sp_bnd (y2 + (1 : Int32)) (fun v13 => rec4 (x11, v13))) (fun k12 => if r10 = 0 then (k12 x7) else (sp_ld sp_lt 6 y2 (fun v15 => sp_bnd (x7 ||| (v15 ^^^ (-1 : Int64))) (fun v16 => k12 v16))))))) (fun k8 => if r6 = 0 then (k8 y1) else (sp_ld sp_lt 6 y2 (fun v18 => sp_bnd (y1 ||| v18) (fun v19 => k8 v19)))))))) := rfl
def f_X0_tableOf (p1 : Int32) : Option (Int64) := sp_bnd (fun (x3 : Int64) => some x3) (fun k4 => sp_lp (f_X0_tableOf_L4 k4 p1) sp_F ((0 : Int64), (0 : Int32)))
def rmX0_tableOf : Room := { frames := 1, cells := 0, slots := 0, locals := 21 }
set_option maxRecDepth 4000 in
theorem c_X0_tableOf {l : Launch} {D : va_G} {q5 : Nat → ClassId} (p1 : Int32) {r' : Int64} (hf : f_X0_tableOf p1 = some r') : sp_Cl l yX0_tableOf wsX0_tableOf rmX0_tableOf D q5 2 [.int p1] ([]) r' ([]) := by
  intro sz
  refine sp_of (cc := cX0_tableOf) (maxL := 4) (ret := some .long) (own := RX0) (Qc := sp_Ql D r' ([])) (by decide) rfl rfl (Nat.le_of_ble_eq_true rfl) ?_
  intro p e s m args below meth c A ls Q hQ S hr hlk hK hG hA hW hl
  have hx := S.1
  have hb := S.2.1
  unfold f_X0_tableOf at hf
  have lk1 := S.2.2.2.2 (Cond.constantLong RX0 33 (-1)) (List.mem_of_getElem? (i := 1) rfl)
  refine lv_lconst (v := 0) hx hb dX0_tableOf_0 (by decide) ?_
  refine lv_lstore_n (lv' := [(1, .long (0 : Int64)), (0, .int p1)]) hx hb dX0_tableOf_1 rfl hl (by decide) rfl (fun ls hl => ?_)
  refine lv_iconst (v := 0) hx hb dX0_tableOf_2 (by decide) ?_
  refine lv_istore_n (lv' := [(3, .int (0 : Int32)), (1, .long (0 : Int64)), (0, .int p1)]) hx hb dX0_tableOf_3 rfl hl (by decide) rfl (fun ls hl => ?_)
  obtain ⟨k4, ek4, hf⟩ := sp_hb hf
  have hj4 : ∀ (x3 : Int64) (H : Heap) (locs : List Loc) (ls : Array Slot), k4 x3 = some r' → sp_wd D A s.heap ([]) H locs → lv_has ls 4 [(1, .long x3)] → W p l e rmX0_tableOf s m args below meth c H locs 0 0 Q (F0 m 58 ls []) := by
    intro x3 H locs ls hf hW hl
    rw [ek4] at hf
    refine lv_lload_n hx hb dX0_tableOf_58 rfl (lv_at hl 0 rfl) ?_
    cases hf
    exact sp_lret S hr hlk hW hQ dX0_tableOf_59
  have hlp4 : ∀ (n9 : Nat) (y1 : Int64) (y2 : Int32) (H : Heap) (locs : List Loc) (ls : Array Slot), sp_lp (f_X0_tableOf_L4 k4 p1) n9 (y1, y2) = some r' → sp_wd D A s.heap ([]) H locs → lv_has ls 4 [(0, .int p1), (1, .long y1), (3, .int y2)] → W p l e rmX0_tableOf s m args below meth c H locs 0 0 Q (F0 m 4 ls []) := by
    intro n9
    induction n9 with
    | zero =>
      intro y1 y2 H locs ls hf hW hl
      exact (sp_lp0 hf).elim
    | succ n9 ih4 =>
      intro y1 y2 H locs ls hf hW hl
      have hf := sp_lpS hf
      rw [f_X0_tableOf_L4_eq] at hf
      refine lv_iload_n hx hb dX0_tableOf_4 rfl (lv_at hl 2 rfl) ?_
      refine lv_bipush (v := 6) hx hb dX0_tableOf_5 (by decide) ?_
      refine lv_icmp_ge (tgt := 58) hx hb dX0_tableOf_7 (by decide) (fun hc => ?_) (fun hc => ?_)
      · have hf := sp_ht hf hc
        exact hj4 _ _ _ _ hf hW (lv_sub hl [1] rfl)
      · have hf := sp_hf hf hc
        refine lv_iload_n hx hb dX0_tableOf_10 rfl (lv_at hl 2 rfl) ?_
        obtain ⟨r5, hc5, hf⟩ := sp_hc hf
        refine sp_callSi (rest := []) S hK hG hA hW (c_X0_plain y2 hc5) (by decide) (va_cwS 1 S.2.2.2.2 gX0_tableOf_X0_plain rfl rfl rfl (by decide +kernel) (by decide)) (isC := []) rfl rfl rfl (WS' := []) rfl rfl hl.1 (Nat.le_of_ble_eq_true rfl) dX0_tableOf_11 ⟨Nat.zero_le _, Nat.zero_le _⟩ rfl (fun H locs hW => ?_)
        refine lv_iload_n hx hb dX0_tableOf_14 rfl (lv_at hl 0 rfl) ?_
        obtain ⟨r6, hc6, hf⟩ := sp_hc hf
        refine sp_callSi (rest := []) S hK hG hA hW (c_X0_isPart r5 p1 hc6) (by decide) (va_cwS 2 S.2.2.2.2 gX0_tableOf_X0_isPart rfl rfl rfl (by decide +kernel) (by decide)) (isC := []) rfl rfl rfl (WS' := []) rfl rfl hl.1 (Nat.le_of_ble_eq_true rfl) dX0_tableOf_15 ⟨Nat.zero_le _, Nat.zero_le _⟩ rfl (fun H locs hW => ?_)
        obtain ⟨k8, ek8, hf⟩ := sp_hb hf
        have hj8 : ∀ (x7 : Int64) (H : Heap) (locs : List Loc) (ls : Array Slot), k8 x7 = some r' → sp_wd D A s.heap ([]) H locs → lv_has ls 4 [(0, .int p1), (1, .long x7), (3, .int y2)] → W p l e rmX0_tableOf s m args below meth c H locs 0 0 Q (F0 m 29 ls []) := by
          intro x7 H locs ls hf hW hl
          rw [ek8] at hf
          refine lv_iload_n hx hb dX0_tableOf_29 rfl (lv_at hl 2 rfl) ?_
          obtain ⟨r9, hc9, hf⟩ := sp_hc hf
          refine sp_callSi (rest := []) S hK hG hA hW (c_X0_negated y2 hc9) (by decide) (va_cwS 1 S.2.2.2.2 gX0_tableOf_X0_negated rfl rfl rfl (by decide +kernel) (by decide)) (isC := []) rfl rfl rfl (WS' := []) rfl rfl hl.1 (Nat.le_of_ble_eq_true rfl) dX0_tableOf_30 ⟨Nat.zero_le _, Nat.zero_le _⟩ rfl (fun H locs hW => ?_)
          refine lv_iload_n hx hb dX0_tableOf_33 rfl (lv_at hl 0 rfl) ?_
          obtain ⟨r10, hc10, hf⟩ := sp_hc hf
          refine sp_callSi (rest := []) S hK hG hA hW (c_X0_isPart r9 p1 hc10) (by decide) (va_cwS 2 S.2.2.2.2 gX0_tableOf_X0_isPart rfl rfl rfl (by decide +kernel) (by decide)) (isC := []) rfl rfl rfl (WS' := []) rfl rfl hl.1 (Nat.le_of_ble_eq_true rfl) dX0_tableOf_34 ⟨Nat.zero_le _, Nat.zero_le _⟩ rfl (fun H locs hW => ?_)
          obtain ⟨k12, ek12, hf⟩ := sp_hb hf
          have hj12 : ∀ (x11 : Int64) (H : Heap) (locs : List Loc) (ls : Array Slot), k12 x11 = some r' → sp_wd D A s.heap ([]) H locs → lv_has ls 4 [(0, .int p1), (1, .long x11), (3, .int y2)] → W p l e rmX0_tableOf s m args below meth c H locs 0 0 Q (F0 m 52 ls []) := by
            intro x11 H locs ls hf hW hl
            rw [ek12] at hf
            obtain ⟨v13, ev13, hf⟩ := sp_hb hf
            refine lv_iinc (v := v13) (lv' := [(3, .int v13), (0, .int p1), (1, .long x11)]) hx hb dX0_tableOf_52 hl (k := 2) rfl (by rw [ev13]; rfl) (by decide) rfl (fun ls hl => ?_)
            refine lv_goto (tgt := 4) hx hb dX0_tableOf_55 (by decide) ?_
            exact ih4 _ _ _ _ _ hf hW (lv_sub hl [1, 2, 0] rfl)
          refine lv_if_eq (tgt := 52) hx hb dX0_tableOf_37 (by decide) (fun hc => ?_) (fun hc => ?_)
          · have hf := sp_ht hf hc
            exact hj12 _ _ _ _ hf hW (lv_sub hl [0, 1, 2] rfl)
          · have hf := sp_hf hf hc
            refine lv_lload_n hx hb dX0_tableOf_40 rfl (lv_at hl 1 rfl) ?_
            refine sp_gets S hG (by decide) hW (List.mem_of_getElem? (i := 0) rfl) dX0_tableOf_41 (fun t14 ht14 => ?_)
            refine lv_iload_n hx hb dX0_tableOf_44 rfl (lv_at hl 2 rfl) ?_
            obtain ⟨hin, v15, ev15, hf⟩ := sp_hld hf
            refine sp_tl S hW ht14 hin ev15 dX0_tableOf_45 ?_
            refine lv_ldc2 hx hb S.2.2.2.1 lk1 dX0_tableOf_46 ?_
            refine lv_lxor hx hb dX0_tableOf_49 ?_
            refine lv_lor hx hb dX0_tableOf_50 ?_
            obtain ⟨v16, ev16, hf⟩ := sp_hb hf
            refine sp_topl ev16 ?_
            refine lv_lstore_n (lv' := [(1, .long v16), (0, .int p1), (3, .int y2)]) hx hb dX0_tableOf_51 rfl hl (by decide) rfl (fun ls hl => ?_)
            exact hj12 _ _ _ _ hf hW (lv_sub hl [1, 0, 2] rfl)
        refine lv_if_eq (tgt := 29) hx hb dX0_tableOf_18 (by decide) (fun hc => ?_) (fun hc => ?_)
        · have hf := sp_ht hf hc
          exact hj8 _ _ _ _ hf hW (lv_sub hl [0, 1, 2] rfl)
        · have hf := sp_hf hf hc
          refine lv_lload_n hx hb dX0_tableOf_21 rfl (lv_at hl 1 rfl) ?_
          refine sp_gets S hG (by decide) hW (List.mem_of_getElem? (i := 0) rfl) dX0_tableOf_22 (fun t17 ht17 => ?_)
          refine lv_iload_n hx hb dX0_tableOf_25 rfl (lv_at hl 2 rfl) ?_
          obtain ⟨hin, v18, ev18, hf⟩ := sp_hld hf
          refine sp_tl S hW ht17 hin ev18 dX0_tableOf_26 ?_
          refine lv_lor hx hb dX0_tableOf_27 ?_
          obtain ⟨v19, ev19, hf⟩ := sp_hb hf
          refine sp_topl ev19 ?_
          refine lv_lstore_n (lv' := [(1, .long v19), (0, .int p1), (3, .int y2)]) hx hb dX0_tableOf_28 rfl hl (by decide) rfl (fun ls hl => ?_)
          exact hj8 _ _ _ _ hf hW (lv_sub hl [1, 0, 2] rfl)
  exact hlp4 _ _ _ _ _ _ hf hW (lv_sub hl [2, 1, 0] rfl)

def f_X9_isIn (p1 : Int32) (p2 : Int64) : Option (Int32) := if (lg_cmp ((p2 >>> (p1.toInt64 &&& 63)) &&& (1 : Int64)) (0 : Int64)) = 0 then (some (0 : Int32)) else (some (1 : Int32))
def rmX9_isIn : Room := { frames := 0, cells := 0, slots := 0, locals := 0 }
set_option maxRecDepth 4000 in
theorem c_X9_isIn {l : Launch} {D : va_G} {q5 : Nat → ClassId} (p1 : Int32) (p2 : Int64) {r' : Int32} (hf : f_X9_isIn p1 p2 = some r') : sp_Ci l yX9_isIn wsX9_isIn rmX9_isIn D q5 0 [.int p1, .long p2] ([]) r' ([]) := by
  intro sz
  refine sp_of (cc := cX9_isIn) (maxL := 3) (ret := some .boolean) (own := RX9) (Qc := sp_Qi D r' ([])) (by decide) rfl rfl (Nat.le_of_ble_eq_true rfl) ?_
  intro p e s m args below meth c A ls Q hQ S hr hlk hK hG hA hW hl
  have hx := S.1
  have hb := S.2.1
  unfold f_X9_isIn at hf
  refine lv_lload_n hx hb dX9_isIn_0 rfl (lv_at hl 1 rfl) ?_
  refine lv_iload_n hx hb dX9_isIn_1 rfl (lv_at hl 0 rfl) ?_
  refine lv_lshr hx hb dX9_isIn_2 rfl ?_
  refine lv_lconst (v := 1) hx hb dX9_isIn_3 (by decide) ?_
  refine lv_land hx hb dX9_isIn_4 ?_
  refine lv_lconst (v := 0) hx hb dX9_isIn_5 (by decide) ?_
  refine W.lcmp hx hb dX9_isIn_6 ?_
  refine lv_if_eq (tgt := 14) hx hb dX9_isIn_7 (by decide) (fun hc => ?_) (fun hc => ?_)
  · have hf := sp_ht hf hc
    refine lv_iconst (v := 0) hx hb dX9_isIn_14 (by decide) ?_
    have q0 := Option.some.inj hf
    subst q0
    exact sp_zret S hr hlk hW rfl hQ dX9_isIn_15
  · have hf := sp_hf hf hc
    refine lv_iconst (v := 1) hx hb dX9_isIn_10 (by decide) ?_
    refine lv_goto (tgt := 15) hx hb dX9_isIn_11 (by decide) ?_
    have q0 := Option.some.inj hf
    subst q0
    exact sp_zret S hr hlk hW rfl hQ dX9_isIn_15

def f_X4_isNothing (la : Int32) : Option (Int32) := if la = (-1 : Int32) then (some (1 : Int32)) else (some (0 : Int32))
def rmX4_isNothing : Room := { frames := 0, cells := 0, slots := 0, locals := 0 }
set_option maxRecDepth 4000 in
theorem c_X4_isNothing {l : Launch} {D : va_G} {q5 : Nat → ClassId} (a : Nat → Nat) (ce : Nat → Int32) (la : Int32) (ln : Int32) {r' : Int32} (hf : f_X4_isNothing la = some r') : sp_Ci l yX4_isNothing wsX4_isNothing rmX4_isNothing D q5 0 [.ref (a 0)] (sw_S a q5 ce la ln) r' (sw_S a q5 ce la ln) := by
  intro sz
  refine sp_of (cc := cX4_isNothing) (maxL := 1) (ret := some .boolean) (own := RX4) (Qc := sp_Qi D r' (sw_S a q5 ce la ln)) (by decide) rfl rfl (Nat.le_of_ble_eq_true rfl) ?_
  intro p e s m args below meth c A ls Q hQ S hr hlk hK hG hA hW hl
  have hx := S.1
  have hb := S.2.1
  unfold f_X4_isNothing at hf
  have inX4 : ∀ w ∈ u_ws RX4 TX4 3, w ∈ wsX4_isNothing := (fun _ h => List.mem_cons_of_mem _ (List.mem_append_right _ h))
  have lk1 := S.2.2.2.2 (Cond.fieldLink RX4 15 "ShortProofs$Sheet" "lane" "I") (List.mem_of_getElem? (i := 1) rfl)
  refine lv_aload_n hx hb dX4_isNothing_0 rfl (lv_at hl 0 rfl) ?_
  refine sp_get S hK hW inX4 0 rfl rfl 1 (by decide) lk1 rfl dX4_isNothing_1 ?_
  refine lv_iconst (v := (-1)) hx hb dX4_isNothing_4 (by decide) ?_
  refine lv_icmp_ne (tgt := 12) hx hb dX4_isNothing_5 (by decide) (fun hc => ?_) (fun hc => ?_)
  · have hf := sp_hf hf hc
    refine lv_iconst (v := 0) hx hb dX4_isNothing_12 (by decide) ?_
    cases hf
    exact sp_zret S hr hlk hW rfl hQ dX4_isNothing_13
  · have hf := sp_ht hf hc
    refine lv_iconst (v := 1) hx hb dX4_isNothing_8 (by decide) ?_
    refine lv_goto (tgt := 13) hx hb dX4_isNothing_9 (by decide) ?_
    cases hf
    exact sp_zret S hr hlk hW rfl hQ dX4_isNothing_13

def f_X4_begin_L12 (k4 : (Nat → Int32) → Option ((Nat → Int32) × Int32 × Int32)) (rec12 : (Int32 × (Nat → Int32)) → Option ((Nat → Int32) × Int32 × Int32)) (s9 : Int32 × (Nat → Int32)) : Option ((Nat → Int32) × Int32 × Int32) := match s9 with
  | (y1, c2) => if (60 : Int32) ≤ y1 then (k4 c2) else (sp_st c2 60 y1 (0 : Int32) (fun c5 => sp_bnd (y1 + (1 : Int32)) (fun v6 => rec12 (v6, c5))))
theorem f_X4_begin_L12_eq {rec12 : (Int32 × (Nat → Int32)) → Option ((Nat → Int32) × Int32 × Int32)} {k4 : (Nat → Int32) → Option ((Nat → Int32) × Int32 × Int32)} {y1 : Int32} {c2 : Nat → Int32} : f_X4_begin_L12 k4 rec12 (y1, c2) = (if (60 : Int32) ≤ y1 then (k4 c2) else (sp_st c2 60 y1 (0 : Int32) (fun c5 => sp_bnd (y1 + (1 : Int32)) (fun v6 => rec12 (v6, c5))))) := rfl
def f_X4_begin (p1 : Int32) (p2 : Int32) (ce : Nat → Int32) : Option ((Nat → Int32) × Int32 × Int32) := sp_bnd (fun (c3 : Nat → Int32) => some (c3, p1, p2)) (fun k4 => sp_lp (f_X4_begin_L12 k4) sp_F ((0 : Int32), ce))
def rmX4_begin : Room := { frames := 0, cells := 0, slots := 0, locals := 0 }
set_option maxRecDepth 4000 in
theorem c_X4_begin {l : Launch} {D : va_G} {q5 : Nat → ClassId} (a : Nat → Nat) (ce : Nat → Int32) (la : Int32) (ln : Int32) (p1 : Int32) (p2 : Int32) {ce' : Nat → Int32} {la' : Int32} {ln' : Int32} (hf : f_X4_begin p1 p2 ce = some (ce', la', ln')) : sp_Cv l yX4_begin wsX4_begin rmX4_begin D q5 0 [.ref (a 0), .int p1, .int p2] (sw_S a q5 ce la ln) (sw_S a q5 ce' la' ln') := by
  intro sz
  refine sp_of (cc := cX4_begin) (maxL := 4) (ret := none) (own := RX4) (Qc := sp_Qv D (sw_S a q5 ce' la' ln')) (by decide) rfl rfl (Nat.le_of_ble_eq_true rfl) ?_
  intro p e s m args below meth c A ls Q hQ S hr hlk hK hG hA hW hl
  have hx := S.1
  have hb := S.2.1
  unfold f_X4_begin at hf
  have inX4 : ∀ w ∈ u_ws RX4 TX4 3, w ∈ wsX4_begin := (fun _ h => List.mem_cons_of_mem _ (List.mem_append_right _ h))
  have lk1 := S.2.2.2.2 (Cond.fieldLink RX4 15 "ShortProofs$Sheet" "lane" "I") (List.mem_of_getElem? (i := 1) rfl)
  have lk2 := S.2.2.2.2 (Cond.fieldLink RX4 19 "ShortProofs$Sheet" "length" "I") (List.mem_of_getElem? (i := 2) rfl)
  have lk3 := S.2.2.2.2 (Cond.fieldLink RX4 9 "ShortProofs$Sheet" "cells" "[I") (List.mem_of_getElem? (i := 3) rfl)
  refine lv_aload_n hx hb dX4_begin_0 rfl (lv_at hl 0 rfl) ?_
  refine lv_iload_n hx hb dX4_begin_1 rfl (lv_at hl 1 rfl) ?_
  refine sp_put S hK hW inX4 tyX4_ok nmX4 0 rfl rfl 1 (by decide) lk1 rfl rfl rfl (Nat.le_of_ble_eq_true rfl) (ws' := sw_S a q5 ce p1 ln) rfl dX4_begin_2 (fun H locs hW => ?_)
  refine lv_aload_n hx hb dX4_begin_5 rfl (lv_at hl 0 rfl) ?_
  refine lv_iload_n hx hb dX4_begin_6 rfl (lv_at hl 2 rfl) ?_
  refine sp_put S hK hW inX4 tyX4_ok nmX4 0 rfl rfl 2 (by decide) lk2 rfl rfl rfl (Nat.le_of_ble_eq_true rfl) (ws' := sw_S a q5 ce p1 p2) rfl dX4_begin_7 (fun H locs hW => ?_)
  refine lv_iconst (v := 0) hx hb dX4_begin_10 (by decide) ?_
  refine lv_istore_n (lv' := [(3, .int (0 : Int32)), (0, .ref (a 0)), (1, .int p1), (2, .int p2)]) hx hb dX4_begin_11 rfl hl (by decide) rfl (fun ls hl => ?_)
  obtain ⟨k4, ek4, hf⟩ := sp_hb hf
  have hj4 : ∀ (c3 : Nat → Int32) (H : Heap) (locs : List Loc) (ls : Array Slot), k4 c3 = some (ce', la', ln') → sp_wd D A s.heap (sw_S a q5 c3 p1 p2) H locs → lv_has ls 4 [] → W p l e rmX4_begin s m args below meth c H locs 0 0 Q (F0 m 31 ls []) := by
    intro c3 H locs ls hf hW hl
    rw [ek4] at hf
    cases hf
    exact sp_vret S hr hlk hW hQ dX4_begin_31
  have hlp12 : ∀ (n9 : Nat) (y1 : Int32) (c2 : Nat → Int32) (H : Heap) (locs : List Loc) (ls : Array Slot), sp_lp (f_X4_begin_L12 k4) n9 (y1, c2) = some (ce', la', ln') → sp_wd D A s.heap (sw_S a q5 c2 p1 p2) H locs → lv_has ls 4 [(0, .ref (a 0)), (3, .int y1)] → W p l e rmX4_begin s m args below meth c H locs 0 0 Q (F0 m 12 ls []) := by
    intro n9
    induction n9 with
    | zero =>
      intro y1 c2 H locs ls hf hW hl
      exact (sp_lp0 hf).elim
    | succ n9 ih12 =>
      intro y1 c2 H locs ls hf hW hl
      have hf := sp_lpS hf
      rw [f_X4_begin_L12_eq] at hf
      refine lv_iload_n hx hb dX4_begin_12 rfl (lv_at hl 1 rfl) ?_
      refine lv_bipush (v := 60) hx hb dX4_begin_13 (by decide) ?_
      refine lv_icmp_ge (tgt := 31) hx hb dX4_begin_15 (by decide) (fun hc => ?_) (fun hc => ?_)
      · have hf := sp_ht hf hc
        exact hj4 _ _ _ _ hf hW (lv_sub hl [] rfl)
      · have hf := sp_hf hf hc
        refine lv_aload_n hx hb dX4_begin_18 rfl (lv_at hl 0 rfl) ?_
        refine sp_get S hK hW inX4 0 rfl rfl 0 (by decide) lk3 rfl dX4_begin_19 ?_
        refine lv_iload_n hx hb dX4_begin_22 rfl (lv_at hl 1 rfl) ?_
        refine lv_iconst (v := 0) hx hb dX4_begin_23 (by decide) ?_
        obtain ⟨hin, c5, ec5, hf⟩ := sp_hst hf
        refine sp_iast S hK hW 1 rfl hin ec5 (ws' := sw_S a q5 c5 p1 p2) rfl dX4_begin_24 (fun H locs hW => ?_)
        obtain ⟨v6, ev6, hf⟩ := sp_hb hf
        refine lv_iinc (v := v6) (lv' := [(3, .int v6), (0, .ref (a 0))]) hx hb dX4_begin_25 hl (k := 1) rfl (by rw [ev6]; rfl) (by decide) rfl (fun ls hl => ?_)
        refine lv_goto (tgt := 12) hx hb dX4_begin_28 (by decide) ?_
        exact ih12 _ _ _ _ _ hf hW (lv_sub hl [1, 0] rfl)
  exact hlp12 _ _ _ _ _ _ hf hW (lv_sub hl [1, 0] rfl)

def f_X4_faultAs (p1 : Int32) (la : Int32) : Option (Int32) := Option.bind (f_X4_isNothing la) (fun r1 => if r1 = 0 then (if la = p1 then (some (0 : Int32)) else (some (2 : Int32))) else (some (1 : Int32)))
def rmX4_faultAs : Room := { frames := 1, cells := 0, slots := 0, locals := 20 }
set_option maxRecDepth 4000 in
theorem c_X4_faultAs {l : Launch} {D : va_G} {q5 : Nat → ClassId} (a : Nat → Nat) (ce : Nat → Int32) (la : Int32) (ln : Int32) (p1 : Int32) {r' : Int32} (hf : f_X4_faultAs p1 la = some r') : sp_Ci l yX4_faultAs wsX4_faultAs rmX4_faultAs D q5 0 [.ref (a 0), .int p1] (sw_S a q5 ce la ln) r' (sw_S a q5 ce la ln) := by
  intro sz
  refine sp_of (cc := cX4_faultAs) (maxL := 2) (ret := some .int) (own := RX4) (Qc := sp_Qi D r' (sw_S a q5 ce la ln)) (by decide) rfl rfl (Nat.le_of_ble_eq_true rfl) ?_
  intro p e s m args below meth c A ls Q hQ S hr hlk hK hG hA hW hl
  have hx := S.1
  have hb := S.2.1
  unfold f_X4_faultAs at hf
  have inX4 : ∀ w ∈ u_ws RX4 TX4 3, w ∈ wsX4_faultAs := (fun _ h => List.mem_cons_of_mem _ (List.mem_append_right _ h))
  have lk1 := S.2.2.2.2 (Cond.fieldLink RX4 15 "ShortProofs$Sheet" "lane" "I") (List.mem_of_getElem? (i := 1) rfl)
  refine lv_aload_n hx hb dX4_faultAs_0 rfl (lv_at hl 0 rfl) ?_
  obtain ⟨r1, hc1, hf⟩ := sp_hc hf
  refine sp_callViP (rest := []) S hK hG hA hW (c_X4_isNothing a ce la ln hc1) (by decide) (cwV 0 S.2.2.2.2 gX4_faultAs_X4_isNothing rfl rfl rfl (by decide +kernel) (by decide)) 3 0 rfl rfl (sp_pn _) rfl (WS' := sw_S a q5 ce la ln) (sp_pn' _) rfl hl.1 (Nat.le_of_ble_eq_true rfl) dX4_faultAs_1 ⟨Nat.zero_le _, Nat.zero_le _⟩ rfl (fun H locs hW => ?_)
  refine lv_if_eq (tgt := 9) hx hb dX4_faultAs_4 (by decide) (fun hc => ?_) (fun hc => ?_)
  · have hf := sp_ht hf hc
    refine lv_aload_n hx hb dX4_faultAs_9 rfl (lv_at hl 0 rfl) ?_
    refine sp_get S hK hW inX4 0 rfl rfl 1 (by decide) lk1 rfl dX4_faultAs_10 ?_
    refine lv_iload_n hx hb dX4_faultAs_13 rfl (lv_at hl 1 rfl) ?_
    refine lv_icmp_ne (tgt := 21) hx hb dX4_faultAs_14 (by decide) (fun hc => ?_) (fun hc => ?_)
    · have hf := sp_hf hf hc
      refine lv_iconst (v := 2) hx hb dX4_faultAs_21 (by decide) ?_
      cases hf
      exact sp_iret S hr hlk hW hQ dX4_faultAs_22
    · have hf := sp_ht hf hc
      refine lv_iconst (v := 0) hx hb dX4_faultAs_17 (by decide) ?_
      refine lv_goto (tgt := 22) hx hb dX4_faultAs_18 (by decide) ?_
      cases hf
      exact sp_iret S hr hlk hW hQ dX4_faultAs_22
  · have hf := sp_hf hf hc
    refine lv_iconst (v := 1) hx hb dX4_faultAs_7 (by decide) ?_
    cases hf
    exact sp_iret S hr hlk hW hQ dX4_faultAs_8

def f_X4_hasCell (p1 : Int32) (ln : Int32) : Option (Int32) := if p1 < 0 then (some (0 : Int32)) else (if ln ≤ p1 then (some (0 : Int32)) else (some (1 : Int32)))
def rmX4_hasCell : Room := { frames := 0, cells := 0, slots := 0, locals := 0 }
set_option maxRecDepth 4000 in
theorem c_X4_hasCell {l : Launch} {D : va_G} {q5 : Nat → ClassId} (a : Nat → Nat) (ce : Nat → Int32) (la : Int32) (ln : Int32) (p1 : Int32) {r' : Int32} (hf : f_X4_hasCell p1 ln = some r') : sp_Ci l yX4_hasCell wsX4_hasCell rmX4_hasCell D q5 0 [.ref (a 0), .int p1] (sw_S a q5 ce la ln) r' (sw_S a q5 ce la ln) := by
  intro sz
  refine sp_of (cc := cX4_hasCell) (maxL := 2) (ret := some .boolean) (own := RX4) (Qc := sp_Qi D r' (sw_S a q5 ce la ln)) (by decide) rfl rfl (Nat.le_of_ble_eq_true rfl) ?_
  intro p e s m args below meth c A ls Q hQ S hr hlk hK hG hA hW hl
  have hx := S.1
  have hb := S.2.1
  unfold f_X4_hasCell at hf
  have inX4 : ∀ w ∈ u_ws RX4 TX4 3, w ∈ wsX4_hasCell := (fun _ h => List.mem_cons_of_mem _ (List.mem_append_right _ h))
  have lk1 := S.2.2.2.2 (Cond.fieldLink RX4 19 "ShortProofs$Sheet" "length" "I") (List.mem_of_getElem? (i := 1) rfl)
  refine lv_iload_n hx hb dX4_hasCell_0 rfl (lv_at hl 1 rfl) ?_
  refine lv_if_lt (tgt := 16) hx hb dX4_hasCell_1 (by decide) (fun hc => ?_) (fun hc => ?_)
  · have hf := sp_ht hf hc
    refine lv_iconst (v := 0) hx hb dX4_hasCell_16 (by decide) ?_
    cases hf
    exact sp_zret S hr hlk hW rfl hQ dX4_hasCell_17
  · have hf := sp_hf hf hc
    refine lv_iload_n hx hb dX4_hasCell_4 rfl (lv_at hl 1 rfl) ?_
    refine lv_aload_n hx hb dX4_hasCell_5 rfl (lv_at hl 0 rfl) ?_
    refine sp_get S hK hW inX4 0 rfl rfl 2 (by decide) lk1 rfl dX4_hasCell_6 ?_
    refine lv_icmp_ge (tgt := 16) hx hb dX4_hasCell_9 (by decide) (fun hc => ?_) (fun hc => ?_)
    · have hf := sp_ht hf hc
      refine lv_iconst (v := 0) hx hb dX4_hasCell_16 (by decide) ?_
      cases hf
      exact sp_zret S hr hlk hW rfl hQ dX4_hasCell_17
    · have hf := sp_hf hf hc
      refine lv_iconst (v := 1) hx hb dX4_hasCell_12 (by decide) ?_
      refine lv_goto (tgt := 17) hx hb dX4_hasCell_13 (by decide) ?_
      cases hf
      exact sp_zret S hr hlk hW rfl hQ dX4_hasCell_17

def f_X4_hasCells (p1 : Int32) (p2 : Int32) (ln : Int32) : Option (Int32) := if p1 < 0 then (some (0 : Int32)) else (if ln < p1 then (some (0 : Int32)) else (if p2 < 0 then (some (0 : Int32)) else (if (ln - p1) < p2 then (some (0 : Int32)) else (some (1 : Int32)))))
def rmX4_hasCells : Room := { frames := 0, cells := 0, slots := 0, locals := 0 }
set_option maxRecDepth 4000 in
theorem c_X4_hasCells {l : Launch} {D : va_G} {q5 : Nat → ClassId} (a : Nat → Nat) (ce : Nat → Int32) (la : Int32) (ln : Int32) (p1 : Int32) (p2 : Int32) {r' : Int32} (hf : f_X4_hasCells p1 p2 ln = some r') : sp_Ci l yX4_hasCells wsX4_hasCells rmX4_hasCells D q5 0 [.ref (a 0), .int p1, .int p2] (sw_S a q5 ce la ln) r' (sw_S a q5 ce la ln) := by
  intro sz
  refine sp_of (cc := cX4_hasCells) (maxL := 3) (ret := some .boolean) (own := RX4) (Qc := sp_Qi D r' (sw_S a q5 ce la ln)) (by decide) rfl rfl (Nat.le_of_ble_eq_true rfl) ?_
  intro p e s m args below meth c A ls Q hQ S hr hlk hK hG hA hW hl
  have hx := S.1
  have hb := S.2.1
  unfold f_X4_hasCells at hf
  have inX4 : ∀ w ∈ u_ws RX4 TX4 3, w ∈ wsX4_hasCells := (fun _ h => List.mem_cons_of_mem _ (List.mem_append_right _ h))
  have lk1 := S.2.2.2.2 (Cond.fieldLink RX4 19 "ShortProofs$Sheet" "length" "I") (List.mem_of_getElem? (i := 1) rfl)
  refine lv_iload_n hx hb dX4_hasCells_0 rfl (lv_at hl 1 rfl) ?_
  refine lv_if_lt (tgt := 30) hx hb dX4_hasCells_1 (by decide) (fun hc => ?_) (fun hc => ?_)
  · have hf := sp_ht hf hc
    refine lv_iconst (v := 0) hx hb dX4_hasCells_30 (by decide) ?_
    cases hf
    exact sp_zret S hr hlk hW rfl hQ dX4_hasCells_31
  · have hf := sp_hf hf hc
    refine lv_iload_n hx hb dX4_hasCells_4 rfl (lv_at hl 1 rfl) ?_
    refine lv_aload_n hx hb dX4_hasCells_5 rfl (lv_at hl 0 rfl) ?_
    refine sp_get S hK hW inX4 0 rfl rfl 2 (by decide) lk1 rfl dX4_hasCells_6 ?_
    refine lv_icmp_gt (tgt := 30) hx hb dX4_hasCells_9 (by decide) (fun hc => ?_) (fun hc => ?_)
    · have hf := sp_ht hf hc
      refine lv_iconst (v := 0) hx hb dX4_hasCells_30 (by decide) ?_
      cases hf
      exact sp_zret S hr hlk hW rfl hQ dX4_hasCells_31
    · have hf := sp_hf hf hc
      refine lv_iload_n hx hb dX4_hasCells_12 rfl (lv_at hl 2 rfl) ?_
      refine lv_if_lt (tgt := 30) hx hb dX4_hasCells_13 (by decide) (fun hc => ?_) (fun hc => ?_)
      · have hf := sp_ht hf hc
        refine lv_iconst (v := 0) hx hb dX4_hasCells_30 (by decide) ?_
        cases hf
        exact sp_zret S hr hlk hW rfl hQ dX4_hasCells_31
      · have hf := sp_hf hf hc
        refine lv_iload_n hx hb dX4_hasCells_16 rfl (lv_at hl 2 rfl) ?_
        refine lv_aload_n hx hb dX4_hasCells_17 rfl (lv_at hl 0 rfl) ?_
        refine sp_get S hK hW inX4 0 rfl rfl 2 (by decide) lk1 rfl dX4_hasCells_18 ?_
        refine lv_iload_n hx hb dX4_hasCells_21 rfl (lv_at hl 1 rfl) ?_
        refine lv_isub hx hb dX4_hasCells_22 ?_
        refine lv_icmp_gt (tgt := 30) hx hb dX4_hasCells_23 (by decide) (fun hc => ?_) (fun hc => ?_)
        · have hf := sp_ht hf hc
          refine lv_iconst (v := 0) hx hb dX4_hasCells_30 (by decide) ?_
          cases hf
          exact sp_zret S hr hlk hW rfl hQ dX4_hasCells_31
        · have hf := sp_hf hf hc
          refine lv_iconst (v := 1) hx hb dX4_hasCells_26 (by decide) ?_
          refine lv_goto (tgt := 31) hx hb dX4_hasCells_27 (by decide) ?_
          cases hf
          exact sp_zret S hr hlk hW rfl hQ dX4_hasCells_31

def f_X4_write (p1 : Int32) (p2 : Int32) (ce : Nat → Int32) (la : Int32) : Option ((Nat → Int32)) := if la = 0 then (sp_st ce 60 p1 (p2.toInt8.toInt32) (fun c3 => some c3)) else (if la = (1 : Int32) then (sp_st ce 60 p1 (p2.toInt16.toInt32) (fun c2 => some c2)) else (sp_st ce 60 p1 p2 (fun c1 => some c1)))
def rmX4_write : Room := { frames := 0, cells := 0, slots := 0, locals := 0 }
set_option maxRecDepth 4000 in
theorem c_X4_write {l : Launch} {D : va_G} {q5 : Nat → ClassId} (a : Nat → Nat) (ce : Nat → Int32) (la : Int32) (ln : Int32) (p1 : Int32) (p2 : Int32) {ce' : Nat → Int32} (hf : f_X4_write p1 p2 ce la = some ce') : sp_Cv l yX4_write wsX4_write rmX4_write D q5 0 [.ref (a 0), .int p1, .int p2] (sw_S a q5 ce la ln) (sw_S a q5 ce' la ln) := by
  intro sz
  refine sp_of (cc := cX4_write) (maxL := 3) (ret := none) (own := RX4) (Qc := sp_Qv D (sw_S a q5 ce' la ln)) (by decide) rfl rfl (Nat.le_of_ble_eq_true rfl) ?_
  intro p e s m args below meth c A ls Q hQ S hr hlk hK hG hA hW hl
  have hx := S.1
  have hb := S.2.1
  unfold f_X4_write at hf
  have inX4 : ∀ w ∈ u_ws RX4 TX4 3, w ∈ wsX4_write := (fun _ h => List.mem_cons_of_mem _ (List.mem_append_right _ h))
  have lk1 := S.2.2.2.2 (Cond.fieldLink RX4 15 "ShortProofs$Sheet" "lane" "I") (List.mem_of_getElem? (i := 1) rfl)
  have lk2 := S.2.2.2.2 (Cond.fieldLink RX4 9 "ShortProofs$Sheet" "cells" "[I") (List.mem_of_getElem? (i := 2) rfl)
  refine lv_aload_n hx hb dX4_write_0 rfl (lv_at hl 0 rfl) ?_
  refine sp_get S hK hW inX4 0 rfl rfl 1 (by decide) lk1 rfl dX4_write_1 ?_
  refine lv_if_ne (tgt := 18) hx hb dX4_write_4 (by decide) (fun hc => ?_) (fun hc => ?_)
  · have hf := sp_hf hf hc
    refine lv_aload_n hx hb dX4_write_18 rfl (lv_at hl 0 rfl) ?_
    refine sp_get S hK hW inX4 0 rfl rfl 1 (by decide) lk1 rfl dX4_write_19 ?_
    refine lv_iconst (v := 1) hx hb dX4_write_22 (by decide) ?_
    refine lv_icmp_ne (tgt := 37) hx hb dX4_write_23 (by decide) (fun hc => ?_) (fun hc => ?_)
    · have hf := sp_hf hf hc
      refine lv_aload_n hx hb dX4_write_37 rfl (lv_at hl 0 rfl) ?_
      refine sp_get S hK hW inX4 0 rfl rfl 0 (by decide) lk2 rfl dX4_write_38 ?_
      refine lv_iload_n hx hb dX4_write_41 rfl (lv_at hl 1 rfl) ?_
      refine lv_iload_n hx hb dX4_write_42 rfl (lv_at hl 2 rfl) ?_
      obtain ⟨hin, c1, ec1, hf⟩ := sp_hst hf
      refine sp_iast S hK hW 1 rfl hin ec1 (ws' := sw_S a q5 c1 la ln) rfl dX4_write_43 (fun H locs hW => ?_)
      cases hf
      exact sp_vret S hr hlk hW hQ dX4_write_44
    · have hf := sp_ht hf hc
      refine lv_aload_n hx hb dX4_write_26 rfl (lv_at hl 0 rfl) ?_
      refine sp_get S hK hW inX4 0 rfl rfl 0 (by decide) lk2 rfl dX4_write_27 ?_
      refine lv_iload_n hx hb dX4_write_30 rfl (lv_at hl 1 rfl) ?_
      refine lv_iload_n hx hb dX4_write_31 rfl (lv_at hl 2 rfl) ?_
      refine lv_i2s hx hb dX4_write_32 rfl ?_
      obtain ⟨hin, c2, ec2, hf⟩ := sp_hst hf
      refine sp_iast S hK hW 1 rfl hin ec2 (ws' := sw_S a q5 c2 la ln) rfl dX4_write_33 (fun H locs hW => ?_)
      refine lv_goto (tgt := 44) hx hb dX4_write_34 (by decide) ?_
      cases hf
      exact sp_vret S hr hlk hW hQ dX4_write_44
  · have hf := sp_ht hf hc
    refine lv_aload_n hx hb dX4_write_7 rfl (lv_at hl 0 rfl) ?_
    refine sp_get S hK hW inX4 0 rfl rfl 0 (by decide) lk2 rfl dX4_write_8 ?_
    refine lv_iload_n hx hb dX4_write_11 rfl (lv_at hl 1 rfl) ?_
    refine lv_iload_n hx hb dX4_write_12 rfl (lv_at hl 2 rfl) ?_
    refine lv_i2b hx hb dX4_write_13 rfl ?_
    obtain ⟨hin, c3, ec3, hf⟩ := sp_hst hf
    refine sp_iast S hK hW 1 rfl hin ec3 (ws' := sw_S a q5 c3 la ln) rfl dX4_write_14 (fun H locs hW => ?_)
    refine lv_goto (tgt := 44) hx hb dX4_write_15 (by decide) ?_
    cases hf
    exact sp_vret S hr hlk hW hQ dX4_write_44

def f_J6_bitCount_0f7a4 (p1 : Int32) : Option (Int32) := sp_bnd (p1 - ((p1.toUInt32 >>> ((1 : Int32).toUInt32 &&& Int32.toUInt32 31)).toInt32 &&& (1431655765 : Int32))) (fun v1 => sp_bnd ((v1 &&& (858993459 : Int32)) + ((v1.toUInt32 >>> ((2 : Int32).toUInt32 &&& Int32.toUInt32 31)).toInt32 &&& (858993459 : Int32))) (fun v2 => sp_bnd ((v2 + (v2.toUInt32 >>> ((4 : Int32).toUInt32 &&& Int32.toUInt32 31)).toInt32) &&& (252645135 : Int32)) (fun v3 => sp_bnd (v3 + (v3.toUInt32 >>> ((8 : Int32).toUInt32 &&& Int32.toUInt32 31)).toInt32) (fun v4 => sp_bnd (v4 + (v4.toUInt32 >>> ((16 : Int32).toUInt32 &&& Int32.toUInt32 31)).toInt32) (fun v5 => some (v5 &&& (63 : Int32)))))))
def rmJ6_bitCount_0f7a4 : Room := { frames := 0, cells := 0, slots := 0, locals := 0 }
set_option maxRecDepth 4000 in
theorem c_J6_bitCount_0f7a4 {l : Launch} {D : va_G} {q5 : Nat → ClassId} (p1 : Int32) {r' : Int32} (hf : f_J6_bitCount_0f7a4 p1 = some r') : sp_Ci l yJ6_bitCount_0f7a4 wsJ6_bitCount_0f7a4 rmJ6_bitCount_0f7a4 D q5 0 [.int p1] ([]) r' ([]) := by
  intro sz
  refine sp_of (cc := cJ6_bitCount_0f7a4) (maxL := 1) (ret := some .int) (own := RJ6) (Qc := sp_Qi D r' ([])) (by decide) rfl rfl (Nat.le_of_ble_eq_true rfl) ?_
  intro p e s m args below meth c A ls Q hQ S hr hlk hK hG hA hW hl
  have hx := S.1
  have hb := S.2.1
  unfold f_J6_bitCount_0f7a4 at hf
  have lk1 := S.2.2.2.2 (Cond.constant RJ6 265 (1431655765)) (List.mem_of_getElem? (i := 1) rfl)
  have lk2 := S.2.2.2.2 (Cond.constant RJ6 266 (858993459)) (List.mem_of_getElem? (i := 2) rfl)
  have lk3 := S.2.2.2.2 (Cond.constant RJ6 267 (252645135)) (List.mem_of_getElem? (i := 3) rfl)
  refine lv_iload_n hx hb dJ6_bitCount_0f7a4_0 rfl (lv_at hl 0 rfl) ?_
  refine lv_iload_n hx hb dJ6_bitCount_0f7a4_1 rfl (lv_at hl 0 rfl) ?_
  refine lv_iconst (v := 1) hx hb dJ6_bitCount_0f7a4_2 (by decide) ?_
  refine lv_iushr hx hb dJ6_bitCount_0f7a4_3 rfl ?_
  refine lv_ldcw hx hb S.2.2.2.1 lk1 dJ6_bitCount_0f7a4_4 ?_
  refine lv_iand hx hb dJ6_bitCount_0f7a4_7 ?_
  refine lv_isub hx hb dJ6_bitCount_0f7a4_8 ?_
  obtain ⟨v1, ev1, hf⟩ := sp_hb hf
  refine sp_topi ev1 ?_
  refine lv_istore_n (lv' := [(0, .int v1)]) hx hb dJ6_bitCount_0f7a4_9 rfl hl (by decide) rfl (fun ls hl => ?_)
  refine lv_iload_n hx hb dJ6_bitCount_0f7a4_10 rfl (lv_at hl 0 rfl) ?_
  refine lv_ldcw hx hb S.2.2.2.1 lk2 dJ6_bitCount_0f7a4_11 ?_
  refine lv_iand hx hb dJ6_bitCount_0f7a4_14 ?_
  refine lv_iload_n hx hb dJ6_bitCount_0f7a4_15 rfl (lv_at hl 0 rfl) ?_
  refine lv_iconst (v := 2) hx hb dJ6_bitCount_0f7a4_16 (by decide) ?_
  refine lv_iushr hx hb dJ6_bitCount_0f7a4_17 rfl ?_
  refine lv_ldcw hx hb S.2.2.2.1 lk2 dJ6_bitCount_0f7a4_18 ?_
  refine lv_iand hx hb dJ6_bitCount_0f7a4_21 ?_
  refine lv_iadd hx hb dJ6_bitCount_0f7a4_22 ?_
  obtain ⟨v2, ev2, hf⟩ := sp_hb hf
  refine sp_topi ev2 ?_
  refine lv_istore_n (lv' := [(0, .int v2)]) hx hb dJ6_bitCount_0f7a4_23 rfl hl (by decide) rfl (fun ls hl => ?_)
  refine lv_iload_n hx hb dJ6_bitCount_0f7a4_24 rfl (lv_at hl 0 rfl) ?_
  refine lv_iload_n hx hb dJ6_bitCount_0f7a4_25 rfl (lv_at hl 0 rfl) ?_
  refine lv_iconst (v := 4) hx hb dJ6_bitCount_0f7a4_26 (by decide) ?_
  refine lv_iushr hx hb dJ6_bitCount_0f7a4_27 rfl ?_
  refine lv_iadd hx hb dJ6_bitCount_0f7a4_28 ?_
  refine lv_ldcw hx hb S.2.2.2.1 lk3 dJ6_bitCount_0f7a4_29 ?_
  refine lv_iand hx hb dJ6_bitCount_0f7a4_32 ?_
  obtain ⟨v3, ev3, hf⟩ := sp_hb hf
  refine sp_topi ev3 ?_
  refine lv_istore_n (lv' := [(0, .int v3)]) hx hb dJ6_bitCount_0f7a4_33 rfl hl (by decide) rfl (fun ls hl => ?_)
  refine lv_iload_n hx hb dJ6_bitCount_0f7a4_34 rfl (lv_at hl 0 rfl) ?_
  refine lv_iload_n hx hb dJ6_bitCount_0f7a4_35 rfl (lv_at hl 0 rfl) ?_
  refine lv_bipush (v := 8) hx hb dJ6_bitCount_0f7a4_36 (by decide) ?_
  refine lv_iushr hx hb dJ6_bitCount_0f7a4_38 rfl ?_
  refine lv_iadd hx hb dJ6_bitCount_0f7a4_39 ?_
  obtain ⟨v4, ev4, hf⟩ := sp_hb hf
  refine sp_topi ev4 ?_
  refine lv_istore_n (lv' := [(0, .int v4)]) hx hb dJ6_bitCount_0f7a4_40 rfl hl (by decide) rfl (fun ls hl => ?_)
  refine lv_iload_n hx hb dJ6_bitCount_0f7a4_41 rfl (lv_at hl 0 rfl) ?_
  refine lv_iload_n hx hb dJ6_bitCount_0f7a4_42 rfl (lv_at hl 0 rfl) ?_
  refine lv_bipush (v := 16) hx hb dJ6_bitCount_0f7a4_43 (by decide) ?_
  refine lv_iushr hx hb dJ6_bitCount_0f7a4_45 rfl ?_
  refine lv_iadd hx hb dJ6_bitCount_0f7a4_46 ?_
  obtain ⟨v5, ev5, hf⟩ := sp_hb hf
  refine sp_topi ev5 ?_
  refine lv_istore_n (lv' := [(0, .int v5)]) hx hb dJ6_bitCount_0f7a4_47 rfl hl (by decide) rfl (fun ls hl => ?_)
  refine lv_iload_n hx hb dJ6_bitCount_0f7a4_48 rfl (lv_at hl 0 rfl) ?_
  refine lv_bipush (v := 63) hx hb dJ6_bitCount_0f7a4_49 (by decide) ?_
  refine lv_iand hx hb dJ6_bitCount_0f7a4_51 ?_
  cases hf
  exact sp_iret S hr hlk hW hQ dJ6_bitCount_0f7a4_52

def f_J6_numberOfTrailingZeros_0f7a4 (p1 : Int32) : Option (Int32) := sp_bnd ((p1 ^^^ (-1 : Int32)) &&& (p1 - (1 : Int32))) (fun v1 => if 0 < v1 then (sp_bnd (fun (x2 : Int32) (x3 : Int32) => sp_bnd (fun (x5 : Int32) (x6 : Int32) => sp_bnd (fun (x8 : Int32) (x9 : Int32) => sp_bnd (fun (x11 : Int32) (x12 : Int32) => some (x12 + (x11.toUInt32 >>> ((1 : Int32).toUInt32 &&& Int32.toUInt32 31)).toInt32)) (fun k13 => if x8 ≤ (4 : Int32) then (k13 x8 x9) else (sp_bnd (x9 + (2 : Int32)) (fun v14 => sp_bnd ((x8.toUInt32 >>> ((2 : Int32).toUInt32 &&& Int32.toUInt32 31)).toInt32) (fun v15 => k13 v15 v14))))) (fun k10 => if x5 ≤ (16 : Int32) then (k10 x5 x6) else (sp_bnd (x6 + (4 : Int32)) (fun v16 => sp_bnd ((x5.toUInt32 >>> ((4 : Int32).toUInt32 &&& Int32.toUInt32 31)).toInt32) (fun v17 => k10 v17 v16))))) (fun k7 => if x2 ≤ (256 : Int32) then (k7 x2 x3) else (sp_bnd (x3 + (8 : Int32)) (fun v18 => sp_bnd ((x2.toUInt32 >>> ((8 : Int32).toUInt32 &&& Int32.toUInt32 31)).toInt32) (fun v19 => k7 v19 v18))))) (fun k4 => if v1 ≤ (65536 : Int32) then (k4 v1 (1 : Int32)) else (sp_bnd ((1 : Int32) + (16 : Int32)) (fun v20 => sp_bnd ((v1.toUInt32 >>> ((16 : Int32).toUInt32 &&& Int32.toUInt32 31)).toInt32) (fun v21 => k4 v21 v20))))) else (some (v1 &&& (32 : Int32))))
def rmJ6_numberOfTrailingZeros_0f7a4 : Room := { frames := 0, cells := 0, slots := 0, locals := 0 }
set_option maxRecDepth 4000 in
theorem c_J6_numberOfTrailingZeros_0f7a4 {l : Launch} {D : va_G} {q5 : Nat → ClassId} (p1 : Int32) {r' : Int32} (hf : f_J6_numberOfTrailingZeros_0f7a4 p1 = some r') : sp_Ci l yJ6_numberOfTrailingZeros_0f7a4 wsJ6_numberOfTrailingZeros_0f7a4 rmJ6_numberOfTrailingZeros_0f7a4 D q5 0 [.int p1] ([]) r' ([]) := by
  intro sz
  refine sp_of (cc := cJ6_numberOfTrailingZeros_0f7a4) (maxL := 2) (ret := some .int) (own := RJ6) (Qc := sp_Qi D r' ([])) (by decide) rfl rfl (Nat.le_of_ble_eq_true rfl) ?_
  intro p e s m args below meth c A ls Q hQ S hr hlk hK hG hA hW hl
  have hx := S.1
  have hb := S.2.1
  unfold f_J6_numberOfTrailingZeros_0f7a4 at hf
  have lk1 := S.2.2.2.2 (Cond.constant RJ6 264 (65536)) (List.mem_of_getElem? (i := 1) rfl)
  refine lv_iload_n hx hb dJ6_numberOfTrailingZeros_0f7a4_0 rfl (lv_at hl 0 rfl) ?_
  refine lv_iconst (v := (-1)) hx hb dJ6_numberOfTrailingZeros_0f7a4_1 (by decide) ?_
  refine lv_ixor hx hb dJ6_numberOfTrailingZeros_0f7a4_2 ?_
  refine lv_iload_n hx hb dJ6_numberOfTrailingZeros_0f7a4_3 rfl (lv_at hl 0 rfl) ?_
  refine lv_iconst (v := 1) hx hb dJ6_numberOfTrailingZeros_0f7a4_4 (by decide) ?_
  refine lv_isub hx hb dJ6_numberOfTrailingZeros_0f7a4_5 ?_
  refine lv_iand hx hb dJ6_numberOfTrailingZeros_0f7a4_6 ?_
  obtain ⟨v1, ev1, hf⟩ := sp_hb hf
  refine sp_topi ev1 ?_
  refine lv_istore_n (lv' := [(0, .int v1)]) hx hb dJ6_numberOfTrailingZeros_0f7a4_7 rfl hl (by decide) rfl (fun ls hl => ?_)
  refine lv_iload_n hx hb dJ6_numberOfTrailingZeros_0f7a4_8 rfl (lv_at hl 0 rfl) ?_
  refine lv_if_gt (tgt := 17) hx hb dJ6_numberOfTrailingZeros_0f7a4_9 (by decide) (fun hc => ?_) (fun hc => ?_)
  · have hf := sp_ht hf hc
    refine lv_iconst (v := 1) hx hb dJ6_numberOfTrailingZeros_0f7a4_17 (by decide) ?_
    refine lv_istore_n (lv' := [(1, .int (1 : Int32)), (0, .int v1)]) hx hb dJ6_numberOfTrailingZeros_0f7a4_18 rfl hl (by decide) rfl (fun ls hl => ?_)
    refine lv_iload_n hx hb dJ6_numberOfTrailingZeros_0f7a4_19 rfl (lv_at hl 1 rfl) ?_
    refine lv_ldcw hx hb S.2.2.2.1 lk1 dJ6_numberOfTrailingZeros_0f7a4_20 ?_
    obtain ⟨k4, ek4, hf⟩ := sp_hb hf
    have hj4 : ∀ (x2 : Int32) (x3 : Int32) (H : Heap) (locs : List Loc) (ls : Array Slot), k4 x2 x3 = some r' → sp_wd D A s.heap ([]) H locs → lv_has ls 2 [(0, .int x2), (1, .int x3)] → W p l e rmJ6_numberOfTrailingZeros_0f7a4 s m args below meth c H locs 0 0 Q (F0 m 34 ls []) := by
      intro x2 x3 H locs ls hf hW hl
      rw [ek4] at hf
      refine lv_iload_n hx hb dJ6_numberOfTrailingZeros_0f7a4_34 rfl (lv_at hl 0 rfl) ?_
      refine lv_sipush (v := 256) hx hb dJ6_numberOfTrailingZeros_0f7a4_35 (by decide) ?_
      obtain ⟨k7, ek7, hf⟩ := sp_hb hf
      have hj7 : ∀ (x5 : Int32) (x6 : Int32) (H : Heap) (locs : List Loc) (ls : Array Slot), k7 x5 x6 = some r' → sp_wd D A s.heap ([]) H locs → lv_has ls 2 [(0, .int x5), (1, .int x6)] → W p l e rmJ6_numberOfTrailingZeros_0f7a4 s m args below meth c H locs 0 0 Q (F0 m 49 ls []) := by
        intro x5 x6 H locs ls hf hW hl
        rw [ek7] at hf
        refine lv_iload_n hx hb dJ6_numberOfTrailingZeros_0f7a4_49 rfl (lv_at hl 0 rfl) ?_
        refine lv_bipush (v := 16) hx hb dJ6_numberOfTrailingZeros_0f7a4_50 (by decide) ?_
        obtain ⟨k10, ek10, hf⟩ := sp_hb hf
        have hj10 : ∀ (x8 : Int32) (x9 : Int32) (H : Heap) (locs : List Loc) (ls : Array Slot), k10 x8 x9 = some r' → sp_wd D A s.heap ([]) H locs → lv_has ls 2 [(0, .int x8), (1, .int x9)] → W p l e rmJ6_numberOfTrailingZeros_0f7a4 s m args below meth c H locs 0 0 Q (F0 m 62 ls []) := by
          intro x8 x9 H locs ls hf hW hl
          rw [ek10] at hf
          refine lv_iload_n hx hb dJ6_numberOfTrailingZeros_0f7a4_62 rfl (lv_at hl 0 rfl) ?_
          refine lv_iconst (v := 4) hx hb dJ6_numberOfTrailingZeros_0f7a4_63 (by decide) ?_
          obtain ⟨k13, ek13, hf⟩ := sp_hb hf
          have hj13 : ∀ (x11 : Int32) (x12 : Int32) (H : Heap) (locs : List Loc) (ls : Array Slot), k13 x11 x12 = some r' → sp_wd D A s.heap ([]) H locs → lv_has ls 2 [(0, .int x11), (1, .int x12)] → W p l e rmJ6_numberOfTrailingZeros_0f7a4 s m args below meth c H locs 0 0 Q (F0 m 74 ls []) := by
            intro x11 x12 H locs ls hf hW hl
            rw [ek13] at hf
            refine lv_iload_n hx hb dJ6_numberOfTrailingZeros_0f7a4_74 rfl (lv_at hl 1 rfl) ?_
            refine lv_iload_n hx hb dJ6_numberOfTrailingZeros_0f7a4_75 rfl (lv_at hl 0 rfl) ?_
            refine lv_iconst (v := 1) hx hb dJ6_numberOfTrailingZeros_0f7a4_76 (by decide) ?_
            refine lv_iushr hx hb dJ6_numberOfTrailingZeros_0f7a4_77 rfl ?_
            refine lv_iadd hx hb dJ6_numberOfTrailingZeros_0f7a4_78 ?_
            cases hf
            exact sp_iret S hr hlk hW hQ dJ6_numberOfTrailingZeros_0f7a4_79
          refine lv_icmp_le (tgt := 74) hx hb dJ6_numberOfTrailingZeros_0f7a4_64 (by decide) (fun hc => ?_) (fun hc => ?_)
          · have hf := sp_ht hf hc
            exact hj13 _ _ _ _ _ hf hW (lv_sub hl [0, 1] rfl)
          · have hf := sp_hf hf hc
            obtain ⟨v14, ev14, hf⟩ := sp_hb hf
            refine lv_iinc (v := v14) (lv' := [(1, .int v14), (0, .int x8)]) hx hb dJ6_numberOfTrailingZeros_0f7a4_67 hl (k := 1) rfl (by rw [ev14]; rfl) (by decide) rfl (fun ls hl => ?_)
            refine lv_iload_n hx hb dJ6_numberOfTrailingZeros_0f7a4_70 rfl (lv_at hl 1 rfl) ?_
            refine lv_iconst (v := 2) hx hb dJ6_numberOfTrailingZeros_0f7a4_71 (by decide) ?_
            refine lv_iushr hx hb dJ6_numberOfTrailingZeros_0f7a4_72 rfl ?_
            obtain ⟨v15, ev15, hf⟩ := sp_hb hf
            refine sp_topi ev15 ?_
            refine lv_istore_n (lv' := [(0, .int v15), (1, .int v14)]) hx hb dJ6_numberOfTrailingZeros_0f7a4_73 rfl hl (by decide) rfl (fun ls hl => ?_)
            exact hj13 _ _ _ _ _ hf hW (lv_sub hl [0, 1] rfl)
        refine lv_icmp_le (tgt := 62) hx hb dJ6_numberOfTrailingZeros_0f7a4_52 (by decide) (fun hc => ?_) (fun hc => ?_)
        · have hf := sp_ht hf hc
          exact hj10 _ _ _ _ _ hf hW (lv_sub hl [0, 1] rfl)
        · have hf := sp_hf hf hc
          obtain ⟨v16, ev16, hf⟩ := sp_hb hf
          refine lv_iinc (v := v16) (lv' := [(1, .int v16), (0, .int x5)]) hx hb dJ6_numberOfTrailingZeros_0f7a4_55 hl (k := 1) rfl (by rw [ev16]; rfl) (by decide) rfl (fun ls hl => ?_)
          refine lv_iload_n hx hb dJ6_numberOfTrailingZeros_0f7a4_58 rfl (lv_at hl 1 rfl) ?_
          refine lv_iconst (v := 4) hx hb dJ6_numberOfTrailingZeros_0f7a4_59 (by decide) ?_
          refine lv_iushr hx hb dJ6_numberOfTrailingZeros_0f7a4_60 rfl ?_
          obtain ⟨v17, ev17, hf⟩ := sp_hb hf
          refine sp_topi ev17 ?_
          refine lv_istore_n (lv' := [(0, .int v17), (1, .int v16)]) hx hb dJ6_numberOfTrailingZeros_0f7a4_61 rfl hl (by decide) rfl (fun ls hl => ?_)
          exact hj10 _ _ _ _ _ hf hW (lv_sub hl [0, 1] rfl)
      refine lv_icmp_le (tgt := 49) hx hb dJ6_numberOfTrailingZeros_0f7a4_38 (by decide) (fun hc => ?_) (fun hc => ?_)
      · have hf := sp_ht hf hc
        exact hj7 _ _ _ _ _ hf hW (lv_sub hl [0, 1] rfl)
      · have hf := sp_hf hf hc
        obtain ⟨v18, ev18, hf⟩ := sp_hb hf
        refine lv_iinc (v := v18) (lv' := [(1, .int v18), (0, .int x2)]) hx hb dJ6_numberOfTrailingZeros_0f7a4_41 hl (k := 1) rfl (by rw [ev18]; rfl) (by decide) rfl (fun ls hl => ?_)
        refine lv_iload_n hx hb dJ6_numberOfTrailingZeros_0f7a4_44 rfl (lv_at hl 1 rfl) ?_
        refine lv_bipush (v := 8) hx hb dJ6_numberOfTrailingZeros_0f7a4_45 (by decide) ?_
        refine lv_iushr hx hb dJ6_numberOfTrailingZeros_0f7a4_47 rfl ?_
        obtain ⟨v19, ev19, hf⟩ := sp_hb hf
        refine sp_topi ev19 ?_
        refine lv_istore_n (lv' := [(0, .int v19), (1, .int v18)]) hx hb dJ6_numberOfTrailingZeros_0f7a4_48 rfl hl (by decide) rfl (fun ls hl => ?_)
        exact hj7 _ _ _ _ _ hf hW (lv_sub hl [0, 1] rfl)
    refine lv_icmp_le (tgt := 34) hx hb dJ6_numberOfTrailingZeros_0f7a4_23 (by decide) (fun hc => ?_) (fun hc => ?_)
    · have hf := sp_ht hf hc
      exact hj4 _ _ _ _ _ hf hW (lv_sub hl [1, 0] rfl)
    · have hf := sp_hf hf hc
      obtain ⟨v20, ev20, hf⟩ := sp_hb hf
      refine lv_iinc (v := v20) (lv' := [(1, .int v20), (0, .int v1)]) hx hb dJ6_numberOfTrailingZeros_0f7a4_26 hl (k := 0) rfl (by rw [ev20]; rfl) (by decide) rfl (fun ls hl => ?_)
      refine lv_iload_n hx hb dJ6_numberOfTrailingZeros_0f7a4_29 rfl (lv_at hl 1 rfl) ?_
      refine lv_bipush (v := 16) hx hb dJ6_numberOfTrailingZeros_0f7a4_30 (by decide) ?_
      refine lv_iushr hx hb dJ6_numberOfTrailingZeros_0f7a4_32 rfl ?_
      obtain ⟨v21, ev21, hf⟩ := sp_hb hf
      refine sp_topi ev21 ?_
      refine lv_istore_n (lv' := [(0, .int v21), (1, .int v20)]) hx hb dJ6_numberOfTrailingZeros_0f7a4_33 rfl hl (by decide) rfl (fun ls hl => ?_)
      exact hj4 _ _ _ _ _ hf hW (lv_sub hl [0, 1] rfl)
  · have hf := sp_hf hf hc
    refine lv_iload_n hx hb dJ6_numberOfTrailingZeros_0f7a4_12 rfl (lv_at hl 0 rfl) ?_
    refine lv_bipush (v := 32) hx hb dJ6_numberOfTrailingZeros_0f7a4_13 (by decide) ?_
    refine lv_iand hx hb dJ6_numberOfTrailingZeros_0f7a4_15 ?_
    cases hf
    exact sp_iret S hr hlk hW hQ dJ6_numberOfTrailingZeros_0f7a4_16

def f_X9_isSheet (p1 : Int32) : Option (Int32) := if p1 < 0 then (some (0 : Int32)) else (if (4 : Int32) ≤ p1 then (some (0 : Int32)) else (some (1 : Int32)))
def rmX9_isSheet : Room := { frames := 0, cells := 0, slots := 0, locals := 0 }
set_option maxRecDepth 4000 in
theorem c_X9_isSheet {l : Launch} {D : va_G} {q5 : Nat → ClassId} (p1 : Int32) {r' : Int32} (hf : f_X9_isSheet p1 = some r') : sp_Ci l yX9_isSheet wsX9_isSheet rmX9_isSheet D q5 0 [.int p1] ([]) r' ([]) := by
  intro sz
  refine sp_of (cc := cX9_isSheet) (maxL := 1) (ret := some .boolean) (own := RX9) (Qc := sp_Qi D r' ([])) (by decide) rfl rfl (Nat.le_of_ble_eq_true rfl) ?_
  intro p e s m args below meth c A ls Q hQ S hr hlk hK hG hA hW hl
  have hx := S.1
  have hb := S.2.1
  unfold f_X9_isSheet at hf
  refine lv_iload_n hx hb dX9_isSheet_0 rfl (lv_at hl 0 rfl) ?_
  refine lv_if_lt (tgt := 13) hx hb dX9_isSheet_1 (by decide) (fun hc => ?_) (fun hc => ?_)
  · have hf := sp_ht hf hc
    refine lv_iconst (v := 0) hx hb dX9_isSheet_13 (by decide) ?_
    have q0 := Option.some.inj hf
    subst q0
    exact sp_zret S hr hlk hW rfl hQ dX9_isSheet_14
  · have hf := sp_hf hf hc
    refine lv_iload_n hx hb dX9_isSheet_4 rfl (lv_at hl 0 rfl) ?_
    refine lv_iconst (v := 4) hx hb dX9_isSheet_5 (by decide) ?_
    refine lv_icmp_ge (tgt := 13) hx hb dX9_isSheet_6 (by decide) (fun hc => ?_) (fun hc => ?_)
    · have hf := sp_ht hf hc
      refine lv_iconst (v := 0) hx hb dX9_isSheet_13 (by decide) ?_
      have q0 := Option.some.inj hf
      subst q0
      exact sp_zret S hr hlk hW rfl hQ dX9_isSheet_14
    · have hf := sp_hf hf hc
      refine lv_iconst (v := 1) hx hb dX9_isSheet_9 (by decide) ?_
      refine lv_goto (tgt := 14) hx hb dX9_isSheet_10 (by decide) ?_
      have q0 := Option.some.inj hf
      subst q0
      exact sp_zret S hr hlk hW rfl hQ dX9_isSheet_14

def f_X9_isLane (p1 : Int32) : Option (Int32) := if p1 < 0 then (some (0 : Int32)) else (if (2 : Int32) < p1 then (some (0 : Int32)) else (some (1 : Int32)))
def rmX9_isLane : Room := { frames := 0, cells := 0, slots := 0, locals := 0 }
set_option maxRecDepth 4000 in
theorem c_X9_isLane {l : Launch} {D : va_G} {q5 : Nat → ClassId} (p1 : Int32) {r' : Int32} (hf : f_X9_isLane p1 = some r') : sp_Ci l yX9_isLane wsX9_isLane rmX9_isLane D q5 0 [.int p1] ([]) r' ([]) := by
  intro sz
  refine sp_of (cc := cX9_isLane) (maxL := 1) (ret := some .boolean) (own := RX9) (Qc := sp_Qi D r' ([])) (by decide) rfl rfl (Nat.le_of_ble_eq_true rfl) ?_
  intro p e s m args below meth c A ls Q hQ S hr hlk hK hG hA hW hl
  have hx := S.1
  have hb := S.2.1
  unfold f_X9_isLane at hf
  refine lv_iload_n hx hb dX9_isLane_0 rfl (lv_at hl 0 rfl) ?_
  refine lv_if_lt (tgt := 13) hx hb dX9_isLane_1 (by decide) (fun hc => ?_) (fun hc => ?_)
  · have hf := sp_ht hf hc
    refine lv_iconst (v := 0) hx hb dX9_isLane_13 (by decide) ?_
    have q0 := Option.some.inj hf
    subst q0
    exact sp_zret S hr hlk hW rfl hQ dX9_isLane_14
  · have hf := sp_hf hf hc
    refine lv_iload_n hx hb dX9_isLane_4 rfl (lv_at hl 0 rfl) ?_
    refine lv_iconst (v := 2) hx hb dX9_isLane_5 (by decide) ?_
    refine lv_icmp_gt (tgt := 13) hx hb dX9_isLane_6 (by decide) (fun hc => ?_) (fun hc => ?_)
    · have hf := sp_ht hf hc
      refine lv_iconst (v := 0) hx hb dX9_isLane_13 (by decide) ?_
      have q0 := Option.some.inj hf
      subst q0
      exact sp_zret S hr hlk hW rfl hQ dX9_isLane_14
    · have hf := sp_hf hf hc
      refine lv_iconst (v := 1) hx hb dX9_isLane_9 (by decide) ?_
      refine lv_goto (tgt := 14) hx hb dX9_isLane_10 (by decide) ?_
      have q0 := Option.some.inj hf
      subst q0
      exact sp_zret S hr hlk hW rfl hQ dX9_isLane_14

def f_J13_bitCount_95d88 (p1 : Int64) : Option (Int32) := sp_bnd (p1 - ((p1.toUInt64 >>> ((1 : Int32).toInt64.toUInt64 &&& Int64.toUInt64 63)).toInt64 &&& (6148914691236517205 : Int64))) (fun v1 => sp_bnd ((v1 &&& (3689348814741910323 : Int64)) + ((v1.toUInt64 >>> ((2 : Int32).toInt64.toUInt64 &&& Int64.toUInt64 63)).toInt64 &&& (3689348814741910323 : Int64))) (fun v2 => sp_bnd ((v2 + (v2.toUInt64 >>> ((4 : Int32).toInt64.toUInt64 &&& Int64.toUInt64 63)).toInt64) &&& (1085102592571150095 : Int64)) (fun v3 => sp_bnd (v3 + (v3.toUInt64 >>> ((8 : Int32).toInt64.toUInt64 &&& Int64.toUInt64 63)).toInt64) (fun v4 => sp_bnd (v4 + (v4.toUInt64 >>> ((16 : Int32).toInt64.toUInt64 &&& Int64.toUInt64 63)).toInt64) (fun v5 => sp_bnd (v5 + (v5.toUInt64 >>> ((32 : Int32).toInt64.toUInt64 &&& Int64.toUInt64 63)).toInt64) (fun v6 => some ((v6.toInt32) &&& (127 : Int32))))))))
def rmJ13_bitCount_95d88 : Room := { frames := 0, cells := 0, slots := 0, locals := 0 }
set_option maxRecDepth 4000 in
theorem c_J13_bitCount_95d88 {l : Launch} {D : va_G} {q5 : Nat → ClassId} (p1 : Int64) {r' : Int32} (hf : f_J13_bitCount_95d88 p1 = some r') : sp_Ci l yJ13_bitCount_95d88 wsJ13_bitCount_95d88 rmJ13_bitCount_95d88 D q5 0 [.long p1] ([]) r' ([]) := by
  intro sz
  refine sp_of (cc := cJ13_bitCount_95d88) (maxL := 2) (ret := some .int) (own := RJ13) (Qc := sp_Qi D r' ([])) (by decide) rfl rfl (Nat.le_of_ble_eq_true rfl) ?_
  intro p e s m args below meth c A ls Q hQ S hr hlk hK hG hA hW hl
  have hx := S.1
  have hb := S.2.1
  unfold f_J13_bitCount_95d88 at hf
  have lk1 := S.2.2.2.2 (Cond.constantLong RJ13 314 (6148914691236517205)) (List.mem_of_getElem? (i := 1) rfl)
  have lk2 := S.2.2.2.2 (Cond.constantLong RJ13 316 (3689348814741910323)) (List.mem_of_getElem? (i := 2) rfl)
  have lk3 := S.2.2.2.2 (Cond.constantLong RJ13 318 (1085102592571150095)) (List.mem_of_getElem? (i := 3) rfl)
  refine lv_lload_n hx hb dJ13_bitCount_95d88_0 rfl (lv_at hl 0 rfl) ?_
  refine lv_lload_n hx hb dJ13_bitCount_95d88_1 rfl (lv_at hl 0 rfl) ?_
  refine lv_iconst (v := 1) hx hb dJ13_bitCount_95d88_2 (by decide) ?_
  refine lv_lushr hx hb dJ13_bitCount_95d88_3 rfl ?_
  refine lv_ldc2 hx hb S.2.2.2.1 lk1 dJ13_bitCount_95d88_4 ?_
  refine lv_land hx hb dJ13_bitCount_95d88_7 ?_
  refine lv_lsub hx hb dJ13_bitCount_95d88_8 ?_
  obtain ⟨v1, ev1, hf⟩ := sp_hb hf
  refine sp_topl ev1 ?_
  refine lv_lstore_n (lv' := [(0, .long v1)]) hx hb dJ13_bitCount_95d88_9 rfl hl (by decide) rfl (fun ls hl => ?_)
  refine lv_lload_n hx hb dJ13_bitCount_95d88_10 rfl (lv_at hl 0 rfl) ?_
  refine lv_ldc2 hx hb S.2.2.2.1 lk2 dJ13_bitCount_95d88_11 ?_
  refine lv_land hx hb dJ13_bitCount_95d88_14 ?_
  refine lv_lload_n hx hb dJ13_bitCount_95d88_15 rfl (lv_at hl 0 rfl) ?_
  refine lv_iconst (v := 2) hx hb dJ13_bitCount_95d88_16 (by decide) ?_
  refine lv_lushr hx hb dJ13_bitCount_95d88_17 rfl ?_
  refine lv_ldc2 hx hb S.2.2.2.1 lk2 dJ13_bitCount_95d88_18 ?_
  refine lv_land hx hb dJ13_bitCount_95d88_21 ?_
  refine lv_ladd hx hb dJ13_bitCount_95d88_22 ?_
  obtain ⟨v2, ev2, hf⟩ := sp_hb hf
  refine sp_topl ev2 ?_
  refine lv_lstore_n (lv' := [(0, .long v2)]) hx hb dJ13_bitCount_95d88_23 rfl hl (by decide) rfl (fun ls hl => ?_)
  refine lv_lload_n hx hb dJ13_bitCount_95d88_24 rfl (lv_at hl 0 rfl) ?_
  refine lv_lload_n hx hb dJ13_bitCount_95d88_25 rfl (lv_at hl 0 rfl) ?_
  refine lv_iconst (v := 4) hx hb dJ13_bitCount_95d88_26 (by decide) ?_
  refine lv_lushr hx hb dJ13_bitCount_95d88_27 rfl ?_
  refine lv_ladd hx hb dJ13_bitCount_95d88_28 ?_
  refine lv_ldc2 hx hb S.2.2.2.1 lk3 dJ13_bitCount_95d88_29 ?_
  refine lv_land hx hb dJ13_bitCount_95d88_32 ?_
  obtain ⟨v3, ev3, hf⟩ := sp_hb hf
  refine sp_topl ev3 ?_
  refine lv_lstore_n (lv' := [(0, .long v3)]) hx hb dJ13_bitCount_95d88_33 rfl hl (by decide) rfl (fun ls hl => ?_)
  refine lv_lload_n hx hb dJ13_bitCount_95d88_34 rfl (lv_at hl 0 rfl) ?_
  refine lv_lload_n hx hb dJ13_bitCount_95d88_35 rfl (lv_at hl 0 rfl) ?_
  refine lv_bipush (v := 8) hx hb dJ13_bitCount_95d88_36 (by decide) ?_
  refine lv_lushr hx hb dJ13_bitCount_95d88_38 rfl ?_
  refine lv_ladd hx hb dJ13_bitCount_95d88_39 ?_
  obtain ⟨v4, ev4, hf⟩ := sp_hb hf
  refine sp_topl ev4 ?_
  refine lv_lstore_n (lv' := [(0, .long v4)]) hx hb dJ13_bitCount_95d88_40 rfl hl (by decide) rfl (fun ls hl => ?_)
  refine lv_lload_n hx hb dJ13_bitCount_95d88_41 rfl (lv_at hl 0 rfl) ?_
  refine lv_lload_n hx hb dJ13_bitCount_95d88_42 rfl (lv_at hl 0 rfl) ?_
  refine lv_bipush (v := 16) hx hb dJ13_bitCount_95d88_43 (by decide) ?_
  refine lv_lushr hx hb dJ13_bitCount_95d88_45 rfl ?_
  refine lv_ladd hx hb dJ13_bitCount_95d88_46 ?_
  obtain ⟨v5, ev5, hf⟩ := sp_hb hf
  refine sp_topl ev5 ?_
  refine lv_lstore_n (lv' := [(0, .long v5)]) hx hb dJ13_bitCount_95d88_47 rfl hl (by decide) rfl (fun ls hl => ?_)
  refine lv_lload_n hx hb dJ13_bitCount_95d88_48 rfl (lv_at hl 0 rfl) ?_
  refine lv_lload_n hx hb dJ13_bitCount_95d88_49 rfl (lv_at hl 0 rfl) ?_
  refine lv_bipush (v := 32) hx hb dJ13_bitCount_95d88_50 (by decide) ?_
  refine lv_lushr hx hb dJ13_bitCount_95d88_52 rfl ?_
  refine lv_ladd hx hb dJ13_bitCount_95d88_53 ?_
  obtain ⟨v6, ev6, hf⟩ := sp_hb hf
  refine sp_topl ev6 ?_
  refine lv_lstore_n (lv' := [(0, .long v6)]) hx hb dJ13_bitCount_95d88_54 rfl hl (by decide) rfl (fun ls hl => ?_)
  refine lv_lload_n hx hb dJ13_bitCount_95d88_55 rfl (lv_at hl 0 rfl) ?_
  refine lv_l2i hx hb dJ13_bitCount_95d88_56 rfl ?_
  refine lv_bipush (v := 127) hx hb dJ13_bitCount_95d88_57 (by decide) ?_
  refine lv_iand hx hb dJ13_bitCount_95d88_59 ?_
  cases hf
  exact sp_iret S hr hlk hW hQ dJ13_bitCount_95d88_60

def f_X9_isGroundSet (p2 : Int32) (gc2 : Int32) : Option (Int32) := if p2 < 0 then (some (0 : Int32)) else (if ((1 : Int32) <<< (gc2 &&& 31)) ≤ p2 then (some (0 : Int32)) else (some (1 : Int32)))
def rmX9_isGroundSet : Room := { frames := 0, cells := 0, slots := 0, locals := 0 }
set_option maxRecDepth 4000 in
theorem c_X9_isGroundSet {l : Launch} {D : va_G} {q5 : Nat → ClassId} (d : Nat → Nat) (cl2 : Nat → Int32) (le2 : Nat → Int32) (ri2 : Nat → Int32) (lt2 : Nat → Int32) (gr2 : Nat → Int32) (ct2 : Int32) (gc2 : Int32) (p2 : Int32) {r' : Int32} (hf : f_X9_isGroundSet p2 gc2 = some r') : sp_Ci l yX9_isGroundSet wsX9_isGroundSet rmX9_isGroundSet D q5 0 [.ref (d 0), .int p2] (sw_P d q5 cl2 le2 ri2 lt2 gr2 ct2 gc2) r' (sw_P d q5 cl2 le2 ri2 lt2 gr2 ct2 gc2) := by
  intro sz
  refine sp_of (cc := cX9_isGroundSet) (maxL := 2) (ret := some .boolean) (own := RX9) (Qc := sp_Qi D r' (sw_P d q5 cl2 le2 ri2 lt2 gr2 ct2 gc2)) (by decide) rfl rfl (Nat.le_of_ble_eq_true rfl) ?_
  intro p e s m args below meth c A ls Q hQ S hr hlk hK hG hA hW hl
  have hx := S.1
  have hb := S.2.1
  unfold f_X9_isGroundSet at hf
  have inX2 : ∀ w ∈ u_ws RX2 TX2 7, w ∈ wsX9_isGroundSet := (fun _ h => List.mem_cons_of_mem _ (List.mem_append_right _ h))
  have lk1 := S.2.2.2.2 (Cond.fieldLink RX9 141 "ShortProofs$Proof" "groundCount" "I") (List.mem_of_getElem? (i := 1) rfl)
  refine lv_iload_n hx hb dX9_isGroundSet_0 rfl (lv_at hl 1 rfl) ?_
  refine lv_if_lt (tgt := 18) hx hb dX9_isGroundSet_1 (by decide) (fun hc => ?_) (fun hc => ?_)
  · have hf := sp_ht hf hc
    refine lv_iconst (v := 0) hx hb dX9_isGroundSet_18 (by decide) ?_
    have q0 := Option.some.inj hf
    subst q0
    exact sp_zret S hr hlk hW rfl hQ dX9_isGroundSet_19
  · have hf := sp_hf hf hc
    refine lv_iload_n hx hb dX9_isGroundSet_4 rfl (lv_at hl 1 rfl) ?_
    refine lv_iconst (v := 1) hx hb dX9_isGroundSet_5 (by decide) ?_
    refine lv_aload_n hx hb dX9_isGroundSet_6 rfl (lv_at hl 0 rfl) ?_
    refine sp_get S hK hW inX2 0 rfl rfl 6 (by decide) lk1 rfl dX9_isGroundSet_7 ?_
    refine lv_ishl hx hb dX9_isGroundSet_10 ?_
    refine lv_icmp_ge (tgt := 18) hx hb dX9_isGroundSet_11 (by decide) (fun hc => ?_) (fun hc => ?_)
    · have hf := sp_ht hf hc
      refine lv_iconst (v := 0) hx hb dX9_isGroundSet_18 (by decide) ?_
      have q0 := Option.some.inj hf
      subst q0
      exact sp_zret S hr hlk hW rfl hQ dX9_isGroundSet_19
    · have hf := sp_hf hf hc
      refine lv_iconst (v := 1) hx hb dX9_isGroundSet_14 (by decide) ?_
      refine lv_goto (tgt := 19) hx hb dX9_isGroundSet_15 (by decide) ?_
      have q0 := Option.some.inj hf
      subst q0
      exact sp_zret S hr hlk hW rfl hQ dX9_isGroundSet_19

def f_X9_halfOf (p1 : Int64) (p2 : Int32) : Option (Int64) := if p2 = 0 then (some (p1 &&& (4294967295 : Int64))) else (some ((p1.toUInt64 >>> ((32 : Int32).toInt64.toUInt64 &&& Int64.toUInt64 63)).toInt64))
def rmX9_halfOf : Room := { frames := 0, cells := 0, slots := 0, locals := 0 }
set_option maxRecDepth 4000 in
theorem c_X9_halfOf {l : Launch} {D : va_G} {q5 : Nat → ClassId} (p1 : Int64) (p2 : Int32) {r' : Int64} (hf : f_X9_halfOf p1 p2 = some r') : sp_Cl l yX9_halfOf wsX9_halfOf rmX9_halfOf D q5 0 [.long p1, .int p2] ([]) r' ([]) := by
  intro sz
  refine sp_of (cc := cX9_halfOf) (maxL := 3) (ret := some .long) (own := RX9) (Qc := sp_Ql D r' ([])) (by decide) rfl rfl (Nat.le_of_ble_eq_true rfl) ?_
  intro p e s m args below meth c A ls Q hQ S hr hlk hK hG hA hW hl
  have hx := S.1
  have hb := S.2.1
  unfold f_X9_halfOf at hf
  have lk1 := S.2.2.2.2 (Cond.constantLong RX9 301 (4294967295)) (List.mem_of_getElem? (i := 1) rfl)
  refine lv_iload_n hx hb dX9_halfOf_0 rfl (lv_at hl 1 rfl) ?_
  refine lv_if_ne (tgt := 12) hx hb dX9_halfOf_1 (by decide) (fun hc => ?_) (fun hc => ?_)
  · have hf := sp_hf hf hc
    refine lv_lload_n hx hb dX9_halfOf_12 rfl (lv_at hl 0 rfl) ?_
    refine lv_bipush (v := 32) hx hb dX9_halfOf_13 (by decide) ?_
    refine lv_lushr hx hb dX9_halfOf_15 rfl ?_
    have q0 := Option.some.inj hf
    subst q0
    exact sp_lret S hr hlk hW hQ dX9_halfOf_16
  · have hf := sp_ht hf hc
    refine lv_lload_n hx hb dX9_halfOf_4 rfl (lv_at hl 0 rfl) ?_
    refine lv_ldc2 hx hb S.2.2.2.1 lk1 dX9_halfOf_5 ?_
    refine lv_land hx hb dX9_halfOf_8 ?_
    refine lv_goto (tgt := 16) hx hb dX9_halfOf_9 (by decide) ?_
    have q0 := Option.some.inj hf
    subst q0
    exact sp_lret S hr hlk hW hQ dX9_halfOf_16
