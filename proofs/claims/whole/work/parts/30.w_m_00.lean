def f_X10_fails (p1 : Int32) : Option (Int32 × Int32) := some (((-10 : Int32) - p1), p1)
def rmX10_fails : Room := { frames := 0, cells := 0, slots := 0, locals := 0 }
set_option maxRecDepth 4000 in
theorem c_X10_fails {l : Launch} {D : va_G} {q5 : Nat → ClassId} (a : Nat → Nat) (fa : Int32) (tr : Int32) (la : Nat → Int32) (sl : Nat → Int32) (ce : Nat → Int32) (pn : Int32) (mn : Nat → Int32) (cl : Nat → Int32) (le : Nat → Int32) (ri : Nat → Int32) (lt : Nat → Int32) (nm : Int32) (nc : Nat → Int32) (nl : Nat → Int32) (nr : Nat → Int32) (nt : Nat → Int32) (at9 : Int32) (en9 : Int32) (de : Nat → Int32) (mm : Int32) (ma : Nat → Int32) (ne : Nat → Int32) (us : Nat → Int32) (lk : Nat → Int32) (sd : Nat → Int32) (sf : Nat → Int32) (nu : Nat → Int32) (gt : Nat → Int64) (gl : Nat → Int32) (tb : Nat → Int64) (sc : Nat → Int32) (su : Nat → Int32) (p1 : Int32) {r' : Int32} {fa' : Int32} (hf : f_X10_fails p1 = some (r', fa')) : sp_Ci l yX10_fails wsX10_fails rmX10_fails D q5 0 [.ref (a 0), .int p1] (sw_M a q5 fa tr la sl ce pn mn cl le ri lt nm nc nl nr nt at9 en9 de mm ma ne us lk sd sf nu gt gl tb sc su) r' (sw_M a q5 fa' tr la sl ce pn mn cl le ri lt nm nc nl nr nt at9 en9 de mm ma ne us lk sd sf nu gt gl tb sc su) := by
  intro sz
  refine sp_of (cc := cX10_fails) (maxL := 2) (ret := some .int) (own := RX10) (Qc := sp_Qi D r' (sw_M a q5 fa' tr la sl ce pn mn cl le ri lt nm nc nl nr nt at9 en9 de mm ma ne us lk sd sf nu gt gl tb sc su)) (by decide) rfl rfl (Nat.le_of_ble_eq_true rfl) ?_
  intro p e s m args below meth c A ls Q hQ S hr hlk hK hG hA hW hl
  have hx := S.1
  have hb := S.2.1
  unfold f_X10_fails at hf
  have inX10 : ∀ w ∈ u_ws RX10 TX10 32, w ∈ wsX10_fails := (fun _ h => List.mem_cons_of_mem _ (List.mem_append_right _ h))
  have lk1 := S.2.2.2.2 (Cond.fieldLink RX10 86 "ShortProofsModel" "fault" "I") (List.mem_of_getElem? (i := 1) rfl)
  refine lv_aload_n hx hb dX10_fails_0 rfl (lv_at hl 0 rfl) ?_
  refine lv_iload_n hx hb dX10_fails_1 rfl (lv_at hl 1 rfl) ?_
  refine sp_put S hK hW inX10 tyX10_ok nmX10 0 rfl rfl 0 (by decide) lk1 rfl rfl rfl (Nat.le_of_ble_eq_true rfl) (ws' := sw_M a q5 p1 tr la sl ce pn mn cl le ri lt nm nc nl nr nt at9 en9 de mm ma ne us lk sd sf nu gt gl tb sc su) rfl dX10_fails_2 (fun H locs hW => ?_)
  refine lv_bipush (v := (-10)) hx hb dX10_fails_5 (by decide) ?_
  refine lv_iload_n hx hb dX10_fails_7 rfl (lv_at hl 1 rfl) ?_
  refine lv_isub hx hb dX10_fails_8 ?_
  have q0 := Option.some.inj hf
  obtain ⟨q1, z1⟩ := Prod.mk.inj q0
  subst q1
  subst z1
  exact sp_iret S hr hlk hW hQ dX10_fails_9

def f_X10_lost (p1 : Int32) : Option (Int64 × Int32) := some ((-9223372036854775808 : Int64), p1)
def rmX10_lost : Room := { frames := 0, cells := 0, slots := 0, locals := 0 }
set_option maxRecDepth 4000 in
theorem c_X10_lost {l : Launch} {D : va_G} {q5 : Nat → ClassId} (a : Nat → Nat) (fa : Int32) (tr : Int32) (la : Nat → Int32) (sl : Nat → Int32) (ce : Nat → Int32) (pn : Int32) (mn : Nat → Int32) (cl : Nat → Int32) (le : Nat → Int32) (ri : Nat → Int32) (lt : Nat → Int32) (nm : Int32) (nc : Nat → Int32) (nl : Nat → Int32) (nr : Nat → Int32) (nt : Nat → Int32) (at9 : Int32) (en9 : Int32) (de : Nat → Int32) (mm : Int32) (ma : Nat → Int32) (ne : Nat → Int32) (us : Nat → Int32) (lk : Nat → Int32) (sd : Nat → Int32) (sf : Nat → Int32) (nu : Nat → Int32) (gt : Nat → Int64) (gl : Nat → Int32) (tb : Nat → Int64) (sc : Nat → Int32) (su : Nat → Int32) (p1 : Int32) {r' : Int64} {fa' : Int32} (hf : f_X10_lost p1 = some (r', fa')) : sp_Cl l yX10_lost wsX10_lost rmX10_lost D q5 0 [.ref (a 0), .int p1] (sw_M a q5 fa tr la sl ce pn mn cl le ri lt nm nc nl nr nt at9 en9 de mm ma ne us lk sd sf nu gt gl tb sc su) r' (sw_M a q5 fa' tr la sl ce pn mn cl le ri lt nm nc nl nr nt at9 en9 de mm ma ne us lk sd sf nu gt gl tb sc su) := by
  intro sz
  refine sp_of (cc := cX10_lost) (maxL := 2) (ret := some .long) (own := RX10) (Qc := sp_Ql D r' (sw_M a q5 fa' tr la sl ce pn mn cl le ri lt nm nc nl nr nt at9 en9 de mm ma ne us lk sd sf nu gt gl tb sc su)) (by decide) rfl rfl (Nat.le_of_ble_eq_true rfl) ?_
  intro p e s m args below meth c A ls Q hQ S hr hlk hK hG hA hW hl
  have hx := S.1
  have hb := S.2.1
  unfold f_X10_lost at hf
  have inX10 : ∀ w ∈ u_ws RX10 TX10 32, w ∈ wsX10_lost := (fun _ h => List.mem_cons_of_mem _ (List.mem_append_right _ h))
  have lk1 := S.2.2.2.2 (Cond.fieldLink RX10 86 "ShortProofsModel" "fault" "I") (List.mem_of_getElem? (i := 1) rfl)
  have lk2 := S.2.2.2.2 (Cond.constantLong RX10 90 (-9223372036854775808)) (List.mem_of_getElem? (i := 2) rfl)
  refine lv_aload_n hx hb dX10_lost_0 rfl (lv_at hl 0 rfl) ?_
  refine lv_iload_n hx hb dX10_lost_1 rfl (lv_at hl 1 rfl) ?_
  refine sp_put S hK hW inX10 tyX10_ok nmX10 0 rfl rfl 0 (by decide) lk1 rfl rfl rfl (Nat.le_of_ble_eq_true rfl) (ws' := sw_M a q5 p1 tr la sl ce pn mn cl le ri lt nm nc nl nr nt at9 en9 de mm ma ne us lk sd sf nu gt gl tb sc su) rfl dX10_lost_2 (fun H locs hW => ?_)
  refine lv_ldc2 hx hb S.2.2.2.1 lk2 dX10_lost_5 ?_
  have q0 := Option.some.inj hf
  obtain ⟨q1, z1⟩ := Prod.mk.inj q0
  subst q1
  subst z1
  exact sp_lret S hr hlk hW hQ dX10_lost_8

def f_X10_within (p1 : Int32) (p2 : Int32) (p3 : Int32) : Option (Int32) := if p1 < p2 then (some (0 : Int32)) else (if p3 < p1 then (some (0 : Int32)) else (some (1 : Int32)))
def rmX10_within : Room := { frames := 0, cells := 0, slots := 0, locals := 0 }
set_option maxRecDepth 4000 in
theorem c_X10_within {l : Launch} {D : va_G} {q5 : Nat → ClassId} (p1 : Int32) (p2 : Int32) (p3 : Int32) {r' : Int32} (hf : f_X10_within p1 p2 p3 = some r') : sp_Ci l yX10_within wsX10_within rmX10_within D q5 0 [.int p1, .int p2, .int p3] ([]) r' ([]) := by
  intro sz
  refine sp_of (cc := cX10_within) (maxL := 3) (ret := some .boolean) (own := RX10) (Qc := sp_Qi D r' ([])) (by decide) rfl rfl (Nat.le_of_ble_eq_true rfl) ?_
  intro p e s m args below meth c A ls Q hQ S hr hlk hK hG hA hW hl
  have hx := S.1
  have hb := S.2.1
  unfold f_X10_within at hf
  refine lv_iload_n hx hb dX10_within_0 rfl (lv_at hl 0 rfl) ?_
  refine lv_iload_n hx hb dX10_within_1 rfl (lv_at hl 1 rfl) ?_
  refine lv_icmp_lt (tgt := 14) hx hb dX10_within_2 (by decide) (fun hc => ?_) (fun hc => ?_)
  · have hf := sp_ht hf hc
    refine lv_iconst (v := 0) hx hb dX10_within_14 (by decide) ?_
    have q0 := Option.some.inj hf
    subst q0
    exact sp_zret S hr hlk hW rfl hQ dX10_within_15
  · have hf := sp_hf hf hc
    refine lv_iload_n hx hb dX10_within_5 rfl (lv_at hl 0 rfl) ?_
    refine lv_iload_n hx hb dX10_within_6 rfl (lv_at hl 2 rfl) ?_
    refine lv_icmp_gt (tgt := 14) hx hb dX10_within_7 (by decide) (fun hc => ?_) (fun hc => ?_)
    · have hf := sp_ht hf hc
      refine lv_iconst (v := 0) hx hb dX10_within_14 (by decide) ?_
      have q0 := Option.some.inj hf
      subst q0
      exact sp_zret S hr hlk hW rfl hQ dX10_within_15
    · have hf := sp_hf hf hc
      refine lv_iconst (v := 1) hx hb dX10_within_10 (by decide) ?_
      refine lv_goto (tgt := 15) hx hb dX10_within_11 (by decide) ?_
      have q0 := Option.some.inj hf
      subst q0
      exact sp_zret S hr hlk hW rfl hQ dX10_within_15

def f_X10_bitsOf_L4 (k4 : Int32 → Option (Int32)) (p1 : Int32) (rec4 : (Int32 × Int32) → Option (Int32)) (s9 : Int32 × Int32) : Option (Int32) := match s9 with
  | (y1, y2) => if (24 : Int32) ≤ y2 then (k4 y1) else (sp_bnd (y1 + ((p1 >>> (y2 &&& 31)) &&& (1 : Int32))) (fun v5 => sp_bnd (y2 + (1 : Int32)) (fun v6 => rec4 (v5, v6))))
theorem f_X10_bitsOf_L4_eq {rec4 : (Int32 × Int32) → Option (Int32)} {k4 : Int32 → Option (Int32)} {p1 : Int32} {y1 : Int32} {y2 : Int32} : f_X10_bitsOf_L4 k4 p1 rec4 (y1, y2) = (if (24 : Int32) ≤ y2 then (k4 y1) else (sp_bnd (y1 + ((p1 >>> (y2 &&& 31)) &&& (1 : Int32))) (fun v5 => sp_bnd (y2 + (1 : Int32)) (fun v6 => rec4 (v5, v6))))) := rfl
def f_X10_bitsOf (p1 : Int32) : Option (Int32) := sp_bnd (fun (x3 : Int32) => some x3) (fun k4 => sp_lp (f_X10_bitsOf_L4 k4 p1) sp_F ((0 : Int32), (0 : Int32)))
def rmX10_bitsOf : Room := { frames := 0, cells := 0, slots := 0, locals := 0 }
set_option maxRecDepth 4000 in
theorem c_X10_bitsOf {l : Launch} {D : va_G} {q5 : Nat → ClassId} (p1 : Int32) {r' : Int32} (hf : f_X10_bitsOf p1 = some r') : sp_Ci l yX10_bitsOf wsX10_bitsOf rmX10_bitsOf D q5 0 [.int p1] ([]) r' ([]) := by
  intro sz
  refine sp_of (cc := cX10_bitsOf) (maxL := 3) (ret := some .int) (own := RX10) (Qc := sp_Qi D r' ([])) (by decide) rfl rfl (Nat.le_of_ble_eq_true rfl) ?_
  intro p e s m args below meth c A ls Q hQ S hr hlk hK hG hA hW hl
  have hx := S.1
  have hb := S.2.1
  unfold f_X10_bitsOf at hf
  refine lv_iconst (v := 0) hx hb dX10_bitsOf_0 (by decide) ?_
  refine lv_istore_n (lv' := [(1, .int (0 : Int32)), (0, .int p1)]) hx hb dX10_bitsOf_1 rfl hl (by decide) rfl (fun ls hl => ?_)
  refine lv_iconst (v := 0) hx hb dX10_bitsOf_2 (by decide) ?_
  refine lv_istore_n (lv' := [(2, .int (0 : Int32)), (1, .int (0 : Int32)), (0, .int p1)]) hx hb dX10_bitsOf_3 rfl hl (by decide) rfl (fun ls hl => ?_)
  obtain ⟨k4, ek4, hf⟩ := sp_hb hf
  have hj4 : ∀ (x3 : Int32) (H : Heap) (locs : List Loc) (ls : Array Slot), k4 x3 = some r' → sp_wd D A s.heap ([]) H locs → lv_has ls 3 [(1, .int x3)] → W p l e rmX10_bitsOf s m args below meth c H locs 0 0 Q (F0 m 24 ls []) := by
    intro x3 H locs ls hf hW hl
    rw [ek4] at hf
    refine lv_iload_n hx hb dX10_bitsOf_24 rfl (lv_at hl 0 rfl) ?_
    have q0 := Option.some.inj hf
    subst q0
    exact sp_iret S hr hlk hW hQ dX10_bitsOf_25
  have hlp4 : ∀ (n9 : Nat) (y1 : Int32) (y2 : Int32) (H : Heap) (locs : List Loc) (ls : Array Slot), sp_lp (f_X10_bitsOf_L4 k4 p1) n9 (y1, y2) = some r' → sp_wd D A s.heap ([]) H locs → lv_has ls 3 [(0, .int p1), (1, .int y1), (2, .int y2)] → W p l e rmX10_bitsOf s m args below meth c H locs 0 0 Q (F0 m 4 ls []) := by
    intro n9
    induction n9 with
    | zero =>
      intro y1 y2 H locs ls hf hW hl
      exact (sp_lp0 hf).elim
    | succ n9 ih4 =>
      intro y1 y2 H locs ls hf hW hl
      have hf := sp_lpS hf
      rw [f_X10_bitsOf_L4_eq] at hf
      refine lv_iload_n hx hb dX10_bitsOf_4 rfl (lv_at hl 2 rfl) ?_
      refine lv_bipush (v := 24) hx hb dX10_bitsOf_5 (by decide) ?_
      refine lv_icmp_ge (tgt := 24) hx hb dX10_bitsOf_7 (by decide) (fun hc => ?_) (fun hc => ?_)
      · have hf := sp_ht hf hc
        exact hj4 _ _ _ _ hf hW (lv_sub hl [1] rfl)
      · have hf := sp_hf hf hc
        refine lv_iload_n hx hb dX10_bitsOf_10 rfl (lv_at hl 1 rfl) ?_
        refine lv_iload_n hx hb dX10_bitsOf_11 rfl (lv_at hl 0 rfl) ?_
        refine lv_iload_n hx hb dX10_bitsOf_12 rfl (lv_at hl 2 rfl) ?_
        refine lv_ishr hx hb dX10_bitsOf_13 ?_
        refine lv_iconst (v := 1) hx hb dX10_bitsOf_14 (by decide) ?_
        refine lv_iand hx hb dX10_bitsOf_15 ?_
        refine lv_iadd hx hb dX10_bitsOf_16 ?_
        obtain ⟨v5, ev5, hf⟩ := sp_hb hf
        refine sp_topi ev5 ?_
        refine lv_istore_n (lv' := [(1, .int v5), (0, .int p1), (2, .int y2)]) hx hb dX10_bitsOf_17 rfl hl (by decide) rfl (fun ls hl => ?_)
        obtain ⟨v6, ev6, hf⟩ := sp_hb hf
        refine lv_iinc (v := v6) (lv' := [(2, .int v6), (1, .int v5), (0, .int p1)]) hx hb dX10_bitsOf_18 hl (k := 2) rfl (by rw [ev6]; rfl) (by decide) rfl (fun ls hl => ?_)
        refine lv_goto (tgt := 4) hx hb dX10_bitsOf_21 (by decide) ?_
        exact ih4 _ _ _ _ _ hf hW (lv_sub hl [2, 1, 0] rfl)
  exact hlp4 _ _ _ _ _ _ hf hW (lv_sub hl [2, 1, 0] rfl)

def f_X10_isClause (p1 : Int32) : Option (Int32) := Option.bind (f_X10_within p1 (0 : Int32) (4095 : Int32)) (fun r1 => if r1 = 0 then (some (0 : Int32)) else (if ((p1 &&& (63 : Int32)) &&& (p1 >>> ((6 : Int32) &&& 31))) = 0 then (some (1 : Int32)) else (some (0 : Int32))))
def rmX10_isClause : Room := { frames := 1, cells := 0, slots := 0, locals := 22 }
set_option maxRecDepth 4000 in
theorem c_X10_isClause {l : Launch} {D : va_G} {q5 : Nat → ClassId} (p1 : Int32) {r' : Int32} (hf : f_X10_isClause p1 = some r') : sp_Ci l yX10_isClause wsX10_isClause rmX10_isClause D q5 0 [.int p1] ([]) r' ([]) := by
  intro sz
  refine sp_of (cc := cX10_isClause) (maxL := 1) (ret := some .boolean) (own := RX10) (Qc := sp_Qi D r' ([])) (by decide) rfl rfl (Nat.le_of_ble_eq_true rfl) ?_
  intro p e s m args below meth c A ls Q hQ S hr hlk hK hG hA hW hl
  have hx := S.1
  have hb := S.2.1
  unfold f_X10_isClause at hf
  refine lv_iload_n hx hb dX10_isClause_0 rfl (lv_at hl 0 rfl) ?_
  refine lv_iconst (v := 0) hx hb dX10_isClause_1 (by decide) ?_
  refine lv_sipush (v := 4095) hx hb dX10_isClause_2 (by decide) ?_
  obtain ⟨r1, hc1, hf⟩ := sp_hc hf
  refine sp_callSi (rest := []) S hK hG hA hW (c_X10_within p1 (0 : Int32) (4095 : Int32) hc1) (by decide) (va_cwS 3 S.2.2.2.2 gX10_isClause_X10_within rfl rfl rfl (by decide +kernel) (by decide)) (isC := []) rfl rfl rfl (WS' := []) rfl rfl hl.1 (Nat.le_of_ble_eq_true rfl) dX10_isClause_5 ⟨Nat.zero_le _, Nat.zero_le _⟩ rfl (fun H locs hW => ?_)
  refine lv_if_eq (tgt := 27) hx hb dX10_isClause_8 (by decide) (fun hc => ?_) (fun hc => ?_)
  · have hf := sp_ht hf hc
    refine lv_iconst (v := 0) hx hb dX10_isClause_27 (by decide) ?_
    have q0 := Option.some.inj hf
    subst q0
    exact sp_zret S hr hlk hW rfl hQ dX10_isClause_28
  · have hf := sp_hf hf hc
    refine lv_iload_n hx hb dX10_isClause_11 rfl (lv_at hl 0 rfl) ?_
    refine lv_bipush (v := 63) hx hb dX10_isClause_12 (by decide) ?_
    refine lv_iand hx hb dX10_isClause_14 ?_
    refine lv_iload_n hx hb dX10_isClause_15 rfl (lv_at hl 0 rfl) ?_
    refine lv_bipush (v := 6) hx hb dX10_isClause_16 (by decide) ?_
    refine lv_ishr hx hb dX10_isClause_18 ?_
    refine lv_iand hx hb dX10_isClause_19 ?_
    refine lv_if_ne (tgt := 27) hx hb dX10_isClause_20 (by decide) (fun hc => ?_) (fun hc => ?_)
    · have hf := sp_hf hf hc
      refine lv_iconst (v := 0) hx hb dX10_isClause_27 (by decide) ?_
      have q0 := Option.some.inj hf
      subst q0
      exact sp_zret S hr hlk hW rfl hQ dX10_isClause_28
    · have hf := sp_ht hf hc
      refine lv_iconst (v := 1) hx hb dX10_isClause_23 (by decide) ?_
      refine lv_goto (tgt := 28) hx hb dX10_isClause_24 (by decide) ?_
      have q0 := Option.some.inj hf
      subst q0
      exact sp_zret S hr hlk hW rfl hQ dX10_isClause_28

def f_X10_cutOf (p1 : Int32) (p2 : Int32) (p3 : Int32) : Option (Int32) := sp_bnd ((1 : Int32) <<< (p3 &&& 31)) (fun v1 => sp_bnd ((64 : Int32) <<< (p3 &&& 31)) (fun v2 => if (p1 &&& v1) = 0 then (some (-9 : Int32)) else (if (p2 &&& v2) = 0 then (some (-9 : Int32)) else (sp_bnd ((p1 &&& (v1 ^^^ (-1 : Int32))) ||| (p2 &&& (v2 ^^^ (-1 : Int32)))) (fun v3 => Option.bind (f_X10_isClause v3) (fun r4 => if r4 = 0 then (some (-9 : Int32)) else (some v3)))))))
def rmX10_cutOf : Room := { frames := 2, cells := 0, slots := 0, locals := 42 }
set_option maxRecDepth 4000 in
theorem c_X10_cutOf {l : Launch} {D : va_G} {q5 : Nat → ClassId} (p1 : Int32) (p2 : Int32) (p3 : Int32) {r' : Int32} (hf : f_X10_cutOf p1 p2 p3 = some r') : sp_Ci l yX10_cutOf wsX10_cutOf rmX10_cutOf D q5 0 [.int p1, .int p2, .int p3] ([]) r' ([]) := by
  intro sz
  refine sp_of (cc := cX10_cutOf) (maxL := 6) (ret := some .int) (own := RX10) (Qc := sp_Qi D r' ([])) (by decide) rfl rfl (Nat.le_of_ble_eq_true rfl) ?_
  intro p e s m args below meth c A ls Q hQ S hr hlk hK hG hA hW hl
  have hx := S.1
  have hb := S.2.1
  unfold f_X10_cutOf at hf
  refine lv_iconst (v := 1) hx hb dX10_cutOf_0 (by decide) ?_
  refine lv_iload_n hx hb dX10_cutOf_1 rfl (lv_at hl 2 rfl) ?_
  refine lv_ishl hx hb dX10_cutOf_2 ?_
  obtain ⟨v1, ev1, hf⟩ := sp_hb hf
  refine sp_topi ev1 ?_
  refine lv_istore_n (lv' := [(3, .int v1), (0, .int p1), (1, .int p2), (2, .int p3)]) hx hb dX10_cutOf_3 rfl hl (by decide) rfl (fun ls hl => ?_)
  refine lv_bipush (v := 64) hx hb dX10_cutOf_4 (by decide) ?_
  refine lv_iload_n hx hb dX10_cutOf_6 rfl (lv_at hl 3 rfl) ?_
  refine lv_ishl hx hb dX10_cutOf_7 ?_
  obtain ⟨v2, ev2, hf⟩ := sp_hb hf
  refine sp_topi ev2 ?_
  refine lv_istore (lv' := [(4, .int v2), (3, .int v1), (0, .int p1), (1, .int p2), (2, .int p3)]) hx hb dX10_cutOf_8 hl (by decide) rfl (fun ls hl => ?_)
  refine lv_iload_n hx hb dX10_cutOf_10 rfl (lv_at hl 2 rfl) ?_
  refine lv_iload_n hx hb dX10_cutOf_11 rfl (lv_at hl 1 rfl) ?_
  refine lv_iand hx hb dX10_cutOf_12 ?_
  refine lv_if_eq (tgt := 23) hx hb dX10_cutOf_13 (by decide) (fun hc => ?_) (fun hc => ?_)
  · have hf := sp_ht hf hc
    refine lv_bipush (v := (-9)) hx hb dX10_cutOf_23 (by decide) ?_
    have q0 := Option.some.inj hf
    subst q0
    exact sp_iret S hr hlk hW hQ dX10_cutOf_25
  · have hf := sp_hf hf hc
    refine lv_iload_n hx hb dX10_cutOf_16 rfl (lv_at hl 3 rfl) ?_
    refine lv_iload hx hb dX10_cutOf_17 (lv_at hl 0 rfl) ?_
    refine lv_iand hx hb dX10_cutOf_19 ?_
    refine lv_if_ne (tgt := 26) hx hb dX10_cutOf_20 (by decide) (fun hc => ?_) (fun hc => ?_)
    · have hf := sp_hf hf hc
      refine lv_iload_n hx hb dX10_cutOf_26 rfl (lv_at hl 2 rfl) ?_
      refine lv_iload_n hx hb dX10_cutOf_27 rfl (lv_at hl 1 rfl) ?_
      refine lv_iconst (v := (-1)) hx hb dX10_cutOf_28 (by decide) ?_
      refine lv_ixor hx hb dX10_cutOf_29 ?_
      refine lv_iand hx hb dX10_cutOf_30 ?_
      refine lv_iload_n hx hb dX10_cutOf_31 rfl (lv_at hl 3 rfl) ?_
      refine lv_iload hx hb dX10_cutOf_32 (lv_at hl 0 rfl) ?_
      refine lv_iconst (v := (-1)) hx hb dX10_cutOf_34 (by decide) ?_
      refine lv_ixor hx hb dX10_cutOf_35 ?_
      refine lv_iand hx hb dX10_cutOf_36 ?_
      refine lv_ior hx hb dX10_cutOf_37 ?_
      obtain ⟨v3, ev3, hf⟩ := sp_hb hf
      refine sp_topi ev3 ?_
      refine lv_istore (lv' := [(5, .int v3), (4, .int v2), (3, .int v1), (0, .int p1), (1, .int p2), (2, .int p3)]) hx hb dX10_cutOf_38 hl (by decide) rfl (fun ls hl => ?_)
      refine lv_iload hx hb dX10_cutOf_40 (lv_at hl 0 rfl) ?_
      obtain ⟨r4, hc4, hf⟩ := sp_hc hf
      refine sp_callSi (rest := []) S hK hG hA hW (c_X10_isClause v3 hc4) (by decide) (va_cwS 1 S.2.2.2.2 gX10_cutOf_X10_isClause rfl rfl rfl (by decide +kernel) (by decide)) (isC := []) rfl rfl rfl (WS' := []) rfl rfl hl.1 (Nat.le_of_ble_eq_true rfl) dX10_cutOf_42 ⟨Nat.zero_le _, Nat.zero_le _⟩ rfl (fun H locs hW => ?_)
      refine lv_if_eq (tgt := 53) hx hb dX10_cutOf_45 (by decide) (fun hc => ?_) (fun hc => ?_)
      · have hf := sp_ht hf hc
        refine lv_bipush (v := (-9)) hx hb dX10_cutOf_53 (by decide) ?_
        have q0 := Option.some.inj hf
        subst q0
        exact sp_iret S hr hlk hW hQ dX10_cutOf_55
      · have hf := sp_hf hf hc
        refine lv_iload hx hb dX10_cutOf_48 (lv_at hl 0 rfl) ?_
        refine lv_goto (tgt := 55) hx hb dX10_cutOf_50 (by decide) ?_
        have q0 := Option.some.inj hf
        subst q0
        exact sp_iret S hr hlk hW hQ dX10_cutOf_55
    · have hf := sp_ht hf hc
      refine lv_bipush (v := (-9)) hx hb dX10_cutOf_23 (by decide) ?_
      have q0 := Option.some.inj hf
      subst q0
      exact sp_iret S hr hlk hW hQ dX10_cutOf_25

def f_X10_cut (p1 : Int32) (p2 : Int32) (p3 : Int32) : Option (Int32) := Option.bind (f_X10_isClause p1) (fun r1 => if r1 = 0 then (some (-2 : Int32)) else (Option.bind (f_X10_isClause p2) (fun r2 => if r2 = 0 then (some (-2 : Int32)) else (Option.bind (f_X10_within p3 (0 : Int32) (5 : Int32)) (fun r3 => if r3 = 0 then (some (-2 : Int32)) else (Option.bind (f_X10_cutOf p1 p2 p3) (fun r4 => some r4)))))))
def rmX10_cut : Room := { frames := 3, cells := 0, slots := 0, locals := 67 }
set_option maxRecDepth 4000 in
theorem c_X10_cut {l : Launch} {D : va_G} {q5 : Nat → ClassId} (a : Nat → Nat) (fa : Int32) (tr : Int32) (la : Nat → Int32) (sl : Nat → Int32) (ce : Nat → Int32) (pn : Int32) (mn : Nat → Int32) (cl : Nat → Int32) (le : Nat → Int32) (ri : Nat → Int32) (lt : Nat → Int32) (nm : Int32) (nc : Nat → Int32) (nl : Nat → Int32) (nr : Nat → Int32) (nt : Nat → Int32) (at9 : Int32) (en9 : Int32) (de : Nat → Int32) (mm : Int32) (ma : Nat → Int32) (ne : Nat → Int32) (us : Nat → Int32) (lk : Nat → Int32) (sd : Nat → Int32) (sf : Nat → Int32) (nu : Nat → Int32) (gt : Nat → Int64) (gl : Nat → Int32) (tb : Nat → Int64) (sc : Nat → Int32) (su : Nat → Int32) (p1 : Int32) (p2 : Int32) (p3 : Int32) {r' : Int32} (hf : f_X10_cut p1 p2 p3 = some r') : sp_Ci l yX10_cut wsX10_cut rmX10_cut D q5 0 [.ref (a 0), .int p1, .int p2, .int p3] (sw_M a q5 fa tr la sl ce pn mn cl le ri lt nm nc nl nr nt at9 en9 de mm ma ne us lk sd sf nu gt gl tb sc su) r' (sw_M a q5 fa tr la sl ce pn mn cl le ri lt nm nc nl nr nt at9 en9 de mm ma ne us lk sd sf nu gt gl tb sc su) := by
  intro sz
  refine sp_of (cc := cX10_cut) (maxL := 4) (ret := some .int) (own := RX10) (Qc := sp_Qi D r' (sw_M a q5 fa tr la sl ce pn mn cl le ri lt nm nc nl nr nt at9 en9 de mm ma ne us lk sd sf nu gt gl tb sc su)) (by decide) rfl rfl (Nat.le_of_ble_eq_true rfl) ?_
  intro p e s m args below meth c A ls Q hQ S hr hlk hK hG hA hW hl
  have hx := S.1
  have hb := S.2.1
  unfold f_X10_cut at hf
  refine lv_iload_n hx hb dX10_cut_0 rfl (lv_at hl 1 rfl) ?_
  obtain ⟨r1, hc1, hf⟩ := sp_hc hf
  refine sp_callSi (rest := []) S hK hG hA hW (c_X10_isClause p1 hc1) (by decide) (va_cwS 1 S.2.2.2.2 gX10_cut_X10_isClause rfl rfl rfl (by decide +kernel) (by decide)) (isC := []) rfl rfl rfl (WS' := sw_M a q5 fa tr la sl ce pn mn cl le ri lt nm nc nl nr nt at9 en9 de mm ma ne us lk sd sf nu gt gl tb sc su) rfl rfl hl.1 (Nat.le_of_ble_eq_true rfl) dX10_cut_1 ⟨Nat.zero_le _, Nat.zero_le _⟩ rfl (fun H locs hW => ?_)
  refine lv_if_eq (tgt := 23) hx hb dX10_cut_4 (by decide) (fun hc => ?_) (fun hc => ?_)
  · have hf := sp_ht hf hc
    refine lv_bipush (v := (-2)) hx hb dX10_cut_23 (by decide) ?_
    have q0 := Option.some.inj hf
    subst q0
    exact sp_iret S hr hlk hW hQ dX10_cut_25
  · have hf := sp_hf hf hc
    refine lv_iload_n hx hb dX10_cut_7 rfl (lv_at hl 2 rfl) ?_
    obtain ⟨r2, hc2, hf⟩ := sp_hc hf
    refine sp_callSi (rest := []) S hK hG hA hW (c_X10_isClause p2 hc2) (by decide) (va_cwS 1 S.2.2.2.2 gX10_cut_X10_isClause rfl rfl rfl (by decide +kernel) (by decide)) (isC := []) rfl rfl rfl (WS' := sw_M a q5 fa tr la sl ce pn mn cl le ri lt nm nc nl nr nt at9 en9 de mm ma ne us lk sd sf nu gt gl tb sc su) rfl rfl hl.1 (Nat.le_of_ble_eq_true rfl) dX10_cut_8 ⟨Nat.zero_le _, Nat.zero_le _⟩ rfl (fun H locs hW => ?_)
    refine lv_if_eq (tgt := 23) hx hb dX10_cut_11 (by decide) (fun hc => ?_) (fun hc => ?_)
    · have hf := sp_ht hf hc
      refine lv_bipush (v := (-2)) hx hb dX10_cut_23 (by decide) ?_
      have q0 := Option.some.inj hf
      subst q0
      exact sp_iret S hr hlk hW hQ dX10_cut_25
    · have hf := sp_hf hf hc
      refine lv_iload_n hx hb dX10_cut_14 rfl (lv_at hl 3 rfl) ?_
      refine lv_iconst (v := 0) hx hb dX10_cut_15 (by decide) ?_
      refine lv_iconst (v := 5) hx hb dX10_cut_16 (by decide) ?_
      obtain ⟨r3, hc3, hf⟩ := sp_hc hf
      refine sp_callSi (rest := []) S hK hG hA hW (c_X10_within p3 (0 : Int32) (5 : Int32) hc3) (by decide) (va_cwS 3 S.2.2.2.2 gX10_cut_X10_within rfl rfl rfl (by decide +kernel) (by decide)) (isC := []) rfl rfl rfl (WS' := sw_M a q5 fa tr la sl ce pn mn cl le ri lt nm nc nl nr nt at9 en9 de mm ma ne us lk sd sf nu gt gl tb sc su) rfl rfl hl.1 (Nat.le_of_ble_eq_true rfl) dX10_cut_17 ⟨Nat.zero_le _, Nat.zero_le _⟩ rfl (fun H locs hW => ?_)
      refine lv_if_ne (tgt := 26) hx hb dX10_cut_20 (by decide) (fun hc => ?_) (fun hc => ?_)
      · have hf := sp_hf hf hc
        refine lv_iload_n hx hb dX10_cut_26 rfl (lv_at hl 1 rfl) ?_
        refine lv_iload_n hx hb dX10_cut_27 rfl (lv_at hl 2 rfl) ?_
        refine lv_iload_n hx hb dX10_cut_28 rfl (lv_at hl 3 rfl) ?_
        obtain ⟨r4, hc4, hf⟩ := sp_hc hf
        refine sp_callSi (rest := []) S hK hG hA hW (c_X10_cutOf p1 p2 p3 hc4) (by decide) (va_cwS 3 S.2.2.2.2 gX10_cut_X10_cutOf rfl rfl rfl (by decide +kernel) (by decide)) (isC := []) rfl rfl rfl (WS' := sw_M a q5 fa tr la sl ce pn mn cl le ri lt nm nc nl nr nt at9 en9 de mm ma ne us lk sd sf nu gt gl tb sc su) rfl rfl hl.1 (Nat.le_of_ble_eq_true rfl) dX10_cut_29 ⟨Nat.zero_le _, Nat.zero_le _⟩ rfl (fun H locs hW => ?_)
        have q0 := Option.some.inj hf
        subst q0
        exact sp_iret S hr hlk hW hQ dX10_cut_32
      · have hf := sp_ht hf hc
        refine lv_bipush (v := (-2)) hx hb dX10_cut_23 (by decide) ?_
        have q0 := Option.some.inj hf
        subst q0
        exact sp_iret S hr hlk hW hQ dX10_cut_25

def f_X10_isStronger (p1 : Int32) (p2 : Int32) : Option (Int32) := if (p1 &&& (p2 ^^^ (-1 : Int32))) = 0 then (some (1 : Int32)) else (some (0 : Int32))
def rmX10_isStronger : Room := { frames := 0, cells := 0, slots := 0, locals := 0 }
set_option maxRecDepth 4000 in
theorem c_X10_isStronger {l : Launch} {D : va_G} {q5 : Nat → ClassId} (p1 : Int32) (p2 : Int32) {r' : Int32} (hf : f_X10_isStronger p1 p2 = some r') : sp_Ci l yX10_isStronger wsX10_isStronger rmX10_isStronger D q5 0 [.int p1, .int p2] ([]) r' ([]) := by
  intro sz
  refine sp_of (cc := cX10_isStronger) (maxL := 2) (ret := some .boolean) (own := RX10) (Qc := sp_Qi D r' ([])) (by decide) rfl rfl (Nat.le_of_ble_eq_true rfl) ?_
  intro p e s m args below meth c A ls Q hQ S hr hlk hK hG hA hW hl
  have hx := S.1
  have hb := S.2.1
  unfold f_X10_isStronger at hf
  refine lv_iload_n hx hb dX10_isStronger_0 rfl (lv_at hl 0 rfl) ?_
  refine lv_iload_n hx hb dX10_isStronger_1 rfl (lv_at hl 1 rfl) ?_
  refine lv_iconst (v := (-1)) hx hb dX10_isStronger_2 (by decide) ?_
  refine lv_ixor hx hb dX10_isStronger_3 ?_
  refine lv_iand hx hb dX10_isStronger_4 ?_
  refine lv_if_ne (tgt := 12) hx hb dX10_isStronger_5 (by decide) (fun hc => ?_) (fun hc => ?_)
  · have hf := sp_hf hf hc
    refine lv_iconst (v := 0) hx hb dX10_isStronger_12 (by decide) ?_
    have q0 := Option.some.inj hf
    subst q0
    exact sp_zret S hr hlk hW rfl hQ dX10_isStronger_13
  · have hf := sp_ht hf hc
    refine lv_iconst (v := 1) hx hb dX10_isStronger_8 (by decide) ?_
    refine lv_goto (tgt := 13) hx hb dX10_isStronger_9 (by decide) ?_
    have q0 := Option.some.inj hf
    subst q0
    exact sp_zret S hr hlk hW rfl hQ dX10_isStronger_13

def f_X10_stronger (p1 : Int32) (p2 : Int32) : Option (Int32) := Option.bind (f_X10_isClause p1) (fun r1 => if r1 = 0 then (some (-2 : Int32)) else (Option.bind (f_X10_isClause p2) (fun r2 => if r2 = 0 then (some (-2 : Int32)) else (Option.bind (f_X10_isStronger p1 p2) (fun r3 => if r3 = 0 then (some (0 : Int32)) else (some (1 : Int32)))))))
def rmX10_stronger : Room := { frames := 2, cells := 0, slots := 0, locals := 42 }
set_option maxRecDepth 4000 in
theorem c_X10_stronger {l : Launch} {D : va_G} {q5 : Nat → ClassId} (a : Nat → Nat) (fa : Int32) (tr : Int32) (la : Nat → Int32) (sl : Nat → Int32) (ce : Nat → Int32) (pn : Int32) (mn : Nat → Int32) (cl : Nat → Int32) (le : Nat → Int32) (ri : Nat → Int32) (lt : Nat → Int32) (nm : Int32) (nc : Nat → Int32) (nl : Nat → Int32) (nr : Nat → Int32) (nt : Nat → Int32) (at9 : Int32) (en9 : Int32) (de : Nat → Int32) (mm : Int32) (ma : Nat → Int32) (ne : Nat → Int32) (us : Nat → Int32) (lk : Nat → Int32) (sd : Nat → Int32) (sf : Nat → Int32) (nu : Nat → Int32) (gt : Nat → Int64) (gl : Nat → Int32) (tb : Nat → Int64) (sc : Nat → Int32) (su : Nat → Int32) (p1 : Int32) (p2 : Int32) {r' : Int32} (hf : f_X10_stronger p1 p2 = some r') : sp_Ci l yX10_stronger wsX10_stronger rmX10_stronger D q5 0 [.ref (a 0), .int p1, .int p2] (sw_M a q5 fa tr la sl ce pn mn cl le ri lt nm nc nl nr nt at9 en9 de mm ma ne us lk sd sf nu gt gl tb sc su) r' (sw_M a q5 fa tr la sl ce pn mn cl le ri lt nm nc nl nr nt at9 en9 de mm ma ne us lk sd sf nu gt gl tb sc su) := by
  intro sz
  refine sp_of (cc := cX10_stronger) (maxL := 3) (ret := some .int) (own := RX10) (Qc := sp_Qi D r' (sw_M a q5 fa tr la sl ce pn mn cl le ri lt nm nc nl nr nt at9 en9 de mm ma ne us lk sd sf nu gt gl tb sc su)) (by decide) rfl rfl (Nat.le_of_ble_eq_true rfl) ?_
  intro p e s m args below meth c A ls Q hQ S hr hlk hK hG hA hW hl
  have hx := S.1
  have hb := S.2.1
  unfold f_X10_stronger at hf
  refine lv_iload_n hx hb dX10_stronger_0 rfl (lv_at hl 1 rfl) ?_
  obtain ⟨r1, hc1, hf⟩ := sp_hc hf
  refine sp_callSi (rest := []) S hK hG hA hW (c_X10_isClause p1 hc1) (by decide) (va_cwS 1 S.2.2.2.2 gX10_stronger_X10_isClause rfl rfl rfl (by decide +kernel) (by decide)) (isC := []) rfl rfl rfl (WS' := sw_M a q5 fa tr la sl ce pn mn cl le ri lt nm nc nl nr nt at9 en9 de mm ma ne us lk sd sf nu gt gl tb sc su) rfl rfl hl.1 (Nat.le_of_ble_eq_true rfl) dX10_stronger_1 ⟨Nat.zero_le _, Nat.zero_le _⟩ rfl (fun H locs hW => ?_)
  refine lv_if_eq (tgt := 14) hx hb dX10_stronger_4 (by decide) (fun hc => ?_) (fun hc => ?_)
  · have hf := sp_ht hf hc
    refine lv_bipush (v := (-2)) hx hb dX10_stronger_14 (by decide) ?_
    have q0 := Option.some.inj hf
    subst q0
    exact sp_iret S hr hlk hW hQ dX10_stronger_16
  · have hf := sp_hf hf hc
    refine lv_iload_n hx hb dX10_stronger_7 rfl (lv_at hl 2 rfl) ?_
    obtain ⟨r2, hc2, hf⟩ := sp_hc hf
    refine sp_callSi (rest := []) S hK hG hA hW (c_X10_isClause p2 hc2) (by decide) (va_cwS 1 S.2.2.2.2 gX10_stronger_X10_isClause rfl rfl rfl (by decide +kernel) (by decide)) (isC := []) rfl rfl rfl (WS' := sw_M a q5 fa tr la sl ce pn mn cl le ri lt nm nc nl nr nt at9 en9 de mm ma ne us lk sd sf nu gt gl tb sc su) rfl rfl hl.1 (Nat.le_of_ble_eq_true rfl) dX10_stronger_8 ⟨Nat.zero_le _, Nat.zero_le _⟩ rfl (fun H locs hW => ?_)
    refine lv_if_ne (tgt := 17) hx hb dX10_stronger_11 (by decide) (fun hc => ?_) (fun hc => ?_)
    · have hf := sp_hf hf hc
      refine lv_iload_n hx hb dX10_stronger_17 rfl (lv_at hl 1 rfl) ?_
      refine lv_iload_n hx hb dX10_stronger_18 rfl (lv_at hl 2 rfl) ?_
      obtain ⟨r3, hc3, hf⟩ := sp_hc hf
      refine sp_callSi (rest := []) S hK hG hA hW (c_X10_isStronger p1 p2 hc3) (by decide) (va_cwS 2 S.2.2.2.2 gX10_stronger_X10_isStronger rfl rfl rfl (by decide +kernel) (by decide)) (isC := []) rfl rfl rfl (WS' := sw_M a q5 fa tr la sl ce pn mn cl le ri lt nm nc nl nr nt at9 en9 de mm ma ne us lk sd sf nu gt gl tb sc su) rfl rfl hl.1 (Nat.le_of_ble_eq_true rfl) dX10_stronger_19 ⟨Nat.zero_le _, Nat.zero_le _⟩ rfl (fun H locs hW => ?_)
      refine lv_if_eq (tgt := 29) hx hb dX10_stronger_22 (by decide) (fun hc => ?_) (fun hc => ?_)
      · have hf := sp_ht hf hc
        refine lv_iconst (v := 0) hx hb dX10_stronger_29 (by decide) ?_
        have q0 := Option.some.inj hf
        subst q0
        exact sp_iret S hr hlk hW hQ dX10_stronger_30
      · have hf := sp_hf hf hc
        refine lv_iconst (v := 1) hx hb dX10_stronger_25 (by decide) ?_
        refine lv_goto (tgt := 30) hx hb dX10_stronger_26 (by decide) ?_
        have q0 := Option.some.inj hf
        subst q0
        exact sp_iret S hr hlk hW hQ dX10_stronger_30
    · have hf := sp_ht hf hc
      refine lv_bipush (v := (-2)) hx hb dX10_stronger_14 (by decide) ?_
      have q0 := Option.some.inj hf
      subst q0
      exact sp_iret S hr hlk hW hQ dX10_stronger_16

def f_X10_isSheet (p1 : Int32) : Option (Int32) := Option.bind (f_X10_within p1 (0 : Int32) (3 : Int32)) (fun r1 => sp_zb r1 (some r1))
def rmX10_isSheet : Room := { frames := 1, cells := 0, slots := 0, locals := 22 }
set_option maxRecDepth 4000 in
theorem c_X10_isSheet {l : Launch} {D : va_G} {q5 : Nat → ClassId} (p1 : Int32) {r' : Int32} (hf : f_X10_isSheet p1 = some r') : sp_Ci l yX10_isSheet wsX10_isSheet rmX10_isSheet D q5 0 [.int p1] ([]) r' ([]) := by
  intro sz
  refine sp_of (cc := cX10_isSheet) (maxL := 1) (ret := some .boolean) (own := RX10) (Qc := sp_Qi D r' ([])) (by decide) rfl rfl (Nat.le_of_ble_eq_true rfl) ?_
  intro p e s m args below meth c A ls Q hQ S hr hlk hK hG hA hW hl
  have hx := S.1
  have hb := S.2.1
  unfold f_X10_isSheet at hf
  refine lv_iload_n hx hb dX10_isSheet_0 rfl (lv_at hl 0 rfl) ?_
  refine lv_iconst (v := 0) hx hb dX10_isSheet_1 (by decide) ?_
  refine lv_iconst (v := 3) hx hb dX10_isSheet_2 (by decide) ?_
  obtain ⟨r1, hc1, hf⟩ := sp_hc hf
  refine sp_callSi (rest := []) S hK hG hA hW (c_X10_within p1 (0 : Int32) (3 : Int32) hc1) (by decide) (va_cwS 3 S.2.2.2.2 gX10_isSheet_X10_within rfl rfl rfl (by decide +kernel) (by decide)) (isC := []) rfl rfl rfl (WS' := []) rfl rfl hl.1 (Nat.le_of_ble_eq_true rfl) dX10_isSheet_3 ⟨Nat.zero_le _, Nat.zero_le _⟩ rfl (fun H locs hW => ?_)
  obtain ⟨hz, hf⟩ := sp_hz hf
  have q0 := Option.some.inj hf
  subst q0
  exact sp_zret S hr hlk hW hz hQ dX10_isSheet_6

def f_X10_isLane (p1 : Int32) : Option (Int32) := Option.bind (f_X10_within p1 (0 : Int32) (2 : Int32)) (fun r1 => sp_zb r1 (some r1))
def rmX10_isLane : Room := { frames := 1, cells := 0, slots := 0, locals := 22 }
set_option maxRecDepth 4000 in
theorem c_X10_isLane {l : Launch} {D : va_G} {q5 : Nat → ClassId} (p1 : Int32) {r' : Int32} (hf : f_X10_isLane p1 = some r') : sp_Ci l yX10_isLane wsX10_isLane rmX10_isLane D q5 0 [.int p1] ([]) r' ([]) := by
  intro sz
  refine sp_of (cc := cX10_isLane) (maxL := 1) (ret := some .boolean) (own := RX10) (Qc := sp_Qi D r' ([])) (by decide) rfl rfl (Nat.le_of_ble_eq_true rfl) ?_
  intro p e s m args below meth c A ls Q hQ S hr hlk hK hG hA hW hl
  have hx := S.1
  have hb := S.2.1
  unfold f_X10_isLane at hf
  refine lv_iload_n hx hb dX10_isLane_0 rfl (lv_at hl 0 rfl) ?_
  refine lv_iconst (v := 0) hx hb dX10_isLane_1 (by decide) ?_
  refine lv_iconst (v := 2) hx hb dX10_isLane_2 (by decide) ?_
  obtain ⟨r1, hc1, hf⟩ := sp_hc hf
  refine sp_callSi (rest := []) S hK hG hA hW (c_X10_within p1 (0 : Int32) (2 : Int32) hc1) (by decide) (va_cwS 3 S.2.2.2.2 gX10_isLane_X10_within rfl rfl rfl (by decide +kernel) (by decide)) (isC := []) rfl rfl rfl (WS' := []) rfl rfl hl.1 (Nat.le_of_ble_eq_true rfl) dX10_isLane_3 ⟨Nat.zero_le _, Nat.zero_le _⟩ rfl (fun H locs hW => ?_)
  obtain ⟨hz, hf⟩ := sp_hz hf
  have q0 := Option.some.inj hf
  subst q0
  exact sp_zret S hr hlk hW hz hQ dX10_isLane_6

def f_X10_isProof (p1 : Int32) (pn : Int32) : Option (Int32) := if p1 < 0 then (some (0 : Int32)) else (if pn ≤ p1 then (some (0 : Int32)) else (some (1 : Int32)))
def rmX10_isProof : Room := { frames := 0, cells := 0, slots := 0, locals := 0 }
set_option maxRecDepth 4000 in
theorem c_X10_isProof {l : Launch} {D : va_G} {q5 : Nat → ClassId} (a : Nat → Nat) (fa : Int32) (tr : Int32) (la : Nat → Int32) (sl : Nat → Int32) (ce : Nat → Int32) (pn : Int32) (mn : Nat → Int32) (cl : Nat → Int32) (le : Nat → Int32) (ri : Nat → Int32) (lt : Nat → Int32) (nm : Int32) (nc : Nat → Int32) (nl : Nat → Int32) (nr : Nat → Int32) (nt : Nat → Int32) (at9 : Int32) (en9 : Int32) (de : Nat → Int32) (mm : Int32) (ma : Nat → Int32) (ne : Nat → Int32) (us : Nat → Int32) (lk : Nat → Int32) (sd : Nat → Int32) (sf : Nat → Int32) (nu : Nat → Int32) (gt : Nat → Int64) (gl : Nat → Int32) (tb : Nat → Int64) (sc : Nat → Int32) (su : Nat → Int32) (p1 : Int32) {r' : Int32} (hf : f_X10_isProof p1 pn = some r') : sp_Ci l yX10_isProof wsX10_isProof rmX10_isProof D q5 0 [.ref (a 0), .int p1] (sw_M a q5 fa tr la sl ce pn mn cl le ri lt nm nc nl nr nt at9 en9 de mm ma ne us lk sd sf nu gt gl tb sc su) r' (sw_M a q5 fa tr la sl ce pn mn cl le ri lt nm nc nl nr nt at9 en9 de mm ma ne us lk sd sf nu gt gl tb sc su) := by
  intro sz
  refine sp_of (cc := cX10_isProof) (maxL := 2) (ret := some .boolean) (own := RX10) (Qc := sp_Qi D r' (sw_M a q5 fa tr la sl ce pn mn cl le ri lt nm nc nl nr nt at9 en9 de mm ma ne us lk sd sf nu gt gl tb sc su)) (by decide) rfl rfl (Nat.le_of_ble_eq_true rfl) ?_
  intro p e s m args below meth c A ls Q hQ S hr hlk hK hG hA hW hl
  have hx := S.1
  have hb := S.2.1
  unfold f_X10_isProof at hf
  have inX10 : ∀ w ∈ u_ws RX10 TX10 32, w ∈ wsX10_isProof := (fun _ h => List.mem_cons_of_mem _ (List.mem_append_right _ h))
  have lk1 := S.2.2.2.2 (Cond.fieldLink RX10 108 "ShortProofsModel" "proofs" "I") (List.mem_of_getElem? (i := 1) rfl)
  refine lv_iload_n hx hb dX10_isProof_0 rfl (lv_at hl 1 rfl) ?_
  refine lv_if_lt (tgt := 16) hx hb dX10_isProof_1 (by decide) (fun hc => ?_) (fun hc => ?_)
  · have hf := sp_ht hf hc
    refine lv_iconst (v := 0) hx hb dX10_isProof_16 (by decide) ?_
    have q0 := Option.some.inj hf
    subst q0
    exact sp_zret S hr hlk hW rfl hQ dX10_isProof_17
  · have hf := sp_hf hf hc
    refine lv_iload_n hx hb dX10_isProof_4 rfl (lv_at hl 1 rfl) ?_
    refine lv_aload_n hx hb dX10_isProof_5 rfl (lv_at hl 0 rfl) ?_
    refine sp_get S hK hW inX10 0 rfl rfl 5 (by decide) lk1 rfl dX10_isProof_6 ?_
    refine lv_icmp_ge (tgt := 16) hx hb dX10_isProof_9 (by decide) (fun hc => ?_) (fun hc => ?_)
    · have hf := sp_ht hf hc
      refine lv_iconst (v := 0) hx hb dX10_isProof_16 (by decide) ?_
      have q0 := Option.some.inj hf
      subst q0
      exact sp_zret S hr hlk hW rfl hQ dX10_isProof_17
    · have hf := sp_hf hf hc
      refine lv_iconst (v := 1) hx hb dX10_isProof_12 (by decide) ?_
      refine lv_goto (tgt := 17) hx hb dX10_isProof_13 (by decide) ?_
      have q0 := Option.some.inj hf
      subst q0
      exact sp_zret S hr hlk hW rfl hQ dX10_isProof_17

def f_X10_isLine (p1 : Int32) (p2 : Int32) (pn : Int32) (mn : Nat → Int32) : Option (Int32) := Option.bind (f_X10_isProof p1 pn) (fun r1 => if r1 = 0 then (some (0 : Int32)) else (if p2 < 0 then (some (0 : Int32)) else (sp_ld mn 12 p1 (fun v2 => if v2 ≤ p2 then (some (0 : Int32)) else (some (1 : Int32))))))
def rmX10_isLine : Room := { frames := 1, cells := 0, slots := 0, locals := 21 }
set_option maxRecDepth 4000 in
theorem c_X10_isLine {l : Launch} {D : va_G} {q5 : Nat → ClassId} (a : Nat → Nat) (fa : Int32) (tr : Int32) (la : Nat → Int32) (sl : Nat → Int32) (ce : Nat → Int32) (pn : Int32) (mn : Nat → Int32) (cl : Nat → Int32) (le : Nat → Int32) (ri : Nat → Int32) (lt : Nat → Int32) (nm : Int32) (nc : Nat → Int32) (nl : Nat → Int32) (nr : Nat → Int32) (nt : Nat → Int32) (at9 : Int32) (en9 : Int32) (de : Nat → Int32) (mm : Int32) (ma : Nat → Int32) (ne : Nat → Int32) (us : Nat → Int32) (lk : Nat → Int32) (sd : Nat → Int32) (sf : Nat → Int32) (nu : Nat → Int32) (gt : Nat → Int64) (gl : Nat → Int32) (tb : Nat → Int64) (sc : Nat → Int32) (su : Nat → Int32) (p1 : Int32) (p2 : Int32) {r' : Int32} (hf : f_X10_isLine p1 p2 pn mn = some r') : sp_Ci l yX10_isLine wsX10_isLine rmX10_isLine D q5 0 [.ref (a 0), .int p1, .int p2] (sw_M a q5 fa tr la sl ce pn mn cl le ri lt nm nc nl nr nt at9 en9 de mm ma ne us lk sd sf nu gt gl tb sc su) r' (sw_M a q5 fa tr la sl ce pn mn cl le ri lt nm nc nl nr nt at9 en9 de mm ma ne us lk sd sf nu gt gl tb sc su) := by
  intro sz
  refine sp_of (cc := cX10_isLine) (maxL := 3) (ret := some .boolean) (own := RX10) (Qc := sp_Qi D r' (sw_M a q5 fa tr la sl ce pn mn cl le ri lt nm nc nl nr nt at9 en9 de mm ma ne us lk sd sf nu gt gl tb sc su)) (by decide) rfl rfl (Nat.le_of_ble_eq_true rfl) ?_
  intro p e s m args below meth c A ls Q hQ S hr hlk hK hG hA hW hl
  have hx := S.1
  have hb := S.2.1
  unfold f_X10_isLine at hf
  have inX10 : ∀ w ∈ u_ws RX10 TX10 32, w ∈ wsX10_isLine := (fun _ h => List.mem_cons_of_mem _ (List.mem_append_right _ h))
  have lk1 := S.2.2.2.2 (Cond.fieldLink RX10 19 "ShortProofsModel" "many" "[I") (List.mem_of_getElem? (i := 1) rfl)
  refine lv_aload_n hx hb dX10_isLine_0 rfl (lv_at hl 0 rfl) ?_
  refine lv_iload_n hx hb dX10_isLine_1 rfl (lv_at hl 1 rfl) ?_
  obtain ⟨r1, hc1, hf⟩ := sp_hc hf
  refine sp_callViP (rest := []) S hK hG hA hW (c_X10_isProof a fa tr la sl ce pn mn cl le ri lt nm nc nl nr nt at9 en9 de mm ma ne us lk sd sf nu gt gl tb sc su p1 hc1) (by decide) (cwV 1 S.2.2.2.2 gX10_isLine_X10_isProof rfl rfl rfl (by decide +kernel) (by decide)) 8 0 rfl rfl (sp_pn _) rfl (WS' := sw_M a q5 fa tr la sl ce pn mn cl le ri lt nm nc nl nr nt at9 en9 de mm ma ne us lk sd sf nu gt gl tb sc su) (sp_pn' _) rfl hl.1 (Nat.le_of_ble_eq_true rfl) dX10_isLine_2 ⟨Nat.zero_le _, Nat.zero_le _⟩ rfl (fun H locs hW => ?_)
  refine lv_if_eq (tgt := 26) hx hb dX10_isLine_5 (by decide) (fun hc => ?_) (fun hc => ?_)
  · have hf := sp_ht hf hc
    refine lv_iconst (v := 0) hx hb dX10_isLine_26 (by decide) ?_
    have q0 := Option.some.inj hf
    subst q0
    exact sp_zret S hr hlk hW rfl hQ dX10_isLine_27
  · have hf := sp_hf hf hc
    refine lv_iload_n hx hb dX10_isLine_8 rfl (lv_at hl 2 rfl) ?_
    refine lv_if_lt (tgt := 26) hx hb dX10_isLine_9 (by decide) (fun hc => ?_) (fun hc => ?_)
    · have hf := sp_ht hf hc
      refine lv_iconst (v := 0) hx hb dX10_isLine_26 (by decide) ?_
      have q0 := Option.some.inj hf
      subst q0
      exact sp_zret S hr hlk hW rfl hQ dX10_isLine_27
    · have hf := sp_hf hf hc
      refine lv_iload_n hx hb dX10_isLine_12 rfl (lv_at hl 2 rfl) ?_
      refine lv_aload_n hx hb dX10_isLine_13 rfl (lv_at hl 0 rfl) ?_
      refine sp_get S hK hW inX10 0 rfl rfl 6 (by decide) lk1 rfl dX10_isLine_14 ?_
      refine lv_iload_n hx hb dX10_isLine_17 rfl (lv_at hl 1 rfl) ?_
      obtain ⟨hin, v2, ev2, hf⟩ := sp_hld hf
      refine sp_iald S hK hW 4 rfl hin ev2 dX10_isLine_18 ?_
      refine lv_icmp_ge (tgt := 26) hx hb dX10_isLine_19 (by decide) (fun hc => ?_) (fun hc => ?_)
      · have hf := sp_ht hf hc
        refine lv_iconst (v := 0) hx hb dX10_isLine_26 (by decide) ?_
        have q0 := Option.some.inj hf
        subst q0
        exact sp_zret S hr hlk hW rfl hQ dX10_isLine_27
      · have hf := sp_hf hf hc
        refine lv_iconst (v := 1) hx hb dX10_isLine_22 (by decide) ?_
        refine lv_goto (tgt := 27) hx hb dX10_isLine_23 (by decide) ?_
        have q0 := Option.some.inj hf
        subst q0
        exact sp_zret S hr hlk hW rfl hQ dX10_isLine_27

def f_X10_add (p1 : Int32) (p2 : Int32) (p3 : Int32) (p4 : Int32) (nm : Int32) (nc : Nat → Int32) (nl : Nat → Int32) (nr : Nat → Int32) (nt : Nat → Int32) : Option (Int32 × Int32 × (Nat → Int32) × (Nat → Int32) × (Nat → Int32) × (Nat → Int32)) := sp_st nc 64 nm p1 (fun c1 => sp_st nl 64 nm p2 (fun c2 => sp_st nr 64 nm p3 (fun c3 => sp_st nt 64 nm p4 (fun c4 => sp_bnd (nm + (1 : Int32)) (fun v5 => some ((v5 - (1 : Int32)), v5, c1, c2, c3, c4))))))
def rmX10_add : Room := { frames := 0, cells := 0, slots := 0, locals := 0 }
set_option maxRecDepth 4000 in
theorem c_X10_add {l : Launch} {D : va_G} {q5 : Nat → ClassId} (a : Nat → Nat) (fa : Int32) (tr : Int32) (la : Nat → Int32) (sl : Nat → Int32) (ce : Nat → Int32) (pn : Int32) (mn : Nat → Int32) (cl : Nat → Int32) (le : Nat → Int32) (ri : Nat → Int32) (lt : Nat → Int32) (nm : Int32) (nc : Nat → Int32) (nl : Nat → Int32) (nr : Nat → Int32) (nt : Nat → Int32) (at9 : Int32) (en9 : Int32) (de : Nat → Int32) (mm : Int32) (ma : Nat → Int32) (ne : Nat → Int32) (us : Nat → Int32) (lk : Nat → Int32) (sd : Nat → Int32) (sf : Nat → Int32) (nu : Nat → Int32) (gt : Nat → Int64) (gl : Nat → Int32) (tb : Nat → Int64) (sc : Nat → Int32) (su : Nat → Int32) (p1 : Int32) (p2 : Int32) (p3 : Int32) (p4 : Int32) {r' : Int32} {nm' : Int32} {nc' : Nat → Int32} {nl' : Nat → Int32} {nr' : Nat → Int32} {nt' : Nat → Int32} (hf : f_X10_add p1 p2 p3 p4 nm nc nl nr nt = some (r', nm', nc', nl', nr', nt')) : sp_Ci l yX10_add wsX10_add rmX10_add D q5 0 [.ref (a 0), .int p1, .int p2, .int p3, .int p4] (sw_M a q5 fa tr la sl ce pn mn cl le ri lt nm nc nl nr nt at9 en9 de mm ma ne us lk sd sf nu gt gl tb sc su) r' (sw_M a q5 fa tr la sl ce pn mn cl le ri lt nm' nc' nl' nr' nt' at9 en9 de mm ma ne us lk sd sf nu gt gl tb sc su) := by
  intro sz
  refine sp_of (cc := cX10_add) (maxL := 5) (ret := some .int) (own := RX10) (Qc := sp_Qi D r' (sw_M a q5 fa tr la sl ce pn mn cl le ri lt nm' nc' nl' nr' nt' at9 en9 de mm ma ne us lk sd sf nu gt gl tb sc su)) (by decide) rfl rfl (Nat.le_of_ble_eq_true rfl) ?_
  intro p e s m args below meth c A ls Q hQ S hr hlk hK hG hA hW hl
  have hx := S.1
  have hb := S.2.1
  unfold f_X10_add at hf
  have inX10 : ∀ w ∈ u_ws RX10 TX10 32, w ∈ wsX10_add := (fun _ h => List.mem_cons_of_mem _ (List.mem_append_right _ h))
  have lk1 := S.2.2.2.2 (Cond.fieldLink RX10 34 "ShortProofsModel" "newClause" "[I") (List.mem_of_getElem? (i := 1) rfl)
  have lk2 := S.2.2.2.2 (Cond.fieldLink RX10 114 "ShortProofsModel" "newMany" "I") (List.mem_of_getElem? (i := 2) rfl)
  have lk3 := S.2.2.2.2 (Cond.fieldLink RX10 37 "ShortProofsModel" "newLeft" "[I") (List.mem_of_getElem? (i := 3) rfl)
  have lk4 := S.2.2.2.2 (Cond.fieldLink RX10 40 "ShortProofsModel" "newRight" "[I") (List.mem_of_getElem? (i := 4) rfl)
  have lk5 := S.2.2.2.2 (Cond.fieldLink RX10 43 "ShortProofsModel" "newLetter" "[I") (List.mem_of_getElem? (i := 5) rfl)
  refine lv_aload_n hx hb dX10_add_0 rfl (lv_at hl 0 rfl) ?_
  refine sp_get S hK hW inX10 0 rfl rfl 12 (by decide) lk1 rfl dX10_add_1 ?_
  refine lv_aload_n hx hb dX10_add_4 rfl (lv_at hl 0 rfl) ?_
  refine sp_get S hK hW inX10 0 rfl rfl 11 (by decide) lk2 rfl dX10_add_5 ?_
  refine lv_iload_n hx hb dX10_add_8 rfl (lv_at hl 1 rfl) ?_
  obtain ⟨hin, c1, ec1, hf⟩ := sp_hst hf
  refine sp_iast S hK hW 9 rfl hin ec1 (ws' := sw_M a q5 fa tr la sl ce pn mn cl le ri lt nm c1 nl nr nt at9 en9 de mm ma ne us lk sd sf nu gt gl tb sc su) rfl dX10_add_9 (fun H locs hW => ?_)
  refine lv_aload_n hx hb dX10_add_10 rfl (lv_at hl 0 rfl) ?_
  refine sp_get S hK hW inX10 0 rfl rfl 13 (by decide) lk3 rfl dX10_add_11 ?_
  refine lv_aload_n hx hb dX10_add_14 rfl (lv_at hl 0 rfl) ?_
  refine sp_get S hK hW inX10 0 rfl rfl 11 (by decide) lk2 rfl dX10_add_15 ?_
  refine lv_iload_n hx hb dX10_add_18 rfl (lv_at hl 2 rfl) ?_
  obtain ⟨hin, c2, ec2, hf⟩ := sp_hst hf
  refine sp_iast S hK hW 10 rfl hin ec2 (ws' := sw_M a q5 fa tr la sl ce pn mn cl le ri lt nm c1 c2 nr nt at9 en9 de mm ma ne us lk sd sf nu gt gl tb sc su) rfl dX10_add_19 (fun H locs hW => ?_)
  refine lv_aload_n hx hb dX10_add_20 rfl (lv_at hl 0 rfl) ?_
  refine sp_get S hK hW inX10 0 rfl rfl 14 (by decide) lk4 rfl dX10_add_21 ?_
  refine lv_aload_n hx hb dX10_add_24 rfl (lv_at hl 0 rfl) ?_
  refine sp_get S hK hW inX10 0 rfl rfl 11 (by decide) lk2 rfl dX10_add_25 ?_
  refine lv_iload_n hx hb dX10_add_28 rfl (lv_at hl 3 rfl) ?_
  obtain ⟨hin, c3, ec3, hf⟩ := sp_hst hf
  refine sp_iast S hK hW 11 rfl hin ec3 (ws' := sw_M a q5 fa tr la sl ce pn mn cl le ri lt nm c1 c2 c3 nt at9 en9 de mm ma ne us lk sd sf nu gt gl tb sc su) rfl dX10_add_29 (fun H locs hW => ?_)
  refine lv_aload_n hx hb dX10_add_30 rfl (lv_at hl 0 rfl) ?_
  refine sp_get S hK hW inX10 0 rfl rfl 15 (by decide) lk5 rfl dX10_add_31 ?_
  refine lv_aload_n hx hb dX10_add_34 rfl (lv_at hl 0 rfl) ?_
  refine sp_get S hK hW inX10 0 rfl rfl 11 (by decide) lk2 rfl dX10_add_35 ?_
  refine lv_iload hx hb dX10_add_38 (lv_at hl 4 rfl) ?_
  obtain ⟨hin, c4, ec4, hf⟩ := sp_hst hf
  refine sp_iast S hK hW 12 rfl hin ec4 (ws' := sw_M a q5 fa tr la sl ce pn mn cl le ri lt nm c1 c2 c3 c4 at9 en9 de mm ma ne us lk sd sf nu gt gl tb sc su) rfl dX10_add_40 (fun H locs hW => ?_)
  refine lv_aload_n hx hb dX10_add_41 rfl (lv_at hl 0 rfl) ?_
  refine lv_dup hx hb dX10_add_42 rfl ?_
  refine sp_get S hK hW inX10 0 rfl rfl 11 (by decide) lk2 rfl dX10_add_43 ?_
  refine lv_iconst (v := 1) hx hb dX10_add_46 (by decide) ?_
  refine lv_iadd hx hb dX10_add_47 ?_
  obtain ⟨v5, ev5, hf⟩ := sp_hb hf
  refine sp_topi ev5 ?_
  refine sp_put S hK hW inX10 tyX10_ok nmX10 0 rfl rfl 11 (by decide) lk2 rfl rfl rfl (Nat.le_of_ble_eq_true rfl) (ws' := sw_M a q5 fa tr la sl ce pn mn cl le ri lt v5 c1 c2 c3 c4 at9 en9 de mm ma ne us lk sd sf nu gt gl tb sc su) rfl dX10_add_48 (fun H locs hW => ?_)
  refine lv_aload_n hx hb dX10_add_51 rfl (lv_at hl 0 rfl) ?_
  refine sp_get S hK hW inX10 0 rfl rfl 11 (by decide) lk2 rfl dX10_add_52 ?_
  refine lv_iconst (v := 1) hx hb dX10_add_55 (by decide) ?_
  refine lv_isub hx hb dX10_add_56 ?_
  have q0 := Option.some.inj hf
  obtain ⟨q1, z1⟩ := Prod.mk.inj q0
  obtain ⟨q2, z2⟩ := Prod.mk.inj z1
  obtain ⟨q3, z3⟩ := Prod.mk.inj z2
  obtain ⟨q4, z4⟩ := Prod.mk.inj z3
  obtain ⟨q5, z5⟩ := Prod.mk.inj z4
  subst q1
  subst q2
  subst q3
  subst q4
  subst q5
  subst z5
  exact sp_iret S hr hlk hW hQ dX10_add_57

def f_X10_comes_L29 (nm : Int32) (k11 : (Nat → Int32) → (Nat → Int32) → (Nat → Int32) → (Nat → Int32) → Option (Int32 × Int32 × (Nat → Int32) × (Nat → Int32) × (Nat → Int32) × (Nat → Int32) × (Nat → Int32))) (nc : Nat → Int32) (pn : Int32) (nl : Nat → Int32) (nr : Nat → Int32) (nt : Nat → Int32) (rec29 : (Int32 × (Nat → Int32) × (Nat → Int32) × (Nat → Int32) × (Nat → Int32)) → Option (Int32 × Int32 × (Nat → Int32) × (Nat → Int32) × (Nat → Int32) × (Nat → Int32) × (Nat → Int32))) (s9 : Int32 × (Nat → Int32) × (Nat → Int32) × (Nat → Int32) × (Nat → Int32)) : Option (Int32 × Int32 × (Nat → Int32) × (Nat → Int32) × (Nat → Int32) × (Nat → Int32) × (Nat → Int32)) := match s9 with
  | (y2, c3, c4, c5, c6) => if nm ≤ y2 then (k11 c3 c4 c5 c6) else (sp_ld nc 64 y2 (fun v13 => sp_st c3 288 (((24 : Int32) * pn) + y2) v13 (fun c14 => sp_ld nl 64 y2 (fun v15 => sp_st c4 288 (((24 : Int32) * pn) + y2) v15 (fun c16 => sp_ld nr 64 y2 (fun v17 => sp_st c5 288 (((24 : Int32) * pn) + y2) v17 (fun c18 => sp_ld nt 64 y2 (fun v19 => sp_st c6 288 (((24 : Int32) * pn) + y2) v19 (fun c20 => sp_bnd (y2 + (1 : Int32)) (fun v21 => rec29 (v21, c14, c16, c18, c20)))))))))))
theorem f_X10_comes_L29_eq {rec29 : (Int32 × (Nat → Int32) × (Nat → Int32) × (Nat → Int32) × (Nat → Int32)) → Option (Int32 × Int32 × (Nat → Int32) × (Nat → Int32) × (Nat → Int32) × (Nat → Int32) × (Nat → Int32))} {nm : Int32} {k11 : (Nat → Int32) → (Nat → Int32) → (Nat → Int32) → (Nat → Int32) → Option (Int32 × Int32 × (Nat → Int32) × (Nat → Int32) × (Nat → Int32) × (Nat → Int32) × (Nat → Int32))} {nc : Nat → Int32} {pn : Int32} {nl : Nat → Int32} {nr : Nat → Int32} {nt : Nat → Int32} {y2 : Int32} {c3 : Nat → Int32} {c4 : Nat → Int32} {c5 : Nat → Int32} {c6 : Nat → Int32} : f_X10_comes_L29 nm k11 nc pn nl nr nt rec29 (y2, c3, c4, c5, c6) = (if nm ≤ y2 then (k11 c3 c4 c5 c6) else (sp_ld nc 64 y2 (fun v13 => sp_st c3 288 (((24 : Int32) * pn) + y2) v13 (fun c14 => sp_ld nl 64 y2 (fun v15 => sp_st c4 288 (((24 : Int32) * pn) + y2) v15 (fun c16 => sp_ld nr 64 y2 (fun v17 => sp_st c5 288 (((24 : Int32) * pn) + y2) v17 (fun c18 => sp_ld nt 64 y2 (fun v19 => sp_st c6 288 (((24 : Int32) * pn) + y2) v19 (fun c20 => sp_bnd (y2 + (1 : Int32)) (fun v21 => rec29 (v21, c14, c16, c18, c20)))))))))))) := rfl
def f_X10_comes (pn : Int32) (mn : Nat → Int32) (cl : Nat → Int32) (le : Nat → Int32) (ri : Nat → Int32) (lt : Nat → Int32) (nm : Int32) (nc : Nat → Int32) (nl : Nat → Int32) (nr : Nat → Int32) (nt : Nat → Int32) : Option (Int32 × Int32 × (Nat → Int32) × (Nat → Int32) × (Nat → Int32) × (Nat → Int32) × (Nat → Int32)) := if pn = (12 : Int32) then (some ((-4 : Int32), pn, mn, cl, le, ri, lt)) else (sp_st mn 12 pn nm (fun c1 => sp_bnd (fun (c7 : Nat → Int32) (c8 : Nat → Int32) (c9 : Nat → Int32) (c10 : Nat → Int32) => sp_bnd (pn + (1 : Int32)) (fun v12 => some (pn, v12, c1, c7, c8, c9, c10))) (fun k11 => sp_lp (f_X10_comes_L29 nm k11 nc pn nl nr nt) sp_F ((0 : Int32), cl, le, ri, lt))))
def rmX10_comes : Room := { frames := 0, cells := 0, slots := 0, locals := 0 }
set_option maxRecDepth 4000 in
theorem c_X10_comes {l : Launch} {D : va_G} {q5 : Nat → ClassId} (a : Nat → Nat) (fa : Int32) (tr : Int32) (la : Nat → Int32) (sl : Nat → Int32) (ce : Nat → Int32) (pn : Int32) (mn : Nat → Int32) (cl : Nat → Int32) (le : Nat → Int32) (ri : Nat → Int32) (lt : Nat → Int32) (nm : Int32) (nc : Nat → Int32) (nl : Nat → Int32) (nr : Nat → Int32) (nt : Nat → Int32) (at9 : Int32) (en9 : Int32) (de : Nat → Int32) (mm : Int32) (ma : Nat → Int32) (ne : Nat → Int32) (us : Nat → Int32) (lk : Nat → Int32) (sd : Nat → Int32) (sf : Nat → Int32) (nu : Nat → Int32) (gt : Nat → Int64) (gl : Nat → Int32) (tb : Nat → Int64) (sc : Nat → Int32) (su : Nat → Int32) {r' : Int32} {pn' : Int32} {mn' : Nat → Int32} {cl' : Nat → Int32} {le' : Nat → Int32} {ri' : Nat → Int32} {lt' : Nat → Int32} (hf : f_X10_comes pn mn cl le ri lt nm nc nl nr nt = some (r', pn', mn', cl', le', ri', lt')) : sp_Ci l yX10_comes wsX10_comes rmX10_comes D q5 0 [.ref (a 0)] (sw_M a q5 fa tr la sl ce pn mn cl le ri lt nm nc nl nr nt at9 en9 de mm ma ne us lk sd sf nu gt gl tb sc su) r' (sw_M a q5 fa tr la sl ce pn' mn' cl' le' ri' lt' nm nc nl nr nt at9 en9 de mm ma ne us lk sd sf nu gt gl tb sc su) := by
  intro sz
  refine sp_of (cc := cX10_comes) (maxL := 3) (ret := some .int) (own := RX10) (Qc := sp_Qi D r' (sw_M a q5 fa tr la sl ce pn' mn' cl' le' ri' lt' nm nc nl nr nt at9 en9 de mm ma ne us lk sd sf nu gt gl tb sc su)) (by decide) rfl rfl (Nat.le_of_ble_eq_true rfl) ?_
  intro p e s m args below meth c A ls Q hQ S hr hlk hK hG hA hW hl
  have hx := S.1
  have hb := S.2.1
  unfold f_X10_comes at hf
  have inX10 : ∀ w ∈ u_ws RX10 TX10 32, w ∈ wsX10_comes := (fun _ h => List.mem_cons_of_mem _ (List.mem_append_right _ h))
  have lk1 := S.2.2.2.2 (Cond.fieldLink RX10 108 "ShortProofsModel" "proofs" "I") (List.mem_of_getElem? (i := 1) rfl)
  have lk2 := S.2.2.2.2 (Cond.fieldLink RX10 19 "ShortProofsModel" "many" "[I") (List.mem_of_getElem? (i := 2) rfl)
  have lk3 := S.2.2.2.2 (Cond.fieldLink RX10 114 "ShortProofsModel" "newMany" "I") (List.mem_of_getElem? (i := 3) rfl)
  have lk4 := S.2.2.2.2 (Cond.fieldLink RX10 22 "ShortProofsModel" "clauses" "[I") (List.mem_of_getElem? (i := 4) rfl)
  have lk5 := S.2.2.2.2 (Cond.fieldLink RX10 34 "ShortProofsModel" "newClause" "[I") (List.mem_of_getElem? (i := 5) rfl)
  have lk6 := S.2.2.2.2 (Cond.fieldLink RX10 25 "ShortProofsModel" "lefts" "[I") (List.mem_of_getElem? (i := 6) rfl)
  have lk7 := S.2.2.2.2 (Cond.fieldLink RX10 37 "ShortProofsModel" "newLeft" "[I") (List.mem_of_getElem? (i := 7) rfl)
  have lk8 := S.2.2.2.2 (Cond.fieldLink RX10 28 "ShortProofsModel" "rights" "[I") (List.mem_of_getElem? (i := 8) rfl)
  have lk9 := S.2.2.2.2 (Cond.fieldLink RX10 40 "ShortProofsModel" "newRight" "[I") (List.mem_of_getElem? (i := 9) rfl)
  have lk10 := S.2.2.2.2 (Cond.fieldLink RX10 31 "ShortProofsModel" "letters" "[I") (List.mem_of_getElem? (i := 10) rfl)
  have lk11 := S.2.2.2.2 (Cond.fieldLink RX10 43 "ShortProofsModel" "newLetter" "[I") (List.mem_of_getElem? (i := 11) rfl)
  refine lv_aload_n hx hb dX10_comes_0 rfl (lv_at hl 0 rfl) ?_
  refine sp_get S hK hW inX10 0 rfl rfl 5 (by decide) lk1 rfl dX10_comes_1 ?_
  refine lv_bipush (v := 12) hx hb dX10_comes_4 (by decide) ?_
  refine lv_icmp_ne (tgt := 12) hx hb dX10_comes_6 (by decide) (fun hc => ?_) (fun hc => ?_)
  · have hf := sp_hf hf hc
    refine lv_aload_n hx hb dX10_comes_12 rfl (lv_at hl 0 rfl) ?_
    refine sp_get S hK hW inX10 0 rfl rfl 5 (by decide) lk1 rfl dX10_comes_13 ?_
    refine lv_istore_n (lv' := [(1, .int pn), (0, .ref (a 0))]) hx hb dX10_comes_16 rfl hl (by decide) rfl (fun ls hl => ?_)
    refine lv_aload_n hx hb dX10_comes_17 rfl (lv_at hl 1 rfl) ?_
    refine sp_get S hK hW inX10 0 rfl rfl 6 (by decide) lk2 rfl dX10_comes_18 ?_
    refine lv_iload_n hx hb dX10_comes_21 rfl (lv_at hl 0 rfl) ?_
    refine lv_aload_n hx hb dX10_comes_22 rfl (lv_at hl 1 rfl) ?_
    refine sp_get S hK hW inX10 0 rfl rfl 11 (by decide) lk3 rfl dX10_comes_23 ?_
    obtain ⟨hin, c1, ec1, hf⟩ := sp_hst hf
    refine sp_iast S hK hW 4 rfl hin ec1 (ws' := sw_M a q5 fa tr la sl ce pn c1 cl le ri lt nm nc nl nr nt at9 en9 de mm ma ne us lk sd sf nu gt gl tb sc su) rfl dX10_comes_26 (fun H locs hW => ?_)
    refine lv_iconst (v := 0) hx hb dX10_comes_27 (by decide) ?_
    refine lv_istore_n (lv' := [(2, .int (0 : Int32)), (1, .int pn), (0, .ref (a 0))]) hx hb dX10_comes_28 rfl hl (by decide) rfl (fun ls hl => ?_)
    obtain ⟨k11, ek11, hf⟩ := sp_hb hf
    have hj11 : ∀ (c7 : Nat → Int32) (c8 : Nat → Int32) (c9 : Nat → Int32) (c10 : Nat → Int32) (H : Heap) (locs : List Loc) (ls : Array Slot), k11 c7 c8 c9 c10 = some (r', pn', mn', cl', le', ri', lt') → sp_wd D A s.heap (sw_M a q5 fa tr la sl ce pn c1 c7 c8 c9 c10 nm nc nl nr nt at9 en9 de mm ma ne us lk sd sf nu gt gl tb sc su) H locs → lv_has ls 3 [(0, .ref (a 0)), (1, .int pn)] → W p l e rmX10_comes s m args below meth c H locs 0 0 Q (F0 m 111 ls []) := by
      intro c7 c8 c9 c10 H locs ls hf hW hl
      rw [ek11] at hf
      refine lv_aload_n hx hb dX10_comes_111 rfl (lv_at hl 0 rfl) ?_
      refine lv_dup hx hb dX10_comes_112 rfl ?_
      refine sp_get S hK hW inX10 0 rfl rfl 5 (by decide) lk1 rfl dX10_comes_113 ?_
      refine lv_iconst (v := 1) hx hb dX10_comes_116 (by decide) ?_
      refine lv_iadd hx hb dX10_comes_117 ?_
      obtain ⟨v12, ev12, hf⟩ := sp_hb hf
      refine sp_topi ev12 ?_
      refine sp_put S hK hW inX10 tyX10_ok nmX10 0 rfl rfl 5 (by decide) lk1 rfl rfl rfl (Nat.le_of_ble_eq_true rfl) (ws' := sw_M a q5 fa tr la sl ce v12 c1 c7 c8 c9 c10 nm nc nl nr nt at9 en9 de mm ma ne us lk sd sf nu gt gl tb sc su) rfl dX10_comes_118 (fun H locs hW => ?_)
      refine lv_iload_n hx hb dX10_comes_121 rfl (lv_at hl 1 rfl) ?_
      have q0 := Option.some.inj hf
      obtain ⟨q1, z1⟩ := Prod.mk.inj q0
      obtain ⟨q2, z2⟩ := Prod.mk.inj z1
      obtain ⟨q3, z3⟩ := Prod.mk.inj z2
      obtain ⟨q4, z4⟩ := Prod.mk.inj z3
      obtain ⟨q5, z5⟩ := Prod.mk.inj z4
      obtain ⟨q6, z6⟩ := Prod.mk.inj z5
      subst q1
      subst q2
      subst q3
      subst q4
      subst q5
      subst q6
      subst z6
      exact sp_iret S hr hlk hW hQ dX10_comes_122
    have hlp29 : ∀ (n9 : Nat) (y2 : Int32) (c3 : Nat → Int32) (c4 : Nat → Int32) (c5 : Nat → Int32) (c6 : Nat → Int32) (H : Heap) (locs : List Loc) (ls : Array Slot), sp_lp (f_X10_comes_L29 nm k11 nc pn nl nr nt) n9 (y2, c3, c4, c5, c6) = some (r', pn', mn', cl', le', ri', lt') → sp_wd D A s.heap (sw_M a q5 fa tr la sl ce pn c1 c3 c4 c5 c6 nm nc nl nr nt at9 en9 de mm ma ne us lk sd sf nu gt gl tb sc su) H locs → lv_has ls 3 [(0, .ref (a 0)), (1, .int pn), (2, .int y2)] → W p l e rmX10_comes s m args below meth c H locs 0 0 Q (F0 m 29 ls []) := by
      intro n9
      induction n9 with
      | zero =>
        intro y2 c3 c4 c5 c6 H locs ls hf hW hl
        exact (sp_lp0 hf).elim
      | succ n9 ih29 =>
        intro y2 c3 c4 c5 c6 H locs ls hf hW hl
        have hf := sp_lpS hf
        rw [f_X10_comes_L29_eq] at hf
        refine lv_iload_n hx hb dX10_comes_29 rfl (lv_at hl 2 rfl) ?_
        refine lv_aload_n hx hb dX10_comes_30 rfl (lv_at hl 0 rfl) ?_
        refine sp_get S hK hW inX10 0 rfl rfl 11 (by decide) lk3 rfl dX10_comes_31 ?_
        refine lv_icmp_ge (tgt := 111) hx hb dX10_comes_34 (by decide) (fun hc => ?_) (fun hc => ?_)
        · have hf := sp_ht hf hc
          exact hj11 _ _ _ _ _ _ _ hf hW (lv_sub hl [0, 1] rfl)
        · have hf := sp_hf hf hc
          refine lv_aload_n hx hb dX10_comes_37 rfl (lv_at hl 0 rfl) ?_
          refine sp_get S hK hW inX10 0 rfl rfl 7 (by decide) lk4 rfl dX10_comes_38 ?_
          refine lv_bipush (v := 24) hx hb dX10_comes_41 (by decide) ?_
          refine lv_iload_n hx hb dX10_comes_43 rfl (lv_at hl 1 rfl) ?_
          refine lv_imul hx hb dX10_comes_44 ?_
          refine lv_iload_n hx hb dX10_comes_45 rfl (lv_at hl 2 rfl) ?_
          refine lv_iadd hx hb dX10_comes_46 ?_
          refine lv_aload_n hx hb dX10_comes_47 rfl (lv_at hl 0 rfl) ?_
          refine sp_get S hK hW inX10 0 rfl rfl 12 (by decide) lk5 rfl dX10_comes_48 ?_
          refine lv_iload_n hx hb dX10_comes_51 rfl (lv_at hl 2 rfl) ?_
          obtain ⟨hin, v13, ev13, hf⟩ := sp_hld hf
          refine sp_iald S hK hW 9 rfl hin ev13 dX10_comes_52 ?_
          obtain ⟨hin, c14, ec14, hf⟩ := sp_hst hf
          refine sp_iast S hK hW 5 rfl hin ec14 (ws' := sw_M a q5 fa tr la sl ce pn c1 c14 c4 c5 c6 nm nc nl nr nt at9 en9 de mm ma ne us lk sd sf nu gt gl tb sc su) rfl dX10_comes_53 (fun H locs hW => ?_)
          refine lv_aload_n hx hb dX10_comes_54 rfl (lv_at hl 0 rfl) ?_
          refine sp_get S hK hW inX10 0 rfl rfl 8 (by decide) lk6 rfl dX10_comes_55 ?_
          refine lv_bipush (v := 24) hx hb dX10_comes_58 (by decide) ?_
          refine lv_iload_n hx hb dX10_comes_60 rfl (lv_at hl 1 rfl) ?_
          refine lv_imul hx hb dX10_comes_61 ?_
          refine lv_iload_n hx hb dX10_comes_62 rfl (lv_at hl 2 rfl) ?_
          refine lv_iadd hx hb dX10_comes_63 ?_
          refine lv_aload_n hx hb dX10_comes_64 rfl (lv_at hl 0 rfl) ?_
          refine sp_get S hK hW inX10 0 rfl rfl 13 (by decide) lk7 rfl dX10_comes_65 ?_
          refine lv_iload_n hx hb dX10_comes_68 rfl (lv_at hl 2 rfl) ?_
          obtain ⟨hin, v15, ev15, hf⟩ := sp_hld hf
          refine sp_iald S hK hW 10 rfl hin ev15 dX10_comes_69 ?_
          obtain ⟨hin, c16, ec16, hf⟩ := sp_hst hf
          refine sp_iast S hK hW 6 rfl hin ec16 (ws' := sw_M a q5 fa tr la sl ce pn c1 c14 c16 c5 c6 nm nc nl nr nt at9 en9 de mm ma ne us lk sd sf nu gt gl tb sc su) rfl dX10_comes_70 (fun H locs hW => ?_)
          refine lv_aload_n hx hb dX10_comes_71 rfl (lv_at hl 0 rfl) ?_
          refine sp_get S hK hW inX10 0 rfl rfl 9 (by decide) lk8 rfl dX10_comes_72 ?_
          refine lv_bipush (v := 24) hx hb dX10_comes_75 (by decide) ?_
          refine lv_iload_n hx hb dX10_comes_77 rfl (lv_at hl 1 rfl) ?_
          refine lv_imul hx hb dX10_comes_78 ?_
          refine lv_iload_n hx hb dX10_comes_79 rfl (lv_at hl 2 rfl) ?_
          refine lv_iadd hx hb dX10_comes_80 ?_
          refine lv_aload_n hx hb dX10_comes_81 rfl (lv_at hl 0 rfl) ?_
          refine sp_get S hK hW inX10 0 rfl rfl 14 (by decide) lk9 rfl dX10_comes_82 ?_
          refine lv_iload_n hx hb dX10_comes_85 rfl (lv_at hl 2 rfl) ?_
          obtain ⟨hin, v17, ev17, hf⟩ := sp_hld hf
          refine sp_iald S hK hW 11 rfl hin ev17 dX10_comes_86 ?_
          obtain ⟨hin, c18, ec18, hf⟩ := sp_hst hf
          refine sp_iast S hK hW 7 rfl hin ec18 (ws' := sw_M a q5 fa tr la sl ce pn c1 c14 c16 c18 c6 nm nc nl nr nt at9 en9 de mm ma ne us lk sd sf nu gt gl tb sc su) rfl dX10_comes_87 (fun H locs hW => ?_)
          refine lv_aload_n hx hb dX10_comes_88 rfl (lv_at hl 0 rfl) ?_
          refine sp_get S hK hW inX10 0 rfl rfl 10 (by decide) lk10 rfl dX10_comes_89 ?_
          refine lv_bipush (v := 24) hx hb dX10_comes_92 (by decide) ?_
          refine lv_iload_n hx hb dX10_comes_94 rfl (lv_at hl 1 rfl) ?_
          refine lv_imul hx hb dX10_comes_95 ?_
          refine lv_iload_n hx hb dX10_comes_96 rfl (lv_at hl 2 rfl) ?_
          refine lv_iadd hx hb dX10_comes_97 ?_
          refine lv_aload_n hx hb dX10_comes_98 rfl (lv_at hl 0 rfl) ?_
          refine sp_get S hK hW inX10 0 rfl rfl 15 (by decide) lk11 rfl dX10_comes_99 ?_
          refine lv_iload_n hx hb dX10_comes_102 rfl (lv_at hl 2 rfl) ?_
          obtain ⟨hin, v19, ev19, hf⟩ := sp_hld hf
          refine sp_iald S hK hW 12 rfl hin ev19 dX10_comes_103 ?_
          obtain ⟨hin, c20, ec20, hf⟩ := sp_hst hf
          refine sp_iast S hK hW 8 rfl hin ec20 (ws' := sw_M a q5 fa tr la sl ce pn c1 c14 c16 c18 c20 nm nc nl nr nt at9 en9 de mm ma ne us lk sd sf nu gt gl tb sc su) rfl dX10_comes_104 (fun H locs hW => ?_)
          obtain ⟨v21, ev21, hf⟩ := sp_hb hf
          refine lv_iinc (v := v21) (lv' := [(2, .int v21), (0, .ref (a 0)), (1, .int pn)]) hx hb dX10_comes_105 hl (k := 2) rfl (by rw [ev21]; rfl) (by decide) rfl (fun ls hl => ?_)
          refine lv_goto (tgt := 29) hx hb dX10_comes_108 (by decide) ?_
          exact ih29 _ _ _ _ _ _ _ _ hf hW (lv_sub hl [1, 2, 0] rfl)
    exact hlp29 _ _ _ _ _ _ _ _ _ hf hW (lv_sub hl [2, 1, 0] rfl)
  · have hf := sp_ht hf hc
    refine lv_bipush (v := (-4)) hx hb dX10_comes_9 (by decide) ?_
    have q0 := Option.some.inj hf
    obtain ⟨q1, z1⟩ := Prod.mk.inj q0
    obtain ⟨q2, z2⟩ := Prod.mk.inj z1
    obtain ⟨q3, z3⟩ := Prod.mk.inj z2
    obtain ⟨q4, z4⟩ := Prod.mk.inj z3
    obtain ⟨q5, z5⟩ := Prod.mk.inj z4
    obtain ⟨q6, z6⟩ := Prod.mk.inj z5
    subst q1
    subst q2
    subst q3
    subst q4
    subst q5
    subst q6
    subst z6
    exact sp_iret S hr hlk hW hQ dX10_comes_11

def f_X10_codeAt (ce : Nat → Int32) (at9 : Int32) (en9 : Int32) : Option (Int32) := if en9 ≤ at9 then (some (-9 : Int32)) else (sp_ld ce 240 at9 (fun v1 => some v1))
def rmX10_codeAt : Room := { frames := 0, cells := 0, slots := 0, locals := 0 }
set_option maxRecDepth 4000 in
theorem c_X10_codeAt {l : Launch} {D : va_G} {q5 : Nat → ClassId} (a : Nat → Nat) (fa : Int32) (tr : Int32) (la : Nat → Int32) (sl : Nat → Int32) (ce : Nat → Int32) (pn : Int32) (mn : Nat → Int32) (cl : Nat → Int32) (le : Nat → Int32) (ri : Nat → Int32) (lt : Nat → Int32) (nm : Int32) (nc : Nat → Int32) (nl : Nat → Int32) (nr : Nat → Int32) (nt : Nat → Int32) (at9 : Int32) (en9 : Int32) (de : Nat → Int32) (mm : Int32) (ma : Nat → Int32) (ne : Nat → Int32) (us : Nat → Int32) (lk : Nat → Int32) (sd : Nat → Int32) (sf : Nat → Int32) (nu : Nat → Int32) (gt : Nat → Int64) (gl : Nat → Int32) (tb : Nat → Int64) (sc : Nat → Int32) (su : Nat → Int32) {r' : Int32} (hf : f_X10_codeAt ce at9 en9 = some r') : sp_Ci l yX10_codeAt wsX10_codeAt rmX10_codeAt D q5 0 [.ref (a 0)] (sw_M a q5 fa tr la sl ce pn mn cl le ri lt nm nc nl nr nt at9 en9 de mm ma ne us lk sd sf nu gt gl tb sc su) r' (sw_M a q5 fa tr la sl ce pn mn cl le ri lt nm nc nl nr nt at9 en9 de mm ma ne us lk sd sf nu gt gl tb sc su) := by
  intro sz
  refine sp_of (cc := cX10_codeAt) (maxL := 1) (ret := some .int) (own := RX10) (Qc := sp_Qi D r' (sw_M a q5 fa tr la sl ce pn mn cl le ri lt nm nc nl nr nt at9 en9 de mm ma ne us lk sd sf nu gt gl tb sc su)) (by decide) rfl rfl (Nat.le_of_ble_eq_true rfl) ?_
  intro p e s m args below meth c A ls Q hQ S hr hlk hK hG hA hW hl
  have hx := S.1
  have hb := S.2.1
  unfold f_X10_codeAt at hf
  have inX10 : ∀ w ∈ u_ws RX10 TX10 32, w ∈ wsX10_codeAt := (fun _ h => List.mem_cons_of_mem _ (List.mem_append_right _ h))
  have lk1 := S.2.2.2.2 (Cond.fieldLink RX10 117 "ShortProofsModel" "at" "I") (List.mem_of_getElem? (i := 1) rfl)
  have lk2 := S.2.2.2.2 (Cond.fieldLink RX10 120 "ShortProofsModel" "end" "I") (List.mem_of_getElem? (i := 2) rfl)
  have lk3 := S.2.2.2.2 (Cond.fieldLink RX10 16 "ShortProofsModel" "cells" "[I") (List.mem_of_getElem? (i := 3) rfl)
  refine lv_aload_n hx hb dX10_codeAt_0 rfl (lv_at hl 0 rfl) ?_
  refine sp_get S hK hW inX10 0 rfl rfl 16 (by decide) lk1 rfl dX10_codeAt_1 ?_
  refine lv_aload_n hx hb dX10_codeAt_4 rfl (lv_at hl 0 rfl) ?_
  refine sp_get S hK hW inX10 0 rfl rfl 17 (by decide) lk2 rfl dX10_codeAt_5 ?_
  refine lv_icmp_ge (tgt := 23) hx hb dX10_codeAt_8 (by decide) (fun hc => ?_) (fun hc => ?_)
  · have hf := sp_ht hf hc
    refine lv_bipush (v := (-9)) hx hb dX10_codeAt_23 (by decide) ?_
    have q0 := Option.some.inj hf
    subst q0
    exact sp_iret S hr hlk hW hQ dX10_codeAt_25
  · have hf := sp_hf hf hc
    refine lv_aload_n hx hb dX10_codeAt_11 rfl (lv_at hl 0 rfl) ?_
    refine sp_get S hK hW inX10 0 rfl rfl 4 (by decide) lk3 rfl dX10_codeAt_12 ?_
    refine lv_aload_n hx hb dX10_codeAt_15 rfl (lv_at hl 0 rfl) ?_
    refine sp_get S hK hW inX10 0 rfl rfl 16 (by decide) lk1 rfl dX10_codeAt_16 ?_
    obtain ⟨hin, v1, ev1, hf⟩ := sp_hld hf
    refine sp_iald S hK hW 3 rfl hin ev1 dX10_codeAt_19 ?_
    refine lv_goto (tgt := 25) hx hb dX10_codeAt_20 (by decide) ?_
    have q0 := Option.some.inj hf
    subst q0
    exact sp_iret S hr hlk hW hQ dX10_codeAt_25

def f_X10_signOf (p1 : Int32) : Option (Int32) := Option.bind (f_X10_within p1 (97 : Int32) (102 : Int32)) (fun r1 => if r1 = 0 then (Option.bind (f_X10_within p1 (65 : Int32) (70 : Int32)) (fun r2 => if r2 = 0 then (some (0 : Int32)) else (some ((64 : Int32) <<< ((p1 - (65 : Int32)) &&& 31))))) else (some ((1 : Int32) <<< ((p1 - (97 : Int32)) &&& 31))))
def rmX10_signOf : Room := { frames := 1, cells := 0, slots := 0, locals := 22 }
set_option maxRecDepth 4000 in
theorem c_X10_signOf {l : Launch} {D : va_G} {q5 : Nat → ClassId} (p1 : Int32) {r' : Int32} (hf : f_X10_signOf p1 = some r') : sp_Ci l yX10_signOf wsX10_signOf rmX10_signOf D q5 0 [.int p1] ([]) r' ([]) := by
  intro sz
  refine sp_of (cc := cX10_signOf) (maxL := 1) (ret := some .int) (own := RX10) (Qc := sp_Qi D r' ([])) (by decide) rfl rfl (Nat.le_of_ble_eq_true rfl) ?_
  intro p e s m args below meth c A ls Q hQ S hr hlk hK hG hA hW hl
  have hx := S.1
  have hb := S.2.1
  unfold f_X10_signOf at hf
  refine lv_iload_n hx hb dX10_signOf_0 rfl (lv_at hl 0 rfl) ?_
  refine lv_bipush (v := 97) hx hb dX10_signOf_1 (by decide) ?_
  refine lv_bipush (v := 102) hx hb dX10_signOf_3 (by decide) ?_
  obtain ⟨r1, hc1, hf⟩ := sp_hc hf
  refine sp_callSi (rest := []) S hK hG hA hW (c_X10_within p1 (97 : Int32) (102 : Int32) hc1) (by decide) (va_cwS 3 S.2.2.2.2 gX10_signOf_X10_within rfl rfl rfl (by decide +kernel) (by decide)) (isC := []) rfl rfl rfl (WS' := []) rfl rfl hl.1 (Nat.le_of_ble_eq_true rfl) dX10_signOf_5 ⟨Nat.zero_le _, Nat.zero_le _⟩ rfl (fun H locs hW => ?_)
  refine lv_if_eq (tgt := 20) hx hb dX10_signOf_8 (by decide) (fun hc => ?_) (fun hc => ?_)
  · have hf := sp_ht hf hc
    refine lv_iload_n hx hb dX10_signOf_20 rfl (lv_at hl 0 rfl) ?_
    refine lv_bipush (v := 65) hx hb dX10_signOf_21 (by decide) ?_
    refine lv_bipush (v := 70) hx hb dX10_signOf_23 (by decide) ?_
    obtain ⟨r2, hc2, hf⟩ := sp_hc hf
    refine sp_callSi (rest := []) S hK hG hA hW (c_X10_within p1 (65 : Int32) (70 : Int32) hc2) (by decide) (va_cwS 3 S.2.2.2.2 gX10_signOf_X10_within rfl rfl rfl (by decide +kernel) (by decide)) (isC := []) rfl rfl rfl (WS' := []) rfl rfl hl.1 (Nat.le_of_ble_eq_true rfl) dX10_signOf_25 ⟨Nat.zero_le _, Nat.zero_le _⟩ rfl (fun H locs hW => ?_)
    refine lv_if_eq (tgt := 41) hx hb dX10_signOf_28 (by decide) (fun hc => ?_) (fun hc => ?_)
    · have hf := sp_ht hf hc
      refine lv_iconst (v := 0) hx hb dX10_signOf_41 (by decide) ?_
      have q0 := Option.some.inj hf
      subst q0
      exact sp_iret S hr hlk hW hQ dX10_signOf_42
    · have hf := sp_hf hf hc
      refine lv_bipush (v := 64) hx hb dX10_signOf_31 (by decide) ?_
      refine lv_iload_n hx hb dX10_signOf_33 rfl (lv_at hl 0 rfl) ?_
      refine lv_bipush (v := 65) hx hb dX10_signOf_34 (by decide) ?_
      refine lv_isub hx hb dX10_signOf_36 ?_
      refine lv_ishl hx hb dX10_signOf_37 ?_
      refine lv_goto (tgt := 42) hx hb dX10_signOf_38 (by decide) ?_
      have q0 := Option.some.inj hf
      subst q0
      exact sp_iret S hr hlk hW hQ dX10_signOf_42
  · have hf := sp_hf hf hc
    refine lv_iconst (v := 1) hx hb dX10_signOf_11 (by decide) ?_
    refine lv_iload_n hx hb dX10_signOf_12 rfl (lv_at hl 0 rfl) ?_
    refine lv_bipush (v := 97) hx hb dX10_signOf_13 (by decide) ?_
    refine lv_isub hx hb dX10_signOf_15 ?_
    refine lv_ishl hx hb dX10_signOf_16 ?_
    refine lv_goto (tgt := 42) hx hb dX10_signOf_17 (by decide) ?_
    have q0 := Option.some.inj hf
    subst q0
    exact sp_iret S hr hlk hW hQ dX10_signOf_42

def f_X10_readsGround_L2 (en9 : Int32) (k5 : Int32 → Int32 → Option (Int32 × Int32 × (Nat → Int32) × (Nat → Int32) × (Nat → Int32) × (Nat → Int32) × Int32)) (ce : Nat → Int32) (nm : Int32) (nc : Nat → Int32) (nl : Nat → Int32) (nr : Nat → Int32) (nt : Nat → Int32) (rec2 : (Int32 × Int32) → Option (Int32 × Int32 × (Nat → Int32) × (Nat → Int32) × (Nat → Int32) × (Nat → Int32) × Int32)) (s9 : Int32 × Int32) : Option (Int32 × Int32 × (Nat → Int32) × (Nat → Int32) × (Nat → Int32) × (Nat → Int32) × Int32) := match s9 with
  | (y1, c2) => if en9 ≤ c2 then (k5 y1 c2) else (sp_ld ce 240 c2 (fun v12 => if v12 = (59 : Int32) then (k5 y1 c2) else (sp_ld ce 240 c2 (fun v13 => Option.bind (f_X10_signOf v13) (fun r14 => sp_bnd (fun (x15 : Int32) => if r14 = 0 then (some ((0 : Int32), nm, nc, nl, nr, nt, c2)) else (if ((y1 ||| (y1 >>> ((6 : Int32) &&& 31))) &&& x15) = 0 then (sp_bnd (y1 ||| r14) (fun v17 => sp_bnd (c2 + (1 : Int32)) (fun v18 => rec2 (v17, v18)))) else (some ((0 : Int32), nm, nc, nl, nr, nt, c2)))) (fun k16 => if (64 : Int32) ≤ r14 then (k16 (r14 >>> ((6 : Int32) &&& 31))) else (k16 r14)))))))
theorem f_X10_readsGround_L2_eq {rec2 : (Int32 × Int32) → Option (Int32 × Int32 × (Nat → Int32) × (Nat → Int32) × (Nat → Int32) × (Nat → Int32) × Int32)} {en9 : Int32} {k5 : Int32 → Int32 → Option (Int32 × Int32 × (Nat → Int32) × (Nat → Int32) × (Nat → Int32) × (Nat → Int32) × Int32)} {ce : Nat → Int32} {nm : Int32} {nc : Nat → Int32} {nl : Nat → Int32} {nr : Nat → Int32} {nt : Nat → Int32} {y1 : Int32} {c2 : Int32} : f_X10_readsGround_L2 en9 k5 ce nm nc nl nr nt rec2 (y1, c2) = (if en9 ≤ c2 then (k5 y1 c2) else (sp_ld ce 240 c2 (fun v12 => if v12 = (59 : Int32) then (k5 y1 c2) else (sp_ld ce 240 c2 (fun v13 => Option.bind (f_X10_signOf v13) (fun r14 => sp_bnd (fun (x15 : Int32) => if r14 = 0 then (some ((0 : Int32), nm, nc, nl, nr, nt, c2)) else (if ((y1 ||| (y1 >>> ((6 : Int32) &&& 31))) &&& x15) = 0 then (sp_bnd (y1 ||| r14) (fun v17 => sp_bnd (c2 + (1 : Int32)) (fun v18 => rec2 (v17, v18)))) else (some ((0 : Int32), nm, nc, nl, nr, nt, c2)))) (fun k16 => if (64 : Int32) ≤ r14 then (k16 (r14 >>> ((6 : Int32) &&& 31))) else (k16 r14)))))))) := rfl
def f_X10_readsGround (ce : Nat → Int32) (nm : Int32) (nc : Nat → Int32) (nl : Nat → Int32) (nr : Nat → Int32) (nt : Nat → Int32) (at9 : Int32) (en9 : Int32) : Option (Int32 × Int32 × (Nat → Int32) × (Nat → Int32) × (Nat → Int32) × (Nat → Int32) × Int32) := sp_bnd (fun (x3 : Int32) (c4 : Int32) => Option.bind (f_X10_add x3 (-9 : Int32) (-9 : Int32) (-9 : Int32) nm nc nl nr nt) (fun q9 => match q9 with | (r6, c7, c8, c9, c10, c11) => if r6 < 0 then (some ((0 : Int32), c7, c8, c9, c10, c11, c4)) else (some ((1 : Int32), c7, c8, c9, c10, c11, c4)))) (fun k5 => sp_lp (f_X10_readsGround_L2 en9 k5 ce nm nc nl nr nt) sp_F ((0 : Int32), at9))
def rmX10_readsGround : Room := { frames := 2, cells := 0, slots := 0, locals := 42 }
set_option maxRecDepth 4000 in
theorem c_X10_readsGround {l : Launch} {D : va_G} {q5 : Nat → ClassId} (a : Nat → Nat) (fa : Int32) (tr : Int32) (la : Nat → Int32) (sl : Nat → Int32) (ce : Nat → Int32) (pn : Int32) (mn : Nat → Int32) (cl : Nat → Int32) (le : Nat → Int32) (ri : Nat → Int32) (lt : Nat → Int32) (nm : Int32) (nc : Nat → Int32) (nl : Nat → Int32) (nr : Nat → Int32) (nt : Nat → Int32) (at9 : Int32) (en9 : Int32) (de : Nat → Int32) (mm : Int32) (ma : Nat → Int32) (ne : Nat → Int32) (us : Nat → Int32) (lk : Nat → Int32) (sd : Nat → Int32) (sf : Nat → Int32) (nu : Nat → Int32) (gt : Nat → Int64) (gl : Nat → Int32) (tb : Nat → Int64) (sc : Nat → Int32) (su : Nat → Int32) {r' : Int32} {nm' : Int32} {nc' : Nat → Int32} {nl' : Nat → Int32} {nr' : Nat → Int32} {nt' : Nat → Int32} {at9' : Int32} (hf : f_X10_readsGround ce nm nc nl nr nt at9 en9 = some (r', nm', nc', nl', nr', nt', at9')) : sp_Ci l yX10_readsGround wsX10_readsGround rmX10_readsGround D q5 0 [.ref (a 0)] (sw_M a q5 fa tr la sl ce pn mn cl le ri lt nm nc nl nr nt at9 en9 de mm ma ne us lk sd sf nu gt gl tb sc su) r' (sw_M a q5 fa tr la sl ce pn mn cl le ri lt nm' nc' nl' nr' nt' at9' en9 de mm ma ne us lk sd sf nu gt gl tb sc su) := by
  intro sz
  refine sp_of (cc := cX10_readsGround) (maxL := 4) (ret := some .boolean) (own := RX10) (Qc := sp_Qi D r' (sw_M a q5 fa tr la sl ce pn mn cl le ri lt nm' nc' nl' nr' nt' at9' en9 de mm ma ne us lk sd sf nu gt gl tb sc su)) (by decide) rfl rfl (Nat.le_of_ble_eq_true rfl) ?_
  intro p e s m args below meth c A ls Q hQ S hr hlk hK hG hA hW hl
  have hx := S.1
  have hb := S.2.1
  unfold f_X10_readsGround at hf
  have inX10 : ∀ w ∈ u_ws RX10 TX10 32, w ∈ wsX10_readsGround := (fun _ h => List.mem_cons_of_mem _ (List.mem_append_right _ h))
  have lk1 := S.2.2.2.2 (Cond.fieldLink RX10 117 "ShortProofsModel" "at" "I") (List.mem_of_getElem? (i := 1) rfl)
  have lk2 := S.2.2.2.2 (Cond.fieldLink RX10 120 "ShortProofsModel" "end" "I") (List.mem_of_getElem? (i := 2) rfl)
  have lk3 := S.2.2.2.2 (Cond.fieldLink RX10 16 "ShortProofsModel" "cells" "[I") (List.mem_of_getElem? (i := 3) rfl)
  refine lv_iconst (v := 0) hx hb dX10_readsGround_0 (by decide) ?_
  refine lv_istore_n (lv' := [(1, .int (0 : Int32)), (0, .ref (a 0))]) hx hb dX10_readsGround_1 rfl hl (by decide) rfl (fun ls hl => ?_)
  obtain ⟨k5, ek5, hf⟩ := sp_hb hf
  have hj5 : ∀ (x3 : Int32) (c4 : Int32) (H : Heap) (locs : List Loc) (ls : Array Slot), k5 x3 c4 = some (r', nm', nc', nl', nr', nt', at9') → sp_wd D A s.heap (sw_M a q5 fa tr la sl ce pn mn cl le ri lt nm nc nl nr nt c4 en9 de mm ma ne us lk sd sf nu gt gl tb sc su) H locs → lv_has ls 4 [(0, .ref (a 0)), (1, .int x3)] → W p l e rmX10_readsGround s m args below meth c H locs 0 0 Q (F0 m 89 ls []) := by
    intro x3 c4 H locs ls hf hW hl
    rw [ek5] at hf
    refine lv_aload_n hx hb dX10_readsGround_89 rfl (lv_at hl 0 rfl) ?_
    refine lv_iload_n hx hb dX10_readsGround_90 rfl (lv_at hl 1 rfl) ?_
    refine lv_bipush (v := (-9)) hx hb dX10_readsGround_91 (by decide) ?_
    refine lv_bipush (v := (-9)) hx hb dX10_readsGround_93 (by decide) ?_
    refine lv_bipush (v := (-9)) hx hb dX10_readsGround_95 (by decide) ?_
    obtain ⟨⟨r6, c7, c8, c9, c10, c11⟩, hc11, hf⟩ := sp_hc hf
    refine sp_callViP (rest := []) S hK hG hA hW (c_X10_add a fa tr la sl ce pn mn cl le ri lt nm nc nl nr nt c4 en9 de mm ma ne us lk sd sf nu gt gl tb sc su x3 (-9 : Int32) (-9 : Int32) (-9 : Int32) hc11) (by decide) (cwV 4 S.2.2.2.2 gX10_readsGround_X10_add rfl rfl rfl (by decide +kernel) (by decide)) 8 0 rfl rfl (sp_pn _) rfl (WS' := sw_M a q5 fa tr la sl ce pn mn cl le ri lt c7 c8 c9 c10 c11 c4 en9 de mm ma ne us lk sd sf nu gt gl tb sc su) (sp_pn' _) rfl hl.1 (Nat.le_of_ble_eq_true rfl) dX10_readsGround_97 ⟨Nat.zero_le _, Nat.zero_le _⟩ rfl (fun H locs hW => ?_)
    refine lv_if_lt (tgt := 107) hx hb dX10_readsGround_100 (by decide) (fun hc => ?_) (fun hc => ?_)
    · have hf := sp_ht hf hc
      refine lv_iconst (v := 0) hx hb dX10_readsGround_107 (by decide) ?_
      have q0 := Option.some.inj hf
      obtain ⟨q1, z1⟩ := Prod.mk.inj q0
      obtain ⟨q2, z2⟩ := Prod.mk.inj z1
      obtain ⟨q3, z3⟩ := Prod.mk.inj z2
      obtain ⟨q4, z4⟩ := Prod.mk.inj z3
      obtain ⟨q5, z5⟩ := Prod.mk.inj z4
      obtain ⟨q6, z6⟩ := Prod.mk.inj z5
      subst q1
      subst q2
      subst q3
      subst q4
      subst q5
      subst q6
      subst z6
      exact sp_zret S hr hlk hW rfl hQ dX10_readsGround_108
    · have hf := sp_hf hf hc
      refine lv_iconst (v := 1) hx hb dX10_readsGround_103 (by decide) ?_
      refine lv_goto (tgt := 108) hx hb dX10_readsGround_104 (by decide) ?_
      have q0 := Option.some.inj hf
      obtain ⟨q1, z1⟩ := Prod.mk.inj q0
      obtain ⟨q2, z2⟩ := Prod.mk.inj z1
      obtain ⟨q3, z3⟩ := Prod.mk.inj z2
      obtain ⟨q4, z4⟩ := Prod.mk.inj z3
      obtain ⟨q5, z5⟩ := Prod.mk.inj z4
      obtain ⟨q6, z6⟩ := Prod.mk.inj z5
      subst q1
      subst q2
      subst q3
      subst q4
      subst q5
      subst q6
      subst z6
      exact sp_zret S hr hlk hW rfl hQ dX10_readsGround_108
  have hlp2 : ∀ (n9 : Nat) (y1 : Int32) (c2 : Int32) (H : Heap) (locs : List Loc) (ls : Array Slot), sp_lp (f_X10_readsGround_L2 en9 k5 ce nm nc nl nr nt) n9 (y1, c2) = some (r', nm', nc', nl', nr', nt', at9') → sp_wd D A s.heap (sw_M a q5 fa tr la sl ce pn mn cl le ri lt nm nc nl nr nt c2 en9 de mm ma ne us lk sd sf nu gt gl tb sc su) H locs → lv_has ls 4 [(0, .ref (a 0)), (1, .int y1)] → W p l e rmX10_readsGround s m args below meth c H locs 0 0 Q (F0 m 2 ls []) := by
    intro n9
    induction n9 with
    | zero =>
      intro y1 c2 H locs ls hf hW hl
      exact (sp_lp0 hf).elim
    | succ n9 ih2 =>
      intro y1 c2 H locs ls hf hW hl
      have hf := sp_lpS hf
      rw [f_X10_readsGround_L2_eq] at hf
      refine lv_aload_n hx hb dX10_readsGround_2 rfl (lv_at hl 0 rfl) ?_
      refine sp_get S hK hW inX10 0 rfl rfl 16 (by decide) lk1 rfl dX10_readsGround_3 ?_
      refine lv_aload_n hx hb dX10_readsGround_6 rfl (lv_at hl 0 rfl) ?_
      refine sp_get S hK hW inX10 0 rfl rfl 17 (by decide) lk2 rfl dX10_readsGround_7 ?_
      refine lv_icmp_ge (tgt := 89) hx hb dX10_readsGround_10 (by decide) (fun hc => ?_) (fun hc => ?_)
      · have hf := sp_ht hf hc
        exact hj5 _ _ _ _ _ hf hW (lv_sub hl [0, 1] rfl)
      · have hf := sp_hf hf hc
        refine lv_aload_n hx hb dX10_readsGround_13 rfl (lv_at hl 0 rfl) ?_
        refine sp_get S hK hW inX10 0 rfl rfl 4 (by decide) lk3 rfl dX10_readsGround_14 ?_
        refine lv_aload_n hx hb dX10_readsGround_17 rfl (lv_at hl 0 rfl) ?_
        refine sp_get S hK hW inX10 0 rfl rfl 16 (by decide) lk1 rfl dX10_readsGround_18 ?_
        obtain ⟨hin, v12, ev12, hf⟩ := sp_hld hf
        refine sp_iald S hK hW 3 rfl hin ev12 dX10_readsGround_21 ?_
        refine lv_bipush (v := 59) hx hb dX10_readsGround_22 (by decide) ?_
        refine lv_icmp_eq (tgt := 89) hx hb dX10_readsGround_24 (by decide) (fun hc => ?_) (fun hc => ?_)
        · have hf := sp_ht hf hc
          exact hj5 _ _ _ _ _ hf hW (lv_sub hl [0, 1] rfl)
        · have hf := sp_hf hf hc
          refine lv_aload_n hx hb dX10_readsGround_27 rfl (lv_at hl 0 rfl) ?_
          refine sp_get S hK hW inX10 0 rfl rfl 4 (by decide) lk3 rfl dX10_readsGround_28 ?_
          refine lv_aload_n hx hb dX10_readsGround_31 rfl (lv_at hl 0 rfl) ?_
          refine sp_get S hK hW inX10 0 rfl rfl 16 (by decide) lk1 rfl dX10_readsGround_32 ?_
          obtain ⟨hin, v13, ev13, hf⟩ := sp_hld hf
          refine sp_iald S hK hW 3 rfl hin ev13 dX10_readsGround_35 ?_
          obtain ⟨r14, hc14, hf⟩ := sp_hc hf
          refine sp_callSi (rest := []) S hK hG hA hW (c_X10_signOf v13 hc14) (by decide) (va_cwS 1 S.2.2.2.2 gX10_readsGround_X10_signOf rfl rfl rfl (by decide +kernel) (by decide)) (isC := []) rfl rfl rfl (WS' := sw_M a q5 fa tr la sl ce pn mn cl le ri lt nm nc nl nr nt c2 en9 de mm ma ne us lk sd sf nu gt gl tb sc su) rfl rfl hl.1 (Nat.le_of_ble_eq_true rfl) dX10_readsGround_36 ⟨Nat.zero_le _, Nat.zero_le _⟩ rfl (fun H locs hW => ?_)
          refine lv_istore_n (lv' := [(2, .int r14), (0, .ref (a 0)), (1, .int y1)]) hx hb dX10_readsGround_39 rfl hl (by decide) rfl (fun ls hl => ?_)
          refine lv_iload_n hx hb dX10_readsGround_40 rfl (lv_at hl 0 rfl) ?_
          refine lv_bipush (v := 64) hx hb dX10_readsGround_41 (by decide) ?_
          obtain ⟨k16, ek16, hf⟩ := sp_hb hf
          have hj16 : ∀ (x15 : Int32) (H : Heap) (locs : List Loc) (ls : Array Slot), k16 x15 = some (r', nm', nc', nl', nr', nt', at9') → sp_wd D A s.heap (sw_M a q5 fa tr la sl ce pn mn cl le ri lt nm nc nl nr nt c2 en9 de mm ma ne us lk sd sf nu gt gl tb sc su) H locs → lv_has ls 4 [(0, .ref (a 0)), (1, .int y1), (2, .int r14)] → W p l e rmX10_readsGround s m args below meth c H locs 0 0 Q (F0 m 54 ls [.int x15]) := by
            intro x15 H locs ls hf hW hl
            rw [ek16] at hf
            refine lv_istore_n (lv' := [(3, .int x15), (0, .ref (a 0)), (1, .int y1), (2, .int r14)]) hx hb dX10_readsGround_54 rfl hl (by decide) rfl (fun ls hl => ?_)
            refine lv_iload_n hx hb dX10_readsGround_55 rfl (lv_at hl 3 rfl) ?_
            refine lv_if_eq (tgt := 70) hx hb dX10_readsGround_56 (by decide) (fun hc => ?_) (fun hc => ?_)
            · have hf := sp_ht hf hc
              refine lv_iconst (v := 0) hx hb dX10_readsGround_70 (by decide) ?_
              have q0 := Option.some.inj hf
              obtain ⟨q1, z1⟩ := Prod.mk.inj q0
              obtain ⟨q2, z2⟩ := Prod.mk.inj z1
              obtain ⟨q3, z3⟩ := Prod.mk.inj z2
              obtain ⟨q4, z4⟩ := Prod.mk.inj z3
              obtain ⟨q5, z5⟩ := Prod.mk.inj z4
              obtain ⟨q6, z6⟩ := Prod.mk.inj z5
              subst q1
              subst q2
              subst q3
              subst q4
              subst q5
              subst q6
              subst z6
              exact sp_zret S hr hlk hW rfl hQ dX10_readsGround_71
            · have hf := sp_hf hf hc
              refine lv_iload_n hx hb dX10_readsGround_59 rfl (lv_at hl 2 rfl) ?_
              refine lv_iload_n hx hb dX10_readsGround_60 rfl (lv_at hl 2 rfl) ?_
              refine lv_bipush (v := 6) hx hb dX10_readsGround_61 (by decide) ?_
              refine lv_ishr hx hb dX10_readsGround_63 ?_
              refine lv_ior hx hb dX10_readsGround_64 ?_
              refine lv_iload_n hx hb dX10_readsGround_65 rfl (lv_at hl 0 rfl) ?_
              refine lv_iand hx hb dX10_readsGround_66 ?_
              refine lv_if_eq (tgt := 72) hx hb dX10_readsGround_67 (by decide) (fun hc => ?_) (fun hc => ?_)
              · have hf := sp_ht hf hc
                refine lv_iload_n hx hb dX10_readsGround_72 rfl (lv_at hl 2 rfl) ?_
                refine lv_iload_n hx hb dX10_readsGround_73 rfl (lv_at hl 3 rfl) ?_
                refine lv_ior hx hb dX10_readsGround_74 ?_
                obtain ⟨v17, ev17, hf⟩ := sp_hb hf
                refine sp_topi ev17 ?_
                refine lv_istore_n (lv' := [(1, .int v17), (3, .int x15), (0, .ref (a 0)), (2, .int r14)]) hx hb dX10_readsGround_75 rfl hl (by decide) rfl (fun ls hl => ?_)
                refine lv_aload_n hx hb dX10_readsGround_76 rfl (lv_at hl 2 rfl) ?_
                refine lv_dup hx hb dX10_readsGround_77 rfl ?_
                refine sp_get S hK hW inX10 0 rfl rfl 16 (by decide) lk1 rfl dX10_readsGround_78 ?_
                refine lv_iconst (v := 1) hx hb dX10_readsGround_81 (by decide) ?_
                refine lv_iadd hx hb dX10_readsGround_82 ?_
                obtain ⟨v18, ev18, hf⟩ := sp_hb hf
                refine sp_topi ev18 ?_
                refine sp_put S hK hW inX10 tyX10_ok nmX10 0 rfl rfl 16 (by decide) lk1 rfl rfl rfl (Nat.le_of_ble_eq_true rfl) (ws' := sw_M a q5 fa tr la sl ce pn mn cl le ri lt nm nc nl nr nt v18 en9 de mm ma ne us lk sd sf nu gt gl tb sc su) rfl dX10_readsGround_83 (fun H locs hW => ?_)
                refine lv_goto (tgt := 2) hx hb dX10_readsGround_86 (by decide) ?_
                exact ih2 _ _ _ _ _ hf hW (lv_sub hl [2, 0] rfl)
              · have hf := sp_hf hf hc
                refine lv_iconst (v := 0) hx hb dX10_readsGround_70 (by decide) ?_
                have q0 := Option.some.inj hf
                obtain ⟨q1, z1⟩ := Prod.mk.inj q0
                obtain ⟨q2, z2⟩ := Prod.mk.inj z1
                obtain ⟨q3, z3⟩ := Prod.mk.inj z2
                obtain ⟨q4, z4⟩ := Prod.mk.inj z3
                obtain ⟨q5, z5⟩ := Prod.mk.inj z4
                obtain ⟨q6, z6⟩ := Prod.mk.inj z5
                subst q1
                subst q2
                subst q3
                subst q4
                subst q5
                subst q6
                subst z6
                exact sp_zret S hr hlk hW rfl hQ dX10_readsGround_71
          refine lv_icmp_ge (tgt := 50) hx hb dX10_readsGround_43 (by decide) (fun hc => ?_) (fun hc => ?_)
          · have hf := sp_ht hf hc
            refine lv_iload_n hx hb dX10_readsGround_50 rfl (lv_at hl 0 rfl) ?_
            refine lv_bipush (v := 6) hx hb dX10_readsGround_51 (by decide) ?_
            refine lv_ishr hx hb dX10_readsGround_53 ?_
            exact hj16 _ _ _ _ hf hW (lv_sub hl [1, 2, 0] rfl)
          · have hf := sp_hf hf hc
            refine lv_iload_n hx hb dX10_readsGround_46 rfl (lv_at hl 0 rfl) ?_
            refine lv_goto (tgt := 54) hx hb dX10_readsGround_47 (by decide) ?_
            exact hj16 _ _ _ _ hf hW (lv_sub hl [1, 2, 0] rfl)
  exact hlp2 _ _ _ _ _ _ hf hW (lv_sub hl [1, 0] rfl)
