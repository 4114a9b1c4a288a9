def f_X2_isGround (p1 : Int32) (le : Nat → Int32) : Option (Int32) := sp_ld le 48 p1 (fun v1 => if 0 ≤ v1 then (some (0 : Int32)) else (some (1 : Int32)))
def rmX2_isGround : Room := { frames := 0, cells := 0, slots := 0, locals := 0 }
set_option maxRecDepth 4000 in
theorem c_X2_isGround {l : Launch} {D : va_G} {q5 : Nat → ClassId} (a : Nat → Nat) (cl : Nat → Int32) (le : Nat → Int32) (ri : Nat → Int32) (lt : Nat → Int32) (gr : Nat → Int32) (ct : Int32) (gc : Int32) (p1 : Int32) {r' : Int32} (hf : f_X2_isGround p1 le = some r') : sp_Ci l yX2_isGround wsX2_isGround rmX2_isGround D q5 0 [.ref (a 0), .int p1] (sw_P a q5 cl le ri lt gr ct gc) r' (sw_P a q5 cl le ri lt gr ct gc) := by
  intro sz
  refine sp_of (cc := cX2_isGround) (maxL := 2) (ret := some .boolean) (own := RX2) (Qc := sp_Qi D r' (sw_P a q5 cl le ri lt gr ct gc)) (by decide) rfl rfl (Nat.le_of_ble_eq_true rfl) ?_
  intro p e s m args below meth c A ls Q hQ S hr hlk hK hG hA hW hl
  have hx := S.1
  have hb := S.2.1
  unfold f_X2_isGround at hf
  have inX2 : ∀ w ∈ u_ws RX2 TX2 7, w ∈ wsX2_isGround := (fun _ h => List.mem_cons_of_mem _ (List.mem_append_right _ h))
  have lk1 := S.2.2.2.2 (Cond.fieldLink RX2 15 "ShortProofs$Proof" "lefts" "[I") (List.mem_of_getElem? (i := 1) rfl)
  refine lv_aload_n hx hb dX2_isGround_0 rfl (lv_at hl 0 rfl) ?_
  refine sp_get S hK hW inX2 0 rfl rfl 1 (by decide) lk1 rfl dX2_isGround_1 ?_
  refine lv_iload_n hx hb dX2_isGround_4 rfl (lv_at hl 1 rfl) ?_
  obtain ⟨hin, v1, ev1, hf⟩ := sp_hld hf
  refine sp_iald S hK hW 2 rfl hin ev1 dX2_isGround_5 ?_
  refine lv_if_ge (tgt := 13) hx hb dX2_isGround_6 (by decide) (fun hc => ?_) (fun hc => ?_)
  · have hf := sp_ht hf hc
    refine lv_iconst (v := 0) hx hb dX2_isGround_13 (by decide) ?_
    cases hf
    exact sp_zret S hr hlk hW rfl hQ dX2_isGround_14
  · have hf := sp_hf hf hc
    refine lv_iconst (v := 1) hx hb dX2_isGround_9 (by decide) ?_
    refine lv_goto (tgt := 14) hx hb dX2_isGround_10 (by decide) ?_
    cases hf
    exact sp_zret S hr hlk hW rfl hQ dX2_isGround_14

def f_X2_restSetOf_L7 (k5 : Int64 → Option (Int64)) (le : Nat → Int32) (ri : Nat → Int32) (rec7 : (Int64 × Int32) → Option (Int64)) (s9 : Int64 × Int32) : Option (Int64) := match s9 with
  | (y2, y3) => if y3 < 0 then (k5 y2) else (Option.bind (f_X9_isIn y3 y2) (fun r6 => sp_bnd (fun (x7 : Int64) => sp_bnd (y3 + (-1 : Int32)) (fun v9 => rec7 (x7, v9))) (fun k8 => if r6 = 0 then (k8 y2) else (Option.bind (f_X2_isGround y3 le) (fun r10 => if r10 = 0 then (sp_ld le 48 y3 (fun v11 => sp_ld ri 48 y3 (fun v12 => sp_bnd (y2 ||| (((1 : Int64) <<< (v11.toInt64 &&& 63)) ||| ((1 : Int64) <<< (v12.toInt64 &&& 63)))) (fun v13 => k8 v13)))) else (k8 y2))))))
theorem f_X2_restSetOf_L7_eq {rec7 : (Int64 × Int32) → Option (Int64)} {k5 : Int64 → Option (Int64)} {le : Nat → Int32} {ri : Nat → Int32} {y2 : Int64} {y3 : Int32} : f_X2_restSetOf_L7 k5 le ri rec7 (y2, y3) = (if y3 < 0 then (k5 y2) else (Option.bind (f_X9_isIn y3 y2) (fun r6 => sp_bnd (fun (x7 : Int64) => sp_bnd (y3 + (-1 : Int32)) (fun v9 => rec7 (x7, v9))) (fun k8 => if r6 = 0 then (k8 y2) else (Option.bind (f_X2_isGround y3 le) (fun r10 => if r10 = 0 then (sp_ld le 48 y3 (fun v11 => sp_ld ri 48 y3 (fun v12 => sp_bnd (y2 ||| (((1 : Int64) <<< (v11.toInt64 &&& 63)) ||| ((1 : Int64) <<< (v12.toInt64 &&& 63)))) (fun v13 => k8 v13)))) else (k8 y2))))))) := rfl
def f_X2_restSetOf (p1 : Int32) (le : Nat → Int32) (ri : Nat → Int32) : Option (Int64) := sp_bnd ((1 : Int64) <<< (p1.toInt64 &&& 63)) (fun v1 => sp_bnd (fun (x4 : Int64) => some x4) (fun k5 => sp_lp (f_X2_restSetOf_L7 k5 le ri) sp_F (v1, p1)))
def rmX2_restSetOf : Room := { frames := 1, cells := 0, slots := 0, locals := 22 }
set_option maxRecDepth 4000 in
theorem c_X2_restSetOf {l : Launch} {D : va_G} {q5 : Nat → ClassId} (a : Nat → Nat) (cl : Nat → Int32) (le : Nat → Int32) (ri : Nat → Int32) (lt : Nat → Int32) (gr : Nat → Int32) (ct : Int32) (gc : Int32) (p1 : Int32) {r' : Int64} (hf : f_X2_restSetOf p1 le ri = some r') : sp_Cl l yX2_restSetOf wsX2_restSetOf rmX2_restSetOf D q5 1 [.ref (a 0), .int p1] (sw_P a q5 cl le ri lt gr ct gc) r' (sw_P a q5 cl le ri lt gr ct gc) := by
  intro sz
  refine sp_of (cc := cX2_restSetOf) (maxL := 5) (ret := some .long) (own := RX2) (Qc := sp_Ql D r' (sw_P a q5 cl le ri lt gr ct gc)) (by decide) rfl rfl (Nat.le_of_ble_eq_true rfl) ?_
  intro p e s m args below meth c A ls Q hQ S hr hlk hK hG hA hW hl
  have hx := S.1
  have hb := S.2.1
  unfold f_X2_restSetOf at hf
  have inX2 : ∀ w ∈ u_ws RX2 TX2 7, w ∈ wsX2_restSetOf := (fun _ h => List.mem_cons_of_mem _ (List.mem_append_right _ h))
  have lk1 := S.2.2.2.2 (Cond.static yX9_isIn) (List.mem_of_getElem? (i := 3) rfl)
  have lk2 := S.2.2.2.2 (Cond.initialized RX9) (List.mem_of_getElem? (i := 4) rfl)
  have lk3 := S.2.2.2.2 (Cond.fieldLink RX2 15 "ShortProofs$Proof" "lefts" "[I") (List.mem_of_getElem? (i := 1) rfl)
  have lk4 := S.2.2.2.2 (Cond.fieldLink RX2 18 "ShortProofs$Proof" "rights" "[I") (List.mem_of_getElem? (i := 2) rfl)
  refine lv_lconst (v := 1) hx hb dX2_restSetOf_0 (by decide) ?_
  refine lv_iload_n hx hb dX2_restSetOf_1 rfl (lv_at hl 1 rfl) ?_
  refine lv_lshl hx hb dX2_restSetOf_2 rfl ?_
  obtain ⟨v1, ev1, hf⟩ := sp_hb hf
  refine sp_topl ev1 ?_
  refine lv_lstore_n (lv' := [(2, .long v1), (0, .ref (a 0)), (1, .int p1)]) hx hb dX2_restSetOf_3 rfl hl (by decide) rfl (fun ls hl => ?_)
  refine lv_iload_n hx hb dX2_restSetOf_4 rfl (lv_at hl 2 rfl) ?_
  refine lv_istore (lv' := [(4, .int p1), (2, .long v1), (0, .ref (a 0)), (1, .int p1)]) hx hb dX2_restSetOf_5 hl (by decide) rfl (fun ls hl => ?_)
  obtain ⟨k5, ek5, hf⟩ := sp_hb hf
  have hj5 : ∀ (x4 : Int64) (H : Heap) (locs : List Loc) (ls : Array Slot), k5 x4 = some r' → sp_wd D A s.heap (sw_P a q5 cl le ri lt gr ct gc) H locs → lv_has ls 5 [(2, .long x4)] → W p l e rmX2_restSetOf s m args below meth c H locs 0 0 Q (F0 m 58 ls []) := by
    intro x4 H locs ls hf hW hl
    rw [ek5] at hf
    refine lv_lload_n hx hb dX2_restSetOf_58 rfl (lv_at hl 0 rfl) ?_
    cases hf
    exact sp_lret S hr hlk hW hQ dX2_restSetOf_59
  have hlp7 : ∀ (n9 : Nat) (y2 : Int64) (y3 : Int32) (H : Heap) (locs : List Loc) (ls : Array Slot), sp_lp (f_X2_restSetOf_L7 k5 le ri) n9 (y2, y3) = some r' → sp_wd D A s.heap (sw_P a q5 cl le ri lt gr ct gc) H locs → lv_has ls 5 [(0, .ref (a 0)), (2, .long y2), (4, .int y3)] → W p l e rmX2_restSetOf s m args below meth c H locs 0 0 Q (F0 m 7 ls []) := by
    intro n9
    induction n9 with
    | zero =>
      intro y2 y3 H locs ls hf hW hl
      exact (sp_lp0 hf).elim
    | succ n9 ih7 =>
      intro y2 y3 H locs ls hf hW hl
      have hf := sp_lpS hf
      rw [f_X2_restSetOf_L7_eq] at hf
      refine lv_iload hx hb dX2_restSetOf_7 (lv_at hl 2 rfl) ?_
      refine lv_if_lt (tgt := 58) hx hb dX2_restSetOf_9 (by decide) (fun hc => ?_) (fun hc => ?_)
      · have hf := sp_ht hf hc
        exact hj5 _ _ _ _ hf hW (lv_sub hl [1] rfl)
      · have hf := sp_hf hf hc
        refine lv_iload hx hb dX2_restSetOf_12 (lv_at hl 2 rfl) ?_
        refine lv_lload_n hx hb dX2_restSetOf_14 rfl (lv_at hl 1 rfl) ?_
        obtain ⟨r6, hc6, hf⟩ := sp_hc hf
        refine sp_callNi (rest := []) (host := RX9) S hK hG hA hW (c_X9_isIn y3 y2 hc6) (by decide) ⟨va_cnB 2 S.2.2.2.2 gX2_restSetOf_X9_isIn_n49 rfl rfl rfl (hG.1 (by decide) _ (List.mem_of_getElem? (i := 8) rfl)) lk2 (by decide +kernel) (by decide), lk1, trivial⟩ (isC := []) rfl rfl rfl (WS' := sw_P a q5 cl le ri lt gr ct gc) rfl rfl hl.1 (Nat.le_of_ble_eq_true rfl) dX2_restSetOf_15 ⟨Nat.zero_le _, Nat.zero_le _⟩ rfl (fun H locs hW => ?_)
        obtain ⟨k8, ek8, hf⟩ := sp_hb hf
        have hj8 : ∀ (x7 : Int64) (H : Heap) (locs : List Loc) (ls : Array Slot), k8 x7 = some r' → sp_wd D A s.heap (sw_P a q5 cl le ri lt gr ct gc) H locs → lv_has ls 5 [(0, .ref (a 0)), (2, .long x7), (4, .int y3)] → W p l e rmX2_restSetOf s m args below meth c H locs 0 0 Q (F0 m 52 ls []) := by
          intro x7 H locs ls hf hW hl
          rw [ek8] at hf
          obtain ⟨v9, ev9, hf⟩ := sp_hb hf
          refine lv_iinc (v := v9) (lv' := [(4, .int v9), (0, .ref (a 0)), (2, .long x7)]) hx hb dX2_restSetOf_52 hl (k := 2) rfl (by rw [ev9]; rfl) (by decide) rfl (fun ls hl => ?_)
          refine lv_goto (tgt := 7) hx hb dX2_restSetOf_55 (by decide) ?_
          exact ih7 _ _ _ _ _ hf hW (lv_sub hl [1, 2, 0] rfl)
        refine lv_if_eq (tgt := 52) hx hb dX2_restSetOf_18 (by decide) (fun hc => ?_) (fun hc => ?_)
        · have hf := sp_ht hf hc
          exact hj8 _ _ _ _ hf hW (lv_sub hl [0, 1, 2] rfl)
        · have hf := sp_hf hf hc
          refine lv_aload_n hx hb dX2_restSetOf_21 rfl (lv_at hl 0 rfl) ?_
          refine lv_iload hx hb dX2_restSetOf_22 (lv_at hl 2 rfl) ?_
          obtain ⟨r10, hc10, hf⟩ := sp_hc hf
          refine sp_callViP (rest := []) S hK hG hA hW (c_X2_isGround a cl le ri lt gr ct gc y3 hc10) (by decide) (cwV 1 S.2.2.2.2 gX2_restSetOf_X2_isGround rfl rfl rfl (by decide +kernel) (by decide)) 1 0 rfl rfl (sp_pn _) rfl (WS' := sw_P a q5 cl le ri lt gr ct gc) (sp_pn' _) rfl hl.1 (Nat.le_of_ble_eq_true rfl) dX2_restSetOf_24 ⟨Nat.zero_le _, Nat.zero_le _⟩ rfl (fun H locs hW => ?_)
          refine lv_if_ne (tgt := 52) hx hb dX2_restSetOf_27 (by decide) (fun hc => ?_) (fun hc => ?_)
          · have hf := sp_hf hf hc
            exact hj8 _ _ _ _ hf hW (lv_sub hl [0, 1, 2] rfl)
          · have hf := sp_ht hf hc
            refine lv_lload_n hx hb dX2_restSetOf_30 rfl (lv_at hl 1 rfl) ?_
            refine lv_lconst (v := 1) hx hb dX2_restSetOf_31 (by decide) ?_
            refine lv_aload_n hx hb dX2_restSetOf_32 rfl (lv_at hl 0 rfl) ?_
            refine sp_get S hK hW inX2 0 rfl rfl 1 (by decide) lk3 rfl dX2_restSetOf_33 ?_
            refine lv_iload hx hb dX2_restSetOf_36 (lv_at hl 2 rfl) ?_
            obtain ⟨hin, v11, ev11, hf⟩ := sp_hld hf
            refine sp_iald S hK hW 2 rfl hin ev11 dX2_restSetOf_38 ?_
            refine lv_lshl hx hb dX2_restSetOf_39 rfl ?_
            refine lv_lconst (v := 1) hx hb dX2_restSetOf_40 (by decide) ?_
            refine lv_aload_n hx hb dX2_restSetOf_41 rfl (lv_at hl 0 rfl) ?_
            refine sp_get S hK hW inX2 0 rfl rfl 2 (by decide) lk4 rfl dX2_restSetOf_42 ?_
            refine lv_iload hx hb dX2_restSetOf_45 (lv_at hl 2 rfl) ?_
            obtain ⟨hin, v12, ev12, hf⟩ := sp_hld hf
            refine sp_iald S hK hW 3 rfl hin ev12 dX2_restSetOf_47 ?_
            refine lv_lshl hx hb dX2_restSetOf_48 rfl ?_
            refine lv_lor hx hb dX2_restSetOf_49 ?_
            refine lv_lor hx hb dX2_restSetOf_50 ?_
            obtain ⟨v13, ev13, hf⟩ := sp_hb hf
            refine sp_topl ev13 ?_
            refine lv_lstore_n (lv' := [(2, .long v13), (0, .ref (a 0)), (4, .int y3)]) hx hb dX2_restSetOf_51 rfl hl (by decide) rfl (fun ls hl => ?_)
            exact hj8 _ _ _ _ hf hW (lv_sub hl [1, 0, 2] rfl)
  exact hlp7 _ _ _ _ _ _ hf hW (lv_sub hl [2, 1, 0] rfl)

def f_X2_restSet (le : Nat → Int32) (ri : Nat → Int32) (ct : Int32) : Option (Int64) := Option.bind (f_X2_restSetOf (ct - (1 : Int32)) le ri) (fun r1 => some r1)
def rmX2_restSet : Room := { frames := 2, cells := 0, slots := 0, locals := 46 }
set_option maxRecDepth 4000 in
theorem c_X2_restSet {l : Launch} {D : va_G} {q5 : Nat → ClassId} (a : Nat → Nat) (cl : Nat → Int32) (le : Nat → Int32) (ri : Nat → Int32) (lt : Nat → Int32) (gr : Nat → Int32) (ct : Int32) (gc : Int32) {r' : Int64} (hf : f_X2_restSet le ri ct = some r') : sp_Cl l yX2_restSet wsX2_restSet rmX2_restSet D q5 1 [.ref (a 0)] (sw_P a q5 cl le ri lt gr ct gc) r' (sw_P a q5 cl le ri lt gr ct gc) := by
  intro sz
  refine sp_of (cc := cX2_restSet) (maxL := 1) (ret := some .long) (own := RX2) (Qc := sp_Ql D r' (sw_P a q5 cl le ri lt gr ct gc)) (by decide) rfl rfl (Nat.le_of_ble_eq_true rfl) ?_
  intro p e s m args below meth c A ls Q hQ S hr hlk hK hG hA hW hl
  have hx := S.1
  have hb := S.2.1
  unfold f_X2_restSet at hf
  have inX2 : ∀ w ∈ u_ws RX2 TX2 7, w ∈ wsX2_restSet := (fun _ h => List.mem_cons_of_mem _ (List.mem_append_right _ h))
  have lk1 := S.2.2.2.2 (Cond.fieldLink RX2 27 "ShortProofs$Proof" "count" "I") (List.mem_of_getElem? (i := 1) rfl)
  refine lv_aload_n hx hb dX2_restSet_0 rfl (lv_at hl 0 rfl) ?_
  refine lv_aload_n hx hb dX2_restSet_1 rfl (lv_at hl 0 rfl) ?_
  refine sp_get S hK hW inX2 0 rfl rfl 5 (by decide) lk1 rfl dX2_restSet_2 ?_
  refine lv_iconst (v := 1) hx hb dX2_restSet_5 (by decide) ?_
  refine lv_isub hx hb dX2_restSet_6 ?_
  obtain ⟨r1, hc1, hf⟩ := sp_hc hf
  refine sp_callVlP (rest := []) S hK hG hA hW (c_X2_restSetOf a cl le ri lt gr ct gc (ct - (1 : Int32)) hc1) (by decide) (cwV 1 S.2.2.2.2 gX2_restSet_X2_restSetOf rfl rfl rfl (by decide +kernel) (by decide)) 1 0 rfl rfl (sp_pn _) rfl (WS' := sw_P a q5 cl le ri lt gr ct gc) (sp_pn' _) rfl hl.1 (Nat.le_of_ble_eq_true rfl) dX2_restSet_7 ⟨Nat.zero_le _, Nat.zero_le _⟩ rfl (fun H locs hW => ?_)
  cases hf
  exact sp_lret S hr hlk hW hQ dX2_restSet_10

def f_X2_isCutFrom (p1 : Int32) (p2 : Int32) (le : Nat → Int32) (ri : Nat → Int32) : Option (Int32) := Option.bind (f_X2_isGround p1 le) (fun r1 => if r1 = 0 then (sp_ld le 48 p1 (fun v2 => if v2 = p2 then (some (1 : Int32)) else (sp_ld ri 48 p1 (fun v3 => if v3 = p2 then (some (1 : Int32)) else (some (0 : Int32)))))) else (some (0 : Int32)))
def rmX2_isCutFrom : Room := { frames := 1, cells := 0, slots := 0, locals := 21 }
set_option maxRecDepth 4000 in
theorem c_X2_isCutFrom {l : Launch} {D : va_G} {q5 : Nat → ClassId} (a : Nat → Nat) (cl : Nat → Int32) (le : Nat → Int32) (ri : Nat → Int32) (lt : Nat → Int32) (gr : Nat → Int32) (ct : Int32) (gc : Int32) (p1 : Int32) (p2 : Int32) {r' : Int32} (hf : f_X2_isCutFrom p1 p2 le ri = some r') : sp_Ci l yX2_isCutFrom wsX2_isCutFrom rmX2_isCutFrom D q5 0 [.ref (a 0), .int p1, .int p2] (sw_P a q5 cl le ri lt gr ct gc) r' (sw_P a q5 cl le ri lt gr ct gc) := by
  intro sz
  refine sp_of (cc := cX2_isCutFrom) (maxL := 3) (ret := some .boolean) (own := RX2) (Qc := sp_Qi D r' (sw_P a q5 cl le ri lt gr ct gc)) (by decide) rfl rfl (Nat.le_of_ble_eq_true rfl) ?_
  intro p e s m args below meth c A ls Q hQ S hr hlk hK hG hA hW hl
  have hx := S.1
  have hb := S.2.1
  unfold f_X2_isCutFrom at hf
  have inX2 : ∀ w ∈ u_ws RX2 TX2 7, w ∈ wsX2_isCutFrom := (fun _ h => List.mem_cons_of_mem _ (List.mem_append_right _ h))
  have lk1 := S.2.2.2.2 (Cond.fieldLink RX2 15 "ShortProofs$Proof" "lefts" "[I") (List.mem_of_getElem? (i := 1) rfl)
  have lk2 := S.2.2.2.2 (Cond.fieldLink RX2 18 "ShortProofs$Proof" "rights" "[I") (List.mem_of_getElem? (i := 2) rfl)
  refine lv_aload_n hx hb dX2_isCutFrom_0 rfl (lv_at hl 0 rfl) ?_
  refine lv_iload_n hx hb dX2_isCutFrom_1 rfl (lv_at hl 1 rfl) ?_
  obtain ⟨r1, hc1, hf⟩ := sp_hc hf
  refine sp_callViP (rest := []) S hK hG hA hW (c_X2_isGround a cl le ri lt gr ct gc p1 hc1) (by decide) (cwV 1 S.2.2.2.2 gX2_isCutFrom_X2_isGround rfl rfl rfl (by decide +kernel) (by decide)) 1 0 rfl rfl (sp_pn _) rfl (WS' := sw_P a q5 cl le ri lt gr ct gc) (sp_pn' _) rfl hl.1 (Nat.le_of_ble_eq_true rfl) dX2_isCutFrom_2 ⟨Nat.zero_le _, Nat.zero_le _⟩ rfl (fun H locs hW => ?_)
  refine lv_if_ne (tgt := 32) hx hb dX2_isCutFrom_5 (by decide) (fun hc => ?_) (fun hc => ?_)
  · have hf := sp_hf hf hc
    refine lv_iconst (v := 0) hx hb dX2_isCutFrom_32 (by decide) ?_
    cases hf
    exact sp_zret S hr hlk hW rfl hQ dX2_isCutFrom_33
  · have hf := sp_ht hf hc
    refine lv_aload_n hx hb dX2_isCutFrom_8 rfl (lv_at hl 0 rfl) ?_
    refine sp_get S hK hW inX2 0 rfl rfl 1 (by decide) lk1 rfl dX2_isCutFrom_9 ?_
    refine lv_iload_n hx hb dX2_isCutFrom_12 rfl (lv_at hl 1 rfl) ?_
    obtain ⟨hin, v2, ev2, hf⟩ := sp_hld hf
    refine sp_iald S hK hW 2 rfl hin ev2 dX2_isCutFrom_13 ?_
    refine lv_iload_n hx hb dX2_isCutFrom_14 rfl (lv_at hl 2 rfl) ?_
    refine lv_icmp_eq (tgt := 28) hx hb dX2_isCutFrom_15 (by decide) (fun hc => ?_) (fun hc => ?_)
    · have hf := sp_ht hf hc
      refine lv_iconst (v := 1) hx hb dX2_isCutFrom_28 (by decide) ?_
      refine lv_goto (tgt := 33) hx hb dX2_isCutFrom_29 (by decide) ?_
      cases hf
      exact sp_zret S hr hlk hW rfl hQ dX2_isCutFrom_33
    · have hf := sp_hf hf hc
      refine lv_aload_n hx hb dX2_isCutFrom_18 rfl (lv_at hl 0 rfl) ?_
      refine sp_get S hK hW inX2 0 rfl rfl 2 (by decide) lk2 rfl dX2_isCutFrom_19 ?_
      refine lv_iload_n hx hb dX2_isCutFrom_22 rfl (lv_at hl 1 rfl) ?_
      obtain ⟨hin, v3, ev3, hf⟩ := sp_hld hf
      refine sp_iald S hK hW 3 rfl hin ev3 dX2_isCutFrom_23 ?_
      refine lv_iload_n hx hb dX2_isCutFrom_24 rfl (lv_at hl 2 rfl) ?_
      refine lv_icmp_ne (tgt := 32) hx hb dX2_isCutFrom_25 (by decide) (fun hc => ?_) (fun hc => ?_)
      · have hf := sp_hf hf hc
        refine lv_iconst (v := 0) hx hb dX2_isCutFrom_32 (by decide) ?_
        cases hf
        exact sp_zret S hr hlk hW rfl hQ dX2_isCutFrom_33
      · have hf := sp_ht hf hc
        refine lv_iconst (v := 1) hx hb dX2_isCutFrom_28 (by decide) ?_
        refine lv_goto (tgt := 33) hx hb dX2_isCutFrom_29 (by decide) ?_
        cases hf
        exact sp_zret S hr hlk hW rfl hQ dX2_isCutFrom_33

def f_X2_clear : Option (Int32 × Int32) := some ((0 : Int32), (0 : Int32))
def rmX2_clear : Room := { frames := 0, cells := 0, slots := 0, locals := 0 }
set_option maxRecDepth 4000 in
theorem c_X2_clear {l : Launch} {D : va_G} {q5 : Nat → ClassId} (a : Nat → Nat) (cl : Nat → Int32) (le : Nat → Int32) (ri : Nat → Int32) (lt : Nat → Int32) (gr : Nat → Int32) (ct : Int32) (gc : Int32) {ct' : Int32} {gc' : Int32} (hf : f_X2_clear = some (ct', gc')) : sp_Cv l yX2_clear wsX2_clear rmX2_clear D q5 0 [.ref (a 0)] (sw_P a q5 cl le ri lt gr ct gc) (sw_P a q5 cl le ri lt gr ct' gc') := by
  intro sz
  refine sp_of (cc := cX2_clear) (maxL := 1) (ret := none) (own := RX2) (Qc := sp_Qv D (sw_P a q5 cl le ri lt gr ct' gc')) (by decide) rfl rfl (Nat.le_of_ble_eq_true rfl) ?_
  intro p e s m args below meth c A ls Q hQ S hr hlk hK hG hA hW hl
  have hx := S.1
  have hb := S.2.1
  unfold f_X2_clear at hf
  have inX2 : ∀ w ∈ u_ws RX2 TX2 7, w ∈ wsX2_clear := (fun _ h => List.mem_cons_of_mem _ (List.mem_append_right _ h))
  have lk1 := S.2.2.2.2 (Cond.fieldLink RX2 27 "ShortProofs$Proof" "count" "I") (List.mem_of_getElem? (i := 1) rfl)
  have lk2 := S.2.2.2.2 (Cond.fieldLink RX2 31 "ShortProofs$Proof" "groundCount" "I") (List.mem_of_getElem? (i := 2) rfl)
  refine lv_aload_n hx hb dX2_clear_0 rfl (lv_at hl 0 rfl) ?_
  refine lv_iconst (v := 0) hx hb dX2_clear_1 (by decide) ?_
  refine sp_put S hK hW inX2 tyX2_ok nmX2 0 rfl rfl 5 (by decide) lk1 rfl rfl rfl (Nat.le_of_ble_eq_true rfl) (ws' := sw_P a q5 cl le ri lt gr (0 : Int32) gc) rfl dX2_clear_2 (fun H locs hW => ?_)
  refine lv_aload_n hx hb dX2_clear_5 rfl (lv_at hl 0 rfl) ?_
  refine lv_iconst (v := 0) hx hb dX2_clear_6 (by decide) ?_
  refine sp_put S hK hW inX2 tyX2_ok nmX2 0 rfl rfl 6 (by decide) lk2 rfl rfl rfl (Nat.le_of_ble_eq_true rfl) (ws' := sw_P a q5 cl le ri lt gr (0 : Int32) (0 : Int32)) rfl dX2_clear_7 (fun H locs hW => ?_)
  cases hf
  exact sp_vret S hr hlk hW hQ dX2_clear_10

def f_X2_kindOf (p1 : Int32) (le : Nat → Int32) (ct : Int32) : Option (Int32) := Option.bind (f_X2_isGround p1 le) (fun r1 => if r1 = 0 then (if p1 = (ct - (1 : Int32)) then (some (2 : Int32)) else (some (1 : Int32))) else (some (0 : Int32)))
def rmX2_kindOf : Room := { frames := 1, cells := 0, slots := 0, locals := 21 }
set_option maxRecDepth 4000 in
theorem c_X2_kindOf {l : Launch} {D : va_G} {q5 : Nat → ClassId} (a : Nat → Nat) (cl : Nat → Int32) (le : Nat → Int32) (ri : Nat → Int32) (lt : Nat → Int32) (gr : Nat → Int32) (ct : Int32) (gc : Int32) (p1 : Int32) {r' : Int32} (hf : f_X2_kindOf p1 le ct = some r') : sp_Ci l yX2_kindOf wsX2_kindOf rmX2_kindOf D q5 0 [.ref (a 0), .int p1] (sw_P a q5 cl le ri lt gr ct gc) r' (sw_P a q5 cl le ri lt gr ct gc) := by
  intro sz
  refine sp_of (cc := cX2_kindOf) (maxL := 2) (ret := some .int) (own := RX2) (Qc := sp_Qi D r' (sw_P a q5 cl le ri lt gr ct gc)) (by decide) rfl rfl (Nat.le_of_ble_eq_true rfl) ?_
  intro p e s m args below meth c A ls Q hQ S hr hlk hK hG hA hW hl
  have hx := S.1
  have hb := S.2.1
  unfold f_X2_kindOf at hf
  have inX2 : ∀ w ∈ u_ws RX2 TX2 7, w ∈ wsX2_kindOf := (fun _ h => List.mem_cons_of_mem _ (List.mem_append_right _ h))
  have lk1 := S.2.2.2.2 (Cond.fieldLink RX2 27 "ShortProofs$Proof" "count" "I") (List.mem_of_getElem? (i := 1) rfl)
  refine lv_aload_n hx hb dX2_kindOf_0 rfl (lv_at hl 0 rfl) ?_
  refine lv_iload_n hx hb dX2_kindOf_1 rfl (lv_at hl 1 rfl) ?_
  obtain ⟨r1, hc1, hf⟩ := sp_hc hf
  refine sp_callViP (rest := []) S hK hG hA hW (c_X2_isGround a cl le ri lt gr ct gc p1 hc1) (by decide) (cwV 1 S.2.2.2.2 gX2_kindOf_X2_isGround rfl rfl rfl (by decide +kernel) (by decide)) 1 0 rfl rfl (sp_pn _) rfl (WS' := sw_P a q5 cl le ri lt gr ct gc) (sp_pn' _) rfl hl.1 (Nat.le_of_ble_eq_true rfl) dX2_kindOf_2 ⟨Nat.zero_le _, Nat.zero_le _⟩ rfl (fun H locs hW => ?_)
  refine lv_if_eq (tgt := 10) hx hb dX2_kindOf_5 (by decide) (fun hc => ?_) (fun hc => ?_)
  · have hf := sp_ht hf hc
    refine lv_iload_n hx hb dX2_kindOf_10 rfl (lv_at hl 1 rfl) ?_
    refine lv_aload_n hx hb dX2_kindOf_11 rfl (lv_at hl 0 rfl) ?_
    refine sp_get S hK hW inX2 0 rfl rfl 5 (by decide) lk1 rfl dX2_kindOf_12 ?_
    refine lv_iconst (v := 1) hx hb dX2_kindOf_15 (by decide) ?_
    refine lv_isub hx hb dX2_kindOf_16 ?_
    refine lv_icmp_ne (tgt := 24) hx hb dX2_kindOf_17 (by decide) (fun hc => ?_) (fun hc => ?_)
    · have hf := sp_hf hf hc
      refine lv_iconst (v := 1) hx hb dX2_kindOf_24 (by decide) ?_
      cases hf
      exact sp_iret S hr hlk hW hQ dX2_kindOf_25
    · have hf := sp_ht hf hc
      refine lv_iconst (v := 2) hx hb dX2_kindOf_20 (by decide) ?_
      refine lv_goto (tgt := 25) hx hb dX2_kindOf_21 (by decide) ?_
      cases hf
      exact sp_iret S hr hlk hW hQ dX2_kindOf_25
  · have hf := sp_hf hf hc
    refine lv_iconst (v := 0) hx hb dX2_kindOf_8 (by decide) ?_
    cases hf
    exact sp_iret S hr hlk hW hQ dX2_kindOf_9

def f_X2_add (p1 : Int32) (p2 : Int32) (p3 : Int32) (p4 : Int32) (cl : Nat → Int32) (le : Nat → Int32) (ri : Nat → Int32) (lt : Nat → Int32) (gr : Nat → Int32) (ct : Int32) (gc : Int32) : Option (Int32 × (Nat → Int32) × (Nat → Int32) × (Nat → Int32) × (Nat → Int32) × (Nat → Int32) × Int32 × Int32) := if ct < (48 : Int32) then (sp_st cl 48 ct p1 (fun c1 => sp_st le 48 ct p2 (fun c2 => sp_st ri 48 ct p3 (fun c3 => sp_st lt 48 ct p4 (fun c4 => sp_bnd (fun (c5 : Nat → Int32) (c6 : Int32) => sp_bnd (ct + (1 : Int32)) (fun v8 => some ((v8 - (1 : Int32)), c1, c2, c3, c4, c5, v8, c6))) (fun k7 => if 0 ≤ p2 then (k7 gr gc) else (sp_st gr 48 gc ct (fun c9 => sp_bnd (gc + (1 : Int32)) (fun v10 => k7 c9 v10))))))))) else (some ((-3 : Int32), cl, le, ri, lt, gr, ct, gc))
def rmX2_add : Room := { frames := 0, cells := 0, slots := 0, locals := 0 }
set_option maxRecDepth 4000 in
theorem c_X2_add {l : Launch} {D : va_G} {q5 : Nat → ClassId} (a : Nat → Nat) (cl : Nat → Int32) (le : Nat → Int32) (ri : Nat → Int32) (lt : Nat → Int32) (gr : Nat → Int32) (ct : Int32) (gc : Int32) (p1 : Int32) (p2 : Int32) (p3 : Int32) (p4 : Int32) {r' : Int32} {cl' : Nat → Int32} {le' : Nat → Int32} {ri' : Nat → Int32} {lt' : Nat → Int32} {gr' : Nat → Int32} {ct' : Int32} {gc' : Int32} (hf : f_X2_add p1 p2 p3 p4 cl le ri lt gr ct gc = some (r', cl', le', ri', lt', gr', ct', gc')) : sp_Ci l yX2_add wsX2_add rmX2_add D q5 0 [.ref (a 0), .int p1, .int p2, .int p3, .int p4] (sw_P a q5 cl le ri lt gr ct gc) r' (sw_P a q5 cl' le' ri' lt' gr' ct' gc') := by
  intro sz
  refine sp_of (cc := cX2_add) (maxL := 5) (ret := some .int) (own := RX2) (Qc := sp_Qi D r' (sw_P a q5 cl' le' ri' lt' gr' ct' gc')) (by decide) rfl rfl (Nat.le_of_ble_eq_true rfl) ?_
  intro p e s m args below meth c A ls Q hQ S hr hlk hK hG hA hW hl
  have hx := S.1
  have hb := S.2.1
  unfold f_X2_add at hf
  have inX2 : ∀ w ∈ u_ws RX2 TX2 7, w ∈ wsX2_add := (fun _ h => List.mem_cons_of_mem _ (List.mem_append_right _ h))
  have lk1 := S.2.2.2.2 (Cond.fieldLink RX2 27 "ShortProofs$Proof" "count" "I") (List.mem_of_getElem? (i := 1) rfl)
  have lk2 := S.2.2.2.2 (Cond.fieldLink RX2 9 "ShortProofs$Proof" "clauses" "[I") (List.mem_of_getElem? (i := 2) rfl)
  have lk3 := S.2.2.2.2 (Cond.fieldLink RX2 15 "ShortProofs$Proof" "lefts" "[I") (List.mem_of_getElem? (i := 3) rfl)
  have lk4 := S.2.2.2.2 (Cond.fieldLink RX2 18 "ShortProofs$Proof" "rights" "[I") (List.mem_of_getElem? (i := 4) rfl)
  have lk5 := S.2.2.2.2 (Cond.fieldLink RX2 21 "ShortProofs$Proof" "letters" "[I") (List.mem_of_getElem? (i := 5) rfl)
  have lk6 := S.2.2.2.2 (Cond.fieldLink RX2 24 "ShortProofs$Proof" "grounds" "[I") (List.mem_of_getElem? (i := 6) rfl)
  have lk7 := S.2.2.2.2 (Cond.fieldLink RX2 31 "ShortProofs$Proof" "groundCount" "I") (List.mem_of_getElem? (i := 7) rfl)
  refine lv_aload_n hx hb dX2_add_0 rfl (lv_at hl 0 rfl) ?_
  refine sp_get S hK hW inX2 0 rfl rfl 5 (by decide) lk1 rfl dX2_add_1 ?_
  refine lv_bipush (v := 48) hx hb dX2_add_4 (by decide) ?_
  refine lv_icmp_lt (tgt := 12) hx hb dX2_add_6 (by decide) (fun hc => ?_) (fun hc => ?_)
  · have hf := sp_ht hf hc
    refine lv_aload_n hx hb dX2_add_12 rfl (lv_at hl 0 rfl) ?_
    refine sp_get S hK hW inX2 0 rfl rfl 0 (by decide) lk2 rfl dX2_add_13 ?_
    refine lv_aload_n hx hb dX2_add_16 rfl (lv_at hl 0 rfl) ?_
    refine sp_get S hK hW inX2 0 rfl rfl 5 (by decide) lk1 rfl dX2_add_17 ?_
    refine lv_iload_n hx hb dX2_add_20 rfl (lv_at hl 1 rfl) ?_
    obtain ⟨hin, c1, ec1, hf⟩ := sp_hst hf
    refine sp_iast S hK hW 1 rfl hin ec1 (ws' := sw_P a q5 c1 le ri lt gr ct gc) rfl dX2_add_21 (fun H locs hW => ?_)
    refine lv_aload_n hx hb dX2_add_22 rfl (lv_at hl 0 rfl) ?_
    refine sp_get S hK hW inX2 0 rfl rfl 1 (by decide) lk3 rfl dX2_add_23 ?_
    refine lv_aload_n hx hb dX2_add_26 rfl (lv_at hl 0 rfl) ?_
    refine sp_get S hK hW inX2 0 rfl rfl 5 (by decide) lk1 rfl dX2_add_27 ?_
    refine lv_iload_n hx hb dX2_add_30 rfl (lv_at hl 2 rfl) ?_
    obtain ⟨hin, c2, ec2, hf⟩ := sp_hst hf
    refine sp_iast S hK hW 2 rfl hin ec2 (ws' := sw_P a q5 c1 c2 ri lt gr ct gc) rfl dX2_add_31 (fun H locs hW => ?_)
    refine lv_aload_n hx hb dX2_add_32 rfl (lv_at hl 0 rfl) ?_
    refine sp_get S hK hW inX2 0 rfl rfl 2 (by decide) lk4 rfl dX2_add_33 ?_
    refine lv_aload_n hx hb dX2_add_36 rfl (lv_at hl 0 rfl) ?_
    refine sp_get S hK hW inX2 0 rfl rfl 5 (by decide) lk1 rfl dX2_add_37 ?_
    refine lv_iload_n hx hb dX2_add_40 rfl (lv_at hl 3 rfl) ?_
    obtain ⟨hin, c3, ec3, hf⟩ := sp_hst hf
    refine sp_iast S hK hW 3 rfl hin ec3 (ws' := sw_P a q5 c1 c2 c3 lt gr ct gc) rfl dX2_add_41 (fun H locs hW => ?_)
    refine lv_aload_n hx hb dX2_add_42 rfl (lv_at hl 0 rfl) ?_
    refine sp_get S hK hW inX2 0 rfl rfl 3 (by decide) lk5 rfl dX2_add_43 ?_
    refine lv_aload_n hx hb dX2_add_46 rfl (lv_at hl 0 rfl) ?_
    refine sp_get S hK hW inX2 0 rfl rfl 5 (by decide) lk1 rfl dX2_add_47 ?_
    refine lv_iload hx hb dX2_add_50 (lv_at hl 4 rfl) ?_
    obtain ⟨hin, c4, ec4, hf⟩ := sp_hst hf
    refine sp_iast S hK hW 4 rfl hin ec4 (ws' := sw_P a q5 c1 c2 c3 c4 gr ct gc) rfl dX2_add_52 (fun H locs hW => ?_)
    refine lv_iload_n hx hb dX2_add_53 rfl (lv_at hl 2 rfl) ?_
    obtain ⟨k7, ek7, hf⟩ := sp_hb hf
    have hj7 : ∀ (c5 : Nat → Int32) (c6 : Int32) (H : Heap) (locs : List Loc) (ls : Array Slot), k7 c5 c6 = some (r', cl', le', ri', lt', gr', ct', gc') → sp_wd D A s.heap (sw_P a q5 c1 c2 c3 c4 c5 ct c6) H locs → lv_has ls 5 [(0, .ref (a 0))] → W p l e rmX2_add s m args below meth c H locs 0 0 Q (F0 m 80 ls []) := by
      intro c5 c6 H locs ls hf hW hl
      rw [ek7] at hf
      refine lv_aload_n hx hb dX2_add_80 rfl (lv_at hl 0 rfl) ?_
      refine lv_dup hx hb dX2_add_81 rfl ?_
      refine sp_get S hK hW inX2 0 rfl rfl 5 (by decide) lk1 rfl dX2_add_82 ?_
      refine lv_iconst (v := 1) hx hb dX2_add_85 (by decide) ?_
      refine lv_iadd hx hb dX2_add_86 ?_
      obtain ⟨v8, ev8, hf⟩ := sp_hb hf
      refine sp_topi ev8 ?_
      refine sp_put S hK hW inX2 tyX2_ok nmX2 0 rfl rfl 5 (by decide) lk1 rfl rfl rfl (Nat.le_of_ble_eq_true rfl) (ws' := sw_P a q5 c1 c2 c3 c4 c5 v8 c6) rfl dX2_add_87 (fun H locs hW => ?_)
      refine lv_aload_n hx hb dX2_add_90 rfl (lv_at hl 0 rfl) ?_
      refine sp_get S hK hW inX2 0 rfl rfl 5 (by decide) lk1 rfl dX2_add_91 ?_
      refine lv_iconst (v := 1) hx hb dX2_add_94 (by decide) ?_
      refine lv_isub hx hb dX2_add_95 ?_
      cases hf
      exact sp_iret S hr hlk hW hQ dX2_add_96
    refine lv_if_ge (tgt := 80) hx hb dX2_add_54 (by decide) (fun hc => ?_) (fun hc => ?_)
    · have hf := sp_ht hf hc
      exact hj7 _ _ _ _ _ hf hW (lv_sub hl [0] rfl)
    · have hf := sp_hf hf hc
      refine lv_aload_n hx hb dX2_add_57 rfl (lv_at hl 0 rfl) ?_
      refine sp_get S hK hW inX2 0 rfl rfl 4 (by decide) lk6 rfl dX2_add_58 ?_
      refine lv_aload_n hx hb dX2_add_61 rfl (lv_at hl 0 rfl) ?_
      refine sp_get S hK hW inX2 0 rfl rfl 6 (by decide) lk7 rfl dX2_add_62 ?_
      refine lv_aload_n hx hb dX2_add_65 rfl (lv_at hl 0 rfl) ?_
      refine sp_get S hK hW inX2 0 rfl rfl 5 (by decide) lk1 rfl dX2_add_66 ?_
      obtain ⟨hin, c9, ec9, hf⟩ := sp_hst hf
      refine sp_iast S hK hW 5 rfl hin ec9 (ws' := sw_P a q5 c1 c2 c3 c4 c9 ct gc) rfl dX2_add_69 (fun H locs hW => ?_)
      refine lv_aload_n hx hb dX2_add_70 rfl (lv_at hl 0 rfl) ?_
      refine lv_dup hx hb dX2_add_71 rfl ?_
      refine sp_get S hK hW inX2 0 rfl rfl 6 (by decide) lk7 rfl dX2_add_72 ?_
      refine lv_iconst (v := 1) hx hb dX2_add_75 (by decide) ?_
      refine lv_iadd hx hb dX2_add_76 ?_
      obtain ⟨v10, ev10, hf⟩ := sp_hb hf
      refine sp_topi ev10 ?_
      refine sp_put S hK hW inX2 tyX2_ok nmX2 0 rfl rfl 6 (by decide) lk7 rfl rfl rfl (Nat.le_of_ble_eq_true rfl) (ws' := sw_P a q5 c1 c2 c3 c4 c9 ct v10) rfl dX2_add_77 (fun H locs hW => ?_)
      exact hj7 _ _ _ _ _ hf hW (lv_sub hl [0] rfl)
  · have hf := sp_hf hf hc
    refine lv_bipush (v := (-3)) hx hb dX2_add_9 (by decide) ?_
    cases hf
    exact sp_iret S hr hlk hW hQ dX2_add_11

def f_X2_addGround (p1 : Int32) (cl : Nat → Int32) (le : Nat → Int32) (ri : Nat → Int32) (lt : Nat → Int32) (gr : Nat → Int32) (ct : Int32) (gc : Int32) : Option (Int32 × (Nat → Int32) × (Nat → Int32) × (Nat → Int32) × (Nat → Int32) × (Nat → Int32) × Int32 × Int32) := Option.bind (f_X2_add p1 (-9 : Int32) (-9 : Int32) (-9 : Int32) cl le ri lt gr ct gc) (fun q9 => match q9 with | (r1, c2, c3, c4, c5, c6, c7, c8) => some (r1, c2, c3, c4, c5, c6, c7, c8))
def rmX2_addGround : Room := { frames := 1, cells := 0, slots := 0, locals := 24 }
set_option maxRecDepth 4000 in
theorem c_X2_addGround {l : Launch} {D : va_G} {q5 : Nat → ClassId} (a : Nat → Nat) (cl : Nat → Int32) (le : Nat → Int32) (ri : Nat → Int32) (lt : Nat → Int32) (gr : Nat → Int32) (ct : Int32) (gc : Int32) (p1 : Int32) {r' : Int32} {cl' : Nat → Int32} {le' : Nat → Int32} {ri' : Nat → Int32} {lt' : Nat → Int32} {gr' : Nat → Int32} {ct' : Int32} {gc' : Int32} (hf : f_X2_addGround p1 cl le ri lt gr ct gc = some (r', cl', le', ri', lt', gr', ct', gc')) : sp_Ci l yX2_addGround wsX2_addGround rmX2_addGround D q5 0 [.ref (a 0), .int p1] (sw_P a q5 cl le ri lt gr ct gc) r' (sw_P a q5 cl' le' ri' lt' gr' ct' gc') := by
  intro sz
  refine sp_of (cc := cX2_addGround) (maxL := 2) (ret := some .int) (own := RX2) (Qc := sp_Qi D r' (sw_P a q5 cl' le' ri' lt' gr' ct' gc')) (by decide) rfl rfl (Nat.le_of_ble_eq_true rfl) ?_
  intro p e s m args below meth c A ls Q hQ S hr hlk hK hG hA hW hl
  have hx := S.1
  have hb := S.2.1
  unfold f_X2_addGround at hf
  refine lv_aload_n hx hb dX2_addGround_0 rfl (lv_at hl 0 rfl) ?_
  refine lv_iload_n hx hb dX2_addGround_1 rfl (lv_at hl 1 rfl) ?_
  refine lv_bipush (v := (-9)) hx hb dX2_addGround_2 (by decide) ?_
  refine lv_bipush (v := (-9)) hx hb dX2_addGround_4 (by decide) ?_
  refine lv_bipush (v := (-9)) hx hb dX2_addGround_6 (by decide) ?_
  obtain ⟨⟨r1, c2, c3, c4, c5, c6, c7, c8⟩, hc8, hf⟩ := sp_hc hf
  refine sp_callViP (rest := []) S hK hG hA hW (c_X2_add a cl le ri lt gr ct gc p1 (-9 : Int32) (-9 : Int32) (-9 : Int32) hc8) (by decide) (cwV 4 S.2.2.2.2 gX2_addGround_X2_add rfl rfl rfl (by decide +kernel) (by decide)) 1 0 rfl rfl (sp_pn _) rfl (WS' := sw_P a q5 c2 c3 c4 c5 c6 c7 c8) (sp_pn' _) rfl hl.1 (Nat.le_of_ble_eq_true rfl) dX2_addGround_8 ⟨Nat.zero_le _, Nat.zero_le _⟩ rfl (fun H locs hW => ?_)
  cases hf
  exact sp_iret S hr hlk hW hQ dX2_addGround_11

def f_X2_take_L6 (ct2 : Int32) (k18 : (Nat → Int32) → (Nat → Int32) → (Nat → Int32) → (Nat → Int32) → (Nat → Int32) → Int32 → Int32 → Option ((Nat → Int32) × (Nat → Int32) × (Nat → Int32) × (Nat → Int32) × (Nat → Int32) × Int32 × Int32)) (cl2 : Nat → Int32) (le2 : Nat → Int32) (ri2 : Nat → Int32) (lt2 : Nat → Int32) (rec6 : (Int32 × (Nat → Int32) × (Nat → Int32) × (Nat → Int32) × (Nat → Int32) × (Nat → Int32) × Int32 × Int32) → Option ((Nat → Int32) × (Nat → Int32) × (Nat → Int32) × (Nat → Int32) × (Nat → Int32) × Int32 × Int32)) (s9 : Int32 × (Nat → Int32) × (Nat → Int32) × (Nat → Int32) × (Nat → Int32) × (Nat → Int32) × Int32 × Int32) : Option ((Nat → Int32) × (Nat → Int32) × (Nat → Int32) × (Nat → Int32) × (Nat → Int32) × Int32 × Int32) := match s9 with
  | (y3, c4, c5, c6, c7, c8, c9, c10) => if ct2 ≤ y3 then (k18 c4 c5 c6 c7 c8 c9 c10) else (sp_ld cl2 48 y3 (fun v19 => sp_ld le2 48 y3 (fun v20 => sp_ld ri2 48 y3 (fun v21 => sp_ld lt2 48 y3 (fun v22 => Option.bind (f_X2_add v19 v20 v21 v22 c4 c5 c6 c7 c8 c9 c10) (fun q9 => match q9 with | (r23, c24, c25, c26, c27, c28, c29, c30) => sp_bnd (y3 + (1 : Int32)) (fun v31 => rec6 (v31, c24, c25, c26, c27, c28, c29, c30))))))))
theorem f_X2_take_L6_eq {rec6 : (Int32 × (Nat → Int32) × (Nat → Int32) × (Nat → Int32) × (Nat → Int32) × (Nat → Int32) × Int32 × Int32) → Option ((Nat → Int32) × (Nat → Int32) × (Nat → Int32) × (Nat → Int32) × (Nat → Int32) × Int32 × Int32)} {ct2 : Int32} {k18 : (Nat → Int32) → (Nat → Int32) → (Nat → Int32) → (Nat → Int32) → (Nat → Int32) → Int32 → Int32 → Option ((Nat → Int32) × (Nat → Int32) × (Nat → Int32) × (Nat → Int32) × (Nat → Int32) × Int32 × Int32)} {cl2 : Nat → Int32} {le2 : Nat → Int32} {ri2 : Nat → Int32} {lt2 : Nat → Int32} {y3 : Int32} {c4 : Nat → Int32} {c5 : Nat → Int32} {c6 : Nat → Int32} {c7 : Nat → Int32} {c8 : Nat → Int32} {c9 : Int32} {c10 : Int32} : f_X2_take_L6 ct2 k18 cl2 le2 ri2 lt2 rec6 (y3, c4, c5, c6, c7, c8, c9, c10) = (if ct2 ≤ y3 then (k18 c4 c5 c6 c7 c8 c9 c10) else (sp_ld cl2 48 y3 (fun v19 => sp_ld le2 48 y3 (fun v20 => sp_ld ri2 48 y3 (fun v21 => sp_ld lt2 48 y3 (fun v22 => Option.bind (f_X2_add v19 v20 v21 v22 c4 c5 c6 c7 c8 c9 c10) (fun q9 => match q9 with | (r23, c24, c25, c26, c27, c28, c29, c30) => sp_bnd (y3 + (1 : Int32)) (fun v31 => rec6 (v31, c24, c25, c26, c27, c28, c29, c30))))))))) := rfl
def f_X2_take (cl : Nat → Int32) (le : Nat → Int32) (ri : Nat → Int32) (lt : Nat → Int32) (gr : Nat → Int32) (cl2 : Nat → Int32) (le2 : Nat → Int32) (ri2 : Nat → Int32) (lt2 : Nat → Int32) (ct2 : Int32) : Option ((Nat → Int32) × (Nat → Int32) × (Nat → Int32) × (Nat → Int32) × (Nat → Int32) × Int32 × Int32) := Option.bind (f_X2_clear) (fun q9 => match q9 with | (c1, c2) => sp_bnd (fun (c11 : Nat → Int32) (c12 : Nat → Int32) (c13 : Nat → Int32) (c14 : Nat → Int32) (c15 : Nat → Int32) (c16 : Int32) (c17 : Int32) => some (c11, c12, c13, c14, c15, c16, c17)) (fun k18 => sp_lp (f_X2_take_L6 ct2 k18 cl2 le2 ri2 lt2) sp_F ((0 : Int32), cl, le, ri, lt, gr, c1, c2)))
def rmX2_take : Room := { frames := 1, cells := 0, slots := 0, locals := 24 }
set_option maxRecDepth 4000 in
theorem c_X2_take {l : Launch} {D : va_G} {q5 : Nat → ClassId} (a : Nat → Nat) (d : Nat → Nat) (cl : Nat → Int32) (le : Nat → Int32) (ri : Nat → Int32) (lt : Nat → Int32) (gr : Nat → Int32) (ct : Int32) (gc : Int32) (cl2 : Nat → Int32) (le2 : Nat → Int32) (ri2 : Nat → Int32) (lt2 : Nat → Int32) (gr2 : Nat → Int32) (ct2 : Int32) (gc2 : Int32) {cl' : Nat → Int32} {le' : Nat → Int32} {ri' : Nat → Int32} {lt' : Nat → Int32} {gr' : Nat → Int32} {ct' : Int32} {gc' : Int32} (hf : f_X2_take cl le ri lt gr cl2 le2 ri2 lt2 ct2 = some (cl', le', ri', lt', gr', ct', gc')) : sp_Cv l yX2_take wsX2_take rmX2_take D q5 0 [.ref (a 0), .ref (d 0)] (sw_P a q5 cl le ri lt gr ct gc ++ (sw_P d q5 cl2 le2 ri2 lt2 gr2 ct2 gc2)) (sw_P a q5 cl' le' ri' lt' gr' ct' gc' ++ (sw_P d q5 cl2 le2 ri2 lt2 gr2 ct2 gc2)) := by
  intro sz
  refine sp_of (cc := cX2_take) (maxL := 3) (ret := none) (own := RX2) (Qc := sp_Qv D (sw_P a q5 cl' le' ri' lt' gr' ct' gc' ++ (sw_P d q5 cl2 le2 ri2 lt2 gr2 ct2 gc2))) (by decide) rfl rfl (Nat.le_of_ble_eq_true rfl) ?_
  intro p e s m args below meth c A ls Q hQ S hr hlk hK hG hA hW hl
  have hx := S.1
  have hb := S.2.1
  unfold f_X2_take at hf
  have inX2 : ∀ w ∈ u_ws RX2 TX2 7, w ∈ wsX2_take := (fun _ h => List.mem_cons_of_mem _ (List.mem_append_right _ h))
  have lk1 := S.2.2.2.2 (Cond.fieldLink RX2 27 "ShortProofs$Proof" "count" "I") (List.mem_of_getElem? (i := 1) rfl)
  have lk2 := S.2.2.2.2 (Cond.fieldLink RX2 9 "ShortProofs$Proof" "clauses" "[I") (List.mem_of_getElem? (i := 2) rfl)
  have lk3 := S.2.2.2.2 (Cond.fieldLink RX2 15 "ShortProofs$Proof" "lefts" "[I") (List.mem_of_getElem? (i := 3) rfl)
  have lk4 := S.2.2.2.2 (Cond.fieldLink RX2 18 "ShortProofs$Proof" "rights" "[I") (List.mem_of_getElem? (i := 4) rfl)
  have lk5 := S.2.2.2.2 (Cond.fieldLink RX2 21 "ShortProofs$Proof" "letters" "[I") (List.mem_of_getElem? (i := 5) rfl)
  refine lv_aload_n hx hb dX2_take_0 rfl (lv_at hl 0 rfl) ?_
  obtain ⟨⟨c1, c2⟩, hc2, hf⟩ := sp_hc hf
  refine sp_callVvP (rest := []) S hK hG hA hW (c_X2_clear a cl le ri lt gr ct gc hc2) (by decide) (cwV 0 S.2.2.2.2 gX2_take_X2_clear rfl rfl rfl (by decide +kernel) (by decide)) 1 0 rfl rfl (sp_pq [sw_P a q5 cl le ri lt gr ct gc, sw_P d q5 cl2 le2 ri2 lt2 gr2 ct2 gc2] [0, 1] [0] [1] (by decide)) rfl (WS' := sw_P a q5 cl le ri lt gr c1 c2 ++ (sw_P d q5 cl2 le2 ri2 lt2 gr2 ct2 gc2)) (sp_pq' [sw_P a q5 cl le ri lt gr c1 c2, sw_P d q5 cl2 le2 ri2 lt2 gr2 ct2 gc2] [0, 1] [0] [1] (by decide)) rfl hl.1 (Nat.le_of_ble_eq_true rfl) dX2_take_1 ⟨Nat.zero_le _, Nat.zero_le _⟩ rfl (fun H locs hW => ?_)
  refine lv_iconst (v := 0) hx hb dX2_take_4 (by decide) ?_
  refine lv_istore_n (lv' := [(2, .int (0 : Int32)), (0, .ref (a 0)), (1, .ref (d 0))]) hx hb dX2_take_5 rfl hl (by decide) rfl (fun ls hl => ?_)
  obtain ⟨k18, ek18, hf⟩ := sp_hb hf
  have hj18 : ∀ (c11 : Nat → Int32) (c12 : Nat → Int32) (c13 : Nat → Int32) (c14 : Nat → Int32) (c15 : Nat → Int32) (c16 : Int32) (c17 : Int32) (H : Heap) (locs : List Loc) (ls : Array Slot), k18 c11 c12 c13 c14 c15 c16 c17 = some (cl', le', ri', lt', gr', ct', gc') → sp_wd D A s.heap (sw_P a q5 c11 c12 c13 c14 c15 c16 c17 ++ (sw_P d q5 cl2 le2 ri2 lt2 gr2 ct2 gc2)) H locs → lv_has ls 3 [] → W p l e rmX2_take s m args below meth c H locs 0 0 Q (F0 m 49 ls []) := by
    intro c11 c12 c13 c14 c15 c16 c17 H locs ls hf hW hl
    rw [ek18] at hf
    cases hf
    exact sp_vret S hr hlk hW hQ dX2_take_49
  have hlp6 : ∀ (n9 : Nat) (y3 : Int32) (c4 : Nat → Int32) (c5 : Nat → Int32) (c6 : Nat → Int32) (c7 : Nat → Int32) (c8 : Nat → Int32) (c9 : Int32) (c10 : Int32) (H : Heap) (locs : List Loc) (ls : Array Slot), sp_lp (f_X2_take_L6 ct2 k18 cl2 le2 ri2 lt2) n9 (y3, c4, c5, c6, c7, c8, c9, c10) = some (cl', le', ri', lt', gr', ct', gc') → sp_wd D A s.heap (sw_P a q5 c4 c5 c6 c7 c8 c9 c10 ++ (sw_P d q5 cl2 le2 ri2 lt2 gr2 ct2 gc2)) H locs → lv_has ls 3 [(0, .ref (a 0)), (1, .ref (d 0)), (2, .int y3)] → W p l e rmX2_take s m args below meth c H locs 0 0 Q (F0 m 6 ls []) := by
    intro n9
    induction n9 with
    | zero =>
      intro y3 c4 c5 c6 c7 c8 c9 c10 H locs ls hf hW hl
      exact (sp_lp0 hf).elim
    | succ n9 ih6 =>
      intro y3 c4 c5 c6 c7 c8 c9 c10 H locs ls hf hW hl
      have hf := sp_lpS hf
      rw [f_X2_take_L6_eq] at hf
      refine lv_iload_n hx hb dX2_take_6 rfl (lv_at hl 2 rfl) ?_
      refine lv_aload_n hx hb dX2_take_7 rfl (lv_at hl 1 rfl) ?_
      refine sp_get S hK hW inX2 6 rfl rfl 5 (by decide) lk1 rfl dX2_take_8 ?_
      refine lv_icmp_ge (tgt := 49) hx hb dX2_take_11 (by decide) (fun hc => ?_) (fun hc => ?_)
      · have hf := sp_ht hf hc
        exact hj18 _ _ _ _ _ _ _ _ _ _ hf hW (lv_sub hl [] rfl)
      · have hf := sp_hf hf hc
        refine lv_aload_n hx hb dX2_take_14 rfl (lv_at hl 0 rfl) ?_
        refine lv_aload_n hx hb dX2_take_15 rfl (lv_at hl 1 rfl) ?_
        refine sp_get S hK hW inX2 6 rfl rfl 0 (by decide) lk2 rfl dX2_take_16 ?_
        refine lv_iload_n hx hb dX2_take_19 rfl (lv_at hl 2 rfl) ?_
        obtain ⟨hin, v19, ev19, hf⟩ := sp_hld hf
        refine sp_iald S hK hW 7 rfl hin ev19 dX2_take_20 ?_
        refine lv_aload_n hx hb dX2_take_21 rfl (lv_at hl 1 rfl) ?_
        refine sp_get S hK hW inX2 6 rfl rfl 1 (by decide) lk3 rfl dX2_take_22 ?_
        refine lv_iload_n hx hb dX2_take_25 rfl (lv_at hl 2 rfl) ?_
        obtain ⟨hin, v20, ev20, hf⟩ := sp_hld hf
        refine sp_iald S hK hW 8 rfl hin ev20 dX2_take_26 ?_
        refine lv_aload_n hx hb dX2_take_27 rfl (lv_at hl 1 rfl) ?_
        refine sp_get S hK hW inX2 6 rfl rfl 2 (by decide) lk4 rfl dX2_take_28 ?_
        refine lv_iload_n hx hb dX2_take_31 rfl (lv_at hl 2 rfl) ?_
        obtain ⟨hin, v21, ev21, hf⟩ := sp_hld hf
        refine sp_iald S hK hW 9 rfl hin ev21 dX2_take_32 ?_
        refine lv_aload_n hx hb dX2_take_33 rfl (lv_at hl 1 rfl) ?_
        refine sp_get S hK hW inX2 6 rfl rfl 3 (by decide) lk5 rfl dX2_take_34 ?_
        refine lv_iload_n hx hb dX2_take_37 rfl (lv_at hl 2 rfl) ?_
        obtain ⟨hin, v22, ev22, hf⟩ := sp_hld hf
        refine sp_iald S hK hW 10 rfl hin ev22 dX2_take_38 ?_
        obtain ⟨⟨r23, c24, c25, c26, c27, c28, c29, c30⟩, hc30, hf⟩ := sp_hc hf
        refine sp_callViP (rest := []) S hK hG hA hW (c_X2_add a c4 c5 c6 c7 c8 c9 c10 v19 v20 v21 v22 hc30) (by decide) (cwV 4 S.2.2.2.2 gX2_take_X2_add rfl rfl rfl (by decide +kernel) (by decide)) 1 0 rfl rfl (sp_pq [sw_P a q5 c4 c5 c6 c7 c8 c9 c10, sw_P d q5 cl2 le2 ri2 lt2 gr2 ct2 gc2] [0, 1] [0] [1] (by decide)) rfl (WS' := sw_P a q5 c24 c25 c26 c27 c28 c29 c30 ++ (sw_P d q5 cl2 le2 ri2 lt2 gr2 ct2 gc2)) (sp_pq' [sw_P a q5 c24 c25 c26 c27 c28 c29 c30, sw_P d q5 cl2 le2 ri2 lt2 gr2 ct2 gc2] [0, 1] [0] [1] (by decide)) rfl hl.1 (Nat.le_of_ble_eq_true rfl) dX2_take_39 ⟨Nat.zero_le _, Nat.zero_le _⟩ rfl (fun H locs hW => ?_)
        refine lv_pop hx hb dX2_take_42 rfl ?_
        obtain ⟨v31, ev31, hf⟩ := sp_hb hf
        refine lv_iinc (v := v31) (lv' := [(2, .int v31), (0, .ref (a 0)), (1, .ref (d 0))]) hx hb dX2_take_43 hl (k := 2) rfl (by rw [ev31]; rfl) (by decide) rfl (fun ls hl => ?_)
        refine lv_goto (tgt := 6) hx hb dX2_take_46 (by decide) ?_
        exact ih6 _ _ _ _ _ _ _ _ _ _ _ hf hW (lv_sub hl [1, 2, 0] rfl)
  exact hlp6 _ _ _ _ _ _ _ _ _ _ _ _ hf hW (lv_sub hl [1, 2, 0] rfl)

def f_X2_firstWith_L2 (p2 : Int32) (k2 : Option (Int32)) (cl : Nat → Int32) (p1 : Int32) (rec2 : (Int32) → Option (Int32)) (s9 : Int32) : Option (Int32) := match s9 with
  | y1 => if p2 ≤ y1 then k2 else (sp_ld cl 48 y1 (fun v3 => if v3 = p1 then (some y1) else (sp_bnd (y1 + (1 : Int32)) (fun v4 => rec2 v4))))
theorem f_X2_firstWith_L2_eq {rec2 : (Int32) → Option (Int32)} {p2 : Int32} {k2 : Option (Int32)} {cl : Nat → Int32} {p1 : Int32} {y1 : Int32} : f_X2_firstWith_L2 p2 k2 cl p1 rec2 y1 = (if p2 ≤ y1 then k2 else (sp_ld cl 48 y1 (fun v3 => if v3 = p1 then (some y1) else (sp_bnd (y1 + (1 : Int32)) (fun v4 => rec2 v4))))) := rfl
def f_X2_firstWith (p1 : Int32) (p2 : Int32) (cl : Nat → Int32) : Option (Int32) := sp_bnd (some (-9 : Int32)) (fun k2 => sp_lp (f_X2_firstWith_L2 p2 k2 cl p1) sp_F (0 : Int32))
def rmX2_firstWith : Room := { frames := 0, cells := 0, slots := 0, locals := 0 }
set_option maxRecDepth 4000 in
theorem c_X2_firstWith {l : Launch} {D : va_G} {q5 : Nat → ClassId} (a : Nat → Nat) (cl : Nat → Int32) (le : Nat → Int32) (ri : Nat → Int32) (lt : Nat → Int32) (gr : Nat → Int32) (ct : Int32) (gc : Int32) (p1 : Int32) (p2 : Int32) {r' : Int32} (hf : f_X2_firstWith p1 p2 cl = some r') : sp_Ci l yX2_firstWith wsX2_firstWith rmX2_firstWith D q5 0 [.ref (a 0), .int p1, .int p2] (sw_P a q5 cl le ri lt gr ct gc) r' (sw_P a q5 cl le ri lt gr ct gc) := by
  intro sz
  refine sp_of (cc := cX2_firstWith) (maxL := 4) (ret := some .int) (own := RX2) (Qc := sp_Qi D r' (sw_P a q5 cl le ri lt gr ct gc)) (by decide) rfl rfl (Nat.le_of_ble_eq_true rfl) ?_
  intro p e s m args below meth c A ls Q hQ S hr hlk hK hG hA hW hl
  have hx := S.1
  have hb := S.2.1
  unfold f_X2_firstWith at hf
  have inX2 : ∀ w ∈ u_ws RX2 TX2 7, w ∈ wsX2_firstWith := (fun _ h => List.mem_cons_of_mem _ (List.mem_append_right _ h))
  have lk1 := S.2.2.2.2 (Cond.fieldLink RX2 9 "ShortProofs$Proof" "clauses" "[I") (List.mem_of_getElem? (i := 1) rfl)
  refine lv_iconst (v := 0) hx hb dX2_firstWith_0 (by decide) ?_
  refine lv_istore_n (lv' := [(3, .int (0 : Int32)), (0, .ref (a 0)), (1, .int p1), (2, .int p2)]) hx hb dX2_firstWith_1 rfl hl (by decide) rfl (fun ls hl => ?_)
  obtain ⟨k2, ek2, hf⟩ := sp_hb hf
  have hj2 : ∀ (H : Heap) (locs : List Loc) (ls : Array Slot), k2 = some r' → sp_wd D A s.heap (sw_P a q5 cl le ri lt gr ct gc) H locs → lv_has ls 4 [] → W p l e rmX2_firstWith s m args below meth c H locs 0 0 Q (F0 m 25 ls []) := by
    intro H locs ls hf hW hl
    rw [ek2] at hf
    refine lv_bipush (v := (-9)) hx hb dX2_firstWith_25 (by decide) ?_
    cases hf
    exact sp_iret S hr hlk hW hQ dX2_firstWith_27
  have hlp2 : ∀ (n9 : Nat) (y1 : Int32) (H : Heap) (locs : List Loc) (ls : Array Slot), sp_lp (f_X2_firstWith_L2 p2 k2 cl p1) n9 y1 = some r' → sp_wd D A s.heap (sw_P a q5 cl le ri lt gr ct gc) H locs → lv_has ls 4 [(0, .ref (a 0)), (1, .int p1), (2, .int p2), (3, .int y1)] → W p l e rmX2_firstWith s m args below meth c H locs 0 0 Q (F0 m 2 ls []) := by
    intro n9
    induction n9 with
    | zero =>
      intro y1 H locs ls hf hW hl
      exact (sp_lp0 hf).elim
    | succ n9 ih2 =>
      intro y1 H locs ls hf hW hl
      have hf := sp_lpS hf
      rw [f_X2_firstWith_L2_eq] at hf
      refine lv_iload_n hx hb dX2_firstWith_2 rfl (lv_at hl 3 rfl) ?_
      refine lv_iload_n hx hb dX2_firstWith_3 rfl (lv_at hl 2 rfl) ?_
      refine lv_icmp_ge (tgt := 25) hx hb dX2_firstWith_4 (by decide) (fun hc => ?_) (fun hc => ?_)
      · have hf := sp_ht hf hc
        exact hj2 _ _ _ hf hW (lv_sub hl [] rfl)
      · have hf := sp_hf hf hc
        refine lv_aload_n hx hb dX2_firstWith_7 rfl (lv_at hl 0 rfl) ?_
        refine sp_get S hK hW inX2 0 rfl rfl 0 (by decide) lk1 rfl dX2_firstWith_8 ?_
        refine lv_iload_n hx hb dX2_firstWith_11 rfl (lv_at hl 3 rfl) ?_
        obtain ⟨hin, v3, ev3, hf⟩ := sp_hld hf
        refine sp_iald S hK hW 1 rfl hin ev3 dX2_firstWith_12 ?_
        refine lv_iload_n hx hb dX2_firstWith_13 rfl (lv_at hl 1 rfl) ?_
        refine lv_icmp_ne (tgt := 19) hx hb dX2_firstWith_14 (by decide) (fun hc => ?_) (fun hc => ?_)
        · have hf := sp_hf hf hc
          obtain ⟨v4, ev4, hf⟩ := sp_hb hf
          refine lv_iinc (v := v4) (lv' := [(3, .int v4), (0, .ref (a 0)), (1, .int p1), (2, .int p2)]) hx hb dX2_firstWith_19 hl (k := 3) rfl (by rw [ev4]; rfl) (by decide) rfl (fun ls hl => ?_)
          refine lv_goto (tgt := 2) hx hb dX2_firstWith_22 (by decide) ?_
          exact ih2 _ _ _ _ hf hW (lv_sub hl [1, 2, 3, 0] rfl)
        · have hf := sp_ht hf hc
          refine lv_iload_n hx hb dX2_firstWith_17 rfl (lv_at hl 3 rfl) ?_
          cases hf
          exact sp_iret S hr hlk hW hQ dX2_firstWith_18
  exact hlp2 _ _ _ _ _ hf hW (lv_sub hl [1, 2, 3, 0] rfl)

def f_X2_firstPartOf_L2 (ct : Int32) (k2 : Option (Int32)) (cl : Nat → Int32) (p1 : Int32) (rec2 : (Int32) → Option (Int32)) (s9 : Int32) : Option (Int32) := match s9 with
  | y1 => if ct ≤ y1 then k2 else (sp_ld cl 48 y1 (fun v3 => if (v3 &&& (p1 ^^^ (-1 : Int32))) = 0 then (some y1) else (sp_bnd (y1 + (1 : Int32)) (fun v4 => rec2 v4))))
theorem f_X2_firstPartOf_L2_eq {rec2 : (Int32) → Option (Int32)} {ct : Int32} {k2 : Option (Int32)} {cl : Nat → Int32} {p1 : Int32} {y1 : Int32} : f_X2_firstPartOf_L2 ct k2 cl p1 rec2 y1 = (if ct ≤ y1 then k2 else (sp_ld cl 48 y1 (fun v3 => if (v3 &&& (p1 ^^^ (-1 : Int32))) = 0 then (some y1) else (sp_bnd (y1 + (1 : Int32)) (fun v4 => rec2 v4))))) := rfl
def f_X2_firstPartOf (p1 : Int32) (cl : Nat → Int32) (ct : Int32) : Option (Int32) := sp_bnd (some (-9 : Int32)) (fun k2 => sp_lp (f_X2_firstPartOf_L2 ct k2 cl p1) sp_F (0 : Int32))
def rmX2_firstPartOf : Room := { frames := 0, cells := 0, slots := 0, locals := 0 }
set_option maxRecDepth 4000 in
theorem c_X2_firstPartOf {l : Launch} {D : va_G} {q5 : Nat → ClassId} (a : Nat → Nat) (cl : Nat → Int32) (le : Nat → Int32) (ri : Nat → Int32) (lt : Nat → Int32) (gr : Nat → Int32) (ct : Int32) (gc : Int32) (p1 : Int32) {r' : Int32} (hf : f_X2_firstPartOf p1 cl ct = some r') : sp_Ci l yX2_firstPartOf wsX2_firstPartOf rmX2_firstPartOf D q5 0 [.ref (a 0), .int p1] (sw_P a q5 cl le ri lt gr ct gc) r' (sw_P a q5 cl le ri lt gr ct gc) := by
  intro sz
  refine sp_of (cc := cX2_firstPartOf) (maxL := 3) (ret := some .int) (own := RX2) (Qc := sp_Qi D r' (sw_P a q5 cl le ri lt gr ct gc)) (by decide) rfl rfl (Nat.le_of_ble_eq_true rfl) ?_
  intro p e s m args below meth c A ls Q hQ S hr hlk hK hG hA hW hl
  have hx := S.1
  have hb := S.2.1
  unfold f_X2_firstPartOf at hf
  have inX2 : ∀ w ∈ u_ws RX2 TX2 7, w ∈ wsX2_firstPartOf := (fun _ h => List.mem_cons_of_mem _ (List.mem_append_right _ h))
  have lk1 := S.2.2.2.2 (Cond.fieldLink RX2 27 "ShortProofs$Proof" "count" "I") (List.mem_of_getElem? (i := 1) rfl)
  have lk2 := S.2.2.2.2 (Cond.fieldLink RX2 9 "ShortProofs$Proof" "clauses" "[I") (List.mem_of_getElem? (i := 2) rfl)
  refine lv_iconst (v := 0) hx hb dX2_firstPartOf_0 (by decide) ?_
  refine lv_istore_n (lv' := [(2, .int (0 : Int32)), (0, .ref (a 0)), (1, .int p1)]) hx hb dX2_firstPartOf_1 rfl hl (by decide) rfl (fun ls hl => ?_)
  obtain ⟨k2, ek2, hf⟩ := sp_hb hf
  have hj2 : ∀ (H : Heap) (locs : List Loc) (ls : Array Slot), k2 = some r' → sp_wd D A s.heap (sw_P a q5 cl le ri lt gr ct gc) H locs → lv_has ls 3 [] → W p l e rmX2_firstPartOf s m args below meth c H locs 0 0 Q (F0 m 31 ls []) := by
    intro H locs ls hf hW hl
    rw [ek2] at hf
    refine lv_bipush (v := (-9)) hx hb dX2_firstPartOf_31 (by decide) ?_
    cases hf
    exact sp_iret S hr hlk hW hQ dX2_firstPartOf_33
  have hlp2 : ∀ (n9 : Nat) (y1 : Int32) (H : Heap) (locs : List Loc) (ls : Array Slot), sp_lp (f_X2_firstPartOf_L2 ct k2 cl p1) n9 y1 = some r' → sp_wd D A s.heap (sw_P a q5 cl le ri lt gr ct gc) H locs → lv_has ls 3 [(0, .ref (a 0)), (1, .int p1), (2, .int y1)] → W p l e rmX2_firstPartOf s m args below meth c H locs 0 0 Q (F0 m 2 ls []) := by
    intro n9
    induction n9 with
    | zero =>
      intro y1 H locs ls hf hW hl
      exact (sp_lp0 hf).elim
    | succ n9 ih2 =>
      intro y1 H locs ls hf hW hl
      have hf := sp_lpS hf
      rw [f_X2_firstPartOf_L2_eq] at hf
      refine lv_iload_n hx hb dX2_firstPartOf_2 rfl (lv_at hl 2 rfl) ?_
      refine lv_aload_n hx hb dX2_firstPartOf_3 rfl (lv_at hl 0 rfl) ?_
      refine sp_get S hK hW inX2 0 rfl rfl 5 (by decide) lk1 rfl dX2_firstPartOf_4 ?_
      refine lv_icmp_ge (tgt := 31) hx hb dX2_firstPartOf_7 (by decide) (fun hc => ?_) (fun hc => ?_)
      · have hf := sp_ht hf hc
        exact hj2 _ _ _ hf hW (lv_sub hl [] rfl)
      · have hf := sp_hf hf hc
        refine lv_aload_n hx hb dX2_firstPartOf_10 rfl (lv_at hl 0 rfl) ?_
        refine sp_get S hK hW inX2 0 rfl rfl 0 (by decide) lk2 rfl dX2_firstPartOf_11 ?_
        refine lv_iload_n hx hb dX2_firstPartOf_14 rfl (lv_at hl 2 rfl) ?_
        obtain ⟨hin, v3, ev3, hf⟩ := sp_hld hf
        refine sp_iald S hK hW 1 rfl hin ev3 dX2_firstPartOf_15 ?_
        refine lv_iload_n hx hb dX2_firstPartOf_16 rfl (lv_at hl 1 rfl) ?_
        refine lv_iconst (v := (-1)) hx hb dX2_firstPartOf_17 (by decide) ?_
        refine lv_ixor hx hb dX2_firstPartOf_18 ?_
        refine lv_iand hx hb dX2_firstPartOf_19 ?_
        refine lv_if_ne (tgt := 25) hx hb dX2_firstPartOf_20 (by decide) (fun hc => ?_) (fun hc => ?_)
        · have hf := sp_hf hf hc
          obtain ⟨v4, ev4, hf⟩ := sp_hb hf
          refine lv_iinc (v := v4) (lv' := [(2, .int v4), (0, .ref (a 0)), (1, .int p1)]) hx hb dX2_firstPartOf_25 hl (k := 2) rfl (by rw [ev4]; rfl) (by decide) rfl (fun ls hl => ?_)
          refine lv_goto (tgt := 2) hx hb dX2_firstPartOf_28 (by decide) ?_
          exact ih2 _ _ _ _ hf hW (lv_sub hl [1, 2, 0] rfl)
        · have hf := sp_ht hf hc
          refine lv_iload_n hx hb dX2_firstPartOf_23 rfl (lv_at hl 2 rfl) ?_
          cases hf
          exact sp_iret S hr hlk hW hQ dX2_firstPartOf_24
  exact hlp2 _ _ _ _ _ hf hW (lv_sub hl [1, 2, 0] rfl)

def f_X2_unlikeIn_L4 (ct : Int32) (k4 : Int32 → Option (Int32)) (cl : Nat → Int32) (ct2 : Int32) (cl2 : Nat → Int32) (rec4 : (Int32 × Int32) → Option (Int32)) (s9 : Int32 × Int32) : Option (Int32) := match s9 with
  | (y1, y2) => if ct ≤ y2 then (k4 y1) else (sp_ld cl 48 y2 (fun v5 => Option.bind (f_X2_firstWith v5 y2 cl) (fun r6 => sp_bnd (fun (x7 : Int32) => sp_bnd (y2 + (1 : Int32)) (fun v9 => rec4 (x7, v9))) (fun k8 => if r6 = (-9 : Int32) then (sp_ld cl 48 y2 (fun v10 => Option.bind (f_X2_firstWith v10 ct2 cl2) (fun r11 => if r11 = (-9 : Int32) then (k8 y1) else (sp_bnd (y1 + (1 : Int32)) (fun v12 => k8 v12))))) else (k8 y1)))))
theorem f_X2_unlikeIn_L4_eq {rec4 : (Int32 × Int32) → Option (Int32)} {ct : Int32} {k4 : Int32 → Option (Int32)} {cl : Nat → Int32} {ct2 : Int32} {cl2 : Nat → Int32} {y1 : Int32} {y2 : Int32} : f_X2_unlikeIn_L4 ct k4 cl ct2 cl2 rec4 (y1, y2) = (if ct ≤ y2 then (k4 y1) else (sp_ld cl 48 y2 (fun v5 => Option.bind (f_X2_firstWith v5 y2 cl) (fun r6 => sp_bnd (fun (x7 : Int32) => sp_bnd (y2 + (1 : Int32)) (fun v9 => rec4 (x7, v9))) (fun k8 => if r6 = (-9 : Int32) then (sp_ld cl 48 y2 (fun v10 => Option.bind (f_X2_firstWith v10 ct2 cl2) (fun r11 => if r11 = (-9 : Int32) then (k8 y1) else (sp_bnd (y1 + (1 : Int32)) (fun v12 => k8 v12))))) else (k8 y1)))))) := rfl
def f_X2_unlikeIn (cl : Nat → Int32) (ct : Int32) (cl2 : Nat → Int32) (ct2 : Int32) : Option (Int32) := sp_bnd (fun (x3 : Int32) => some x3) (fun k4 => sp_lp (f_X2_unlikeIn_L4 ct k4 cl ct2 cl2) sp_F ((0 : Int32), (0 : Int32)))
def rmX2_unlikeIn : Room := { frames := 1, cells := 0, slots := 0, locals := 23 }
set_option maxRecDepth 4000 in
theorem c_X2_unlikeIn {l : Launch} {D : va_G} {q5 : Nat → ClassId} (a : Nat → Nat) (d : Nat → Nat) (cl : Nat → Int32) (le : Nat → Int32) (ri : Nat → Int32) (lt : Nat → Int32) (gr : Nat → Int32) (ct : Int32) (gc : Int32) (cl2 : Nat → Int32) (le2 : Nat → Int32) (ri2 : Nat → Int32) (lt2 : Nat → Int32) (gr2 : Nat → Int32) (ct2 : Int32) (gc2 : Int32) {r' : Int32} (hf : f_X2_unlikeIn cl ct cl2 ct2 = some r') : sp_Ci l yX2_unlikeIn wsX2_unlikeIn rmX2_unlikeIn D q5 0 [.ref (a 0), .ref (d 0)] (sw_P a q5 cl le ri lt gr ct gc ++ (sw_P d q5 cl2 le2 ri2 lt2 gr2 ct2 gc2)) r' (sw_P a q5 cl le ri lt gr ct gc ++ (sw_P d q5 cl2 le2 ri2 lt2 gr2 ct2 gc2)) := by
  intro sz
  refine sp_of (cc := cX2_unlikeIn) (maxL := 4) (ret := some .int) (own := RX2) (Qc := sp_Qi D r' (sw_P a q5 cl le ri lt gr ct gc ++ (sw_P d q5 cl2 le2 ri2 lt2 gr2 ct2 gc2))) (by decide) rfl rfl (Nat.le_of_ble_eq_true rfl) ?_
  intro p e s m args below meth c A ls Q hQ S hr hlk hK hG hA hW hl
  have hx := S.1
  have hb := S.2.1
  unfold f_X2_unlikeIn at hf
  have inX2 : ∀ w ∈ u_ws RX2 TX2 7, w ∈ wsX2_unlikeIn := (fun _ h => List.mem_cons_of_mem _ (List.mem_append_right _ h))
  have lk1 := S.2.2.2.2 (Cond.fieldLink RX2 27 "ShortProofs$Proof" "count" "I") (List.mem_of_getElem? (i := 1) rfl)
  have lk2 := S.2.2.2.2 (Cond.fieldLink RX2 9 "ShortProofs$Proof" "clauses" "[I") (List.mem_of_getElem? (i := 2) rfl)
  refine lv_iconst (v := 0) hx hb dX2_unlikeIn_0 (by decide) ?_
  refine lv_istore_n (lv' := [(2, .int (0 : Int32)), (0, .ref (a 0)), (1, .ref (d 0))]) hx hb dX2_unlikeIn_1 rfl hl (by decide) rfl (fun ls hl => ?_)
  refine lv_iconst (v := 0) hx hb dX2_unlikeIn_2 (by decide) ?_
  refine lv_istore_n (lv' := [(3, .int (0 : Int32)), (2, .int (0 : Int32)), (0, .ref (a 0)), (1, .ref (d 0))]) hx hb dX2_unlikeIn_3 rfl hl (by decide) rfl (fun ls hl => ?_)
  obtain ⟨k4, ek4, hf⟩ := sp_hb hf
  have hj4 : ∀ (x3 : Int32) (H : Heap) (locs : List Loc) (ls : Array Slot), k4 x3 = some r' → sp_wd D A s.heap (sw_P a q5 cl le ri lt gr ct gc ++ (sw_P d q5 cl2 le2 ri2 lt2 gr2 ct2 gc2)) H locs → lv_has ls 4 [(2, .int x3)] → W p l e rmX2_unlikeIn s m args below meth c H locs 0 0 Q (F0 m 56 ls []) := by
    intro x3 H locs ls hf hW hl
    rw [ek4] at hf
    refine lv_iload_n hx hb dX2_unlikeIn_56 rfl (lv_at hl 0 rfl) ?_
    cases hf
    exact sp_iret S hr hlk hW hQ dX2_unlikeIn_57
  have hlp4 : ∀ (n9 : Nat) (y1 : Int32) (y2 : Int32) (H : Heap) (locs : List Loc) (ls : Array Slot), sp_lp (f_X2_unlikeIn_L4 ct k4 cl ct2 cl2) n9 (y1, y2) = some r' → sp_wd D A s.heap (sw_P a q5 cl le ri lt gr ct gc ++ (sw_P d q5 cl2 le2 ri2 lt2 gr2 ct2 gc2)) H locs → lv_has ls 4 [(0, .ref (a 0)), (1, .ref (d 0)), (2, .int y1), (3, .int y2)] → W p l e rmX2_unlikeIn s m args below meth c H locs 0 0 Q (F0 m 4 ls []) := by
    intro n9
    induction n9 with
    | zero =>
      intro y1 y2 H locs ls hf hW hl
      exact (sp_lp0 hf).elim
    | succ n9 ih4 =>
      intro y1 y2 H locs ls hf hW hl
      have hf := sp_lpS hf
      rw [f_X2_unlikeIn_L4_eq] at hf
      refine lv_iload_n hx hb dX2_unlikeIn_4 rfl (lv_at hl 3 rfl) ?_
      refine lv_aload_n hx hb dX2_unlikeIn_5 rfl (lv_at hl 0 rfl) ?_
      refine sp_get S hK hW inX2 0 rfl rfl 5 (by decide) lk1 rfl dX2_unlikeIn_6 ?_
      refine lv_icmp_ge (tgt := 56) hx hb dX2_unlikeIn_9 (by decide) (fun hc => ?_) (fun hc => ?_)
      · have hf := sp_ht hf hc
        exact hj4 _ _ _ _ hf hW (lv_sub hl [2] rfl)
      · have hf := sp_hf hf hc
        refine lv_aload_n hx hb dX2_unlikeIn_12 rfl (lv_at hl 0 rfl) ?_
        refine lv_aload_n hx hb dX2_unlikeIn_13 rfl (lv_at hl 0 rfl) ?_
        refine sp_get S hK hW inX2 0 rfl rfl 0 (by decide) lk2 rfl dX2_unlikeIn_14 ?_
        refine lv_iload_n hx hb dX2_unlikeIn_17 rfl (lv_at hl 3 rfl) ?_
        obtain ⟨hin, v5, ev5, hf⟩ := sp_hld hf
        refine sp_iald S hK hW 1 rfl hin ev5 dX2_unlikeIn_18 ?_
        refine lv_iload_n hx hb dX2_unlikeIn_19 rfl (lv_at hl 3 rfl) ?_
        obtain ⟨r6, hc6, hf⟩ := sp_hc hf
        refine sp_callViP (rest := []) S hK hG hA hW (c_X2_firstWith a cl le ri lt gr ct gc v5 y2 hc6) (by decide) (cwV 2 S.2.2.2.2 gX2_unlikeIn_X2_firstWith rfl rfl rfl (by decide +kernel) (by decide)) 1 0 rfl rfl (sp_pq [sw_P a q5 cl le ri lt gr ct gc, sw_P d q5 cl2 le2 ri2 lt2 gr2 ct2 gc2] [0, 1] [0] [1] (by decide)) rfl (WS' := sw_P a q5 cl le ri lt gr ct gc ++ (sw_P d q5 cl2 le2 ri2 lt2 gr2 ct2 gc2)) (sp_pq' [sw_P a q5 cl le ri lt gr ct gc, sw_P d q5 cl2 le2 ri2 lt2 gr2 ct2 gc2] [0, 1] [0] [1] (by decide)) rfl hl.1 (Nat.le_of_ble_eq_true rfl) dX2_unlikeIn_20 ⟨Nat.zero_le _, Nat.zero_le _⟩ rfl (fun H locs hW => ?_)
        refine lv_bipush (v := (-9)) hx hb dX2_unlikeIn_23 (by decide) ?_
        obtain ⟨k8, ek8, hf⟩ := sp_hb hf
        have hj8 : ∀ (x7 : Int32) (H : Heap) (locs : List Loc) (ls : Array Slot), k8 x7 = some r' → sp_wd D A s.heap (sw_P a q5 cl le ri lt gr ct gc ++ (sw_P d q5 cl2 le2 ri2 lt2 gr2 ct2 gc2)) H locs → lv_has ls 4 [(0, .ref (a 0)), (1, .ref (d 0)), (2, .int x7), (3, .int y2)] → W p l e rmX2_unlikeIn s m args below meth c H locs 0 0 Q (F0 m 50 ls []) := by
          intro x7 H locs ls hf hW hl
          rw [ek8] at hf
          obtain ⟨v9, ev9, hf⟩ := sp_hb hf
          refine lv_iinc (v := v9) (lv' := [(3, .int v9), (0, .ref (a 0)), (1, .ref (d 0)), (2, .int x7)]) hx hb dX2_unlikeIn_50 hl (k := 3) rfl (by rw [ev9]; rfl) (by decide) rfl (fun ls hl => ?_)
          refine lv_goto (tgt := 4) hx hb dX2_unlikeIn_53 (by decide) ?_
          exact ih4 _ _ _ _ _ hf hW (lv_sub hl [1, 2, 3, 0] rfl)
        refine lv_icmp_ne (tgt := 50) hx hb dX2_unlikeIn_25 (by decide) (fun hc => ?_) (fun hc => ?_)
        · have hf := sp_hf hf hc
          exact hj8 _ _ _ _ hf hW (lv_sub hl [0, 1, 2, 3] rfl)
        · have hf := sp_ht hf hc
          refine lv_aload_n hx hb dX2_unlikeIn_28 rfl (lv_at hl 1 rfl) ?_
          refine lv_aload_n hx hb dX2_unlikeIn_29 rfl (lv_at hl 0 rfl) ?_
          refine sp_get S hK hW inX2 0 rfl rfl 0 (by decide) lk2 rfl dX2_unlikeIn_30 ?_
          refine lv_iload_n hx hb dX2_unlikeIn_33 rfl (lv_at hl 3 rfl) ?_
          obtain ⟨hin, v10, ev10, hf⟩ := sp_hld hf
          refine sp_iald S hK hW 1 rfl hin ev10 dX2_unlikeIn_34 ?_
          refine lv_aload_n hx hb dX2_unlikeIn_35 rfl (lv_at hl 1 rfl) ?_
          refine sp_get S hK hW inX2 6 rfl rfl 5 (by decide) lk1 rfl dX2_unlikeIn_36 ?_
          obtain ⟨r11, hc11, hf⟩ := sp_hc hf
          refine sp_callViP (rest := []) S hK hG hA hW (c_X2_firstWith d cl2 le2 ri2 lt2 gr2 ct2 gc2 v10 ct2 hc11) (by decide) (cwV 2 S.2.2.2.2 gX2_unlikeIn_X2_firstWith rfl rfl rfl (by decide +kernel) (by decide)) 1 6 rfl rfl (sp_pq [sw_P a q5 cl le ri lt gr ct gc, sw_P d q5 cl2 le2 ri2 lt2 gr2 ct2 gc2] [0, 1] [1] [0] (by decide)) rfl (WS' := sw_P a q5 cl le ri lt gr ct gc ++ (sw_P d q5 cl2 le2 ri2 lt2 gr2 ct2 gc2)) (sp_pq' [sw_P a q5 cl le ri lt gr ct gc, sw_P d q5 cl2 le2 ri2 lt2 gr2 ct2 gc2] [0, 1] [1] [0] (by decide)) rfl hl.1 (Nat.le_of_ble_eq_true rfl) dX2_unlikeIn_39 ⟨Nat.zero_le _, Nat.zero_le _⟩ rfl (fun H locs hW => ?_)
          refine lv_bipush (v := (-9)) hx hb dX2_unlikeIn_42 (by decide) ?_
          refine lv_icmp_eq (tgt := 50) hx hb dX2_unlikeIn_44 (by decide) (fun hc => ?_) (fun hc => ?_)
          · have hf := sp_ht hf hc
            exact hj8 _ _ _ _ hf hW (lv_sub hl [0, 1, 2, 3] rfl)
          · have hf := sp_hf hf hc
            obtain ⟨v12, ev12, hf⟩ := sp_hb hf
            refine lv_iinc (v := v12) (lv' := [(2, .int v12), (0, .ref (a 0)), (1, .ref (d 0)), (3, .int y2)]) hx hb dX2_unlikeIn_47 hl (k := 2) rfl (by rw [ev12]; rfl) (by decide) rfl (fun ls hl => ?_)
            exact hj8 _ _ _ _ hf hW (lv_sub hl [1, 2, 0, 3] rfl)
  exact hlp4 _ _ _ _ _ _ hf hW (lv_sub hl [2, 3, 1, 0] rfl)

def f_X2_unlikeIn_al_L4 (ct : Int32) (k4 : Int32 → Option (Int32)) (cl : Nat → Int32) (rec4 : (Int32 × Int32) → Option (Int32)) (s9 : Int32 × Int32) : Option (Int32) := match s9 with
  | (y1, y2) => if ct ≤ y2 then (k4 y1) else (sp_ld cl 48 y2 (fun v5 => Option.bind (f_X2_firstWith v5 y2 cl) (fun r6 => sp_bnd (fun (x7 : Int32) => sp_bnd (y2 + (1 : Int32)) (fun v9 => rec4 (x7, v9))) (fun k8 => if r6 = (-9 : Int32) then (sp_ld cl 48 y2 (fun v10 => Option.bind (f_X2_firstWith v10 ct cl) (fun r11 => if r11 = (-9 : Int32) then (k8 y1) else (sp_bnd (y1 + (1 : Int32)) (fun v12 => k8 v12))))) else (k8 y1)))))
theorem f_X2_unlikeIn_al_L4_eq {rec4 : (Int32 × Int32) → Option (Int32)} {ct : Int32} {k4 : Int32 → Option (Int32)} {cl : Nat → Int32} {y1 : Int32} {y2 : Int32} : f_X2_unlikeIn_al_L4 ct k4 cl rec4 (y1, y2) = (if ct ≤ y2 then (k4 y1) else (sp_ld cl 48 y2 (fun v5 => Option.bind (f_X2_firstWith v5 y2 cl) (fun r6 => sp_bnd (fun (x7 : Int32) => sp_bnd (y2 + (1 : Int32)) (fun v9 => rec4 (x7, v9))) (fun k8 => if r6 = (-9 : Int32) then (sp_ld cl 48 y2 (fun v10 => Option.bind (f_X2_firstWith v10 ct cl) (fun r11 => if r11 = (-9 : Int32) then (k8 y1) else (sp_bnd (y1 + (1 : Int32)) (fun v12 => k8 v12))))) else (k8 y1)))))) := rfl
def f_X2_unlikeIn_al (cl : Nat → Int32) (ct : Int32) : Option (Int32) := sp_bnd (fun (x3 : Int32) => some x3) (fun k4 => sp_lp (f_X2_unlikeIn_al_L4 ct k4 cl) sp_F ((0 : Int32), (0 : Int32)))
def rmX2_unlikeIn_al : Room := { frames := 1, cells := 0, slots := 0, locals := 23 }
set_option maxRecDepth 4000 in
theorem c_X2_unlikeIn_al {l : Launch} {D : va_G} {q5 : Nat → ClassId} (a : Nat → Nat) (cl : Nat → Int32) (le : Nat → Int32) (ri : Nat → Int32) (lt : Nat → Int32) (gr : Nat → Int32) (ct : Int32) (gc : Int32) {r' : Int32} (hf : f_X2_unlikeIn_al cl ct = some r') : sp_Ci l yX2_unlikeIn wsX2_unlikeIn rmX2_unlikeIn_al D q5 0 [.ref (a 0), .ref (a 0)] (sw_P a q5 cl le ri lt gr ct gc) r' (sw_P a q5 cl le ri lt gr ct gc) := by
  intro sz
  refine sp_of (cc := cX2_unlikeIn) (maxL := 4) (ret := some .int) (own := RX2) (Qc := sp_Qi D r' (sw_P a q5 cl le ri lt gr ct gc)) (by decide) rfl rfl (Nat.le_of_ble_eq_true rfl) ?_
  intro p e s m args below meth c A ls Q hQ S hr hlk hK hG hA hW hl
  have hx := S.1
  have hb := S.2.1
  unfold f_X2_unlikeIn_al at hf
  have inX2 : ∀ w ∈ u_ws RX2 TX2 7, w ∈ wsX2_unlikeIn := (fun _ h => List.mem_cons_of_mem _ (List.mem_append_right _ h))
  have lk1 := S.2.2.2.2 (Cond.fieldLink RX2 27 "ShortProofs$Proof" "count" "I") (List.mem_of_getElem? (i := 1) rfl)
  have lk2 := S.2.2.2.2 (Cond.fieldLink RX2 9 "ShortProofs$Proof" "clauses" "[I") (List.mem_of_getElem? (i := 2) rfl)
  refine lv_iconst (v := 0) hx hb dX2_unlikeIn_0 (by decide) ?_
  refine lv_istore_n (lv' := [(2, .int (0 : Int32)), (0, .ref (a 0)), (1, .ref (a 0))]) hx hb dX2_unlikeIn_1 rfl hl (by decide) rfl (fun ls hl => ?_)
  refine lv_iconst (v := 0) hx hb dX2_unlikeIn_2 (by decide) ?_
  refine lv_istore_n (lv' := [(3, .int (0 : Int32)), (2, .int (0 : Int32)), (0, .ref (a 0)), (1, .ref (a 0))]) hx hb dX2_unlikeIn_3 rfl hl (by decide) rfl (fun ls hl => ?_)
  obtain ⟨k4, ek4, hf⟩ := sp_hb hf
  have hj4 : ∀ (x3 : Int32) (H : Heap) (locs : List Loc) (ls : Array Slot), k4 x3 = some r' → sp_wd D A s.heap (sw_P a q5 cl le ri lt gr ct gc) H locs → lv_has ls 4 [(2, .int x3)] → W p l e rmX2_unlikeIn_al s m args below meth c H locs 0 0 Q (F0 m 56 ls []) := by
    intro x3 H locs ls hf hW hl
    rw [ek4] at hf
    refine lv_iload_n hx hb dX2_unlikeIn_56 rfl (lv_at hl 0 rfl) ?_
    cases hf
    exact sp_iret S hr hlk hW hQ dX2_unlikeIn_57
  have hlp4 : ∀ (n9 : Nat) (y1 : Int32) (y2 : Int32) (H : Heap) (locs : List Loc) (ls : Array Slot), sp_lp (f_X2_unlikeIn_al_L4 ct k4 cl) n9 (y1, y2) = some r' → sp_wd D A s.heap (sw_P a q5 cl le ri lt gr ct gc) H locs → lv_has ls 4 [(0, .ref (a 0)), (1, .ref (a 0)), (2, .int y1), (3, .int y2)] → W p l e rmX2_unlikeIn_al s m args below meth c H locs 0 0 Q (F0 m 4 ls []) := by
    intro n9
    induction n9 with
    | zero =>
      intro y1 y2 H locs ls hf hW hl
      exact (sp_lp0 hf).elim
    | succ n9 ih4 =>
      intro y1 y2 H locs ls hf hW hl
      have hf := sp_lpS hf
      rw [f_X2_unlikeIn_al_L4_eq] at hf
      refine lv_iload_n hx hb dX2_unlikeIn_4 rfl (lv_at hl 3 rfl) ?_
      refine lv_aload_n hx hb dX2_unlikeIn_5 rfl (lv_at hl 0 rfl) ?_
      refine sp_get S hK hW inX2 0 rfl rfl 5 (by decide) lk1 rfl dX2_unlikeIn_6 ?_
      refine lv_icmp_ge (tgt := 56) hx hb dX2_unlikeIn_9 (by decide) (fun hc => ?_) (fun hc => ?_)
      · have hf := sp_ht hf hc
        exact hj4 _ _ _ _ hf hW (lv_sub hl [2] rfl)
      · have hf := sp_hf hf hc
        refine lv_aload_n hx hb dX2_unlikeIn_12 rfl (lv_at hl 0 rfl) ?_
        refine lv_aload_n hx hb dX2_unlikeIn_13 rfl (lv_at hl 0 rfl) ?_
        refine sp_get S hK hW inX2 0 rfl rfl 0 (by decide) lk2 rfl dX2_unlikeIn_14 ?_
        refine lv_iload_n hx hb dX2_unlikeIn_17 rfl (lv_at hl 3 rfl) ?_
        obtain ⟨hin, v5, ev5, hf⟩ := sp_hld hf
        refine sp_iald S hK hW 1 rfl hin ev5 dX2_unlikeIn_18 ?_
        refine lv_iload_n hx hb dX2_unlikeIn_19 rfl (lv_at hl 3 rfl) ?_
        obtain ⟨r6, hc6, hf⟩ := sp_hc hf
        refine sp_callViP (rest := []) S hK hG hA hW (c_X2_firstWith a cl le ri lt gr ct gc v5 y2 hc6) (by decide) (cwV 2 S.2.2.2.2 gX2_unlikeIn_X2_firstWith rfl rfl rfl (by decide +kernel) (by decide)) 1 0 rfl rfl (sp_pn _) rfl (WS' := sw_P a q5 cl le ri lt gr ct gc) (sp_pn' _) rfl hl.1 (Nat.le_of_ble_eq_true rfl) dX2_unlikeIn_20 ⟨Nat.zero_le _, Nat.zero_le _⟩ rfl (fun H locs hW => ?_)
        refine lv_bipush (v := (-9)) hx hb dX2_unlikeIn_23 (by decide) ?_
        obtain ⟨k8, ek8, hf⟩ := sp_hb hf
        have hj8 : ∀ (x7 : Int32) (H : Heap) (locs : List Loc) (ls : Array Slot), k8 x7 = some r' → sp_wd D A s.heap (sw_P a q5 cl le ri lt gr ct gc) H locs → lv_has ls 4 [(0, .ref (a 0)), (1, .ref (a 0)), (2, .int x7), (3, .int y2)] → W p l e rmX2_unlikeIn_al s m args below meth c H locs 0 0 Q (F0 m 50 ls []) := by
          intro x7 H locs ls hf hW hl
          rw [ek8] at hf
          obtain ⟨v9, ev9, hf⟩ := sp_hb hf
          refine lv_iinc (v := v9) (lv' := [(3, .int v9), (0, .ref (a 0)), (1, .ref (a 0)), (2, .int x7)]) hx hb dX2_unlikeIn_50 hl (k := 3) rfl (by rw [ev9]; rfl) (by decide) rfl (fun ls hl => ?_)
          refine lv_goto (tgt := 4) hx hb dX2_unlikeIn_53 (by decide) ?_
          exact ih4 _ _ _ _ _ hf hW (lv_sub hl [1, 2, 3, 0] rfl)
        refine lv_icmp_ne (tgt := 50) hx hb dX2_unlikeIn_25 (by decide) (fun hc => ?_) (fun hc => ?_)
        · have hf := sp_hf hf hc
          exact hj8 _ _ _ _ hf hW (lv_sub hl [0, 1, 2, 3] rfl)
        · have hf := sp_ht hf hc
          refine lv_aload_n hx hb dX2_unlikeIn_28 rfl (lv_at hl 1 rfl) ?_
          refine lv_aload_n hx hb dX2_unlikeIn_29 rfl (lv_at hl 0 rfl) ?_
          refine sp_get S hK hW inX2 0 rfl rfl 0 (by decide) lk2 rfl dX2_unlikeIn_30 ?_
          refine lv_iload_n hx hb dX2_unlikeIn_33 rfl (lv_at hl 3 rfl) ?_
          obtain ⟨hin, v10, ev10, hf⟩ := sp_hld hf
          refine sp_iald S hK hW 1 rfl hin ev10 dX2_unlikeIn_34 ?_
          refine lv_aload_n hx hb dX2_unlikeIn_35 rfl (lv_at hl 1 rfl) ?_
          refine sp_get S hK hW inX2 0 rfl rfl 5 (by decide) lk1 rfl dX2_unlikeIn_36 ?_
          obtain ⟨r11, hc11, hf⟩ := sp_hc hf
          refine sp_callViP (rest := []) S hK hG hA hW (c_X2_firstWith a cl le ri lt gr ct gc v10 ct hc11) (by decide) (cwV 2 S.2.2.2.2 gX2_unlikeIn_X2_firstWith rfl rfl rfl (by decide +kernel) (by decide)) 1 0 rfl rfl (sp_pn _) rfl (WS' := sw_P a q5 cl le ri lt gr ct gc) (sp_pn' _) rfl hl.1 (Nat.le_of_ble_eq_true rfl) dX2_unlikeIn_39 ⟨Nat.zero_le _, Nat.zero_le _⟩ rfl (fun H locs hW => ?_)
          refine lv_bipush (v := (-9)) hx hb dX2_unlikeIn_42 (by decide) ?_
          refine lv_icmp_eq (tgt := 50) hx hb dX2_unlikeIn_44 (by decide) (fun hc => ?_) (fun hc => ?_)
          · have hf := sp_ht hf hc
            exact hj8 _ _ _ _ hf hW (lv_sub hl [0, 1, 2, 3] rfl)
          · have hf := sp_hf hf hc
            obtain ⟨v12, ev12, hf⟩ := sp_hb hf
            refine lv_iinc (v := v12) (lv' := [(2, .int v12), (0, .ref (a 0)), (1, .ref (a 0)), (3, .int y2)]) hx hb dX2_unlikeIn_47 hl (k := 2) rfl (by rw [ev12]; rfl) (by decide) rfl (fun ls hl => ?_)
            exact hj8 _ _ _ _ hf hW (lv_sub hl [1, 2, 0, 3] rfl)
  exact hlp4 _ _ _ _ _ _ hf hW (lv_sub hl [2, 3, 1, 0] rfl)

def f_X2_keepOnly_L13 (ct : Int32) (k20 : (Nat → Int32) → (Nat → Int32) → (Nat → Int32) → (Nat → Int32) → (Nat → Int32) → Int32 → Int32 → (Nat → Int32) → Option ((Nat → Int32) × (Nat → Int32) × (Nat → Int32) × (Nat → Int32) × (Nat → Int32) × Int32 × Int32 × (Nat → Int32))) (p1 : Int64) (rec13 : (Int32 × (Nat → Int32) × (Nat → Int32) × (Nat → Int32) × (Nat → Int32) × (Nat → Int32) × Int32 × Int32 × (Nat → Int32)) → Option ((Nat → Int32) × (Nat → Int32) × (Nat → Int32) × (Nat → Int32) × (Nat → Int32) × Int32 × Int32 × (Nat → Int32))) (s9 : Int32 × (Nat → Int32) × (Nat → Int32) × (Nat → Int32) × (Nat → Int32) × (Nat → Int32) × Int32 × Int32 × (Nat → Int32)) : Option ((Nat → Int32) × (Nat → Int32) × (Nat → Int32) × (Nat → Int32) × (Nat → Int32) × Int32 × Int32 × (Nat → Int32)) := match s9 with
  | (y3, c4, c5, c6, c7, c8, c9, c10, c11) => if ct ≤ y3 then (k20 c4 c5 c6 c7 c8 c9 c10 c11) else (Option.bind (f_X9_isIn y3 p1) (fun r21 => sp_bnd (fun (c22 : Nat → Int32) (c23 : Nat → Int32) (c24 : Nat → Int32) (c25 : Nat → Int32) (c26 : Nat → Int32) (c27 : Int32) (c28 : Int32) (c29 : Nat → Int32) => sp_bnd (y3 + (1 : Int32)) (fun v31 => rec13 (v31, c22, c23, c24, c25, c26, c27, c28, c29))) (fun k30 => if r21 = 0 then (k30 c4 c5 c6 c7 c8 c9 c10 c11) else (Option.bind (f_X2_isGround y3 c5) (fun r32 => if r32 = 0 then (sp_ld c4 48 y3 (fun v33 => sp_ld c5 48 y3 (fun v34 => sp_ld c11 48 v34 (fun v35 => sp_ld c6 48 y3 (fun v36 => sp_ld c11 48 v36 (fun v37 => sp_ld c7 48 y3 (fun v38 => Option.bind (f_X2_add v33 v35 v37 v38 c4 c5 c6 c7 c8 c9 c10) (fun q9 => match q9 with | (r39, c40, c41, c42, c43, c44, c45, c46) => sp_st c11 48 y3 r39 (fun c47 => k30 c40 c41 c42 c43 c44 c45 c46 c47))))))))) else (sp_ld c4 48 y3 (fun v48 => Option.bind (f_X2_addGround v48 c4 c5 c6 c7 c8 c9 c10) (fun q9 => match q9 with | (r49, c50, c51, c52, c53, c54, c55, c56) => sp_st c11 48 y3 r49 (fun c57 => k30 c50 c51 c52 c53 c54 c55 c56 c57)))))))))
theorem f_X2_keepOnly_L13_eq {rec13 : (Int32 × (Nat → Int32) × (Nat → Int32) × (Nat → Int32) × (Nat → Int32) × (Nat → Int32) × Int32 × Int32 × (Nat → Int32)) → Option ((Nat → Int32) × (Nat → Int32) × (Nat → Int32) × (Nat → Int32) × (Nat → Int32) × Int32 × Int32 × (Nat → Int32))} {ct : Int32} {k20 : (Nat → Int32) → (Nat → Int32) → (Nat → Int32) → (Nat → Int32) → (Nat → Int32) → Int32 → Int32 → (Nat → Int32) → Option ((Nat → Int32) × (Nat → Int32) × (Nat → Int32) × (Nat → Int32) × (Nat → Int32) × Int32 × Int32 × (Nat → Int32))} {p1 : Int64} {y3 : Int32} {c4 : Nat → Int32} {c5 : Nat → Int32} {c6 : Nat → Int32} {c7 : Nat → Int32} {c8 : Nat → Int32} {c9 : Int32} {c10 : Int32} {c11 : Nat → Int32} : f_X2_keepOnly_L13 ct k20 p1 rec13 (y3, c4, c5, c6, c7, c8, c9, c10, c11) = (if ct ≤ y3 then (k20 c4 c5 c6 c7 c8 c9 c10 c11) else (Option.bind (f_X9_isIn y3 p1) (fun r21 => sp_bnd (fun (c22 : Nat → Int32) (c23 : Nat → Int32) (c24 : Nat → Int32) (c25 : Nat → Int32) (c26 : Nat → Int32) (c27 : Int32) (c28 : Int32) (c29 : Nat → Int32) => sp_bnd (y3 + (1 : Int32)) (fun v31 => rec13 (v31, c22, c23, c24, c25, c26, c27, c28, c29))) (fun k30 => if r21 = 0 then (k30 c4 c5 c6 c7 c8 c9 c10 c11) else (Option.bind (f_X2_isGround y3 c5) (fun r32 => if r32 = 0 then (sp_ld c4 48 y3 (fun v33 => sp_ld c5 48 y3 (fun v34 => sp_ld c11 48 v34 (fun v35 => sp_ld c6 48 y3 (fun v36 => sp_ld c11 48 v36 (fun v37 => sp_ld c7 48 y3 (fun v38 => Option.bind (f_X2_add v33 v35 v37 v38 c4 c5 c6 c7 c8 c9 c10) (fun q9 => match q9 with | (r39, c40, c41, c42, c43, c44, c45, c46) => sp_st c11 48 y3 r39 (fun c47 => k30 c40 c41 c42 c43 c44 c45 c46 c47))))))))) else (sp_ld c4 48 y3 (fun v48 => Option.bind (f_X2_addGround v48 c4 c5 c6 c7 c8 c9 c10) (fun q9 => match q9 with | (r49, c50, c51, c52, c53, c54, c55, c56) => sp_st c11 48 y3 r49 (fun c57 => k30 c50 c51 c52 c53 c54 c55 c56 c57)))))))))) := rfl
def f_X2_keepOnly (p1 : Int64) (cl : Nat → Int32) (le : Nat → Int32) (ri : Nat → Int32) (lt : Nat → Int32) (gr : Nat → Int32) (ct : Int32) (nu2 : Nat → Int32) : Option ((Nat → Int32) × (Nat → Int32) × (Nat → Int32) × (Nat → Int32) × (Nat → Int32) × Int32 × Int32 × (Nat → Int32)) := Option.bind (f_X2_clear) (fun q9 => match q9 with | (c1, c2) => sp_bnd (fun (c12 : Nat → Int32) (c13 : Nat → Int32) (c14 : Nat → Int32) (c15 : Nat → Int32) (c16 : Nat → Int32) (c17 : Int32) (c18 : Int32) (c19 : Nat → Int32) => some (c12, c13, c14, c15, c16, c17, c18, c19)) (fun k20 => sp_lp (f_X2_keepOnly_L13 ct k20 p1) sp_F ((0 : Int32), cl, le, ri, lt, gr, c1, c2, nu2)))
def rmX2_keepOnly : Room := { frames := 2, cells := 0, slots := 0, locals := 45 }
set_option maxRecDepth 4000 in
theorem c_X2_keepOnly {l : Launch} {D : va_G} {q5 : Nat → ClassId} (a : Nat → Nat) (d : Nat) (cl : Nat → Int32) (le : Nat → Int32) (ri : Nat → Int32) (lt : Nat → Int32) (gr : Nat → Int32) (ct : Int32) (gc : Int32) (nu2 : Nat → Int32) (p1 : Int64) {cl' : Nat → Int32} {le' : Nat → Int32} {ri' : Nat → Int32} {lt' : Nat → Int32} {gr' : Nat → Int32} {ct' : Int32} {gc' : Int32} {nu2' : Nat → Int32} (hf : f_X2_keepOnly p1 cl le ri lt gr ct nu2 = some (cl', le', ri', lt', gr', ct', gc', nu2')) : sp_Cv l yX2_keepOnly wsX2_keepOnly rmX2_keepOnly D q5 1 [.ref (a 0), .long p1, .ref d] (sw_P a q5 cl le ri lt gr ct gc ++ (sw_I d q5 nu2)) (sw_P a q5 cl' le' ri' lt' gr' ct' gc' ++ (sw_I d q5 nu2')) := by
  intro sz
  refine sp_of (cc := cX2_keepOnly) (maxL := 6) (ret := none) (own := RX2) (Qc := sp_Qv D (sw_P a q5 cl' le' ri' lt' gr' ct' gc' ++ (sw_I d q5 nu2'))) (by decide) rfl rfl (Nat.le_of_ble_eq_true rfl) ?_
  intro p e s m args below meth c A ls Q hQ S hr hlk hK hG hA hW hl
  have hx := S.1
  have hb := S.2.1
  unfold f_X2_keepOnly at hf
  have inX2 : ∀ w ∈ u_ws RX2 TX2 7, w ∈ wsX2_keepOnly := (fun _ h => List.mem_cons_of_mem _ (List.mem_append_right _ h))
  have lk1 := S.2.2.2.2 (Cond.fieldLink RX2 27 "ShortProofs$Proof" "count" "I") (List.mem_of_getElem? (i := 1) rfl)
  have lk2 := S.2.2.2.2 (Cond.static yX9_isIn) (List.mem_of_getElem? (i := 12) rfl)
  have lk3 := S.2.2.2.2 (Cond.initialized RX9) (List.mem_of_getElem? (i := 13) rfl)
  have lk4 := S.2.2.2.2 (Cond.fieldLink RX2 9 "ShortProofs$Proof" "clauses" "[I") (List.mem_of_getElem? (i := 2) rfl)
  have lk5 := S.2.2.2.2 (Cond.fieldLink RX2 15 "ShortProofs$Proof" "lefts" "[I") (List.mem_of_getElem? (i := 3) rfl)
  have lk6 := S.2.2.2.2 (Cond.fieldLink RX2 18 "ShortProofs$Proof" "rights" "[I") (List.mem_of_getElem? (i := 4) rfl)
  have lk7 := S.2.2.2.2 (Cond.fieldLink RX2 21 "ShortProofs$Proof" "letters" "[I") (List.mem_of_getElem? (i := 5) rfl)
  refine lv_aload_n hx hb dX2_keepOnly_0 rfl (lv_at hl 0 rfl) ?_
  refine sp_get S hK hW inX2 0 rfl rfl 5 (by decide) lk1 rfl dX2_keepOnly_1 ?_
  refine lv_istore (lv' := [(4, .int ct), (0, .ref (a 0)), (1, .long p1), (3, .ref d)]) hx hb dX2_keepOnly_4 hl (by decide) rfl (fun ls hl => ?_)
  refine lv_aload_n hx hb dX2_keepOnly_6 rfl (lv_at hl 1 rfl) ?_
  obtain ⟨⟨c1, c2⟩, hc2, hf⟩ := sp_hc hf
  refine sp_callVvP (rest := []) S hK hG hA hW (c_X2_clear a cl le ri lt gr ct gc hc2) (by decide) (cwV 0 S.2.2.2.2 gX2_keepOnly_X2_clear rfl rfl rfl (by decide +kernel) (by decide)) 1 0 rfl rfl (sp_pq [sw_P a q5 cl le ri lt gr ct gc, sw_I d q5 nu2] [0, 1] [0] [1] (by decide)) rfl (WS' := sw_P a q5 cl le ri lt gr c1 c2 ++ (sw_I d q5 nu2)) (sp_pq' [sw_P a q5 cl le ri lt gr c1 c2, sw_I d q5 nu2] [0, 1] [0] [1] (by decide)) rfl hl.1 (Nat.le_of_ble_eq_true rfl) dX2_keepOnly_7 ⟨Nat.zero_le _, Nat.zero_le _⟩ rfl (fun H locs hW => ?_)
  refine lv_iconst (v := 0) hx hb dX2_keepOnly_10 (by decide) ?_
  refine lv_istore (lv' := [(5, .int (0 : Int32)), (4, .int ct), (0, .ref (a 0)), (1, .long p1), (3, .ref d)]) hx hb dX2_keepOnly_11 hl (by decide) rfl (fun ls hl => ?_)
  obtain ⟨k20, ek20, hf⟩ := sp_hb hf
  have hj20 : ∀ (c12 : Nat → Int32) (c13 : Nat → Int32) (c14 : Nat → Int32) (c15 : Nat → Int32) (c16 : Nat → Int32) (c17 : Int32) (c18 : Int32) (c19 : Nat → Int32) (H : Heap) (locs : List Loc) (ls : Array Slot), k20 c12 c13 c14 c15 c16 c17 c18 c19 = some (cl', le', ri', lt', gr', ct', gc', nu2') → sp_wd D A s.heap (sw_P a q5 c12 c13 c14 c15 c16 c17 c18 ++ (sw_I d q5 c19)) H locs → lv_has ls 6 [] → W p l e rmX2_keepOnly s m args below meth c H locs 0 0 Q (F0 m 105 ls []) := by
    intro c12 c13 c14 c15 c16 c17 c18 c19 H locs ls hf hW hl
    rw [ek20] at hf
    cases hf
    exact sp_vret S hr hlk hW hQ dX2_keepOnly_105
  have hlp13 : ∀ (n9 : Nat) (y3 : Int32) (c4 : Nat → Int32) (c5 : Nat → Int32) (c6 : Nat → Int32) (c7 : Nat → Int32) (c8 : Nat → Int32) (c9 : Int32) (c10 : Int32) (c11 : Nat → Int32) (H : Heap) (locs : List Loc) (ls : Array Slot), sp_lp (f_X2_keepOnly_L13 ct k20 p1) n9 (y3, c4, c5, c6, c7, c8, c9, c10, c11) = some (cl', le', ri', lt', gr', ct', gc', nu2') → sp_wd D A s.heap (sw_P a q5 c4 c5 c6 c7 c8 c9 c10 ++ (sw_I d q5 c11)) H locs → lv_has ls 6 [(0, .ref (a 0)), (1, .long p1), (3, .ref d), (4, .int ct), (5, .int y3)] → W p l e rmX2_keepOnly s m args below meth c H locs 0 0 Q (F0 m 13 ls []) := by
    intro n9
    induction n9 with
    | zero =>
      intro y3 c4 c5 c6 c7 c8 c9 c10 c11 H locs ls hf hW hl
      exact (sp_lp0 hf).elim
    | succ n9 ih13 =>
      intro y3 c4 c5 c6 c7 c8 c9 c10 c11 H locs ls hf hW hl
      have hf := sp_lpS hf
      rw [f_X2_keepOnly_L13_eq] at hf
      refine lv_iload hx hb dX2_keepOnly_13 (lv_at hl 4 rfl) ?_
      refine lv_iload hx hb dX2_keepOnly_15 (lv_at hl 3 rfl) ?_
      refine lv_icmp_ge (tgt := 105) hx hb dX2_keepOnly_17 (by decide) (fun hc => ?_) (fun hc => ?_)
      · have hf := sp_ht hf hc
        exact hj20 _ _ _ _ _ _ _ _ _ _ _ hf hW (lv_sub hl [] rfl)
      · have hf := sp_hf hf hc
        refine lv_iload hx hb dX2_keepOnly_20 (lv_at hl 4 rfl) ?_
        refine lv_lload_n hx hb dX2_keepOnly_22 rfl (lv_at hl 1 rfl) ?_
        obtain ⟨r21, hc21, hf⟩ := sp_hc hf
        refine sp_callNi (rest := []) (host := RX9) S hK hG hA hW (c_X9_isIn y3 p1 hc21) (by decide) ⟨va_cnB 2 S.2.2.2.2 gX2_keepOnly_X9_isIn_n49 rfl rfl rfl (hG.1 (by decide) _ (List.mem_of_getElem? (i := 8) rfl)) lk3 (by decide +kernel) (by decide), lk2, trivial⟩ (isC := []) rfl rfl rfl (WS' := sw_P a q5 c4 c5 c6 c7 c8 c9 c10 ++ (sw_I d q5 c11)) rfl rfl hl.1 (Nat.le_of_ble_eq_true rfl) dX2_keepOnly_23 ⟨Nat.zero_le _, Nat.zero_le _⟩ rfl (fun H locs hW => ?_)
        obtain ⟨k30, ek30, hf⟩ := sp_hb hf
        have hj30 : ∀ (c22 : Nat → Int32) (c23 : Nat → Int32) (c24 : Nat → Int32) (c25 : Nat → Int32) (c26 : Nat → Int32) (c27 : Int32) (c28 : Int32) (c29 : Nat → Int32) (H : Heap) (locs : List Loc) (ls : Array Slot), k30 c22 c23 c24 c25 c26 c27 c28 c29 = some (cl', le', ri', lt', gr', ct', gc', nu2') → sp_wd D A s.heap (sw_P a q5 c22 c23 c24 c25 c26 c27 c28 ++ (sw_I d q5 c29)) H locs → lv_has ls 6 [(0, .ref (a 0)), (1, .long p1), (3, .ref d), (4, .int ct), (5, .int y3)] → W p l e rmX2_keepOnly s m args below meth c H locs 0 0 Q (F0 m 99 ls []) := by
          intro c22 c23 c24 c25 c26 c27 c28 c29 H locs ls hf hW hl
          rw [ek30] at hf
          obtain ⟨v31, ev31, hf⟩ := sp_hb hf
          refine lv_iinc (v := v31) (lv' := [(5, .int v31), (0, .ref (a 0)), (1, .long p1), (3, .ref d), (4, .int ct)]) hx hb dX2_keepOnly_99 hl (k := 4) rfl (by rw [ev31]; rfl) (by decide) rfl (fun ls hl => ?_)
          refine lv_goto (tgt := 13) hx hb dX2_keepOnly_102 (by decide) ?_
          exact ih13 _ _ _ _ _ _ _ _ _ _ _ _ hf hW (lv_sub hl [1, 2, 3, 4, 0] rfl)
        refine lv_if_ne (tgt := 32) hx hb dX2_keepOnly_26 (by decide) (fun hc => ?_) (fun hc => ?_)
        · have hf := sp_hf hf hc
          refine lv_aload_n hx hb dX2_keepOnly_32 rfl (lv_at hl 0 rfl) ?_
          refine lv_iload hx hb dX2_keepOnly_33 (lv_at hl 4 rfl) ?_
          obtain ⟨r32, hc32, hf⟩ := sp_hc hf
          refine sp_callViP (rest := []) S hK hG hA hW (c_X2_isGround a c4 c5 c6 c7 c8 c9 c10 y3 hc32) (by decide) (cwV 1 S.2.2.2.2 gX2_keepOnly_X2_isGround rfl rfl rfl (by decide +kernel) (by decide)) 1 0 rfl rfl (sp_pq [sw_P a q5 c4 c5 c6 c7 c8 c9 c10, sw_I d q5 c11] [0, 1] [0] [1] (by decide)) rfl (WS' := sw_P a q5 c4 c5 c6 c7 c8 c9 c10 ++ (sw_I d q5 c11)) (sp_pq' [sw_P a q5 c4 c5 c6 c7 c8 c9 c10, sw_I d q5 c11] [0, 1] [0] [1] (by decide)) rfl hl.1 (Nat.le_of_ble_eq_true rfl) dX2_keepOnly_35 ⟨Nat.zero_le _, Nat.zero_le _⟩ rfl (fun H locs hW => ?_)
          refine lv_if_eq (tgt := 59) hx hb dX2_keepOnly_38 (by decide) (fun hc => ?_) (fun hc => ?_)
          · have hf := sp_ht hf hc
            refine lv_aload_n hx hb dX2_keepOnly_59 rfl (lv_at hl 2 rfl) ?_
            refine lv_iload hx hb dX2_keepOnly_60 (lv_at hl 4 rfl) ?_
            refine lv_aload_n hx hb dX2_keepOnly_62 rfl (lv_at hl 0 rfl) ?_
            refine lv_aload_n hx hb dX2_keepOnly_63 rfl (lv_at hl 0 rfl) ?_
            refine sp_get S hK hW inX2 0 rfl rfl 0 (by decide) lk4 rfl dX2_keepOnly_64 ?_
            refine lv_iload hx hb dX2_keepOnly_67 (lv_at hl 4 rfl) ?_
            obtain ⟨hin, v33, ev33, hf⟩ := sp_hld hf
            refine sp_iald S hK hW 1 rfl hin ev33 dX2_keepOnly_69 ?_
            refine lv_aload_n hx hb dX2_keepOnly_70 rfl (lv_at hl 2 rfl) ?_
            refine lv_aload_n hx hb dX2_keepOnly_71 rfl (lv_at hl 0 rfl) ?_
            refine sp_get S hK hW inX2 0 rfl rfl 1 (by decide) lk5 rfl dX2_keepOnly_72 ?_
            refine lv_iload hx hb dX2_keepOnly_75 (lv_at hl 4 rfl) ?_
            obtain ⟨hin, v34, ev34, hf⟩ := sp_hld hf
            refine sp_iald S hK hW 2 rfl hin ev34 dX2_keepOnly_77 ?_
            obtain ⟨hin, v35, ev35, hf⟩ := sp_hld hf
            refine sp_iald S hK hW 6 rfl hin ev35 dX2_keepOnly_78 ?_
            refine lv_aload_n hx hb dX2_keepOnly_79 rfl (lv_at hl 2 rfl) ?_
            refine lv_aload_n hx hb dX2_keepOnly_80 rfl (lv_at hl 0 rfl) ?_
            refine sp_get S hK hW inX2 0 rfl rfl 2 (by decide) lk6 rfl dX2_keepOnly_81 ?_
            refine lv_iload hx hb dX2_keepOnly_84 (lv_at hl 4 rfl) ?_
            obtain ⟨hin, v36, ev36, hf⟩ := sp_hld hf
            refine sp_iald S hK hW 3 rfl hin ev36 dX2_keepOnly_86 ?_
            obtain ⟨hin, v37, ev37, hf⟩ := sp_hld hf
            refine sp_iald S hK hW 6 rfl hin ev37 dX2_keepOnly_87 ?_
            refine lv_aload_n hx hb dX2_keepOnly_88 rfl (lv_at hl 0 rfl) ?_
            refine sp_get S hK hW inX2 0 rfl rfl 3 (by decide) lk7 rfl dX2_keepOnly_89 ?_
            refine lv_iload hx hb dX2_keepOnly_92 (lv_at hl 4 rfl) ?_
            obtain ⟨hin, v38, ev38, hf⟩ := sp_hld hf
            refine sp_iald S hK hW 4 rfl hin ev38 dX2_keepOnly_94 ?_
            obtain ⟨⟨r39, c40, c41, c42, c43, c44, c45, c46⟩, hc46, hf⟩ := sp_hc hf
            refine sp_callViP (rest := [.int y3, .ref d]) S hK hG hA hW (c_X2_add a c4 c5 c6 c7 c8 c9 c10 v33 v35 v37 v38 hc46) (by decide) (cwV 4 S.2.2.2.2 gX2_keepOnly_X2_add rfl rfl rfl (by decide +kernel) (by decide)) 1 0 rfl rfl (sp_pq [sw_P a q5 c4 c5 c6 c7 c8 c9 c10, sw_I d q5 c11] [0, 1] [0] [1] (by decide)) rfl (WS' := sw_P a q5 c40 c41 c42 c43 c44 c45 c46 ++ (sw_I d q5 c11)) (sp_pq' [sw_P a q5 c40 c41 c42 c43 c44 c45 c46, sw_I d q5 c11] [0, 1] [0] [1] (by decide)) rfl hl.1 (Nat.le_of_ble_eq_true rfl) dX2_keepOnly_95 ⟨Nat.zero_le _, Nat.zero_le _⟩ rfl (fun H locs hW => ?_)
            obtain ⟨hin, c47, ec47, hf⟩ := sp_hst hf
            refine sp_iast S hK hW 6 rfl hin ec47 (ws' := sw_P a q5 c40 c41 c42 c43 c44 c45 c46 ++ (sw_I d q5 c47)) rfl dX2_keepOnly_98 (fun H locs hW => ?_)
            exact hj30 _ _ _ _ _ _ _ _ _ _ _ hf hW (lv_sub hl [0, 1, 2, 3, 4] rfl)
          · have hf := sp_hf hf hc
            refine lv_aload_n hx hb dX2_keepOnly_41 rfl (lv_at hl 2 rfl) ?_
            refine lv_iload hx hb dX2_keepOnly_42 (lv_at hl 4 rfl) ?_
            refine lv_aload_n hx hb dX2_keepOnly_44 rfl (lv_at hl 0 rfl) ?_
            refine lv_aload_n hx hb dX2_keepOnly_45 rfl (lv_at hl 0 rfl) ?_
            refine sp_get S hK hW inX2 0 rfl rfl 0 (by decide) lk4 rfl dX2_keepOnly_46 ?_
            refine lv_iload hx hb dX2_keepOnly_49 (lv_at hl 4 rfl) ?_
            obtain ⟨hin, v48, ev48, hf⟩ := sp_hld hf
            refine sp_iald S hK hW 1 rfl hin ev48 dX2_keepOnly_51 ?_
            obtain ⟨⟨r49, c50, c51, c52, c53, c54, c55, c56⟩, hc56, hf⟩ := sp_hc hf
            refine sp_callViP (rest := [.int y3, .ref d]) S hK hG hA hW (c_X2_addGround a c4 c5 c6 c7 c8 c9 c10 v48 hc56) (by decide) (cwV 1 S.2.2.2.2 gX2_keepOnly_X2_addGround rfl rfl rfl (by decide +kernel) (by decide)) 1 0 rfl rfl (sp_pq [sw_P a q5 c4 c5 c6 c7 c8 c9 c10, sw_I d q5 c11] [0, 1] [0] [1] (by decide)) rfl (WS' := sw_P a q5 c50 c51 c52 c53 c54 c55 c56 ++ (sw_I d q5 c11)) (sp_pq' [sw_P a q5 c50 c51 c52 c53 c54 c55 c56, sw_I d q5 c11] [0, 1] [0] [1] (by decide)) rfl hl.1 (Nat.le_of_ble_eq_true rfl) dX2_keepOnly_52 ⟨Nat.zero_le _, Nat.zero_le _⟩ rfl (fun H locs hW => ?_)
            obtain ⟨hin, c57, ec57, hf⟩ := sp_hst hf
            refine sp_iast S hK hW 6 rfl hin ec57 (ws' := sw_P a q5 c50 c51 c52 c53 c54 c55 c56 ++ (sw_I d q5 c57)) rfl dX2_keepOnly_55 (fun H locs hW => ?_)
            refine lv_goto (tgt := 99) hx hb dX2_keepOnly_56 (by decide) ?_
            exact hj30 _ _ _ _ _ _ _ _ _ _ _ hf hW (lv_sub hl [0, 1, 2, 3, 4] rfl)
        · have hf := sp_ht hf hc
          refine lv_goto (tgt := 99) hx hb dX2_keepOnly_29 (by decide) ?_
          exact hj30 _ _ _ _ _ _ _ _ _ _ _ hf hW (lv_sub hl [0, 1, 2, 3, 4] rfl)
  exact hlp13 _ _ _ _ _ _ _ _ _ _ _ _ _ hf hW (lv_sub hl [2, 3, 4, 1, 0] rfl)
