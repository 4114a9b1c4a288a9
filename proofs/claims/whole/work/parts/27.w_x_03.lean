def f_X9_sheet (p1 : Int32) (p2 : Int32) (p3 : Int32) (fa : Int32) (ceK : Nat → Int32) (laK : Int32) (lnK : Int32) : Option (Int32 × Int32 × (Nat → Int32) × Int32 × Int32) := Option.bind (f_X9_isSheet p1) (fun r1 => if r1 = 0 then (Option.bind (f_X9_unfaulted (-1 : Int32)) (fun q9 => match q9 with | (r17, c18) => some (r17, c18, ceK, laK, lnK))) else (Option.bind (f_X9_isLane p2) (fun r2 => sp_bnd (fun (c3 : Int32) (c4 : Nat → Int32) (c5 : Int32) (c6 : Int32) => Option.bind (f_X9_unfaulted (-2 : Int32)) (fun q9 => match q9 with | (r8, c9) => some (r8, c9, c4, c5, c6))) (fun k7 => if r2 = 0 then (k7 fa ceK laK lnK) else (if p3 ≤ (60 : Int32) then (if 0 ≤ p3 then (sp_ck 4 p1 (Option.bind (f_X4_begin p2 p3 ceK) (fun q9 => match q9 with | (c10, c11, c12) => Option.bind (f_X9_unfaulted (1 : Int32)) (fun q9 => match q9 with | (r13, c14) => some (r13, c14, c10, c11, c12))))) else (Option.bind (f_X9_faulted (4 : Int32)) (fun q9 => match q9 with | (r15, c16) => some (r15, c16, ceK, laK, lnK)))) else (k7 fa ceK laK lnK))))))
def rmX9_sheet : Room := { frames := 1, cells := 0, slots := 0, locals := 23 }
set_option maxRecDepth 4000 in
theorem c_X9_sheet {l : Launch} {D : va_G} {q5 : Nat → ClassId} (a : Nat → Nat) (sA : Nat) (uK : Nat → Nat) (n_pr : Nat) (n_rd : Nat) (n_sz : Nat) (n_or : Nat) (n_st : Nat) (n_tb : Nat) (pn : Int32) (od : Int32) (fa : Int32) (tr : Int32) (sa : Nat → Option Nat) (ceK : Nat → Int32) (laK : Int32) (lnK : Int32) (p1 : Int32) (p2 : Int32) (p3 : Int32) (hR_K : vp_in p1 4 → sa p1.toNatClampNeg = some (uK 0)) {r' : Int32} {fa' : Int32} {ceK' : Nat → Int32} {laK' : Int32} {lnK' : Int32} (hf : f_X9_sheet p1 p2 p3 fa ceK laK lnK = some (r', fa', ceK', laK', lnK')) : sp_Ci l yX9_sheet wsX9_sheet rmX9_sheet D q5 0 [.ref (a 0), .int p1, .int p2, .int p3] (sw_X a n_pr sA n_rd n_sz n_or n_st n_tb q5 pn od fa tr ++ (sw_XS sA q5 sa ++ (sw_S uK q5 ceK laK lnK))) r' (sw_X a n_pr sA n_rd n_sz n_or n_st n_tb q5 pn od fa' tr ++ (sw_XS sA q5 sa ++ (sw_S uK q5 ceK' laK' lnK'))) := by
  intro sz
  refine sp_of (cc := cX9_sheet) (maxL := 4) (ret := some .int) (own := RX9) (Qc := sp_Qi D r' (sw_X a n_pr sA n_rd n_sz n_or n_st n_tb q5 pn od fa' tr ++ (sw_XS sA q5 sa ++ (sw_S uK q5 ceK' laK' lnK')))) (by decide) rfl rfl (Nat.le_of_ble_eq_true rfl) ?_
  intro p e s m args below meth c A ls Q hQ S hr hlk hK hG hA hW hl
  have hx := S.1
  have hb := S.2.1
  unfold f_X9_sheet at hf
  have inX9 : ∀ w ∈ u_ws RX9 TX9 11, w ∈ wsX9_sheet := (fun _ h => List.mem_cons_of_mem _ (List.mem_append_left _ (List.mem_append_right _ h)))
  have lk1 := S.2.2.2.2 (Cond.fieldLink RX9 20 "ShortProofs" "sheets" "[LShortProofs$Sheet;") (List.mem_of_getElem? (i := 1) rfl)
  refine lv_iload_n hx hb dX9_sheet_0 rfl (lv_at hl 1 rfl) ?_
  obtain ⟨r1, hc1, hf⟩ := sp_hc hf
  refine sp_callSi (rest := []) S hK hG hA hW (c_X9_isSheet p1 hc1) (by decide) (va_cwS 1 S.2.2.2.2 gX9_sheet_X9_isSheet rfl rfl rfl (by decide +kernel) (by decide)) (isC := []) rfl rfl rfl (WS' := sw_X a n_pr sA n_rd n_sz n_or n_st n_tb q5 pn od fa tr ++ (sw_XS sA q5 sa ++ (sw_S uK q5 ceK laK lnK))) rfl rfl hl.1 (Nat.le_of_ble_eq_true rfl) dX9_sheet_1 ⟨Nat.zero_le _, Nat.zero_le _⟩ rfl (fun H locs hW => ?_)
  refine lv_if_ne (tgt := 13) hx hb dX9_sheet_4 (by decide) (fun hc => ?_) (fun hc => ?_)
  · have hf := sp_hf hf hc
    refine lv_iload_n hx hb dX9_sheet_13 rfl (lv_at hl 2 rfl) ?_
    obtain ⟨r2, hc2, hf⟩ := sp_hc hf
    refine sp_callSi (rest := []) S hK hG hA hW (c_X9_isLane p2 hc2) (by decide) (va_cwS 1 S.2.2.2.2 gX9_sheet_X9_isLane rfl rfl rfl (by decide +kernel) (by decide)) (isC := []) rfl rfl rfl (WS' := sw_X a n_pr sA n_rd n_sz n_or n_st n_tb q5 pn od fa tr ++ (sw_XS sA q5 sa ++ (sw_S uK q5 ceK laK lnK))) rfl rfl hl.1 (Nat.le_of_ble_eq_true rfl) dX9_sheet_14 ⟨Nat.zero_le _, Nat.zero_le _⟩ rfl (fun H locs hW => ?_)
    obtain ⟨k7, ek7, hf⟩ := sp_hb hf
    have hj7 : ∀ (c3 : Int32) (c4 : Nat → Int32) (c5 : Int32) (c6 : Int32) (H : Heap) (locs : List Loc) (ls : Array Slot), k7 c3 c4 c5 c6 = some (r', fa', ceK', laK', lnK') → sp_wd D A s.heap (sw_X a n_pr sA n_rd n_sz n_or n_st n_tb q5 pn od c3 tr ++ (sw_XS sA q5 sa ++ (sw_S uK q5 c4 c5 c6))) H locs → lv_has ls 4 [(0, .ref (a 0))] → W p l e rmX9_sheet s m args below meth c H locs 0 0 Q (F0 m 26 ls []) := by
      intro c3 c4 c5 c6 H locs ls hf hW hl
      rw [ek7] at hf
      refine lv_aload_n hx hb dX9_sheet_26 rfl (lv_at hl 0 rfl) ?_
      refine lv_bipush (v := (-2)) hx hb dX9_sheet_27 (by decide) ?_
      obtain ⟨⟨r8, c9⟩, hc9, hf⟩ := sp_hc hf
      refine sp_callViP (rest := []) S hK hG hA hW (c_X9_unfaulted a n_pr sA n_rd n_sz n_or n_st n_tb pn od c3 tr (-2 : Int32) hc9) (by decide) (cwV 1 S.2.2.2.2 gX9_sheet_X9_unfaulted rfl rfl rfl (by decide +kernel) (by decide)) 7 0 rfl rfl (sp_pq [sw_X a n_pr sA n_rd n_sz n_or n_st n_tb q5 pn od c3 tr, sw_XS sA q5 sa, sw_S uK q5 c4 c5 c6] [0, 1, 2] [0] [1, 2] (by decide)) rfl (WS' := sw_X a n_pr sA n_rd n_sz n_or n_st n_tb q5 pn od c9 tr ++ (sw_XS sA q5 sa ++ (sw_S uK q5 c4 c5 c6))) (sp_pq' [sw_X a n_pr sA n_rd n_sz n_or n_st n_tb q5 pn od c9 tr, sw_XS sA q5 sa, sw_S uK q5 c4 c5 c6] [0, 1, 2] [0] [1, 2] (by decide)) rfl hl.1 (Nat.le_of_ble_eq_true rfl) dX9_sheet_29 ⟨Nat.zero_le _, Nat.zero_le _⟩ rfl (fun H locs hW => ?_)
      have q0 := Option.some.inj hf
      obtain ⟨q1, z1⟩ := Prod.mk.inj q0
      obtain ⟨q2, z2⟩ := Prod.mk.inj z1
      obtain ⟨q3, z3⟩ := Prod.mk.inj z2
      obtain ⟨q4, z4⟩ := Prod.mk.inj z3
      subst q1
      subst q2
      subst q3
      subst q4
      subst z4
      exact sp_iret S hr hlk hW hQ dX9_sheet_32
    refine lv_if_eq (tgt := 26) hx hb dX9_sheet_17 (by decide) (fun hc => ?_) (fun hc => ?_)
    · have hf := sp_ht hf hc
      exact hj7 _ _ _ _ _ _ _ hf hW (lv_sub hl [0] rfl)
    · have hf := sp_hf hf hc
      refine lv_iload_n hx hb dX9_sheet_20 rfl (lv_at hl 3 rfl) ?_
      refine lv_bipush (v := 60) hx hb dX9_sheet_21 (by decide) ?_
      refine lv_icmp_le (tgt := 33) hx hb dX9_sheet_23 (by decide) (fun hc => ?_) (fun hc => ?_)
      · have hf := sp_ht hf hc
        refine lv_iload_n hx hb dX9_sheet_33 rfl (lv_at hl 3 rfl) ?_
        refine lv_if_ge (tgt := 43) hx hb dX9_sheet_34 (by decide) (fun hc => ?_) (fun hc => ?_)
        · have hf := sp_ht hf hc
          refine lv_aload_n hx hb dX9_sheet_43 rfl (lv_at hl 0 rfl) ?_
          refine sp_get S hK hW inX9 0 rfl rfl 1 (by decide) lk1 rfl dX9_sheet_44 ?_
          refine lv_iload_n hx hb dX9_sheet_47 rfl (lv_at hl 1 rfl) ?_
          obtain ⟨hin, hf⟩ := sp_hck2 hf
          refine sp_aldq S hK hW 1 4 rfl rfl hin (hR_K hin) dX9_sheet_48 ?_
          refine lv_iload_n hx hb dX9_sheet_49 rfl (lv_at hl 2 rfl) ?_
          refine lv_iload_n hx hb dX9_sheet_50 rfl (lv_at hl 3 rfl) ?_
          obtain ⟨⟨c10, c11, c12⟩, hc12, hf⟩ := sp_hc hf
          refine sp_callVvP (rest := []) S hK hG hA hW (c_X4_begin uK ceK laK lnK p2 p3 hc12) (by decide) (cwV 2 S.2.2.2.2 gX9_sheet_X4_begin rfl rfl rfl (by decide +kernel) (by decide)) 3 2 rfl rfl (sp_pq [sw_X a n_pr sA n_rd n_sz n_or n_st n_tb q5 pn od fa tr, sw_XS sA q5 sa, sw_S uK q5 ceK laK lnK] [0, 1, 2] [2] [0, 1] (by decide)) rfl (WS' := sw_X a n_pr sA n_rd n_sz n_or n_st n_tb q5 pn od fa tr ++ (sw_XS sA q5 sa ++ (sw_S uK q5 c10 c11 c12))) (sp_pq' [sw_X a n_pr sA n_rd n_sz n_or n_st n_tb q5 pn od fa tr, sw_XS sA q5 sa, sw_S uK q5 c10 c11 c12] [0, 1, 2] [2] [0, 1] (by decide)) rfl hl.1 (Nat.le_of_ble_eq_true rfl) dX9_sheet_51 ⟨Nat.zero_le _, Nat.zero_le _⟩ rfl (fun H locs hW => ?_)
          refine lv_aload_n hx hb dX9_sheet_54 rfl (lv_at hl 0 rfl) ?_
          refine lv_iconst (v := 1) hx hb dX9_sheet_55 (by decide) ?_
          obtain ⟨⟨r13, c14⟩, hc14, hf⟩ := sp_hc hf
          refine sp_callViP (rest := []) S hK hG hA hW (c_X9_unfaulted a n_pr sA n_rd n_sz n_or n_st n_tb pn od fa tr (1 : Int32) hc14) (by decide) (cwV 1 S.2.2.2.2 gX9_sheet_X9_unfaulted rfl rfl rfl (by decide +kernel) (by decide)) 7 0 rfl rfl (sp_pq [sw_X a n_pr sA n_rd n_sz n_or n_st n_tb q5 pn od fa tr, sw_XS sA q5 sa, sw_S uK q5 c10 c11 c12] [0, 1, 2] [0] [1, 2] (by decide)) rfl (WS' := sw_X a n_pr sA n_rd n_sz n_or n_st n_tb q5 pn od c14 tr ++ (sw_XS sA q5 sa ++ (sw_S uK q5 c10 c11 c12))) (sp_pq' [sw_X a n_pr sA n_rd n_sz n_or n_st n_tb q5 pn od c14 tr, sw_XS sA q5 sa, sw_S uK q5 c10 c11 c12] [0, 1, 2] [0] [1, 2] (by decide)) rfl hl.1 (Nat.le_of_ble_eq_true rfl) dX9_sheet_56 ⟨Nat.zero_le _, Nat.zero_le _⟩ rfl (fun H locs hW => ?_)
          have q0 := Option.some.inj hf
          obtain ⟨q1, z1⟩ := Prod.mk.inj q0
          obtain ⟨q2, z2⟩ := Prod.mk.inj z1
          obtain ⟨q3, z3⟩ := Prod.mk.inj z2
          obtain ⟨q4, z4⟩ := Prod.mk.inj z3
          subst q1
          subst q2
          subst q3
          subst q4
          subst z4
          exact sp_iret S hr hlk hW hQ dX9_sheet_59
        · have hf := sp_hf hf hc
          refine lv_aload_n hx hb dX9_sheet_37 rfl (lv_at hl 0 rfl) ?_
          refine lv_iconst (v := 4) hx hb dX9_sheet_38 (by decide) ?_
          obtain ⟨⟨r15, c16⟩, hc16, hf⟩ := sp_hc hf
          refine sp_callViP (rest := []) S hK hG hA hW (c_X9_faulted a n_pr sA n_rd n_sz n_or n_st n_tb pn od fa tr (4 : Int32) hc16) (by decide) (cwV 1 S.2.2.2.2 gX9_sheet_X9_faulted rfl rfl rfl (by decide +kernel) (by decide)) 7 0 rfl rfl (sp_pq [sw_X a n_pr sA n_rd n_sz n_or n_st n_tb q5 pn od fa tr, sw_XS sA q5 sa, sw_S uK q5 ceK laK lnK] [0, 1, 2] [0] [1, 2] (by decide)) rfl (WS' := sw_X a n_pr sA n_rd n_sz n_or n_st n_tb q5 pn od c16 tr ++ (sw_XS sA q5 sa ++ (sw_S uK q5 ceK laK lnK))) (sp_pq' [sw_X a n_pr sA n_rd n_sz n_or n_st n_tb q5 pn od c16 tr, sw_XS sA q5 sa, sw_S uK q5 ceK laK lnK] [0, 1, 2] [0] [1, 2] (by decide)) rfl hl.1 (Nat.le_of_ble_eq_true rfl) dX9_sheet_39 ⟨Nat.zero_le _, Nat.zero_le _⟩ rfl (fun H locs hW => ?_)
          have q0 := Option.some.inj hf
          obtain ⟨q1, z1⟩ := Prod.mk.inj q0
          obtain ⟨q2, z2⟩ := Prod.mk.inj z1
          obtain ⟨q3, z3⟩ := Prod.mk.inj z2
          obtain ⟨q4, z4⟩ := Prod.mk.inj z3
          subst q1
          subst q2
          subst q3
          subst q4
          subst z4
          exact sp_iret S hr hlk hW hQ dX9_sheet_42
      · have hf := sp_hf hf hc
        exact hj7 _ _ _ _ _ _ _ hf hW (lv_sub hl [0] rfl)
  · have hf := sp_ht hf hc
    refine lv_aload_n hx hb dX9_sheet_7 rfl (lv_at hl 0 rfl) ?_
    refine lv_iconst (v := (-1)) hx hb dX9_sheet_8 (by decide) ?_
    obtain ⟨⟨r17, c18⟩, hc18, hf⟩ := sp_hc hf
    refine sp_callViP (rest := []) S hK hG hA hW (c_X9_unfaulted a n_pr sA n_rd n_sz n_or n_st n_tb pn od fa tr (-1 : Int32) hc18) (by decide) (cwV 1 S.2.2.2.2 gX9_sheet_X9_unfaulted rfl rfl rfl (by decide +kernel) (by decide)) 7 0 rfl rfl (sp_pq [sw_X a n_pr sA n_rd n_sz n_or n_st n_tb q5 pn od fa tr, sw_XS sA q5 sa, sw_S uK q5 ceK laK lnK] [0, 1, 2] [0] [1, 2] (by decide)) rfl (WS' := sw_X a n_pr sA n_rd n_sz n_or n_st n_tb q5 pn od c18 tr ++ (sw_XS sA q5 sa ++ (sw_S uK q5 ceK laK lnK))) (sp_pq' [sw_X a n_pr sA n_rd n_sz n_or n_st n_tb q5 pn od c18 tr, sw_XS sA q5 sa, sw_S uK q5 ceK laK lnK] [0, 1, 2] [0] [1, 2] (by decide)) rfl hl.1 (Nat.le_of_ble_eq_true rfl) dX9_sheet_9 ⟨Nat.zero_le _, Nat.zero_le _⟩ rfl (fun H locs hW => ?_)
    have q0 := Option.some.inj hf
    obtain ⟨q1, z1⟩ := Prod.mk.inj q0
    obtain ⟨q2, z2⟩ := Prod.mk.inj z1
    obtain ⟨q3, z3⟩ := Prod.mk.inj z2
    obtain ⟨q4, z4⟩ := Prod.mk.inj z3
    subst q1
    subst q2
    subst q3
    subst q4
    subst z4
    exact sp_iret S hr hlk hW hQ dX9_sheet_12

def f_X9_lose (p1 : Int32) (laK : Int32) : Option (Int32 × Int32) := Option.bind (f_X9_isSheet p1) (fun r1 => if r1 = 0 then (some ((-1 : Int32), laK)) else (sp_ck 4 p1 (Option.bind (f_X4_isNothing laK) (fun r2 => if r2 = 0 then (sp_ck 4 p1 (some ((1 : Int32), (-1 : Int32)))) else (some ((0 : Int32), laK))))))
def rmX9_lose : Room := { frames := 1, cells := 0, slots := 0, locals := 20 }
set_option maxRecDepth 4000 in
theorem c_X9_lose {l : Launch} {D : va_G} {q5 : Nat → ClassId} (a : Nat → Nat) (sA : Nat) (uK : Nat → Nat) (n_pr : Nat) (n_rd : Nat) (n_sz : Nat) (n_or : Nat) (n_st : Nat) (n_tb : Nat) (pn : Int32) (od : Int32) (fa : Int32) (tr : Int32) (sa : Nat → Option Nat) (ceK : Nat → Int32) (laK : Int32) (lnK : Int32) (p1 : Int32) (hR_K : vp_in p1 4 → sa p1.toNatClampNeg = some (uK 0)) {r' : Int32} {laK' : Int32} (hf : f_X9_lose p1 laK = some (r', laK')) : sp_Ci l yX9_lose wsX9_lose rmX9_lose D q5 0 [.ref (a 0), .int p1] (sw_X a n_pr sA n_rd n_sz n_or n_st n_tb q5 pn od fa tr ++ (sw_XS sA q5 sa ++ (sw_S uK q5 ceK laK lnK))) r' (sw_X a n_pr sA n_rd n_sz n_or n_st n_tb q5 pn od fa tr ++ (sw_XS sA q5 sa ++ (sw_S uK q5 ceK laK' lnK))) := by
  intro sz
  refine sp_of (cc := cX9_lose) (maxL := 2) (ret := some .int) (own := RX9) (Qc := sp_Qi D r' (sw_X a n_pr sA n_rd n_sz n_or n_st n_tb q5 pn od fa tr ++ (sw_XS sA q5 sa ++ (sw_S uK q5 ceK laK' lnK)))) (by decide) rfl rfl (Nat.le_of_ble_eq_true rfl) ?_
  intro p e s m args below meth c A ls Q hQ S hr hlk hK hG hA hW hl
  have hx := S.1
  have hb := S.2.1
  unfold f_X9_lose at hf
  have inX4 : ∀ w ∈ u_ws RX4 TX4 3, w ∈ wsX9_lose := (fun _ h => List.mem_cons_of_mem _ (List.mem_append_right _ h))
  have inX9 : ∀ w ∈ u_ws RX9 TX9 11, w ∈ wsX9_lose := (fun _ h => List.mem_cons_of_mem _ (List.mem_append_left _ (List.mem_append_right _ h)))
  have lk1 := S.2.2.2.2 (Cond.fieldLink RX9 20 "ShortProofs" "sheets" "[LShortProofs$Sheet;") (List.mem_of_getElem? (i := 1) rfl)
  have lk2 := S.2.2.2.2 (Cond.fieldLink RX9 261 "ShortProofs$Sheet" "lane" "I") (List.mem_of_getElem? (i := 2) rfl)
  refine lv_iload_n hx hb dX9_lose_0 rfl (lv_at hl 1 rfl) ?_
  obtain ⟨r1, hc1, hf⟩ := sp_hc hf
  refine sp_callSi (rest := []) S hK hG hA hW (c_X9_isSheet p1 hc1) (by decide) (va_cwS 1 S.2.2.2.2 gX9_lose_X9_isSheet rfl rfl rfl (by decide +kernel) (by decide)) (isC := []) rfl rfl rfl (WS' := sw_X a n_pr sA n_rd n_sz n_or n_st n_tb q5 pn od fa tr ++ (sw_XS sA q5 sa ++ (sw_S uK q5 ceK laK lnK))) rfl rfl hl.1 (Nat.le_of_ble_eq_true rfl) dX9_lose_1 ⟨Nat.zero_le _, Nat.zero_le _⟩ rfl (fun H locs hW => ?_)
  refine lv_if_ne (tgt := 9) hx hb dX9_lose_4 (by decide) (fun hc => ?_) (fun hc => ?_)
  · have hf := sp_hf hf hc
    refine lv_aload_n hx hb dX9_lose_9 rfl (lv_at hl 0 rfl) ?_
    refine sp_get S hK hW inX9 0 rfl rfl 1 (by decide) lk1 rfl dX9_lose_10 ?_
    refine lv_iload_n hx hb dX9_lose_13 rfl (lv_at hl 1 rfl) ?_
    obtain ⟨hin, hf⟩ := sp_hck2 hf
    refine sp_aldq S hK hW 1 4 rfl rfl hin (hR_K hin) dX9_lose_14 ?_
    obtain ⟨r2, hc2, hf⟩ := sp_hc hf
    refine sp_callViP (rest := []) S hK hG hA hW (c_X4_isNothing uK ceK laK lnK hc2) (by decide) (cwV 0 S.2.2.2.2 gX9_lose_X4_isNothing rfl rfl rfl (by decide +kernel) (by decide)) 3 2 rfl rfl (sp_pq [sw_X a n_pr sA n_rd n_sz n_or n_st n_tb q5 pn od fa tr, sw_XS sA q5 sa, sw_S uK q5 ceK laK lnK] [0, 1, 2] [2] [0, 1] (by decide)) rfl (WS' := sw_X a n_pr sA n_rd n_sz n_or n_st n_tb q5 pn od fa tr ++ (sw_XS sA q5 sa ++ (sw_S uK q5 ceK laK lnK))) (sp_pq' [sw_X a n_pr sA n_rd n_sz n_or n_st n_tb q5 pn od fa tr, sw_XS sA q5 sa, sw_S uK q5 ceK laK lnK] [0, 1, 2] [2] [0, 1] (by decide)) rfl hl.1 (Nat.le_of_ble_eq_true rfl) dX9_lose_15 ⟨Nat.zero_le _, Nat.zero_le _⟩ rfl (fun H locs hW => ?_)
    refine lv_if_eq (tgt := 23) hx hb dX9_lose_18 (by decide) (fun hc => ?_) (fun hc => ?_)
    · have hf := sp_ht hf hc
      refine lv_aload_n hx hb dX9_lose_23 rfl (lv_at hl 0 rfl) ?_
      refine sp_get S hK hW inX9 0 rfl rfl 1 (by decide) lk1 rfl dX9_lose_24 ?_
      refine lv_iload_n hx hb dX9_lose_27 rfl (lv_at hl 1 rfl) ?_
      obtain ⟨hin, hf⟩ := sp_hck2 hf
      refine sp_aldq S hK hW 1 4 rfl rfl hin (hR_K hin) dX9_lose_28 ?_
      refine lv_iconst (v := (-1)) hx hb dX9_lose_29 (by decide) ?_
      refine sp_put S hK hW inX4 tyX4_ok nmX4 2 rfl rfl 1 (by decide) lk2 rfl rfl rfl (Nat.le_of_ble_eq_true rfl) (ws' := sw_X a n_pr sA n_rd n_sz n_or n_st n_tb q5 pn od fa tr ++ (sw_XS sA q5 sa ++ (sw_S uK q5 ceK (-1 : Int32) lnK))) rfl dX9_lose_30 (fun H locs hW => ?_)
      refine lv_iconst (v := 1) hx hb dX9_lose_33 (by decide) ?_
      have q0 := Option.some.inj hf
      obtain ⟨q1, z1⟩ := Prod.mk.inj q0
      subst q1
      subst z1
      exact sp_iret S hr hlk hW hQ dX9_lose_34
    · have hf := sp_hf hf hc
      refine lv_iconst (v := 0) hx hb dX9_lose_21 (by decide) ?_
      have q0 := Option.some.inj hf
      obtain ⟨q1, z1⟩ := Prod.mk.inj q0
      subst q1
      subst z1
      exact sp_iret S hr hlk hW hQ dX9_lose_22
  · have hf := sp_ht hf hc
    refine lv_iconst (v := (-1)) hx hb dX9_lose_7 (by decide) ?_
    have q0 := Option.some.inj hf
    obtain ⟨q1, z1⟩ := Prod.mk.inj q0
    subst q1
    subst z1
    exact sp_iret S hr hlk hW hQ dX9_lose_8

def f_X9_put (p1 : Int32) (p2 : Int32) (p3 : Int32) (ceK : Nat → Int32) (laK : Int32) (lnK : Int32) : Option (Int32 × Int32 × (Nat → Int32)) := Option.bind (f_X9_isSheet p1) (fun r1 => if r1 = 0 then (Option.bind (f_X9_unfaulted (-1 : Int32)) (fun q9 => match q9 with | (r11, c12) => some (r11, c12, ceK))) else (sp_ck 4 p1 (Option.bind (f_X4_isNothing laK) (fun r2 => if r2 = 0 then (Option.bind (f_X4_hasCell p2 lnK) (fun r3 => if r3 = 0 then (Option.bind (f_X9_faulted (3 : Int32)) (fun q9 => match q9 with | (r7, c8) => some (r7, c8, ceK))) else (Option.bind (f_X4_write p2 p3 ceK laK) (fun c4 => Option.bind (f_X9_unfaulted (1 : Int32)) (fun q9 => match q9 with | (r5, c6) => some (r5, c6, c4)))))) else (Option.bind (f_X9_faulted (1 : Int32)) (fun q9 => match q9 with | (r9, c10) => some (r9, c10, ceK)))))))
def rmX9_put : Room := { frames := 1, cells := 0, slots := 0, locals := 22 }
set_option maxRecDepth 4000 in
theorem c_X9_put {l : Launch} {D : va_G} {q5 : Nat → ClassId} (a : Nat → Nat) (sA : Nat) (uK : Nat → Nat) (n_pr : Nat) (n_rd : Nat) (n_sz : Nat) (n_or : Nat) (n_st : Nat) (n_tb : Nat) (pn : Int32) (od : Int32) (fa : Int32) (tr : Int32) (sa : Nat → Option Nat) (ceK : Nat → Int32) (laK : Int32) (lnK : Int32) (p1 : Int32) (p2 : Int32) (p3 : Int32) (hR_K : vp_in p1 4 → sa p1.toNatClampNeg = some (uK 0)) {r' : Int32} {fa' : Int32} {ceK' : Nat → Int32} (hf : f_X9_put p1 p2 p3 ceK laK lnK = some (r', fa', ceK')) : sp_Ci l yX9_put wsX9_put rmX9_put D q5 0 [.ref (a 0), .int p1, .int p2, .int p3] (sw_X a n_pr sA n_rd n_sz n_or n_st n_tb q5 pn od fa tr ++ (sw_XS sA q5 sa ++ (sw_S uK q5 ceK laK lnK))) r' (sw_X a n_pr sA n_rd n_sz n_or n_st n_tb q5 pn od fa' tr ++ (sw_XS sA q5 sa ++ (sw_S uK q5 ceK' laK lnK))) := by
  intro sz
  refine sp_of (cc := cX9_put) (maxL := 5) (ret := some .int) (own := RX9) (Qc := sp_Qi D r' (sw_X a n_pr sA n_rd n_sz n_or n_st n_tb q5 pn od fa' tr ++ (sw_XS sA q5 sa ++ (sw_S uK q5 ceK' laK lnK)))) (by decide) rfl rfl (Nat.le_of_ble_eq_true rfl) ?_
  intro p e s m args below meth c A ls Q hQ S hr hlk hK hG hA hW hl
  have hx := S.1
  have hb := S.2.1
  unfold f_X9_put at hf
  have inX9 : ∀ w ∈ u_ws RX9 TX9 11, w ∈ wsX9_put := (fun _ h => List.mem_cons_of_mem _ (List.mem_append_left _ (List.mem_append_right _ h)))
  have lk1 := S.2.2.2.2 (Cond.fieldLink RX9 20 "ShortProofs" "sheets" "[LShortProofs$Sheet;") (List.mem_of_getElem? (i := 1) rfl)
  refine lv_iload_n hx hb dX9_put_0 rfl (lv_at hl 1 rfl) ?_
  obtain ⟨r1, hc1, hf⟩ := sp_hc hf
  refine sp_callSi (rest := []) S hK hG hA hW (c_X9_isSheet p1 hc1) (by decide) (va_cwS 1 S.2.2.2.2 gX9_put_X9_isSheet rfl rfl rfl (by decide +kernel) (by decide)) (isC := []) rfl rfl rfl (WS' := sw_X a n_pr sA n_rd n_sz n_or n_st n_tb q5 pn od fa tr ++ (sw_XS sA q5 sa ++ (sw_S uK q5 ceK laK lnK))) rfl rfl hl.1 (Nat.le_of_ble_eq_true rfl) dX9_put_1 ⟨Nat.zero_le _, Nat.zero_le _⟩ rfl (fun H locs hW => ?_)
  refine lv_if_ne (tgt := 13) hx hb dX9_put_4 (by decide) (fun hc => ?_) (fun hc => ?_)
  · have hf := sp_hf hf hc
    refine lv_aload_n hx hb dX9_put_13 rfl (lv_at hl 0 rfl) ?_
    refine sp_get S hK hW inX9 0 rfl rfl 1 (by decide) lk1 rfl dX9_put_14 ?_
    refine lv_iload_n hx hb dX9_put_17 rfl (lv_at hl 1 rfl) ?_
    obtain ⟨hin, hf⟩ := sp_hck2 hf
    refine sp_aldq S hK hW 1 4 rfl rfl hin (hR_K hin) dX9_put_18 ?_
    refine lv_astore (lv' := [(4, .ref (uK 0)), (0, .ref (a 0)), (1, .int p1), (2, .int p2), (3, .int p3)]) hx hb dX9_put_19 hl (by decide) rfl (fun ls hl => ?_)
    refine lv_aload hx hb dX9_put_21 (lv_at hl 0 rfl) ?_
    obtain ⟨r2, hc2, hf⟩ := sp_hc hf
    refine sp_callViP (rest := []) S hK hG hA hW (c_X4_isNothing uK ceK laK lnK hc2) (by decide) (cwV 0 S.2.2.2.2 gX9_put_X4_isNothing rfl rfl rfl (by decide +kernel) (by decide)) 3 2 rfl rfl (sp_pq [sw_X a n_pr sA n_rd n_sz n_or n_st n_tb q5 pn od fa tr, sw_XS sA q5 sa, sw_S uK q5 ceK laK lnK] [0, 1, 2] [2] [0, 1] (by decide)) rfl (WS' := sw_X a n_pr sA n_rd n_sz n_or n_st n_tb q5 pn od fa tr ++ (sw_XS sA q5 sa ++ (sw_S uK q5 ceK laK lnK))) (sp_pq' [sw_X a n_pr sA n_rd n_sz n_or n_st n_tb q5 pn od fa tr, sw_XS sA q5 sa, sw_S uK q5 ceK laK lnK] [0, 1, 2] [2] [0, 1] (by decide)) rfl hl.1 (Nat.le_of_ble_eq_true rfl) dX9_put_23 ⟨Nat.zero_le _, Nat.zero_le _⟩ rfl (fun H locs hW => ?_)
    refine lv_if_eq (tgt := 35) hx hb dX9_put_26 (by decide) (fun hc => ?_) (fun hc => ?_)
    · have hf := sp_ht hf hc
      refine lv_aload hx hb dX9_put_35 (lv_at hl 0 rfl) ?_
      refine lv_iload_n hx hb dX9_put_37 rfl (lv_at hl 3 rfl) ?_
      obtain ⟨r3, hc3, hf⟩ := sp_hc hf
      refine sp_callViP (rest := []) S hK hG hA hW (c_X4_hasCell uK ceK laK lnK p2 hc3) (by decide) (cwV 1 S.2.2.2.2 gX9_put_X4_hasCell rfl rfl rfl (by decide +kernel) (by decide)) 3 2 rfl rfl (sp_pq [sw_X a n_pr sA n_rd n_sz n_or n_st n_tb q5 pn od fa tr, sw_XS sA q5 sa, sw_S uK q5 ceK laK lnK] [0, 1, 2] [2] [0, 1] (by decide)) rfl (WS' := sw_X a n_pr sA n_rd n_sz n_or n_st n_tb q5 pn od fa tr ++ (sw_XS sA q5 sa ++ (sw_S uK q5 ceK laK lnK))) (sp_pq' [sw_X a n_pr sA n_rd n_sz n_or n_st n_tb q5 pn od fa tr, sw_XS sA q5 sa, sw_S uK q5 ceK laK lnK] [0, 1, 2] [2] [0, 1] (by decide)) rfl hl.1 (Nat.le_of_ble_eq_true rfl) dX9_put_38 ⟨Nat.zero_le _, Nat.zero_le _⟩ rfl (fun H locs hW => ?_)
      refine lv_if_ne (tgt := 50) hx hb dX9_put_41 (by decide) (fun hc => ?_) (fun hc => ?_)
      · have hf := sp_hf hf hc
        refine lv_aload hx hb dX9_put_50 (lv_at hl 0 rfl) ?_
        refine lv_iload_n hx hb dX9_put_52 rfl (lv_at hl 3 rfl) ?_
        refine lv_iload_n hx hb dX9_put_53 rfl (lv_at hl 4 rfl) ?_
        obtain ⟨c4, hc4, hf⟩ := sp_hc hf
        refine sp_callVvP (rest := []) S hK hG hA hW (c_X4_write uK ceK laK lnK p2 p3 hc4) (by decide) (cwV 2 S.2.2.2.2 gX9_put_X4_write rfl rfl rfl (by decide +kernel) (by decide)) 3 2 rfl rfl (sp_pq [sw_X a n_pr sA n_rd n_sz n_or n_st n_tb q5 pn od fa tr, sw_XS sA q5 sa, sw_S uK q5 ceK laK lnK] [0, 1, 2] [2] [0, 1] (by decide)) rfl (WS' := sw_X a n_pr sA n_rd n_sz n_or n_st n_tb q5 pn od fa tr ++ (sw_XS sA q5 sa ++ (sw_S uK q5 c4 laK lnK))) (sp_pq' [sw_X a n_pr sA n_rd n_sz n_or n_st n_tb q5 pn od fa tr, sw_XS sA q5 sa, sw_S uK q5 c4 laK lnK] [0, 1, 2] [2] [0, 1] (by decide)) rfl hl.1 (Nat.le_of_ble_eq_true rfl) dX9_put_54 ⟨Nat.zero_le _, Nat.zero_le _⟩ rfl (fun H locs hW => ?_)
        refine lv_aload_n hx hb dX9_put_57 rfl (lv_at hl 1 rfl) ?_
        refine lv_iconst (v := 1) hx hb dX9_put_58 (by decide) ?_
        obtain ⟨⟨r5, c6⟩, hc6, hf⟩ := sp_hc hf
        refine sp_callViP (rest := []) S hK hG hA hW (c_X9_unfaulted a n_pr sA n_rd n_sz n_or n_st n_tb pn od fa tr (1 : Int32) hc6) (by decide) (cwV 1 S.2.2.2.2 gX9_put_X9_unfaulted rfl rfl rfl (by decide +kernel) (by decide)) 7 0 rfl rfl (sp_pq [sw_X a n_pr sA n_rd n_sz n_or n_st n_tb q5 pn od fa tr, sw_XS sA q5 sa, sw_S uK q5 c4 laK lnK] [0, 1, 2] [0] [1, 2] (by decide)) rfl (WS' := sw_X a n_pr sA n_rd n_sz n_or n_st n_tb q5 pn od c6 tr ++ (sw_XS sA q5 sa ++ (sw_S uK q5 c4 laK lnK))) (sp_pq' [sw_X a n_pr sA n_rd n_sz n_or n_st n_tb q5 pn od c6 tr, sw_XS sA q5 sa, sw_S uK q5 c4 laK lnK] [0, 1, 2] [0] [1, 2] (by decide)) rfl hl.1 (Nat.le_of_ble_eq_true rfl) dX9_put_59 ⟨Nat.zero_le _, Nat.zero_le _⟩ rfl (fun H locs hW => ?_)
        have q0 := Option.some.inj hf
        obtain ⟨q1, z1⟩ := Prod.mk.inj q0
        obtain ⟨q2, z2⟩ := Prod.mk.inj z1
        subst q1
        subst q2
        subst z2
        exact sp_iret S hr hlk hW hQ dX9_put_62
      · have hf := sp_ht hf hc
        refine lv_aload_n hx hb dX9_put_44 rfl (lv_at hl 1 rfl) ?_
        refine lv_iconst (v := 3) hx hb dX9_put_45 (by decide) ?_
        obtain ⟨⟨r7, c8⟩, hc8, hf⟩ := sp_hc hf
        refine sp_callViP (rest := []) S hK hG hA hW (c_X9_faulted a n_pr sA n_rd n_sz n_or n_st n_tb pn od fa tr (3 : Int32) hc8) (by decide) (cwV 1 S.2.2.2.2 gX9_put_X9_faulted rfl rfl rfl (by decide +kernel) (by decide)) 7 0 rfl rfl (sp_pq [sw_X a n_pr sA n_rd n_sz n_or n_st n_tb q5 pn od fa tr, sw_XS sA q5 sa, sw_S uK q5 ceK laK lnK] [0, 1, 2] [0] [1, 2] (by decide)) rfl (WS' := sw_X a n_pr sA n_rd n_sz n_or n_st n_tb q5 pn od c8 tr ++ (sw_XS sA q5 sa ++ (sw_S uK q5 ceK laK lnK))) (sp_pq' [sw_X a n_pr sA n_rd n_sz n_or n_st n_tb q5 pn od c8 tr, sw_XS sA q5 sa, sw_S uK q5 ceK laK lnK] [0, 1, 2] [0] [1, 2] (by decide)) rfl hl.1 (Nat.le_of_ble_eq_true rfl) dX9_put_46 ⟨Nat.zero_le _, Nat.zero_le _⟩ rfl (fun H locs hW => ?_)
        have q0 := Option.some.inj hf
        obtain ⟨q1, z1⟩ := Prod.mk.inj q0
        obtain ⟨q2, z2⟩ := Prod.mk.inj z1
        subst q1
        subst q2
        subst z2
        exact sp_iret S hr hlk hW hQ dX9_put_49
    · have hf := sp_hf hf hc
      refine lv_aload_n hx hb dX9_put_29 rfl (lv_at hl 1 rfl) ?_
      refine lv_iconst (v := 1) hx hb dX9_put_30 (by decide) ?_
      obtain ⟨⟨r9, c10⟩, hc10, hf⟩ := sp_hc hf
      refine sp_callViP (rest := []) S hK hG hA hW (c_X9_faulted a n_pr sA n_rd n_sz n_or n_st n_tb pn od fa tr (1 : Int32) hc10) (by decide) (cwV 1 S.2.2.2.2 gX9_put_X9_faulted rfl rfl rfl (by decide +kernel) (by decide)) 7 0 rfl rfl (sp_pq [sw_X a n_pr sA n_rd n_sz n_or n_st n_tb q5 pn od fa tr, sw_XS sA q5 sa, sw_S uK q5 ceK laK lnK] [0, 1, 2] [0] [1, 2] (by decide)) rfl (WS' := sw_X a n_pr sA n_rd n_sz n_or n_st n_tb q5 pn od c10 tr ++ (sw_XS sA q5 sa ++ (sw_S uK q5 ceK laK lnK))) (sp_pq' [sw_X a n_pr sA n_rd n_sz n_or n_st n_tb q5 pn od c10 tr, sw_XS sA q5 sa, sw_S uK q5 ceK laK lnK] [0, 1, 2] [0] [1, 2] (by decide)) rfl hl.1 (Nat.le_of_ble_eq_true rfl) dX9_put_31 ⟨Nat.zero_le _, Nat.zero_le _⟩ rfl (fun H locs hW => ?_)
      have q0 := Option.some.inj hf
      obtain ⟨q1, z1⟩ := Prod.mk.inj q0
      obtain ⟨q2, z2⟩ := Prod.mk.inj z1
      subst q1
      subst q2
      subst z2
      exact sp_iret S hr hlk hW hQ dX9_put_34
  · have hf := sp_ht hf hc
    refine lv_aload_n hx hb dX9_put_7 rfl (lv_at hl 0 rfl) ?_
    refine lv_iconst (v := (-1)) hx hb dX9_put_8 (by decide) ?_
    obtain ⟨⟨r11, c12⟩, hc12, hf⟩ := sp_hc hf
    refine sp_callViP (rest := []) S hK hG hA hW (c_X9_unfaulted a n_pr sA n_rd n_sz n_or n_st n_tb pn od fa tr (-1 : Int32) hc12) (by decide) (cwV 1 S.2.2.2.2 gX9_put_X9_unfaulted rfl rfl rfl (by decide +kernel) (by decide)) 7 0 rfl rfl (sp_pq [sw_X a n_pr sA n_rd n_sz n_or n_st n_tb q5 pn od fa tr, sw_XS sA q5 sa, sw_S uK q5 ceK laK lnK] [0, 1, 2] [0] [1, 2] (by decide)) rfl (WS' := sw_X a n_pr sA n_rd n_sz n_or n_st n_tb q5 pn od c12 tr ++ (sw_XS sA q5 sa ++ (sw_S uK q5 ceK laK lnK))) (sp_pq' [sw_X a n_pr sA n_rd n_sz n_or n_st n_tb q5 pn od c12 tr, sw_XS sA q5 sa, sw_S uK q5 ceK laK lnK] [0, 1, 2] [0] [1, 2] (by decide)) rfl hl.1 (Nat.le_of_ble_eq_true rfl) dX9_put_9 ⟨Nat.zero_le _, Nat.zero_le _⟩ rfl (fun H locs hW => ?_)
    have q0 := Option.some.inj hf
    obtain ⟨q1, z1⟩ := Prod.mk.inj q0
    obtain ⟨q2, z2⟩ := Prod.mk.inj z1
    subst q1
    subst q2
    subst z2
    exact sp_iret S hr hlk hW hQ dX9_put_12

def f_X9_cell (p1 : Int32) (p2 : Int32) (p3 : Int32) (fa : Int32) (ceK : Nat → Int32) (laK : Int32) (lnK : Int32) : Option (Int64 × Int32) := Option.bind (f_X9_isSheet p1) (fun r1 => sp_bnd (fun (c2 : Int32) => some ((-9223372036854775808 : Int64), (0 : Int32))) (fun k3 => if r1 = 0 then (k3 fa) else (Option.bind (f_X9_isLane p3) (fun r4 => if r4 = 0 then (k3 fa) else (sp_ck 4 p1 (Option.bind (f_X4_faultAs p3 laK) (fun r5 => sp_bnd (fun (x6 : Int32) => if x6 = 0 then (sp_ld ceK 60 p2 (fun v8 => some ((v8.toInt64), x6))) else (some ((-9223372036854775808 : Int64), x6))) (fun k7 => if r5 = 0 then (Option.bind (f_X4_hasCell p2 lnK) (fun r9 => if r9 = 0 then (k7 (3 : Int32)) else (k7 r5))) else (k7 r5)))))))))
def rmX9_cell : Room := { frames := 2, cells := 0, slots := 0, locals := 41 }
set_option maxRecDepth 4000 in
theorem c_X9_cell {l : Launch} {D : va_G} {q5 : Nat → ClassId} (a : Nat → Nat) (sA : Nat) (uK : Nat → Nat) (n_pr : Nat) (n_rd : Nat) (n_sz : Nat) (n_or : Nat) (n_st : Nat) (n_tb : Nat) (pn : Int32) (od : Int32) (fa : Int32) (tr : Int32) (sa : Nat → Option Nat) (ceK : Nat → Int32) (laK : Int32) (lnK : Int32) (p1 : Int32) (p2 : Int32) (p3 : Int32) (hR_K : vp_in p1 4 → sa p1.toNatClampNeg = some (uK 0)) {r' : Int64} {fa' : Int32} (hf : f_X9_cell p1 p2 p3 fa ceK laK lnK = some (r', fa')) : sp_Cl l yX9_cell wsX9_cell rmX9_cell D q5 0 [.ref (a 0), .int p1, .int p2, .int p3] (sw_X a n_pr sA n_rd n_sz n_or n_st n_tb q5 pn od fa tr ++ (sw_XS sA q5 sa ++ (sw_S uK q5 ceK laK lnK))) r' (sw_X a n_pr sA n_rd n_sz n_or n_st n_tb q5 pn od fa' tr ++ (sw_XS sA q5 sa ++ (sw_S uK q5 ceK laK lnK))) := by
  intro sz
  refine sp_of (cc := cX9_cell) (maxL := 6) (ret := some .long) (own := RX9) (Qc := sp_Ql D r' (sw_X a n_pr sA n_rd n_sz n_or n_st n_tb q5 pn od fa' tr ++ (sw_XS sA q5 sa ++ (sw_S uK q5 ceK laK lnK)))) (by decide) rfl rfl (Nat.le_of_ble_eq_true rfl) ?_
  intro p e s m args below meth c A ls Q hQ S hr hlk hK hG hA hW hl
  have hx := S.1
  have hb := S.2.1
  unfold f_X9_cell at hf
  have inX4 : ∀ w ∈ u_ws RX4 TX4 3, w ∈ wsX9_cell := (fun _ h => List.mem_cons_of_mem _ (List.mem_append_right _ h))
  have inX9 : ∀ w ∈ u_ws RX9 TX9 11, w ∈ wsX9_cell := (fun _ h => List.mem_cons_of_mem _ (List.mem_append_left _ (List.mem_append_right _ h)))
  have lk1 := S.2.2.2.2 (Cond.fieldLink RX9 270 "ShortProofs" "latestFault" "I") (List.mem_of_getElem? (i := 1) rfl)
  have lk2 := S.2.2.2.2 (Cond.constantLong RX9 212 (-9223372036854775808)) (List.mem_of_getElem? (i := 2) rfl)
  have lk3 := S.2.2.2.2 (Cond.fieldLink RX9 20 "ShortProofs" "sheets" "[LShortProofs$Sheet;") (List.mem_of_getElem? (i := 3) rfl)
  have lk4 := S.2.2.2.2 (Cond.fieldLink RX9 273 "ShortProofs$Sheet" "cells" "[I") (List.mem_of_getElem? (i := 4) rfl)
  refine lv_iload_n hx hb dX9_cell_0 rfl (lv_at hl 1 rfl) ?_
  obtain ⟨r1, hc1, hf⟩ := sp_hc hf
  refine sp_callSi (rest := []) S hK hG hA hW (c_X9_isSheet p1 hc1) (by decide) (va_cwS 1 S.2.2.2.2 gX9_cell_X9_isSheet rfl rfl rfl (by decide +kernel) (by decide)) (isC := []) rfl rfl rfl (WS' := sw_X a n_pr sA n_rd n_sz n_or n_st n_tb q5 pn od fa tr ++ (sw_XS sA q5 sa ++ (sw_S uK q5 ceK laK lnK))) rfl rfl hl.1 (Nat.le_of_ble_eq_true rfl) dX9_cell_1 ⟨Nat.zero_le _, Nat.zero_le _⟩ rfl (fun H locs hW => ?_)
  obtain ⟨k3, ek3, hf⟩ := sp_hb hf
  have hj3 : ∀ (c2 : Int32) (H : Heap) (locs : List Loc) (ls : Array Slot), k3 c2 = some (r', fa') → sp_wd D A s.heap (sw_X a n_pr sA n_rd n_sz n_or n_st n_tb q5 pn od c2 tr ++ (sw_XS sA q5 sa ++ (sw_S uK q5 ceK laK lnK))) H locs → lv_has ls 6 [(0, .ref (a 0))] → W p l e rmX9_cell s m args below meth c H locs 0 0 Q (F0 m 14 ls []) := by
    intro c2 H locs ls hf hW hl
    rw [ek3] at hf
    refine lv_aload_n hx hb dX9_cell_14 rfl (lv_at hl 0 rfl) ?_
    refine lv_iconst (v := 0) hx hb dX9_cell_15 (by decide) ?_
    refine sp_put S hK hW inX9 tyX9_ok nmX9 0 rfl rfl 9 (by decide) lk1 rfl rfl rfl (Nat.le_of_ble_eq_true rfl) (ws' := sw_X a n_pr sA n_rd n_sz n_or n_st n_tb q5 pn od (0 : Int32) tr ++ (sw_XS sA q5 sa ++ (sw_S uK q5 ceK laK lnK))) rfl dX9_cell_16 (fun H locs hW => ?_)
    refine lv_ldc2 hx hb S.2.2.2.1 lk2 dX9_cell_19 ?_
    have q0 := Option.some.inj hf
    obtain ⟨q1, z1⟩ := Prod.mk.inj q0
    subst q1
    subst z1
    exact sp_lret S hr hlk hW hQ dX9_cell_22
  refine lv_if_eq (tgt := 14) hx hb dX9_cell_4 (by decide) (fun hc => ?_) (fun hc => ?_)
  · have hf := sp_ht hf hc
    exact hj3 _ _ _ _ hf hW (lv_sub hl [0] rfl)
  · have hf := sp_hf hf hc
    refine lv_iload_n hx hb dX9_cell_7 rfl (lv_at hl 3 rfl) ?_
    obtain ⟨r4, hc4, hf⟩ := sp_hc hf
    refine sp_callSi (rest := []) S hK hG hA hW (c_X9_isLane p3 hc4) (by decide) (va_cwS 1 S.2.2.2.2 gX9_cell_X9_isLane rfl rfl rfl (by decide +kernel) (by decide)) (isC := []) rfl rfl rfl (WS' := sw_X a n_pr sA n_rd n_sz n_or n_st n_tb q5 pn od fa tr ++ (sw_XS sA q5 sa ++ (sw_S uK q5 ceK laK lnK))) rfl rfl hl.1 (Nat.le_of_ble_eq_true rfl) dX9_cell_8 ⟨Nat.zero_le _, Nat.zero_le _⟩ rfl (fun H locs hW => ?_)
    refine lv_if_ne (tgt := 23) hx hb dX9_cell_11 (by decide) (fun hc => ?_) (fun hc => ?_)
    · have hf := sp_hf hf hc
      refine lv_aload_n hx hb dX9_cell_23 rfl (lv_at hl 0 rfl) ?_
      refine sp_get S hK hW inX9 0 rfl rfl 1 (by decide) lk3 rfl dX9_cell_24 ?_
      refine lv_iload_n hx hb dX9_cell_27 rfl (lv_at hl 1 rfl) ?_
      obtain ⟨hin, hf⟩ := sp_hck2 hf
      refine sp_aldq S hK hW 1 4 rfl rfl hin (hR_K hin) dX9_cell_28 ?_
      refine lv_astore (lv' := [(4, .ref (uK 0)), (0, .ref (a 0)), (1, .int p1), (2, .int p2), (3, .int p3)]) hx hb dX9_cell_29 hl (by decide) rfl (fun ls hl => ?_)
      refine lv_aload hx hb dX9_cell_31 (lv_at hl 0 rfl) ?_
      refine lv_iload_n hx hb dX9_cell_33 rfl (lv_at hl 4 rfl) ?_
      obtain ⟨r5, hc5, hf⟩ := sp_hc hf
      refine sp_callViP (rest := []) S hK hG hA hW (c_X4_faultAs uK ceK laK lnK p3 hc5) (by decide) (cwV 1 S.2.2.2.2 gX9_cell_X4_faultAs rfl rfl rfl (by decide +kernel) (by decide)) 3 2 rfl rfl (sp_pq [sw_X a n_pr sA n_rd n_sz n_or n_st n_tb q5 pn od fa tr, sw_XS sA q5 sa, sw_S uK q5 ceK laK lnK] [0, 1, 2] [2] [0, 1] (by decide)) rfl (WS' := sw_X a n_pr sA n_rd n_sz n_or n_st n_tb q5 pn od fa tr ++ (sw_XS sA q5 sa ++ (sw_S uK q5 ceK laK lnK))) (sp_pq' [sw_X a n_pr sA n_rd n_sz n_or n_st n_tb q5 pn od fa tr, sw_XS sA q5 sa, sw_S uK q5 ceK laK lnK] [0, 1, 2] [2] [0, 1] (by decide)) rfl hl.1 (Nat.le_of_ble_eq_true rfl) dX9_cell_34 ⟨Nat.zero_le _, Nat.zero_le _⟩ rfl (fun H locs hW => ?_)
      refine lv_istore (lv' := [(5, .int r5), (4, .ref (uK 0)), (0, .ref (a 0)), (1, .int p1), (2, .int p2), (3, .int p3)]) hx hb dX9_cell_37 hl (by decide) rfl (fun ls hl => ?_)
      refine lv_iload hx hb dX9_cell_39 (lv_at hl 0 rfl) ?_
      obtain ⟨k7, ek7, hf⟩ := sp_hb hf
      have hj7 : ∀ (x6 : Int32) (H : Heap) (locs : List Loc) (ls : Array Slot), k7 x6 = some (r', fa') → sp_wd D A s.heap (sw_X a n_pr sA n_rd n_sz n_or n_st n_tb q5 pn od fa tr ++ (sw_XS sA q5 sa ++ (sw_S uK q5 ceK laK lnK))) H locs → lv_has ls 6 [(0, .ref (a 0)), (2, .int p2), (4, .ref (uK 0)), (5, .int x6)] → W p l e rmX9_cell s m args below meth c H locs 0 0 Q (F0 m 56 ls []) := by
        intro x6 H locs ls hf hW hl
        rw [ek7] at hf
        refine lv_aload_n hx hb dX9_cell_56 rfl (lv_at hl 0 rfl) ?_
        refine lv_iload hx hb dX9_cell_57 (lv_at hl 3 rfl) ?_
        refine sp_put S hK hW inX9 tyX9_ok nmX9 0 rfl rfl 9 (by decide) lk1 rfl rfl rfl (Nat.le_of_ble_eq_true rfl) (ws' := sw_X a n_pr sA n_rd n_sz n_or n_st n_tb q5 pn od x6 tr ++ (sw_XS sA q5 sa ++ (sw_S uK q5 ceK laK lnK))) rfl dX9_cell_59 (fun H locs hW => ?_)
        refine lv_iload hx hb dX9_cell_62 (lv_at hl 3 rfl) ?_
        refine lv_if_ne (tgt := 78) hx hb dX9_cell_64 (by decide) (fun hc => ?_) (fun hc => ?_)
        · have hf := sp_hf hf hc
          refine lv_ldc2 hx hb S.2.2.2.1 lk2 dX9_cell_78 ?_
          have q0 := Option.some.inj hf
          obtain ⟨q1, z1⟩ := Prod.mk.inj q0
          subst q1
          subst z1
          exact sp_lret S hr hlk hW hQ dX9_cell_81
        · have hf := sp_ht hf hc
          refine lv_aload hx hb dX9_cell_67 (lv_at hl 2 rfl) ?_
          refine sp_get S hK hW inX4 2 rfl rfl 0 (by decide) lk4 rfl dX9_cell_69 ?_
          refine lv_iload_n hx hb dX9_cell_72 rfl (lv_at hl 1 rfl) ?_
          obtain ⟨hin, v8, ev8, hf⟩ := sp_hld hf
          refine sp_iald S hK hW 3 rfl hin ev8 dX9_cell_73 ?_
          refine lv_i2l hx hb dX9_cell_74 rfl ?_
          refine lv_goto (tgt := 81) hx hb dX9_cell_75 (by decide) ?_
          have q0 := Option.some.inj hf
          obtain ⟨q1, z1⟩ := Prod.mk.inj q0
          subst q1
          subst z1
          exact sp_lret S hr hlk hW hQ dX9_cell_81
      refine lv_if_ne (tgt := 56) hx hb dX9_cell_41 (by decide) (fun hc => ?_) (fun hc => ?_)
      · have hf := sp_hf hf hc
        exact hj7 _ _ _ _ hf hW (lv_sub hl [2, 4, 1, 0] rfl)
      · have hf := sp_ht hf hc
        refine lv_aload hx hb dX9_cell_44 (lv_at hl 1 rfl) ?_
        refine lv_iload_n hx hb dX9_cell_46 rfl (lv_at hl 4 rfl) ?_
        obtain ⟨r9, hc9, hf⟩ := sp_hc hf
        refine sp_callViP (rest := []) S hK hG hA hW (c_X4_hasCell uK ceK laK lnK p2 hc9) (by decide) (cwV 1 S.2.2.2.2 gX9_cell_X4_hasCell rfl rfl rfl (by decide +kernel) (by decide)) 3 2 rfl rfl (sp_pq [sw_X a n_pr sA n_rd n_sz n_or n_st n_tb q5 pn od fa tr, sw_XS sA q5 sa, sw_S uK q5 ceK laK lnK] [0, 1, 2] [2] [0, 1] (by decide)) rfl (WS' := sw_X a n_pr sA n_rd n_sz n_or n_st n_tb q5 pn od fa tr ++ (sw_XS sA q5 sa ++ (sw_S uK q5 ceK laK lnK))) (sp_pq' [sw_X a n_pr sA n_rd n_sz n_or n_st n_tb q5 pn od fa tr, sw_XS sA q5 sa, sw_S uK q5 ceK laK lnK] [0, 1, 2] [2] [0, 1] (by decide)) rfl hl.1 (Nat.le_of_ble_eq_true rfl) dX9_cell_47 ⟨Nat.zero_le _, Nat.zero_le _⟩ rfl (fun H locs hW => ?_)
        refine lv_if_ne (tgt := 56) hx hb dX9_cell_50 (by decide) (fun hc => ?_) (fun hc => ?_)
        · have hf := sp_hf hf hc
          exact hj7 _ _ _ _ hf hW (lv_sub hl [2, 4, 1, 0] rfl)
        · have hf := sp_ht hf hc
          refine lv_iconst (v := 3) hx hb dX9_cell_53 (by decide) ?_
          refine lv_istore (lv' := [(5, .int (3 : Int32)), (4, .ref (uK 0)), (0, .ref (a 0)), (1, .int p1), (2, .int p2), (3, .int p3)]) hx hb dX9_cell_54 hl (by decide) rfl (fun ls hl => ?_)
          exact hj7 _ _ _ _ hf hW (lv_sub hl [2, 4, 1, 0] rfl)
    · have hf := sp_ht hf hc
      exact hj3 _ _ _ _ hf hW (lv_sub hl [0] rfl)

def f_X9_copy (p1 : Int32) (p2 : Int32) (p3 : Int32) (p4 : Int32) (p5 : Int32) (fa : Int32) (ceK : Nat → Int32) (laK : Int32) (lnK : Int32) (ceO : Nat → Int32) (laO : Int32) (lnO : Int32) : Option (Int32 × Int32 × (Nat → Int32)) := Option.bind (f_X9_isSheet p1) (fun r1 => sp_bnd (fun (c2 : Int32) (c3 : Nat → Int32) => Option.bind (f_X9_unfaulted (-1 : Int32)) (fun q9 => match q9 with | (r5, c6) => some (r5, c6, c3))) (fun k4 => if r1 = 0 then (k4 fa ceO) else (Option.bind (f_X9_isSheet p3) (fun r7 => if r7 = 0 then (k4 fa ceO) else (sp_ck 4 p1 (sp_ck 4 p3 (Option.bind (f_X4_isNothing laK) (fun r8 => sp_bnd (fun (c9 : Int32) (c10 : Nat → Int32) => Option.bind (f_X9_faulted (1 : Int32)) (fun q9 => match q9 with | (r12, c13) => some (r12, c13, c10))) (fun k11 => if r8 = 0 then (Option.bind (f_X4_isNothing laO) (fun r14 => if r14 = 0 then (if laK = laO then (Option.bind (f_X4_hasCells p2 p5 lnK) (fun r15 => sp_bnd (fun (c16 : Int32) (c17 : Nat → Int32) => Option.bind (f_X9_faulted (3 : Int32)) (fun q9 => match q9 with | (r19, c20) => some (r19, c20, c17))) (fun k18 => if r15 = 0 then (k18 fa ceO) else (Option.bind (f_X4_hasCells p4 p5 lnO) (fun r21 => if r21 = 0 then (k18 fa ceO) else (sp_cp ceK 60 ceO 60 p2 p4 p5 (fun c22 => Option.bind (f_X9_unfaulted p5) (fun q9 => match q9 with | (r23, c24) => some (r23, c24, c22))))))))) else (Option.bind (f_X9_faulted (2 : Int32)) (fun q9 => match q9 with | (r25, c26) => some (r25, c26, ceO)))) else (k11 fa ceO))) else (k11 fa ceO))))))))))
def rmX9_copy : Room := { frames := 1, cells := 0, slots := 0, locals := 60 }
set_option maxRecDepth 4000 in
theorem c_X9_copy {l : Launch} {D : va_G} {q5 : Nat → ClassId} (a : Nat → Nat) (sA : Nat) (uK : Nat → Nat) (uO : Nat → Nat) (n_pr : Nat) (n_rd : Nat) (n_sz : Nat) (n_or : Nat) (n_st : Nat) (n_tb : Nat) (pn : Int32) (od : Int32) (fa : Int32) (tr : Int32) (sa : Nat → Option Nat) (ceK : Nat → Int32) (laK : Int32) (lnK : Int32) (ceO : Nat → Int32) (laO : Int32) (lnO : Int32) (p1 : Int32) (p2 : Int32) (p3 : Int32) (p4 : Int32) (p5 : Int32) (hR_K : vp_in p1 4 → sa p1.toNatClampNeg = some (uK 0)) (hR_O : vp_in p3 4 → sa p3.toNatClampNeg = some (uO 0)) {r' : Int32} {fa' : Int32} {ceO' : Nat → Int32} (hf : f_X9_copy p1 p2 p3 p4 p5 fa ceK laK lnK ceO laO lnO = some (r', fa', ceO')) : sp_Ci l yX9_copy wsX9_copy rmX9_copy D q5 0 [.ref (a 0), .int p1, .int p2, .int p3, .int p4, .int p5] (sw_X a n_pr sA n_rd n_sz n_or n_st n_tb q5 pn od fa tr ++ (sw_XS sA q5 sa ++ (sw_S uK q5 ceK laK lnK ++ (sw_S uO q5 ceO laO lnO)))) r' (sw_X a n_pr sA n_rd n_sz n_or n_st n_tb q5 pn od fa' tr ++ (sw_XS sA q5 sa ++ (sw_S uK q5 ceK laK lnK ++ (sw_S uO q5 ceO' laO lnO)))) := by
  intro sz
  refine sp_of (cc := cX9_copy) (maxL := 8) (ret := some .int) (own := RX9) (Qc := sp_Qi D r' (sw_X a n_pr sA n_rd n_sz n_or n_st n_tb q5 pn od fa' tr ++ (sw_XS sA q5 sa ++ (sw_S uK q5 ceK laK lnK ++ (sw_S uO q5 ceO' laO lnO))))) (by decide) rfl rfl (Nat.le_of_ble_eq_true rfl) ?_
  intro p e s m args below meth c A ls Q hQ S hr hlk hK hG hA hW hl
  have hx := S.1
  have hb := S.2.1
  unfold f_X9_copy at hf
  have inX4 : ∀ w ∈ u_ws RX4 TX4 3, w ∈ wsX9_copy := (fun _ h => List.mem_cons_of_mem _ (List.mem_append_right _ h))
  have inX9 : ∀ w ∈ u_ws RX9 TX9 11, w ∈ wsX9_copy := (fun _ h => List.mem_cons_of_mem _ (List.mem_append_left _ (List.mem_append_right _ h)))
  have lk1 := S.2.2.2.2 (Cond.fieldLink RX9 20 "ShortProofs" "sheets" "[LShortProofs$Sheet;") (List.mem_of_getElem? (i := 1) rfl)
  have lk2 := S.2.2.2.2 (Cond.fieldLink RX9 261 "ShortProofs$Sheet" "lane" "I") (List.mem_of_getElem? (i := 2) rfl)
  have lk3 := S.2.2.2.2 (Cond.fieldLink RX9 273 "ShortProofs$Sheet" "cells" "[I") (List.mem_of_getElem? (i := 3) rfl)
  have lk4 := S.2.2.2.2 (Cond.methodLink RX9 276 arraycopyName) (List.mem_of_getElem? (i := 4) rfl)
  have lk5 := S.2.2.2.2 (Cond.native arraycopyName) (List.mem_of_getElem? (i := 5) rfl)
  have lk6 := S.2.2.2.2 (Cond.static arraycopyName) (List.mem_of_getElem? (i := 6) rfl)
  have lk7 := S.2.2.2.2 (Cond.initialized "java/lang/System") (List.mem_of_getElem? (i := 7) rfl)
  refine lv_iload_n hx hb dX9_copy_0 rfl (lv_at hl 1 rfl) ?_
  obtain ⟨r1, hc1, hf⟩ := sp_hc hf
  refine sp_callSi (rest := []) S hK hG hA hW (c_X9_isSheet p1 hc1) (by decide) (va_cwS 1 S.2.2.2.2 gX9_copy_X9_isSheet rfl rfl rfl (by decide +kernel) (by decide)) (isC := []) rfl rfl rfl (WS' := sw_X a n_pr sA n_rd n_sz n_or n_st n_tb q5 pn od fa tr ++ (sw_XS sA q5 sa ++ (sw_S uK q5 ceK laK lnK ++ (sw_S uO q5 ceO laO lnO)))) rfl rfl hl.1 (Nat.le_of_ble_eq_true rfl) dX9_copy_1 ⟨Nat.zero_le _, Nat.zero_le _⟩ rfl (fun H locs hW => ?_)
  obtain ⟨k4, ek4, hf⟩ := sp_hb hf
  have hj4 : ∀ (c2 : Int32) (c3 : Nat → Int32) (H : Heap) (locs : List Loc) (ls : Array Slot), k4 c2 c3 = some (r', fa', ceO') → sp_wd D A s.heap (sw_X a n_pr sA n_rd n_sz n_or n_st n_tb q5 pn od c2 tr ++ (sw_XS sA q5 sa ++ (sw_S uK q5 ceK laK lnK ++ (sw_S uO q5 c3 laO lnO)))) H locs → lv_has ls 8 [(0, .ref (a 0))] → W p l e rmX9_copy s m args below meth c H locs 0 0 Q (F0 m 14 ls []) := by
    intro c2 c3 H locs ls hf hW hl
    rw [ek4] at hf
    refine lv_aload_n hx hb dX9_copy_14 rfl (lv_at hl 0 rfl) ?_
    refine lv_iconst (v := (-1)) hx hb dX9_copy_15 (by decide) ?_
    obtain ⟨⟨r5, c6⟩, hc6, hf⟩ := sp_hc hf
    refine sp_callViP (rest := []) S hK hG hA hW (c_X9_unfaulted a n_pr sA n_rd n_sz n_or n_st n_tb pn od c2 tr (-1 : Int32) hc6) (by decide) (cwV 1 S.2.2.2.2 gX9_copy_X9_unfaulted rfl rfl rfl (by decide +kernel) (by decide)) 7 0 rfl rfl (sp_pq [sw_X a n_pr sA n_rd n_sz n_or n_st n_tb q5 pn od c2 tr, sw_XS sA q5 sa, sw_S uK q5 ceK laK lnK, sw_S uO q5 c3 laO lnO] [0, 1, 2, 3] [0] [1, 2, 3] (by decide)) rfl (WS' := sw_X a n_pr sA n_rd n_sz n_or n_st n_tb q5 pn od c6 tr ++ (sw_XS sA q5 sa ++ (sw_S uK q5 ceK laK lnK ++ (sw_S uO q5 c3 laO lnO)))) (sp_pq' [sw_X a n_pr sA n_rd n_sz n_or n_st n_tb q5 pn od c6 tr, sw_XS sA q5 sa, sw_S uK q5 ceK laK lnK, sw_S uO q5 c3 laO lnO] [0, 1, 2, 3] [0] [1, 2, 3] (by decide)) rfl hl.1 (Nat.le_of_ble_eq_true rfl) dX9_copy_16 ⟨Nat.zero_le _, Nat.zero_le _⟩ rfl (fun H locs hW => ?_)
    have q0 := Option.some.inj hf
    obtain ⟨q1, z1⟩ := Prod.mk.inj q0
    obtain ⟨q2, z2⟩ := Prod.mk.inj z1
    subst q1
    subst q2
    subst z2
    exact sp_iret S hr hlk hW hQ dX9_copy_19
  refine lv_if_eq (tgt := 14) hx hb dX9_copy_4 (by decide) (fun hc => ?_) (fun hc => ?_)
  · have hf := sp_ht hf hc
    exact hj4 _ _ _ _ _ hf hW (lv_sub hl [0] rfl)
  · have hf := sp_hf hf hc
    refine lv_iload_n hx hb dX9_copy_7 rfl (lv_at hl 3 rfl) ?_
    obtain ⟨r7, hc7, hf⟩ := sp_hc hf
    refine sp_callSi (rest := []) S hK hG hA hW (c_X9_isSheet p3 hc7) (by decide) (va_cwS 1 S.2.2.2.2 gX9_copy_X9_isSheet rfl rfl rfl (by decide +kernel) (by decide)) (isC := []) rfl rfl rfl (WS' := sw_X a n_pr sA n_rd n_sz n_or n_st n_tb q5 pn od fa tr ++ (sw_XS sA q5 sa ++ (sw_S uK q5 ceK laK lnK ++ (sw_S uO q5 ceO laO lnO)))) rfl rfl hl.1 (Nat.le_of_ble_eq_true rfl) dX9_copy_8 ⟨Nat.zero_le _, Nat.zero_le _⟩ rfl (fun H locs hW => ?_)
    refine lv_if_ne (tgt := 20) hx hb dX9_copy_11 (by decide) (fun hc => ?_) (fun hc => ?_)
    · have hf := sp_hf hf hc
      refine lv_aload_n hx hb dX9_copy_20 rfl (lv_at hl 0 rfl) ?_
      refine sp_get S hK hW inX9 0 rfl rfl 1 (by decide) lk1 rfl dX9_copy_21 ?_
      refine lv_iload_n hx hb dX9_copy_24 rfl (lv_at hl 1 rfl) ?_
      obtain ⟨hin, hf⟩ := sp_hck2 hf
      refine sp_aldq S hK hW 1 4 rfl rfl hin (hR_K hin) dX9_copy_25 ?_
      refine lv_astore (lv' := [(6, .ref (uK 0)), (0, .ref (a 0)), (1, .int p1), (2, .int p2), (3, .int p3), (4, .int p4), (5, .int p5)]) hx hb dX9_copy_26 hl (by decide) rfl (fun ls hl => ?_)
      refine lv_aload_n hx hb dX9_copy_28 rfl (lv_at hl 1 rfl) ?_
      refine sp_get S hK hW inX9 0 rfl rfl 1 (by decide) lk1 rfl dX9_copy_29 ?_
      refine lv_iload_n hx hb dX9_copy_32 rfl (lv_at hl 4 rfl) ?_
      obtain ⟨hin, hf⟩ := sp_hck2 hf
      refine sp_aldq S hK hW 1 4 rfl rfl hin (hR_O hin) dX9_copy_33 ?_
      refine lv_astore (lv' := [(7, .ref (uO 0)), (6, .ref (uK 0)), (0, .ref (a 0)), (1, .int p1), (2, .int p2), (3, .int p3), (4, .int p4), (5, .int p5)]) hx hb dX9_copy_34 hl (by decide) rfl (fun ls hl => ?_)
      refine lv_aload hx hb dX9_copy_36 (lv_at hl 1 rfl) ?_
      obtain ⟨r8, hc8, hf⟩ := sp_hc hf
      refine sp_callViP (rest := []) S hK hG hA hW (c_X4_isNothing uK ceK laK lnK hc8) (by decide) (cwV 0 S.2.2.2.2 gX9_copy_X4_isNothing rfl rfl rfl (by decide +kernel) (by decide)) 3 2 rfl rfl (sp_pq [sw_X a n_pr sA n_rd n_sz n_or n_st n_tb q5 pn od fa tr, sw_XS sA q5 sa, sw_S uK q5 ceK laK lnK, sw_S uO q5 ceO laO lnO] [0, 1, 2, 3] [2] [0, 1, 3] (by decide)) rfl (WS' := sw_X a n_pr sA n_rd n_sz n_or n_st n_tb q5 pn od fa tr ++ (sw_XS sA q5 sa ++ (sw_S uK q5 ceK laK lnK ++ (sw_S uO q5 ceO laO lnO)))) (sp_pq' [sw_X a n_pr sA n_rd n_sz n_or n_st n_tb q5 pn od fa tr, sw_XS sA q5 sa, sw_S uK q5 ceK laK lnK, sw_S uO q5 ceO laO lnO] [0, 1, 2, 3] [2] [0, 1, 3] (by decide)) rfl hl.1 (Nat.le_of_ble_eq_true rfl) dX9_copy_38 ⟨Nat.zero_le _, Nat.zero_le _⟩ rfl (fun H locs hW => ?_)
      obtain ⟨k11, ek11, hf⟩ := sp_hb hf
      have hj11 : ∀ (c9 : Int32) (c10 : Nat → Int32) (H : Heap) (locs : List Loc) (ls : Array Slot), k11 c9 c10 = some (r', fa', ceO') → sp_wd D A s.heap (sw_X a n_pr sA n_rd n_sz n_or n_st n_tb q5 pn od c9 tr ++ (sw_XS sA q5 sa ++ (sw_S uK q5 ceK laK lnK ++ (sw_S uO q5 c10 laO lnO)))) H locs → lv_has ls 8 [(0, .ref (a 0))] → W p l e rmX9_copy s m args below meth c H locs 0 0 Q (F0 m 52 ls []) := by
        intro c9 c10 H locs ls hf hW hl
        rw [ek11] at hf
        refine lv_aload_n hx hb dX9_copy_52 rfl (lv_at hl 0 rfl) ?_
        refine lv_iconst (v := 1) hx hb dX9_copy_53 (by decide) ?_
        obtain ⟨⟨r12, c13⟩, hc13, hf⟩ := sp_hc hf
        refine sp_callViP (rest := []) S hK hG hA hW (c_X9_faulted a n_pr sA n_rd n_sz n_or n_st n_tb pn od c9 tr (1 : Int32) hc13) (by decide) (cwV 1 S.2.2.2.2 gX9_copy_X9_faulted rfl rfl rfl (by decide +kernel) (by decide)) 7 0 rfl rfl (sp_pq [sw_X a n_pr sA n_rd n_sz n_or n_st n_tb q5 pn od c9 tr, sw_XS sA q5 sa, sw_S uK q5 ceK laK lnK, sw_S uO q5 c10 laO lnO] [0, 1, 2, 3] [0] [1, 2, 3] (by decide)) rfl (WS' := sw_X a n_pr sA n_rd n_sz n_or n_st n_tb q5 pn od c13 tr ++ (sw_XS sA q5 sa ++ (sw_S uK q5 ceK laK lnK ++ (sw_S uO q5 c10 laO lnO)))) (sp_pq' [sw_X a n_pr sA n_rd n_sz n_or n_st n_tb q5 pn od c13 tr, sw_XS sA q5 sa, sw_S uK q5 ceK laK lnK, sw_S uO q5 c10 laO lnO] [0, 1, 2, 3] [0] [1, 2, 3] (by decide)) rfl hl.1 (Nat.le_of_ble_eq_true rfl) dX9_copy_54 ⟨Nat.zero_le _, Nat.zero_le _⟩ rfl (fun H locs hW => ?_)
        have q0 := Option.some.inj hf
        obtain ⟨q1, z1⟩ := Prod.mk.inj q0
        obtain ⟨q2, z2⟩ := Prod.mk.inj z1
        subst q1
        subst q2
        subst z2
        exact sp_iret S hr hlk hW hQ dX9_copy_57
      refine lv_if_ne (tgt := 52) hx hb dX9_copy_41 (by decide) (fun hc => ?_) (fun hc => ?_)
      · have hf := sp_hf hf hc
        exact hj11 _ _ _ _ _ hf hW (lv_sub hl [2] rfl)
      · have hf := sp_ht hf hc
        refine lv_aload hx hb dX9_copy_44 (lv_at hl 0 rfl) ?_
        obtain ⟨r14, hc14, hf⟩ := sp_hc hf
        refine sp_callViP (rest := []) S hK hG hA hW (c_X4_isNothing uO ceO laO lnO hc14) (by decide) (cwV 0 S.2.2.2.2 gX9_copy_X4_isNothing rfl rfl rfl (by decide +kernel) (by decide)) 3 4 rfl rfl (sp_pq [sw_X a n_pr sA n_rd n_sz n_or n_st n_tb q5 pn od fa tr, sw_XS sA q5 sa, sw_S uK q5 ceK laK lnK, sw_S uO q5 ceO laO lnO] [0, 1, 2, 3] [3] [0, 1, 2] (by decide)) rfl (WS' := sw_X a n_pr sA n_rd n_sz n_or n_st n_tb q5 pn od fa tr ++ (sw_XS sA q5 sa ++ (sw_S uK q5 ceK laK lnK ++ (sw_S uO q5 ceO laO lnO)))) (sp_pq' [sw_X a n_pr sA n_rd n_sz n_or n_st n_tb q5 pn od fa tr, sw_XS sA q5 sa, sw_S uK q5 ceK laK lnK, sw_S uO q5 ceO laO lnO] [0, 1, 2, 3] [3] [0, 1, 2] (by decide)) rfl hl.1 (Nat.le_of_ble_eq_true rfl) dX9_copy_46 ⟨Nat.zero_le _, Nat.zero_le _⟩ rfl (fun H locs hW => ?_)
        refine lv_if_eq (tgt := 58) hx hb dX9_copy_49 (by decide) (fun hc => ?_) (fun hc => ?_)
        · have hf := sp_ht hf hc
          refine lv_aload hx hb dX9_copy_58 (lv_at hl 1 rfl) ?_
          refine sp_get S hK hW inX4 2 rfl rfl 1 (by decide) lk2 rfl dX9_copy_60 ?_
          refine lv_aload hx hb dX9_copy_63 (lv_at hl 0 rfl) ?_
          refine sp_get S hK hW inX4 4 rfl rfl 1 (by decide) lk2 rfl dX9_copy_65 ?_
          refine lv_icmp_eq (tgt := 77) hx hb dX9_copy_68 (by decide) (fun hc => ?_) (fun hc => ?_)
          · have hf := sp_ht hf hc
            refine lv_aload hx hb dX9_copy_77 (lv_at hl 1 rfl) ?_
            refine lv_iload_n hx hb dX9_copy_79 rfl (lv_at hl 4 rfl) ?_
            refine lv_iload hx hb dX9_copy_80 (lv_at hl 7 rfl) ?_
            obtain ⟨r15, hc15, hf⟩ := sp_hc hf
            refine sp_callViP (rest := []) S hK hG hA hW (c_X4_hasCells uK ceK laK lnK p2 p5 hc15) (by decide) (cwV 2 S.2.2.2.2 gX9_copy_X4_hasCells rfl rfl rfl (by decide +kernel) (by decide)) 3 2 rfl rfl (sp_pq [sw_X a n_pr sA n_rd n_sz n_or n_st n_tb q5 pn od fa tr, sw_XS sA q5 sa, sw_S uK q5 ceK laK lnK, sw_S uO q5 ceO laO lnO] [0, 1, 2, 3] [2] [0, 1, 3] (by decide)) rfl (WS' := sw_X a n_pr sA n_rd n_sz n_or n_st n_tb q5 pn od fa tr ++ (sw_XS sA q5 sa ++ (sw_S uK q5 ceK laK lnK ++ (sw_S uO q5 ceO laO lnO)))) (sp_pq' [sw_X a n_pr sA n_rd n_sz n_or n_st n_tb q5 pn od fa tr, sw_XS sA q5 sa, sw_S uK q5 ceK laK lnK, sw_S uO q5 ceO laO lnO] [0, 1, 2, 3] [2] [0, 1, 3] (by decide)) rfl hl.1 (Nat.le_of_ble_eq_true rfl) dX9_copy_82 ⟨Nat.zero_le _, Nat.zero_le _⟩ rfl (fun H locs hW => ?_)
            obtain ⟨k18, ek18, hf⟩ := sp_hb hf
            have hj18 : ∀ (c16 : Int32) (c17 : Nat → Int32) (H : Heap) (locs : List Loc) (ls : Array Slot), k18 c16 c17 = some (r', fa', ceO') → sp_wd D A s.heap (sw_X a n_pr sA n_rd n_sz n_or n_st n_tb q5 pn od c16 tr ++ (sw_XS sA q5 sa ++ (sw_S uK q5 ceK laK lnK ++ (sw_S uO q5 c17 laO lnO)))) H locs → lv_has ls 8 [(0, .ref (a 0))] → W p l e rmX9_copy s m args below meth c H locs 0 0 Q (F0 m 100 ls []) := by
              intro c16 c17 H locs ls hf hW hl
              rw [ek18] at hf
              refine lv_aload_n hx hb dX9_copy_100 rfl (lv_at hl 0 rfl) ?_
              refine lv_iconst (v := 3) hx hb dX9_copy_101 (by decide) ?_
              obtain ⟨⟨r19, c20⟩, hc20, hf⟩ := sp_hc hf
              refine sp_callViP (rest := []) S hK hG hA hW (c_X9_faulted a n_pr sA n_rd n_sz n_or n_st n_tb pn od c16 tr (3 : Int32) hc20) (by decide) (cwV 1 S.2.2.2.2 gX9_copy_X9_faulted rfl rfl rfl (by decide +kernel) (by decide)) 7 0 rfl rfl (sp_pq [sw_X a n_pr sA n_rd n_sz n_or n_st n_tb q5 pn od c16 tr, sw_XS sA q5 sa, sw_S uK q5 ceK laK lnK, sw_S uO q5 c17 laO lnO] [0, 1, 2, 3] [0] [1, 2, 3] (by decide)) rfl (WS' := sw_X a n_pr sA n_rd n_sz n_or n_st n_tb q5 pn od c20 tr ++ (sw_XS sA q5 sa ++ (sw_S uK q5 ceK laK lnK ++ (sw_S uO q5 c17 laO lnO)))) (sp_pq' [sw_X a n_pr sA n_rd n_sz n_or n_st n_tb q5 pn od c20 tr, sw_XS sA q5 sa, sw_S uK q5 ceK laK lnK, sw_S uO q5 c17 laO lnO] [0, 1, 2, 3] [0] [1, 2, 3] (by decide)) rfl hl.1 (Nat.le_of_ble_eq_true rfl) dX9_copy_102 ⟨Nat.zero_le _, Nat.zero_le _⟩ rfl (fun H locs hW => ?_)
              have q0 := Option.some.inj hf
              obtain ⟨q1, z1⟩ := Prod.mk.inj q0
              obtain ⟨q2, z2⟩ := Prod.mk.inj z1
              subst q1
              subst q2
              subst z2
              exact sp_iret S hr hlk hW hQ dX9_copy_105
            refine lv_if_eq (tgt := 100) hx hb dX9_copy_85 (by decide) (fun hc => ?_) (fun hc => ?_)
            · have hf := sp_ht hf hc
              exact hj18 _ _ _ _ _ hf hW (lv_sub hl [2] rfl)
            · have hf := sp_hf hf hc
              refine lv_aload hx hb dX9_copy_88 (lv_at hl 0 rfl) ?_
              refine lv_iload hx hb dX9_copy_90 (lv_at hl 6 rfl) ?_
              refine lv_iload hx hb dX9_copy_92 (lv_at hl 7 rfl) ?_
              obtain ⟨r21, hc21, hf⟩ := sp_hc hf
              refine sp_callViP (rest := []) S hK hG hA hW (c_X4_hasCells uO ceO laO lnO p4 p5 hc21) (by decide) (cwV 2 S.2.2.2.2 gX9_copy_X4_hasCells rfl rfl rfl (by decide +kernel) (by decide)) 3 4 rfl rfl (sp_pq [sw_X a n_pr sA n_rd n_sz n_or n_st n_tb q5 pn od fa tr, sw_XS sA q5 sa, sw_S uK q5 ceK laK lnK, sw_S uO q5 ceO laO lnO] [0, 1, 2, 3] [3] [0, 1, 2] (by decide)) rfl (WS' := sw_X a n_pr sA n_rd n_sz n_or n_st n_tb q5 pn od fa tr ++ (sw_XS sA q5 sa ++ (sw_S uK q5 ceK laK lnK ++ (sw_S uO q5 ceO laO lnO)))) (sp_pq' [sw_X a n_pr sA n_rd n_sz n_or n_st n_tb q5 pn od fa tr, sw_XS sA q5 sa, sw_S uK q5 ceK laK lnK, sw_S uO q5 ceO laO lnO] [0, 1, 2, 3] [3] [0, 1, 2] (by decide)) rfl hl.1 (Nat.le_of_ble_eq_true rfl) dX9_copy_94 ⟨Nat.zero_le _, Nat.zero_le _⟩ rfl (fun H locs hW => ?_)
              refine lv_if_ne (tgt := 106) hx hb dX9_copy_97 (by decide) (fun hc => ?_) (fun hc => ?_)
              · have hf := sp_hf hf hc
                refine lv_aload hx hb dX9_copy_106 (lv_at hl 1 rfl) ?_
                refine sp_get S hK hW inX4 2 rfl rfl 0 (by decide) lk3 rfl dX9_copy_108 ?_
                refine lv_iload_n hx hb dX9_copy_111 rfl (lv_at hl 4 rfl) ?_
                refine lv_aload hx hb dX9_copy_112 (lv_at hl 0 rfl) ?_
                refine sp_get S hK hW inX4 4 rfl rfl 0 (by decide) lk3 rfl dX9_copy_114 ?_
                refine lv_iload hx hb dX9_copy_117 (lv_at hl 6 rfl) ?_
                refine lv_iload hx hb dX9_copy_119 (lv_at hl 7 rfl) ?_
                obtain ⟨hin, c22, ec22, hf⟩ := sp_hcp hf
                refine sp_copy S hK hW hl.1 lk4 lk5 lk6 lk7 3 5 rfl rfl hin ec22 (ws' := sw_X a n_pr sA n_rd n_sz n_or n_st n_tb q5 pn od fa tr ++ (sw_XS sA q5 sa ++ (sw_S uK q5 ceK laK lnK ++ (sw_S uO q5 c22 laO lnO)))) rfl (by decide) (by decide +kernel) dX9_copy_121 (fun H locs hW => ?_)
                refine lv_aload_n hx hb dX9_copy_124 rfl (lv_at hl 2 rfl) ?_
                refine lv_iload hx hb dX9_copy_125 (lv_at hl 7 rfl) ?_
                obtain ⟨⟨r23, c24⟩, hc24, hf⟩ := sp_hc hf
                refine sp_callViP (rest := []) S hK hG hA hW (c_X9_unfaulted a n_pr sA n_rd n_sz n_or n_st n_tb pn od fa tr p5 hc24) (by decide) (cwV 1 S.2.2.2.2 gX9_copy_X9_unfaulted rfl rfl rfl (by decide +kernel) (by decide)) 7 0 rfl rfl (sp_pq [sw_X a n_pr sA n_rd n_sz n_or n_st n_tb q5 pn od fa tr, sw_XS sA q5 sa, sw_S uK q5 ceK laK lnK, sw_S uO q5 c22 laO lnO] [0, 1, 2, 3] [0] [1, 2, 3] (by decide)) rfl (WS' := sw_X a n_pr sA n_rd n_sz n_or n_st n_tb q5 pn od c24 tr ++ (sw_XS sA q5 sa ++ (sw_S uK q5 ceK laK lnK ++ (sw_S uO q5 c22 laO lnO)))) (sp_pq' [sw_X a n_pr sA n_rd n_sz n_or n_st n_tb q5 pn od c24 tr, sw_XS sA q5 sa, sw_S uK q5 ceK laK lnK, sw_S uO q5 c22 laO lnO] [0, 1, 2, 3] [0] [1, 2, 3] (by decide)) rfl hl.1 (Nat.le_of_ble_eq_true rfl) dX9_copy_127 ⟨Nat.zero_le _, Nat.zero_le _⟩ rfl (fun H locs hW => ?_)
                have q0 := Option.some.inj hf
                obtain ⟨q1, z1⟩ := Prod.mk.inj q0
                obtain ⟨q2, z2⟩ := Prod.mk.inj z1
                subst q1
                subst q2
                subst z2
                exact sp_iret S hr hlk hW hQ dX9_copy_130
              · have hf := sp_ht hf hc
                exact hj18 _ _ _ _ _ hf hW (lv_sub hl [2] rfl)
          · have hf := sp_hf hf hc
            refine lv_aload_n hx hb dX9_copy_71 rfl (lv_at hl 2 rfl) ?_
            refine lv_iconst (v := 2) hx hb dX9_copy_72 (by decide) ?_
            obtain ⟨⟨r25, c26⟩, hc26, hf⟩ := sp_hc hf
            refine sp_callViP (rest := []) S hK hG hA hW (c_X9_faulted a n_pr sA n_rd n_sz n_or n_st n_tb pn od fa tr (2 : Int32) hc26) (by decide) (cwV 1 S.2.2.2.2 gX9_copy_X9_faulted rfl rfl rfl (by decide +kernel) (by decide)) 7 0 rfl rfl (sp_pq [sw_X a n_pr sA n_rd n_sz n_or n_st n_tb q5 pn od fa tr, sw_XS sA q5 sa, sw_S uK q5 ceK laK lnK, sw_S uO q5 ceO laO lnO] [0, 1, 2, 3] [0] [1, 2, 3] (by decide)) rfl (WS' := sw_X a n_pr sA n_rd n_sz n_or n_st n_tb q5 pn od c26 tr ++ (sw_XS sA q5 sa ++ (sw_S uK q5 ceK laK lnK ++ (sw_S uO q5 ceO laO lnO)))) (sp_pq' [sw_X a n_pr sA n_rd n_sz n_or n_st n_tb q5 pn od c26 tr, sw_XS sA q5 sa, sw_S uK q5 ceK laK lnK, sw_S uO q5 ceO laO lnO] [0, 1, 2, 3] [0] [1, 2, 3] (by decide)) rfl hl.1 (Nat.le_of_ble_eq_true rfl) dX9_copy_73 ⟨Nat.zero_le _, Nat.zero_le _⟩ rfl (fun H locs hW => ?_)
            have q0 := Option.some.inj hf
            obtain ⟨q1, z1⟩ := Prod.mk.inj q0
            obtain ⟨q2, z2⟩ := Prod.mk.inj z1
            subst q1
            subst q2
            subst z2
            exact sp_iret S hr hlk hW hQ dX9_copy_76
        · have hf := sp_hf hf hc
          exact hj11 _ _ _ _ _ hf hW (lv_sub hl [2] rfl)
    · have hf := sp_ht hf hc
      exact hj4 _ _ _ _ _ hf hW (lv_sub hl [0] rfl)

def f_X9_copy_al (p1 : Int32) (p2 : Int32) (p3 : Int32) (p4 : Int32) (p5 : Int32) (fa : Int32) (ceK : Nat → Int32) (laK : Int32) (lnK : Int32) : Option (Int32 × Int32 × (Nat → Int32)) := Option.bind (f_X9_isSheet p1) (fun r1 => sp_bnd (fun (c2 : Int32) (c3 : Nat → Int32) => Option.bind (f_X9_unfaulted (-1 : Int32)) (fun q9 => match q9 with | (r5, c6) => some (r5, c6, c3))) (fun k4 => if r1 = 0 then (k4 fa ceK) else (Option.bind (f_X9_isSheet p3) (fun r7 => if r7 = 0 then (k4 fa ceK) else (sp_ck 4 p1 (sp_ck 4 p3 (Option.bind (f_X4_isNothing laK) (fun r8 => sp_bnd (fun (c9 : Int32) (c10 : Nat → Int32) => Option.bind (f_X9_faulted (1 : Int32)) (fun q9 => match q9 with | (r12, c13) => some (r12, c13, c10))) (fun k11 => if r8 = 0 then (Option.bind (f_X4_isNothing laK) (fun r14 => if r14 = 0 then (if laK = laK then (Option.bind (f_X4_hasCells p2 p5 lnK) (fun r15 => sp_bnd (fun (c16 : Int32) (c17 : Nat → Int32) => Option.bind (f_X9_faulted (3 : Int32)) (fun q9 => match q9 with | (r19, c20) => some (r19, c20, c17))) (fun k18 => if r15 = 0 then (k18 fa ceK) else (Option.bind (f_X4_hasCells p4 p5 lnK) (fun r21 => if r21 = 0 then (k18 fa ceK) else (sp_cp ceK 60 ceK 60 p2 p4 p5 (fun c22 => Option.bind (f_X9_unfaulted p5) (fun q9 => match q9 with | (r23, c24) => some (r23, c24, c22))))))))) else (Option.bind (f_X9_faulted (2 : Int32)) (fun q9 => match q9 with | (r25, c26) => some (r25, c26, ceK)))) else (k11 fa ceK))) else (k11 fa ceK))))))))))
def rmX9_copy_al : Room := { frames := 1, cells := 0, slots := 0, locals := 60 }
set_option maxRecDepth 4000 in
theorem c_X9_copy_al {l : Launch} {D : va_G} {q5 : Nat → ClassId} (a : Nat → Nat) (sA : Nat) (uK : Nat → Nat) (n_pr : Nat) (n_rd : Nat) (n_sz : Nat) (n_or : Nat) (n_st : Nat) (n_tb : Nat) (pn : Int32) (od : Int32) (fa : Int32) (tr : Int32) (sa : Nat → Option Nat) (ceK : Nat → Int32) (laK : Int32) (lnK : Int32) (p1 : Int32) (p2 : Int32) (p3 : Int32) (p4 : Int32) (p5 : Int32) (hR_K : vp_in p1 4 → sa p1.toNatClampNeg = some (uK 0)) (hR_O : vp_in p3 4 → sa p3.toNatClampNeg = some (uK 0)) {r' : Int32} {fa' : Int32} {ceK' : Nat → Int32} (hf : f_X9_copy_al p1 p2 p3 p4 p5 fa ceK laK lnK = some (r', fa', ceK')) : sp_Ci l yX9_copy wsX9_copy rmX9_copy_al D q5 0 [.ref (a 0), .int p1, .int p2, .int p3, .int p4, .int p5] (sw_X a n_pr sA n_rd n_sz n_or n_st n_tb q5 pn od fa tr ++ (sw_XS sA q5 sa ++ (sw_S uK q5 ceK laK lnK))) r' (sw_X a n_pr sA n_rd n_sz n_or n_st n_tb q5 pn od fa' tr ++ (sw_XS sA q5 sa ++ (sw_S uK q5 ceK' laK lnK))) := by
  intro sz
  refine sp_of (cc := cX9_copy) (maxL := 8) (ret := some .int) (own := RX9) (Qc := sp_Qi D r' (sw_X a n_pr sA n_rd n_sz n_or n_st n_tb q5 pn od fa' tr ++ (sw_XS sA q5 sa ++ (sw_S uK q5 ceK' laK lnK)))) (by decide) rfl rfl (Nat.le_of_ble_eq_true rfl) ?_
  intro p e s m args below meth c A ls Q hQ S hr hlk hK hG hA hW hl
  have hx := S.1
  have hb := S.2.1
  unfold f_X9_copy_al at hf
  have inX4 : ∀ w ∈ u_ws RX4 TX4 3, w ∈ wsX9_copy := (fun _ h => List.mem_cons_of_mem _ (List.mem_append_right _ h))
  have inX9 : ∀ w ∈ u_ws RX9 TX9 11, w ∈ wsX9_copy := (fun _ h => List.mem_cons_of_mem _ (List.mem_append_left _ (List.mem_append_right _ h)))
  have lk1 := S.2.2.2.2 (Cond.fieldLink RX9 20 "ShortProofs" "sheets" "[LShortProofs$Sheet;") (List.mem_of_getElem? (i := 1) rfl)
  have lk2 := S.2.2.2.2 (Cond.fieldLink RX9 261 "ShortProofs$Sheet" "lane" "I") (List.mem_of_getElem? (i := 2) rfl)
  have lk3 := S.2.2.2.2 (Cond.fieldLink RX9 273 "ShortProofs$Sheet" "cells" "[I") (List.mem_of_getElem? (i := 3) rfl)
  have lk4 := S.2.2.2.2 (Cond.methodLink RX9 276 arraycopyName) (List.mem_of_getElem? (i := 4) rfl)
  have lk5 := S.2.2.2.2 (Cond.native arraycopyName) (List.mem_of_getElem? (i := 5) rfl)
  have lk6 := S.2.2.2.2 (Cond.static arraycopyName) (List.mem_of_getElem? (i := 6) rfl)
  have lk7 := S.2.2.2.2 (Cond.initialized "java/lang/System") (List.mem_of_getElem? (i := 7) rfl)
  refine lv_iload_n hx hb dX9_copy_0 rfl (lv_at hl 1 rfl) ?_
  obtain ⟨r1, hc1, hf⟩ := sp_hc hf
  refine sp_callSi (rest := []) S hK hG hA hW (c_X9_isSheet p1 hc1) (by decide) (va_cwS 1 S.2.2.2.2 gX9_copy_X9_isSheet rfl rfl rfl (by decide +kernel) (by decide)) (isC := []) rfl rfl rfl (WS' := sw_X a n_pr sA n_rd n_sz n_or n_st n_tb q5 pn od fa tr ++ (sw_XS sA q5 sa ++ (sw_S uK q5 ceK laK lnK))) rfl rfl hl.1 (Nat.le_of_ble_eq_true rfl) dX9_copy_1 ⟨Nat.zero_le _, Nat.zero_le _⟩ rfl (fun H locs hW => ?_)
  obtain ⟨k4, ek4, hf⟩ := sp_hb hf
  have hj4 : ∀ (c2 : Int32) (c3 : Nat → Int32) (H : Heap) (locs : List Loc) (ls : Array Slot), k4 c2 c3 = some (r', fa', ceK') → sp_wd D A s.heap (sw_X a n_pr sA n_rd n_sz n_or n_st n_tb q5 pn od c2 tr ++ (sw_XS sA q5 sa ++ (sw_S uK q5 c3 laK lnK))) H locs → lv_has ls 8 [(0, .ref (a 0))] → W p l e rmX9_copy_al s m args below meth c H locs 0 0 Q (F0 m 14 ls []) := by
    intro c2 c3 H locs ls hf hW hl
    rw [ek4] at hf
    refine lv_aload_n hx hb dX9_copy_14 rfl (lv_at hl 0 rfl) ?_
    refine lv_iconst (v := (-1)) hx hb dX9_copy_15 (by decide) ?_
    obtain ⟨⟨r5, c6⟩, hc6, hf⟩ := sp_hc hf
    refine sp_callViP (rest := []) S hK hG hA hW (c_X9_unfaulted a n_pr sA n_rd n_sz n_or n_st n_tb pn od c2 tr (-1 : Int32) hc6) (by decide) (cwV 1 S.2.2.2.2 gX9_copy_X9_unfaulted rfl rfl rfl (by decide +kernel) (by decide)) 7 0 rfl rfl (sp_pq [sw_X a n_pr sA n_rd n_sz n_or n_st n_tb q5 pn od c2 tr, sw_XS sA q5 sa, sw_S uK q5 c3 laK lnK] [0, 1, 2] [0] [1, 2] (by decide)) rfl (WS' := sw_X a n_pr sA n_rd n_sz n_or n_st n_tb q5 pn od c6 tr ++ (sw_XS sA q5 sa ++ (sw_S uK q5 c3 laK lnK))) (sp_pq' [sw_X a n_pr sA n_rd n_sz n_or n_st n_tb q5 pn od c6 tr, sw_XS sA q5 sa, sw_S uK q5 c3 laK lnK] [0, 1, 2] [0] [1, 2] (by decide)) rfl hl.1 (Nat.le_of_ble_eq_true rfl) dX9_copy_16 ⟨Nat.zero_le _, Nat.zero_le _⟩ rfl (fun H locs hW => ?_)
    have q0 := Option.some.inj hf
    obtain ⟨q1, z1⟩ := Prod.mk.inj q0
    obtain ⟨q2, z2⟩ := Prod.mk.inj z1
    subst q1
    subst q2
    subst z2
    exact sp_iret S hr hlk hW hQ dX9_copy_19
  refine lv_if_eq (tgt := 14) hx hb dX9_copy_4 (by decide) (fun hc => ?_) (fun hc => ?_)
  · have hf := sp_ht hf hc
    exact hj4 _ _ _ _ _ hf hW (lv_sub hl [0] rfl)
  · have hf := sp_hf hf hc
    refine lv_iload_n hx hb dX9_copy_7 rfl (lv_at hl 3 rfl) ?_
    obtain ⟨r7, hc7, hf⟩ := sp_hc hf
    refine sp_callSi (rest := []) S hK hG hA hW (c_X9_isSheet p3 hc7) (by decide) (va_cwS 1 S.2.2.2.2 gX9_copy_X9_isSheet rfl rfl rfl (by decide +kernel) (by decide)) (isC := []) rfl rfl rfl (WS' := sw_X a n_pr sA n_rd n_sz n_or n_st n_tb q5 pn od fa tr ++ (sw_XS sA q5 sa ++ (sw_S uK q5 ceK laK lnK))) rfl rfl hl.1 (Nat.le_of_ble_eq_true rfl) dX9_copy_8 ⟨Nat.zero_le _, Nat.zero_le _⟩ rfl (fun H locs hW => ?_)
    refine lv_if_ne (tgt := 20) hx hb dX9_copy_11 (by decide) (fun hc => ?_) (fun hc => ?_)
    · have hf := sp_hf hf hc
      refine lv_aload_n hx hb dX9_copy_20 rfl (lv_at hl 0 rfl) ?_
      refine sp_get S hK hW inX9 0 rfl rfl 1 (by decide) lk1 rfl dX9_copy_21 ?_
      refine lv_iload_n hx hb dX9_copy_24 rfl (lv_at hl 1 rfl) ?_
      obtain ⟨hin, hf⟩ := sp_hck2 hf
      refine sp_aldq S hK hW 1 4 rfl rfl hin (hR_K hin) dX9_copy_25 ?_
      refine lv_astore (lv' := [(6, .ref (uK 0)), (0, .ref (a 0)), (1, .int p1), (2, .int p2), (3, .int p3), (4, .int p4), (5, .int p5)]) hx hb dX9_copy_26 hl (by decide) rfl (fun ls hl => ?_)
      refine lv_aload_n hx hb dX9_copy_28 rfl (lv_at hl 1 rfl) ?_
      refine sp_get S hK hW inX9 0 rfl rfl 1 (by decide) lk1 rfl dX9_copy_29 ?_
      refine lv_iload_n hx hb dX9_copy_32 rfl (lv_at hl 4 rfl) ?_
      obtain ⟨hin, hf⟩ := sp_hck2 hf
      refine sp_aldq S hK hW 1 4 rfl rfl hin (hR_O hin) dX9_copy_33 ?_
      refine lv_astore (lv' := [(7, .ref (uK 0)), (6, .ref (uK 0)), (0, .ref (a 0)), (1, .int p1), (2, .int p2), (3, .int p3), (4, .int p4), (5, .int p5)]) hx hb dX9_copy_34 hl (by decide) rfl (fun ls hl => ?_)
      refine lv_aload hx hb dX9_copy_36 (lv_at hl 1 rfl) ?_
      obtain ⟨r8, hc8, hf⟩ := sp_hc hf
      refine sp_callViP (rest := []) S hK hG hA hW (c_X4_isNothing uK ceK laK lnK hc8) (by decide) (cwV 0 S.2.2.2.2 gX9_copy_X4_isNothing rfl rfl rfl (by decide +kernel) (by decide)) 3 2 rfl rfl (sp_pq [sw_X a n_pr sA n_rd n_sz n_or n_st n_tb q5 pn od fa tr, sw_XS sA q5 sa, sw_S uK q5 ceK laK lnK] [0, 1, 2] [2] [0, 1] (by decide)) rfl (WS' := sw_X a n_pr sA n_rd n_sz n_or n_st n_tb q5 pn od fa tr ++ (sw_XS sA q5 sa ++ (sw_S uK q5 ceK laK lnK))) (sp_pq' [sw_X a n_pr sA n_rd n_sz n_or n_st n_tb q5 pn od fa tr, sw_XS sA q5 sa, sw_S uK q5 ceK laK lnK] [0, 1, 2] [2] [0, 1] (by decide)) rfl hl.1 (Nat.le_of_ble_eq_true rfl) dX9_copy_38 ⟨Nat.zero_le _, Nat.zero_le _⟩ rfl (fun H locs hW => ?_)
      obtain ⟨k11, ek11, hf⟩ := sp_hb hf
      have hj11 : ∀ (c9 : Int32) (c10 : Nat → Int32) (H : Heap) (locs : List Loc) (ls : Array Slot), k11 c9 c10 = some (r', fa', ceK') → sp_wd D A s.heap (sw_X a n_pr sA n_rd n_sz n_or n_st n_tb q5 pn od c9 tr ++ (sw_XS sA q5 sa ++ (sw_S uK q5 c10 laK lnK))) H locs → lv_has ls 8 [(0, .ref (a 0))] → W p l e rmX9_copy_al s m args below meth c H locs 0 0 Q (F0 m 52 ls []) := by
        intro c9 c10 H locs ls hf hW hl
        rw [ek11] at hf
        refine lv_aload_n hx hb dX9_copy_52 rfl (lv_at hl 0 rfl) ?_
        refine lv_iconst (v := 1) hx hb dX9_copy_53 (by decide) ?_
        obtain ⟨⟨r12, c13⟩, hc13, hf⟩ := sp_hc hf
        refine sp_callViP (rest := []) S hK hG hA hW (c_X9_faulted a n_pr sA n_rd n_sz n_or n_st n_tb pn od c9 tr (1 : Int32) hc13) (by decide) (cwV 1 S.2.2.2.2 gX9_copy_X9_faulted rfl rfl rfl (by decide +kernel) (by decide)) 7 0 rfl rfl (sp_pq [sw_X a n_pr sA n_rd n_sz n_or n_st n_tb q5 pn od c9 tr, sw_XS sA q5 sa, sw_S uK q5 c10 laK lnK] [0, 1, 2] [0] [1, 2] (by decide)) rfl (WS' := sw_X a n_pr sA n_rd n_sz n_or n_st n_tb q5 pn od c13 tr ++ (sw_XS sA q5 sa ++ (sw_S uK q5 c10 laK lnK))) (sp_pq' [sw_X a n_pr sA n_rd n_sz n_or n_st n_tb q5 pn od c13 tr, sw_XS sA q5 sa, sw_S uK q5 c10 laK lnK] [0, 1, 2] [0] [1, 2] (by decide)) rfl hl.1 (Nat.le_of_ble_eq_true rfl) dX9_copy_54 ⟨Nat.zero_le _, Nat.zero_le _⟩ rfl (fun H locs hW => ?_)
        have q0 := Option.some.inj hf
        obtain ⟨q1, z1⟩ := Prod.mk.inj q0
        obtain ⟨q2, z2⟩ := Prod.mk.inj z1
        subst q1
        subst q2
        subst z2
        exact sp_iret S hr hlk hW hQ dX9_copy_57
      refine lv_if_ne (tgt := 52) hx hb dX9_copy_41 (by decide) (fun hc => ?_) (fun hc => ?_)
      · have hf := sp_hf hf hc
        exact hj11 _ _ _ _ _ hf hW (lv_sub hl [2] rfl)
      · have hf := sp_ht hf hc
        refine lv_aload hx hb dX9_copy_44 (lv_at hl 0 rfl) ?_
        obtain ⟨r14, hc14, hf⟩ := sp_hc hf
        refine sp_callViP (rest := []) S hK hG hA hW (c_X4_isNothing uK ceK laK lnK hc14) (by decide) (cwV 0 S.2.2.2.2 gX9_copy_X4_isNothing rfl rfl rfl (by decide +kernel) (by decide)) 3 2 rfl rfl (sp_pq [sw_X a n_pr sA n_rd n_sz n_or n_st n_tb q5 pn od fa tr, sw_XS sA q5 sa, sw_S uK q5 ceK laK lnK] [0, 1, 2] [2] [0, 1] (by decide)) rfl (WS' := sw_X a n_pr sA n_rd n_sz n_or n_st n_tb q5 pn od fa tr ++ (sw_XS sA q5 sa ++ (sw_S uK q5 ceK laK lnK))) (sp_pq' [sw_X a n_pr sA n_rd n_sz n_or n_st n_tb q5 pn od fa tr, sw_XS sA q5 sa, sw_S uK q5 ceK laK lnK] [0, 1, 2] [2] [0, 1] (by decide)) rfl hl.1 (Nat.le_of_ble_eq_true rfl) dX9_copy_46 ⟨Nat.zero_le _, Nat.zero_le _⟩ rfl (fun H locs hW => ?_)
        refine lv_if_eq (tgt := 58) hx hb dX9_copy_49 (by decide) (fun hc => ?_) (fun hc => ?_)
        · have hf := sp_ht hf hc
          refine lv_aload hx hb dX9_copy_58 (lv_at hl 1 rfl) ?_
          refine sp_get S hK hW inX4 2 rfl rfl 1 (by decide) lk2 rfl dX9_copy_60 ?_
          refine lv_aload hx hb dX9_copy_63 (lv_at hl 0 rfl) ?_
          refine sp_get S hK hW inX4 2 rfl rfl 1 (by decide) lk2 rfl dX9_copy_65 ?_
          refine lv_icmp_eq (tgt := 77) hx hb dX9_copy_68 (by decide) (fun hc => ?_) (fun hc => ?_)
          · have hf := sp_ht hf hc
            refine lv_aload hx hb dX9_copy_77 (lv_at hl 1 rfl) ?_
            refine lv_iload_n hx hb dX9_copy_79 rfl (lv_at hl 4 rfl) ?_
            refine lv_iload hx hb dX9_copy_80 (lv_at hl 7 rfl) ?_
            obtain ⟨r15, hc15, hf⟩ := sp_hc hf
            refine sp_callViP (rest := []) S hK hG hA hW (c_X4_hasCells uK ceK laK lnK p2 p5 hc15) (by decide) (cwV 2 S.2.2.2.2 gX9_copy_X4_hasCells rfl rfl rfl (by decide +kernel) (by decide)) 3 2 rfl rfl (sp_pq [sw_X a n_pr sA n_rd n_sz n_or n_st n_tb q5 pn od fa tr, sw_XS sA q5 sa, sw_S uK q5 ceK laK lnK] [0, 1, 2] [2] [0, 1] (by decide)) rfl (WS' := sw_X a n_pr sA n_rd n_sz n_or n_st n_tb q5 pn od fa tr ++ (sw_XS sA q5 sa ++ (sw_S uK q5 ceK laK lnK))) (sp_pq' [sw_X a n_pr sA n_rd n_sz n_or n_st n_tb q5 pn od fa tr, sw_XS sA q5 sa, sw_S uK q5 ceK laK lnK] [0, 1, 2] [2] [0, 1] (by decide)) rfl hl.1 (Nat.le_of_ble_eq_true rfl) dX9_copy_82 ⟨Nat.zero_le _, Nat.zero_le _⟩ rfl (fun H locs hW => ?_)
            obtain ⟨k18, ek18, hf⟩ := sp_hb hf
            have hj18 : ∀ (c16 : Int32) (c17 : Nat → Int32) (H : Heap) (locs : List Loc) (ls : Array Slot), k18 c16 c17 = some (r', fa', ceK') → sp_wd D A s.heap (sw_X a n_pr sA n_rd n_sz n_or n_st n_tb q5 pn od c16 tr ++ (sw_XS sA q5 sa ++ (sw_S uK q5 c17 laK lnK))) H locs → lv_has ls 8 [(0, .ref (a 0))] → W p l e rmX9_copy_al s m args below meth c H locs 0 0 Q (F0 m 100 ls []) := by
              intro c16 c17 H locs ls hf hW hl
              rw [ek18] at hf
              refine lv_aload_n hx hb dX9_copy_100 rfl (lv_at hl 0 rfl) ?_
              refine lv_iconst (v := 3) hx hb dX9_copy_101 (by decide) ?_
              obtain ⟨⟨r19, c20⟩, hc20, hf⟩ := sp_hc hf
              refine sp_callViP (rest := []) S hK hG hA hW (c_X9_faulted a n_pr sA n_rd n_sz n_or n_st n_tb pn od c16 tr (3 : Int32) hc20) (by decide) (cwV 1 S.2.2.2.2 gX9_copy_X9_faulted rfl rfl rfl (by decide +kernel) (by decide)) 7 0 rfl rfl (sp_pq [sw_X a n_pr sA n_rd n_sz n_or n_st n_tb q5 pn od c16 tr, sw_XS sA q5 sa, sw_S uK q5 c17 laK lnK] [0, 1, 2] [0] [1, 2] (by decide)) rfl (WS' := sw_X a n_pr sA n_rd n_sz n_or n_st n_tb q5 pn od c20 tr ++ (sw_XS sA q5 sa ++ (sw_S uK q5 c17 laK lnK))) (sp_pq' [sw_X a n_pr sA n_rd n_sz n_or n_st n_tb q5 pn od c20 tr, sw_XS sA q5 sa, sw_S uK q5 c17 laK lnK] [0, 1, 2] [0] [1, 2] (by decide)) rfl hl.1 (Nat.le_of_ble_eq_true rfl) dX9_copy_102 ⟨Nat.zero_le _, Nat.zero_le _⟩ rfl (fun H locs hW => ?_)
              have q0 := Option.some.inj hf
              obtain ⟨q1, z1⟩ := Prod.mk.inj q0
              obtain ⟨q2, z2⟩ := Prod.mk.inj z1
              subst q1
              subst q2
              subst z2
              exact sp_iret S hr hlk hW hQ dX9_copy_105
            refine lv_if_eq (tgt := 100) hx hb dX9_copy_85 (by decide) (fun hc => ?_) (fun hc => ?_)
            · have hf := sp_ht hf hc
              exact hj18 _ _ _ _ _ hf hW (lv_sub hl [2] rfl)
            · have hf := sp_hf hf hc
              refine lv_aload hx hb dX9_copy_88 (lv_at hl 0 rfl) ?_
              refine lv_iload hx hb dX9_copy_90 (lv_at hl 6 rfl) ?_
              refine lv_iload hx hb dX9_copy_92 (lv_at hl 7 rfl) ?_
              obtain ⟨r21, hc21, hf⟩ := sp_hc hf
              refine sp_callViP (rest := []) S hK hG hA hW (c_X4_hasCells uK ceK laK lnK p4 p5 hc21) (by decide) (cwV 2 S.2.2.2.2 gX9_copy_X4_hasCells rfl rfl rfl (by decide +kernel) (by decide)) 3 2 rfl rfl (sp_pq [sw_X a n_pr sA n_rd n_sz n_or n_st n_tb q5 pn od fa tr, sw_XS sA q5 sa, sw_S uK q5 ceK laK lnK] [0, 1, 2] [2] [0, 1] (by decide)) rfl (WS' := sw_X a n_pr sA n_rd n_sz n_or n_st n_tb q5 pn od fa tr ++ (sw_XS sA q5 sa ++ (sw_S uK q5 ceK laK lnK))) (sp_pq' [sw_X a n_pr sA n_rd n_sz n_or n_st n_tb q5 pn od fa tr, sw_XS sA q5 sa, sw_S uK q5 ceK laK lnK] [0, 1, 2] [2] [0, 1] (by decide)) rfl hl.1 (Nat.le_of_ble_eq_true rfl) dX9_copy_94 ⟨Nat.zero_le _, Nat.zero_le _⟩ rfl (fun H locs hW => ?_)
              refine lv_if_ne (tgt := 106) hx hb dX9_copy_97 (by decide) (fun hc => ?_) (fun hc => ?_)
              · have hf := sp_hf hf hc
                refine lv_aload hx hb dX9_copy_106 (lv_at hl 1 rfl) ?_
                refine sp_get S hK hW inX4 2 rfl rfl 0 (by decide) lk3 rfl dX9_copy_108 ?_
                refine lv_iload_n hx hb dX9_copy_111 rfl (lv_at hl 4 rfl) ?_
                refine lv_aload hx hb dX9_copy_112 (lv_at hl 0 rfl) ?_
                refine sp_get S hK hW inX4 2 rfl rfl 0 (by decide) lk3 rfl dX9_copy_114 ?_
                refine lv_iload hx hb dX9_copy_117 (lv_at hl 6 rfl) ?_
                refine lv_iload hx hb dX9_copy_119 (lv_at hl 7 rfl) ?_
                obtain ⟨hin, c22, ec22, hf⟩ := sp_hcp hf
                refine sp_copy S hK hW hl.1 lk4 lk5 lk6 lk7 3 3 rfl rfl hin ec22 (ws' := sw_X a n_pr sA n_rd n_sz n_or n_st n_tb q5 pn od fa tr ++ (sw_XS sA q5 sa ++ (sw_S uK q5 c22 laK lnK))) rfl (by decide) (by decide +kernel) dX9_copy_121 (fun H locs hW => ?_)
                refine lv_aload_n hx hb dX9_copy_124 rfl (lv_at hl 2 rfl) ?_
                refine lv_iload hx hb dX9_copy_125 (lv_at hl 7 rfl) ?_
                obtain ⟨⟨r23, c24⟩, hc24, hf⟩ := sp_hc hf
                refine sp_callViP (rest := []) S hK hG hA hW (c_X9_unfaulted a n_pr sA n_rd n_sz n_or n_st n_tb pn od fa tr p5 hc24) (by decide) (cwV 1 S.2.2.2.2 gX9_copy_X9_unfaulted rfl rfl rfl (by decide +kernel) (by decide)) 7 0 rfl rfl (sp_pq [sw_X a n_pr sA n_rd n_sz n_or n_st n_tb q5 pn od fa tr, sw_XS sA q5 sa, sw_S uK q5 c22 laK lnK] [0, 1, 2] [0] [1, 2] (by decide)) rfl (WS' := sw_X a n_pr sA n_rd n_sz n_or n_st n_tb q5 pn od c24 tr ++ (sw_XS sA q5 sa ++ (sw_S uK q5 c22 laK lnK))) (sp_pq' [sw_X a n_pr sA n_rd n_sz n_or n_st n_tb q5 pn od c24 tr, sw_XS sA q5 sa, sw_S uK q5 c22 laK lnK] [0, 1, 2] [0] [1, 2] (by decide)) rfl hl.1 (Nat.le_of_ble_eq_true rfl) dX9_copy_127 ⟨Nat.zero_le _, Nat.zero_le _⟩ rfl (fun H locs hW => ?_)
                have q0 := Option.some.inj hf
                obtain ⟨q1, z1⟩ := Prod.mk.inj q0
                obtain ⟨q2, z2⟩ := Prod.mk.inj z1
                subst q1
                subst q2
                subst z2
                exact sp_iret S hr hlk hW hQ dX9_copy_130
              · have hf := sp_ht hf hc
                exact hj18 _ _ _ _ _ hf hW (lv_sub hl [2] rfl)
          · have hf := sp_hf hf hc
            refine lv_aload_n hx hb dX9_copy_71 rfl (lv_at hl 2 rfl) ?_
            refine lv_iconst (v := 2) hx hb dX9_copy_72 (by decide) ?_
            obtain ⟨⟨r25, c26⟩, hc26, hf⟩ := sp_hc hf
            refine sp_callViP (rest := []) S hK hG hA hW (c_X9_faulted a n_pr sA n_rd n_sz n_or n_st n_tb pn od fa tr (2 : Int32) hc26) (by decide) (cwV 1 S.2.2.2.2 gX9_copy_X9_faulted rfl rfl rfl (by decide +kernel) (by decide)) 7 0 rfl rfl (sp_pq [sw_X a n_pr sA n_rd n_sz n_or n_st n_tb q5 pn od fa tr, sw_XS sA q5 sa, sw_S uK q5 ceK laK lnK] [0, 1, 2] [0] [1, 2] (by decide)) rfl (WS' := sw_X a n_pr sA n_rd n_sz n_or n_st n_tb q5 pn od c26 tr ++ (sw_XS sA q5 sa ++ (sw_S uK q5 ceK laK lnK))) (sp_pq' [sw_X a n_pr sA n_rd n_sz n_or n_st n_tb q5 pn od c26 tr, sw_XS sA q5 sa, sw_S uK q5 ceK laK lnK] [0, 1, 2] [0] [1, 2] (by decide)) rfl hl.1 (Nat.le_of_ble_eq_true rfl) dX9_copy_73 ⟨Nat.zero_le _, Nat.zero_le _⟩ rfl (fun H locs hW => ?_)
            have q0 := Option.some.inj hf
            obtain ⟨q1, z1⟩ := Prod.mk.inj q0
            obtain ⟨q2, z2⟩ := Prod.mk.inj z1
            subst q1
            subst q2
            subst z2
            exact sp_iret S hr hlk hW hQ dX9_copy_76
        · have hf := sp_hf hf hc
          exact hj11 _ _ _ _ _ hf hW (lv_sub hl [2] rfl)
    · have hf := sp_ht hf hc
      exact hj4 _ _ _ _ _ hf hW (lv_sub hl [0] rfl)

def f_X9_leave (p1 : Int32) (tr : Int32) : Option (Int32) := sp_bnd (((31 : Int32) * tr) + p1) (fun v1 => some v1)
def rmX9_leave : Room := { frames := 0, cells := 0, slots := 0, locals := 0 }
set_option maxRecDepth 4000 in
theorem c_X9_leave {l : Launch} {D : va_G} {q5 : Nat → ClassId} (a : Nat → Nat) (n_pr : Nat) (n_sh : Nat) (n_rd : Nat) (n_sz : Nat) (n_or : Nat) (n_st : Nat) (n_tb : Nat) (pn : Int32) (od : Int32) (fa : Int32) (tr : Int32) (p1 : Int32) {tr' : Int32} (hf : f_X9_leave p1 tr = some tr') : sp_Cv l yX9_leave wsX9_leave rmX9_leave D q5 0 [.ref (a 0), .int p1] (sw_X a n_pr n_sh n_rd n_sz n_or n_st n_tb q5 pn od fa tr) (sw_X a n_pr n_sh n_rd n_sz n_or n_st n_tb q5 pn od fa tr') := by
  intro sz
  refine sp_of (cc := cX9_leave) (maxL := 2) (ret := none) (own := RX9) (Qc := sp_Qv D (sw_X a n_pr n_sh n_rd n_sz n_or n_st n_tb q5 pn od fa tr')) (by decide) rfl rfl (Nat.le_of_ble_eq_true rfl) ?_
  intro p e s m args below meth c A ls Q hQ S hr hlk hK hG hA hW hl
  have hx := S.1
  have hb := S.2.1
  unfold f_X9_leave at hf
  have inX9 : ∀ w ∈ u_ws RX9 TX9 11, w ∈ wsX9_leave := (fun _ h => List.mem_cons_of_mem _ (List.mem_append_right _ h))
  have lk1 := S.2.2.2.2 (Cond.fieldLink RX9 295 "ShortProofs" "traced" "I") (List.mem_of_getElem? (i := 1) rfl)
  refine lv_aload_n hx hb dX9_leave_0 rfl (lv_at hl 0 rfl) ?_
  refine lv_bipush (v := 31) hx hb dX9_leave_1 (by decide) ?_
  refine lv_aload_n hx hb dX9_leave_3 rfl (lv_at hl 0 rfl) ?_
  refine sp_get S hK hW inX9 0 rfl rfl 10 (by decide) lk1 rfl dX9_leave_4 ?_
  refine lv_imul hx hb dX9_leave_7 ?_
  refine lv_iload_n hx hb dX9_leave_8 rfl (lv_at hl 1 rfl) ?_
  refine lv_iadd hx hb dX9_leave_9 ?_
  obtain ⟨v1, ev1, hf⟩ := sp_hb hf
  refine sp_topi ev1 ?_
  refine sp_put S hK hW inX9 tyX9_ok nmX9 0 rfl rfl 10 (by decide) lk1 rfl rfl rfl (Nat.le_of_ble_eq_true rfl) (ws' := sw_X a n_pr n_sh n_rd n_sz n_or n_st n_tb q5 pn od fa v1) rfl dX9_leave_10 (fun H locs hW => ?_)
  have q0 := Option.some.inj hf
  subst q0
  exact sp_vret S hr hlk hW hQ dX9_leave_13

def f_X9_toldAsGround (p2 : Int32) (tr : Int32) (cl2 : Nat → Int32) : Option (Int32 × Int32) := Option.bind (f_X9_leave (1 : Int32) tr) (fun c1 => sp_ld cl2 48 p2 (fun v2 => some (v2, c1)))
def rmX9_toldAsGround : Room := { frames := 1, cells := 0, slots := 0, locals := 21 }
set_option maxRecDepth 4000 in
theorem c_X9_toldAsGround {l : Launch} {D : va_G} {q5 : Nat → ClassId} (a : Nat → Nat) (d : Nat → Nat) (n_pr : Nat) (n_sh : Nat) (n_rd : Nat) (n_sz : Nat) (n_or : Nat) (n_st : Nat) (n_tb : Nat) (pn : Int32) (od : Int32) (fa : Int32) (tr : Int32) (cl2 : Nat → Int32) (le2 : Nat → Int32) (ri2 : Nat → Int32) (lt2 : Nat → Int32) (gr2 : Nat → Int32) (ct2 : Int32) (gc2 : Int32) (p2 : Int32) {r' : Int32} {tr' : Int32} (hf : f_X9_toldAsGround p2 tr cl2 = some (r', tr')) : sp_Ci l yX9_toldAsGround wsX9_toldAsGround rmX9_toldAsGround D q5 0 [.ref (a 0), .ref (d 0), .int p2] (sw_X a n_pr n_sh n_rd n_sz n_or n_st n_tb q5 pn od fa tr ++ (sw_P d q5 cl2 le2 ri2 lt2 gr2 ct2 gc2)) r' (sw_X a n_pr n_sh n_rd n_sz n_or n_st n_tb q5 pn od fa tr' ++ (sw_P d q5 cl2 le2 ri2 lt2 gr2 ct2 gc2)) := by
  intro sz
  refine sp_of (cc := cX9_toldAsGround) (maxL := 3) (ret := some .int) (own := RX9) (Qc := sp_Qi D r' (sw_X a n_pr n_sh n_rd n_sz n_or n_st n_tb q5 pn od fa tr' ++ (sw_P d q5 cl2 le2 ri2 lt2 gr2 ct2 gc2))) (by decide) rfl rfl (Nat.le_of_ble_eq_true rfl) ?_
  intro p e s m args below meth c A ls Q hQ S hr hlk hK hG hA hW hl
  have hx := S.1
  have hb := S.2.1
  unfold f_X9_toldAsGround at hf
  have inX2 : ∀ w ∈ u_ws RX2 TX2 7, w ∈ wsX9_toldAsGround := (fun _ h => List.mem_cons_of_mem _ (List.mem_append_left _ (List.mem_append_right _ h)))
  have lk1 := S.2.2.2.2 (Cond.fieldLink RX9 107 "ShortProofs$Proof" "clauses" "[I") (List.mem_of_getElem? (i := 1) rfl)
  refine lv_aload_n hx hb dX9_toldAsGround_0 rfl (lv_at hl 0 rfl) ?_
  refine lv_iconst (v := 1) hx hb dX9_toldAsGround_1 (by decide) ?_
  obtain ⟨c1, hc1, hf⟩ := sp_hc hf
  refine sp_callVvP (rest := []) S hK hG hA hW (c_X9_leave a n_pr n_sh n_rd n_sz n_or n_st n_tb pn od fa tr (1 : Int32) hc1) (by decide) (cwV 1 S.2.2.2.2 gX9_toldAsGround_X9_leave rfl rfl rfl (by decide +kernel) (by decide)) 7 0 rfl rfl (sp_pq [sw_X a n_pr n_sh n_rd n_sz n_or n_st n_tb q5 pn od fa tr, sw_P d q5 cl2 le2 ri2 lt2 gr2 ct2 gc2] [0, 1] [0] [1] (by decide)) rfl (WS' := sw_X a n_pr n_sh n_rd n_sz n_or n_st n_tb q5 pn od fa c1 ++ (sw_P d q5 cl2 le2 ri2 lt2 gr2 ct2 gc2)) (sp_pq' [sw_X a n_pr n_sh n_rd n_sz n_or n_st n_tb q5 pn od fa c1, sw_P d q5 cl2 le2 ri2 lt2 gr2 ct2 gc2] [0, 1] [0] [1] (by decide)) rfl hl.1 (Nat.le_of_ble_eq_true rfl) dX9_toldAsGround_2 ⟨Nat.zero_le _, Nat.zero_le _⟩ rfl (fun H locs hW => ?_)
  refine lv_aload_n hx hb dX9_toldAsGround_5 rfl (lv_at hl 1 rfl) ?_
  refine sp_get S hK hW inX2 1 rfl rfl 0 (by decide) lk1 rfl dX9_toldAsGround_6 ?_
  refine lv_iload_n hx hb dX9_toldAsGround_9 rfl (lv_at hl 2 rfl) ?_
  obtain ⟨hin, v2, ev2, hf⟩ := sp_hld hf
  refine sp_iald S hK hW 2 rfl hin ev2 dX9_toldAsGround_10 ?_
  have q0 := Option.some.inj hf
  obtain ⟨q1, z1⟩ := Prod.mk.inj q0
  subst q1
  subst z1
  exact sp_iret S hr hlk hW hQ dX9_toldAsGround_11

def f_X9_toldAsCut (p2 : Int32) (tr : Int32) (cl2 : Nat → Int32) (le2 : Nat → Int32) (ri2 : Nat → Int32) : Option (Int32 × Int32) := Option.bind (f_X9_leave (2 : Int32) tr) (fun c1 => Option.bind (f_X9_toldAsGround p2 c1 cl2) (fun q9 => match q9 with | (r2, c3) => sp_ld le2 48 p2 (fun v4 => sp_ld ri2 48 p2 (fun v5 => some (((r2 + v4) + v5), c3)))))
def rmX9_toldAsCut : Room := { frames := 2, cells := 0, slots := 0, locals := 43 }
set_option maxRecDepth 4000 in
theorem c_X9_toldAsCut {l : Launch} {D : va_G} {q5 : Nat → ClassId} (a : Nat → Nat) (d : Nat → Nat) (n_pr : Nat) (n_sh : Nat) (n_rd : Nat) (n_sz : Nat) (n_or : Nat) (n_st : Nat) (n_tb : Nat) (pn : Int32) (od : Int32) (fa : Int32) (tr : Int32) (cl2 : Nat → Int32) (le2 : Nat → Int32) (ri2 : Nat → Int32) (lt2 : Nat → Int32) (gr2 : Nat → Int32) (ct2 : Int32) (gc2 : Int32) (p2 : Int32) {r' : Int32} {tr' : Int32} (hf : f_X9_toldAsCut p2 tr cl2 le2 ri2 = some (r', tr')) : sp_Ci l yX9_toldAsCut wsX9_toldAsCut rmX9_toldAsCut D q5 0 [.ref (a 0), .ref (d 0), .int p2] (sw_X a n_pr n_sh n_rd n_sz n_or n_st n_tb q5 pn od fa tr ++ (sw_P d q5 cl2 le2 ri2 lt2 gr2 ct2 gc2)) r' (sw_X a n_pr n_sh n_rd n_sz n_or n_st n_tb q5 pn od fa tr' ++ (sw_P d q5 cl2 le2 ri2 lt2 gr2 ct2 gc2)) := by
  intro sz
  refine sp_of (cc := cX9_toldAsCut) (maxL := 3) (ret := some .int) (own := RX9) (Qc := sp_Qi D r' (sw_X a n_pr n_sh n_rd n_sz n_or n_st n_tb q5 pn od fa tr' ++ (sw_P d q5 cl2 le2 ri2 lt2 gr2 ct2 gc2))) (by decide) rfl rfl (Nat.le_of_ble_eq_true rfl) ?_
  intro p e s m args below meth c A ls Q hQ S hr hlk hK hG hA hW hl
  have hx := S.1
  have hb := S.2.1
  unfold f_X9_toldAsCut at hf
  have inX2 : ∀ w ∈ u_ws RX2 TX2 7, w ∈ wsX9_toldAsCut := (fun _ h => List.mem_cons_of_mem _ (List.mem_append_left _ (List.mem_append_right _ h)))
  have lk1 := S.2.2.2.2 (Cond.fieldLink RX9 114 "ShortProofs$Proof" "lefts" "[I") (List.mem_of_getElem? (i := 1) rfl)
  have lk2 := S.2.2.2.2 (Cond.fieldLink RX9 117 "ShortProofs$Proof" "rights" "[I") (List.mem_of_getElem? (i := 2) rfl)
  refine lv_aload_n hx hb dX9_toldAsCut_0 rfl (lv_at hl 0 rfl) ?_
  refine lv_iconst (v := 2) hx hb dX9_toldAsCut_1 (by decide) ?_
  obtain ⟨c1, hc1, hf⟩ := sp_hc hf
  refine sp_callVvP (rest := []) S hK hG hA hW (c_X9_leave a n_pr n_sh n_rd n_sz n_or n_st n_tb pn od fa tr (2 : Int32) hc1) (by decide) (cwV 1 S.2.2.2.2 gX9_toldAsCut_X9_leave rfl rfl rfl (by decide +kernel) (by decide)) 7 0 rfl rfl (sp_pq [sw_X a n_pr n_sh n_rd n_sz n_or n_st n_tb q5 pn od fa tr, sw_P d q5 cl2 le2 ri2 lt2 gr2 ct2 gc2] [0, 1] [0] [1] (by decide)) rfl (WS' := sw_X a n_pr n_sh n_rd n_sz n_or n_st n_tb q5 pn od fa c1 ++ (sw_P d q5 cl2 le2 ri2 lt2 gr2 ct2 gc2)) (sp_pq' [sw_X a n_pr n_sh n_rd n_sz n_or n_st n_tb q5 pn od fa c1, sw_P d q5 cl2 le2 ri2 lt2 gr2 ct2 gc2] [0, 1] [0] [1] (by decide)) rfl hl.1 (Nat.le_of_ble_eq_true rfl) dX9_toldAsCut_2 ⟨Nat.zero_le _, Nat.zero_le _⟩ rfl (fun H locs hW => ?_)
  refine lv_aload_n hx hb dX9_toldAsCut_5 rfl (lv_at hl 0 rfl) ?_
  refine lv_aload_n hx hb dX9_toldAsCut_6 rfl (lv_at hl 1 rfl) ?_
  refine lv_iload_n hx hb dX9_toldAsCut_7 rfl (lv_at hl 2 rfl) ?_
  obtain ⟨⟨r2, c3⟩, hc3, hf⟩ := sp_hc hf
  refine sp_callViP (rest := []) S hK hG hA hW (c_X9_toldAsGround a d n_pr n_sh n_rd n_sz n_or n_st n_tb pn od fa c1 cl2 le2 ri2 lt2 gr2 ct2 gc2 p2 hc3) (by decide) (cwV 2 S.2.2.2.2 gX9_toldAsCut_X9_toldAsGround rfl rfl rfl (by decide +kernel) (by decide)) 7 0 rfl rfl (sp_pn _) rfl (WS' := sw_X a n_pr n_sh n_rd n_sz n_or n_st n_tb q5 pn od fa c3 ++ (sw_P d q5 cl2 le2 ri2 lt2 gr2 ct2 gc2)) (sp_pn' _) rfl hl.1 (Nat.le_of_ble_eq_true rfl) dX9_toldAsCut_8 ⟨Nat.zero_le _, Nat.zero_le _⟩ rfl (fun H locs hW => ?_)
  refine lv_aload_n hx hb dX9_toldAsCut_11 rfl (lv_at hl 1 rfl) ?_
  refine sp_get S hK hW inX2 1 rfl rfl 1 (by decide) lk1 rfl dX9_toldAsCut_12 ?_
  refine lv_iload_n hx hb dX9_toldAsCut_15 rfl (lv_at hl 2 rfl) ?_
  obtain ⟨hin, v4, ev4, hf⟩ := sp_hld hf
  refine sp_iald S hK hW 3 rfl hin ev4 dX9_toldAsCut_16 ?_
  refine lv_iadd hx hb dX9_toldAsCut_17 ?_
  refine lv_aload_n hx hb dX9_toldAsCut_18 rfl (lv_at hl 1 rfl) ?_
  refine sp_get S hK hW inX2 1 rfl rfl 2 (by decide) lk2 rfl dX9_toldAsCut_19 ?_
  refine lv_iload_n hx hb dX9_toldAsCut_22 rfl (lv_at hl 2 rfl) ?_
  obtain ⟨hin, v5, ev5, hf⟩ := sp_hld hf
  refine sp_iald S hK hW 4 rfl hin ev5 dX9_toldAsCut_23 ?_
  refine lv_iadd hx hb dX9_toldAsCut_24 ?_
  have q0 := Option.some.inj hf
  obtain ⟨q1, z1⟩ := Prod.mk.inj q0
  subst q1
  subst z1
  exact sp_iret S hr hlk hW hQ dX9_toldAsCut_25
