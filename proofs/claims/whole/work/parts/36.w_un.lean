def f_X9_shorter_un (p1 : Int32) (p2 : Int32) (pn : Int32) : Option (Int32) := Option.bind (f_X9_isProof p1 pn) (fun r1 => if r1 = 0 then (some (-1 : Int32)) else (if p2 < 0 then (some (-2 : Int32)) else (if p2 ≤ (4 : Int32) then none else (some (-2 : Int32)))))
def rmX9_shorter_un : Room := { frames := 1, cells := 0, slots := 0, locals := 21 }
set_option maxRecDepth 4000 in
theorem c_X9_shorter_un {l : Launch} {D : va_G} {q5 : Nat → ClassId} (a : Nat → Nat) (n_pr : Nat) (n_sh : Nat) (n_rd : Nat) (n_sz : Nat) (n_or : Nat) (n_st : Nat) (n_tb : Nat) (pn : Int32) (od : Int32) (fa : Int32) (tr : Int32) (p1 : Int32) (p2 : Int32) {r' : Int32} (hf : f_X9_shorter_un p1 p2 pn = some r') : sp_Ci l yX9_shorter wsX9_shorter rmX9_shorter_un D q5 0 [.ref (a 0), .int p1, .int p2] (sw_X a n_pr n_sh n_rd n_sz n_or n_st n_tb q5 pn od fa tr) r' (sw_X a n_pr n_sh n_rd n_sz n_or n_st n_tb q5 pn od fa tr) := by
  intro sz
  refine sp_of (cc := cX9_shorter) (maxL := 3) (ret := some .int) (own := RX9) (Qc := sp_Qi D r' (sw_X a n_pr n_sh n_rd n_sz n_or n_st n_tb q5 pn od fa tr)) (by decide) rfl rfl (Nat.le_of_ble_eq_true rfl) ?_
  intro p e s m args below meth c A ls Q hQ S hr hlk hK hG hA hW hl
  have hx := S.1
  have hb := S.2.1
  unfold f_X9_shorter_un at hf
  have inX9 : ∀ w ∈ u_ws RX9 TX9 11, w ∈ wsX9_shorter := (fun _ h => List.mem_cons_of_mem _ (List.mem_append_left _ (List.mem_append_left _ (List.mem_append_right _ h))))
  have lk1 := S.2.2.2.2 (Cond.fieldLink RX9 49 "ShortProofs" "shortener" "LShortProofs$Shortener;") (List.mem_of_getElem? (i := 1) rfl)
  have lk2 := S.2.2.2.2 (Cond.fieldLink RX9 13 "ShortProofs" "proofs" "[LShortProofs$Proof;") (List.mem_of_getElem? (i := 2) rfl)
  refine lv_aload_n hx hb dX9_shorter_0 rfl (lv_at hl 0 rfl) ?_
  refine lv_iload_n hx hb dX9_shorter_1 rfl (lv_at hl 1 rfl) ?_
  obtain ⟨r1, hc1, hf⟩ := sp_hc hf
  refine sp_callViP (rest := []) S hK hG hA hW (c_X9_isProof a n_pr n_sh n_rd n_sz n_or n_st n_tb pn od fa tr p1 hc1) (by decide) (cwV 1 S.2.2.2.2 gX9_shorter_X9_isProof rfl rfl rfl (by decide +kernel) (by decide)) 7 0 rfl rfl (sp_pn _) rfl (WS' := sw_X a n_pr n_sh n_rd n_sz n_or n_st n_tb q5 pn od fa tr) (sp_pn' _) rfl hl.1 (Nat.le_of_ble_eq_true rfl) dX9_shorter_2 ⟨Nat.zero_le _, Nat.zero_le _⟩ rfl (fun H locs hW => ?_)
  refine lv_if_ne (tgt := 10) hx hb dX9_shorter_5 (by decide) (fun hc => ?_) (fun hc => ?_)
  · have hf := sp_hf hf hc
    refine lv_iload_n hx hb dX9_shorter_10 rfl (lv_at hl 2 rfl) ?_
    refine lv_if_lt (tgt := 19) hx hb dX9_shorter_11 (by decide) (fun hc => ?_) (fun hc => ?_)
    · have hf := sp_ht hf hc
      refine lv_bipush (v := (-2)) hx hb dX9_shorter_19 (by decide) ?_
      have q0 := Option.some.inj hf
      subst q0
      exact sp_iret S hr hlk hW hQ dX9_shorter_21
    · have hf := sp_hf hf hc
      refine lv_iload_n hx hb dX9_shorter_14 rfl (lv_at hl 2 rfl) ?_
      refine lv_iconst (v := 4) hx hb dX9_shorter_15 (by decide) ?_
      refine lv_icmp_le (tgt := 22) hx hb dX9_shorter_16 (by decide) (fun hc => ?_) (fun hc => ?_)
      · have hf := sp_ht hf hc
        cases hf
      · have hf := sp_hf hf hc
        refine lv_bipush (v := (-2)) hx hb dX9_shorter_19 (by decide) ?_
        have q0 := Option.some.inj hf
        subst q0
        exact sp_iret S hr hlk hW hQ dX9_shorter_21
  · have hf := sp_ht hf hc
    refine lv_iconst (v := (-1)) hx hb dX9_shorter_8 (by decide) ?_
    have q0 := Option.some.inj hf
    subst q0
    exact sp_iret S hr hlk hW hQ dX9_shorter_9
def f_X9_heap_un (p1 : Int32) (p2 : Int32) (pn : Int32) : Option (Int32) := Option.bind (f_X9_isProof p1 pn) (fun r1 => if r1 = 0 then (some (-1 : Int32)) else (Option.bind (f_X9_isProof p2 pn) (fun r2 => if r2 = 0 then (some (-1 : Int32)) else none)))
def rmX9_heap_un : Room := { frames := 1, cells := 0, slots := 0, locals := 21 }
set_option maxRecDepth 4000 in
theorem c_X9_heap_un {l : Launch} {D : va_G} {q5 : Nat → ClassId} (a : Nat → Nat) (n_pr : Nat) (n_sh : Nat) (n_rd : Nat) (n_sz : Nat) (n_or : Nat) (n_st : Nat) (n_tb : Nat) (pn : Int32) (od : Int32) (fa : Int32) (tr : Int32) (p1 : Int32) (p2 : Int32) {r' : Int32} (hf : f_X9_heap_un p1 p2 pn = some r') : sp_Ci l yX9_heap wsX9_heap rmX9_heap_un D q5 0 [.ref (a 0), .int p1, .int p2] (sw_X a n_pr n_sh n_rd n_sz n_or n_st n_tb q5 pn od fa tr) r' (sw_X a n_pr n_sh n_rd n_sz n_or n_st n_tb q5 pn od fa tr) := by
  intro sz
  refine sp_of (cc := cX9_heap) (maxL := 3) (ret := some .int) (own := RX9) (Qc := sp_Qi D r' (sw_X a n_pr n_sh n_rd n_sz n_or n_st n_tb q5 pn od fa tr)) (by decide) rfl rfl (Nat.le_of_ble_eq_true rfl) ?_
  intro p e s m args below meth c A ls Q hQ S hr hlk hK hG hA hW hl
  have hx := S.1
  have hb := S.2.1
  unfold f_X9_heap_un at hf
  have inX9 : ∀ w ∈ u_ws RX9 TX9 11, w ∈ wsX9_heap := (fun _ h => List.mem_cons_of_mem _ (List.mem_append_left _ (List.mem_append_left _ (List.mem_append_right _ h))))
  have lk1 := S.2.2.2.2 (Cond.fieldLink RX9 49 "ShortProofs" "shortener" "LShortProofs$Shortener;") (List.mem_of_getElem? (i := 1) rfl)
  have lk2 := S.2.2.2.2 (Cond.fieldLink RX9 13 "ShortProofs" "proofs" "[LShortProofs$Proof;") (List.mem_of_getElem? (i := 2) rfl)
  refine lv_aload_n hx hb dX9_heap_0 rfl (lv_at hl 0 rfl) ?_
  refine lv_iload_n hx hb dX9_heap_1 rfl (lv_at hl 1 rfl) ?_
  obtain ⟨r1, hc1, hf⟩ := sp_hc hf
  refine sp_callViP (rest := []) S hK hG hA hW (c_X9_isProof a n_pr n_sh n_rd n_sz n_or n_st n_tb pn od fa tr p1 hc1) (by decide) (cwV 1 S.2.2.2.2 gX9_heap_X9_isProof rfl rfl rfl (by decide +kernel) (by decide)) 7 0 rfl rfl (sp_pn _) rfl (WS' := sw_X a n_pr n_sh n_rd n_sz n_or n_st n_tb q5 pn od fa tr) (sp_pn' _) rfl hl.1 (Nat.le_of_ble_eq_true rfl) dX9_heap_2 ⟨Nat.zero_le _, Nat.zero_le _⟩ rfl (fun H locs hW => ?_)
  refine lv_if_eq (tgt := 16) hx hb dX9_heap_5 (by decide) (fun hc => ?_) (fun hc => ?_)
  · have hf := sp_ht hf hc
    refine lv_iconst (v := (-1)) hx hb dX9_heap_16 (by decide) ?_
    have q0 := Option.some.inj hf
    subst q0
    exact sp_iret S hr hlk hW hQ dX9_heap_17
  · have hf := sp_hf hf hc
    refine lv_aload_n hx hb dX9_heap_8 rfl (lv_at hl 0 rfl) ?_
    refine lv_iload_n hx hb dX9_heap_9 rfl (lv_at hl 2 rfl) ?_
    obtain ⟨r2, hc2, hf⟩ := sp_hc hf
    refine sp_callViP (rest := []) S hK hG hA hW (c_X9_isProof a n_pr n_sh n_rd n_sz n_or n_st n_tb pn od fa tr p2 hc2) (by decide) (cwV 1 S.2.2.2.2 gX9_heap_X9_isProof rfl rfl rfl (by decide +kernel) (by decide)) 7 0 rfl rfl (sp_pn _) rfl (WS' := sw_X a n_pr n_sh n_rd n_sz n_or n_st n_tb q5 pn od fa tr) (sp_pn' _) rfl hl.1 (Nat.le_of_ble_eq_true rfl) dX9_heap_10 ⟨Nat.zero_le _, Nat.zero_le _⟩ rfl (fun H locs hW => ?_)
    refine lv_if_ne (tgt := 18) hx hb dX9_heap_13 (by decide) (fun hc => ?_) (fun hc => ?_)
    · have hf := sp_hf hf hc
      cases hf
    · have hf := sp_ht hf hc
      refine lv_iconst (v := (-1)) hx hb dX9_heap_16 (by decide) ?_
      have q0 := Option.some.inj hf
      subst q0
      exact sp_iret S hr hlk hW hQ dX9_heap_17
