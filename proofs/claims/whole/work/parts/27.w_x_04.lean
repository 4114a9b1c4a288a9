def f_X9_toldAsEnd (p2 : Int32) (tr : Int32) (cl2 : Nat → Int32) (le2 : Nat → Int32) (ri2 : Nat → Int32) : Option (Int32 × Int32) := Option.bind (f_X9_leave (3 : Int32) tr) (fun c1 => Option.bind (f_X9_toldAsCut p2 c1 cl2 le2 ri2) (fun q9 => match q9 with | (r2, c3) => Option.bind (f_X9_toldAsGround p2 c3 cl2) (fun q9 => match q9 with | (r4, c5) => some ((r2 + r4), c5))))
def rmX9_toldAsEnd : Room := { frames := 3, cells := 0, slots := 0, locals := 65 }
set_option maxRecDepth 4000 in
theorem c_X9_toldAsEnd {l : Launch} {D : va_G} {q5 : Nat → ClassId} (a : Nat → Nat) (d : Nat → Nat) (n_pr : Nat) (n_sh : Nat) (n_rd : Nat) (n_sz : Nat) (n_or : Nat) (n_st : Nat) (n_tb : Nat) (pn : Int32) (od : Int32) (fa : Int32) (tr : Int32) (cl2 : Nat → Int32) (le2 : Nat → Int32) (ri2 : Nat → Int32) (lt2 : Nat → Int32) (gr2 : Nat → Int32) (ct2 : Int32) (gc2 : Int32) (p2 : Int32) {r' : Int32} {tr' : Int32} (hf : f_X9_toldAsEnd p2 tr cl2 le2 ri2 = some (r', tr')) : sp_Ci l yX9_toldAsEnd wsX9_toldAsEnd rmX9_toldAsEnd D q5 0 [.ref (a 0), .ref (d 0), .int p2] (sw_X a n_pr n_sh n_rd n_sz n_or n_st n_tb q5 pn od fa tr ++ (sw_P d q5 cl2 le2 ri2 lt2 gr2 ct2 gc2)) r' (sw_X a n_pr n_sh n_rd n_sz n_or n_st n_tb q5 pn od fa tr' ++ (sw_P d q5 cl2 le2 ri2 lt2 gr2 ct2 gc2)) := by
  intro sz
  refine sp_of (cc := cX9_toldAsEnd) (maxL := 4) (ret := some .int) (own := RX9) (Qc := sp_Qi D r' (sw_X a n_pr n_sh n_rd n_sz n_or n_st n_tb q5 pn od fa tr' ++ (sw_P d q5 cl2 le2 ri2 lt2 gr2 ct2 gc2))) (by decide) rfl rfl (Nat.le_of_ble_eq_true rfl) ?_
  intro p e s m args below meth c A ls Q hQ S hr hlk hK hG hA hW hl
  have hx := S.1
  have hb := S.2.1
  unfold f_X9_toldAsEnd at hf
  refine lv_aload_n hx hb dX9_toldAsEnd_0 rfl (lv_at hl 0 rfl) ?_
  refine lv_iconst (v := 3) hx hb dX9_toldAsEnd_1 (by decide) ?_
  obtain ⟨c1, hc1, hf⟩ := sp_hc hf
  refine sp_callVvP (rest := []) S hK hG hA hW (c_X9_leave a n_pr n_sh n_rd n_sz n_or n_st n_tb pn od fa tr (3 : Int32) hc1) (by decide) (cwV 1 S.2.2.2.2 gX9_toldAsEnd_X9_leave rfl rfl rfl (by decide +kernel) (by decide)) 7 0 rfl rfl (sp_pq [sw_X a n_pr n_sh n_rd n_sz n_or n_st n_tb q5 pn od fa tr, sw_P d q5 cl2 le2 ri2 lt2 gr2 ct2 gc2] [0, 1] [0] [1] (by decide)) rfl (WS' := sw_X a n_pr n_sh n_rd n_sz n_or n_st n_tb q5 pn od fa c1 ++ (sw_P d q5 cl2 le2 ri2 lt2 gr2 ct2 gc2)) (sp_pq' [sw_X a n_pr n_sh n_rd n_sz n_or n_st n_tb q5 pn od fa c1, sw_P d q5 cl2 le2 ri2 lt2 gr2 ct2 gc2] [0, 1] [0] [1] (by decide)) rfl hl.1 (Nat.le_of_ble_eq_true rfl) dX9_toldAsEnd_2 ⟨Nat.zero_le _, Nat.zero_le _⟩ rfl (fun H locs hW => ?_)
  refine lv_aload_n hx hb dX9_toldAsEnd_5 rfl (lv_at hl 0 rfl) ?_
  refine lv_aload_n hx hb dX9_toldAsEnd_6 rfl (lv_at hl 1 rfl) ?_
  refine lv_iload_n hx hb dX9_toldAsEnd_7 rfl (lv_at hl 2 rfl) ?_
  obtain ⟨⟨r2, c3⟩, hc3, hf⟩ := sp_hc hf
  refine sp_callViP (rest := []) S hK hG hA hW (c_X9_toldAsCut a d n_pr n_sh n_rd n_sz n_or n_st n_tb pn od fa c1 cl2 le2 ri2 lt2 gr2 ct2 gc2 p2 hc3) (by decide) (cwV 2 S.2.2.2.2 gX9_toldAsEnd_X9_toldAsCut rfl rfl rfl (by decide +kernel) (by decide)) 7 0 rfl rfl (sp_pn _) rfl (WS' := sw_X a n_pr n_sh n_rd n_sz n_or n_st n_tb q5 pn od fa c3 ++ (sw_P d q5 cl2 le2 ri2 lt2 gr2 ct2 gc2)) (sp_pn' _) rfl hl.1 (Nat.le_of_ble_eq_true rfl) dX9_toldAsEnd_8 ⟨Nat.zero_le _, Nat.zero_le _⟩ rfl (fun H locs hW => ?_)
  refine lv_istore_n (lv' := [(3, .int r2), (0, .ref (a 0)), (1, .ref (d 0)), (2, .int p2)]) hx hb dX9_toldAsEnd_11 rfl hl (by decide) rfl (fun ls hl => ?_)
  refine lv_iload_n hx hb dX9_toldAsEnd_12 rfl (lv_at hl 0 rfl) ?_
  refine lv_aload_n hx hb dX9_toldAsEnd_13 rfl (lv_at hl 1 rfl) ?_
  refine lv_aload_n hx hb dX9_toldAsEnd_14 rfl (lv_at hl 2 rfl) ?_
  refine lv_iload_n hx hb dX9_toldAsEnd_15 rfl (lv_at hl 3 rfl) ?_
  obtain ⟨⟨r4, c5⟩, hc5, hf⟩ := sp_hc hf
  refine sp_callViP (rest := [.int r2]) S hK hG hA hW (c_X9_toldAsGround a d n_pr n_sh n_rd n_sz n_or n_st n_tb pn od fa c3 cl2 le2 ri2 lt2 gr2 ct2 gc2 p2 hc5) (by decide) (cwV 2 S.2.2.2.2 gX9_toldAsEnd_X9_toldAsGround rfl rfl rfl (by decide +kernel) (by decide)) 7 0 rfl rfl (sp_pn _) rfl (WS' := sw_X a n_pr n_sh n_rd n_sz n_or n_st n_tb q5 pn od fa c5 ++ (sw_P d q5 cl2 le2 ri2 lt2 gr2 ct2 gc2)) (sp_pn' _) rfl hl.1 (Nat.le_of_ble_eq_true rfl) dX9_toldAsEnd_16 ⟨Nat.zero_le _, Nat.zero_le _⟩ rfl (fun H locs hW => ?_)
  refine lv_iadd hx hb dX9_toldAsEnd_19 ?_
  have q0 := Option.some.inj hf
  obtain ⟨q1, z1⟩ := Prod.mk.inj q0
  subst q1
  subst z1
  exact sp_iret S hr hlk hW hQ dX9_toldAsEnd_20

def f_X9_tell (p1 : Int32) (p2 : Int32) (pn : Int32) (tr : Int32) (clP : Nat → Int32) (leP : Nat → Int32) (riP : Nat → Int32) (ctP : Int32) : Option (Int32 × Int32) := Option.bind (f_X9_isLine p1 p2 pn ctP) (fun r1 => if r1 = 0 then (some ((-1 : Int32), tr)) else (sp_ck 12 p1 (Option.bind (f_X2_kindOf p2 leP ctP) (fun r2 => if r2 = (0 : Int32) then (Option.bind (f_X9_toldAsGround p2 tr clP) (fun q9 => match q9 with | (r3, c4) => some (r3, c4))) else (if r2 = (1 : Int32) then (Option.bind (f_X9_toldAsCut p2 tr clP leP riP) (fun q9 => match q9 with | (r5, c6) => some (r5, c6))) else (Option.bind (f_X9_toldAsEnd p2 tr clP leP riP) (fun q9 => match q9 with | (r7, c8) => some (r7, c8))))))))
def rmX9_tell : Room := { frames := 4, cells := 0, slots := 0, locals := 88 }
set_option maxRecDepth 4000 in
theorem c_X9_tell {l : Launch} {D : va_G} {q5 : Nat → ClassId} (a : Nat → Nat) (pA : Nat) (uP : Nat → Nat) (n_sh : Nat) (n_rd : Nat) (n_sz : Nat) (n_or : Nat) (n_st : Nat) (n_tb : Nat) (pn : Int32) (od : Int32) (fa : Int32) (tr : Int32) (pa : Nat → Option Nat) (clP : Nat → Int32) (leP : Nat → Int32) (riP : Nat → Int32) (ltP : Nat → Int32) (grP : Nat → Int32) (ctP : Int32) (gcP : Int32) (p1 : Int32) (p2 : Int32) (hR_P : vp_in p1 12 → pa p1.toNatClampNeg = some (uP 0)) {r' : Int32} {tr' : Int32} (hf : f_X9_tell p1 p2 pn tr clP leP riP ctP = some (r', tr')) : sp_Ci l yX9_tell wsX9_tell rmX9_tell D q5 0 [.ref (a 0), .int p1, .int p2] (sw_X a pA n_sh n_rd n_sz n_or n_st n_tb q5 pn od fa tr ++ (sw_XP pA q5 pa ++ (sw_P uP q5 clP leP riP ltP grP ctP gcP))) r' (sw_X a pA n_sh n_rd n_sz n_or n_st n_tb q5 pn od fa tr' ++ (sw_XP pA q5 pa ++ (sw_P uP q5 clP leP riP ltP grP ctP gcP))) := by
  intro sz
  refine sp_of (cc := cX9_tell) (maxL := 4) (ret := some .int) (own := RX9) (Qc := sp_Qi D r' (sw_X a pA n_sh n_rd n_sz n_or n_st n_tb q5 pn od fa tr' ++ (sw_XP pA q5 pa ++ (sw_P uP q5 clP leP riP ltP grP ctP gcP)))) (by decide) rfl rfl (Nat.le_of_ble_eq_true rfl) ?_
  intro p e s m args below meth c A ls Q hQ S hr hlk hK hG hA hW hl
  have hx := S.1
  have hb := S.2.1
  unfold f_X9_tell at hf
  have inX9 : ∀ w ∈ u_ws RX9 TX9 11, w ∈ wsX9_tell := (fun _ h => List.mem_cons_of_mem _ (List.mem_append_left _ (List.mem_append_right _ h)))
  have lk1 := S.2.2.2.2 (Cond.fieldLink RX9 13 "ShortProofs" "proofs" "[LShortProofs$Proof;") (List.mem_of_getElem? (i := 1) rfl)
  refine lv_aload_n hx hb dX9_tell_0 rfl (lv_at hl 0 rfl) ?_
  refine lv_iload_n hx hb dX9_tell_1 rfl (lv_at hl 1 rfl) ?_
  refine lv_iload_n hx hb dX9_tell_2 rfl (lv_at hl 2 rfl) ?_
  obtain ⟨r1, hc1, hf⟩ := sp_hc hf
  refine sp_callViP (rest := []) S hK hG hA hW (c_X9_isLine a pA uP n_sh n_rd n_sz n_or n_st n_tb pn od fa tr pa clP leP riP ltP grP ctP gcP p1 p2 hR_P hc1) (by decide) (cwV 2 S.2.2.2.2 gX9_tell_X9_isLine rfl rfl rfl (by decide +kernel) (by decide)) 7 0 rfl rfl (sp_pn _) rfl (WS' := sw_X a pA n_sh n_rd n_sz n_or n_st n_tb q5 pn od fa tr ++ (sw_XP pA q5 pa ++ (sw_P uP q5 clP leP riP ltP grP ctP gcP))) (sp_pn' _) rfl hl.1 (Nat.le_of_ble_eq_true rfl) dX9_tell_3 ⟨Nat.zero_le _, Nat.zero_le _⟩ rfl (fun H locs hW => ?_)
  refine lv_if_ne (tgt := 11) hx hb dX9_tell_6 (by decide) (fun hc => ?_) (fun hc => ?_)
  · have hf := sp_hf hf hc
    refine lv_aload_n hx hb dX9_tell_11 rfl (lv_at hl 0 rfl) ?_
    refine sp_get S hK hW inX9 0 rfl rfl 0 (by decide) lk1 rfl dX9_tell_12 ?_
    refine lv_iload_n hx hb dX9_tell_15 rfl (lv_at hl 1 rfl) ?_
    obtain ⟨hin, hf⟩ := sp_hck2 hf
    refine sp_aldq S hK hW 1 3 rfl rfl hin (hR_P hin) dX9_tell_16 ?_
    refine lv_astore_n (lv' := [(3, .ref (uP 0)), (0, .ref (a 0)), (1, .int p1), (2, .int p2)]) hx hb dX9_tell_17 rfl hl (by decide) rfl (fun ls hl => ?_)
    refine lv_aload_n hx hb dX9_tell_18 rfl (lv_at hl 0 rfl) ?_
    refine lv_iload_n hx hb dX9_tell_19 rfl (lv_at hl 3 rfl) ?_
    obtain ⟨r2, hc2, hf⟩ := sp_hc hf
    refine sp_callViP (rest := []) S hK hG hA hW (c_X2_kindOf uP clP leP riP ltP grP ctP gcP p2 hc2) (by decide) (cwV 1 S.2.2.2.2 gX9_tell_X2_kindOf rfl rfl rfl (by decide +kernel) (by decide)) 1 2 rfl rfl (sp_pq [sw_X a pA n_sh n_rd n_sz n_or n_st n_tb q5 pn od fa tr, sw_XP pA q5 pa, sw_P uP q5 clP leP riP ltP grP ctP gcP] [0, 1, 2] [2] [0, 1] (by decide)) rfl (WS' := sw_X a pA n_sh n_rd n_sz n_or n_st n_tb q5 pn od fa tr ++ (sw_XP pA q5 pa ++ (sw_P uP q5 clP leP riP ltP grP ctP gcP))) (sp_pq' [sw_X a pA n_sh n_rd n_sz n_or n_st n_tb q5 pn od fa tr, sw_XP pA q5 pa, sw_P uP q5 clP leP riP ltP grP ctP gcP] [0, 1, 2] [2] [0, 1] (by decide)) rfl hl.1 (Nat.le_of_ble_eq_true rfl) dX9_tell_20 ⟨Nat.zero_le _, Nat.zero_le _⟩ rfl (fun H locs hW => ?_)
    by_cases hs0 : r2 = (0 : Int32)
    · have hf := sp_ht hf hs0
      refine lv_lookup (tgt := 48) (off := 25) hx hb dX9_tell_23 (by decide) (by rw [hs0]; rfl) (by decide) ?_
      refine lv_aload_n hx hb dX9_tell_48 rfl (lv_at hl 1 rfl) ?_
      refine lv_aload_n hx hb dX9_tell_49 rfl (lv_at hl 0 rfl) ?_
      refine lv_iload_n hx hb dX9_tell_50 rfl (lv_at hl 3 rfl) ?_
      obtain ⟨⟨r3, c4⟩, hc4, hf⟩ := sp_hc hf
      refine sp_callViP (rest := []) S hK hG hA hW (c_X9_toldAsGround a uP pA n_sh n_rd n_sz n_or n_st n_tb pn od fa tr clP leP riP ltP grP ctP gcP p2 hc4) (by decide) (cwV 2 S.2.2.2.2 gX9_tell_X9_toldAsGround rfl rfl rfl (by decide +kernel) (by decide)) 7 0 rfl rfl (sp_pq [sw_X a pA n_sh n_rd n_sz n_or n_st n_tb q5 pn od fa tr, sw_XP pA q5 pa, sw_P uP q5 clP leP riP ltP grP ctP gcP] [0, 1, 2] [0, 2] [1] (by decide)) rfl (WS' := sw_X a pA n_sh n_rd n_sz n_or n_st n_tb q5 pn od fa c4 ++ (sw_XP pA q5 pa ++ (sw_P uP q5 clP leP riP ltP grP ctP gcP))) (sp_pq' [sw_X a pA n_sh n_rd n_sz n_or n_st n_tb q5 pn od fa c4, sw_XP pA q5 pa, sw_P uP q5 clP leP riP ltP grP ctP gcP] [0, 1, 2] [0, 2] [1] (by decide)) rfl hl.1 (Nat.le_of_ble_eq_true rfl) dX9_tell_51 ⟨Nat.zero_le _, Nat.zero_le _⟩ rfl (fun H locs hW => ?_)
      have q0 := Option.some.inj hf
      obtain ⟨q1, z1⟩ := Prod.mk.inj q0
      subst q1
      subst z1
      exact sp_iret S hr hlk hW hQ dX9_tell_54
    have hf := sp_hf hf hs0
    by_cases hs1 : r2 = (1 : Int32)
    · have hf := sp_ht hf hs1
      refine lv_lookup (tgt := 55) (off := 32) hx hb dX9_tell_23 (by decide) (by rw [hs1]; rfl) (by decide) ?_
      refine lv_aload_n hx hb dX9_tell_55 rfl (lv_at hl 1 rfl) ?_
      refine lv_aload_n hx hb dX9_tell_56 rfl (lv_at hl 0 rfl) ?_
      refine lv_iload_n hx hb dX9_tell_57 rfl (lv_at hl 3 rfl) ?_
      obtain ⟨⟨r5, c6⟩, hc6, hf⟩ := sp_hc hf
      refine sp_callViP (rest := []) S hK hG hA hW (c_X9_toldAsCut a uP pA n_sh n_rd n_sz n_or n_st n_tb pn od fa tr clP leP riP ltP grP ctP gcP p2 hc6) (by decide) (cwV 2 S.2.2.2.2 gX9_tell_X9_toldAsCut rfl rfl rfl (by decide +kernel) (by decide)) 7 0 rfl rfl (sp_pq [sw_X a pA n_sh n_rd n_sz n_or n_st n_tb q5 pn od fa tr, sw_XP pA q5 pa, sw_P uP q5 clP leP riP ltP grP ctP gcP] [0, 1, 2] [0, 2] [1] (by decide)) rfl (WS' := sw_X a pA n_sh n_rd n_sz n_or n_st n_tb q5 pn od fa c6 ++ (sw_XP pA q5 pa ++ (sw_P uP q5 clP leP riP ltP grP ctP gcP))) (sp_pq' [sw_X a pA n_sh n_rd n_sz n_or n_st n_tb q5 pn od fa c6, sw_XP pA q5 pa, sw_P uP q5 clP leP riP ltP grP ctP gcP] [0, 1, 2] [0, 2] [1] (by decide)) rfl hl.1 (Nat.le_of_ble_eq_true rfl) dX9_tell_58 ⟨Nat.zero_le _, Nat.zero_le _⟩ rfl (fun H locs hW => ?_)
      have q0 := Option.some.inj hf
      obtain ⟨q1, z1⟩ := Prod.mk.inj q0
      subst q1
      subst z1
      exact sp_iret S hr hlk hW hQ dX9_tell_61
    have hf := sp_hf hf hs1
    have hz0 : r2.toInt ≠ 0 := sp_nei hs0
    have hz1 : r2.toInt ≠ 1 := sp_nei hs1
    refine lv_lookup (tgt := 62) (off := 39) hx hb dX9_tell_23 (by decide) (by simp [Op.lookupswitch.offset, hz0.symm, hz1.symm]) (by decide) ?_
    refine lv_aload_n hx hb dX9_tell_62 rfl (lv_at hl 1 rfl) ?_
    refine lv_aload_n hx hb dX9_tell_63 rfl (lv_at hl 0 rfl) ?_
    refine lv_iload_n hx hb dX9_tell_64 rfl (lv_at hl 3 rfl) ?_
    obtain ⟨⟨r7, c8⟩, hc8, hf⟩ := sp_hc hf
    refine sp_callViP (rest := []) S hK hG hA hW (c_X9_toldAsEnd a uP pA n_sh n_rd n_sz n_or n_st n_tb pn od fa tr clP leP riP ltP grP ctP gcP p2 hc8) (by decide) (cwV 2 S.2.2.2.2 gX9_tell_X9_toldAsEnd rfl rfl rfl (by decide +kernel) (by decide)) 7 0 rfl rfl (sp_pq [sw_X a pA n_sh n_rd n_sz n_or n_st n_tb q5 pn od fa tr, sw_XP pA q5 pa, sw_P uP q5 clP leP riP ltP grP ctP gcP] [0, 1, 2] [0, 2] [1] (by decide)) rfl (WS' := sw_X a pA n_sh n_rd n_sz n_or n_st n_tb q5 pn od fa c8 ++ (sw_XP pA q5 pa ++ (sw_P uP q5 clP leP riP ltP grP ctP gcP))) (sp_pq' [sw_X a pA n_sh n_rd n_sz n_or n_st n_tb q5 pn od fa c8, sw_XP pA q5 pa, sw_P uP q5 clP leP riP ltP grP ctP gcP] [0, 1, 2] [0, 2] [1] (by decide)) rfl hl.1 (Nat.le_of_ble_eq_true rfl) dX9_tell_65 ⟨Nat.zero_le _, Nat.zero_le _⟩ rfl (fun H locs hW => ?_)
    have q0 := Option.some.inj hf
    obtain ⟨q1, z1⟩ := Prod.mk.inj q0
    subst q1
    subst z1
    exact sp_iret S hr hlk hW hQ dX9_tell_68
  · have hf := sp_ht hf hc
    refine lv_iconst (v := (-1)) hx hb dX9_tell_9 (by decide) ?_
    have q0 := Option.some.inj hf
    obtain ⟨q1, z1⟩ := Prod.mk.inj q0
    subst q1
    subst z1
    exact sp_iret S hr hlk hW hQ dX9_tell_10

def f_X9_show (p1 : Int32) (p2 : Int32) (pn : Int32) (tr : Int32) (leP : Nat → Int32) (ctP : Int32) : Option (Int32 × Int32) := Option.bind (f_X9_isLine p1 p2 pn ctP) (fun r1 => if r1 = 0 then (some ((-1 : Int32), tr)) else (sp_ck 12 p1 (Option.bind (f_X2_kindOf p2 leP ctP) (fun r2 => if r2 = (2 : Int32) then (Option.bind (f_X9_leave (5 : Int32) tr) (fun c4 => some ((90 : Int32), c4))) else (Option.bind (f_X9_leave (4 : Int32) tr) (fun c3 => some (p2, c3)))))))
def rmX9_show : Room := { frames := 2, cells := 0, slots := 0, locals := 43 }
set_option maxRecDepth 4000 in
theorem c_X9_show {l : Launch} {D : va_G} {q5 : Nat → ClassId} (a : Nat → Nat) (pA : Nat) (uP : Nat → Nat) (n_sh : Nat) (n_rd : Nat) (n_sz : Nat) (n_or : Nat) (n_st : Nat) (n_tb : Nat) (pn : Int32) (od : Int32) (fa : Int32) (tr : Int32) (pa : Nat → Option Nat) (clP : Nat → Int32) (leP : Nat → Int32) (riP : Nat → Int32) (ltP : Nat → Int32) (grP : Nat → Int32) (ctP : Int32) (gcP : Int32) (p1 : Int32) (p2 : Int32) (hR_P : vp_in p1 12 → pa p1.toNatClampNeg = some (uP 0)) {r' : Int32} {tr' : Int32} (hf : f_X9_show p1 p2 pn tr leP ctP = some (r', tr')) : sp_Ci l yX9_show wsX9_show rmX9_show D q5 0 [.ref (a 0), .int p1, .int p2] (sw_X a pA n_sh n_rd n_sz n_or n_st n_tb q5 pn od fa tr ++ (sw_XP pA q5 pa ++ (sw_P uP q5 clP leP riP ltP grP ctP gcP))) r' (sw_X a pA n_sh n_rd n_sz n_or n_st n_tb q5 pn od fa tr' ++ (sw_XP pA q5 pa ++ (sw_P uP q5 clP leP riP ltP grP ctP gcP))) := by
  intro sz
  refine sp_of (cc := cX9_show) (maxL := 3) (ret := some .int) (own := RX9) (Qc := sp_Qi D r' (sw_X a pA n_sh n_rd n_sz n_or n_st n_tb q5 pn od fa tr' ++ (sw_XP pA q5 pa ++ (sw_P uP q5 clP leP riP ltP grP ctP gcP)))) (by decide) rfl rfl (Nat.le_of_ble_eq_true rfl) ?_
  intro p e s m args below meth c A ls Q hQ S hr hlk hK hG hA hW hl
  have hx := S.1
  have hb := S.2.1
  unfold f_X9_show at hf
  have inX9 : ∀ w ∈ u_ws RX9 TX9 11, w ∈ wsX9_show := (fun _ h => List.mem_cons_of_mem _ (List.mem_append_left _ (List.mem_append_right _ h)))
  have lk1 := S.2.2.2.2 (Cond.fieldLink RX9 13 "ShortProofs" "proofs" "[LShortProofs$Proof;") (List.mem_of_getElem? (i := 1) rfl)
  refine lv_aload_n hx hb dX9_show_0 rfl (lv_at hl 0 rfl) ?_
  refine lv_iload_n hx hb dX9_show_1 rfl (lv_at hl 1 rfl) ?_
  refine lv_iload_n hx hb dX9_show_2 rfl (lv_at hl 2 rfl) ?_
  obtain ⟨r1, hc1, hf⟩ := sp_hc hf
  refine sp_callViP (rest := []) S hK hG hA hW (c_X9_isLine a pA uP n_sh n_rd n_sz n_or n_st n_tb pn od fa tr pa clP leP riP ltP grP ctP gcP p1 p2 hR_P hc1) (by decide) (cwV 2 S.2.2.2.2 gX9_show_X9_isLine rfl rfl rfl (by decide +kernel) (by decide)) 7 0 rfl rfl (sp_pn _) rfl (WS' := sw_X a pA n_sh n_rd n_sz n_or n_st n_tb q5 pn od fa tr ++ (sw_XP pA q5 pa ++ (sw_P uP q5 clP leP riP ltP grP ctP gcP))) (sp_pn' _) rfl hl.1 (Nat.le_of_ble_eq_true rfl) dX9_show_3 ⟨Nat.zero_le _, Nat.zero_le _⟩ rfl (fun H locs hW => ?_)
  refine lv_if_ne (tgt := 11) hx hb dX9_show_6 (by decide) (fun hc => ?_) (fun hc => ?_)
  · have hf := sp_hf hf hc
    refine lv_aload_n hx hb dX9_show_11 rfl (lv_at hl 0 rfl) ?_
    refine sp_get S hK hW inX9 0 rfl rfl 0 (by decide) lk1 rfl dX9_show_12 ?_
    refine lv_iload_n hx hb dX9_show_15 rfl (lv_at hl 1 rfl) ?_
    obtain ⟨hin, hf⟩ := sp_hck2 hf
    refine sp_aldq S hK hW 1 3 rfl rfl hin (hR_P hin) dX9_show_16 ?_
    refine lv_iload_n hx hb dX9_show_17 rfl (lv_at hl 2 rfl) ?_
    obtain ⟨r2, hc2, hf⟩ := sp_hc hf
    refine sp_callViP (rest := []) S hK hG hA hW (c_X2_kindOf uP clP leP riP ltP grP ctP gcP p2 hc2) (by decide) (cwV 1 S.2.2.2.2 gX9_show_X2_kindOf rfl rfl rfl (by decide +kernel) (by decide)) 1 2 rfl rfl (sp_pq [sw_X a pA n_sh n_rd n_sz n_or n_st n_tb q5 pn od fa tr, sw_XP pA q5 pa, sw_P uP q5 clP leP riP ltP grP ctP gcP] [0, 1, 2] [2] [0, 1] (by decide)) rfl (WS' := sw_X a pA n_sh n_rd n_sz n_or n_st n_tb q5 pn od fa tr ++ (sw_XP pA q5 pa ++ (sw_P uP q5 clP leP riP ltP grP ctP gcP))) (sp_pq' [sw_X a pA n_sh n_rd n_sz n_or n_st n_tb q5 pn od fa tr, sw_XP pA q5 pa, sw_P uP q5 clP leP riP ltP grP ctP gcP] [0, 1, 2] [2] [0, 1] (by decide)) rfl hl.1 (Nat.le_of_ble_eq_true rfl) dX9_show_18 ⟨Nat.zero_le _, Nat.zero_le _⟩ rfl (fun H locs hW => ?_)
    refine lv_iconst (v := 2) hx hb dX9_show_21 (by decide) ?_
    refine lv_icmp_ne (tgt := 33) hx hb dX9_show_22 (by decide) (fun hc => ?_) (fun hc => ?_)
    · have hf := sp_hf hf hc
      refine lv_aload_n hx hb dX9_show_33 rfl (lv_at hl 0 rfl) ?_
      refine lv_iconst (v := 4) hx hb dX9_show_34 (by decide) ?_
      obtain ⟨c3, hc3, hf⟩ := sp_hc hf
      refine sp_callVvP (rest := []) S hK hG hA hW (c_X9_leave a pA n_sh n_rd n_sz n_or n_st n_tb pn od fa tr (4 : Int32) hc3) (by decide) (cwV 1 S.2.2.2.2 gX9_show_X9_leave rfl rfl rfl (by decide +kernel) (by decide)) 7 0 rfl rfl (sp_pq [sw_X a pA n_sh n_rd n_sz n_or n_st n_tb q5 pn od fa tr, sw_XP pA q5 pa, sw_P uP q5 clP leP riP ltP grP ctP gcP] [0, 1, 2] [0] [1, 2] (by decide)) rfl (WS' := sw_X a pA n_sh n_rd n_sz n_or n_st n_tb q5 pn od fa c3 ++ (sw_XP pA q5 pa ++ (sw_P uP q5 clP leP riP ltP grP ctP gcP))) (sp_pq' [sw_X a pA n_sh n_rd n_sz n_or n_st n_tb q5 pn od fa c3, sw_XP pA q5 pa, sw_P uP q5 clP leP riP ltP grP ctP gcP] [0, 1, 2] [0] [1, 2] (by decide)) rfl hl.1 (Nat.le_of_ble_eq_true rfl) dX9_show_35 ⟨Nat.zero_le _, Nat.zero_le _⟩ rfl (fun H locs hW => ?_)
      refine lv_iload_n hx hb dX9_show_38 rfl (lv_at hl 2 rfl) ?_
      have q0 := Option.some.inj hf
      obtain ⟨q1, z1⟩ := Prod.mk.inj q0
      subst q1
      subst z1
      exact sp_iret S hr hlk hW hQ dX9_show_39
    · have hf := sp_ht hf hc
      refine lv_aload_n hx hb dX9_show_25 rfl (lv_at hl 0 rfl) ?_
      refine lv_iconst (v := 5) hx hb dX9_show_26 (by decide) ?_
      obtain ⟨c4, hc4, hf⟩ := sp_hc hf
      refine sp_callVvP (rest := []) S hK hG hA hW (c_X9_leave a pA n_sh n_rd n_sz n_or n_st n_tb pn od fa tr (5 : Int32) hc4) (by decide) (cwV 1 S.2.2.2.2 gX9_show_X9_leave rfl rfl rfl (by decide +kernel) (by decide)) 7 0 rfl rfl (sp_pq [sw_X a pA n_sh n_rd n_sz n_or n_st n_tb q5 pn od fa tr, sw_XP pA q5 pa, sw_P uP q5 clP leP riP ltP grP ctP gcP] [0, 1, 2] [0] [1, 2] (by decide)) rfl (WS' := sw_X a pA n_sh n_rd n_sz n_or n_st n_tb q5 pn od fa c4 ++ (sw_XP pA q5 pa ++ (sw_P uP q5 clP leP riP ltP grP ctP gcP))) (sp_pq' [sw_X a pA n_sh n_rd n_sz n_or n_st n_tb q5 pn od fa c4, sw_XP pA q5 pa, sw_P uP q5 clP leP riP ltP grP ctP gcP] [0, 1, 2] [0] [1, 2] (by decide)) rfl hl.1 (Nat.le_of_ble_eq_true rfl) dX9_show_27 ⟨Nat.zero_le _, Nat.zero_le _⟩ rfl (fun H locs hW => ?_)
      refine lv_bipush (v := 90) hx hb dX9_show_30 (by decide) ?_
      have q0 := Option.some.inj hf
      obtain ⟨q1, z1⟩ := Prod.mk.inj q0
      subst q1
      subst z1
      exact sp_iret S hr hlk hW hQ dX9_show_32
  · have hf := sp_ht hf hc
    refine lv_iconst (v := (-1)) hx hb dX9_show_9 (by decide) ?_
    have q0 := Option.some.inj hf
    obtain ⟨q1, z1⟩ := Prod.mk.inj q0
    subst q1
    subst z1
    exact sp_iret S hr hlk hW hQ dX9_show_10

def f_X9_as (p1 : Int32) (p2 : Int32) (p3 : Int32) (pn : Int32) (fa : Int32) (leP : Nat → Int32) (ctP : Int32) : Option (Int32 × Int32) := Option.bind (f_X9_isLine p1 p2 pn ctP) (fun r1 => if r1 = 0 then (Option.bind (f_X9_unfaulted (-1 : Int32)) (fun q9 => match q9 with | (r11, c12) => some (r11, c12))) else (sp_bnd (fun (c2 : Int32) => Option.bind (f_X9_unfaulted (-2 : Int32)) (fun q9 => match q9 with | (r4, c5) => some (r4, c5))) (fun k3 => if p3 < 0 then (k3 fa) else (if p3 ≤ (2 : Int32) then (sp_ck 12 p1 (Option.bind (f_X2_kindOf p2 leP ctP) (fun r6 => if r6 < p3 then (Option.bind (f_X9_faulted (2 : Int32)) (fun q9 => match q9 with | (r7, c8) => some (r7, c8))) else (Option.bind (f_X9_unfaulted (1 : Int32)) (fun q9 => match q9 with | (r9, c10) => some (r9, c10)))))) else (k3 fa)))))
def rmX9_as : Room := { frames := 2, cells := 0, slots := 0, locals := 43 }
set_option maxRecDepth 4000 in
theorem c_X9_as {l : Launch} {D : va_G} {q5 : Nat → ClassId} (a : Nat → Nat) (pA : Nat) (uP : Nat → Nat) (n_sh : Nat) (n_rd : Nat) (n_sz : Nat) (n_or : Nat) (n_st : Nat) (n_tb : Nat) (pn : Int32) (od : Int32) (fa : Int32) (tr : Int32) (pa : Nat → Option Nat) (clP : Nat → Int32) (leP : Nat → Int32) (riP : Nat → Int32) (ltP : Nat → Int32) (grP : Nat → Int32) (ctP : Int32) (gcP : Int32) (p1 : Int32) (p2 : Int32) (p3 : Int32) (hR_P : vp_in p1 12 → pa p1.toNatClampNeg = some (uP 0)) {r' : Int32} {fa' : Int32} (hf : f_X9_as p1 p2 p3 pn fa leP ctP = some (r', fa')) : sp_Ci l yX9_as wsX9_as rmX9_as D q5 0 [.ref (a 0), .int p1, .int p2, .int p3] (sw_X a pA n_sh n_rd n_sz n_or n_st n_tb q5 pn od fa tr ++ (sw_XP pA q5 pa ++ (sw_P uP q5 clP leP riP ltP grP ctP gcP))) r' (sw_X a pA n_sh n_rd n_sz n_or n_st n_tb q5 pn od fa' tr ++ (sw_XP pA q5 pa ++ (sw_P uP q5 clP leP riP ltP grP ctP gcP))) := by
  intro sz
  refine sp_of (cc := cX9_as) (maxL := 4) (ret := some .int) (own := RX9) (Qc := sp_Qi D r' (sw_X a pA n_sh n_rd n_sz n_or n_st n_tb q5 pn od fa' tr ++ (sw_XP pA q5 pa ++ (sw_P uP q5 clP leP riP ltP grP ctP gcP)))) (by decide) rfl rfl (Nat.le_of_ble_eq_true rfl) ?_
  intro p e s m args below meth c A ls Q hQ S hr hlk hK hG hA hW hl
  have hx := S.1
  have hb := S.2.1
  unfold f_X9_as at hf
  have inX9 : ∀ w ∈ u_ws RX9 TX9 11, w ∈ wsX9_as := (fun _ h => List.mem_cons_of_mem _ (List.mem_append_left _ (List.mem_append_right _ h)))
  have lk1 := S.2.2.2.2 (Cond.fieldLink RX9 13 "ShortProofs" "proofs" "[LShortProofs$Proof;") (List.mem_of_getElem? (i := 1) rfl)
  refine lv_aload_n hx hb dX9_as_0 rfl (lv_at hl 0 rfl) ?_
  refine lv_iload_n hx hb dX9_as_1 rfl (lv_at hl 1 rfl) ?_
  refine lv_iload_n hx hb dX9_as_2 rfl (lv_at hl 2 rfl) ?_
  obtain ⟨r1, hc1, hf⟩ := sp_hc hf
  refine sp_callViP (rest := []) S hK hG hA hW (c_X9_isLine a pA uP n_sh n_rd n_sz n_or n_st n_tb pn od fa tr pa clP leP riP ltP grP ctP gcP p1 p2 hR_P hc1) (by decide) (cwV 2 S.2.2.2.2 gX9_as_X9_isLine rfl rfl rfl (by decide +kernel) (by decide)) 7 0 rfl rfl (sp_pn _) rfl (WS' := sw_X a pA n_sh n_rd n_sz n_or n_st n_tb q5 pn od fa tr ++ (sw_XP pA q5 pa ++ (sw_P uP q5 clP leP riP ltP grP ctP gcP))) (sp_pn' _) rfl hl.1 (Nat.le_of_ble_eq_true rfl) dX9_as_3 ⟨Nat.zero_le _, Nat.zero_le _⟩ rfl (fun H locs hW => ?_)
  refine lv_if_ne (tgt := 15) hx hb dX9_as_6 (by decide) (fun hc => ?_) (fun hc => ?_)
  · have hf := sp_hf hf hc
    refine lv_iload_n hx hb dX9_as_15 rfl (lv_at hl 3 rfl) ?_
    obtain ⟨k3, ek3, hf⟩ := sp_hb hf
    have hj3 : ∀ (c2 : Int32) (H : Heap) (locs : List Loc) (ls : Array Slot), k3 c2 = some (r', fa') → sp_wd D A s.heap (sw_X a pA n_sh n_rd n_sz n_or n_st n_tb q5 pn od c2 tr ++ (sw_XP pA q5 pa ++ (sw_P uP q5 clP leP riP ltP grP ctP gcP))) H locs → lv_has ls 4 [(0, .ref (a 0))] → W p l e rmX9_as s m args below meth c H locs 0 0 Q (F0 m 24 ls []) := by
      intro c2 H locs ls hf hW hl
      rw [ek3] at hf
      refine lv_aload_n hx hb dX9_as_24 rfl (lv_at hl 0 rfl) ?_
      refine lv_bipush (v := (-2)) hx hb dX9_as_25 (by decide) ?_
      obtain ⟨⟨r4, c5⟩, hc5, hf⟩ := sp_hc hf
      refine sp_callViP (rest := []) S hK hG hA hW (c_X9_unfaulted a pA n_sh n_rd n_sz n_or n_st n_tb pn od c2 tr (-2 : Int32) hc5) (by decide) (cwV 1 S.2.2.2.2 gX9_as_X9_unfaulted rfl rfl rfl (by decide +kernel) (by decide)) 7 0 rfl rfl (sp_pq [sw_X a pA n_sh n_rd n_sz n_or n_st n_tb q5 pn od c2 tr, sw_XP pA q5 pa, sw_P uP q5 clP leP riP ltP grP ctP gcP] [0, 1, 2] [0] [1, 2] (by decide)) rfl (WS' := sw_X a pA n_sh n_rd n_sz n_or n_st n_tb q5 pn od c5 tr ++ (sw_XP pA q5 pa ++ (sw_P uP q5 clP leP riP ltP grP ctP gcP))) (sp_pq' [sw_X a pA n_sh n_rd n_sz n_or n_st n_tb q5 pn od c5 tr, sw_XP pA q5 pa, sw_P uP q5 clP leP riP ltP grP ctP gcP] [0, 1, 2] [0] [1, 2] (by decide)) rfl hl.1 (Nat.le_of_ble_eq_true rfl) dX9_as_27 ⟨Nat.zero_le _, Nat.zero_le _⟩ rfl (fun H locs hW => ?_)
      have q0 := Option.some.inj hf
      obtain ⟨q1, z1⟩ := Prod.mk.inj q0
      subst q1
      subst z1
      exact sp_iret S hr hlk hW hQ dX9_as_30
    refine lv_if_lt (tgt := 24) hx hb dX9_as_16 (by decide) (fun hc => ?_) (fun hc => ?_)
    · have hf := sp_ht hf hc
      exact hj3 _ _ _ _ hf hW (lv_sub hl [0] rfl)
    · have hf := sp_hf hf hc
      refine lv_iload_n hx hb dX9_as_19 rfl (lv_at hl 3 rfl) ?_
      refine lv_iconst (v := 2) hx hb dX9_as_20 (by decide) ?_
      refine lv_icmp_le (tgt := 31) hx hb dX9_as_21 (by decide) (fun hc => ?_) (fun hc => ?_)
      · have hf := sp_ht hf hc
        refine lv_iload_n hx hb dX9_as_31 rfl (lv_at hl 3 rfl) ?_
        refine lv_aload_n hx hb dX9_as_32 rfl (lv_at hl 0 rfl) ?_
        refine sp_get S hK hW inX9 0 rfl rfl 0 (by decide) lk1 rfl dX9_as_33 ?_
        refine lv_iload_n hx hb dX9_as_36 rfl (lv_at hl 1 rfl) ?_
        obtain ⟨hin, hf⟩ := sp_hck2 hf
        refine sp_aldq S hK hW 1 3 rfl rfl hin (hR_P hin) dX9_as_37 ?_
        refine lv_iload_n hx hb dX9_as_38 rfl (lv_at hl 2 rfl) ?_
        obtain ⟨r6, hc6, hf⟩ := sp_hc hf
        refine sp_callViP (rest := [.int p3]) S hK hG hA hW (c_X2_kindOf uP clP leP riP ltP grP ctP gcP p2 hc6) (by decide) (cwV 1 S.2.2.2.2 gX9_as_X2_kindOf rfl rfl rfl (by decide +kernel) (by decide)) 1 2 rfl rfl (sp_pq [sw_X a pA n_sh n_rd n_sz n_or n_st n_tb q5 pn od fa tr, sw_XP pA q5 pa, sw_P uP q5 clP leP riP ltP grP ctP gcP] [0, 1, 2] [2] [0, 1] (by decide)) rfl (WS' := sw_X a pA n_sh n_rd n_sz n_or n_st n_tb q5 pn od fa tr ++ (sw_XP pA q5 pa ++ (sw_P uP q5 clP leP riP ltP grP ctP gcP))) (sp_pq' [sw_X a pA n_sh n_rd n_sz n_or n_st n_tb q5 pn od fa tr, sw_XP pA q5 pa, sw_P uP q5 clP leP riP ltP grP ctP gcP] [0, 1, 2] [2] [0, 1] (by decide)) rfl hl.1 (Nat.le_of_ble_eq_true rfl) dX9_as_39 ⟨Nat.zero_le _, Nat.zero_le _⟩ rfl (fun H locs hW => ?_)
        refine lv_icmp_gt (tgt := 53) hx hb dX9_as_42 (by decide) (fun hc => ?_) (fun hc => ?_)
        · have hf := sp_ht hf hc
          refine lv_aload_n hx hb dX9_as_53 rfl (lv_at hl 0 rfl) ?_
          refine lv_iconst (v := 2) hx hb dX9_as_54 (by decide) ?_
          obtain ⟨⟨r7, c8⟩, hc8, hf⟩ := sp_hc hf
          refine sp_callViP (rest := []) S hK hG hA hW (c_X9_faulted a pA n_sh n_rd n_sz n_or n_st n_tb pn od fa tr (2 : Int32) hc8) (by decide) (cwV 1 S.2.2.2.2 gX9_as_X9_faulted rfl rfl rfl (by decide +kernel) (by decide)) 7 0 rfl rfl (sp_pq [sw_X a pA n_sh n_rd n_sz n_or n_st n_tb q5 pn od fa tr, sw_XP pA q5 pa, sw_P uP q5 clP leP riP ltP grP ctP gcP] [0, 1, 2] [0] [1, 2] (by decide)) rfl (WS' := sw_X a pA n_sh n_rd n_sz n_or n_st n_tb q5 pn od c8 tr ++ (sw_XP pA q5 pa ++ (sw_P uP q5 clP leP riP ltP grP ctP gcP))) (sp_pq' [sw_X a pA n_sh n_rd n_sz n_or n_st n_tb q5 pn od c8 tr, sw_XP pA q5 pa, sw_P uP q5 clP leP riP ltP grP ctP gcP] [0, 1, 2] [0] [1, 2] (by decide)) rfl hl.1 (Nat.le_of_ble_eq_true rfl) dX9_as_55 ⟨Nat.zero_le _, Nat.zero_le _⟩ rfl (fun H locs hW => ?_)
          have q0 := Option.some.inj hf
          obtain ⟨q1, z1⟩ := Prod.mk.inj q0
          subst q1
          subst z1
          exact sp_iret S hr hlk hW hQ dX9_as_58
        · have hf := sp_hf hf hc
          refine lv_aload_n hx hb dX9_as_45 rfl (lv_at hl 0 rfl) ?_
          refine lv_iconst (v := 1) hx hb dX9_as_46 (by decide) ?_
          obtain ⟨⟨r9, c10⟩, hc10, hf⟩ := sp_hc hf
          refine sp_callViP (rest := []) S hK hG hA hW (c_X9_unfaulted a pA n_sh n_rd n_sz n_or n_st n_tb pn od fa tr (1 : Int32) hc10) (by decide) (cwV 1 S.2.2.2.2 gX9_as_X9_unfaulted rfl rfl rfl (by decide +kernel) (by decide)) 7 0 rfl rfl (sp_pq [sw_X a pA n_sh n_rd n_sz n_or n_st n_tb q5 pn od fa tr, sw_XP pA q5 pa, sw_P uP q5 clP leP riP ltP grP ctP gcP] [0, 1, 2] [0] [1, 2] (by decide)) rfl (WS' := sw_X a pA n_sh n_rd n_sz n_or n_st n_tb q5 pn od c10 tr ++ (sw_XP pA q5 pa ++ (sw_P uP q5 clP leP riP ltP grP ctP gcP))) (sp_pq' [sw_X a pA n_sh n_rd n_sz n_or n_st n_tb q5 pn od c10 tr, sw_XP pA q5 pa, sw_P uP q5 clP leP riP ltP grP ctP gcP] [0, 1, 2] [0] [1, 2] (by decide)) rfl hl.1 (Nat.le_of_ble_eq_true rfl) dX9_as_47 ⟨Nat.zero_le _, Nat.zero_le _⟩ rfl (fun H locs hW => ?_)
          refine lv_goto (tgt := 58) hx hb dX9_as_50 (by decide) ?_
          have q0 := Option.some.inj hf
          obtain ⟨q1, z1⟩ := Prod.mk.inj q0
          subst q1
          subst z1
          exact sp_iret S hr hlk hW hQ dX9_as_58
      · have hf := sp_hf hf hc
        exact hj3 _ _ _ _ hf hW (lv_sub hl [0] rfl)
  · have hf := sp_ht hf hc
    refine lv_aload_n hx hb dX9_as_9 rfl (lv_at hl 0 rfl) ?_
    refine lv_iconst (v := (-1)) hx hb dX9_as_10 (by decide) ?_
    obtain ⟨⟨r11, c12⟩, hc12, hf⟩ := sp_hc hf
    refine sp_callViP (rest := []) S hK hG hA hW (c_X9_unfaulted a pA n_sh n_rd n_sz n_or n_st n_tb pn od fa tr (-1 : Int32) hc12) (by decide) (cwV 1 S.2.2.2.2 gX9_as_X9_unfaulted rfl rfl rfl (by decide +kernel) (by decide)) 7 0 rfl rfl (sp_pq [sw_X a pA n_sh n_rd n_sz n_or n_st n_tb q5 pn od fa tr, sw_XP pA q5 pa, sw_P uP q5 clP leP riP ltP grP ctP gcP] [0, 1, 2] [0] [1, 2] (by decide)) rfl (WS' := sw_X a pA n_sh n_rd n_sz n_or n_st n_tb q5 pn od c12 tr ++ (sw_XP pA q5 pa ++ (sw_P uP q5 clP leP riP ltP grP ctP gcP))) (sp_pq' [sw_X a pA n_sh n_rd n_sz n_or n_st n_tb q5 pn od c12 tr, sw_XP pA q5 pa, sw_P uP q5 clP leP riP ltP grP ctP gcP] [0, 1, 2] [0] [1, 2] (by decide)) rfl hl.1 (Nat.le_of_ble_eq_true rfl) dX9_as_11 ⟨Nat.zero_le _, Nat.zero_le _⟩ rfl (fun H locs hW => ?_)
    have q0 := Option.some.inj hf
    obtain ⟨q1, z1⟩ := Prod.mk.inj q0
    subst q1
    subst z1
    exact sp_iret S hr hlk hW hQ dX9_as_14

def f_X9_trace (tr : Int32) : Option (Int32) := some tr
def rmX9_trace : Room := { frames := 0, cells := 0, slots := 0, locals := 0 }
set_option maxRecDepth 4000 in
theorem c_X9_trace {l : Launch} {D : va_G} {q5 : Nat → ClassId} (a : Nat → Nat) (n_pr : Nat) (n_sh : Nat) (n_rd : Nat) (n_sz : Nat) (n_or : Nat) (n_st : Nat) (n_tb : Nat) (pn : Int32) (od : Int32) (fa : Int32) (tr : Int32) {r' : Int32} (hf : f_X9_trace tr = some r') : sp_Ci l yX9_trace wsX9_trace rmX9_trace D q5 0 [.ref (a 0)] (sw_X a n_pr n_sh n_rd n_sz n_or n_st n_tb q5 pn od fa tr) r' (sw_X a n_pr n_sh n_rd n_sz n_or n_st n_tb q5 pn od fa tr) := by
  intro sz
  refine sp_of (cc := cX9_trace) (maxL := 1) (ret := some .int) (own := RX9) (Qc := sp_Qi D r' (sw_X a n_pr n_sh n_rd n_sz n_or n_st n_tb q5 pn od fa tr)) (by decide) rfl rfl (Nat.le_of_ble_eq_true rfl) ?_
  intro p e s m args below meth c A ls Q hQ S hr hlk hK hG hA hW hl
  have hx := S.1
  have hb := S.2.1
  unfold f_X9_trace at hf
  have inX9 : ∀ w ∈ u_ws RX9 TX9 11, w ∈ wsX9_trace := (fun _ h => List.mem_cons_of_mem _ (List.mem_append_right _ h))
  have lk1 := S.2.2.2.2 (Cond.fieldLink RX9 295 "ShortProofs" "traced" "I") (List.mem_of_getElem? (i := 1) rfl)
  refine lv_aload_n hx hb dX9_trace_0 rfl (lv_at hl 0 rfl) ?_
  refine sp_get S hK hW inX9 0 rfl rfl 10 (by decide) lk1 rfl dX9_trace_1 ?_
  have q0 := Option.some.inj hf
  subst q0
  exact sp_iret S hr hlk hW hQ dX9_trace_4

def f_X9_fault (fa : Int32) : Option (Int32) := some fa
def rmX9_fault : Room := { frames := 0, cells := 0, slots := 0, locals := 0 }
set_option maxRecDepth 4000 in
theorem c_X9_fault {l : Launch} {D : va_G} {q5 : Nat → ClassId} (a : Nat → Nat) (n_pr : Nat) (n_sh : Nat) (n_rd : Nat) (n_sz : Nat) (n_or : Nat) (n_st : Nat) (n_tb : Nat) (pn : Int32) (od : Int32) (fa : Int32) (tr : Int32) {r' : Int32} (hf : f_X9_fault fa = some r') : sp_Ci l yX9_fault wsX9_fault rmX9_fault D q5 0 [.ref (a 0)] (sw_X a n_pr n_sh n_rd n_sz n_or n_st n_tb q5 pn od fa tr) r' (sw_X a n_pr n_sh n_rd n_sz n_or n_st n_tb q5 pn od fa tr) := by
  intro sz
  refine sp_of (cc := cX9_fault) (maxL := 1) (ret := some .int) (own := RX9) (Qc := sp_Qi D r' (sw_X a n_pr n_sh n_rd n_sz n_or n_st n_tb q5 pn od fa tr)) (by decide) rfl rfl (Nat.le_of_ble_eq_true rfl) ?_
  intro p e s m args below meth c A ls Q hQ S hr hlk hK hG hA hW hl
  have hx := S.1
  have hb := S.2.1
  unfold f_X9_fault at hf
  have inX9 : ∀ w ∈ u_ws RX9 TX9 11, w ∈ wsX9_fault := (fun _ h => List.mem_cons_of_mem _ (List.mem_append_right _ h))
  have lk1 := S.2.2.2.2 (Cond.fieldLink RX9 270 "ShortProofs" "latestFault" "I") (List.mem_of_getElem? (i := 1) rfl)
  refine lv_aload_n hx hb dX9_fault_0 rfl (lv_at hl 0 rfl) ?_
  refine sp_get S hK hW inX9 0 rfl rfl 9 (by decide) lk1 rfl dX9_fault_1 ?_
  have q0 := Option.some.inj hf
  subst q0
  exact sp_iret S hr hlk hW hQ dX9_fault_4
