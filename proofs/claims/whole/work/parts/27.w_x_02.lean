def f_X9_shared_al (p1 : Int32) (p2 : Int32) (pn : Int32) (clP : Nat → Int32) (ctP : Int32) : Option (Int32) := Option.bind (f_X9_isProof p1 pn) (fun r1 => if r1 = 0 then (some (-1 : Int32)) else (Option.bind (f_X9_isProof p2 pn) (fun r2 => if r2 = 0 then (some (-1 : Int32)) else (sp_ck 12 p1 (sp_ck 12 p2 (Option.bind (f_X2_unlikeIn_al clP ctP) (fun r3 => some r3)))))))
def rmX9_shared_al : Room := { frames := 2, cells := 0, slots := 0, locals := 46 }
set_option maxRecDepth 4000 in
theorem c_X9_shared_al {l : Launch} {D : va_G} {q5 : Nat → ClassId} (a : Nat → Nat) (pA : Nat) (uP : Nat → Nat) (n_sh : Nat) (n_rd : Nat) (n_sz : Nat) (n_or : Nat) (n_st : Nat) (n_tb : Nat) (pn : Int32) (od : Int32) (fa : Int32) (tr : Int32) (pa : Nat → Option Nat) (clP : Nat → Int32) (leP : Nat → Int32) (riP : Nat → Int32) (ltP : Nat → Int32) (grP : Nat → Int32) (ctP : Int32) (gcP : Int32) (p1 : Int32) (p2 : Int32) (hR_P : vp_in p1 12 → pa p1.toNatClampNeg = some (uP 0)) (hR_Q : vp_in p2 12 → pa p2.toNatClampNeg = some (uP 0)) {r' : Int32} (hf : f_X9_shared_al p1 p2 pn clP ctP = some r') : sp_Ci l yX9_shared wsX9_shared rmX9_shared_al D q5 0 [.ref (a 0), .int p1, .int p2] (sw_X a pA n_sh n_rd n_sz n_or n_st n_tb q5 pn od fa tr ++ (sw_XP pA q5 pa ++ (sw_P uP q5 clP leP riP ltP grP ctP gcP))) r' (sw_X a pA n_sh n_rd n_sz n_or n_st n_tb q5 pn od fa tr ++ (sw_XP pA q5 pa ++ (sw_P uP q5 clP leP riP ltP grP ctP gcP))) := by
  intro sz
  refine sp_of (cc := cX9_shared) (maxL := 3) (ret := some .int) (own := RX9) (Qc := sp_Qi D r' (sw_X a pA n_sh n_rd n_sz n_or n_st n_tb q5 pn od fa tr ++ (sw_XP pA q5 pa ++ (sw_P uP q5 clP leP riP ltP grP ctP gcP)))) (by decide) rfl rfl (Nat.le_of_ble_eq_true rfl) ?_
  intro p e s m args below meth c A ls Q hQ S hr hlk hK hG hA hW hl
  have hx := S.1
  have hb := S.2.1
  unfold f_X9_shared_al at hf
  have inX9 : ∀ w ∈ u_ws RX9 TX9 11, w ∈ wsX9_shared := (fun _ h => List.mem_cons_of_mem _ (List.mem_append_left _ (List.mem_append_right _ h)))
  have lk1 := S.2.2.2.2 (Cond.fieldLink RX9 13 "ShortProofs" "proofs" "[LShortProofs$Proof;") (List.mem_of_getElem? (i := 1) rfl)
  refine lv_aload_n hx hb dX9_shared_0 rfl (lv_at hl 0 rfl) ?_
  refine lv_iload_n hx hb dX9_shared_1 rfl (lv_at hl 1 rfl) ?_
  obtain ⟨r1, hc1, hf⟩ := sp_hc hf
  refine sp_callViP (rest := []) S hK hG hA hW (c_X9_isProof a pA n_sh n_rd n_sz n_or n_st n_tb pn od fa tr p1 hc1) (by decide) (cwV 1 S.2.2.2.2 gX9_shared_X9_isProof rfl rfl rfl (by decide +kernel) (by decide)) 7 0 rfl rfl (sp_pq [sw_X a pA n_sh n_rd n_sz n_or n_st n_tb q5 pn od fa tr, sw_XP pA q5 pa, sw_P uP q5 clP leP riP ltP grP ctP gcP] [0, 1, 2] [0] [1, 2] (by decide)) rfl (WS' := sw_X a pA n_sh n_rd n_sz n_or n_st n_tb q5 pn od fa tr ++ (sw_XP pA q5 pa ++ (sw_P uP q5 clP leP riP ltP grP ctP gcP))) (sp_pq' [sw_X a pA n_sh n_rd n_sz n_or n_st n_tb q5 pn od fa tr, sw_XP pA q5 pa, sw_P uP q5 clP leP riP ltP grP ctP gcP] [0, 1, 2] [0] [1, 2] (by decide)) rfl hl.1 (Nat.le_of_ble_eq_true rfl) dX9_shared_2 ⟨Nat.zero_le _, Nat.zero_le _⟩ rfl (fun H locs hW => ?_)
  refine lv_if_eq (tgt := 16) hx hb dX9_shared_5 (by decide) (fun hc => ?_) (fun hc => ?_)
  · have hf := sp_ht hf hc
    refine lv_iconst (v := (-1)) hx hb dX9_shared_16 (by decide) ?_
    have q0 := Option.some.inj hf
    subst q0
    exact sp_iret S hr hlk hW hQ dX9_shared_17
  · have hf := sp_hf hf hc
    refine lv_aload_n hx hb dX9_shared_8 rfl (lv_at hl 0 rfl) ?_
    refine lv_iload_n hx hb dX9_shared_9 rfl (lv_at hl 2 rfl) ?_
    obtain ⟨r2, hc2, hf⟩ := sp_hc hf
    refine sp_callViP (rest := []) S hK hG hA hW (c_X9_isProof a pA n_sh n_rd n_sz n_or n_st n_tb pn od fa tr p2 hc2) (by decide) (cwV 1 S.2.2.2.2 gX9_shared_X9_isProof rfl rfl rfl (by decide +kernel) (by decide)) 7 0 rfl rfl (sp_pq [sw_X a pA n_sh n_rd n_sz n_or n_st n_tb q5 pn od fa tr, sw_XP pA q5 pa, sw_P uP q5 clP leP riP ltP grP ctP gcP] [0, 1, 2] [0] [1, 2] (by decide)) rfl (WS' := sw_X a pA n_sh n_rd n_sz n_or n_st n_tb q5 pn od fa tr ++ (sw_XP pA q5 pa ++ (sw_P uP q5 clP leP riP ltP grP ctP gcP))) (sp_pq' [sw_X a pA n_sh n_rd n_sz n_or n_st n_tb q5 pn od fa tr, sw_XP pA q5 pa, sw_P uP q5 clP leP riP ltP grP ctP gcP] [0, 1, 2] [0] [1, 2] (by decide)) rfl hl.1 (Nat.le_of_ble_eq_true rfl) dX9_shared_10 ⟨Nat.zero_le _, Nat.zero_le _⟩ rfl (fun H locs hW => ?_)
    refine lv_if_ne (tgt := 18) hx hb dX9_shared_13 (by decide) (fun hc => ?_) (fun hc => ?_)
    · have hf := sp_hf hf hc
      refine lv_aload_n hx hb dX9_shared_18 rfl (lv_at hl 0 rfl) ?_
      refine sp_get S hK hW inX9 0 rfl rfl 0 (by decide) lk1 rfl dX9_shared_19 ?_
      refine lv_iload_n hx hb dX9_shared_22 rfl (lv_at hl 1 rfl) ?_
      obtain ⟨hin, hf⟩ := sp_hck2 hf
      refine sp_aldq S hK hW 1 3 rfl rfl hin (hR_P hin) dX9_shared_23 ?_
      refine lv_aload_n hx hb dX9_shared_24 rfl (lv_at hl 0 rfl) ?_
      refine sp_get S hK hW inX9 0 rfl rfl 0 (by decide) lk1 rfl dX9_shared_25 ?_
      refine lv_iload_n hx hb dX9_shared_28 rfl (lv_at hl 2 rfl) ?_
      obtain ⟨hin, hf⟩ := sp_hck2 hf
      refine sp_aldq S hK hW 1 3 rfl rfl hin (hR_Q hin) dX9_shared_29 ?_
      obtain ⟨r3, hc3, hf⟩ := sp_hc hf
      refine sp_callViP (rest := []) S hK hG hA hW (c_X2_unlikeIn_al uP clP leP riP ltP grP ctP gcP hc3) (by decide) (cwV 1 S.2.2.2.2 gX9_shared_X2_unlikeIn rfl rfl rfl (by decide +kernel) (by decide)) 1 2 rfl rfl (sp_pq [sw_X a pA n_sh n_rd n_sz n_or n_st n_tb q5 pn od fa tr, sw_XP pA q5 pa, sw_P uP q5 clP leP riP ltP grP ctP gcP] [0, 1, 2] [2] [0, 1] (by decide)) rfl (WS' := sw_X a pA n_sh n_rd n_sz n_or n_st n_tb q5 pn od fa tr ++ (sw_XP pA q5 pa ++ (sw_P uP q5 clP leP riP ltP grP ctP gcP))) (sp_pq' [sw_X a pA n_sh n_rd n_sz n_or n_st n_tb q5 pn od fa tr, sw_XP pA q5 pa, sw_P uP q5 clP leP riP ltP grP ctP gcP] [0, 1, 2] [2] [0, 1] (by decide)) rfl hl.1 (Nat.le_of_ble_eq_true rfl) dX9_shared_30 ⟨Nat.zero_le _, Nat.zero_le _⟩ rfl (fun H locs hW => ?_)
      have q0 := Option.some.inj hf
      subst q0
      exact sp_iret S hr hlk hW hQ dX9_shared_33
    · have hf := sp_ht hf hc
      refine lv_iconst (v := (-1)) hx hb dX9_shared_16 (by decide) ?_
      have q0 := Option.some.inj hf
      subst q0
      exact sp_iret S hr hlk hW hQ dX9_shared_17

def f_X9_core (p1 : Int32) (p2 : Int32) (p3 : Int32) (pn : Int32) (clP : Nat → Int32) (grP : Nat → Int32) (gcP : Int32) (tgU : Nat → Int64) : Option (Int32 × (Nat → Int64)) := Option.bind (f_X9_isProof p1 pn) (fun r1 => if r1 = 0 then (some ((-1 : Int32), tgU)) else (sp_ck 12 p1 (if gcP ≤ (10 : Int32) then (if p2 < 0 then (some ((-2 : Int32), tgU)) else (if (3 : Int32) < p2 then (some ((-2 : Int32), tgU)) else (sp_bnd (Option.bind (f_X8_fillTogether tgU clP grP gcP) (fun c3 => if p2 = (0 : Int32) then (Option.bind (f_X8_leastCore ((1 : Int32) <<< (gcP &&& 31)) c3) (fun r4 => some (r4, c3))) else (if p2 = (1 : Int32) then (Option.bind (f_X8_bareCores ((1 : Int32) <<< (gcP &&& 31)) c3) (fun r5 => some (r5, c3))) else (if p2 = (2 : Int32) then (Option.bind (f_X8_isCore p3 c3) (fun r6 => if r6 = 0 then (some ((0 : Int32), c3)) else (some ((1 : Int32), c3)))) else (Option.bind (f_X8_isBare p3 c3) (fun r7 => if r7 = 0 then (some ((0 : Int32), c3)) else (some ((1 : Int32), c3)))))))) (fun k2 => if p2 ≤ (1 : Int32) then k2 else (Option.bind (f_X9_isGroundSet p3 gcP) (fun r8 => if r8 = 0 then (some ((-2 : Int32), tgU)) else k2)))))) else (some ((-3 : Int32), tgU)))))
def rmX9_core : Room := { frames := 3, cells := 0, slots := 0, locals := 69 }
set_option maxRecDepth 4000 in
theorem c_X9_core {l : Launch} {D : va_G} {q5 : Nat → ClassId} (a : Nat → Nat) (pA : Nat) (uP : Nat → Nat) (uU : Nat → Nat) (n_sh : Nat) (n_rd : Nat) (n_sz : Nat) (n_or : Nat) (n_st : Nat) (pn : Int32) (od : Int32) (fa : Int32) (tr : Int32) (pa : Nat → Option Nat) (clP : Nat → Int32) (leP : Nat → Int32) (riP : Nat → Int32) (ltP : Nat → Int32) (grP : Nat → Int32) (ctP : Int32) (gcP : Int32) (tgU : Nat → Int64) (btU : Nat → Int64) (p1 : Int32) (p2 : Int32) (p3 : Int32) (hR_P : vp_in p1 12 → pa p1.toNatClampNeg = some (uP 0)) {r' : Int32} {tgU' : Nat → Int64} (hf : f_X9_core p1 p2 p3 pn clP grP gcP tgU = some (r', tgU')) : sp_Ci l yX9_core wsX9_core rmX9_core D q5 2 [.ref (a 0), .int p1, .int p2, .int p3] (sw_X a pA n_sh n_rd n_sz n_or n_st (uU 0) q5 pn od fa tr ++ (sw_XP pA q5 pa ++ (sw_P uP q5 clP leP riP ltP grP ctP gcP ++ (sw_U uU q5 tgU btU)))) r' (sw_X a pA n_sh n_rd n_sz n_or n_st (uU 0) q5 pn od fa tr ++ (sw_XP pA q5 pa ++ (sw_P uP q5 clP leP riP ltP grP ctP gcP ++ (sw_U uU q5 tgU' btU)))) := by
  intro sz
  refine sp_of (cc := cX9_core) (maxL := 5) (ret := some .int) (own := RX9) (Qc := sp_Qi D r' (sw_X a pA n_sh n_rd n_sz n_or n_st (uU 0) q5 pn od fa tr ++ (sw_XP pA q5 pa ++ (sw_P uP q5 clP leP riP ltP grP ctP gcP ++ (sw_U uU q5 tgU' btU))))) (by decide) rfl rfl (Nat.le_of_ble_eq_true rfl) ?_
  intro p e s m args below meth c A ls Q hQ S hr hlk hK hG hA hW hl
  have hx := S.1
  have hb := S.2.1
  unfold f_X9_core at hf
  have inX2 : ∀ w ∈ u_ws RX2 TX2 7, w ∈ wsX9_core := (fun _ h => List.mem_cons_of_mem _ (List.mem_append_left _ (List.mem_append_right _ h)))
  have inX9 : ∀ w ∈ u_ws RX9 TX9 11, w ∈ wsX9_core := (fun _ h => List.mem_cons_of_mem _ (List.mem_append_left _ (List.mem_append_left _ (List.mem_append_right _ h))))
  have lk1 := S.2.2.2.2 (Cond.fieldLink RX9 13 "ShortProofs" "proofs" "[LShortProofs$Proof;") (List.mem_of_getElem? (i := 1) rfl)
  have lk2 := S.2.2.2.2 (Cond.fieldLink RX9 141 "ShortProofs$Proof" "groundCount" "I") (List.mem_of_getElem? (i := 2) rfl)
  have lk3 := S.2.2.2.2 (Cond.fieldLink RX9 56 "ShortProofs" "tables" "LShortProofs$Truths;") (List.mem_of_getElem? (i := 3) rfl)
  refine lv_aload_n hx hb dX9_core_0 rfl (lv_at hl 0 rfl) ?_
  refine lv_iload_n hx hb dX9_core_1 rfl (lv_at hl 1 rfl) ?_
  obtain ⟨r1, hc1, hf⟩ := sp_hc hf
  refine sp_callViP (rest := []) S hK hG hA hW (c_X9_isProof a pA n_sh n_rd n_sz n_or n_st (uU 0) pn od fa tr p1 hc1) (by decide) (cwV 1 S.2.2.2.2 gX9_core_X9_isProof rfl rfl rfl (by decide +kernel) (by decide)) 7 0 rfl rfl (sp_pq [sw_X a pA n_sh n_rd n_sz n_or n_st (uU 0) q5 pn od fa tr, sw_XP pA q5 pa, sw_P uP q5 clP leP riP ltP grP ctP gcP, sw_U uU q5 tgU btU] [0, 1, 2, 3] [0] [1, 2, 3] (by decide)) rfl (WS' := sw_X a pA n_sh n_rd n_sz n_or n_st (uU 0) q5 pn od fa tr ++ (sw_XP pA q5 pa ++ (sw_P uP q5 clP leP riP ltP grP ctP gcP ++ (sw_U uU q5 tgU btU)))) (sp_pq' [sw_X a pA n_sh n_rd n_sz n_or n_st (uU 0) q5 pn od fa tr, sw_XP pA q5 pa, sw_P uP q5 clP leP riP ltP grP ctP gcP, sw_U uU q5 tgU btU] [0, 1, 2, 3] [0] [1, 2, 3] (by decide)) rfl hl.1 (Nat.le_of_ble_eq_true rfl) dX9_core_2 ⟨Nat.zero_le _, Nat.zero_le _⟩ rfl (fun H locs hW => ?_)
  refine lv_if_ne (tgt := 10) hx hb dX9_core_5 (by decide) (fun hc => ?_) (fun hc => ?_)
  · have hf := sp_hf hf hc
    refine lv_aload_n hx hb dX9_core_10 rfl (lv_at hl 0 rfl) ?_
    refine sp_get S hK hW inX9 0 rfl rfl 0 (by decide) lk1 rfl dX9_core_11 ?_
    refine lv_iload_n hx hb dX9_core_14 rfl (lv_at hl 1 rfl) ?_
    obtain ⟨hin, hf⟩ := sp_hck2 hf
    refine sp_aldq S hK hW 1 3 rfl rfl hin (hR_P hin) dX9_core_15 ?_
    refine lv_astore (lv' := [(4, .ref (uP 0)), (0, .ref (a 0)), (1, .int p1), (2, .int p2), (3, .int p3)]) hx hb dX9_core_16 hl (by decide) rfl (fun ls hl => ?_)
    refine lv_aload hx hb dX9_core_18 (lv_at hl 0 rfl) ?_
    refine sp_get S hK hW inX2 2 rfl rfl 6 (by decide) lk2 rfl dX9_core_20 ?_
    refine lv_bipush (v := 10) hx hb dX9_core_23 (by decide) ?_
    refine lv_icmp_le (tgt := 31) hx hb dX9_core_25 (by decide) (fun hc => ?_) (fun hc => ?_)
    · have hf := sp_ht hf hc
      refine lv_iload_n hx hb dX9_core_31 rfl (lv_at hl 3 rfl) ?_
      refine lv_if_lt (tgt := 54) hx hb dX9_core_32 (by decide) (fun hc => ?_) (fun hc => ?_)
      · have hf := sp_ht hf hc
        refine lv_bipush (v := (-2)) hx hb dX9_core_54 (by decide) ?_
        have q0 := Option.some.inj hf
        obtain ⟨q1, z1⟩ := Prod.mk.inj q0
        subst q1
        subst z1
        exact sp_iret S hr hlk hW hQ dX9_core_56
      · have hf := sp_hf hf hc
        refine lv_iload_n hx hb dX9_core_35 rfl (lv_at hl 3 rfl) ?_
        refine lv_iconst (v := 3) hx hb dX9_core_36 (by decide) ?_
        refine lv_icmp_gt (tgt := 54) hx hb dX9_core_37 (by decide) (fun hc => ?_) (fun hc => ?_)
        · have hf := sp_ht hf hc
          refine lv_bipush (v := (-2)) hx hb dX9_core_54 (by decide) ?_
          have q0 := Option.some.inj hf
          obtain ⟨q1, z1⟩ := Prod.mk.inj q0
          subst q1
          subst z1
          exact sp_iret S hr hlk hW hQ dX9_core_56
        · have hf := sp_hf hf hc
          refine lv_iload_n hx hb dX9_core_40 rfl (lv_at hl 3 rfl) ?_
          refine lv_iconst (v := 1) hx hb dX9_core_41 (by decide) ?_
          obtain ⟨k2, ek2, hf⟩ := sp_hb hf
          have hj2 : ∀ (H : Heap) (locs : List Loc) (ls : Array Slot), k2 = some (r', tgU') → sp_wd D A s.heap (sw_X a pA n_sh n_rd n_sz n_or n_st (uU 0) q5 pn od fa tr ++ (sw_XP pA q5 pa ++ (sw_P uP q5 clP leP riP ltP grP ctP gcP ++ (sw_U uU q5 tgU btU)))) H locs → lv_has ls 5 [(0, .ref (a 0)), (2, .int p2), (3, .int p3), (4, .ref (uP 0))] → W p l e rmX9_core s m args below meth c H locs 0 0 Q (F0 m 57 ls []) := by
            intro H locs ls hf hW hl
            rw [ek2] at hf
            refine lv_aload_n hx hb dX9_core_57 rfl (lv_at hl 0 rfl) ?_
            refine sp_get S hK hW inX9 0 rfl rfl 6 (by decide) lk3 rfl dX9_core_58 ?_
            refine lv_aload hx hb dX9_core_61 (lv_at hl 3 rfl) ?_
            obtain ⟨c3, hc3, hf⟩ := sp_hc hf
            refine sp_callVvP (rest := []) S hK hG hA hW (c_X8_fillTogether uU uP tgU btU clP leP riP ltP grP ctP gcP hc3) (by decide) (cwV 1 S.2.2.2.2 gX9_core_X8_fillTogether rfl rfl rfl (by decide +kernel) (by decide)) 6 8 rfl rfl (sp_pq [sw_X a pA n_sh n_rd n_sz n_or n_st (uU 0) q5 pn od fa tr, sw_XP pA q5 pa, sw_P uP q5 clP leP riP ltP grP ctP gcP, sw_U uU q5 tgU btU] [0, 1, 2, 3] [3, 2] [0, 1] (by decide)) rfl (WS' := sw_X a pA n_sh n_rd n_sz n_or n_st (uU 0) q5 pn od fa tr ++ (sw_XP pA q5 pa ++ (sw_P uP q5 clP leP riP ltP grP ctP gcP ++ (sw_U uU q5 c3 btU)))) (sp_pq' [sw_X a pA n_sh n_rd n_sz n_or n_st (uU 0) q5 pn od fa tr, sw_XP pA q5 pa, sw_P uP q5 clP leP riP ltP grP ctP gcP, sw_U uU q5 c3 btU] [0, 1, 2, 3] [3, 2] [0, 1] (by decide)) rfl hl.1 (Nat.le_of_ble_eq_true rfl) dX9_core_63 ⟨Nat.zero_le _, Nat.zero_le _⟩ rfl (fun H locs hW => ?_)
            refine lv_iload_n hx hb dX9_core_66 rfl (lv_at hl 1 rfl) ?_
            by_cases hs0 : p2 = (0 : Int32)
            · have hf := sp_ht hf hs0
              refine lv_tableIn (tgt := 92) (off := 25) hx hb dX9_core_67 (by rw [hs0]; decide) (by rw [hs0]; decide) (by rw [hs0]; rfl) (by decide) ?_
              refine lv_aload_n hx hb dX9_core_92 rfl (lv_at hl 0 rfl) ?_
              refine sp_get S hK hW inX9 0 rfl rfl 6 (by decide) lk3 rfl dX9_core_93 ?_
              refine lv_iconst (v := 1) hx hb dX9_core_96 (by decide) ?_
              refine lv_aload hx hb dX9_core_97 (lv_at hl 3 rfl) ?_
              refine sp_get S hK hW inX2 2 rfl rfl 6 (by decide) lk2 rfl dX9_core_99 ?_
              refine lv_ishl hx hb dX9_core_102 ?_
              obtain ⟨r4, hc4, hf⟩ := sp_hc hf
              refine sp_callViP (rest := []) S hK hG hA hW (c_X8_leastCore uU c3 btU ((1 : Int32) <<< (gcP &&& 31)) hc4) (by decide) (cwV 1 S.2.2.2.2 gX9_core_X8_leastCore rfl rfl rfl (by decide +kernel) (by decide)) 6 8 rfl rfl (sp_pq [sw_X a pA n_sh n_rd n_sz n_or n_st (uU 0) q5 pn od fa tr, sw_XP pA q5 pa, sw_P uP q5 clP leP riP ltP grP ctP gcP, sw_U uU q5 c3 btU] [0, 1, 2, 3] [3] [0, 1, 2] (by decide)) rfl (WS' := sw_X a pA n_sh n_rd n_sz n_or n_st (uU 0) q5 pn od fa tr ++ (sw_XP pA q5 pa ++ (sw_P uP q5 clP leP riP ltP grP ctP gcP ++ (sw_U uU q5 c3 btU)))) (sp_pq' [sw_X a pA n_sh n_rd n_sz n_or n_st (uU 0) q5 pn od fa tr, sw_XP pA q5 pa, sw_P uP q5 clP leP riP ltP grP ctP gcP, sw_U uU q5 c3 btU] [0, 1, 2, 3] [3] [0, 1, 2] (by decide)) rfl hl.1 (Nat.le_of_ble_eq_true rfl) dX9_core_103 ⟨Nat.zero_le _, Nat.zero_le _⟩ rfl (fun H locs hW => ?_)
              have q0 := Option.some.inj hf
              obtain ⟨q1, z1⟩ := Prod.mk.inj q0
              subst q1
              subst z1
              exact sp_iret S hr hlk hW hQ dX9_core_106
            have hf := sp_hf hf hs0
            by_cases hs1 : p2 = (1 : Int32)
            · have hf := sp_ht hf hs1
              refine lv_tableIn (tgt := 107) (off := 40) hx hb dX9_core_67 (by rw [hs1]; decide) (by rw [hs1]; decide) (by rw [hs1]; rfl) (by decide) ?_
              refine lv_aload_n hx hb dX9_core_107 rfl (lv_at hl 0 rfl) ?_
              refine sp_get S hK hW inX9 0 rfl rfl 6 (by decide) lk3 rfl dX9_core_108 ?_
              refine lv_iconst (v := 1) hx hb dX9_core_111 (by decide) ?_
              refine lv_aload hx hb dX9_core_112 (lv_at hl 3 rfl) ?_
              refine sp_get S hK hW inX2 2 rfl rfl 6 (by decide) lk2 rfl dX9_core_114 ?_
              refine lv_ishl hx hb dX9_core_117 ?_
              obtain ⟨r5, hc5, hf⟩ := sp_hc hf
              refine sp_callViP (rest := []) S hK hG hA hW (c_X8_bareCores uU c3 btU ((1 : Int32) <<< (gcP &&& 31)) hc5) (by decide) (cwV 1 S.2.2.2.2 gX9_core_X8_bareCores rfl rfl rfl (by decide +kernel) (by decide)) 6 8 rfl rfl (sp_pq [sw_X a pA n_sh n_rd n_sz n_or n_st (uU 0) q5 pn od fa tr, sw_XP pA q5 pa, sw_P uP q5 clP leP riP ltP grP ctP gcP, sw_U uU q5 c3 btU] [0, 1, 2, 3] [3] [0, 1, 2] (by decide)) rfl (WS' := sw_X a pA n_sh n_rd n_sz n_or n_st (uU 0) q5 pn od fa tr ++ (sw_XP pA q5 pa ++ (sw_P uP q5 clP leP riP ltP grP ctP gcP ++ (sw_U uU q5 c3 btU)))) (sp_pq' [sw_X a pA n_sh n_rd n_sz n_or n_st (uU 0) q5 pn od fa tr, sw_XP pA q5 pa, sw_P uP q5 clP leP riP ltP grP ctP gcP, sw_U uU q5 c3 btU] [0, 1, 2, 3] [3] [0, 1, 2] (by decide)) rfl hl.1 (Nat.le_of_ble_eq_true rfl) dX9_core_118 ⟨Nat.zero_le _, Nat.zero_le _⟩ rfl (fun H locs hW => ?_)
              have q0 := Option.some.inj hf
              obtain ⟨q1, z1⟩ := Prod.mk.inj q0
              subst q1
              subst z1
              exact sp_iret S hr hlk hW hQ dX9_core_121
            have hf := sp_hf hf hs1
            by_cases hs2 : p2 = (2 : Int32)
            · have hf := sp_ht hf hs2
              refine lv_tableIn (tgt := 122) (off := 55) hx hb dX9_core_67 (by rw [hs2]; decide) (by rw [hs2]; decide) (by rw [hs2]; rfl) (by decide) ?_
              refine lv_aload_n hx hb dX9_core_122 rfl (lv_at hl 0 rfl) ?_
              refine sp_get S hK hW inX9 0 rfl rfl 6 (by decide) lk3 rfl dX9_core_123 ?_
              refine lv_iload_n hx hb dX9_core_126 rfl (lv_at hl 2 rfl) ?_
              obtain ⟨r6, hc6, hf⟩ := sp_hc hf
              refine sp_callViP (rest := []) S hK hG hA hW (c_X8_isCore uU c3 btU p3 hc6) (by decide) (cwV 1 S.2.2.2.2 gX9_core_X8_isCore rfl rfl rfl (by decide +kernel) (by decide)) 6 8 rfl rfl (sp_pq [sw_X a pA n_sh n_rd n_sz n_or n_st (uU 0) q5 pn od fa tr, sw_XP pA q5 pa, sw_P uP q5 clP leP riP ltP grP ctP gcP, sw_U uU q5 c3 btU] [0, 1, 2, 3] [3] [0, 1, 2] (by decide)) rfl (WS' := sw_X a pA n_sh n_rd n_sz n_or n_st (uU 0) q5 pn od fa tr ++ (sw_XP pA q5 pa ++ (sw_P uP q5 clP leP riP ltP grP ctP gcP ++ (sw_U uU q5 c3 btU)))) (sp_pq' [sw_X a pA n_sh n_rd n_sz n_or n_st (uU 0) q5 pn od fa tr, sw_XP pA q5 pa, sw_P uP q5 clP leP riP ltP grP ctP gcP, sw_U uU q5 c3 btU] [0, 1, 2, 3] [3] [0, 1, 2] (by decide)) rfl hl.1 (Nat.le_of_ble_eq_true rfl) dX9_core_127 ⟨Nat.zero_le _, Nat.zero_le _⟩ rfl (fun H locs hW => ?_)
              refine lv_if_eq (tgt := 137) hx hb dX9_core_130 (by decide) (fun hc => ?_) (fun hc => ?_)
              · have hf := sp_ht hf hc
                refine lv_iconst (v := 0) hx hb dX9_core_137 (by decide) ?_
                have q0 := Option.some.inj hf
                obtain ⟨q1, z1⟩ := Prod.mk.inj q0
                subst q1
                subst z1
                exact sp_iret S hr hlk hW hQ dX9_core_138
              · have hf := sp_hf hf hc
                refine lv_iconst (v := 1) hx hb dX9_core_133 (by decide) ?_
                refine lv_goto (tgt := 138) hx hb dX9_core_134 (by decide) ?_
                have q0 := Option.some.inj hf
                obtain ⟨q1, z1⟩ := Prod.mk.inj q0
                subst q1
                subst z1
                exact sp_iret S hr hlk hW hQ dX9_core_138
            have hf := sp_hf hf hs2
            have hz0 : p2.toInt ≠ 0 := sp_nei hs0
            have hz1 : p2.toInt ≠ 1 := sp_nei hs1
            have hz2 : p2.toInt ≠ 2 := sp_nei hs2
            refine lv_tableOut (tgt := 139) hx hb dX9_core_67 (by omega) (by decide) ?_
            refine lv_aload_n hx hb dX9_core_139 rfl (lv_at hl 0 rfl) ?_
            refine sp_get S hK hW inX9 0 rfl rfl 6 (by decide) lk3 rfl dX9_core_140 ?_
            refine lv_iload_n hx hb dX9_core_143 rfl (lv_at hl 2 rfl) ?_
            obtain ⟨r7, hc7, hf⟩ := sp_hc hf
            refine sp_callViP (rest := []) S hK hG hA hW (c_X8_isBare uU c3 btU p3 hc7) (by decide) (cwV 1 S.2.2.2.2 gX9_core_X8_isBare rfl rfl rfl (by decide +kernel) (by decide)) 6 8 rfl rfl (sp_pq [sw_X a pA n_sh n_rd n_sz n_or n_st (uU 0) q5 pn od fa tr, sw_XP pA q5 pa, sw_P uP q5 clP leP riP ltP grP ctP gcP, sw_U uU q5 c3 btU] [0, 1, 2, 3] [3] [0, 1, 2] (by decide)) rfl (WS' := sw_X a pA n_sh n_rd n_sz n_or n_st (uU 0) q5 pn od fa tr ++ (sw_XP pA q5 pa ++ (sw_P uP q5 clP leP riP ltP grP ctP gcP ++ (sw_U uU q5 c3 btU)))) (sp_pq' [sw_X a pA n_sh n_rd n_sz n_or n_st (uU 0) q5 pn od fa tr, sw_XP pA q5 pa, sw_P uP q5 clP leP riP ltP grP ctP gcP, sw_U uU q5 c3 btU] [0, 1, 2, 3] [3] [0, 1, 2] (by decide)) rfl hl.1 (Nat.le_of_ble_eq_true rfl) dX9_core_144 ⟨Nat.zero_le _, Nat.zero_le _⟩ rfl (fun H locs hW => ?_)
            refine lv_if_eq (tgt := 154) hx hb dX9_core_147 (by decide) (fun hc => ?_) (fun hc => ?_)
            · have hf := sp_ht hf hc
              refine lv_iconst (v := 0) hx hb dX9_core_154 (by decide) ?_
              have q0 := Option.some.inj hf
              obtain ⟨q1, z1⟩ := Prod.mk.inj q0
              subst q1
              subst z1
              exact sp_iret S hr hlk hW hQ dX9_core_155
            · have hf := sp_hf hf hc
              refine lv_iconst (v := 1) hx hb dX9_core_150 (by decide) ?_
              refine lv_goto (tgt := 155) hx hb dX9_core_151 (by decide) ?_
              have q0 := Option.some.inj hf
              obtain ⟨q1, z1⟩ := Prod.mk.inj q0
              subst q1
              subst z1
              exact sp_iret S hr hlk hW hQ dX9_core_155
          refine lv_icmp_le (tgt := 57) hx hb dX9_core_42 (by decide) (fun hc => ?_) (fun hc => ?_)
          · have hf := sp_ht hf hc
            exact hj2 _ _ _ hf hW (lv_sub hl [1, 3, 4, 0] rfl)
          · have hf := sp_hf hf hc
            refine lv_aload hx hb dX9_core_45 (lv_at hl 0 rfl) ?_
            refine lv_iload_n hx hb dX9_core_47 rfl (lv_at hl 4 rfl) ?_
            obtain ⟨r8, hc8, hf⟩ := sp_hc hf
            refine sp_callSiP (rest := []) S hK hG hA hW (c_X9_isGroundSet uP clP leP riP ltP grP ctP gcP p3 hc8) (by decide) (va_cwS 2 S.2.2.2.2 gX9_core_X9_isGroundSet rfl rfl rfl (by decide +kernel) (by decide)) (sp_pq [sw_X a pA n_sh n_rd n_sz n_or n_st (uU 0) q5 pn od fa tr, sw_XP pA q5 pa, sw_P uP q5 clP leP riP ltP grP ctP gcP, sw_U uU q5 tgU btU] [0, 1, 2, 3] [2] [0, 1, 3] (by decide)) rfl (WS' := sw_X a pA n_sh n_rd n_sz n_or n_st (uU 0) q5 pn od fa tr ++ (sw_XP pA q5 pa ++ (sw_P uP q5 clP leP riP ltP grP ctP gcP ++ (sw_U uU q5 tgU btU)))) (sp_pq' [sw_X a pA n_sh n_rd n_sz n_or n_st (uU 0) q5 pn od fa tr, sw_XP pA q5 pa, sw_P uP q5 clP leP riP ltP grP ctP gcP, sw_U uU q5 tgU btU] [0, 1, 2, 3] [2] [0, 1, 3] (by decide)) rfl hl.1 (Nat.le_of_ble_eq_true rfl) dX9_core_48 ⟨Nat.zero_le _, Nat.zero_le _⟩ rfl (fun H locs hW => ?_)
            refine lv_if_ne (tgt := 57) hx hb dX9_core_51 (by decide) (fun hc => ?_) (fun hc => ?_)
            · have hf := sp_hf hf hc
              exact hj2 _ _ _ hf hW (lv_sub hl [1, 3, 4, 0] rfl)
            · have hf := sp_ht hf hc
              refine lv_bipush (v := (-2)) hx hb dX9_core_54 (by decide) ?_
              have q0 := Option.some.inj hf
              obtain ⟨q1, z1⟩ := Prod.mk.inj q0
              subst q1
              subst z1
              exact sp_iret S hr hlk hW hQ dX9_core_56
    · have hf := sp_hf hf hc
      refine lv_bipush (v := (-3)) hx hb dX9_core_28 (by decide) ?_
      have q0 := Option.some.inj hf
      obtain ⟨q1, z1⟩ := Prod.mk.inj q0
      subst q1
      subst z1
      exact sp_iret S hr hlk hW hQ dX9_core_30
  · have hf := sp_ht hf hc
    refine lv_iconst (v := (-1)) hx hb dX9_core_8 (by decide) ?_
    have q0 := Option.some.inj hf
    obtain ⟨q1, z1⟩ := Prod.mk.inj q0
    subst q1
    subst z1
    exact sp_iret S hr hlk hW hQ dX9_core_9

def f_X9_isTableAsked (p1 : Int32) (p2 : Int32) (p3 : Int32) (pn : Int32) (gcP : Int32) : Option (Int32) := Option.bind (f_X9_isProof p1 pn) (fun r1 => if r1 = 0 then (some (0 : Int32)) else (if p3 = 0 then (sp_ck 12 p1 (if (10 : Int32) < gcP then (some (0 : Int32)) else (sp_ck 12 p1 (Option.bind (f_X9_isGroundSet p2 gcP) (fun r2 => if r2 = 0 then (some (0 : Int32)) else (some (1 : Int32))))))) else (if p3 = (1 : Int32) then (sp_ck 12 p1 (if (10 : Int32) < gcP then (some (0 : Int32)) else (sp_ck 12 p1 (Option.bind (f_X9_isGroundSet p2 gcP) (fun r3 => if r3 = 0 then (some (0 : Int32)) else (some (1 : Int32))))))) else (some (0 : Int32)))))
def rmX9_isTableAsked : Room := { frames := 1, cells := 0, slots := 0, locals := 21 }
set_option maxRecDepth 4000 in
theorem c_X9_isTableAsked {l : Launch} {D : va_G} {q5 : Nat → ClassId} (a : Nat → Nat) (pA : Nat) (uP : Nat → Nat) (n_sh : Nat) (n_rd : Nat) (n_sz : Nat) (n_or : Nat) (n_st : Nat) (n_tb : Nat) (pn : Int32) (od : Int32) (fa : Int32) (tr : Int32) (pa : Nat → Option Nat) (clP : Nat → Int32) (leP : Nat → Int32) (riP : Nat → Int32) (ltP : Nat → Int32) (grP : Nat → Int32) (ctP : Int32) (gcP : Int32) (p1 : Int32) (p2 : Int32) (p3 : Int32) (hR_P : vp_in p1 12 → pa p1.toNatClampNeg = some (uP 0)) {r' : Int32} (hf : f_X9_isTableAsked p1 p2 p3 pn gcP = some r') : sp_Ci l yX9_isTableAsked wsX9_isTableAsked rmX9_isTableAsked D q5 0 [.ref (a 0), .int p1, .int p2, .int p3] (sw_X a pA n_sh n_rd n_sz n_or n_st n_tb q5 pn od fa tr ++ (sw_XP pA q5 pa ++ (sw_P uP q5 clP leP riP ltP grP ctP gcP))) r' (sw_X a pA n_sh n_rd n_sz n_or n_st n_tb q5 pn od fa tr ++ (sw_XP pA q5 pa ++ (sw_P uP q5 clP leP riP ltP grP ctP gcP))) := by
  intro sz
  refine sp_of (cc := cX9_isTableAsked) (maxL := 4) (ret := some .boolean) (own := RX9) (Qc := sp_Qi D r' (sw_X a pA n_sh n_rd n_sz n_or n_st n_tb q5 pn od fa tr ++ (sw_XP pA q5 pa ++ (sw_P uP q5 clP leP riP ltP grP ctP gcP)))) (by decide) rfl rfl (Nat.le_of_ble_eq_true rfl) ?_
  intro p e s m args below meth c A ls Q hQ S hr hlk hK hG hA hW hl
  have hx := S.1
  have hb := S.2.1
  unfold f_X9_isTableAsked at hf
  have inX2 : ∀ w ∈ u_ws RX2 TX2 7, w ∈ wsX9_isTableAsked := (fun _ h => List.mem_cons_of_mem _ (List.mem_append_right _ h))
  have inX9 : ∀ w ∈ u_ws RX9 TX9 11, w ∈ wsX9_isTableAsked := (fun _ h => List.mem_cons_of_mem _ (List.mem_append_left _ (List.mem_append_right _ h)))
  have lk1 := S.2.2.2.2 (Cond.fieldLink RX9 13 "ShortProofs" "proofs" "[LShortProofs$Proof;") (List.mem_of_getElem? (i := 1) rfl)
  have lk2 := S.2.2.2.2 (Cond.fieldLink RX9 141 "ShortProofs$Proof" "groundCount" "I") (List.mem_of_getElem? (i := 2) rfl)
  refine lv_aload_n hx hb dX9_isTableAsked_0 rfl (lv_at hl 0 rfl) ?_
  refine lv_iload_n hx hb dX9_isTableAsked_1 rfl (lv_at hl 1 rfl) ?_
  obtain ⟨r1, hc1, hf⟩ := sp_hc hf
  refine sp_callViP (rest := []) S hK hG hA hW (c_X9_isProof a pA n_sh n_rd n_sz n_or n_st n_tb pn od fa tr p1 hc1) (by decide) (cwV 1 S.2.2.2.2 gX9_isTableAsked_X9_isProof rfl rfl rfl (by decide +kernel) (by decide)) 7 0 rfl rfl (sp_pq [sw_X a pA n_sh n_rd n_sz n_or n_st n_tb q5 pn od fa tr, sw_XP pA q5 pa, sw_P uP q5 clP leP riP ltP grP ctP gcP] [0, 1, 2] [0] [1, 2] (by decide)) rfl (WS' := sw_X a pA n_sh n_rd n_sz n_or n_st n_tb q5 pn od fa tr ++ (sw_XP pA q5 pa ++ (sw_P uP q5 clP leP riP ltP grP ctP gcP))) (sp_pq' [sw_X a pA n_sh n_rd n_sz n_or n_st n_tb q5 pn od fa tr, sw_XP pA q5 pa, sw_P uP q5 clP leP riP ltP grP ctP gcP] [0, 1, 2] [0] [1, 2] (by decide)) rfl hl.1 (Nat.le_of_ble_eq_true rfl) dX9_isTableAsked_2 ⟨Nat.zero_le _, Nat.zero_le _⟩ rfl (fun H locs hW => ?_)
  refine lv_if_eq (tgt := 48) hx hb dX9_isTableAsked_5 (by decide) (fun hc => ?_) (fun hc => ?_)
  · have hf := sp_ht hf hc
    refine lv_iconst (v := 0) hx hb dX9_isTableAsked_48 (by decide) ?_
    have q0 := Option.some.inj hf
    subst q0
    exact sp_zret S hr hlk hW rfl hQ dX9_isTableAsked_49
  · have hf := sp_hf hf hc
    refine lv_iload_n hx hb dX9_isTableAsked_8 rfl (lv_at hl 3 rfl) ?_
    refine lv_if_eq (tgt := 17) hx hb dX9_isTableAsked_9 (by decide) (fun hc => ?_) (fun hc => ?_)
    · have hf := sp_ht hf hc
      refine lv_aload_n hx hb dX9_isTableAsked_17 rfl (lv_at hl 0 rfl) ?_
      refine sp_get S hK hW inX9 0 rfl rfl 0 (by decide) lk1 rfl dX9_isTableAsked_18 ?_
      refine lv_iload_n hx hb dX9_isTableAsked_21 rfl (lv_at hl 1 rfl) ?_
      obtain ⟨hin, hf⟩ := sp_hck2 hf
      refine sp_aldq S hK hW 1 3 rfl rfl hin (hR_P hin) dX9_isTableAsked_22 ?_
      refine sp_get S hK hW inX2 2 rfl rfl 6 (by decide) lk2 rfl dX9_isTableAsked_23 ?_
      refine lv_bipush (v := 10) hx hb dX9_isTableAsked_26 (by decide) ?_
      refine lv_icmp_gt (tgt := 48) hx hb dX9_isTableAsked_28 (by decide) (fun hc => ?_) (fun hc => ?_)
      · have hf := sp_ht hf hc
        refine lv_iconst (v := 0) hx hb dX9_isTableAsked_48 (by decide) ?_
        have q0 := Option.some.inj hf
        subst q0
        exact sp_zret S hr hlk hW rfl hQ dX9_isTableAsked_49
      · have hf := sp_hf hf hc
        refine lv_aload_n hx hb dX9_isTableAsked_31 rfl (lv_at hl 0 rfl) ?_
        refine sp_get S hK hW inX9 0 rfl rfl 0 (by decide) lk1 rfl dX9_isTableAsked_32 ?_
        refine lv_iload_n hx hb dX9_isTableAsked_35 rfl (lv_at hl 1 rfl) ?_
        obtain ⟨hin, hf⟩ := sp_hck2 hf
        refine sp_aldq S hK hW 1 3 rfl rfl hin (hR_P hin) dX9_isTableAsked_36 ?_
        refine lv_iload_n hx hb dX9_isTableAsked_37 rfl (lv_at hl 2 rfl) ?_
        obtain ⟨r2, hc2, hf⟩ := sp_hc hf
        refine sp_callSiP (rest := []) S hK hG hA hW (c_X9_isGroundSet uP clP leP riP ltP grP ctP gcP p2 hc2) (by decide) (va_cwS 2 S.2.2.2.2 gX9_isTableAsked_X9_isGroundSet rfl rfl rfl (by decide +kernel) (by decide)) (sp_pq [sw_X a pA n_sh n_rd n_sz n_or n_st n_tb q5 pn od fa tr, sw_XP pA q5 pa, sw_P uP q5 clP leP riP ltP grP ctP gcP] [0, 1, 2] [2] [0, 1] (by decide)) rfl (WS' := sw_X a pA n_sh n_rd n_sz n_or n_st n_tb q5 pn od fa tr ++ (sw_XP pA q5 pa ++ (sw_P uP q5 clP leP riP ltP grP ctP gcP))) (sp_pq' [sw_X a pA n_sh n_rd n_sz n_or n_st n_tb q5 pn od fa tr, sw_XP pA q5 pa, sw_P uP q5 clP leP riP ltP grP ctP gcP] [0, 1, 2] [2] [0, 1] (by decide)) rfl hl.1 (Nat.le_of_ble_eq_true rfl) dX9_isTableAsked_38 ⟨Nat.zero_le _, Nat.zero_le _⟩ rfl (fun H locs hW => ?_)
        refine lv_if_eq (tgt := 48) hx hb dX9_isTableAsked_41 (by decide) (fun hc => ?_) (fun hc => ?_)
        · have hf := sp_ht hf hc
          refine lv_iconst (v := 0) hx hb dX9_isTableAsked_48 (by decide) ?_
          have q0 := Option.some.inj hf
          subst q0
          exact sp_zret S hr hlk hW rfl hQ dX9_isTableAsked_49
        · have hf := sp_hf hf hc
          refine lv_iconst (v := 1) hx hb dX9_isTableAsked_44 (by decide) ?_
          refine lv_goto (tgt := 49) hx hb dX9_isTableAsked_45 (by decide) ?_
          have q0 := Option.some.inj hf
          subst q0
          exact sp_zret S hr hlk hW rfl hQ dX9_isTableAsked_49
    · have hf := sp_hf hf hc
      refine lv_iload_n hx hb dX9_isTableAsked_12 rfl (lv_at hl 3 rfl) ?_
      refine lv_iconst (v := 1) hx hb dX9_isTableAsked_13 (by decide) ?_
      refine lv_icmp_ne (tgt := 48) hx hb dX9_isTableAsked_14 (by decide) (fun hc => ?_) (fun hc => ?_)
      · have hf := sp_hf hf hc
        refine lv_iconst (v := 0) hx hb dX9_isTableAsked_48 (by decide) ?_
        have q0 := Option.some.inj hf
        subst q0
        exact sp_zret S hr hlk hW rfl hQ dX9_isTableAsked_49
      · have hf := sp_ht hf hc
        refine lv_aload_n hx hb dX9_isTableAsked_17 rfl (lv_at hl 0 rfl) ?_
        refine sp_get S hK hW inX9 0 rfl rfl 0 (by decide) lk1 rfl dX9_isTableAsked_18 ?_
        refine lv_iload_n hx hb dX9_isTableAsked_21 rfl (lv_at hl 1 rfl) ?_
        obtain ⟨hin, hf⟩ := sp_hck2 hf
        refine sp_aldq S hK hW 1 3 rfl rfl hin (hR_P hin) dX9_isTableAsked_22 ?_
        refine sp_get S hK hW inX2 2 rfl rfl 6 (by decide) lk2 rfl dX9_isTableAsked_23 ?_
        refine lv_bipush (v := 10) hx hb dX9_isTableAsked_26 (by decide) ?_
        refine lv_icmp_gt (tgt := 48) hx hb dX9_isTableAsked_28 (by decide) (fun hc => ?_) (fun hc => ?_)
        · have hf := sp_ht hf hc
          refine lv_iconst (v := 0) hx hb dX9_isTableAsked_48 (by decide) ?_
          have q0 := Option.some.inj hf
          subst q0
          exact sp_zret S hr hlk hW rfl hQ dX9_isTableAsked_49
        · have hf := sp_hf hf hc
          refine lv_aload_n hx hb dX9_isTableAsked_31 rfl (lv_at hl 0 rfl) ?_
          refine sp_get S hK hW inX9 0 rfl rfl 0 (by decide) lk1 rfl dX9_isTableAsked_32 ?_
          refine lv_iload_n hx hb dX9_isTableAsked_35 rfl (lv_at hl 1 rfl) ?_
          obtain ⟨hin, hf⟩ := sp_hck2 hf
          refine sp_aldq S hK hW 1 3 rfl rfl hin (hR_P hin) dX9_isTableAsked_36 ?_
          refine lv_iload_n hx hb dX9_isTableAsked_37 rfl (lv_at hl 2 rfl) ?_
          obtain ⟨r3, hc3, hf⟩ := sp_hc hf
          refine sp_callSiP (rest := []) S hK hG hA hW (c_X9_isGroundSet uP clP leP riP ltP grP ctP gcP p2 hc3) (by decide) (va_cwS 2 S.2.2.2.2 gX9_isTableAsked_X9_isGroundSet rfl rfl rfl (by decide +kernel) (by decide)) (sp_pq [sw_X a pA n_sh n_rd n_sz n_or n_st n_tb q5 pn od fa tr, sw_XP pA q5 pa, sw_P uP q5 clP leP riP ltP grP ctP gcP] [0, 1, 2] [2] [0, 1] (by decide)) rfl (WS' := sw_X a pA n_sh n_rd n_sz n_or n_st n_tb q5 pn od fa tr ++ (sw_XP pA q5 pa ++ (sw_P uP q5 clP leP riP ltP grP ctP gcP))) (sp_pq' [sw_X a pA n_sh n_rd n_sz n_or n_st n_tb q5 pn od fa tr, sw_XP pA q5 pa, sw_P uP q5 clP leP riP ltP grP ctP gcP] [0, 1, 2] [2] [0, 1] (by decide)) rfl hl.1 (Nat.le_of_ble_eq_true rfl) dX9_isTableAsked_38 ⟨Nat.zero_le _, Nat.zero_le _⟩ rfl (fun H locs hW => ?_)
          refine lv_if_eq (tgt := 48) hx hb dX9_isTableAsked_41 (by decide) (fun hc => ?_) (fun hc => ?_)
          · have hf := sp_ht hf hc
            refine lv_iconst (v := 0) hx hb dX9_isTableAsked_48 (by decide) ?_
            have q0 := Option.some.inj hf
            subst q0
            exact sp_zret S hr hlk hW rfl hQ dX9_isTableAsked_49
          · have hf := sp_hf hf hc
            refine lv_iconst (v := 1) hx hb dX9_isTableAsked_44 (by decide) ?_
            refine lv_goto (tgt := 49) hx hb dX9_isTableAsked_45 (by decide) ?_
            have q0 := Option.some.inj hf
            subst q0
            exact sp_zret S hr hlk hW rfl hQ dX9_isTableAsked_49

def f_X9_middle (p1 : Int32) (p2 : Int32) (p3 : Int32) (pn : Int32) (clP : Nat → Int32) (leP : Nat → Int32) (riP : Nat → Int32) (ltP : Nat → Int32) (grP : Nat → Int32) (ctP : Int32) (gcP : Int32) (btU : Nat → Int64) : Option (Int64 × (Nat → Int64)) := Option.bind (f_X9_isTableAsked p1 p2 p3 pn gcP) (fun r1 => if r1 = 0 then (some ((-9223372036854775808 : Int64), btU)) else (sp_ck 12 p1 (sp_ld clP 48 (ctP - (1 : Int32)) (fun v2 => if v2 = 0 then (Option.bind (f_X8_middleOf p2 btU clP leP riP ltP grP ctP gcP) (fun q9 => match q9 with | (r3, c4) => Option.bind (f_X9_halfOf r3 p3) (fun r5 => some (r5, c4)))) else (some ((-9223372036854775808 : Int64), btU))))))
def rmX9_middle : Room := { frames := 3, cells := 0, slots := 0, locals := 80 }
set_option maxRecDepth 4000 in
theorem c_X9_middle {l : Launch} {D : va_G} {q5 : Nat → ClassId} (a : Nat → Nat) (pA : Nat) (uP : Nat → Nat) (uU : Nat → Nat) (n_sh : Nat) (n_rd : Nat) (n_sz : Nat) (n_or : Nat) (n_st : Nat) (pn : Int32) (od : Int32) (fa : Int32) (tr : Int32) (pa : Nat → Option Nat) (clP : Nat → Int32) (leP : Nat → Int32) (riP : Nat → Int32) (ltP : Nat → Int32) (grP : Nat → Int32) (ctP : Int32) (gcP : Int32) (tgU : Nat → Int64) (btU : Nat → Int64) (p1 : Int32) (p2 : Int32) (p3 : Int32) (hR_P : vp_in p1 12 → pa p1.toNatClampNeg = some (uP 0)) {r' : Int64} {btU' : Nat → Int64} (hf : f_X9_middle p1 p2 p3 pn clP leP riP ltP grP ctP gcP btU = some (r', btU')) : sp_Cl l yX9_middle wsX9_middle rmX9_middle D q5 2 [.ref (a 0), .int p1, .int p2, .int p3] (sw_X a pA n_sh n_rd n_sz n_or n_st (uU 0) q5 pn od fa tr ++ (sw_XP pA q5 pa ++ (sw_P uP q5 clP leP riP ltP grP ctP gcP ++ (sw_U uU q5 tgU btU)))) r' (sw_X a pA n_sh n_rd n_sz n_or n_st (uU 0) q5 pn od fa tr ++ (sw_XP pA q5 pa ++ (sw_P uP q5 clP leP riP ltP grP ctP gcP ++ (sw_U uU q5 tgU btU')))) := by
  intro sz
  refine sp_of (cc := cX9_middle) (maxL := 5) (ret := some .long) (own := RX9) (Qc := sp_Ql D r' (sw_X a pA n_sh n_rd n_sz n_or n_st (uU 0) q5 pn od fa tr ++ (sw_XP pA q5 pa ++ (sw_P uP q5 clP leP riP ltP grP ctP gcP ++ (sw_U uU q5 tgU btU'))))) (by decide) rfl rfl (Nat.le_of_ble_eq_true rfl) ?_
  intro p e s m args below meth c A ls Q hQ S hr hlk hK hG hA hW hl
  have hx := S.1
  have hb := S.2.1
  unfold f_X9_middle at hf
  have inX2 : ∀ w ∈ u_ws RX2 TX2 7, w ∈ wsX9_middle := (fun _ h => List.mem_cons_of_mem _ (List.mem_append_left _ (List.mem_append_right _ h)))
  have inX9 : ∀ w ∈ u_ws RX9 TX9 11, w ∈ wsX9_middle := (fun _ h => List.mem_cons_of_mem _ (List.mem_append_left _ (List.mem_append_left _ (List.mem_append_right _ h))))
  have lk1 := S.2.2.2.2 (Cond.fieldLink RX9 13 "ShortProofs" "proofs" "[LShortProofs$Proof;") (List.mem_of_getElem? (i := 2) rfl)
  have lk2 := S.2.2.2.2 (Cond.fieldLink RX9 107 "ShortProofs$Proof" "clauses" "[I") (List.mem_of_getElem? (i := 3) rfl)
  have lk3 := S.2.2.2.2 (Cond.fieldLink RX9 126 "ShortProofs$Proof" "count" "I") (List.mem_of_getElem? (i := 4) rfl)
  have lk4 := S.2.2.2.2 (Cond.fieldLink RX9 56 "ShortProofs" "tables" "LShortProofs$Truths;") (List.mem_of_getElem? (i := 5) rfl)
  have lk5 := S.2.2.2.2 (Cond.constantLong RX9 212 (-9223372036854775808)) (List.mem_of_getElem? (i := 1) rfl)
  refine lv_aload_n hx hb dX9_middle_0 rfl (lv_at hl 0 rfl) ?_
  refine lv_iload_n hx hb dX9_middle_1 rfl (lv_at hl 1 rfl) ?_
  refine lv_iload_n hx hb dX9_middle_2 rfl (lv_at hl 2 rfl) ?_
  refine lv_iload_n hx hb dX9_middle_3 rfl (lv_at hl 3 rfl) ?_
  obtain ⟨r1, hc1, hf⟩ := sp_hc hf
  refine sp_callViP (rest := []) S hK hG hA hW (c_X9_isTableAsked a pA uP n_sh n_rd n_sz n_or n_st (uU 0) pn od fa tr pa clP leP riP ltP grP ctP gcP p1 p2 p3 hR_P hc1) (by decide) (cwV 3 S.2.2.2.2 gX9_middle_X9_isTableAsked rfl rfl rfl (by decide +kernel) (by decide)) 7 0 rfl rfl (sp_pq [sw_X a pA n_sh n_rd n_sz n_or n_st (uU 0) q5 pn od fa tr, sw_XP pA q5 pa, sw_P uP q5 clP leP riP ltP grP ctP gcP, sw_U uU q5 tgU btU] [0, 1, 2, 3] [0, 1, 2] [3] (by decide)) rfl (WS' := sw_X a pA n_sh n_rd n_sz n_or n_st (uU 0) q5 pn od fa tr ++ (sw_XP pA q5 pa ++ (sw_P uP q5 clP leP riP ltP grP ctP gcP ++ (sw_U uU q5 tgU btU)))) (sp_pq' [sw_X a pA n_sh n_rd n_sz n_or n_st (uU 0) q5 pn od fa tr, sw_XP pA q5 pa, sw_P uP q5 clP leP riP ltP grP ctP gcP, sw_U uU q5 tgU btU] [0, 1, 2, 3] [0, 1, 2] [3] (by decide)) rfl hl.1 (Nat.le_of_ble_eq_true rfl) dX9_middle_4 ⟨Nat.zero_le _, Nat.zero_le _⟩ rfl (fun H locs hW => ?_)
  refine lv_if_ne (tgt := 14) hx hb dX9_middle_7 (by decide) (fun hc => ?_) (fun hc => ?_)
  · have hf := sp_hf hf hc
    refine lv_aload_n hx hb dX9_middle_14 rfl (lv_at hl 0 rfl) ?_
    refine sp_get S hK hW inX9 0 rfl rfl 0 (by decide) lk1 rfl dX9_middle_15 ?_
    refine lv_iload_n hx hb dX9_middle_18 rfl (lv_at hl 1 rfl) ?_
    obtain ⟨hin, hf⟩ := sp_hck2 hf
    refine sp_aldq S hK hW 1 3 rfl rfl hin (hR_P hin) dX9_middle_19 ?_
    refine lv_astore (lv' := [(4, .ref (uP 0)), (0, .ref (a 0)), (1, .int p1), (2, .int p2), (3, .int p3)]) hx hb dX9_middle_20 hl (by decide) rfl (fun ls hl => ?_)
    refine lv_aload hx hb dX9_middle_22 (lv_at hl 0 rfl) ?_
    refine sp_get S hK hW inX2 2 rfl rfl 0 (by decide) lk2 rfl dX9_middle_24 ?_
    refine lv_aload hx hb dX9_middle_27 (lv_at hl 0 rfl) ?_
    refine sp_get S hK hW inX2 2 rfl rfl 5 (by decide) lk3 rfl dX9_middle_29 ?_
    refine lv_iconst (v := 1) hx hb dX9_middle_32 (by decide) ?_
    refine lv_isub hx hb dX9_middle_33 ?_
    obtain ⟨hin, v2, ev2, hf⟩ := sp_hld hf
    refine sp_iald S hK hW 3 rfl hin ev2 dX9_middle_34 ?_
    refine lv_if_eq (tgt := 42) hx hb dX9_middle_35 (by decide) (fun hc => ?_) (fun hc => ?_)
    · have hf := sp_ht hf hc
      refine lv_aload_n hx hb dX9_middle_42 rfl (lv_at hl 1 rfl) ?_
      refine sp_get S hK hW inX9 0 rfl rfl 6 (by decide) lk4 rfl dX9_middle_43 ?_
      refine lv_aload hx hb dX9_middle_46 (lv_at hl 0 rfl) ?_
      refine lv_iload_n hx hb dX9_middle_48 rfl (lv_at hl 3 rfl) ?_
      obtain ⟨⟨r3, c4⟩, hc4, hf⟩ := sp_hc hf
      refine sp_callVlP (rest := []) S hK hG hA hW (c_X8_middleOf uU uP tgU btU clP leP riP ltP grP ctP gcP p2 hc4) (by decide) (cwV 2 S.2.2.2.2 gX9_middle_X8_middleOf rfl rfl rfl (by decide +kernel) (by decide)) 6 8 rfl rfl (sp_pq [sw_X a pA n_sh n_rd n_sz n_or n_st (uU 0) q5 pn od fa tr, sw_XP pA q5 pa, sw_P uP q5 clP leP riP ltP grP ctP gcP, sw_U uU q5 tgU btU] [0, 1, 2, 3] [3, 2] [0, 1] (by decide)) rfl (WS' := sw_X a pA n_sh n_rd n_sz n_or n_st (uU 0) q5 pn od fa tr ++ (sw_XP pA q5 pa ++ (sw_P uP q5 clP leP riP ltP grP ctP gcP ++ (sw_U uU q5 tgU c4)))) (sp_pq' [sw_X a pA n_sh n_rd n_sz n_or n_st (uU 0) q5 pn od fa tr, sw_XP pA q5 pa, sw_P uP q5 clP leP riP ltP grP ctP gcP, sw_U uU q5 tgU c4] [0, 1, 2, 3] [3, 2] [0, 1] (by decide)) rfl hl.1 (Nat.le_of_ble_eq_true rfl) dX9_middle_49 ⟨Nat.zero_le _, Nat.zero_le _⟩ rfl (fun H locs hW => ?_)
      refine lv_iload_n hx hb dX9_middle_52 rfl (lv_at hl 4 rfl) ?_
      obtain ⟨r5, hc5, hf⟩ := sp_hc hf
      refine sp_callSl (rest := []) S hK hG hA hW (c_X9_halfOf r3 p3 hc5) (by decide) (va_cwS 2 S.2.2.2.2 gX9_middle_X9_halfOf rfl rfl rfl (by decide +kernel) (by decide)) (isC := []) rfl rfl rfl (WS' := sw_X a pA n_sh n_rd n_sz n_or n_st (uU 0) q5 pn od fa tr ++ (sw_XP pA q5 pa ++ (sw_P uP q5 clP leP riP ltP grP ctP gcP ++ (sw_U uU q5 tgU c4)))) rfl rfl hl.1 (Nat.le_of_ble_eq_true rfl) dX9_middle_53 ⟨Nat.zero_le _, Nat.zero_le _⟩ rfl (fun H locs hW => ?_)
      have q0 := Option.some.inj hf
      obtain ⟨q1, z1⟩ := Prod.mk.inj q0
      subst q1
      subst z1
      exact sp_lret S hr hlk hW hQ dX9_middle_56
    · have hf := sp_hf hf hc
      refine lv_ldc2 hx hb S.2.2.2.1 lk5 dX9_middle_38 ?_
      have q0 := Option.some.inj hf
      obtain ⟨q1, z1⟩ := Prod.mk.inj q0
      subst q1
      subst z1
      exact sp_lret S hr hlk hW hQ dX9_middle_41
  · have hf := sp_ht hf hc
    refine lv_ldc2 hx hb S.2.2.2.1 lk5 dX9_middle_10 ?_
    have q0 := Option.some.inj hf
    obtain ⟨q1, z1⟩ := Prod.mk.inj q0
    subst q1
    subst z1
    exact sp_lret S hr hlk hW hQ dX9_middle_13

def f_X9_truths (p1 : Int32) (p2 : Int32) (p3 : Int32) (pn : Int32) (clP : Nat → Int32) (grP : Nat → Int32) (gcP : Int32) : Option (Int64) := Option.bind (f_X9_isTableAsked p1 p2 p3 pn gcP) (fun r1 => if r1 = 0 then (some (-9223372036854775808 : Int64)) else (sp_ck 12 p1 (Option.bind (f_X8_allOf p2 clP grP gcP) (fun r2 => Option.bind (f_X9_halfOf r2 p3) (fun r3 => some r3)))))
def rmX9_truths : Room := { frames := 3, cells := 0, slots := 0, locals := 68 }
set_option maxRecDepth 4000 in
theorem c_X9_truths {l : Launch} {D : va_G} {q5 : Nat → ClassId} (a : Nat → Nat) (pA : Nat) (uP : Nat → Nat) (n_sh : Nat) (n_rd : Nat) (n_sz : Nat) (n_or : Nat) (n_st : Nat) (n_tb : Nat) (pn : Int32) (od : Int32) (fa : Int32) (tr : Int32) (pa : Nat → Option Nat) (clP : Nat → Int32) (leP : Nat → Int32) (riP : Nat → Int32) (ltP : Nat → Int32) (grP : Nat → Int32) (ctP : Int32) (gcP : Int32) (p1 : Int32) (p2 : Int32) (p3 : Int32) (hR_P : vp_in p1 12 → pa p1.toNatClampNeg = some (uP 0)) {r' : Int64} (hf : f_X9_truths p1 p2 p3 pn clP grP gcP = some r') : sp_Cl l yX9_truths wsX9_truths rmX9_truths D q5 2 [.ref (a 0), .int p1, .int p2, .int p3] (sw_X a pA n_sh n_rd n_sz n_or n_st n_tb q5 pn od fa tr ++ (sw_XP pA q5 pa ++ (sw_P uP q5 clP leP riP ltP grP ctP gcP))) r' (sw_X a pA n_sh n_rd n_sz n_or n_st n_tb q5 pn od fa tr ++ (sw_XP pA q5 pa ++ (sw_P uP q5 clP leP riP ltP grP ctP gcP))) := by
  intro sz
  refine sp_of (cc := cX9_truths) (maxL := 4) (ret := some .long) (own := RX9) (Qc := sp_Ql D r' (sw_X a pA n_sh n_rd n_sz n_or n_st n_tb q5 pn od fa tr ++ (sw_XP pA q5 pa ++ (sw_P uP q5 clP leP riP ltP grP ctP gcP)))) (by decide) rfl rfl (Nat.le_of_ble_eq_true rfl) ?_
  intro p e s m args below meth c A ls Q hQ S hr hlk hK hG hA hW hl
  have hx := S.1
  have hb := S.2.1
  unfold f_X9_truths at hf
  have inX9 : ∀ w ∈ u_ws RX9 TX9 11, w ∈ wsX9_truths := (fun _ h => List.mem_cons_of_mem _ (List.mem_append_left _ (List.mem_append_right _ h)))
  have lk1 := S.2.2.2.2 (Cond.fieldLink RX9 13 "ShortProofs" "proofs" "[LShortProofs$Proof;") (List.mem_of_getElem? (i := 2) rfl)
  have lk2 := S.2.2.2.2 (Cond.constantLong RX9 212 (-9223372036854775808)) (List.mem_of_getElem? (i := 1) rfl)
  refine lv_aload_n hx hb dX9_truths_0 rfl (lv_at hl 0 rfl) ?_
  refine lv_iload_n hx hb dX9_truths_1 rfl (lv_at hl 1 rfl) ?_
  refine lv_iload_n hx hb dX9_truths_2 rfl (lv_at hl 2 rfl) ?_
  refine lv_iload_n hx hb dX9_truths_3 rfl (lv_at hl 3 rfl) ?_
  obtain ⟨r1, hc1, hf⟩ := sp_hc hf
  refine sp_callViP (rest := []) S hK hG hA hW (c_X9_isTableAsked a pA uP n_sh n_rd n_sz n_or n_st n_tb pn od fa tr pa clP leP riP ltP grP ctP gcP p1 p2 p3 hR_P hc1) (by decide) (cwV 3 S.2.2.2.2 gX9_truths_X9_isTableAsked rfl rfl rfl (by decide +kernel) (by decide)) 7 0 rfl rfl (sp_pn _) rfl (WS' := sw_X a pA n_sh n_rd n_sz n_or n_st n_tb q5 pn od fa tr ++ (sw_XP pA q5 pa ++ (sw_P uP q5 clP leP riP ltP grP ctP gcP))) (sp_pn' _) rfl hl.1 (Nat.le_of_ble_eq_true rfl) dX9_truths_4 ⟨Nat.zero_le _, Nat.zero_le _⟩ rfl (fun H locs hW => ?_)
  refine lv_if_ne (tgt := 14) hx hb dX9_truths_7 (by decide) (fun hc => ?_) (fun hc => ?_)
  · have hf := sp_hf hf hc
    refine lv_aload_n hx hb dX9_truths_14 rfl (lv_at hl 0 rfl) ?_
    refine sp_get S hK hW inX9 0 rfl rfl 0 (by decide) lk1 rfl dX9_truths_15 ?_
    refine lv_iload_n hx hb dX9_truths_18 rfl (lv_at hl 1 rfl) ?_
    obtain ⟨hin, hf⟩ := sp_hck2 hf
    refine sp_aldq S hK hW 1 3 rfl rfl hin (hR_P hin) dX9_truths_19 ?_
    refine lv_iload_n hx hb dX9_truths_20 rfl (lv_at hl 2 rfl) ?_
    obtain ⟨r2, hc2, hf⟩ := sp_hc hf
    refine sp_callSlP (rest := []) S hK hG hA hW (c_X8_allOf uP clP leP riP ltP grP ctP gcP p2 hc2) (by decide) (va_cwS 2 S.2.2.2.2 gX9_truths_X8_allOf rfl rfl rfl (by decide +kernel) (by decide)) (sp_pq [sw_X a pA n_sh n_rd n_sz n_or n_st n_tb q5 pn od fa tr, sw_XP pA q5 pa, sw_P uP q5 clP leP riP ltP grP ctP gcP] [0, 1, 2] [2] [0, 1] (by decide)) rfl (WS' := sw_X a pA n_sh n_rd n_sz n_or n_st n_tb q5 pn od fa tr ++ (sw_XP pA q5 pa ++ (sw_P uP q5 clP leP riP ltP grP ctP gcP))) (sp_pq' [sw_X a pA n_sh n_rd n_sz n_or n_st n_tb q5 pn od fa tr, sw_XP pA q5 pa, sw_P uP q5 clP leP riP ltP grP ctP gcP] [0, 1, 2] [2] [0, 1] (by decide)) rfl hl.1 (Nat.le_of_ble_eq_true rfl) dX9_truths_21 ⟨Nat.zero_le _, Nat.zero_le _⟩ rfl (fun H locs hW => ?_)
    refine lv_iload_n hx hb dX9_truths_24 rfl (lv_at hl 3 rfl) ?_
    obtain ⟨r3, hc3, hf⟩ := sp_hc hf
    refine sp_callSl (rest := []) S hK hG hA hW (c_X9_halfOf r2 p3 hc3) (by decide) (va_cwS 2 S.2.2.2.2 gX9_truths_X9_halfOf rfl rfl rfl (by decide +kernel) (by decide)) (isC := []) rfl rfl rfl (WS' := sw_X a pA n_sh n_rd n_sz n_or n_st n_tb q5 pn od fa tr ++ (sw_XP pA q5 pa ++ (sw_P uP q5 clP leP riP ltP grP ctP gcP))) rfl rfl hl.1 (Nat.le_of_ble_eq_true rfl) dX9_truths_25 ⟨Nat.zero_le _, Nat.zero_le _⟩ rfl (fun H locs hW => ?_)
    have q0 := Option.some.inj hf
    subst q0
    exact sp_lret S hr hlk hW hQ dX9_truths_28
  · have hf := sp_ht hf hc
    refine lv_ldc2 hx hb S.2.2.2.1 lk2 dX9_truths_10 ?_
    have q0 := Option.some.inj hf
    subst q0
    exact sp_lret S hr hlk hW hQ dX9_truths_13

def f_X9_cuts_L37 (gcP : Int32) (k5 : Option (Int32)) (grP : Nat → Int32) (clP : Nat → Int32) (rec37 : (Int32) → Option (Int32)) (s9 : Int32) : Option (Int32) := match s9 with
  | y4 => if gcP ≤ y4 then k5 else (sp_ld grP 48 y4 (fun v7 => sp_ld clP 48 v7 (fun v8 => Option.bind (f_X0_isSmall v8) (fun r9 => if r9 = 0 then (some (-3 : Int32)) else (sp_bnd (y4 + (1 : Int32)) (fun v10 => rec37 v10))))))
theorem f_X9_cuts_L37_eq {rec37 : (Int32) → Option (Int32)} {gcP : Int32} {k5 : Option (Int32)} {grP : Nat → Int32} {clP : Nat → Int32} {y4 : Int32} : f_X9_cuts_L37 gcP k5 grP clP rec37 y4 = (if gcP ≤ y4 then k5 else (sp_ld grP 48 y4 (fun v7 => sp_ld clP 48 v7 (fun v8 => Option.bind (f_X0_isSmall v8) (fun r9 => if r9 = 0 then (some (-3 : Int32)) else (sp_bnd (y4 + (1 : Int32)) (fun v10 => rec37 v10))))))) := rfl
def f_X9_cuts (p1 : Int32) (p2 : Int32) (pn : Int32) (clP : Nat → Int32) (grP : Nat → Int32) (gcP : Int32) : Option (Int32) := Option.bind (f_X9_isProof p1 pn) (fun r1 => if r1 = 0 then (some (-1 : Int32)) else (Option.bind (f_X0_isClause p2) (fun r2 => if r2 = 0 then (some (-2 : Int32)) else (Option.bind (f_X0_isSmall p2) (fun r3 => if r3 = 0 then (some (-2 : Int32)) else (sp_ck 12 p1 (sp_bnd (Option.bind (f_X7_fewestCuts p2 clP grP gcP) (fun r6 => some r6)) (fun k5 => sp_lp (f_X9_cuts_L37 gcP k5 grP clP) sp_F (0 : Int32)))))))))
def rmX9_cuts : Room := { frames := 6, cells := 0, slots := 0, locals := 163 }
set_option maxRecDepth 4000 in
theorem c_X9_cuts {l : Launch} {D : va_G} {q5 : Nat → ClassId} (a : Nat → Nat) (pA : Nat) (uP : Nat → Nat) (n_sh : Nat) (n_rd : Nat) (n_sz : Nat) (n_or : Nat) (n_st : Nat) (n_tb : Nat) (pn : Int32) (od : Int32) (fa : Int32) (tr : Int32) (pa : Nat → Option Nat) (clP : Nat → Int32) (leP : Nat → Int32) (riP : Nat → Int32) (ltP : Nat → Int32) (grP : Nat → Int32) (ctP : Int32) (gcP : Int32) (p1 : Int32) (p2 : Int32) (hR_P : vp_in p1 12 → pa p1.toNatClampNeg = some (uP 0)) {r' : Int32} (hf : f_X9_cuts p1 p2 pn clP grP gcP = some r') : sp_Ci l yX9_cuts wsX9_cuts rmX9_cuts D q5 1 [.ref (a 0), .int p1, .int p2] (sw_X a pA n_sh n_rd n_sz n_or n_st n_tb q5 pn od fa tr ++ (sw_XP pA q5 pa ++ (sw_P uP q5 clP leP riP ltP grP ctP gcP))) r' (sw_X a pA n_sh n_rd n_sz n_or n_st n_tb q5 pn od fa tr ++ (sw_XP pA q5 pa ++ (sw_P uP q5 clP leP riP ltP grP ctP gcP))) := by
  intro sz
  refine sp_of (cc := cX9_cuts) (maxL := 5) (ret := some .int) (own := RX9) (Qc := sp_Qi D r' (sw_X a pA n_sh n_rd n_sz n_or n_st n_tb q5 pn od fa tr ++ (sw_XP pA q5 pa ++ (sw_P uP q5 clP leP riP ltP grP ctP gcP)))) (by decide) rfl rfl (Nat.le_of_ble_eq_true rfl) ?_
  intro p e s m args below meth c A ls Q hQ S hr hlk hK hG hA hW hl
  have hx := S.1
  have hb := S.2.1
  unfold f_X9_cuts at hf
  have inX2 : ∀ w ∈ u_ws RX2 TX2 7, w ∈ wsX9_cuts := (fun _ h => List.mem_cons_of_mem _ (List.mem_append_right _ h))
  have inX9 : ∀ w ∈ u_ws RX9 TX9 11, w ∈ wsX9_cuts := (fun _ h => List.mem_cons_of_mem _ (List.mem_append_left _ (List.mem_append_right _ h)))
  have lk1 := S.2.2.2.2 (Cond.fieldLink RX9 13 "ShortProofs" "proofs" "[LShortProofs$Proof;") (List.mem_of_getElem? (i := 1) rfl)
  have lk2 := S.2.2.2.2 (Cond.fieldLink RX9 141 "ShortProofs$Proof" "groundCount" "I") (List.mem_of_getElem? (i := 2) rfl)
  have lk3 := S.2.2.2.2 (Cond.fieldLink RX9 107 "ShortProofs$Proof" "clauses" "[I") (List.mem_of_getElem? (i := 3) rfl)
  have lk4 := S.2.2.2.2 (Cond.fieldLink RX9 148 "ShortProofs$Proof" "grounds" "[I") (List.mem_of_getElem? (i := 4) rfl)
  refine lv_aload_n hx hb dX9_cuts_0 rfl (lv_at hl 0 rfl) ?_
  refine lv_iload_n hx hb dX9_cuts_1 rfl (lv_at hl 1 rfl) ?_
  obtain ⟨r1, hc1, hf⟩ := sp_hc hf
  refine sp_callViP (rest := []) S hK hG hA hW (c_X9_isProof a pA n_sh n_rd n_sz n_or n_st n_tb pn od fa tr p1 hc1) (by decide) (cwV 1 S.2.2.2.2 gX9_cuts_X9_isProof rfl rfl rfl (by decide +kernel) (by decide)) 7 0 rfl rfl (sp_pq [sw_X a pA n_sh n_rd n_sz n_or n_st n_tb q5 pn od fa tr, sw_XP pA q5 pa, sw_P uP q5 clP leP riP ltP grP ctP gcP] [0, 1, 2] [0] [1, 2] (by decide)) rfl (WS' := sw_X a pA n_sh n_rd n_sz n_or n_st n_tb q5 pn od fa tr ++ (sw_XP pA q5 pa ++ (sw_P uP q5 clP leP riP ltP grP ctP gcP))) (sp_pq' [sw_X a pA n_sh n_rd n_sz n_or n_st n_tb q5 pn od fa tr, sw_XP pA q5 pa, sw_P uP q5 clP leP riP ltP grP ctP gcP] [0, 1, 2] [0] [1, 2] (by decide)) rfl hl.1 (Nat.le_of_ble_eq_true rfl) dX9_cuts_2 ⟨Nat.zero_le _, Nat.zero_le _⟩ rfl (fun H locs hW => ?_)
  refine lv_if_ne (tgt := 10) hx hb dX9_cuts_5 (by decide) (fun hc => ?_) (fun hc => ?_)
  · have hf := sp_hf hf hc
    refine lv_iload_n hx hb dX9_cuts_10 rfl (lv_at hl 2 rfl) ?_
    obtain ⟨r2, hc2, hf⟩ := sp_hc hf
    refine sp_callSi (rest := []) S hK hG hA hW (c_X0_isClause p2 hc2) (by decide) (va_cwS 1 S.2.2.2.2 gX9_cuts_X0_isClause rfl rfl rfl (by decide +kernel) (by decide)) (isC := []) rfl rfl rfl (WS' := sw_X a pA n_sh n_rd n_sz n_or n_st n_tb q5 pn od fa tr ++ (sw_XP pA q5 pa ++ (sw_P uP q5 clP leP riP ltP grP ctP gcP))) rfl rfl hl.1 (Nat.le_of_ble_eq_true rfl) dX9_cuts_11 ⟨Nat.zero_le _, Nat.zero_le _⟩ rfl (fun H locs hW => ?_)
    refine lv_if_eq (tgt := 24) hx hb dX9_cuts_14 (by decide) (fun hc => ?_) (fun hc => ?_)
    · have hf := sp_ht hf hc
      refine lv_bipush (v := (-2)) hx hb dX9_cuts_24 (by decide) ?_
      have q0 := Option.some.inj hf
      subst q0
      exact sp_iret S hr hlk hW hQ dX9_cuts_26
    · have hf := sp_hf hf hc
      refine lv_iload_n hx hb dX9_cuts_17 rfl (lv_at hl 2 rfl) ?_
      obtain ⟨r3, hc3, hf⟩ := sp_hc hf
      refine sp_callSi (rest := []) S hK hG hA hW (c_X0_isSmall p2 hc3) (by decide) (va_cwS 1 S.2.2.2.2 gX9_cuts_X0_isSmall rfl rfl rfl (by decide +kernel) (by decide)) (isC := []) rfl rfl rfl (WS' := sw_X a pA n_sh n_rd n_sz n_or n_st n_tb q5 pn od fa tr ++ (sw_XP pA q5 pa ++ (sw_P uP q5 clP leP riP ltP grP ctP gcP))) rfl rfl hl.1 (Nat.le_of_ble_eq_true rfl) dX9_cuts_18 ⟨Nat.zero_le _, Nat.zero_le _⟩ rfl (fun H locs hW => ?_)
      refine lv_if_ne (tgt := 27) hx hb dX9_cuts_21 (by decide) (fun hc => ?_) (fun hc => ?_)
      · have hf := sp_hf hf hc
        refine lv_aload_n hx hb dX9_cuts_27 rfl (lv_at hl 0 rfl) ?_
        refine sp_get S hK hW inX9 0 rfl rfl 0 (by decide) lk1 rfl dX9_cuts_28 ?_
        refine lv_iload_n hx hb dX9_cuts_31 rfl (lv_at hl 1 rfl) ?_
        obtain ⟨hin, hf⟩ := sp_hck2 hf
        refine sp_aldq S hK hW 1 3 rfl rfl hin (hR_P hin) dX9_cuts_32 ?_
        refine lv_astore_n (lv' := [(3, .ref (uP 0)), (0, .ref (a 0)), (1, .int p1), (2, .int p2)]) hx hb dX9_cuts_33 rfl hl (by decide) rfl (fun ls hl => ?_)
        refine lv_iconst (v := 0) hx hb dX9_cuts_34 (by decide) ?_
        refine lv_istore (lv' := [(4, .int (0 : Int32)), (3, .ref (uP 0)), (0, .ref (a 0)), (1, .int p1), (2, .int p2)]) hx hb dX9_cuts_35 hl (by decide) rfl (fun ls hl => ?_)
        obtain ⟨k5, ek5, hf⟩ := sp_hb hf
        have hj5 : ∀ (H : Heap) (locs : List Loc) (ls : Array Slot), k5 = some r' → sp_wd D A s.heap (sw_X a pA n_sh n_rd n_sz n_or n_st n_tb q5 pn od fa tr ++ (sw_XP pA q5 pa ++ (sw_P uP q5 clP leP riP ltP grP ctP gcP))) H locs → lv_has ls 5 [(2, .int p2), (3, .ref (uP 0))] → W p l e rmX9_cuts s m args below meth c H locs 0 0 Q (F0 m 73 ls []) := by
          intro H locs ls hf hW hl
          rw [ek5] at hf
          refine lv_aload_n hx hb dX9_cuts_73 rfl (lv_at hl 1 rfl) ?_
          refine lv_iload_n hx hb dX9_cuts_74 rfl (lv_at hl 0 rfl) ?_
          obtain ⟨r6, hc6, hf⟩ := sp_hc hf
          refine sp_callSiP (rest := []) S hK hG hA hW (c_X7_fewestCuts uP clP leP riP ltP grP ctP gcP p2 hc6) (by decide) (va_cwS 2 S.2.2.2.2 gX9_cuts_X7_fewestCuts rfl rfl rfl (by decide +kernel) (by decide)) (sp_pq [sw_X a pA n_sh n_rd n_sz n_or n_st n_tb q5 pn od fa tr, sw_XP pA q5 pa, sw_P uP q5 clP leP riP ltP grP ctP gcP] [0, 1, 2] [2] [0, 1] (by decide)) rfl (WS' := sw_X a pA n_sh n_rd n_sz n_or n_st n_tb q5 pn od fa tr ++ (sw_XP pA q5 pa ++ (sw_P uP q5 clP leP riP ltP grP ctP gcP))) (sp_pq' [sw_X a pA n_sh n_rd n_sz n_or n_st n_tb q5 pn od fa tr, sw_XP pA q5 pa, sw_P uP q5 clP leP riP ltP grP ctP gcP] [0, 1, 2] [2] [0, 1] (by decide)) rfl hl.1 (Nat.le_of_ble_eq_true rfl) dX9_cuts_75 ⟨Nat.zero_le _, Nat.zero_le _⟩ rfl (fun H locs hW => ?_)
          have q0 := Option.some.inj hf
          subst q0
          exact sp_iret S hr hlk hW hQ dX9_cuts_78
        have hlp37 : ∀ (n9 : Nat) (y4 : Int32) (H : Heap) (locs : List Loc) (ls : Array Slot), sp_lp (f_X9_cuts_L37 gcP k5 grP clP) n9 y4 = some r' → sp_wd D A s.heap (sw_X a pA n_sh n_rd n_sz n_or n_st n_tb q5 pn od fa tr ++ (sw_XP pA q5 pa ++ (sw_P uP q5 clP leP riP ltP grP ctP gcP))) H locs → lv_has ls 5 [(2, .int p2), (3, .ref (uP 0)), (4, .int y4)] → W p l e rmX9_cuts s m args below meth c H locs 0 0 Q (F0 m 37 ls []) := by
          intro n9
          induction n9 with
          | zero =>
            intro y4 H locs ls hf hW hl
            exact (sp_lp0 hf).elim
          | succ n9 ih37 =>
            intro y4 H locs ls hf hW hl
            have hf := sp_lpS hf
            rw [f_X9_cuts_L37_eq] at hf
            refine lv_iload hx hb dX9_cuts_37 (lv_at hl 2 rfl) ?_
            refine lv_aload_n hx hb dX9_cuts_39 rfl (lv_at hl 1 rfl) ?_
            refine sp_get S hK hW inX2 2 rfl rfl 6 (by decide) lk2 rfl dX9_cuts_40 ?_
            refine lv_icmp_ge (tgt := 73) hx hb dX9_cuts_43 (by decide) (fun hc => ?_) (fun hc => ?_)
            · have hf := sp_ht hf hc
              exact hj5 _ _ _ hf hW (lv_sub hl [0, 1] rfl)
            · have hf := sp_hf hf hc
              refine lv_aload_n hx hb dX9_cuts_46 rfl (lv_at hl 1 rfl) ?_
              refine sp_get S hK hW inX2 2 rfl rfl 0 (by decide) lk3 rfl dX9_cuts_47 ?_
              refine lv_aload_n hx hb dX9_cuts_50 rfl (lv_at hl 1 rfl) ?_
              refine sp_get S hK hW inX2 2 rfl rfl 4 (by decide) lk4 rfl dX9_cuts_51 ?_
              refine lv_iload hx hb dX9_cuts_54 (lv_at hl 2 rfl) ?_
              obtain ⟨hin, v7, ev7, hf⟩ := sp_hld hf
              refine sp_iald S hK hW 7 rfl hin ev7 dX9_cuts_56 ?_
              obtain ⟨hin, v8, ev8, hf⟩ := sp_hld hf
              refine sp_iald S hK hW 3 rfl hin ev8 dX9_cuts_57 ?_
              obtain ⟨r9, hc9, hf⟩ := sp_hc hf
              refine sp_callSi (rest := []) S hK hG hA hW (c_X0_isSmall v8 hc9) (by decide) (va_cwS 1 S.2.2.2.2 gX9_cuts_X0_isSmall rfl rfl rfl (by decide +kernel) (by decide)) (isC := []) rfl rfl rfl (WS' := sw_X a pA n_sh n_rd n_sz n_or n_st n_tb q5 pn od fa tr ++ (sw_XP pA q5 pa ++ (sw_P uP q5 clP leP riP ltP grP ctP gcP))) rfl rfl hl.1 (Nat.le_of_ble_eq_true rfl) dX9_cuts_58 ⟨Nat.zero_le _, Nat.zero_le _⟩ rfl (fun H locs hW => ?_)
              refine lv_if_ne (tgt := 67) hx hb dX9_cuts_61 (by decide) (fun hc => ?_) (fun hc => ?_)
              · have hf := sp_hf hf hc
                obtain ⟨v10, ev10, hf⟩ := sp_hb hf
                refine lv_iinc (v := v10) (lv' := [(4, .int v10), (2, .int p2), (3, .ref (uP 0))]) hx hb dX9_cuts_67 hl (k := 2) rfl (by rw [ev10]; rfl) (by decide) rfl (fun ls hl => ?_)
                refine lv_goto (tgt := 37) hx hb dX9_cuts_70 (by decide) ?_
                exact ih37 _ _ _ _ hf hW (lv_sub hl [1, 2, 0] rfl)
              · have hf := sp_ht hf hc
                refine lv_bipush (v := (-3)) hx hb dX9_cuts_64 (by decide) ?_
                have q0 := Option.some.inj hf
                subst q0
                exact sp_iret S hr hlk hW hQ dX9_cuts_66
        exact hlp37 _ _ _ _ _ hf hW (lv_sub hl [4, 1, 0] rfl)
      · have hf := sp_ht hf hc
        refine lv_bipush (v := (-2)) hx hb dX9_cuts_24 (by decide) ?_
        have q0 := Option.some.inj hf
        subst q0
        exact sp_iret S hr hlk hW hQ dX9_cuts_26
  · have hf := sp_ht hf hc
    refine lv_iconst (v := (-1)) hx hb dX9_cuts_8 (by decide) ?_
    have q0 := Option.some.inj hf
    subst q0
    exact sp_iret S hr hlk hW hQ dX9_cuts_9

def f_X9_units (p1 : Int32) (p2 : Int32) (pn : Int32) (clP : Nat → Int32) (grP : Nat → Int32) (gcP : Int32) : Option (Int32) := Option.bind (f_X9_isProof p1 pn) (fun r1 => if r1 = 0 then (some (-1 : Int32)) else (Option.bind (f_X0_isClause p2) (fun r2 => if r2 = 0 then (some (-2 : Int32)) else (sp_ck 12 p1 (Option.bind (f_X7_isByUnits p2 clP grP gcP) (fun r3 => if r3 = 0 then (some (0 : Int32)) else (some (1 : Int32))))))))
def rmX9_units : Room := { frames := 3, cells := 0, slots := 0, locals := 68 }
set_option maxRecDepth 4000 in
theorem c_X9_units {l : Launch} {D : va_G} {q5 : Nat → ClassId} (a : Nat → Nat) (pA : Nat) (uP : Nat → Nat) (n_sh : Nat) (n_rd : Nat) (n_sz : Nat) (n_or : Nat) (n_st : Nat) (n_tb : Nat) (pn : Int32) (od : Int32) (fa : Int32) (tr : Int32) (pa : Nat → Option Nat) (clP : Nat → Int32) (leP : Nat → Int32) (riP : Nat → Int32) (ltP : Nat → Int32) (grP : Nat → Int32) (ctP : Int32) (gcP : Int32) (p1 : Int32) (p2 : Int32) (hR_P : vp_in p1 12 → pa p1.toNatClampNeg = some (uP 0)) {r' : Int32} (hf : f_X9_units p1 p2 pn clP grP gcP = some r') : sp_Ci l yX9_units wsX9_units rmX9_units D q5 0 [.ref (a 0), .int p1, .int p2] (sw_X a pA n_sh n_rd n_sz n_or n_st n_tb q5 pn od fa tr ++ (sw_XP pA q5 pa ++ (sw_P uP q5 clP leP riP ltP grP ctP gcP))) r' (sw_X a pA n_sh n_rd n_sz n_or n_st n_tb q5 pn od fa tr ++ (sw_XP pA q5 pa ++ (sw_P uP q5 clP leP riP ltP grP ctP gcP))) := by
  intro sz
  refine sp_of (cc := cX9_units) (maxL := 3) (ret := some .int) (own := RX9) (Qc := sp_Qi D r' (sw_X a pA n_sh n_rd n_sz n_or n_st n_tb q5 pn od fa tr ++ (sw_XP pA q5 pa ++ (sw_P uP q5 clP leP riP ltP grP ctP gcP)))) (by decide) rfl rfl (Nat.le_of_ble_eq_true rfl) ?_
  intro p e s m args below meth c A ls Q hQ S hr hlk hK hG hA hW hl
  have hx := S.1
  have hb := S.2.1
  unfold f_X9_units at hf
  have inX9 : ∀ w ∈ u_ws RX9 TX9 11, w ∈ wsX9_units := (fun _ h => List.mem_cons_of_mem _ (List.mem_append_left _ (List.mem_append_right _ h)))
  have lk1 := S.2.2.2.2 (Cond.fieldLink RX9 13 "ShortProofs" "proofs" "[LShortProofs$Proof;") (List.mem_of_getElem? (i := 1) rfl)
  refine lv_aload_n hx hb dX9_units_0 rfl (lv_at hl 0 rfl) ?_
  refine lv_iload_n hx hb dX9_units_1 rfl (lv_at hl 1 rfl) ?_
  obtain ⟨r1, hc1, hf⟩ := sp_hc hf
  refine sp_callViP (rest := []) S hK hG hA hW (c_X9_isProof a pA n_sh n_rd n_sz n_or n_st n_tb pn od fa tr p1 hc1) (by decide) (cwV 1 S.2.2.2.2 gX9_units_X9_isProof rfl rfl rfl (by decide +kernel) (by decide)) 7 0 rfl rfl (sp_pq [sw_X a pA n_sh n_rd n_sz n_or n_st n_tb q5 pn od fa tr, sw_XP pA q5 pa, sw_P uP q5 clP leP riP ltP grP ctP gcP] [0, 1, 2] [0] [1, 2] (by decide)) rfl (WS' := sw_X a pA n_sh n_rd n_sz n_or n_st n_tb q5 pn od fa tr ++ (sw_XP pA q5 pa ++ (sw_P uP q5 clP leP riP ltP grP ctP gcP))) (sp_pq' [sw_X a pA n_sh n_rd n_sz n_or n_st n_tb q5 pn od fa tr, sw_XP pA q5 pa, sw_P uP q5 clP leP riP ltP grP ctP gcP] [0, 1, 2] [0] [1, 2] (by decide)) rfl hl.1 (Nat.le_of_ble_eq_true rfl) dX9_units_2 ⟨Nat.zero_le _, Nat.zero_le _⟩ rfl (fun H locs hW => ?_)
  refine lv_if_ne (tgt := 10) hx hb dX9_units_5 (by decide) (fun hc => ?_) (fun hc => ?_)
  · have hf := sp_hf hf hc
    refine lv_iload_n hx hb dX9_units_10 rfl (lv_at hl 2 rfl) ?_
    obtain ⟨r2, hc2, hf⟩ := sp_hc hf
    refine sp_callSi (rest := []) S hK hG hA hW (c_X0_isClause p2 hc2) (by decide) (va_cwS 1 S.2.2.2.2 gX9_units_X0_isClause rfl rfl rfl (by decide +kernel) (by decide)) (isC := []) rfl rfl rfl (WS' := sw_X a pA n_sh n_rd n_sz n_or n_st n_tb q5 pn od fa tr ++ (sw_XP pA q5 pa ++ (sw_P uP q5 clP leP riP ltP grP ctP gcP))) rfl rfl hl.1 (Nat.le_of_ble_eq_true rfl) dX9_units_11 ⟨Nat.zero_le _, Nat.zero_le _⟩ rfl (fun H locs hW => ?_)
    refine lv_if_ne (tgt := 20) hx hb dX9_units_14 (by decide) (fun hc => ?_) (fun hc => ?_)
    · have hf := sp_hf hf hc
      refine lv_aload_n hx hb dX9_units_20 rfl (lv_at hl 0 rfl) ?_
      refine sp_get S hK hW inX9 0 rfl rfl 0 (by decide) lk1 rfl dX9_units_21 ?_
      refine lv_iload_n hx hb dX9_units_24 rfl (lv_at hl 1 rfl) ?_
      obtain ⟨hin, hf⟩ := sp_hck2 hf
      refine sp_aldq S hK hW 1 3 rfl rfl hin (hR_P hin) dX9_units_25 ?_
      refine lv_iload_n hx hb dX9_units_26 rfl (lv_at hl 2 rfl) ?_
      obtain ⟨r3, hc3, hf⟩ := sp_hc hf
      refine sp_callSiP (rest := []) S hK hG hA hW (c_X7_isByUnits uP clP leP riP ltP grP ctP gcP p2 hc3) (by decide) (va_cwS 2 S.2.2.2.2 gX9_units_X7_isByUnits rfl rfl rfl (by decide +kernel) (by decide)) (sp_pq [sw_X a pA n_sh n_rd n_sz n_or n_st n_tb q5 pn od fa tr, sw_XP pA q5 pa, sw_P uP q5 clP leP riP ltP grP ctP gcP] [0, 1, 2] [2] [0, 1] (by decide)) rfl (WS' := sw_X a pA n_sh n_rd n_sz n_or n_st n_tb q5 pn od fa tr ++ (sw_XP pA q5 pa ++ (sw_P uP q5 clP leP riP ltP grP ctP gcP))) (sp_pq' [sw_X a pA n_sh n_rd n_sz n_or n_st n_tb q5 pn od fa tr, sw_XP pA q5 pa, sw_P uP q5 clP leP riP ltP grP ctP gcP] [0, 1, 2] [2] [0, 1] (by decide)) rfl hl.1 (Nat.le_of_ble_eq_true rfl) dX9_units_27 ⟨Nat.zero_le _, Nat.zero_le _⟩ rfl (fun H locs hW => ?_)
      refine lv_if_eq (tgt := 37) hx hb dX9_units_30 (by decide) (fun hc => ?_) (fun hc => ?_)
      · have hf := sp_ht hf hc
        refine lv_iconst (v := 0) hx hb dX9_units_37 (by decide) ?_
        have q0 := Option.some.inj hf
        subst q0
        exact sp_iret S hr hlk hW hQ dX9_units_38
      · have hf := sp_hf hf hc
        refine lv_iconst (v := 1) hx hb dX9_units_33 (by decide) ?_
        refine lv_goto (tgt := 38) hx hb dX9_units_34 (by decide) ?_
        have q0 := Option.some.inj hf
        subst q0
        exact sp_iret S hr hlk hW hQ dX9_units_38
    · have hf := sp_ht hf hc
      refine lv_bipush (v := (-2)) hx hb dX9_units_17 (by decide) ?_
      have q0 := Option.some.inj hf
      subst q0
      exact sp_iret S hr hlk hW hQ dX9_units_19
  · have hf := sp_ht hf hc
    refine lv_iconst (v := (-1)) hx hb dX9_units_8 (by decide) ?_
    have q0 := Option.some.inj hf
    subst q0
    exact sp_iret S hr hlk hW hQ dX9_units_9

def f_X9_follows (p1 : Int32) (p2 : Int32) (pn : Int32) (clP : Nat → Int32) (grP : Nat → Int32) (gcP : Int32) : Option (Int32) := Option.bind (f_X9_isProof p1 pn) (fun r1 => if r1 = 0 then (some (-1 : Int32)) else (Option.bind (f_X0_isClause p2) (fun r2 => if r2 = 0 then (some (-2 : Int32)) else (sp_ck 12 p1 (Option.bind (f_X8_allOf (-1 : Int32) clP grP gcP) (fun r3 => Option.bind (f_X0_tableOf p2) (fun r4 => if (lg_cmp (r3 &&& (r4 ^^^ (-1 : Int64))) (0 : Int64)) = 0 then (some (1 : Int32)) else (some (0 : Int32)))))))))
def rmX9_follows : Room := { frames := 3, cells := 0, slots := 0, locals := 68 }
set_option maxRecDepth 4000 in
theorem c_X9_follows {l : Launch} {D : va_G} {q5 : Nat → ClassId} (a : Nat → Nat) (pA : Nat) (uP : Nat → Nat) (n_sh : Nat) (n_rd : Nat) (n_sz : Nat) (n_or : Nat) (n_st : Nat) (n_tb : Nat) (pn : Int32) (od : Int32) (fa : Int32) (tr : Int32) (pa : Nat → Option Nat) (clP : Nat → Int32) (leP : Nat → Int32) (riP : Nat → Int32) (ltP : Nat → Int32) (grP : Nat → Int32) (ctP : Int32) (gcP : Int32) (p1 : Int32) (p2 : Int32) (hR_P : vp_in p1 12 → pa p1.toNatClampNeg = some (uP 0)) {r' : Int32} (hf : f_X9_follows p1 p2 pn clP grP gcP = some r') : sp_Ci l yX9_follows wsX9_follows rmX9_follows D q5 2 [.ref (a 0), .int p1, .int p2] (sw_X a pA n_sh n_rd n_sz n_or n_st n_tb q5 pn od fa tr ++ (sw_XP pA q5 pa ++ (sw_P uP q5 clP leP riP ltP grP ctP gcP))) r' (sw_X a pA n_sh n_rd n_sz n_or n_st n_tb q5 pn od fa tr ++ (sw_XP pA q5 pa ++ (sw_P uP q5 clP leP riP ltP grP ctP gcP))) := by
  intro sz
  refine sp_of (cc := cX9_follows) (maxL := 5) (ret := some .int) (own := RX9) (Qc := sp_Qi D r' (sw_X a pA n_sh n_rd n_sz n_or n_st n_tb q5 pn od fa tr ++ (sw_XP pA q5 pa ++ (sw_P uP q5 clP leP riP ltP grP ctP gcP)))) (by decide) rfl rfl (Nat.le_of_ble_eq_true rfl) ?_
  intro p e s m args below meth c A ls Q hQ S hr hlk hK hG hA hW hl
  have hx := S.1
  have hb := S.2.1
  unfold f_X9_follows at hf
  have inX9 : ∀ w ∈ u_ws RX9 TX9 11, w ∈ wsX9_follows := (fun _ h => List.mem_cons_of_mem _ (List.mem_append_left _ (List.mem_append_right _ h)))
  have lk1 := S.2.2.2.2 (Cond.fieldLink RX9 13 "ShortProofs" "proofs" "[LShortProofs$Proof;") (List.mem_of_getElem? (i := 1) rfl)
  have lk2 := S.2.2.2.2 (Cond.constantLong RX9 245 (-1)) (List.mem_of_getElem? (i := 2) rfl)
  refine lv_aload_n hx hb dX9_follows_0 rfl (lv_at hl 0 rfl) ?_
  refine lv_iload_n hx hb dX9_follows_1 rfl (lv_at hl 1 rfl) ?_
  obtain ⟨r1, hc1, hf⟩ := sp_hc hf
  refine sp_callViP (rest := []) S hK hG hA hW (c_X9_isProof a pA n_sh n_rd n_sz n_or n_st n_tb pn od fa tr p1 hc1) (by decide) (cwV 1 S.2.2.2.2 gX9_follows_X9_isProof rfl rfl rfl (by decide +kernel) (by decide)) 7 0 rfl rfl (sp_pq [sw_X a pA n_sh n_rd n_sz n_or n_st n_tb q5 pn od fa tr, sw_XP pA q5 pa, sw_P uP q5 clP leP riP ltP grP ctP gcP] [0, 1, 2] [0] [1, 2] (by decide)) rfl (WS' := sw_X a pA n_sh n_rd n_sz n_or n_st n_tb q5 pn od fa tr ++ (sw_XP pA q5 pa ++ (sw_P uP q5 clP leP riP ltP grP ctP gcP))) (sp_pq' [sw_X a pA n_sh n_rd n_sz n_or n_st n_tb q5 pn od fa tr, sw_XP pA q5 pa, sw_P uP q5 clP leP riP ltP grP ctP gcP] [0, 1, 2] [0] [1, 2] (by decide)) rfl hl.1 (Nat.le_of_ble_eq_true rfl) dX9_follows_2 ⟨Nat.zero_le _, Nat.zero_le _⟩ rfl (fun H locs hW => ?_)
  refine lv_if_ne (tgt := 10) hx hb dX9_follows_5 (by decide) (fun hc => ?_) (fun hc => ?_)
  · have hf := sp_hf hf hc
    refine lv_iload_n hx hb dX9_follows_10 rfl (lv_at hl 2 rfl) ?_
    obtain ⟨r2, hc2, hf⟩ := sp_hc hf
    refine sp_callSi (rest := []) S hK hG hA hW (c_X0_isClause p2 hc2) (by decide) (va_cwS 1 S.2.2.2.2 gX9_follows_X0_isClause rfl rfl rfl (by decide +kernel) (by decide)) (isC := []) rfl rfl rfl (WS' := sw_X a pA n_sh n_rd n_sz n_or n_st n_tb q5 pn od fa tr ++ (sw_XP pA q5 pa ++ (sw_P uP q5 clP leP riP ltP grP ctP gcP))) rfl rfl hl.1 (Nat.le_of_ble_eq_true rfl) dX9_follows_11 ⟨Nat.zero_le _, Nat.zero_le _⟩ rfl (fun H locs hW => ?_)
    refine lv_if_ne (tgt := 20) hx hb dX9_follows_14 (by decide) (fun hc => ?_) (fun hc => ?_)
    · have hf := sp_hf hf hc
      refine lv_aload_n hx hb dX9_follows_20 rfl (lv_at hl 0 rfl) ?_
      refine sp_get S hK hW inX9 0 rfl rfl 0 (by decide) lk1 rfl dX9_follows_21 ?_
      refine lv_iload_n hx hb dX9_follows_24 rfl (lv_at hl 1 rfl) ?_
      obtain ⟨hin, hf⟩ := sp_hck2 hf
      refine sp_aldq S hK hW 1 3 rfl rfl hin (hR_P hin) dX9_follows_25 ?_
      refine lv_iconst (v := (-1)) hx hb dX9_follows_26 (by decide) ?_
      obtain ⟨r3, hc3, hf⟩ := sp_hc hf
      refine sp_callSlP (rest := []) S hK hG hA hW (c_X8_allOf uP clP leP riP ltP grP ctP gcP (-1 : Int32) hc3) (by decide) (va_cwS 2 S.2.2.2.2 gX9_follows_X8_allOf rfl rfl rfl (by decide +kernel) (by decide)) (sp_pq [sw_X a pA n_sh n_rd n_sz n_or n_st n_tb q5 pn od fa tr, sw_XP pA q5 pa, sw_P uP q5 clP leP riP ltP grP ctP gcP] [0, 1, 2] [2] [0, 1] (by decide)) rfl (WS' := sw_X a pA n_sh n_rd n_sz n_or n_st n_tb q5 pn od fa tr ++ (sw_XP pA q5 pa ++ (sw_P uP q5 clP leP riP ltP grP ctP gcP))) (sp_pq' [sw_X a pA n_sh n_rd n_sz n_or n_st n_tb q5 pn od fa tr, sw_XP pA q5 pa, sw_P uP q5 clP leP riP ltP grP ctP gcP] [0, 1, 2] [2] [0, 1] (by decide)) rfl hl.1 (Nat.le_of_ble_eq_true rfl) dX9_follows_27 ⟨Nat.zero_le _, Nat.zero_le _⟩ rfl (fun H locs hW => ?_)
      refine lv_lstore_n (lv' := [(3, .long r3), (0, .ref (a 0)), (1, .int p1), (2, .int p2)]) hx hb dX9_follows_30 rfl hl (by decide) rfl (fun ls hl => ?_)
      refine lv_lload_n hx hb dX9_follows_31 rfl (lv_at hl 0 rfl) ?_
      refine lv_iload_n hx hb dX9_follows_32 rfl (lv_at hl 3 rfl) ?_
      obtain ⟨r4, hc4, hf⟩ := sp_hc hf
      refine sp_callSl (rest := [.long r3]) S hK hG hA hW (c_X0_tableOf p2 hc4) (by decide) (va_cwS 1 S.2.2.2.2 gX9_follows_X0_tableOf rfl rfl rfl (by decide +kernel) (by decide)) (isC := []) rfl rfl rfl (WS' := sw_X a pA n_sh n_rd n_sz n_or n_st n_tb q5 pn od fa tr ++ (sw_XP pA q5 pa ++ (sw_P uP q5 clP leP riP ltP grP ctP gcP))) rfl rfl hl.1 (Nat.le_of_ble_eq_true rfl) dX9_follows_33 ⟨Nat.zero_le _, Nat.zero_le _⟩ rfl (fun H locs hW => ?_)
      refine lv_ldc2 hx hb S.2.2.2.1 lk2 dX9_follows_36 ?_
      refine lv_lxor hx hb dX9_follows_39 ?_
      refine lv_land hx hb dX9_follows_40 ?_
      refine lv_lconst (v := 0) hx hb dX9_follows_41 (by decide) ?_
      refine W.lcmp hx hb dX9_follows_42 ?_
      refine lv_if_ne (tgt := 50) hx hb dX9_follows_43 (by decide) (fun hc => ?_) (fun hc => ?_)
      · have hf := sp_hf hf hc
        refine lv_iconst (v := 0) hx hb dX9_follows_50 (by decide) ?_
        have q0 := Option.some.inj hf
        subst q0
        exact sp_iret S hr hlk hW hQ dX9_follows_51
      · have hf := sp_ht hf hc
        refine lv_iconst (v := 1) hx hb dX9_follows_46 (by decide) ?_
        refine lv_goto (tgt := 51) hx hb dX9_follows_47 (by decide) ?_
        have q0 := Option.some.inj hf
        subst q0
        exact sp_iret S hr hlk hW hQ dX9_follows_51
    · have hf := sp_ht hf hc
      refine lv_bipush (v := (-2)) hx hb dX9_follows_17 (by decide) ?_
      have q0 := Option.some.inj hf
      subst q0
      exact sp_iret S hr hlk hW hQ dX9_follows_19
  · have hf := sp_ht hf hc
    refine lv_iconst (v := (-1)) hx hb dX9_follows_8 (by decide) ?_
    have q0 := Option.some.inj hf
    subst q0
    exact sp_iret S hr hlk hW hQ dX9_follows_9

def f_X9_cut (p1 : Int32) (p2 : Int32) (p3 : Int32) : Option (Int32) := Option.bind (f_X0_isClause p1) (fun r1 => if r1 = 0 then (some (-2 : Int32)) else (Option.bind (f_X0_isClause p2) (fun r2 => if r2 = 0 then (some (-2 : Int32)) else (if p3 < 0 then (some (-2 : Int32)) else (if p3 < (6 : Int32) then (Option.bind (f_X0_cutOf p1 p2 p3) (fun r3 => some r3)) else (some (-2 : Int32)))))))
def rmX9_cut : Room := { frames := 2, cells := 0, slots := 0, locals := 46 }
set_option maxRecDepth 4000 in
theorem c_X9_cut {l : Launch} {D : va_G} {q5 : Nat → ClassId} (a : Nat → Nat) (n_pr : Nat) (n_sh : Nat) (n_rd : Nat) (n_sz : Nat) (n_or : Nat) (n_st : Nat) (n_tb : Nat) (pn : Int32) (od : Int32) (fa : Int32) (tr : Int32) (p1 : Int32) (p2 : Int32) (p3 : Int32) {r' : Int32} (hf : f_X9_cut p1 p2 p3 = some r') : sp_Ci l yX9_cut wsX9_cut rmX9_cut D q5 0 [.ref (a 0), .int p1, .int p2, .int p3] (sw_X a n_pr n_sh n_rd n_sz n_or n_st n_tb q5 pn od fa tr) r' (sw_X a n_pr n_sh n_rd n_sz n_or n_st n_tb q5 pn od fa tr) := by
  intro sz
  refine sp_of (cc := cX9_cut) (maxL := 4) (ret := some .int) (own := RX9) (Qc := sp_Qi D r' (sw_X a n_pr n_sh n_rd n_sz n_or n_st n_tb q5 pn od fa tr)) (by decide) rfl rfl (Nat.le_of_ble_eq_true rfl) ?_
  intro p e s m args below meth c A ls Q hQ S hr hlk hK hG hA hW hl
  have hx := S.1
  have hb := S.2.1
  unfold f_X9_cut at hf
  refine lv_iload_n hx hb dX9_cut_0 rfl (lv_at hl 1 rfl) ?_
  obtain ⟨r1, hc1, hf⟩ := sp_hc hf
  refine sp_callSi (rest := []) S hK hG hA hW (c_X0_isClause p1 hc1) (by decide) (va_cwS 1 S.2.2.2.2 gX9_cut_X0_isClause rfl rfl rfl (by decide +kernel) (by decide)) (isC := []) rfl rfl rfl (WS' := sw_X a n_pr n_sh n_rd n_sz n_or n_st n_tb q5 pn od fa tr) rfl rfl hl.1 (Nat.le_of_ble_eq_true rfl) dX9_cut_1 ⟨Nat.zero_le _, Nat.zero_le _⟩ rfl (fun H locs hW => ?_)
  refine lv_if_eq (tgt := 24) hx hb dX9_cut_4 (by decide) (fun hc => ?_) (fun hc => ?_)
  · have hf := sp_ht hf hc
    refine lv_bipush (v := (-2)) hx hb dX9_cut_24 (by decide) ?_
    have q0 := Option.some.inj hf
    subst q0
    exact sp_iret S hr hlk hW hQ dX9_cut_26
  · have hf := sp_hf hf hc
    refine lv_iload_n hx hb dX9_cut_7 rfl (lv_at hl 2 rfl) ?_
    obtain ⟨r2, hc2, hf⟩ := sp_hc hf
    refine sp_callSi (rest := []) S hK hG hA hW (c_X0_isClause p2 hc2) (by decide) (va_cwS 1 S.2.2.2.2 gX9_cut_X0_isClause rfl rfl rfl (by decide +kernel) (by decide)) (isC := []) rfl rfl rfl (WS' := sw_X a n_pr n_sh n_rd n_sz n_or n_st n_tb q5 pn od fa tr) rfl rfl hl.1 (Nat.le_of_ble_eq_true rfl) dX9_cut_8 ⟨Nat.zero_le _, Nat.zero_le _⟩ rfl (fun H locs hW => ?_)
    refine lv_if_eq (tgt := 24) hx hb dX9_cut_11 (by decide) (fun hc => ?_) (fun hc => ?_)
    · have hf := sp_ht hf hc
      refine lv_bipush (v := (-2)) hx hb dX9_cut_24 (by decide) ?_
      have q0 := Option.some.inj hf
      subst q0
      exact sp_iret S hr hlk hW hQ dX9_cut_26
    · have hf := sp_hf hf hc
      refine lv_iload_n hx hb dX9_cut_14 rfl (lv_at hl 3 rfl) ?_
      refine lv_if_lt (tgt := 24) hx hb dX9_cut_15 (by decide) (fun hc => ?_) (fun hc => ?_)
      · have hf := sp_ht hf hc
        refine lv_bipush (v := (-2)) hx hb dX9_cut_24 (by decide) ?_
        have q0 := Option.some.inj hf
        subst q0
        exact sp_iret S hr hlk hW hQ dX9_cut_26
      · have hf := sp_hf hf hc
        refine lv_iload_n hx hb dX9_cut_18 rfl (lv_at hl 3 rfl) ?_
        refine lv_bipush (v := 6) hx hb dX9_cut_19 (by decide) ?_
        refine lv_icmp_lt (tgt := 27) hx hb dX9_cut_21 (by decide) (fun hc => ?_) (fun hc => ?_)
        · have hf := sp_ht hf hc
          refine lv_iload_n hx hb dX9_cut_27 rfl (lv_at hl 1 rfl) ?_
          refine lv_iload_n hx hb dX9_cut_28 rfl (lv_at hl 2 rfl) ?_
          refine lv_iload_n hx hb dX9_cut_29 rfl (lv_at hl 3 rfl) ?_
          obtain ⟨r3, hc3, hf⟩ := sp_hc hf
          refine sp_callSi (rest := []) S hK hG hA hW (c_X0_cutOf p1 p2 p3 hc3) (by decide) (va_cwS 3 S.2.2.2.2 gX9_cut_X0_cutOf rfl rfl rfl (by decide +kernel) (by decide)) (isC := []) rfl rfl rfl (WS' := sw_X a n_pr n_sh n_rd n_sz n_or n_st n_tb q5 pn od fa tr) rfl rfl hl.1 (Nat.le_of_ble_eq_true rfl) dX9_cut_30 ⟨Nat.zero_le _, Nat.zero_le _⟩ rfl (fun H locs hW => ?_)
          have q0 := Option.some.inj hf
          subst q0
          exact sp_iret S hr hlk hW hQ dX9_cut_33
        · have hf := sp_hf hf hc
          refine lv_bipush (v := (-2)) hx hb dX9_cut_24 (by decide) ?_
          have q0 := Option.some.inj hf
          subst q0
          exact sp_iret S hr hlk hW hQ dX9_cut_26

def f_X9_stronger (p1 : Int32) (p2 : Int32) : Option (Int32) := Option.bind (f_X0_isClause p1) (fun r1 => if r1 = 0 then (some (-2 : Int32)) else (Option.bind (f_X0_isClause p2) (fun r2 => if r2 = 0 then (some (-2 : Int32)) else (Option.bind (f_X0_isPart p1 p2) (fun r3 => if r3 = 0 then (some (0 : Int32)) else (some (1 : Int32)))))))
def rmX9_stronger : Room := { frames := 1, cells := 0, slots := 0, locals := 21 }
set_option maxRecDepth 4000 in
theorem c_X9_stronger {l : Launch} {D : va_G} {q5 : Nat → ClassId} (a : Nat → Nat) (n_pr : Nat) (n_sh : Nat) (n_rd : Nat) (n_sz : Nat) (n_or : Nat) (n_st : Nat) (n_tb : Nat) (pn : Int32) (od : Int32) (fa : Int32) (tr : Int32) (p1 : Int32) (p2 : Int32) {r' : Int32} (hf : f_X9_stronger p1 p2 = some r') : sp_Ci l yX9_stronger wsX9_stronger rmX9_stronger D q5 0 [.ref (a 0), .int p1, .int p2] (sw_X a n_pr n_sh n_rd n_sz n_or n_st n_tb q5 pn od fa tr) r' (sw_X a n_pr n_sh n_rd n_sz n_or n_st n_tb q5 pn od fa tr) := by
  intro sz
  refine sp_of (cc := cX9_stronger) (maxL := 3) (ret := some .int) (own := RX9) (Qc := sp_Qi D r' (sw_X a n_pr n_sh n_rd n_sz n_or n_st n_tb q5 pn od fa tr)) (by decide) rfl rfl (Nat.le_of_ble_eq_true rfl) ?_
  intro p e s m args below meth c A ls Q hQ S hr hlk hK hG hA hW hl
  have hx := S.1
  have hb := S.2.1
  unfold f_X9_stronger at hf
  refine lv_iload_n hx hb dX9_stronger_0 rfl (lv_at hl 1 rfl) ?_
  obtain ⟨r1, hc1, hf⟩ := sp_hc hf
  refine sp_callSi (rest := []) S hK hG hA hW (c_X0_isClause p1 hc1) (by decide) (va_cwS 1 S.2.2.2.2 gX9_stronger_X0_isClause rfl rfl rfl (by decide +kernel) (by decide)) (isC := []) rfl rfl rfl (WS' := sw_X a n_pr n_sh n_rd n_sz n_or n_st n_tb q5 pn od fa tr) rfl rfl hl.1 (Nat.le_of_ble_eq_true rfl) dX9_stronger_1 ⟨Nat.zero_le _, Nat.zero_le _⟩ rfl (fun H locs hW => ?_)
  refine lv_if_eq (tgt := 14) hx hb dX9_stronger_4 (by decide) (fun hc => ?_) (fun hc => ?_)
  · have hf := sp_ht hf hc
    refine lv_bipush (v := (-2)) hx hb dX9_stronger_14 (by decide) ?_
    have q0 := Option.some.inj hf
    subst q0
    exact sp_iret S hr hlk hW hQ dX9_stronger_16
  · have hf := sp_hf hf hc
    refine lv_iload_n hx hb dX9_stronger_7 rfl (lv_at hl 2 rfl) ?_
    obtain ⟨r2, hc2, hf⟩ := sp_hc hf
    refine sp_callSi (rest := []) S hK hG hA hW (c_X0_isClause p2 hc2) (by decide) (va_cwS 1 S.2.2.2.2 gX9_stronger_X0_isClause rfl rfl rfl (by decide +kernel) (by decide)) (isC := []) rfl rfl rfl (WS' := sw_X a n_pr n_sh n_rd n_sz n_or n_st n_tb q5 pn od fa tr) rfl rfl hl.1 (Nat.le_of_ble_eq_true rfl) dX9_stronger_8 ⟨Nat.zero_le _, Nat.zero_le _⟩ rfl (fun H locs hW => ?_)
    refine lv_if_ne (tgt := 17) hx hb dX9_stronger_11 (by decide) (fun hc => ?_) (fun hc => ?_)
    · have hf := sp_hf hf hc
      refine lv_iload_n hx hb dX9_stronger_17 rfl (lv_at hl 1 rfl) ?_
      refine lv_iload_n hx hb dX9_stronger_18 rfl (lv_at hl 2 rfl) ?_
      obtain ⟨r3, hc3, hf⟩ := sp_hc hf
      refine sp_callSi (rest := []) S hK hG hA hW (c_X0_isPart p1 p2 hc3) (by decide) (va_cwS 2 S.2.2.2.2 gX9_stronger_X0_isPart rfl rfl rfl (by decide +kernel) (by decide)) (isC := []) rfl rfl rfl (WS' := sw_X a n_pr n_sh n_rd n_sz n_or n_st n_tb q5 pn od fa tr) rfl rfl hl.1 (Nat.le_of_ble_eq_true rfl) dX9_stronger_19 ⟨Nat.zero_le _, Nat.zero_le _⟩ rfl (fun H locs hW => ?_)
      refine lv_if_eq (tgt := 29) hx hb dX9_stronger_22 (by decide) (fun hc => ?_) (fun hc => ?_)
      · have hf := sp_ht hf hc
        refine lv_iconst (v := 0) hx hb dX9_stronger_29 (by decide) ?_
        have q0 := Option.some.inj hf
        subst q0
        exact sp_iret S hr hlk hW hQ dX9_stronger_30
      · have hf := sp_hf hf hc
        refine lv_iconst (v := 1) hx hb dX9_stronger_25 (by decide) ?_
        refine lv_goto (tgt := 30) hx hb dX9_stronger_26 (by decide) ?_
        have q0 := Option.some.inj hf
        subst q0
        exact sp_iret S hr hlk hW hQ dX9_stronger_30
    · have hf := sp_ht hf hc
      refine lv_bipush (v := (-2)) hx hb dX9_stronger_14 (by decide) ?_
      have q0 := Option.some.inj hf
      subst q0
      exact sp_iret S hr hlk hW hQ dX9_stronger_16
