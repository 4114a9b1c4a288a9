def f_X9_shorter (p1 : Int32) (p2 : Int32) (pn : Int32) (clP : Nat → Int32) (leP : Nat → Int32) (riP : Nat → Int32) (ltP : Nat → Int32) (ctP : Int32) (clT : Nat → Int32) (leT : Nat → Int32) (riT : Nat → Int32) (ltT : Nat → Int32) (grT : Nat → Int32) (ctT : Int32) (gcT : Int32) (sdS : Nat → Int32) (sfS : Nat → Int32) (nuS : Nat → Int32) (utS : Int64) (clD : Nat → Int32) (leD : Nat → Int32) (riD : Nat → Int32) (ltD : Nat → Int32) (grD : Nat → Int32) (ctD : Int32) (gcD : Int32) : Option (Int32 × Int32 × (Nat → Int32) × (Nat → Int32) × (Nat → Int32) × (Nat → Int32) × (Nat → Int32) × Int32 × Int32 × (Nat → Int32) × (Nat → Int32) × (Nat → Int32) × Int64 × (Nat → Int32) × (Nat → Int32) × (Nat → Int32) × (Nat → Int32) × (Nat → Int32) × Int32 × Int32) := Option.bind (f_X9_isProof p1 pn) (fun r1 => if r1 = 0 then (some ((-1 : Int32), pn, clT, leT, riT, ltT, grT, ctT, gcT, sdS, sfS, nuS, utS, clD, leD, riD, ltD, grD, ctD, gcD)) else (if p2 < 0 then (some ((-2 : Int32), pn, clT, leT, riT, ltT, grT, ctT, gcT, sdS, sfS, nuS, utS, clD, leD, riD, ltD, grD, ctD, gcD)) else (if p2 ≤ (4 : Int32) then (sp_ck 12 p1 (Option.bind (f_X5_shortens p2 sdS sfS nuS clD leD riD ltD grD clP leP riP ltP ctP) (fun q9 => match q9 with | (r2, c3, c4, c5, c6, c7, c8, c9, c10, c11, c12, c13) => if r2 = 0 then (some ((-3 : Int32), pn, clT, leT, riT, ltT, grT, ctT, gcT, c3, c4, c5, c6, c7, c8, c9, c10, c11, c12, c13)) else (Option.bind (f_X9_kept pn clT leT riT ltT grT ctT gcT c7 c8 c9 c10 c12) (fun q9 => match q9 with | (r14, c15, c16, c17, c18, c19, c20, c21, c22) => some (r14, c15, c16, c17, c18, c19, c20, c21, c22, c3, c4, c5, c6, c7, c8, c9, c10, c11, c12, c13)))))) else (some ((-2 : Int32), pn, clT, leT, riT, ltT, grT, ctT, gcT, sdS, sfS, nuS, utS, clD, leD, riD, ltD, grD, ctD, gcD)))))
def rmX9_shorter : Room := { frames := 6, cells := 0, slots := 0, locals := 147 }
set_option maxRecDepth 4000 in
theorem c_X9_shorter {l : Launch} {D : va_G} {q5 : Nat → ClassId} (a : Nat → Nat) (pA : Nat) (uP : Nat → Nat) (uT : Nat → Nat) (uS : Nat → Nat) (uSd : Nat → Nat) (n_sh : Nat) (n_rd : Nat) (n_sz : Nat) (n_or : Nat) (n_tb : Nat) (pn : Int32) (od : Int32) (fa : Int32) (tr : Int32) (pa : Nat → Option Nat) (clP : Nat → Int32) (leP : Nat → Int32) (riP : Nat → Int32) (ltP : Nat → Int32) (grP : Nat → Int32) (ctP : Int32) (gcP : Int32) (clT : Nat → Int32) (leT : Nat → Int32) (riT : Nat → Int32) (ltT : Nat → Int32) (grT : Nat → Int32) (ctT : Int32) (gcT : Int32) (sdS : Nat → Int32) (sfS : Nat → Int32) (nuS : Nat → Int32) (utS : Int64) (clD : Nat → Int32) (leD : Nat → Int32) (riD : Nat → Int32) (ltD : Nat → Int32) (grD : Nat → Int32) (ctD : Int32) (gcD : Int32) (p1 : Int32) (p2 : Int32) (hR_P : vp_in p1 12 → pa p1.toNatClampNeg = some (uP 0)) (hR_T : vp_in pn 12 → pa pn.toNatClampNeg = some (uT 0)) {r' : Int32} {pn' : Int32} {clT' : Nat → Int32} {leT' : Nat → Int32} {riT' : Nat → Int32} {ltT' : Nat → Int32} {grT' : Nat → Int32} {ctT' : Int32} {gcT' : Int32} {sdS' : Nat → Int32} {sfS' : Nat → Int32} {nuS' : Nat → Int32} {utS' : Int64} {clD' : Nat → Int32} {leD' : Nat → Int32} {riD' : Nat → Int32} {ltD' : Nat → Int32} {grD' : Nat → Int32} {ctD' : Int32} {gcD' : Int32} (hf : f_X9_shorter p1 p2 pn clP leP riP ltP ctP clT leT riT ltT grT ctT gcT sdS sfS nuS utS clD leD riD ltD grD ctD gcD = some (r', pn', clT', leT', riT', ltT', grT', ctT', gcT', sdS', sfS', nuS', utS', clD', leD', riD', ltD', grD', ctD', gcD')) : sp_Ci l yX9_shorter wsX9_shorter rmX9_shorter D q5 1 [.ref (a 0), .int p1, .int p2] (sw_X a pA n_sh n_rd n_sz n_or (uS 0) n_tb q5 pn od fa tr ++ (sw_XP pA q5 pa ++ (sw_P uP q5 clP leP riP ltP grP ctP gcP ++ (sw_P uT q5 clT leT riT ltT grT ctT gcT ++ (sw_T uS (uSd 0) q5 sdS sfS nuS utS ++ (sw_P uSd q5 clD leD riD ltD grD ctD gcD)))))) r' (sw_X a pA n_sh n_rd n_sz n_or (uS 0) n_tb q5 pn' od fa tr ++ (sw_XP pA q5 pa ++ (sw_P uP q5 clP leP riP ltP grP ctP gcP ++ (sw_P uT q5 clT' leT' riT' ltT' grT' ctT' gcT' ++ (sw_T uS (uSd 0) q5 sdS' sfS' nuS' utS' ++ (sw_P uSd q5 clD' leD' riD' ltD' grD' ctD' gcD')))))) := by
  intro sz
  refine sp_of (cc := cX9_shorter) (maxL := 3) (ret := some .int) (own := RX9) (Qc := sp_Qi D r' (sw_X a pA n_sh n_rd n_sz n_or (uS 0) n_tb q5 pn' od fa tr ++ (sw_XP pA q5 pa ++ (sw_P uP q5 clP leP riP ltP grP ctP gcP ++ (sw_P uT q5 clT' leT' riT' ltT' grT' ctT' gcT' ++ (sw_T uS (uSd 0) q5 sdS' sfS' nuS' utS' ++ (sw_P uSd q5 clD' leD' riD' ltD' grD' ctD' gcD'))))))) (by decide) rfl rfl (Nat.le_of_ble_eq_true rfl) ?_
  intro p e s m args below meth c A ls Q hQ S hr hlk hK hG hA hW hl
  have hx := S.1
  have hb := S.2.1
  unfold f_X9_shorter at hf
  have inX5 : ∀ w ∈ u_ws RX5 TX5 5, w ∈ wsX9_shorter := (fun _ h => List.mem_cons_of_mem _ (List.mem_append_left _ (List.mem_append_right _ h)))
  have inX9 : ∀ w ∈ u_ws RX9 TX9 11, w ∈ wsX9_shorter := (fun _ h => List.mem_cons_of_mem _ (List.mem_append_left _ (List.mem_append_left _ (List.mem_append_right _ h))))
  have lk1 := S.2.2.2.2 (Cond.fieldLink RX9 49 "ShortProofs" "shortener" "LShortProofs$Shortener;") (List.mem_of_getElem? (i := 1) rfl)
  have lk2 := S.2.2.2.2 (Cond.fieldLink RX9 13 "ShortProofs" "proofs" "[LShortProofs$Proof;") (List.mem_of_getElem? (i := 2) rfl)
  have lk3 := S.2.2.2.2 (Cond.fieldLink RX9 176 "ShortProofs$Shortener" "draft" "LShortProofs$Proof;") (List.mem_of_getElem? (i := 3) rfl)
  refine lv_aload_n hx hb dX9_shorter_0 rfl (lv_at hl 0 rfl) ?_
  refine lv_iload_n hx hb dX9_shorter_1 rfl (lv_at hl 1 rfl) ?_
  obtain ⟨r1, hc1, hf⟩ := sp_hc hf
  refine sp_callVi (rest := []) S hK hG hA hW (c_X9_isProof a pA n_sh n_rd n_sz n_or (uS 0) n_tb pn od fa tr p1 hc1) (by decide) (cwV 1 S.2.2.2.2 gX9_shorter_X9_isProof rfl rfl rfl (by decide +kernel) (by decide)) 7 0 rfl rfl (isC := [0]) rfl rfl rfl (WS' := sw_X a pA n_sh n_rd n_sz n_or (uS 0) n_tb q5 pn od fa tr ++ (sw_XP pA q5 pa ++ (sw_P uP q5 clP leP riP ltP grP ctP gcP ++ (sw_P uT q5 clT leT riT ltT grT ctT gcT ++ (sw_T uS (uSd 0) q5 sdS sfS nuS utS ++ (sw_P uSd q5 clD leD riD ltD grD ctD gcD)))))) rfl rfl hl.1 (Nat.le_of_ble_eq_true rfl) dX9_shorter_2 ⟨Nat.zero_le _, Nat.zero_le _⟩ rfl (fun H locs hW => ?_)
  refine lv_if_ne (tgt := 10) hx hb dX9_shorter_5 (by decide) (fun hc => ?_) (fun hc => ?_)
  · have hf := sp_hf hf hc
    refine lv_iload_n hx hb dX9_shorter_10 rfl (lv_at hl 2 rfl) ?_
    refine lv_if_lt (tgt := 19) hx hb dX9_shorter_11 (by decide) (fun hc => ?_) (fun hc => ?_)
    · have hf := sp_ht hf hc
      refine lv_bipush (v := (-2)) hx hb dX9_shorter_19 (by decide) ?_
      cases hf
      exact sp_iret S hr hlk hW hQ dX9_shorter_21
    · have hf := sp_hf hf hc
      refine lv_iload_n hx hb dX9_shorter_14 rfl (lv_at hl 2 rfl) ?_
      refine lv_iconst (v := 4) hx hb dX9_shorter_15 (by decide) ?_
      refine lv_icmp_le (tgt := 22) hx hb dX9_shorter_16 (by decide) (fun hc => ?_) (fun hc => ?_)
      · have hf := sp_ht hf hc
        refine lv_aload_n hx hb dX9_shorter_22 rfl (lv_at hl 0 rfl) ?_
        refine sp_get S hK hW inX9 0 rfl rfl 5 (by decide) lk1 rfl dX9_shorter_23 ?_
        refine lv_aload_n hx hb dX9_shorter_26 rfl (lv_at hl 0 rfl) ?_
        refine sp_get S hK hW inX9 0 rfl rfl 0 (by decide) lk2 rfl dX9_shorter_27 ?_
        refine lv_iload_n hx hb dX9_shorter_30 rfl (lv_at hl 1 rfl) ?_
        obtain ⟨hin, hf⟩ := sp_hck2 hf
        refine sp_aldq S hK hW 1 3 rfl rfl hin (hR_P hin) dX9_shorter_31 ?_
        refine lv_iload_n hx hb dX9_shorter_32 rfl (lv_at hl 2 rfl) ?_
        obtain ⟨⟨r2, c3, c4, c5, c6, c7, c8, c9, c10, c11, c12, c13⟩, hc13, hf⟩ := sp_hc hf
        refine sp_callVi (rest := []) S hK hG hA hW (c_X5_shortens uS uSd uP sdS sfS nuS utS clD leD riD ltD grD ctD gcD clP leP riP ltP grP ctP gcP p2 hc13) (by decide) (cwV 2 S.2.2.2.2 gX9_shorter_X5_shortens rfl rfl rfl (by decide +kernel) (by decide)) 4 14 rfl rfl (isC := [14, 15, 16, 17, 18, 19, 20, 21, 22, 23, 2, 3, 4, 5, 6, 7]) rfl rfl rfl (WS' := sw_X a pA n_sh n_rd n_sz n_or (uS 0) n_tb q5 pn od fa tr ++ (sw_XP pA q5 pa ++ (sw_P uP q5 clP leP riP ltP grP ctP gcP ++ (sw_P uT q5 clT leT riT ltT grT ctT gcT ++ (sw_T uS (uSd 0) q5 c3 c4 c5 c6 ++ (sw_P uSd q5 c7 c8 c9 c10 c11 c12 c13)))))) rfl rfl hl.1 (Nat.le_of_ble_eq_true rfl) dX9_shorter_33 ⟨Nat.zero_le _, Nat.zero_le _⟩ rfl (fun H locs hW => ?_)
        refine lv_if_eq (tgt := 53) hx hb dX9_shorter_36 (by decide) (fun hc => ?_) (fun hc => ?_)
        · have hf := sp_ht hf hc
          refine lv_bipush (v := (-3)) hx hb dX9_shorter_53 (by decide) ?_
          cases hf
          exact sp_iret S hr hlk hW hQ dX9_shorter_55
        · have hf := sp_hf hf hc
          refine lv_aload_n hx hb dX9_shorter_39 rfl (lv_at hl 0 rfl) ?_
          refine lv_aload_n hx hb dX9_shorter_40 rfl (lv_at hl 0 rfl) ?_
          refine sp_get S hK hW inX9 0 rfl rfl 5 (by decide) lk1 rfl dX9_shorter_41 ?_
          refine sp_get S hK hW inX5 14 rfl rfl 0 (by decide) lk3 rfl dX9_shorter_44 ?_
          obtain ⟨⟨r14, c15, c16, c17, c18, c19, c20, c21, c22⟩, hc22, hf⟩ := sp_hc hf
          refine sp_callVi (rest := []) S hK hG hA hW (c_X9_kept a pA uT uSd n_sh n_rd n_sz n_or (uS 0) n_tb pn od fa tr pa clT leT riT ltT grT ctT gcT c7 c8 c9 c10 c11 c12 c13 hR_T hc22) (by decide) (cwV 1 S.2.2.2.2 gX9_shorter_X9_kept rfl rfl rfl (by decide +kernel) (by decide)) 7 0 rfl rfl (isC := [0, 1, 8, 9, 10, 11, 12, 13, 18, 19, 20, 21, 22, 23]) rfl rfl rfl (WS' := sw_X a pA n_sh n_rd n_sz n_or (uS 0) n_tb q5 c15 od fa tr ++ (sw_XP pA q5 pa ++ (sw_P uP q5 clP leP riP ltP grP ctP gcP ++ (sw_P uT q5 c16 c17 c18 c19 c20 c21 c22 ++ (sw_T uS (uSd 0) q5 c3 c4 c5 c6 ++ (sw_P uSd q5 c7 c8 c9 c10 c11 c12 c13)))))) rfl rfl hl.1 (Nat.le_of_ble_eq_true rfl) dX9_shorter_47 ⟨Nat.zero_le _, Nat.zero_le _⟩ rfl (fun H locs hW => ?_)
          refine lv_goto (tgt := 55) hx hb dX9_shorter_50 (by decide) ?_
          cases hf
          exact sp_iret S hr hlk hW hQ dX9_shorter_55
      · have hf := sp_hf hf hc
        refine lv_bipush (v := (-2)) hx hb dX9_shorter_19 (by decide) ?_
        cases hf
        exact sp_iret S hr hlk hW hQ dX9_shorter_21
  · have hf := sp_ht hf hc
    refine lv_iconst (v := (-1)) hx hb dX9_shorter_8 (by decide) ?_
    cases hf
    exact sp_iret S hr hlk hW hQ dX9_shorter_9

def f_X9_safe (p1 : Int32) (p2 : Int32) (pn : Int32) (clP : Nat → Int32) (leP : Nat → Int32) (riP : Nat → Int32) (ltP : Nat → Int32) (ctP : Int32) (sfS : Nat → Int32) : Option (Int32 × (Nat → Int32)) := Option.bind (f_X9_isLine p1 p2 pn ctP) (fun r1 => if r1 = 0 then (some ((-1 : Int32), sfS)) else (sp_ck 12 p1 (Option.bind (f_X5_safeSigns p2 sfS clP leP riP ltP ctP) (fun q9 => match q9 with | (r2, c3) => some (r2, c3)))))
def rmX9_safe : Room := { frames := 5, cells := 0, slots := 0, locals := 113 }
set_option maxRecDepth 4000 in
theorem c_X9_safe {l : Launch} {D : va_G} {q5 : Nat → ClassId} (a : Nat → Nat) (pA : Nat) (uP : Nat → Nat) (uS : Nat → Nat) (uSd : Nat → Nat) (n_sh : Nat) (n_rd : Nat) (n_sz : Nat) (n_or : Nat) (n_tb : Nat) (pn : Int32) (od : Int32) (fa : Int32) (tr : Int32) (pa : Nat → Option Nat) (clP : Nat → Int32) (leP : Nat → Int32) (riP : Nat → Int32) (ltP : Nat → Int32) (grP : Nat → Int32) (ctP : Int32) (gcP : Int32) (sdS : Nat → Int32) (sfS : Nat → Int32) (nuS : Nat → Int32) (utS : Int64) (clD : Nat → Int32) (leD : Nat → Int32) (riD : Nat → Int32) (ltD : Nat → Int32) (grD : Nat → Int32) (ctD : Int32) (gcD : Int32) (p1 : Int32) (p2 : Int32) (hR_P : vp_in p1 12 → pa p1.toNatClampNeg = some (uP 0)) {r' : Int32} {sfS' : Nat → Int32} (hf : f_X9_safe p1 p2 pn clP leP riP ltP ctP sfS = some (r', sfS')) : sp_Ci l yX9_safe wsX9_safe rmX9_safe D q5 1 [.ref (a 0), .int p1, .int p2] (sw_X a pA n_sh n_rd n_sz n_or (uS 0) n_tb q5 pn od fa tr ++ (sw_XP pA q5 pa ++ (sw_P uP q5 clP leP riP ltP grP ctP gcP ++ (sw_T uS (uSd 0) q5 sdS sfS nuS utS ++ (sw_P uSd q5 clD leD riD ltD grD ctD gcD))))) r' (sw_X a pA n_sh n_rd n_sz n_or (uS 0) n_tb q5 pn od fa tr ++ (sw_XP pA q5 pa ++ (sw_P uP q5 clP leP riP ltP grP ctP gcP ++ (sw_T uS (uSd 0) q5 sdS sfS' nuS utS ++ (sw_P uSd q5 clD leD riD ltD grD ctD gcD))))) := by
  intro sz
  refine sp_of (cc := cX9_safe) (maxL := 3) (ret := some .int) (own := RX9) (Qc := sp_Qi D r' (sw_X a pA n_sh n_rd n_sz n_or (uS 0) n_tb q5 pn od fa tr ++ (sw_XP pA q5 pa ++ (sw_P uP q5 clP leP riP ltP grP ctP gcP ++ (sw_T uS (uSd 0) q5 sdS sfS' nuS utS ++ (sw_P uSd q5 clD leD riD ltD grD ctD gcD)))))) (by decide) rfl rfl (Nat.le_of_ble_eq_true rfl) ?_
  intro p e s m args below meth c A ls Q hQ S hr hlk hK hG hA hW hl
  have hx := S.1
  have hb := S.2.1
  unfold f_X9_safe at hf
  have inX9 : ∀ w ∈ u_ws RX9 TX9 11, w ∈ wsX9_safe := (fun _ h => List.mem_cons_of_mem _ (List.mem_append_left _ (List.mem_append_left _ (List.mem_append_right _ h))))
  have lk1 := S.2.2.2.2 (Cond.fieldLink RX9 49 "ShortProofs" "shortener" "LShortProofs$Shortener;") (List.mem_of_getElem? (i := 1) rfl)
  have lk2 := S.2.2.2.2 (Cond.fieldLink RX9 13 "ShortProofs" "proofs" "[LShortProofs$Proof;") (List.mem_of_getElem? (i := 2) rfl)
  refine lv_aload_n hx hb dX9_safe_0 rfl (lv_at hl 0 rfl) ?_
  refine lv_iload_n hx hb dX9_safe_1 rfl (lv_at hl 1 rfl) ?_
  refine lv_iload_n hx hb dX9_safe_2 rfl (lv_at hl 2 rfl) ?_
  obtain ⟨r1, hc1, hf⟩ := sp_hc hf
  refine sp_callVi (rest := []) S hK hG hA hW (c_X9_isLine a pA uP n_sh n_rd n_sz n_or (uS 0) n_tb pn od fa tr pa clP leP riP ltP grP ctP gcP p1 p2 hR_P hc1) (by decide) (cwV 2 S.2.2.2.2 gX9_safe_X9_isLine rfl rfl rfl (by decide +kernel) (by decide)) 7 0 rfl rfl (isC := [0, 1, 2, 3, 4, 5, 6, 7]) rfl rfl rfl (WS' := sw_X a pA n_sh n_rd n_sz n_or (uS 0) n_tb q5 pn od fa tr ++ (sw_XP pA q5 pa ++ (sw_P uP q5 clP leP riP ltP grP ctP gcP ++ (sw_T uS (uSd 0) q5 sdS sfS nuS utS ++ (sw_P uSd q5 clD leD riD ltD grD ctD gcD))))) rfl rfl hl.1 (Nat.le_of_ble_eq_true rfl) dX9_safe_3 ⟨Nat.zero_le _, Nat.zero_le _⟩ rfl (fun H locs hW => ?_)
  refine lv_if_eq (tgt := 26) hx hb dX9_safe_6 (by decide) (fun hc => ?_) (fun hc => ?_)
  · have hf := sp_ht hf hc
    refine lv_iconst (v := (-1)) hx hb dX9_safe_26 (by decide) ?_
    cases hf
    exact sp_iret S hr hlk hW hQ dX9_safe_27
  · have hf := sp_hf hf hc
    refine lv_aload_n hx hb dX9_safe_9 rfl (lv_at hl 0 rfl) ?_
    refine sp_get S hK hW inX9 0 rfl rfl 5 (by decide) lk1 rfl dX9_safe_10 ?_
    refine lv_aload_n hx hb dX9_safe_13 rfl (lv_at hl 0 rfl) ?_
    refine sp_get S hK hW inX9 0 rfl rfl 0 (by decide) lk2 rfl dX9_safe_14 ?_
    refine lv_iload_n hx hb dX9_safe_17 rfl (lv_at hl 1 rfl) ?_
    obtain ⟨hin, hf⟩ := sp_hck2 hf
    refine sp_aldq S hK hW 1 3 rfl rfl hin (hR_P hin) dX9_safe_18 ?_
    refine lv_iload_n hx hb dX9_safe_19 rfl (lv_at hl 2 rfl) ?_
    obtain ⟨⟨r2, c3⟩, hc3, hf⟩ := sp_hc hf
    refine sp_callVi (rest := []) S hK hG hA hW (c_X5_safeSigns uS uSd uP sdS sfS nuS utS clD leD riD ltD grD ctD gcD clP leP riP ltP grP ctP gcP p2 hc3) (by decide) (cwV 2 S.2.2.2.2 gX9_safe_X5_safeSigns rfl rfl rfl (by decide +kernel) (by decide)) 4 8 rfl rfl (isC := [8, 9, 10, 11, 12, 13, 14, 15, 16, 17, 2, 3, 4, 5, 6, 7]) rfl rfl rfl (WS' := sw_X a pA n_sh n_rd n_sz n_or (uS 0) n_tb q5 pn od fa tr ++ (sw_XP pA q5 pa ++ (sw_P uP q5 clP leP riP ltP grP ctP gcP ++ (sw_T uS (uSd 0) q5 sdS c3 nuS utS ++ (sw_P uSd q5 clD leD riD ltD grD ctD gcD))))) rfl rfl hl.1 (Nat.le_of_ble_eq_true rfl) dX9_safe_20 ⟨Nat.zero_le _, Nat.zero_le _⟩ rfl (fun H locs hW => ?_)
    refine lv_goto (tgt := 27) hx hb dX9_safe_23 (by decide) ?_
    cases hf
    exact sp_iret S hr hlk hW hQ dX9_safe_27

def f_X9_twice (p1 : Int32) (pn : Int32) (clP : Nat → Int32) (ctP : Int32) : Option (Int32) := Option.bind (f_X9_isProof p1 pn) (fun r1 => if r1 = 0 then (some (-1 : Int32)) else (sp_ck 12 p1 (Option.bind (f_X2_unlikeIn_al clP ctP) (fun r2 => some (ctP - r2)))))
def rmX9_twice : Room := { frames := 2, cells := 0, slots := 0, locals := 46 }
set_option maxRecDepth 4000 in
theorem c_X9_twice {l : Launch} {D : va_G} {q5 : Nat → ClassId} (a : Nat → Nat) (pA : Nat) (uP : Nat → Nat) (n_sh : Nat) (n_rd : Nat) (n_sz : Nat) (n_or : Nat) (n_st : Nat) (n_tb : Nat) (pn : Int32) (od : Int32) (fa : Int32) (tr : Int32) (pa : Nat → Option Nat) (clP : Nat → Int32) (leP : Nat → Int32) (riP : Nat → Int32) (ltP : Nat → Int32) (grP : Nat → Int32) (ctP : Int32) (gcP : Int32) (p1 : Int32) (hR_P : vp_in p1 12 → pa p1.toNatClampNeg = some (uP 0)) {r' : Int32} (hf : f_X9_twice p1 pn clP ctP = some r') : sp_Ci l yX9_twice wsX9_twice rmX9_twice D q5 0 [.ref (a 0), .int p1] (sw_X a pA n_sh n_rd n_sz n_or n_st n_tb q5 pn od fa tr ++ (sw_XP pA q5 pa ++ (sw_P uP q5 clP leP riP ltP grP ctP gcP))) r' (sw_X a pA n_sh n_rd n_sz n_or n_st n_tb q5 pn od fa tr ++ (sw_XP pA q5 pa ++ (sw_P uP q5 clP leP riP ltP grP ctP gcP))) := by
  intro sz
  refine sp_of (cc := cX9_twice) (maxL := 3) (ret := some .int) (own := RX9) (Qc := sp_Qi D r' (sw_X a pA n_sh n_rd n_sz n_or n_st n_tb q5 pn od fa tr ++ (sw_XP pA q5 pa ++ (sw_P uP q5 clP leP riP ltP grP ctP gcP)))) (by decide) rfl rfl (Nat.le_of_ble_eq_true rfl) ?_
  intro p e s m args below meth c A ls Q hQ S hr hlk hK hG hA hW hl
  have hx := S.1
  have hb := S.2.1
  unfold f_X9_twice at hf
  have inX2 : ∀ w ∈ u_ws RX2 TX2 7, w ∈ wsX9_twice := (fun _ h => List.mem_cons_of_mem _ (List.mem_append_right _ h))
  have inX9 : ∀ w ∈ u_ws RX9 TX9 11, w ∈ wsX9_twice := (fun _ h => List.mem_cons_of_mem _ (List.mem_append_left _ (List.mem_append_right _ h)))
  have lk1 := S.2.2.2.2 (Cond.fieldLink RX9 13 "ShortProofs" "proofs" "[LShortProofs$Proof;") (List.mem_of_getElem? (i := 1) rfl)
  have lk2 := S.2.2.2.2 (Cond.fieldLink RX9 126 "ShortProofs$Proof" "count" "I") (List.mem_of_getElem? (i := 2) rfl)
  refine lv_aload_n hx hb dX9_twice_0 rfl (lv_at hl 0 rfl) ?_
  refine lv_iload_n hx hb dX9_twice_1 rfl (lv_at hl 1 rfl) ?_
  obtain ⟨r1, hc1, hf⟩ := sp_hc hf
  refine sp_callVi (rest := []) S hK hG hA hW (c_X9_isProof a pA n_sh n_rd n_sz n_or n_st n_tb pn od fa tr p1 hc1) (by decide) (cwV 1 S.2.2.2.2 gX9_twice_X9_isProof rfl rfl rfl (by decide +kernel) (by decide)) 7 0 rfl rfl (isC := [0]) rfl rfl rfl (WS' := sw_X a pA n_sh n_rd n_sz n_or n_st n_tb q5 pn od fa tr ++ (sw_XP pA q5 pa ++ (sw_P uP q5 clP leP riP ltP grP ctP gcP))) rfl rfl hl.1 (Nat.le_of_ble_eq_true rfl) dX9_twice_2 ⟨Nat.zero_le _, Nat.zero_le _⟩ rfl (fun H locs hW => ?_)
  refine lv_if_ne (tgt := 10) hx hb dX9_twice_5 (by decide) (fun hc => ?_) (fun hc => ?_)
  · have hf := sp_hf hf hc
    refine lv_aload_n hx hb dX9_twice_10 rfl (lv_at hl 0 rfl) ?_
    refine sp_get S hK hW inX9 0 rfl rfl 0 (by decide) lk1 rfl dX9_twice_11 ?_
    refine lv_iload_n hx hb dX9_twice_14 rfl (lv_at hl 1 rfl) ?_
    obtain ⟨hin, hf⟩ := sp_hck2 hf
    refine sp_aldq S hK hW 1 3 rfl rfl hin (hR_P hin) dX9_twice_15 ?_
    refine lv_astore_n (lv' := [(2, .ref (uP 0)), (0, .ref (a 0)), (1, .int p1)]) hx hb dX9_twice_16 rfl hl (by decide) rfl (fun ls hl => ?_)
    refine lv_aload_n hx hb dX9_twice_17 rfl (lv_at hl 0 rfl) ?_
    refine sp_get S hK hW inX2 2 rfl rfl 5 (by decide) lk2 rfl dX9_twice_18 ?_
    refine lv_aload_n hx hb dX9_twice_21 rfl (lv_at hl 0 rfl) ?_
    refine lv_aload_n hx hb dX9_twice_22 rfl (lv_at hl 0 rfl) ?_
    obtain ⟨r2, hc2, hf⟩ := sp_hc hf
    refine sp_callVi (rest := [.int ctP]) S hK hG hA hW (c_X2_unlikeIn_al uP clP leP riP ltP grP ctP gcP hc2) (by decide) (cwV 1 S.2.2.2.2 gX9_twice_X2_unlikeIn rfl rfl rfl (by decide +kernel) (by decide)) 1 2 rfl rfl (isC := [2, 3, 4, 5, 6, 7]) rfl rfl rfl (WS' := sw_X a pA n_sh n_rd n_sz n_or n_st n_tb q5 pn od fa tr ++ (sw_XP pA q5 pa ++ (sw_P uP q5 clP leP riP ltP grP ctP gcP))) rfl rfl hl.1 (Nat.le_of_ble_eq_true rfl) dX9_twice_23 ⟨Nat.zero_le _, Nat.zero_le _⟩ rfl (fun H locs hW => ?_)
    refine lv_isub hx hb dX9_twice_26 ?_
    cases hf
    exact sp_iret S hr hlk hW hQ dX9_twice_27
  · have hf := sp_ht hf hc
    refine lv_iconst (v := (-1)) hx hb dX9_twice_8 (by decide) ?_
    cases hf
    exact sp_iret S hr hlk hW hQ dX9_twice_9

def f_X9_heap (p1 : Int32) (p2 : Int32) (pn : Int32) (clP : Nat → Int32) (leP : Nat → Int32) (riP : Nat → Int32) (ltP : Nat → Int32) (ctP : Int32) (clQ : Nat → Int32) (leQ : Nat → Int32) (riQ : Nat → Int32) (ltQ : Nat → Int32) (ctQ : Int32) (clT : Nat → Int32) (leT : Nat → Int32) (riT : Nat → Int32) (ltT : Nat → Int32) (grT : Nat → Int32) (ctT : Int32) (gcT : Int32) (sdS : Nat → Int32) (sfS : Nat → Int32) (nuS : Nat → Int32) (utS : Int64) (clD : Nat → Int32) (leD : Nat → Int32) (riD : Nat → Int32) (ltD : Nat → Int32) (grD : Nat → Int32) (ctD : Int32) (gcD : Int32) : Option (Int32 × Int32 × (Nat → Int32) × (Nat → Int32) × (Nat → Int32) × (Nat → Int32) × (Nat → Int32) × Int32 × Int32 × (Nat → Int32) × (Nat → Int32) × (Nat → Int32) × (Nat → Int32) × (Nat → Int32) × (Nat → Int32) × (Nat → Int32) × Int32 × Int32) := Option.bind (f_X9_isProof p1 pn) (fun r1 => if r1 = 0 then (some ((-1 : Int32), pn, clT, leT, riT, ltT, grT, ctT, gcT, sdS, nuS, clD, leD, riD, ltD, grD, ctD, gcD)) else (Option.bind (f_X9_isProof p2 pn) (fun r2 => if r2 = 0 then (some ((-1 : Int32), pn, clT, leT, riT, ltT, grT, ctT, gcT, sdS, nuS, clD, leD, riD, ltD, grD, ctD, gcD)) else (sp_ck 12 p1 (sp_ck 12 p2 (Option.bind (f_X5_heaps sdS sfS nuS utS clD leD riD ltD grD clP leP riP ltP ctP clQ leQ riQ ltQ ctQ) (fun q9 => match q9 with | (r3, c4, c5, c6, c7, c8, c9, c10, c11, c12) => if r3 = 0 then (some ((-3 : Int32), pn, clT, leT, riT, ltT, grT, ctT, gcT, c4, c5, c6, c7, c8, c9, c10, c11, c12)) else (Option.bind (f_X9_kept pn clT leT riT ltT grT ctT gcT c6 c7 c8 c9 c11) (fun q9 => match q9 with | (r13, c14, c15, c16, c17, c18, c19, c20, c21) => some (r13, c14, c15, c16, c17, c18, c19, c20, c21, c4, c5, c6, c7, c8, c9, c10, c11, c12))))))))))
def rmX9_heap : Room := { frames := 6, cells := 0, slots := 0, locals := 147 }
set_option maxRecDepth 4000 in
theorem c_X9_heap {l : Launch} {D : va_G} {q5 : Nat → ClassId} (a : Nat → Nat) (pA : Nat) (uP : Nat → Nat) (uQ : Nat → Nat) (uT : Nat → Nat) (uS : Nat → Nat) (uSd : Nat → Nat) (n_sh : Nat) (n_rd : Nat) (n_sz : Nat) (n_or : Nat) (n_tb : Nat) (pn : Int32) (od : Int32) (fa : Int32) (tr : Int32) (pa : Nat → Option Nat) (clP : Nat → Int32) (leP : Nat → Int32) (riP : Nat → Int32) (ltP : Nat → Int32) (grP : Nat → Int32) (ctP : Int32) (gcP : Int32) (clQ : Nat → Int32) (leQ : Nat → Int32) (riQ : Nat → Int32) (ltQ : Nat → Int32) (grQ : Nat → Int32) (ctQ : Int32) (gcQ : Int32) (clT : Nat → Int32) (leT : Nat → Int32) (riT : Nat → Int32) (ltT : Nat → Int32) (grT : Nat → Int32) (ctT : Int32) (gcT : Int32) (sdS : Nat → Int32) (sfS : Nat → Int32) (nuS : Nat → Int32) (utS : Int64) (clD : Nat → Int32) (leD : Nat → Int32) (riD : Nat → Int32) (ltD : Nat → Int32) (grD : Nat → Int32) (ctD : Int32) (gcD : Int32) (p1 : Int32) (p2 : Int32) (hR_P : vp_in p1 12 → pa p1.toNatClampNeg = some (uP 0)) (hR_Q : vp_in p2 12 → pa p2.toNatClampNeg = some (uQ 0)) (hR_T : vp_in pn 12 → pa pn.toNatClampNeg = some (uT 0)) {r' : Int32} {pn' : Int32} {clT' : Nat → Int32} {leT' : Nat → Int32} {riT' : Nat → Int32} {ltT' : Nat → Int32} {grT' : Nat → Int32} {ctT' : Int32} {gcT' : Int32} {sdS' : Nat → Int32} {nuS' : Nat → Int32} {clD' : Nat → Int32} {leD' : Nat → Int32} {riD' : Nat → Int32} {ltD' : Nat → Int32} {grD' : Nat → Int32} {ctD' : Int32} {gcD' : Int32} (hf : f_X9_heap p1 p2 pn clP leP riP ltP ctP clQ leQ riQ ltQ ctQ clT leT riT ltT grT ctT gcT sdS sfS nuS utS clD leD riD ltD grD ctD gcD = some (r', pn', clT', leT', riT', ltT', grT', ctT', gcT', sdS', nuS', clD', leD', riD', ltD', grD', ctD', gcD')) : sp_Ci l yX9_heap wsX9_heap rmX9_heap D q5 1 [.ref (a 0), .int p1, .int p2] (sw_X a pA n_sh n_rd n_sz n_or (uS 0) n_tb q5 pn od fa tr ++ (sw_XP pA q5 pa ++ (sw_P uP q5 clP leP riP ltP grP ctP gcP ++ (sw_P uQ q5 clQ leQ riQ ltQ grQ ctQ gcQ ++ (sw_P uT q5 clT leT riT ltT grT ctT gcT ++ (sw_T uS (uSd 0) q5 sdS sfS nuS utS ++ (sw_P uSd q5 clD leD riD ltD grD ctD gcD))))))) r' (sw_X a pA n_sh n_rd n_sz n_or (uS 0) n_tb q5 pn' od fa tr ++ (sw_XP pA q5 pa ++ (sw_P uP q5 clP leP riP ltP grP ctP gcP ++ (sw_P uQ q5 clQ leQ riQ ltQ grQ ctQ gcQ ++ (sw_P uT q5 clT' leT' riT' ltT' grT' ctT' gcT' ++ (sw_T uS (uSd 0) q5 sdS' sfS nuS' utS ++ (sw_P uSd q5 clD' leD' riD' ltD' grD' ctD' gcD'))))))) := by
  intro sz
  refine sp_of (cc := cX9_heap) (maxL := 3) (ret := some .int) (own := RX9) (Qc := sp_Qi D r' (sw_X a pA n_sh n_rd n_sz n_or (uS 0) n_tb q5 pn' od fa tr ++ (sw_XP pA q5 pa ++ (sw_P uP q5 clP leP riP ltP grP ctP gcP ++ (sw_P uQ q5 clQ leQ riQ ltQ grQ ctQ gcQ ++ (sw_P uT q5 clT' leT' riT' ltT' grT' ctT' gcT' ++ (sw_T uS (uSd 0) q5 sdS' sfS nuS' utS ++ (sw_P uSd q5 clD' leD' riD' ltD' grD' ctD' gcD')))))))) (by decide) rfl rfl (Nat.le_of_ble_eq_true rfl) ?_
  intro p e s m args below meth c A ls Q hQ S hr hlk hK hG hA hW hl
  have hx := S.1
  have hb := S.2.1
  unfold f_X9_heap at hf
  have inX5 : ∀ w ∈ u_ws RX5 TX5 5, w ∈ wsX9_heap := (fun _ h => List.mem_cons_of_mem _ (List.mem_append_left _ (List.mem_append_right _ h)))
  have inX9 : ∀ w ∈ u_ws RX9 TX9 11, w ∈ wsX9_heap := (fun _ h => List.mem_cons_of_mem _ (List.mem_append_left _ (List.mem_append_left _ (List.mem_append_right _ h))))
  have lk1 := S.2.2.2.2 (Cond.fieldLink RX9 49 "ShortProofs" "shortener" "LShortProofs$Shortener;") (List.mem_of_getElem? (i := 1) rfl)
  have lk2 := S.2.2.2.2 (Cond.fieldLink RX9 13 "ShortProofs" "proofs" "[LShortProofs$Proof;") (List.mem_of_getElem? (i := 2) rfl)
  have lk3 := S.2.2.2.2 (Cond.fieldLink RX9 176 "ShortProofs$Shortener" "draft" "LShortProofs$Proof;") (List.mem_of_getElem? (i := 3) rfl)
  refine lv_aload_n hx hb dX9_heap_0 rfl (lv_at hl 0 rfl) ?_
  refine lv_iload_n hx hb dX9_heap_1 rfl (lv_at hl 1 rfl) ?_
  obtain ⟨r1, hc1, hf⟩ := sp_hc hf
  refine sp_callVi (rest := []) S hK hG hA hW (c_X9_isProof a pA n_sh n_rd n_sz n_or (uS 0) n_tb pn od fa tr p1 hc1) (by decide) (cwV 1 S.2.2.2.2 gX9_heap_X9_isProof rfl rfl rfl (by decide +kernel) (by decide)) 7 0 rfl rfl (isC := [0]) rfl rfl rfl (WS' := sw_X a pA n_sh n_rd n_sz n_or (uS 0) n_tb q5 pn od fa tr ++ (sw_XP pA q5 pa ++ (sw_P uP q5 clP leP riP ltP grP ctP gcP ++ (sw_P uQ q5 clQ leQ riQ ltQ grQ ctQ gcQ ++ (sw_P uT q5 clT leT riT ltT grT ctT gcT ++ (sw_T uS (uSd 0) q5 sdS sfS nuS utS ++ (sw_P uSd q5 clD leD riD ltD grD ctD gcD))))))) rfl rfl hl.1 (Nat.le_of_ble_eq_true rfl) dX9_heap_2 ⟨Nat.zero_le _, Nat.zero_le _⟩ rfl (fun H locs hW => ?_)
  refine lv_if_eq (tgt := 16) hx hb dX9_heap_5 (by decide) (fun hc => ?_) (fun hc => ?_)
  · have hf := sp_ht hf hc
    refine lv_iconst (v := (-1)) hx hb dX9_heap_16 (by decide) ?_
    cases hf
    exact sp_iret S hr hlk hW hQ dX9_heap_17
  · have hf := sp_hf hf hc
    refine lv_aload_n hx hb dX9_heap_8 rfl (lv_at hl 0 rfl) ?_
    refine lv_iload_n hx hb dX9_heap_9 rfl (lv_at hl 2 rfl) ?_
    obtain ⟨r2, hc2, hf⟩ := sp_hc hf
    refine sp_callVi (rest := []) S hK hG hA hW (c_X9_isProof a pA n_sh n_rd n_sz n_or (uS 0) n_tb pn od fa tr p2 hc2) (by decide) (cwV 1 S.2.2.2.2 gX9_heap_X9_isProof rfl rfl rfl (by decide +kernel) (by decide)) 7 0 rfl rfl (isC := [0]) rfl rfl rfl (WS' := sw_X a pA n_sh n_rd n_sz n_or (uS 0) n_tb q5 pn od fa tr ++ (sw_XP pA q5 pa ++ (sw_P uP q5 clP leP riP ltP grP ctP gcP ++ (sw_P uQ q5 clQ leQ riQ ltQ grQ ctQ gcQ ++ (sw_P uT q5 clT leT riT ltT grT ctT gcT ++ (sw_T uS (uSd 0) q5 sdS sfS nuS utS ++ (sw_P uSd q5 clD leD riD ltD grD ctD gcD))))))) rfl rfl hl.1 (Nat.le_of_ble_eq_true rfl) dX9_heap_10 ⟨Nat.zero_le _, Nat.zero_le _⟩ rfl (fun H locs hW => ?_)
    refine lv_if_ne (tgt := 18) hx hb dX9_heap_13 (by decide) (fun hc => ?_) (fun hc => ?_)
    · have hf := sp_hf hf hc
      refine lv_aload_n hx hb dX9_heap_18 rfl (lv_at hl 0 rfl) ?_
      refine sp_get S hK hW inX9 0 rfl rfl 5 (by decide) lk1 rfl dX9_heap_19 ?_
      refine lv_aload_n hx hb dX9_heap_22 rfl (lv_at hl 0 rfl) ?_
      refine sp_get S hK hW inX9 0 rfl rfl 0 (by decide) lk2 rfl dX9_heap_23 ?_
      refine lv_iload_n hx hb dX9_heap_26 rfl (lv_at hl 1 rfl) ?_
      obtain ⟨hin, hf⟩ := sp_hck2 hf
      refine sp_aldq S hK hW 1 3 rfl rfl hin (hR_P hin) dX9_heap_27 ?_
      refine lv_aload_n hx hb dX9_heap_28 rfl (lv_at hl 0 rfl) ?_
      refine sp_get S hK hW inX9 0 rfl rfl 0 (by decide) lk2 rfl dX9_heap_29 ?_
      refine lv_iload_n hx hb dX9_heap_32 rfl (lv_at hl 2 rfl) ?_
      obtain ⟨hin, hf⟩ := sp_hck2 hf
      refine sp_aldq S hK hW 1 3 rfl rfl hin (hR_Q hin) dX9_heap_33 ?_
      obtain ⟨⟨r3, c4, c5, c6, c7, c8, c9, c10, c11, c12⟩, hc12, hf⟩ := sp_hc hf
      refine sp_callVi (rest := []) S hK hG hA hW (c_X5_heaps uS uSd uP uQ sdS sfS nuS utS clD leD riD ltD grD ctD gcD clP leP riP ltP grP ctP gcP clQ leQ riQ ltQ grQ ctQ gcQ hc12) (by decide) (cwV 2 S.2.2.2.2 gX9_heap_X5_heaps rfl rfl rfl (by decide +kernel) (by decide)) 4 20 rfl rfl (isC := [20, 21, 22, 23, 24, 25, 26, 27, 28, 29, 2, 3, 4, 5, 6, 7, 8, 9, 10, 11, 12, 13]) rfl rfl rfl (WS' := sw_X a pA n_sh n_rd n_sz n_or (uS 0) n_tb q5 pn od fa tr ++ (sw_XP pA q5 pa ++ (sw_P uP q5 clP leP riP ltP grP ctP gcP ++ (sw_P uQ q5 clQ leQ riQ ltQ grQ ctQ gcQ ++ (sw_P uT q5 clT leT riT ltT grT ctT gcT ++ (sw_T uS (uSd 0) q5 c4 sfS c5 utS ++ (sw_P uSd q5 c6 c7 c8 c9 c10 c11 c12))))))) rfl rfl hl.1 (Nat.le_of_ble_eq_true rfl) dX9_heap_34 ⟨Nat.zero_le _, Nat.zero_le _⟩ rfl (fun H locs hW => ?_)
      refine lv_if_eq (tgt := 54) hx hb dX9_heap_37 (by decide) (fun hc => ?_) (fun hc => ?_)
      · have hf := sp_ht hf hc
        refine lv_bipush (v := (-3)) hx hb dX9_heap_54 (by decide) ?_
        cases hf
        exact sp_iret S hr hlk hW hQ dX9_heap_56
      · have hf := sp_hf hf hc
        refine lv_aload_n hx hb dX9_heap_40 rfl (lv_at hl 0 rfl) ?_
        refine lv_aload_n hx hb dX9_heap_41 rfl (lv_at hl 0 rfl) ?_
        refine sp_get S hK hW inX9 0 rfl rfl 5 (by decide) lk1 rfl dX9_heap_42 ?_
        refine sp_get S hK hW inX5 20 rfl rfl 0 (by decide) lk3 rfl dX9_heap_45 ?_
        obtain ⟨⟨r13, c14, c15, c16, c17, c18, c19, c20, c21⟩, hc21, hf⟩ := sp_hc hf
        refine sp_callVi (rest := []) S hK hG hA hW (c_X9_kept a pA uT uSd n_sh n_rd n_sz n_or (uS 0) n_tb pn od fa tr pa clT leT riT ltT grT ctT gcT c6 c7 c8 c9 c10 c11 c12 hR_T hc21) (by decide) (cwV 1 S.2.2.2.2 gX9_heap_X9_kept rfl rfl rfl (by decide +kernel) (by decide)) 7 0 rfl rfl (isC := [0, 1, 14, 15, 16, 17, 18, 19, 24, 25, 26, 27, 28, 29]) rfl rfl rfl (WS' := sw_X a pA n_sh n_rd n_sz n_or (uS 0) n_tb q5 c14 od fa tr ++ (sw_XP pA q5 pa ++ (sw_P uP q5 clP leP riP ltP grP ctP gcP ++ (sw_P uQ q5 clQ leQ riQ ltQ grQ ctQ gcQ ++ (sw_P uT q5 c15 c16 c17 c18 c19 c20 c21 ++ (sw_T uS (uSd 0) q5 c4 sfS c5 utS ++ (sw_P uSd q5 c6 c7 c8 c9 c10 c11 c12))))))) rfl rfl hl.1 (Nat.le_of_ble_eq_true rfl) dX9_heap_48 ⟨Nat.zero_le _, Nat.zero_le _⟩ rfl (fun H locs hW => ?_)
        refine lv_goto (tgt := 56) hx hb dX9_heap_51 (by decide) ?_
        cases hf
        exact sp_iret S hr hlk hW hQ dX9_heap_56
    · have hf := sp_ht hf hc
      refine lv_iconst (v := (-1)) hx hb dX9_heap_16 (by decide) ?_
      cases hf
      exact sp_iret S hr hlk hW hQ dX9_heap_17

def f_X9_heap_al (p1 : Int32) (p2 : Int32) (pn : Int32) (clP : Nat → Int32) (leP : Nat → Int32) (riP : Nat → Int32) (ltP : Nat → Int32) (ctP : Int32) (clT : Nat → Int32) (leT : Nat → Int32) (riT : Nat → Int32) (ltT : Nat → Int32) (grT : Nat → Int32) (ctT : Int32) (gcT : Int32) (sdS : Nat → Int32) (sfS : Nat → Int32) (nuS : Nat → Int32) (utS : Int64) (clD : Nat → Int32) (leD : Nat → Int32) (riD : Nat → Int32) (ltD : Nat → Int32) (grD : Nat → Int32) (ctD : Int32) (gcD : Int32) : Option (Int32 × Int32 × (Nat → Int32) × (Nat → Int32) × (Nat → Int32) × (Nat → Int32) × (Nat → Int32) × Int32 × Int32 × (Nat → Int32) × (Nat → Int32) × (Nat → Int32) × (Nat → Int32) × (Nat → Int32) × (Nat → Int32) × (Nat → Int32) × Int32 × Int32) := Option.bind (f_X9_isProof p1 pn) (fun r1 => if r1 = 0 then (some ((-1 : Int32), pn, clT, leT, riT, ltT, grT, ctT, gcT, sdS, nuS, clD, leD, riD, ltD, grD, ctD, gcD)) else (Option.bind (f_X9_isProof p2 pn) (fun r2 => if r2 = 0 then (some ((-1 : Int32), pn, clT, leT, riT, ltT, grT, ctT, gcT, sdS, nuS, clD, leD, riD, ltD, grD, ctD, gcD)) else (sp_ck 12 p1 (sp_ck 12 p2 (Option.bind (f_X5_heaps_al sdS sfS nuS utS clD leD riD ltD grD clP leP riP ltP ctP) (fun q9 => match q9 with | (r3, c4, c5, c6, c7, c8, c9, c10, c11, c12) => if r3 = 0 then (some ((-3 : Int32), pn, clT, leT, riT, ltT, grT, ctT, gcT, c4, c5, c6, c7, c8, c9, c10, c11, c12)) else (Option.bind (f_X9_kept pn clT leT riT ltT grT ctT gcT c6 c7 c8 c9 c11) (fun q9 => match q9 with | (r13, c14, c15, c16, c17, c18, c19, c20, c21) => some (r13, c14, c15, c16, c17, c18, c19, c20, c21, c4, c5, c6, c7, c8, c9, c10, c11, c12))))))))))
def rmX9_heap_al : Room := { frames := 6, cells := 0, slots := 0, locals := 147 }
set_option maxRecDepth 4000 in
theorem c_X9_heap_al {l : Launch} {D : va_G} {q5 : Nat → ClassId} (a : Nat → Nat) (pA : Nat) (uP : Nat → Nat) (uT : Nat → Nat) (uS : Nat → Nat) (uSd : Nat → Nat) (n_sh : Nat) (n_rd : Nat) (n_sz : Nat) (n_or : Nat) (n_tb : Nat) (pn : Int32) (od : Int32) (fa : Int32) (tr : Int32) (pa : Nat → Option Nat) (clP : Nat → Int32) (leP : Nat → Int32) (riP : Nat → Int32) (ltP : Nat → Int32) (grP : Nat → Int32) (ctP : Int32) (gcP : Int32) (clT : Nat → Int32) (leT : Nat → Int32) (riT : Nat → Int32) (ltT : Nat → Int32) (grT : Nat → Int32) (ctT : Int32) (gcT : Int32) (sdS : Nat → Int32) (sfS : Nat → Int32) (nuS : Nat → Int32) (utS : Int64) (clD : Nat → Int32) (leD : Nat → Int32) (riD : Nat → Int32) (ltD : Nat → Int32) (grD : Nat → Int32) (ctD : Int32) (gcD : Int32) (p1 : Int32) (p2 : Int32) (hR_P : vp_in p1 12 → pa p1.toNatClampNeg = some (uP 0)) (hR_Q : vp_in p2 12 → pa p2.toNatClampNeg = some (uP 0)) (hR_T : vp_in pn 12 → pa pn.toNatClampNeg = some (uT 0)) {r' : Int32} {pn' : Int32} {clT' : Nat → Int32} {leT' : Nat → Int32} {riT' : Nat → Int32} {ltT' : Nat → Int32} {grT' : Nat → Int32} {ctT' : Int32} {gcT' : Int32} {sdS' : Nat → Int32} {nuS' : Nat → Int32} {clD' : Nat → Int32} {leD' : Nat → Int32} {riD' : Nat → Int32} {ltD' : Nat → Int32} {grD' : Nat → Int32} {ctD' : Int32} {gcD' : Int32} (hf : f_X9_heap_al p1 p2 pn clP leP riP ltP ctP clT leT riT ltT grT ctT gcT sdS sfS nuS utS clD leD riD ltD grD ctD gcD = some (r', pn', clT', leT', riT', ltT', grT', ctT', gcT', sdS', nuS', clD', leD', riD', ltD', grD', ctD', gcD')) : sp_Ci l yX9_heap wsX9_heap rmX9_heap_al D q5 1 [.ref (a 0), .int p1, .int p2] (sw_X a pA n_sh n_rd n_sz n_or (uS 0) n_tb q5 pn od fa tr ++ (sw_XP pA q5 pa ++ (sw_P uP q5 clP leP riP ltP grP ctP gcP ++ (sw_P uT q5 clT leT riT ltT grT ctT gcT ++ (sw_T uS (uSd 0) q5 sdS sfS nuS utS ++ (sw_P uSd q5 clD leD riD ltD grD ctD gcD)))))) r' (sw_X a pA n_sh n_rd n_sz n_or (uS 0) n_tb q5 pn' od fa tr ++ (sw_XP pA q5 pa ++ (sw_P uP q5 clP leP riP ltP grP ctP gcP ++ (sw_P uT q5 clT' leT' riT' ltT' grT' ctT' gcT' ++ (sw_T uS (uSd 0) q5 sdS' sfS nuS' utS ++ (sw_P uSd q5 clD' leD' riD' ltD' grD' ctD' gcD')))))) := by
  intro sz
  refine sp_of (cc := cX9_heap) (maxL := 3) (ret := some .int) (own := RX9) (Qc := sp_Qi D r' (sw_X a pA n_sh n_rd n_sz n_or (uS 0) n_tb q5 pn' od fa tr ++ (sw_XP pA q5 pa ++ (sw_P uP q5 clP leP riP ltP grP ctP gcP ++ (sw_P uT q5 clT' leT' riT' ltT' grT' ctT' gcT' ++ (sw_T uS (uSd 0) q5 sdS' sfS nuS' utS ++ (sw_P uSd q5 clD' leD' riD' ltD' grD' ctD' gcD'))))))) (by decide) rfl rfl (Nat.le_of_ble_eq_true rfl) ?_
  intro p e s m args below meth c A ls Q hQ S hr hlk hK hG hA hW hl
  have hx := S.1
  have hb := S.2.1
  unfold f_X9_heap_al at hf
  have inX5 : ∀ w ∈ u_ws RX5 TX5 5, w ∈ wsX9_heap := (fun _ h => List.mem_cons_of_mem _ (List.mem_append_left _ (List.mem_append_right _ h)))
  have inX9 : ∀ w ∈ u_ws RX9 TX9 11, w ∈ wsX9_heap := (fun _ h => List.mem_cons_of_mem _ (List.mem_append_left _ (List.mem_append_left _ (List.mem_append_right _ h))))
  have lk1 := S.2.2.2.2 (Cond.fieldLink RX9 49 "ShortProofs" "shortener" "LShortProofs$Shortener;") (List.mem_of_getElem? (i := 1) rfl)
  have lk2 := S.2.2.2.2 (Cond.fieldLink RX9 13 "ShortProofs" "proofs" "[LShortProofs$Proof;") (List.mem_of_getElem? (i := 2) rfl)
  have lk3 := S.2.2.2.2 (Cond.fieldLink RX9 176 "ShortProofs$Shortener" "draft" "LShortProofs$Proof;") (List.mem_of_getElem? (i := 3) rfl)
  refine lv_aload_n hx hb dX9_heap_0 rfl (lv_at hl 0 rfl) ?_
  refine lv_iload_n hx hb dX9_heap_1 rfl (lv_at hl 1 rfl) ?_
  obtain ⟨r1, hc1, hf⟩ := sp_hc hf
  refine sp_callVi (rest := []) S hK hG hA hW (c_X9_isProof a pA n_sh n_rd n_sz n_or (uS 0) n_tb pn od fa tr p1 hc1) (by decide) (cwV 1 S.2.2.2.2 gX9_heap_X9_isProof rfl rfl rfl (by decide +kernel) (by decide)) 7 0 rfl rfl (isC := [0]) rfl rfl rfl (WS' := sw_X a pA n_sh n_rd n_sz n_or (uS 0) n_tb q5 pn od fa tr ++ (sw_XP pA q5 pa ++ (sw_P uP q5 clP leP riP ltP grP ctP gcP ++ (sw_P uT q5 clT leT riT ltT grT ctT gcT ++ (sw_T uS (uSd 0) q5 sdS sfS nuS utS ++ (sw_P uSd q5 clD leD riD ltD grD ctD gcD)))))) rfl rfl hl.1 (Nat.le_of_ble_eq_true rfl) dX9_heap_2 ⟨Nat.zero_le _, Nat.zero_le _⟩ rfl (fun H locs hW => ?_)
  refine lv_if_eq (tgt := 16) hx hb dX9_heap_5 (by decide) (fun hc => ?_) (fun hc => ?_)
  · have hf := sp_ht hf hc
    refine lv_iconst (v := (-1)) hx hb dX9_heap_16 (by decide) ?_
    cases hf
    exact sp_iret S hr hlk hW hQ dX9_heap_17
  · have hf := sp_hf hf hc
    refine lv_aload_n hx hb dX9_heap_8 rfl (lv_at hl 0 rfl) ?_
    refine lv_iload_n hx hb dX9_heap_9 rfl (lv_at hl 2 rfl) ?_
    obtain ⟨r2, hc2, hf⟩ := sp_hc hf
    refine sp_callVi (rest := []) S hK hG hA hW (c_X9_isProof a pA n_sh n_rd n_sz n_or (uS 0) n_tb pn od fa tr p2 hc2) (by decide) (cwV 1 S.2.2.2.2 gX9_heap_X9_isProof rfl rfl rfl (by decide +kernel) (by decide)) 7 0 rfl rfl (isC := [0]) rfl rfl rfl (WS' := sw_X a pA n_sh n_rd n_sz n_or (uS 0) n_tb q5 pn od fa tr ++ (sw_XP pA q5 pa ++ (sw_P uP q5 clP leP riP ltP grP ctP gcP ++ (sw_P uT q5 clT leT riT ltT grT ctT gcT ++ (sw_T uS (uSd 0) q5 sdS sfS nuS utS ++ (sw_P uSd q5 clD leD riD ltD grD ctD gcD)))))) rfl rfl hl.1 (Nat.le_of_ble_eq_true rfl) dX9_heap_10 ⟨Nat.zero_le _, Nat.zero_le _⟩ rfl (fun H locs hW => ?_)
    refine lv_if_ne (tgt := 18) hx hb dX9_heap_13 (by decide) (fun hc => ?_) (fun hc => ?_)
    · have hf := sp_hf hf hc
      refine lv_aload_n hx hb dX9_heap_18 rfl (lv_at hl 0 rfl) ?_
      refine sp_get S hK hW inX9 0 rfl rfl 5 (by decide) lk1 rfl dX9_heap_19 ?_
      refine lv_aload_n hx hb dX9_heap_22 rfl (lv_at hl 0 rfl) ?_
      refine sp_get S hK hW inX9 0 rfl rfl 0 (by decide) lk2 rfl dX9_heap_23 ?_
      refine lv_iload_n hx hb dX9_heap_26 rfl (lv_at hl 1 rfl) ?_
      obtain ⟨hin, hf⟩ := sp_hck2 hf
      refine sp_aldq S hK hW 1 3 rfl rfl hin (hR_P hin) dX9_heap_27 ?_
      refine lv_aload_n hx hb dX9_heap_28 rfl (lv_at hl 0 rfl) ?_
      refine sp_get S hK hW inX9 0 rfl rfl 0 (by decide) lk2 rfl dX9_heap_29 ?_
      refine lv_iload_n hx hb dX9_heap_32 rfl (lv_at hl 2 rfl) ?_
      obtain ⟨hin, hf⟩ := sp_hck2 hf
      refine sp_aldq S hK hW 1 3 rfl rfl hin (hR_Q hin) dX9_heap_33 ?_
      obtain ⟨⟨r3, c4, c5, c6, c7, c8, c9, c10, c11, c12⟩, hc12, hf⟩ := sp_hc hf
      refine sp_callVi (rest := []) S hK hG hA hW (c_X5_heaps_al uS uSd uP sdS sfS nuS utS clD leD riD ltD grD ctD gcD clP leP riP ltP grP ctP gcP hc12) (by decide) (cwV 2 S.2.2.2.2 gX9_heap_X5_heaps rfl rfl rfl (by decide +kernel) (by decide)) 4 14 rfl rfl (isC := [14, 15, 16, 17, 18, 19, 20, 21, 22, 23, 2, 3, 4, 5, 6, 7]) rfl rfl rfl (WS' := sw_X a pA n_sh n_rd n_sz n_or (uS 0) n_tb q5 pn od fa tr ++ (sw_XP pA q5 pa ++ (sw_P uP q5 clP leP riP ltP grP ctP gcP ++ (sw_P uT q5 clT leT riT ltT grT ctT gcT ++ (sw_T uS (uSd 0) q5 c4 sfS c5 utS ++ (sw_P uSd q5 c6 c7 c8 c9 c10 c11 c12)))))) rfl rfl hl.1 (Nat.le_of_ble_eq_true rfl) dX9_heap_34 ⟨Nat.zero_le _, Nat.zero_le _⟩ rfl (fun H locs hW => ?_)
      refine lv_if_eq (tgt := 54) hx hb dX9_heap_37 (by decide) (fun hc => ?_) (fun hc => ?_)
      · have hf := sp_ht hf hc
        refine lv_bipush (v := (-3)) hx hb dX9_heap_54 (by decide) ?_
        cases hf
        exact sp_iret S hr hlk hW hQ dX9_heap_56
      · have hf := sp_hf hf hc
        refine lv_aload_n hx hb dX9_heap_40 rfl (lv_at hl 0 rfl) ?_
        refine lv_aload_n hx hb dX9_heap_41 rfl (lv_at hl 0 rfl) ?_
        refine sp_get S hK hW inX9 0 rfl rfl 5 (by decide) lk1 rfl dX9_heap_42 ?_
        refine sp_get S hK hW inX5 14 rfl rfl 0 (by decide) lk3 rfl dX9_heap_45 ?_
        obtain ⟨⟨r13, c14, c15, c16, c17, c18, c19, c20, c21⟩, hc21, hf⟩ := sp_hc hf
        refine sp_callVi (rest := []) S hK hG hA hW (c_X9_kept a pA uT uSd n_sh n_rd n_sz n_or (uS 0) n_tb pn od fa tr pa clT leT riT ltT grT ctT gcT c6 c7 c8 c9 c10 c11 c12 hR_T hc21) (by decide) (cwV 1 S.2.2.2.2 gX9_heap_X9_kept rfl rfl rfl (by decide +kernel) (by decide)) 7 0 rfl rfl (isC := [0, 1, 8, 9, 10, 11, 12, 13, 18, 19, 20, 21, 22, 23]) rfl rfl rfl (WS' := sw_X a pA n_sh n_rd n_sz n_or (uS 0) n_tb q5 c14 od fa tr ++ (sw_XP pA q5 pa ++ (sw_P uP q5 clP leP riP ltP grP ctP gcP ++ (sw_P uT q5 c15 c16 c17 c18 c19 c20 c21 ++ (sw_T uS (uSd 0) q5 c4 sfS c5 utS ++ (sw_P uSd q5 c6 c7 c8 c9 c10 c11 c12)))))) rfl rfl hl.1 (Nat.le_of_ble_eq_true rfl) dX9_heap_48 ⟨Nat.zero_le _, Nat.zero_le _⟩ rfl (fun H locs hW => ?_)
        refine lv_goto (tgt := 56) hx hb dX9_heap_51 (by decide) ?_
        cases hf
        exact sp_iret S hr hlk hW hQ dX9_heap_56
    · have hf := sp_ht hf hc
      refine lv_iconst (v := (-1)) hx hb dX9_heap_16 (by decide) ?_
      cases hf
      exact sp_iret S hr hlk hW hQ dX9_heap_17

def f_X9_shared (p1 : Int32) (p2 : Int32) (pn : Int32) (clP : Nat → Int32) (ctP : Int32) (clQ : Nat → Int32) (ctQ : Int32) : Option (Int32) := Option.bind (f_X9_isProof p1 pn) (fun r1 => if r1 = 0 then (some (-1 : Int32)) else (Option.bind (f_X9_isProof p2 pn) (fun r2 => if r2 = 0 then (some (-1 : Int32)) else (sp_ck 12 p1 (sp_ck 12 p2 (Option.bind (f_X2_unlikeIn clP ctP clQ ctQ) (fun r3 => some r3)))))))
def rmX9_shared : Room := { frames := 2, cells := 0, slots := 0, locals := 46 }
set_option maxRecDepth 4000 in
theorem c_X9_shared {l : Launch} {D : va_G} {q5 : Nat → ClassId} (a : Nat → Nat) (pA : Nat) (uP : Nat → Nat) (uQ : Nat → Nat) (n_sh : Nat) (n_rd : Nat) (n_sz : Nat) (n_or : Nat) (n_st : Nat) (n_tb : Nat) (pn : Int32) (od : Int32) (fa : Int32) (tr : Int32) (pa : Nat → Option Nat) (clP : Nat → Int32) (leP : Nat → Int32) (riP : Nat → Int32) (ltP : Nat → Int32) (grP : Nat → Int32) (ctP : Int32) (gcP : Int32) (clQ : Nat → Int32) (leQ : Nat → Int32) (riQ : Nat → Int32) (ltQ : Nat → Int32) (grQ : Nat → Int32) (ctQ : Int32) (gcQ : Int32) (p1 : Int32) (p2 : Int32) (hR_P : vp_in p1 12 → pa p1.toNatClampNeg = some (uP 0)) (hR_Q : vp_in p2 12 → pa p2.toNatClampNeg = some (uQ 0)) {r' : Int32} (hf : f_X9_shared p1 p2 pn clP ctP clQ ctQ = some r') : sp_Ci l yX9_shared wsX9_shared rmX9_shared D q5 0 [.ref (a 0), .int p1, .int p2] (sw_X a pA n_sh n_rd n_sz n_or n_st n_tb q5 pn od fa tr ++ (sw_XP pA q5 pa ++ (sw_P uP q5 clP leP riP ltP grP ctP gcP ++ (sw_P uQ q5 clQ leQ riQ ltQ grQ ctQ gcQ)))) r' (sw_X a pA n_sh n_rd n_sz n_or n_st n_tb q5 pn od fa tr ++ (sw_XP pA q5 pa ++ (sw_P uP q5 clP leP riP ltP grP ctP gcP ++ (sw_P uQ q5 clQ leQ riQ ltQ grQ ctQ gcQ)))) := by
  intro sz
  refine sp_of (cc := cX9_shared) (maxL := 3) (ret := some .int) (own := RX9) (Qc := sp_Qi D r' (sw_X a pA n_sh n_rd n_sz n_or n_st n_tb q5 pn od fa tr ++ (sw_XP pA q5 pa ++ (sw_P uP q5 clP leP riP ltP grP ctP gcP ++ (sw_P uQ q5 clQ leQ riQ ltQ grQ ctQ gcQ))))) (by decide) rfl rfl (Nat.le_of_ble_eq_true rfl) ?_
  intro p e s m args below meth c A ls Q hQ S hr hlk hK hG hA hW hl
  have hx := S.1
  have hb := S.2.1
  unfold f_X9_shared at hf
  have inX9 : ∀ w ∈ u_ws RX9 TX9 11, w ∈ wsX9_shared := (fun _ h => List.mem_cons_of_mem _ (List.mem_append_left _ (List.mem_append_right _ h)))
  have lk1 := S.2.2.2.2 (Cond.fieldLink RX9 13 "ShortProofs" "proofs" "[LShortProofs$Proof;") (List.mem_of_getElem? (i := 1) rfl)
  refine lv_aload_n hx hb dX9_shared_0 rfl (lv_at hl 0 rfl) ?_
  refine lv_iload_n hx hb dX9_shared_1 rfl (lv_at hl 1 rfl) ?_
  obtain ⟨r1, hc1, hf⟩ := sp_hc hf
  refine sp_callVi (rest := []) S hK hG hA hW (c_X9_isProof a pA n_sh n_rd n_sz n_or n_st n_tb pn od fa tr p1 hc1) (by decide) (cwV 1 S.2.2.2.2 gX9_shared_X9_isProof rfl rfl rfl (by decide +kernel) (by decide)) 7 0 rfl rfl (isC := [0]) rfl rfl rfl (WS' := sw_X a pA n_sh n_rd n_sz n_or n_st n_tb q5 pn od fa tr ++ (sw_XP pA q5 pa ++ (sw_P uP q5 clP leP riP ltP grP ctP gcP ++ (sw_P uQ q5 clQ leQ riQ ltQ grQ ctQ gcQ)))) rfl rfl hl.1 (Nat.le_of_ble_eq_true rfl) dX9_shared_2 ⟨Nat.zero_le _, Nat.zero_le _⟩ rfl (fun H locs hW => ?_)
  refine lv_if_eq (tgt := 16) hx hb dX9_shared_5 (by decide) (fun hc => ?_) (fun hc => ?_)
  · have hf := sp_ht hf hc
    refine lv_iconst (v := (-1)) hx hb dX9_shared_16 (by decide) ?_
    cases hf
    exact sp_iret S hr hlk hW hQ dX9_shared_17
  · have hf := sp_hf hf hc
    refine lv_aload_n hx hb dX9_shared_8 rfl (lv_at hl 0 rfl) ?_
    refine lv_iload_n hx hb dX9_shared_9 rfl (lv_at hl 2 rfl) ?_
    obtain ⟨r2, hc2, hf⟩ := sp_hc hf
    refine sp_callVi (rest := []) S hK hG hA hW (c_X9_isProof a pA n_sh n_rd n_sz n_or n_st n_tb pn od fa tr p2 hc2) (by decide) (cwV 1 S.2.2.2.2 gX9_shared_X9_isProof rfl rfl rfl (by decide +kernel) (by decide)) 7 0 rfl rfl (isC := [0]) rfl rfl rfl (WS' := sw_X a pA n_sh n_rd n_sz n_or n_st n_tb q5 pn od fa tr ++ (sw_XP pA q5 pa ++ (sw_P uP q5 clP leP riP ltP grP ctP gcP ++ (sw_P uQ q5 clQ leQ riQ ltQ grQ ctQ gcQ)))) rfl rfl hl.1 (Nat.le_of_ble_eq_true rfl) dX9_shared_10 ⟨Nat.zero_le _, Nat.zero_le _⟩ rfl (fun H locs hW => ?_)
    refine lv_if_ne (tgt := 18) hx hb dX9_shared_13 (by decide) (fun hc => ?_) (fun hc => ?_)
    · have hf := sp_hf hf hc
      refine lv_aload_n hx hb dX9_shared_18 rfl (lv_at hl 0 rfl) ?_
      refine sp_get S hK hW inX9 0 rfl rfl 0 (by decide) lk1 rfl dX9_shared_19 ?_
      refine lv_iload_n hx hb dX9_shared_22 rfl (lv_at hl 1 rfl) ?_
      obtain ⟨hin, hf⟩ := sp_hck2 hf
      refine sp_aldq S hK hW 1 3 rfl rfl hin (hR_P hin) dX9_shared_23 ?_
      refine lv_aload_n hx hb dX9_shared_24 rfl (lv_at hl 0 rfl) ?_
      refine sp_get S hK hW inX9 0 rfl rfl 0 (by decide) lk1 rfl dX9_shared_25 ?_
      refine lv_iload_n hx hb dX9_shared_28 rfl (lv_at hl 2 rfl) ?_
      obtain ⟨hin, hf⟩ := sp_hck2 hf
      refine sp_aldq S hK hW 1 3 rfl rfl hin (hR_Q hin) dX9_shared_29 ?_
      obtain ⟨r3, hc3, hf⟩ := sp_hc hf
      refine sp_callVi (rest := []) S hK hG hA hW (c_X2_unlikeIn uP uQ clP leP riP ltP grP ctP gcP clQ leQ riQ ltQ grQ ctQ gcQ hc3) (by decide) (cwV 1 S.2.2.2.2 gX9_shared_X2_unlikeIn rfl rfl rfl (by decide +kernel) (by decide)) 1 2 rfl rfl (isC := [2, 3, 4, 5, 6, 7, 8, 9, 10, 11, 12, 13]) rfl rfl rfl (WS' := sw_X a pA n_sh n_rd n_sz n_or n_st n_tb q5 pn od fa tr ++ (sw_XP pA q5 pa ++ (sw_P uP q5 clP leP riP ltP grP ctP gcP ++ (sw_P uQ q5 clQ leQ riQ ltQ grQ ctQ gcQ)))) rfl rfl hl.1 (Nat.le_of_ble_eq_true rfl) dX9_shared_30 ⟨Nat.zero_le _, Nat.zero_le _⟩ rfl (fun H locs hW => ?_)
      cases hf
      exact sp_iret S hr hlk hW hQ dX9_shared_33
    · have hf := sp_ht hf hc
      refine lv_iconst (v := (-1)) hx hb dX9_shared_16 (by decide) ?_
      cases hf
      exact sp_iret S hr hlk hW hQ dX9_shared_17

def f_X9_shared_al (p1 : Int32) (p2 : Int32) (pn : Int32) (clP : Nat → Int32) (ctP : Int32) : Option (Int32) := Option.bind (f_X9_isProof p1 pn) (fun r1 => if r1 = 0 then (some (-1 : Int32)) else (Option.bind (f_X9_isProof p2 pn) (fun r2 => if r2 = 0 then (some (-1 : Int32)) else (sp_ck 12 p1 (sp_ck 12 p2 (Option.bind (f_X2_unlikeIn_al clP ctP) (fun r3 => some r3)))))))
def rmX9_shared_al : Room := { frames := 2, cells := 0, slots := 0, locals := 46 }
set_option maxRecDepth 4000 in
theorem c_X9_shared_al {l : Launch} {D : va_G} {q5 : Nat → ClassId} (a : Nat → Nat) (pA : Nat) (uP : Nat → Nat) (n_sh : Nat) (n_rd : Nat) (n_sz : Nat) (n_or : Nat) (n_st : Nat) (n_tb : Nat) (pn : Int32) (od : Int32) (fa : Int32) (tr : Int32) (pa : Nat → Option Nat) (clP : Nat → Int32) (leP : Nat → Int32) (riP : Nat → Int32) (ltP : Nat → Int32) (grP : Nat → Int32) (ctP : Int32) (gcP : Int32) (p1 : Int32) (p2 : Int32) (hR_P : vp_in p1 12 → pa p1.toNatClampNeg = some (uP 0)) (hR_Q : vp_in p2 12 → pa p2.toNatClampNeg = some (uP 0)) {r' : Int32} (hf : f_X9_shared_al p1 p2 pn clP ctP = some r') : sp_Ci l yX9_shared wsX9_shared rmX9_shared_al D q5 0 [.ref (a 0), .int p1, .int p2] (sw_X a pA n_sh n_rd n_sz n_or n_st n_tb q5 pn od fa tr ++ (sw_XP pA q5 pa ++ (sw_P uP q5 clP leP riP ltP grP ctP gcP))) r' (sw_X a pA n_sh n_rd n_sz n_or n_st n_tb q5 pn od fa tr ++ (sw_XP pA q5 pa ++ (sw_P uP q5 clP leP riP ltP grP ctP gcP))) := by
  intro sz
  refine sp_of (cc := cX9_shared) (maxL := 3) (ret := some .int) (own := RX9) (Qc := sp_Qi D r' (sw_X a pA n_sh n_rd n_sz n_or n_st n_tb q5 pn od fa tr ++ (sw_XP pA q5 pa ++ (sw_P uP q5 clP leP riP ltP grP ctP gcP)))) (by decide) rfl rfl (Nat.le_of_ble_eq_true rfl) ?_
  intro p e s m args below meth c A ls Q hQ S hr hlk hK hG hA hW hl
  have hx := S.1
  have hb := S.2.1
  unfold f_X9_shared_al at hf
  have inX9 : ∀ w ∈ u_ws RX9 TX9 11, w ∈ wsX9_shared := (fun _ h => List.mem_cons_of_mem _ (List.mem_append_left _ (List.mem_append_right _ h)))
  have lk1 := S.2.2.2.2 (Cond.fieldLink RX9 13 "ShortProofs" "proofs" "[LShortProofs$Proof;") (List.mem_of_getElem? (i := 1) rfl)
  refine lv_aload_n hx hb dX9_shared_0 rfl (lv_at hl 0 rfl) ?_
  refine lv_iload_n hx hb dX9_shared_1 rfl (lv_at hl 1 rfl) ?_
  obtain ⟨r1, hc1, hf⟩ := sp_hc hf
  refine sp_callVi (rest := []) S hK hG hA hW (c_X9_isProof a pA n_sh n_rd n_sz n_or n_st n_tb pn od fa tr p1 hc1) (by decide) (cwV 1 S.2.2.2.2 gX9_shared_X9_isProof rfl rfl rfl (by decide +kernel) (by decide)) 7 0 rfl rfl (isC := [0]) rfl rfl rfl (WS' := sw_X a pA n_sh n_rd n_sz n_or n_st n_tb q5 pn od fa tr ++ (sw_XP pA q5 pa ++ (sw_P uP q5 clP leP riP ltP grP ctP gcP))) rfl rfl hl.1 (Nat.le_of_ble_eq_true rfl) dX9_shared_2 ⟨Nat.zero_le _, Nat.zero_le _⟩ rfl (fun H locs hW => ?_)
  refine lv_if_eq (tgt := 16) hx hb dX9_shared_5 (by decide) (fun hc => ?_) (fun hc => ?_)
  · have hf := sp_ht hf hc
    refine lv_iconst (v := (-1)) hx hb dX9_shared_16 (by decide) ?_
    cases hf
    exact sp_iret S hr hlk hW hQ dX9_shared_17
  · have hf := sp_hf hf hc
    refine lv_aload_n hx hb dX9_shared_8 rfl (lv_at hl 0 rfl) ?_
    refine lv_iload_n hx hb dX9_shared_9 rfl (lv_at hl 2 rfl) ?_
    obtain ⟨r2, hc2, hf⟩ := sp_hc hf
    refine sp_callVi (rest := []) S hK hG hA hW (c_X9_isProof a pA n_sh n_rd n_sz n_or n_st n_tb pn od fa tr p2 hc2) (by decide) (cwV 1 S.2.2.2.2 gX9_shared_X9_isProof rfl rfl rfl (by decide +kernel) (by decide)) 7 0 rfl rfl (isC := [0]) rfl rfl rfl (WS' := sw_X a pA n_sh n_rd n_sz n_or n_st n_tb q5 pn od fa tr ++ (sw_XP pA q5 pa ++ (sw_P uP q5 clP leP riP ltP grP ctP gcP))) rfl rfl hl.1 (Nat.le_of_ble_eq_true rfl) dX9_shared_10 ⟨Nat.zero_le _, Nat.zero_le _⟩ rfl (fun H locs hW => ?_)
    refine lv_if_ne (tgt := 18) hx hb dX9_shared_13 (by decide) (fun hc => ?_) (fun hc => ?_)
    · have hf := sp_hf hf hc
      refine lv_aload_n hx hb dX9_shared_18 rfl (lv_at hl 0 rfl) ?_
      refine sp_get S hK hW inX9 0 rfl rfl 0 (by decide) lk1 rfl dX9_shared_19 ?_
      refine lv_iload_n hx hb dX9_shared_22 rfl (lv_at hl 1 rfl) ?_
      obtain ⟨hin, hf⟩ := sp_hck2 hf
      refine sp_aldq S hK hW 1 3 rfl rfl hin (hR_P hin) dX9_shared_23 ?_
      refine lv_aload_n hx hb dX9_shared_24 rfl (lv_at hl 0 rfl) ?_
      refine sp_get S hK hW inX9 0 rfl rfl 0 (by decide) lk1 rfl dX9_shared_25 ?_
      refine lv_iload_n hx hb dX9_shared_28 rfl (lv_at hl 2 rfl) ?_
      obtain ⟨hin, hf⟩ := sp_hck2 hf
      refine sp_aldq S hK hW 1 3 rfl rfl hin (hR_Q hin) dX9_shared_29 ?_
      obtain ⟨r3, hc3, hf⟩ := sp_hc hf
      refine sp_callVi (rest := []) S hK hG hA hW (c_X2_unlikeIn_al uP clP leP riP ltP grP ctP gcP hc3) (by decide) (cwV 1 S.2.2.2.2 gX9_shared_X2_unlikeIn rfl rfl rfl (by decide +kernel) (by decide)) 1 2 rfl rfl (isC := [2, 3, 4, 5, 6, 7]) rfl rfl rfl (WS' := sw_X a pA n_sh n_rd n_sz n_or n_st n_tb q5 pn od fa tr ++ (sw_XP pA q5 pa ++ (sw_P uP q5 clP leP riP ltP grP ctP gcP))) rfl rfl hl.1 (Nat.le_of_ble_eq_true rfl) dX9_shared_30 ⟨Nat.zero_le _, Nat.zero_le _⟩ rfl (fun H locs hW => ?_)
      cases hf
      exact sp_iret S hr hlk hW hQ dX9_shared_33
    · have hf := sp_ht hf hc
      refine lv_iconst (v := (-1)) hx hb dX9_shared_16 (by decide) ?_
      cases hf
      exact sp_iret S hr hlk hW hQ dX9_shared_17

def f_X9_core (p1 : Int32) (p2 : Int32) (p3 : Int32) (pn : Int32) (clP : Nat → Int32) (grP : Nat → Int32) (gcP : Int32) (tgU : Nat → Int64) : Option (Int32 × (Nat → Int64)) := Option.bind (f_X9_isProof p1 pn) (fun r1 => if r1 = 0 then (some ((-1 : Int32), tgU)) else (sp_ck 12 p1 (if gcP ≤ (10 : Int32) then (if p2 < 0 then (some ((-2 : Int32), tgU)) else (if (3 : Int32) < p2 then (some ((-2 : Int32), tgU)) else (sp_bnd (Option.bind (f_X8_fillTogether tgU clP grP gcP) (fun c3 => if p2 = (0 : Int32) then (Option.bind (f_X8_leastCore ((1 : Int32) <<< (gcP &&& 31)) c3) (fun r4 => some (r4, c3))) else (if p2 = (1 : Int32) then (Option.bind (f_X8_bareCores ((1 : Int32) <<< (gcP &&& 31)) c3) (fun r5 => some (r5, c3))) else (if p2 = (2 : Int32) then (Option.bind (f_X8_isCore p3 c3) (fun r6 => if r6 = 0 then (some ((0 : Int32), c3)) else (some ((1 : Int32), c3)))) else (Option.bind (f_X8_isBare p3 c3) (fun r7 => if r7 = 0 then (some ((0 : Int32), c3)) else (some ((1 : Int32), c3)))))))) (fun k2 => if p2 ≤ (1 : Int32) then k2 else (Option.bind (f_X9_isGroundSet p3 gcP) (fun r8 => if r8 = 0 then (some ((-2 : Int32), tgU)) else k2)))))) else (some ((-3 : Int32), tgU)))))
def rmX9_core : Room := { frames := 3, cells := 0, slots := 0, locals := 69 }
set_option maxRecDepth 4000 in
theorem c_X9_core {l : Launch} {D : va_G} {q5 : Nat → ClassId} (a : Nat → Nat) (pA : Nat) (uP : Nat → Nat) (uU : Nat → Nat) (n_sh : Nat) (n_rd : Nat) (n_sz : Nat) (n_or : Nat) (n_st : Nat) (pn : Int32) (od : Int32) (fa : Int32) (tr : Int32) (pa : Nat → Option Nat) (clP : Nat → Int32) (leP : Nat → Int32) (riP : Nat → Int32) (ltP : Nat → Int32) (grP : Nat → Int32) (ctP : Int32) (gcP : Int32) (tgU : Nat → Int64) (btU : Nat → Int64) (p1 : Int32) (p2 : Int32) (p3 : Int32) (hR_P : vp_in p1 12 → pa p1.toNatClampNeg = some (uP 0)) {r' : Int32} {tgU' : Nat → Int64} (hf : f_X9_core p1 p2 p3 pn clP grP gcP tgU = some (r', tgU')) : sp_Ci l yX9_core wsX9_core rmX9_core D q5 2 [.ref (a 0), .int p1, .int p2, .int p3] (sw_X a pA n_sh n_rd n_sz n_or n_st (uU 0) q5 pn od fa tr ++ (sw_XP pA q5 pa ++ (sw_P uP q5 clP leP riP ltP grP ctP gcP ++ (sw_U uU q5 tgU btU)))) r' (sw_X a pA n_sh n_rd n_sz n_or n_st (uU 0) q5 pn od fa tr ++ (sw_XP pA q5 pa ++ (sw_P uP q5 clP leP riP ltP grP ctP gcP ++ (sw_U uU q5 tgU' btU)))) := by
  intro sz
  refine sp_of (cc := cX9_core) (maxL := 5) (ret := some .int) (own := RX9) (Qc := sp_Qi D r' (sw_X a pA n_sh n_rd n_sz n_or n_st (uU 0) q5 pn od fa tr ++ (sw_XP pA q5 pa ++ (sw_P uP q5 clP leP riP ltP grP ctP gcP ++ (sw_U uU q5 tgU' btU))))) (by decide) rfl rfl (Nat.le_of_ble_eq_true rfl) ?_
  intro p e s m args below meth c A ls Q hQ S hr hlk hK hG hA hW hl
  have hx := S.1
  have hb := S.2.1
  unfold f_X9_core at hf
  have inX2 : ∀ w ∈ u_ws RX2 TX2 7, w ∈ wsX9_core := (fun _ h => List.mem_cons_of_mem _ (List.mem_append_left _ (List.mem_append_right _ h)))
  have inX9 : ∀ w ∈ u_ws RX9 TX9 11, w ∈ wsX9_core := (fun _ h => List.mem_cons_of_mem _ (List.mem_append_left _ (List.mem_append_left _ (List.mem_append_right _ h))))
  have lk1 := S.2.2.2.2 (Cond.fieldLink RX9 13 "ShortProofs" "proofs" "[LShortProofs$Proof;") (List.mem_of_getElem? (i := 1) rfl)
  have lk2 := S.2.2.2.2 (Cond.fieldLink RX9 141 "ShortProofs$Proof" "groundCount" "I") (List.mem_of_getElem? (i := 2) rfl)
  have lk3 := S.2.2.2.2 (Cond.fieldLink RX9 56 "ShortProofs" "tables" "LShortProofs$Truths;") (List.mem_of_getElem? (i := 3) rfl)
  refine lv_aload_n hx hb dX9_core_0 rfl (lv_at hl 0 rfl) ?_
  refine lv_iload_n hx hb dX9_core_1 rfl (lv_at hl 1 rfl) ?_
  obtain ⟨r1, hc1, hf⟩ := sp_hc hf
  refine sp_callVi (rest := []) S hK hG hA hW (c_X9_isProof a pA n_sh n_rd n_sz n_or n_st (uU 0) pn od fa tr p1 hc1) (by decide) (cwV 1 S.2.2.2.2 gX9_core_X9_isProof rfl rfl rfl (by decide +kernel) (by decide)) 7 0 rfl rfl (isC := [0]) rfl rfl rfl (WS' := sw_X a pA n_sh n_rd n_sz n_or n_st (uU 0) q5 pn od fa tr ++ (sw_XP pA q5 pa ++ (sw_P uP q5 clP leP riP ltP grP ctP gcP ++ (sw_U uU q5 tgU btU)))) rfl rfl hl.1 (Nat.le_of_ble_eq_true rfl) dX9_core_2 ⟨Nat.zero_le _, Nat.zero_le _⟩ rfl (fun H locs hW => ?_)
  refine lv_if_ne (tgt := 10) hx hb dX9_core_5 (by decide) (fun hc => ?_) (fun hc => ?_)
  · have hf := sp_hf hf hc
    refine lv_aload_n hx hb dX9_core_10 rfl (lv_at hl 0 rfl) ?_
    refine sp_get S hK hW inX9 0 rfl rfl 0 (by decide) lk1 rfl dX9_core_11 ?_
    refine lv_iload_n hx hb dX9_core_14 rfl (lv_at hl 1 rfl) ?_
    obtain ⟨hin, hf⟩ := sp_hck2 hf
    refine sp_aldq S hK hW 1 3 rfl rfl hin (hR_P hin) dX9_core_15 ?_
    refine lv_astore (lv' := [(4, .ref (uP 0)), (0, .ref (a 0)), (1, .int p1), (2, .int p2), (3, .int p3)]) hx hb dX9_core_16 hl (by decide) rfl (fun ls hl => ?_)
    refine lv_aload hx hb dX9_core_18 (lv_at hl 0 rfl) ?_
    refine sp_get S hK hW inX2 2 rfl rfl 6 (by decide) lk2 rfl dX9_core_20 ?_
    refine lv_bipush (v := 10) hx hb dX9_core_23 (by decide) ?_
    refine lv_icmp_le (tgt := 31) hx hb dX9_core_25 (by decide) (fun hc => ?_) (fun hc => ?_)
    · have hf := sp_ht hf hc
      refine lv_iload_n hx hb dX9_core_31 rfl (lv_at hl 3 rfl) ?_
      refine lv_if_lt (tgt := 54) hx hb dX9_core_32 (by decide) (fun hc => ?_) (fun hc => ?_)
      · have hf := sp_ht hf hc
        refine lv_bipush (v := (-2)) hx hb dX9_core_54 (by decide) ?_
        cases hf
        exact sp_iret S hr hlk hW hQ dX9_core_56
      · have hf := sp_hf hf hc
        refine lv_iload_n hx hb dX9_core_35 rfl (lv_at hl 3 rfl) ?_
        refine lv_iconst (v := 3) hx hb dX9_core_36 (by decide) ?_
        refine lv_icmp_gt (tgt := 54) hx hb dX9_core_37 (by decide) (fun hc => ?_) (fun hc => ?_)
        · have hf := sp_ht hf hc
          refine lv_bipush (v := (-2)) hx hb dX9_core_54 (by decide) ?_
          cases hf
          exact sp_iret S hr hlk hW hQ dX9_core_56
        · have hf := sp_hf hf hc
          refine lv_iload_n hx hb dX9_core_40 rfl (lv_at hl 3 rfl) ?_
          refine lv_iconst (v := 1) hx hb dX9_core_41 (by decide) ?_
          obtain ⟨k2, ek2, hf⟩ := sp_hb hf
          have hj2 : ∀ (H : Heap) (locs : List Loc) (ls : Array Slot), k2 = some (r', tgU') → sp_wd D A s.heap (sw_X a pA n_sh n_rd n_sz n_or n_st (uU 0) q5 pn od fa tr ++ (sw_XP pA q5 pa ++ (sw_P uP q5 clP leP riP ltP grP ctP gcP ++ (sw_U uU q5 tgU btU)))) H locs → lv_has ls 5 [(0, .ref (a 0)), (2, .int p2), (3, .int p3), (4, .ref (uP 0))] → W p l e rmX9_core s m args below meth c H locs 0 0 Q (F0 m 57 ls []) := by
            intro H locs ls hf hW hl
            rw [ek2] at hf
            refine lv_aload_n hx hb dX9_core_57 rfl (lv_at hl 0 rfl) ?_
            refine sp_get S hK hW inX9 0 rfl rfl 6 (by decide) lk3 rfl dX9_core_58 ?_
            refine lv_aload hx hb dX9_core_61 (lv_at hl 3 rfl) ?_
            obtain ⟨c3, hc3, hf⟩ := sp_hc hf
            refine sp_callVv (rest := []) S hK hG hA hW (c_X8_fillTogether uU uP tgU btU clP leP riP ltP grP ctP gcP hc3) (by decide) (cwV 1 S.2.2.2.2 gX9_core_X8_fillTogether rfl rfl rfl (by decide +kernel) (by decide)) 6 8 rfl rfl (isC := [8, 9, 10, 2, 3, 4, 5, 6, 7]) rfl rfl rfl (WS' := sw_X a pA n_sh n_rd n_sz n_or n_st (uU 0) q5 pn od fa tr ++ (sw_XP pA q5 pa ++ (sw_P uP q5 clP leP riP ltP grP ctP gcP ++ (sw_U uU q5 c3 btU)))) rfl rfl hl.1 (Nat.le_of_ble_eq_true rfl) dX9_core_63 ⟨Nat.zero_le _, Nat.zero_le _⟩ rfl (fun H locs hW => ?_)
            refine lv_iload_n hx hb dX9_core_66 rfl (lv_at hl 1 rfl) ?_
            by_cases hs0 : p2 = (0 : Int32)
            · have hf := sp_ht hf hs0
              refine lv_tableIn (tgt := 92) (off := 25) hx hb dX9_core_67 (by rw [hs0]; decide) (by rw [hs0]; decide) (by rw [hs0]; rfl) (by decide) ?_
              refine lv_aload_n hx hb dX9_core_92 rfl (lv_at hl 0 rfl) ?_
              refine sp_get S hK hW inX9 0 rfl rfl 6 (by decide) lk3 rfl dX9_core_93 ?_
              refine lv_iconst (v := 1) hx hb dX9_core_96 (by decide) ?_
              refine lv_aload hx hb dX9_core_97 (lv_at hl 3 rfl) ?_
              refine sp_get S hK hW inX2 2 rfl rfl 6 (by decide) lk2 rfl dX9_core_99 ?_
              refine lv_ishl hx hb dX9_core_102 ?_
              obtain ⟨r4, hc4, hf⟩ := sp_hc hf
              refine sp_callVi (rest := []) S hK hG hA hW (c_X8_leastCore uU c3 btU ((1 : Int32) <<< (gcP &&& 31)) hc4) (by decide) (cwV 1 S.2.2.2.2 gX9_core_X8_leastCore rfl rfl rfl (by decide +kernel) (by decide)) 6 8 rfl rfl (isC := [8, 9, 10]) rfl rfl rfl (WS' := sw_X a pA n_sh n_rd n_sz n_or n_st (uU 0) q5 pn od fa tr ++ (sw_XP pA q5 pa ++ (sw_P uP q5 clP leP riP ltP grP ctP gcP ++ (sw_U uU q5 c3 btU)))) rfl rfl hl.1 (Nat.le_of_ble_eq_true rfl) dX9_core_103 ⟨Nat.zero_le _, Nat.zero_le _⟩ rfl (fun H locs hW => ?_)
              cases hf
              exact sp_iret S hr hlk hW hQ dX9_core_106
            have hf := sp_hf hf hs0
            by_cases hs1 : p2 = (1 : Int32)
            · have hf := sp_ht hf hs1
              refine lv_tableIn (tgt := 107) (off := 40) hx hb dX9_core_67 (by rw [hs1]; decide) (by rw [hs1]; decide) (by rw [hs1]; rfl) (by decide) ?_
              refine lv_aload_n hx hb dX9_core_107 rfl (lv_at hl 0 rfl) ?_
              refine sp_get S hK hW inX9 0 rfl rfl 6 (by decide) lk3 rfl dX9_core_108 ?_
              refine lv_iconst (v := 1) hx hb dX9_core_111 (by decide) ?_
              refine lv_aload hx hb dX9_core_112 (lv_at hl 3 rfl) ?_
              refine sp_get S hK hW inX2 2 rfl rfl 6 (by decide) lk2 rfl dX9_core_114 ?_
              refine lv_ishl hx hb dX9_core_117 ?_
              obtain ⟨r5, hc5, hf⟩ := sp_hc hf
              refine sp_callVi (rest := []) S hK hG hA hW (c_X8_bareCores uU c3 btU ((1 : Int32) <<< (gcP &&& 31)) hc5) (by decide) (cwV 1 S.2.2.2.2 gX9_core_X8_bareCores rfl rfl rfl (by decide +kernel) (by decide)) 6 8 rfl rfl (isC := [8, 9, 10]) rfl rfl rfl (WS' := sw_X a pA n_sh n_rd n_sz n_or n_st (uU 0) q5 pn od fa tr ++ (sw_XP pA q5 pa ++ (sw_P uP q5 clP leP riP ltP grP ctP gcP ++ (sw_U uU q5 c3 btU)))) rfl rfl hl.1 (Nat.le_of_ble_eq_true rfl) dX9_core_118 ⟨Nat.zero_le _, Nat.zero_le _⟩ rfl (fun H locs hW => ?_)
              cases hf
              exact sp_iret S hr hlk hW hQ dX9_core_121
            have hf := sp_hf hf hs1
            by_cases hs2 : p2 = (2 : Int32)
            · have hf := sp_ht hf hs2
              refine lv_tableIn (tgt := 122) (off := 55) hx hb dX9_core_67 (by rw [hs2]; decide) (by rw [hs2]; decide) (by rw [hs2]; rfl) (by decide) ?_
              refine lv_aload_n hx hb dX9_core_122 rfl (lv_at hl 0 rfl) ?_
              refine sp_get S hK hW inX9 0 rfl rfl 6 (by decide) lk3 rfl dX9_core_123 ?_
              refine lv_iload_n hx hb dX9_core_126 rfl (lv_at hl 2 rfl) ?_
              obtain ⟨r6, hc6, hf⟩ := sp_hc hf
              refine sp_callVi (rest := []) S hK hG hA hW (c_X8_isCore uU c3 btU p3 hc6) (by decide) (cwV 1 S.2.2.2.2 gX9_core_X8_isCore rfl rfl rfl (by decide +kernel) (by decide)) 6 8 rfl rfl (isC := [8, 9, 10]) rfl rfl rfl (WS' := sw_X a pA n_sh n_rd n_sz n_or n_st (uU 0) q5 pn od fa tr ++ (sw_XP pA q5 pa ++ (sw_P uP q5 clP leP riP ltP grP ctP gcP ++ (sw_U uU q5 c3 btU)))) rfl rfl hl.1 (Nat.le_of_ble_eq_true rfl) dX9_core_127 ⟨Nat.zero_le _, Nat.zero_le _⟩ rfl (fun H locs hW => ?_)
              refine lv_if_eq (tgt := 137) hx hb dX9_core_130 (by decide) (fun hc => ?_) (fun hc => ?_)
              · have hf := sp_ht hf hc
                refine lv_iconst (v := 0) hx hb dX9_core_137 (by decide) ?_
                cases hf
                exact sp_iret S hr hlk hW hQ dX9_core_138
              · have hf := sp_hf hf hc
                refine lv_iconst (v := 1) hx hb dX9_core_133 (by decide) ?_
                refine lv_goto (tgt := 138) hx hb dX9_core_134 (by decide) ?_
                cases hf
                exact sp_iret S hr hlk hW hQ dX9_core_138
            have hf := sp_hf hf hs2
            have hz0 : p2.toInt ≠ 0 := sp_nei hs0
            have hz1 : p2.toInt ≠ 1 := sp_nei hs1
            have hz2 : p2.toInt ≠ 2 := sp_nei hs2
            refine lv_tableOut (tgt := 139) hx hb dX9_core_67 (by omega) (by decide) ?_
            refine lv_aload_n hx hb dX9_core_139 rfl (lv_at hl 0 rfl) ?_
            refine sp_get S hK hW inX9 0 rfl rfl 6 (by decide) lk3 rfl dX9_core_140 ?_
            refine lv_iload_n hx hb dX9_core_143 rfl (lv_at hl 2 rfl) ?_
            obtain ⟨r7, hc7, hf⟩ := sp_hc hf
            refine sp_callVi (rest := []) S hK hG hA hW (c_X8_isBare uU c3 btU p3 hc7) (by decide) (cwV 1 S.2.2.2.2 gX9_core_X8_isBare rfl rfl rfl (by decide +kernel) (by decide)) 6 8 rfl rfl (isC := [8, 9, 10]) rfl rfl rfl (WS' := sw_X a pA n_sh n_rd n_sz n_or n_st (uU 0) q5 pn od fa tr ++ (sw_XP pA q5 pa ++ (sw_P uP q5 clP leP riP ltP grP ctP gcP ++ (sw_U uU q5 c3 btU)))) rfl rfl hl.1 (Nat.le_of_ble_eq_true rfl) dX9_core_144 ⟨Nat.zero_le _, Nat.zero_le _⟩ rfl (fun H locs hW => ?_)
            refine lv_if_eq (tgt := 154) hx hb dX9_core_147 (by decide) (fun hc => ?_) (fun hc => ?_)
            · have hf := sp_ht hf hc
              refine lv_iconst (v := 0) hx hb dX9_core_154 (by decide) ?_
              cases hf
              exact sp_iret S hr hlk hW hQ dX9_core_155
            · have hf := sp_hf hf hc
              refine lv_iconst (v := 1) hx hb dX9_core_150 (by decide) ?_
              refine lv_goto (tgt := 155) hx hb dX9_core_151 (by decide) ?_
              cases hf
              exact sp_iret S hr hlk hW hQ dX9_core_155
          refine lv_icmp_le (tgt := 57) hx hb dX9_core_42 (by decide) (fun hc => ?_) (fun hc => ?_)
          · have hf := sp_ht hf hc
            exact hj2 _ _ _ hf hW (lv_sub hl [1, 3, 4, 0] rfl)
          · have hf := sp_hf hf hc
            refine lv_aload hx hb dX9_core_45 (lv_at hl 0 rfl) ?_
            refine lv_iload_n hx hb dX9_core_47 rfl (lv_at hl 4 rfl) ?_
            obtain ⟨r8, hc8, hf⟩ := sp_hc hf
            refine sp_callSi (rest := []) S hK hG hA hW (c_X9_isGroundSet uP clP leP riP ltP grP ctP gcP p3 hc8) (by decide) (va_cwS 2 S.2.2.2.2 gX9_core_X9_isGroundSet rfl rfl rfl (by decide +kernel) (by decide)) (isC := [2, 3, 4, 5, 6, 7]) rfl rfl rfl (WS' := sw_X a pA n_sh n_rd n_sz n_or n_st (uU 0) q5 pn od fa tr ++ (sw_XP pA q5 pa ++ (sw_P uP q5 clP leP riP ltP grP ctP gcP ++ (sw_U uU q5 tgU btU)))) rfl rfl hl.1 (Nat.le_of_ble_eq_true rfl) dX9_core_48 ⟨Nat.zero_le _, Nat.zero_le _⟩ rfl (fun H locs hW => ?_)
            refine lv_if_ne (tgt := 57) hx hb dX9_core_51 (by decide) (fun hc => ?_) (fun hc => ?_)
            · have hf := sp_hf hf hc
              exact hj2 _ _ _ hf hW (lv_sub hl [1, 3, 4, 0] rfl)
            · have hf := sp_ht hf hc
              refine lv_bipush (v := (-2)) hx hb dX9_core_54 (by decide) ?_
              cases hf
              exact sp_iret S hr hlk hW hQ dX9_core_56
    · have hf := sp_hf hf hc
      refine lv_bipush (v := (-3)) hx hb dX9_core_28 (by decide) ?_
      cases hf
      exact sp_iret S hr hlk hW hQ dX9_core_30
  · have hf := sp_ht hf hc
    refine lv_iconst (v := (-1)) hx hb dX9_core_8 (by decide) ?_
    cases hf
    exact sp_iret S hr hlk hW hQ dX9_core_9

def f_X9_isTableAsked (p1 : Int32) (p2 : Int32) (p3 : Int32) (pn : Int32) (gcP : Int32) : Option (Int32) := Option.bind (f_X9_isProof p1 pn) (fun r1 => if r1 = 0 then (some (0 : Int32)) else (if p3 = 0 then (sp_ck 12 p1 (if (10 : Int32) < gcP then (some (0 : Int32)) else (sp_ck 12 p1 (Option.bind (f_X9_isGroundSet p2 gcP) (fun r2 => if r2 = 0 then (some (0 : Int32)) else (some (1 : Int32))))))) else (if p3 = (1 : Int32) then (sp_ck 12 p1 (if (10 : Int32) < gcP then (some (0 : Int32)) else (sp_ck 12 p1 (Option.bind (f_X9_isGroundSet p2 gcP) (fun r3 => if r3 = 0 then (some (0 : Int32)) else (some (1 : Int32))))))) else (some (0 : Int32)))))
def rmX9_isTableAsked : Room := { frames := 1, cells := 0, slots := 0, locals := 21 }
set_option maxRecDepth 4000 in
theorem c_X9_isTableAsked {l : Launch} {D : va_G} {q5 : Nat → ClassId} (a : Nat → Nat) (pA : Nat) (uP : Nat → Nat) (n_sh : Nat) (n_rd : Nat) (n_sz : Nat) (n_or : Nat) (n_st : Nat) (n_tb : Nat) (pn : Int32) (od : Int32) (fa : Int32) (tr : Int32) (pa : Nat → Option Nat) (clP : Nat → Int32) (leP : Nat → Int32) (riP : Nat → Int32) (ltP : Nat → Int32) (grP : Nat → Int32) (ctP : Int32) (gcP : Int32) (p1 : Int32) (p2 : Int32) (p3 : Int32) (hR_P : vp_in p1 12 → pa p1.toNatClampNeg = some (uP 0)) {r' : Int32} (hf : f_X9_isTableAsked p1 p2 p3 pn gcP = some r') : sp_Ci l yX9_isTableAsked wsX9_isTableAsked rmX9_isTableAsked D q5 0 [.ref (a 0), .int p1, .int p2, .int p3] (sw_X a pA n_sh n_rd n_sz n_or n_st n_tb q5 pn od fa tr ++ (sw_XP pA q5 pa ++ (sw_P uP q5 clP leP riP ltP grP ctP gcP))) r' (sw_X a pA n_sh n_rd n_sz n_or n_st n_tb q5 pn od fa tr ++ (sw_XP pA q5 pa ++ (sw_P uP q5 clP leP riP ltP grP ctP gcP))) := by
  intro sz
  refine sp_of (cc := cX9_isTableAsked) (maxL := 4) (ret := some .boolean) (own := RX9) (Qc := sp_Qi D r' (sw_X a pA n_sh n_rd n_sz n_or n_st n_tb q5 pn od fa tr ++ (sw_XP pA q5 pa ++ (sw_P uP q5 clP leP riP ltP grP ctP gcP)))) (by decide) rfl rfl (Nat.le_of_ble_eq_true rfl) ?_
  intro p e s m args below meth c A ls Q hQ S hr hlk hK hG hA hW hl
  have hx := S.1
  have hb := S.2.1
  unfold f_X9_isTableAsked at hf
  have inX2 : ∀ w ∈ u_ws RX2 TX2 7, w ∈ wsX9_isTableAsked := (fun _ h => List.mem_cons_of_mem _ (List.mem_append_right _ h))
  have inX9 : ∀ w ∈ u_ws RX9 TX9 11, w ∈ wsX9_isTableAsked := (fun _ h => List.mem_cons_of_mem _ (List.mem_append_left _ (List.mem_append_right _ h)))
  have lk1 := S.2.2.2.2 (Cond.fieldLink RX9 13 "ShortProofs" "proofs" "[LShortProofs$Proof;") (List.mem_of_getElem? (i := 1) rfl)
  have lk2 := S.2.2.2.2 (Cond.fieldLink RX9 141 "ShortProofs$Proof" "groundCount" "I") (List.mem_of_getElem? (i := 2) rfl)
  refine lv_aload_n hx hb dX9_isTableAsked_0 rfl (lv_at hl 0 rfl) ?_
  refine lv_iload_n hx hb dX9_isTableAsked_1 rfl (lv_at hl 1 rfl) ?_
  obtain ⟨r1, hc1, hf⟩ := sp_hc hf
  refine sp_callVi (rest := []) S hK hG hA hW (c_X9_isProof a pA n_sh n_rd n_sz n_or n_st n_tb pn od fa tr p1 hc1) (by decide) (cwV 1 S.2.2.2.2 gX9_isTableAsked_X9_isProof rfl rfl rfl (by decide +kernel) (by decide)) 7 0 rfl rfl (isC := [0]) rfl rfl rfl (WS' := sw_X a pA n_sh n_rd n_sz n_or n_st n_tb q5 pn od fa tr ++ (sw_XP pA q5 pa ++ (sw_P uP q5 clP leP riP ltP grP ctP gcP))) rfl rfl hl.1 (Nat.le_of_ble_eq_true rfl) dX9_isTableAsked_2 ⟨Nat.zero_le _, Nat.zero_le _⟩ rfl (fun H locs hW => ?_)
  refine lv_if_eq (tgt := 48) hx hb dX9_isTableAsked_5 (by decide) (fun hc => ?_) (fun hc => ?_)
  · have hf := sp_ht hf hc
    refine lv_iconst (v := 0) hx hb dX9_isTableAsked_48 (by decide) ?_
    cases hf
    exact sp_zret S hr hlk hW rfl hQ dX9_isTableAsked_49
  · have hf := sp_hf hf hc
    refine lv_iload_n hx hb dX9_isTableAsked_8 rfl (lv_at hl 3 rfl) ?_
    refine lv_if_eq (tgt := 17) hx hb dX9_isTableAsked_9 (by decide) (fun hc => ?_) (fun hc => ?_)
    · have hf := sp_ht hf hc
      refine lv_aload_n hx hb dX9_isTableAsked_17 rfl (lv_at hl 0 rfl) ?_
      refine sp_get S hK hW inX9 0 rfl rfl 0 (by decide) lk1 rfl dX9_isTableAsked_18 ?_
      refine lv_iload_n hx hb dX9_isTableAsked_21 rfl (lv_at hl 1 rfl) ?_
      obtain ⟨hin, hf⟩ := sp_hck2 hf
      refine sp_aldq S hK hW 1 3 rfl rfl hin (hR_P hin) dX9_isTableAsked_22 ?_
      refine sp_get S hK hW inX2 2 rfl rfl 6 (by decide) lk2 rfl dX9_isTableAsked_23 ?_
      refine lv_bipush (v := 10) hx hb dX9_isTableAsked_26 (by decide) ?_
      refine lv_icmp_gt (tgt := 48) hx hb dX9_isTableAsked_28 (by decide) (fun hc => ?_) (fun hc => ?_)
      · have hf := sp_ht hf hc
        refine lv_iconst (v := 0) hx hb dX9_isTableAsked_48 (by decide) ?_
        cases hf
        exact sp_zret S hr hlk hW rfl hQ dX9_isTableAsked_49
      · have hf := sp_hf hf hc
        refine lv_aload_n hx hb dX9_isTableAsked_31 rfl (lv_at hl 0 rfl) ?_
        refine sp_get S hK hW inX9 0 rfl rfl 0 (by decide) lk1 rfl dX9_isTableAsked_32 ?_
        refine lv_iload_n hx hb dX9_isTableAsked_35 rfl (lv_at hl 1 rfl) ?_
        obtain ⟨hin, hf⟩ := sp_hck2 hf
        refine sp_aldq S hK hW 1 3 rfl rfl hin (hR_P hin) dX9_isTableAsked_36 ?_
        refine lv_iload_n hx hb dX9_isTableAsked_37 rfl (lv_at hl 2 rfl) ?_
        obtain ⟨r2, hc2, hf⟩ := sp_hc hf
        refine sp_callSi (rest := []) S hK hG hA hW (c_X9_isGroundSet uP clP leP riP ltP grP ctP gcP p2 hc2) (by decide) (va_cwS 2 S.2.2.2.2 gX9_isTableAsked_X9_isGroundSet rfl rfl rfl (by decide +kernel) (by decide)) (isC := [2, 3, 4, 5, 6, 7]) rfl rfl rfl (WS' := sw_X a pA n_sh n_rd n_sz n_or n_st n_tb q5 pn od fa tr ++ (sw_XP pA q5 pa ++ (sw_P uP q5 clP leP riP ltP grP ctP gcP))) rfl rfl hl.1 (Nat.le_of_ble_eq_true rfl) dX9_isTableAsked_38 ⟨Nat.zero_le _, Nat.zero_le _⟩ rfl (fun H locs hW => ?_)
        refine lv_if_eq (tgt := 48) hx hb dX9_isTableAsked_41 (by decide) (fun hc => ?_) (fun hc => ?_)
        · have hf := sp_ht hf hc
          refine lv_iconst (v := 0) hx hb dX9_isTableAsked_48 (by decide) ?_
          cases hf
          exact sp_zret S hr hlk hW rfl hQ dX9_isTableAsked_49
        · have hf := sp_hf hf hc
          refine lv_iconst (v := 1) hx hb dX9_isTableAsked_44 (by decide) ?_
          refine lv_goto (tgt := 49) hx hb dX9_isTableAsked_45 (by decide) ?_
          cases hf
          exact sp_zret S hr hlk hW rfl hQ dX9_isTableAsked_49
    · have hf := sp_hf hf hc
      refine lv_iload_n hx hb dX9_isTableAsked_12 rfl (lv_at hl 3 rfl) ?_
      refine lv_iconst (v := 1) hx hb dX9_isTableAsked_13 (by decide) ?_
      refine lv_icmp_ne (tgt := 48) hx hb dX9_isTableAsked_14 (by decide) (fun hc => ?_) (fun hc => ?_)
      · have hf := sp_hf hf hc
        refine lv_iconst (v := 0) hx hb dX9_isTableAsked_48 (by decide) ?_
        cases hf
        exact sp_zret S hr hlk hW rfl hQ dX9_isTableAsked_49
      · have hf := sp_ht hf hc
        refine lv_aload_n hx hb dX9_isTableAsked_17 rfl (lv_at hl 0 rfl) ?_
        refine sp_get S hK hW inX9 0 rfl rfl 0 (by decide) lk1 rfl dX9_isTableAsked_18 ?_
        refine lv_iload_n hx hb dX9_isTableAsked_21 rfl (lv_at hl 1 rfl) ?_
        obtain ⟨hin, hf⟩ := sp_hck2 hf
        refine sp_aldq S hK hW 1 3 rfl rfl hin (hR_P hin) dX9_isTableAsked_22 ?_
        refine sp_get S hK hW inX2 2 rfl rfl 6 (by decide) lk2 rfl dX9_isTableAsked_23 ?_
        refine lv_bipush (v := 10) hx hb dX9_isTableAsked_26 (by decide) ?_
        refine lv_icmp_gt (tgt := 48) hx hb dX9_isTableAsked_28 (by decide) (fun hc => ?_) (fun hc => ?_)
        · have hf := sp_ht hf hc
          refine lv_iconst (v := 0) hx hb dX9_isTableAsked_48 (by decide) ?_
          cases hf
          exact sp_zret S hr hlk hW rfl hQ dX9_isTableAsked_49
        · have hf := sp_hf hf hc
          refine lv_aload_n hx hb dX9_isTableAsked_31 rfl (lv_at hl 0 rfl) ?_
          refine sp_get S hK hW inX9 0 rfl rfl 0 (by decide) lk1 rfl dX9_isTableAsked_32 ?_
          refine lv_iload_n hx hb dX9_isTableAsked_35 rfl (lv_at hl 1 rfl) ?_
          obtain ⟨hin, hf⟩ := sp_hck2 hf
          refine sp_aldq S hK hW 1 3 rfl rfl hin (hR_P hin) dX9_isTableAsked_36 ?_
          refine lv_iload_n hx hb dX9_isTableAsked_37 rfl (lv_at hl 2 rfl) ?_
          obtain ⟨r3, hc3, hf⟩ := sp_hc hf
          refine sp_callSi (rest := []) S hK hG hA hW (c_X9_isGroundSet uP clP leP riP ltP grP ctP gcP p2 hc3) (by decide) (va_cwS 2 S.2.2.2.2 gX9_isTableAsked_X9_isGroundSet rfl rfl rfl (by decide +kernel) (by decide)) (isC := [2, 3, 4, 5, 6, 7]) rfl rfl rfl (WS' := sw_X a pA n_sh n_rd n_sz n_or n_st n_tb q5 pn od fa tr ++ (sw_XP pA q5 pa ++ (sw_P uP q5 clP leP riP ltP grP ctP gcP))) rfl rfl hl.1 (Nat.le_of_ble_eq_true rfl) dX9_isTableAsked_38 ⟨Nat.zero_le _, Nat.zero_le _⟩ rfl (fun H locs hW => ?_)
          refine lv_if_eq (tgt := 48) hx hb dX9_isTableAsked_41 (by decide) (fun hc => ?_) (fun hc => ?_)
          · have hf := sp_ht hf hc
            refine lv_iconst (v := 0) hx hb dX9_isTableAsked_48 (by decide) ?_
            cases hf
            exact sp_zret S hr hlk hW rfl hQ dX9_isTableAsked_49
          · have hf := sp_hf hf hc
            refine lv_iconst (v := 1) hx hb dX9_isTableAsked_44 (by decide) ?_
            refine lv_goto (tgt := 49) hx hb dX9_isTableAsked_45 (by decide) ?_
            cases hf
            exact sp_zret S hr hlk hW rfl hQ dX9_isTableAsked_49

def f_X9_middle (p1 : Int32) (p2 : Int32) (p3 : Int32) (pn : Int32) (clP : Nat → Int32) (leP : Nat → Int32) (riP : Nat → Int32) (ltP : Nat → Int32) (grP : Nat → Int32) (ctP : Int32) (gcP : Int32) (btU : Nat → Int64) : Option (Int64 × (Nat → Int64)) := Option.bind (f_X9_isTableAsked p1 p2 p3 pn gcP) (fun r1 => if r1 = 0 then (some ((-9223372036854775808 : Int64), btU)) else (sp_ck 12 p1 (sp_ld clP 48 (ctP - (1 : Int32)) (fun v2 => if v2 = 0 then (Option.bind (f_X8_middleOf p2 btU clP leP riP ltP grP ctP gcP) (fun q9 => match q9 with | (r3, c4) => Option.bind (f_X9_halfOf r3 p3) (fun r5 => some (r5, c4)))) else (some ((-9223372036854775808 : Int64), btU))))))
def rmX9_middle : Room := { frames := 3, cells := 0, slots := 0, locals := 80 }
set_option maxRecDepth 4000 in
theorem c_X9_middle {l : Launch} {D : va_G} {q5 : Nat → ClassId} (a : Nat → Nat) (pA : Nat) (uP : Nat → Nat) (uU : Nat → Nat) (n_sh : Nat) (n_rd : Nat) (n_sz : Nat) (n_or : Nat) (n_st : Nat) (pn : Int32) (od : Int32) (fa : Int32) (tr : Int32) (pa : Nat → Option Nat) (clP : Nat → Int32) (leP : Nat → Int32) (riP : Nat → Int32) (ltP : Nat → Int32) (grP : Nat → Int32) (ctP : Int32) (gcP : Int32) (tgU : Nat → Int64) (btU : Nat → Int64) (p1 : Int32) (p2 : Int32) (p3 : Int32) (hR_P : vp_in p1 12 → pa p1.toNatClampNeg = some (uP 0)) {r' : Int64} {btU' : Nat → Int64} (hf : f_X9_middle p1 p2 p3 pn clP leP riP ltP grP ctP gcP btU = some (r', btU')) : sp_Cl l yX9_middle wsX9_middle rmX9_middle D q5 2 [.ref (a 0), .int p1, .int p2, .int p3] (sw_X a pA n_sh n_rd n_sz n_or n_st (uU 0) q5 pn od fa tr ++ (sw_XP pA q5 pa ++ (sw_P uP q5 clP leP riP ltP grP ctP gcP ++ (sw_U uU q5 tgU btU)))) r' (sw_X a pA n_sh n_rd n_sz n_or n_st (uU 0) q5 pn od fa tr ++ (sw_XP pA q5 pa ++ (sw_P uP q5 clP leP riP ltP grP ctP gcP ++ (sw_U uU q5 tgU btU')))) := by
  intro sz
  refine sp_of (cc := cX9_middle) (maxL := 5) (ret := some .long) (own := RX9) (Qc := sp_Ql D r' (sw_X a pA n_sh n_rd n_sz n_or n_st (uU 0) q5 pn od fa tr ++ (sw_XP pA q5 pa ++ (sw_P uP q5 clP leP riP ltP grP ctP gcP ++ (sw_U uU q5 tgU btU'))))) (by decide) rfl rfl (Nat.le_of_ble_eq_true rfl) ?_
  intro p e s m args below meth c A ls Q hQ S hr hlk hK hG hA hW hl
  have hx := S.1
  have hb := S.2.1
  unfold f_X9_middle at hf
  have inX2 : ∀ w ∈ u_ws RX2 TX2 7, w ∈ wsX9_middle := (fun _ h => List.mem_cons_of_mem _ (List.mem_append_left _ (List.mem_append_right _ h)))
  have inX9 : ∀ w ∈ u_ws RX9 TX9 11, w ∈ wsX9_middle := (fun _ h => List.mem_cons_of_mem _ (List.mem_append_left _ (List.mem_append_left _ (List.mem_append_right _ h))))
  have lk1 := S.2.2.2.2 (Cond.fieldLink RX9 13 "ShortProofs" "proofs" "[LShortProofs$Proof;") (List.mem_of_getElem? (i := 2) rfl)
  have lk2 := S.2.2.2.2 (Cond.fieldLink RX9 107 "ShortProofs$Proof" "clauses" "[I") (List.mem_of_getElem? (i := 3) rfl)
  have lk3 := S.2.2.2.2 (Cond.fieldLink RX9 126 "ShortProofs$Proof" "count" "I") (List.mem_of_getElem? (i := 4) rfl)
  have lk4 := S.2.2.2.2 (Cond.fieldLink RX9 56 "ShortProofs" "tables" "LShortProofs$Truths;") (List.mem_of_getElem? (i := 5) rfl)
  have lk5 := S.2.2.2.2 (Cond.constantLong RX9 212 (-9223372036854775808)) (List.mem_of_getElem? (i := 1) rfl)
  refine lv_aload_n hx hb dX9_middle_0 rfl (lv_at hl 0 rfl) ?_
  refine lv_iload_n hx hb dX9_middle_1 rfl (lv_at hl 1 rfl) ?_
  refine lv_iload_n hx hb dX9_middle_2 rfl (lv_at hl 2 rfl) ?_
  refine lv_iload_n hx hb dX9_middle_3 rfl (lv_at hl 3 rfl) ?_
  obtain ⟨r1, hc1, hf⟩ := sp_hc hf
  refine sp_callVi (rest := []) S hK hG hA hW (c_X9_isTableAsked a pA uP n_sh n_rd n_sz n_or n_st (uU 0) pn od fa tr pa clP leP riP ltP grP ctP gcP p1 p2 p3 hR_P hc1) (by decide) (cwV 3 S.2.2.2.2 gX9_middle_X9_isTableAsked rfl rfl rfl (by decide +kernel) (by decide)) 7 0 rfl rfl (isC := [0, 1, 2, 3, 4, 5, 6, 7]) rfl rfl rfl (WS' := sw_X a pA n_sh n_rd n_sz n_or n_st (uU 0) q5 pn od fa tr ++ (sw_XP pA q5 pa ++ (sw_P uP q5 clP leP riP ltP grP ctP gcP ++ (sw_U uU q5 tgU btU)))) rfl rfl hl.1 (Nat.le_of_ble_eq_true rfl) dX9_middle_4 ⟨Nat.zero_le _, Nat.zero_le _⟩ rfl (fun H locs hW => ?_)
  refine lv_if_ne (tgt := 14) hx hb dX9_middle_7 (by decide) (fun hc => ?_) (fun hc => ?_)
  · have hf := sp_hf hf hc
    refine lv_aload_n hx hb dX9_middle_14 rfl (lv_at hl 0 rfl) ?_
    refine sp_get S hK hW inX9 0 rfl rfl 0 (by decide) lk1 rfl dX9_middle_15 ?_
    refine lv_iload_n hx hb dX9_middle_18 rfl (lv_at hl 1 rfl) ?_
    obtain ⟨hin, hf⟩ := sp_hck2 hf
    refine sp_aldq S hK hW 1 3 rfl rfl hin (hR_P hin) dX9_middle_19 ?_
    refine lv_astore (lv' := [(4, .ref (uP 0)), (0, .ref (a 0)), (1, .int p1), (2, .int p2), (3, .int p3)]) hx hb dX9_middle_20 hl (by decide) rfl (fun ls hl => ?_)
    refine lv_aload hx hb dX9_middle_22 (lv_at hl 0 rfl) ?_
    refine sp_get S hK hW inX2 2 rfl rfl 0 (by decide) lk2 rfl dX9_middle_24 ?_
    refine lv_aload hx hb dX9_middle_27 (lv_at hl 0 rfl) ?_
    refine sp_get S hK hW inX2 2 rfl rfl 5 (by decide) lk3 rfl dX9_middle_29 ?_
    refine lv_iconst (v := 1) hx hb dX9_middle_32 (by decide) ?_
    refine lv_isub hx hb dX9_middle_33 ?_
    obtain ⟨hin, v2, ev2, hf⟩ := sp_hld hf
    refine sp_iald S hK hW 3 rfl hin ev2 dX9_middle_34 ?_
    refine lv_if_eq (tgt := 42) hx hb dX9_middle_35 (by decide) (fun hc => ?_) (fun hc => ?_)
    · have hf := sp_ht hf hc
      refine lv_aload_n hx hb dX9_middle_42 rfl (lv_at hl 1 rfl) ?_
      refine sp_get S hK hW inX9 0 rfl rfl 6 (by decide) lk4 rfl dX9_middle_43 ?_
      refine lv_aload hx hb dX9_middle_46 (lv_at hl 0 rfl) ?_
      refine lv_iload_n hx hb dX9_middle_48 rfl (lv_at hl 3 rfl) ?_
      obtain ⟨⟨r3, c4⟩, hc4, hf⟩ := sp_hc hf
      refine sp_callVl (rest := []) S hK hG hA hW (c_X8_middleOf uU uP tgU btU clP leP riP ltP grP ctP gcP p2 hc4) (by decide) (cwV 2 S.2.2.2.2 gX9_middle_X8_middleOf rfl rfl rfl (by decide +kernel) (by decide)) 6 8 rfl rfl (isC := [8, 9, 10, 2, 3, 4, 5, 6, 7]) rfl rfl rfl (WS' := sw_X a pA n_sh n_rd n_sz n_or n_st (uU 0) q5 pn od fa tr ++ (sw_XP pA q5 pa ++ (sw_P uP q5 clP leP riP ltP grP ctP gcP ++ (sw_U uU q5 tgU c4)))) rfl rfl hl.1 (Nat.le_of_ble_eq_true rfl) dX9_middle_49 ⟨Nat.zero_le _, Nat.zero_le _⟩ rfl (fun H locs hW => ?_)
      refine lv_iload_n hx hb dX9_middle_52 rfl (lv_at hl 4 rfl) ?_
      obtain ⟨r5, hc5, hf⟩ := sp_hc hf
      refine sp_callSl (rest := []) S hK hG hA hW (c_X9_halfOf r3 p3 hc5) (by decide) (va_cwS 2 S.2.2.2.2 gX9_middle_X9_halfOf rfl rfl rfl (by decide +kernel) (by decide)) (isC := []) rfl rfl rfl (WS' := sw_X a pA n_sh n_rd n_sz n_or n_st (uU 0) q5 pn od fa tr ++ (sw_XP pA q5 pa ++ (sw_P uP q5 clP leP riP ltP grP ctP gcP ++ (sw_U uU q5 tgU c4)))) rfl rfl hl.1 (Nat.le_of_ble_eq_true rfl) dX9_middle_53 ⟨Nat.zero_le _, Nat.zero_le _⟩ rfl (fun H locs hW => ?_)
      cases hf
      exact sp_lret S hr hlk hW hQ dX9_middle_56
    · have hf := sp_hf hf hc
      refine lv_ldc2 hx hb S.2.2.2.1 lk5 dX9_middle_38 ?_
      cases hf
      exact sp_lret S hr hlk hW hQ dX9_middle_41
  · have hf := sp_ht hf hc
    refine lv_ldc2 hx hb S.2.2.2.1 lk5 dX9_middle_10 ?_
    cases hf
    exact sp_lret S hr hlk hW hQ dX9_middle_13

def f_X9_truths (p1 : Int32) (p2 : Int32) (p3 : Int32) (pn : Int32) (clP : Nat → Int32) (grP : Nat → Int32) (gcP : Int32) : Option (Int64) := Option.bind (f_X9_isTableAsked p1 p2 p3 pn gcP) (fun r1 => if r1 = 0 then (some (-9223372036854775808 : Int64)) else (sp_ck 12 p1 (Option.bind (f_X8_allOf p2 clP grP gcP) (fun r2 => Option.bind (f_X9_halfOf r2 p3) (fun r3 => some r3)))))
def rmX9_truths : Room := { frames := 3, cells := 0, slots := 0, locals := 68 }
set_option maxRecDepth 4000 in
theorem c_X9_truths {l : Launch} {D : va_G} {q5 : Nat → ClassId} (a : Nat → Nat) (pA : Nat) (uP : Nat → Nat) (n_sh : Nat) (n_rd : Nat) (n_sz : Nat) (n_or : Nat) (n_st : Nat) (n_tb : Nat) (pn : Int32) (od : Int32) (fa : Int32) (tr : Int32) (pa : Nat → Option Nat) (clP : Nat → Int32) (leP : Nat → Int32) (riP : Nat → Int32) (ltP : Nat → Int32) (grP : Nat → Int32) (ctP : Int32) (gcP : Int32) (p1 : Int32) (p2 : Int32) (p3 : Int32) (hR_P : vp_in p1 12 → pa p1.toNatClampNeg = some (uP 0)) {r' : Int64} (hf : f_X9_truths p1 p2 p3 pn clP grP gcP = some r') : sp_Cl l yX9_truths wsX9_truths rmX9_truths D q5 2 [.ref (a 0), .int p1, .int p2, .int p3] (sw_X a pA n_sh n_rd n_sz n_or n_st n_tb q5 pn od fa tr ++ (sw_XP pA q5 pa ++ (sw_P uP q5 clP leP riP ltP grP ctP gcP))) r' (sw_X a pA n_sh n_rd n_sz n_or n_st n_tb q5 pn od fa tr ++ (sw_XP pA q5 pa ++ (sw_P uP q5 clP leP riP ltP grP ctP gcP))) := by
  intro sz
  refine sp_of (cc := cX9_truths) (maxL := 4) (ret := some .long) (own := RX9) (Qc := sp_Ql D r' (sw_X a pA n_sh n_rd n_sz n_or n_st n_tb q5 pn od fa tr ++ (sw_XP pA q5 pa ++ (sw_P uP q5 clP leP riP ltP grP ctP gcP)))) (by decide) rfl rfl (Nat.le_of_ble_eq_true rfl) ?_
  intro p e s m args below meth c A ls Q hQ S hr hlk hK hG hA hW hl
  have hx := S.1
  have hb := S.2.1
  unfold f_X9_truths at hf
  have inX9 : ∀ w ∈ u_ws RX9 TX9 11, w ∈ wsX9_truths := (fun _ h => List.mem_cons_of_mem _ (List.mem_append_left _ (List.mem_append_right _ h)))
  have lk1 := S.2.2.2.2 (Cond.fieldLink RX9 13 "ShortProofs" "proofs" "[LShortProofs$Proof;") (List.mem_of_getElem? (i := 2) rfl)
  have lk2 := S.2.2.2.2 (Cond.constantLong RX9 212 (-9223372036854775808)) (List.mem_of_getElem? (i := 1) rfl)
  refine lv_aload_n hx hb dX9_truths_0 rfl (lv_at hl 0 rfl) ?_
  refine lv_iload_n hx hb dX9_truths_1 rfl (lv_at hl 1 rfl) ?_
  refine lv_iload_n hx hb dX9_truths_2 rfl (lv_at hl 2 rfl) ?_
  refine lv_iload_n hx hb dX9_truths_3 rfl (lv_at hl 3 rfl) ?_
  obtain ⟨r1, hc1, hf⟩ := sp_hc hf
  refine sp_callVi (rest := []) S hK hG hA hW (c_X9_isTableAsked a pA uP n_sh n_rd n_sz n_or n_st n_tb pn od fa tr pa clP leP riP ltP grP ctP gcP p1 p2 p3 hR_P hc1) (by decide) (cwV 3 S.2.2.2.2 gX9_truths_X9_isTableAsked rfl rfl rfl (by decide +kernel) (by decide)) 7 0 rfl rfl (isC := [0, 1, 2, 3, 4, 5, 6, 7]) rfl rfl rfl (WS' := sw_X a pA n_sh n_rd n_sz n_or n_st n_tb q5 pn od fa tr ++ (sw_XP pA q5 pa ++ (sw_P uP q5 clP leP riP ltP grP ctP gcP))) rfl rfl hl.1 (Nat.le_of_ble_eq_true rfl) dX9_truths_4 ⟨Nat.zero_le _, Nat.zero_le _⟩ rfl (fun H locs hW => ?_)
  refine lv_if_ne (tgt := 14) hx hb dX9_truths_7 (by decide) (fun hc => ?_) (fun hc => ?_)
  · have hf := sp_hf hf hc
    refine lv_aload_n hx hb dX9_truths_14 rfl (lv_at hl 0 rfl) ?_
    refine sp_get S hK hW inX9 0 rfl rfl 0 (by decide) lk1 rfl dX9_truths_15 ?_
    refine lv_iload_n hx hb dX9_truths_18 rfl (lv_at hl 1 rfl) ?_
    obtain ⟨hin, hf⟩ := sp_hck2 hf
    refine sp_aldq S hK hW 1 3 rfl rfl hin (hR_P hin) dX9_truths_19 ?_
    refine lv_iload_n hx hb dX9_truths_20 rfl (lv_at hl 2 rfl) ?_
    obtain ⟨r2, hc2, hf⟩ := sp_hc hf
    refine sp_callSl (rest := []) S hK hG hA hW (c_X8_allOf uP clP leP riP ltP grP ctP gcP p2 hc2) (by decide) (va_cwS 2 S.2.2.2.2 gX9_truths_X8_allOf rfl rfl rfl (by decide +kernel) (by decide)) (isC := [2, 3, 4, 5, 6, 7]) rfl rfl rfl (WS' := sw_X a pA n_sh n_rd n_sz n_or n_st n_tb q5 pn od fa tr ++ (sw_XP pA q5 pa ++ (sw_P uP q5 clP leP riP ltP grP ctP gcP))) rfl rfl hl.1 (Nat.le_of_ble_eq_true rfl) dX9_truths_21 ⟨Nat.zero_le _, Nat.zero_le _⟩ rfl (fun H locs hW => ?_)
    refine lv_iload_n hx hb dX9_truths_24 rfl (lv_at hl 3 rfl) ?_
    obtain ⟨r3, hc3, hf⟩ := sp_hc hf
    refine sp_callSl (rest := []) S hK hG hA hW (c_X9_halfOf r2 p3 hc3) (by decide) (va_cwS 2 S.2.2.2.2 gX9_truths_X9_halfOf rfl rfl rfl (by decide +kernel) (by decide)) (isC := []) rfl rfl rfl (WS' := sw_X a pA n_sh n_rd n_sz n_or n_st n_tb q5 pn od fa tr ++ (sw_XP pA q5 pa ++ (sw_P uP q5 clP leP riP ltP grP ctP gcP))) rfl rfl hl.1 (Nat.le_of_ble_eq_true rfl) dX9_truths_25 ⟨Nat.zero_le _, Nat.zero_le _⟩ rfl (fun H locs hW => ?_)
    cases hf
    exact sp_lret S hr hlk hW hQ dX9_truths_28
  · have hf := sp_ht hf hc
    refine lv_ldc2 hx hb S.2.2.2.1 lk2 dX9_truths_10 ?_
    cases hf
    exact sp_lret S hr hlk hW hQ dX9_truths_13
