def f_X10_middle_L158 (mn : Nat → Int32) (p1 : Int32) (k19 : (Nat → Int64) → Option (Int64 × (Nat → Int64) × (Nat → Int32) × (Nat → Int64))) (lt : Nat → Int32) (p2 : Int32) (le : Nat → Int32) (ri : Nat → Int32) (x13 : Int32) (x12 : Int32) (rec158 : (Int32 × Int32 × (Nat → Int64)) → Option (Int64 × (Nat → Int64) × (Nat → Int32) × (Nat → Int64))) (s9 : Int32 × Int32 × (Nat → Int64)) : Option (Int64 × (Nat → Int64) × (Nat → Int32) × (Nat → Int64)) := match s9 with
  | (y15, y16, c17) => sp_ld mn 12 p1 (fun v23 => if v23 ≤ y16 then (k19 c17) else (sp_bnd (((24 : Int32) * p1) + y16) (fun v24 => sp_ld lt 288 v24 (fun v25 => sp_bnd (fun (x26 : Int32) (c27 : Nat → Int64) => sp_bnd (y16 + (1 : Int32)) (fun v29 => rec158 (x26, v29, c27))) (fun k28 => if v25 = (-9 : Int32) then (sp_bnd (fun (x45 : Int64) => sp_stL c17 24 y16 x45 (fun c47 => sp_bnd (y15 + (1 : Int32)) (fun v48 => k28 v48 c47))) (fun k46 => if ((p2 >>> (y15 &&& 31)) &&& (1 : Int32)) = (1 : Int32) then (k46 (0 : Int64)) else (k46 (-1 : Int64)))) else (sp_ld le 288 v24 (fun v30 => sp_ld c17 24 v30 (fun v31 => sp_ld ri 288 v24 (fun v32 => sp_ld c17 24 v32 (fun v33 => sp_ld lt 288 v24 (fun v34 => sp_bnd (fun (x35 : Int32) => sp_ld lt 288 v24 (fun v37 => sp_bnd (fun (x38 : Int32) => sp_ld lt 288 v24 (fun v40 => Option.bind (f_X10_truthsOf ((1 : Int32) <<< (v40 &&& 31))) (fun r41 => sp_bnd (fun (x42 : Int64) => sp_stL c17 24 y16 x42 (fun c44 => k28 y15 c44)) (fun k43 => if x35 = 0 then (if x35 = 0 then (k43 (v31 &&& v33)) else (k43 (v31 ||| v33))) else (if x38 = 0 then (if x35 = 0 then (k43 (v31 &&& v33)) else (k43 (v31 ||| v33))) else (k43 ((v31 &&& (r41 ^^^ (-1 : Int64))) ||| (v33 &&& r41)))))))) (fun k39 => if ((x13 >>> (v37 &&& 31)) &&& (1 : Int32)) = (1 : Int32) then (k39 (1 : Int32)) else (k39 (0 : Int32))))) (fun k36 => if ((x12 >>> (v34 &&& 31)) &&& (1 : Int32)) = (1 : Int32) then (k36 (1 : Int32)) else (k36 (0 : Int32))))))))))))))
theorem f_X10_middle_L158_eq {rec158 : (Int32 × Int32 × (Nat → Int64)) → Option (Int64 × (Nat → Int64) × (Nat → Int32) × (Nat → Int64))} {mn : Nat → Int32} {p1 : Int32} {k19 : (Nat → Int64) → Option (Int64 × (Nat → Int64) × (Nat → Int32) × (Nat → Int64))} {lt : Nat → Int32} {p2 : Int32} {le : Nat → Int32} {ri : Nat → Int32} {x13 : Int32} {x12 : Int32} {y15 : Int32} {y16 : Int32} {c17 : Nat → Int64} : f_X10_middle_L158 mn p1 k19 lt p2 le ri x13 x12 rec158 (y15, y16, c17) = (sp_ld mn 12 p1 (fun v23 => if v23 ≤ y16 then (k19 c17) else (sp_bnd (((24 : Int32) * p1) + y16) (fun v24 => sp_ld lt 288 v24 (fun v25 => sp_bnd (fun (x26 : Int32) (c27 : Nat → Int64) => sp_bnd (y16 + (1 : Int32)) (fun v29 => rec158 (x26, v29, c27))) (fun k28 => if v25 = (-9 : Int32) then (sp_bnd (fun (x45 : Int64) => sp_stL c17 24 y16 x45 (fun c47 => sp_bnd (y15 + (1 : Int32)) (fun v48 => k28 v48 c47))) (fun k46 => if ((p2 >>> (y15 &&& 31)) &&& (1 : Int32)) = (1 : Int32) then (k46 (0 : Int64)) else (k46 (-1 : Int64)))) else (sp_ld le 288 v24 (fun v30 => sp_ld c17 24 v30 (fun v31 => sp_ld ri 288 v24 (fun v32 => sp_ld c17 24 v32 (fun v33 => sp_ld lt 288 v24 (fun v34 => sp_bnd (fun (x35 : Int32) => sp_ld lt 288 v24 (fun v37 => sp_bnd (fun (x38 : Int32) => sp_ld lt 288 v24 (fun v40 => Option.bind (f_X10_truthsOf ((1 : Int32) <<< (v40 &&& 31))) (fun r41 => sp_bnd (fun (x42 : Int64) => sp_stL c17 24 y16 x42 (fun c44 => k28 y15 c44)) (fun k43 => if x35 = 0 then (if x35 = 0 then (k43 (v31 &&& v33)) else (k43 (v31 ||| v33))) else (if x38 = 0 then (if x35 = 0 then (k43 (v31 &&& v33)) else (k43 (v31 ||| v33))) else (k43 ((v31 &&& (r41 ^^^ (-1 : Int64))) ||| (v33 &&& r41)))))))) (fun k39 => if ((x13 >>> (v37 &&& 31)) &&& (1 : Int32)) = (1 : Int32) then (k39 (1 : Int32)) else (k39 (0 : Int32))))) (fun k36 => if ((x12 >>> (v34 &&& 31)) &&& (1 : Int32)) = (1 : Int32) then (k36 (1 : Int32)) else (k36 (0 : Int32))))))))))))))) := rfl
def f_X10_middle_L88 (r5 : Int32) (k14 : Int32 → Int32 → Option (Int64 × (Nat → Int64) × (Nat → Int32) × (Nat → Int64))) (p2 : Int32) (c8 : Nat → Int32) (rec88 : (Int32 × Int32 × Int32) → Option (Int64 × (Nat → Int64) × (Nat → Int32) × (Nat → Int64))) (s9 : Int32 × Int32 × Int32) : Option (Int64 × (Nat → Int64) × (Nat → Int32) × (Nat → Int64)) := match s9 with
  | (y9, y10, y11) => if r5 ≤ y11 then (k14 y9 y10) else (sp_bnd (fun (x49 : Int32) => sp_bnd (y9 ||| x49) (fun v51 => sp_bnd (fun (x52 : Int32) => sp_bnd (y10 ||| x52) (fun v54 => sp_bnd (y11 + (1 : Int32)) (fun v55 => rec88 (v51, v54, v55)))) (fun k53 => if ((p2 >>> (y11 &&& 31)) &&& (1 : Int32)) = 0 then (sp_ld c8 24 y11 (fun v56 => k53 v56)) else (k53 (0 : Int32))))) (fun k50 => if ((p2 >>> (y11 &&& 31)) &&& (1 : Int32)) = (1 : Int32) then (sp_ld c8 24 y11 (fun v57 => k50 v57)) else (k50 (0 : Int32))))
theorem f_X10_middle_L88_eq {rec88 : (Int32 × Int32 × Int32) → Option (Int64 × (Nat → Int64) × (Nat → Int32) × (Nat → Int64))} {r5 : Int32} {k14 : Int32 → Int32 → Option (Int64 × (Nat → Int64) × (Nat → Int32) × (Nat → Int64))} {p2 : Int32} {c8 : Nat → Int32} {y9 : Int32} {y10 : Int32} {y11 : Int32} : f_X10_middle_L88 r5 k14 p2 c8 rec88 (y9, y10, y11) = (if r5 ≤ y11 then (k14 y9 y10) else (sp_bnd (fun (x49 : Int32) => sp_bnd (y9 ||| x49) (fun v51 => sp_bnd (fun (x52 : Int32) => sp_bnd (y10 ||| x52) (fun v54 => sp_bnd (y11 + (1 : Int32)) (fun v55 => rec88 (v51, v54, v55)))) (fun k53 => if ((p2 >>> (y11 &&& 31)) &&& (1 : Int32)) = 0 then (sp_ld c8 24 y11 (fun v56 => k53 v56)) else (k53 (0 : Int32))))) (fun k50 => if ((p2 >>> (y11 &&& 31)) &&& (1 : Int32)) = (1 : Int32) then (sp_ld c8 24 y11 (fun v57 => k50 v57)) else (k50 (0 : Int32))))) := rfl
def f_X10_middle (p1 : Int32) (p2 : Int32) (p3 : Int32) (pn : Int32) (mn : Nat → Int32) (cl : Nat → Int32) (le : Nat → Int32) (ri : Nat → Int32) (lt : Nat → Int32) (gt : Nat → Int64) (gl : Nat → Int32) (tb : Nat → Int64) : Option (Int64 × (Nat → Int64) × (Nat → Int32) × (Nat → Int64)) := Option.bind (f_X10_isProof p1 pn) (fun r1 => if r1 = 0 then (some ((-9223372036854775808 : Int64), gt, gl, tb)) else (Option.bind (f_X10_within p3 (0 : Int32) (1 : Int32)) (fun r2 => if r2 = 0 then (some ((-9223372036854775808 : Int64), gt, gl, tb)) else (sp_ld mn 12 p1 (fun v3 => sp_ld cl 288 ((((24 : Int32) * p1) + v3) - (1 : Int32)) (fun v4 => if v4 = 0 then (Option.bind (f_X10_groundsOf p1 mn lt) (fun r5 => if (10 : Int32) < r5 then (some ((-9223372036854775808 : Int64), gt, gl, tb)) else (Option.bind (f_X10_within p2 (0 : Int32) (((1 : Int32) <<< (r5 &&& 31)) - (1 : Int32))) (fun r6 => if r6 = 0 then (some ((-9223372036854775808 : Int64), gt, gl, tb)) else (Option.bind (f_X10_layGrounds p1 mn cl lt gt gl) (fun q9 => match q9 with | (c7, c8) => sp_bnd (fun (x12 : Int32) (x13 : Int32) => sp_bnd (fun (c18 : Nat → Int64) => sp_ld mn 12 p1 (fun v20 => sp_ld c18 24 (v20 - (1 : Int32)) (fun v21 => Option.bind (f_X10_halfOf v21 p3) (fun r22 => some (r22, c7, c8, c18))))) (fun k19 => sp_lp (f_X10_middle_L158 mn p1 k19 lt p2 le ri x13 x12) sp_F ((0 : Int32), (0 : Int32), tb))) (fun k14 => sp_lp (f_X10_middle_L88 r5 k14 p2 c8) sp_F ((0 : Int32), (0 : Int32), (0 : Int32))))))))) else (some ((-9223372036854775808 : Int64), gt, gl, tb))))))))
def rmX10_middle : Room := { frames := 3, cells := 0, slots := 0, locals := 68 }
set_option maxRecDepth 4000 in
theorem c_X10_middle {l : Launch} {D : va_G} {q5 : Nat → ClassId} (a : Nat → Nat) (fa : Int32) (tr : Int32) (la : Nat → Int32) (sl : Nat → Int32) (ce : Nat → Int32) (pn : Int32) (mn : Nat → Int32) (cl : Nat → Int32) (le : Nat → Int32) (ri : Nat → Int32) (lt : Nat → Int32) (nm : Int32) (nc : Nat → Int32) (nl : Nat → Int32) (nr : Nat → Int32) (nt : Nat → Int32) (at9 : Int32) (en9 : Int32) (de : Nat → Int32) (mm : Int32) (ma : Nat → Int32) (ne : Nat → Int32) (us : Nat → Int32) (lk : Nat → Int32) (sd : Nat → Int32) (sf : Nat → Int32) (nu : Nat → Int32) (gt : Nat → Int64) (gl : Nat → Int32) (tb : Nat → Int64) (sc : Nat → Int32) (su : Nat → Int32) (p1 : Int32) (p2 : Int32) (p3 : Int32) {r' : Int64} {gt' : Nat → Int64} {gl' : Nat → Int32} {tb' : Nat → Int64} (hf : f_X10_middle p1 p2 p3 pn mn cl le ri lt gt gl tb = some (r', gt', gl', tb')) : sp_Cl l yX10_middle wsX10_middle rmX10_middle D q5 0 [.ref (a 0), .int p1, .int p2, .int p3] (sw_M a q5 fa tr la sl ce pn mn cl le ri lt nm nc nl nr nt at9 en9 de mm ma ne us lk sd sf nu gt gl tb sc su) r' (sw_M a q5 fa tr la sl ce pn mn cl le ri lt nm nc nl nr nt at9 en9 de mm ma ne us lk sd sf nu gt' gl' tb' sc su) := by
  intro sz
  refine sp_of (cc := cX10_middle) (maxL := 18) (ret := some .long) (own := RX10) (Qc := sp_Ql D r' (sw_M a q5 fa tr la sl ce pn mn cl le ri lt nm nc nl nr nt at9 en9 de mm ma ne us lk sd sf nu gt' gl' tb' sc su)) (by decide) rfl rfl (Nat.le_of_ble_eq_true rfl) ?_
  intro p e s m args below meth c A ls Q hQ S hr hlk hK hG hA hW hl
  have hx := S.1
  have hb := S.2.1
  unfold f_X10_middle at hf
  have inX10 : ∀ w ∈ u_ws RX10 TX10 32, w ∈ wsX10_middle := (fun _ h => List.mem_cons_of_mem _ (List.mem_append_right _ h))
  have lk1 := S.2.2.2.2 (Cond.constantLong RX10 90 (-9223372036854775808)) (List.mem_of_getElem? (i := 3) rfl)
  have lk2 := S.2.2.2.2 (Cond.fieldLink RX10 22 "ShortProofsModel" "clauses" "[I") (List.mem_of_getElem? (i := 1) rfl)
  have lk3 := S.2.2.2.2 (Cond.fieldLink RX10 19 "ShortProofsModel" "many" "[I") (List.mem_of_getElem? (i := 2) rfl)
  have lk4 := S.2.2.2.2 (Cond.fieldLink RX10 77 "ShortProofsModel" "tables" "[J") (List.mem_of_getElem? (i := 6) rfl)
  have lk5 := S.2.2.2.2 (Cond.fieldLink RX10 31 "ShortProofsModel" "letters" "[I") (List.mem_of_getElem? (i := 5) rfl)
  have lk6 := S.2.2.2.2 (Cond.fieldLink RX10 25 "ShortProofsModel" "lefts" "[I") (List.mem_of_getElem? (i := 8) rfl)
  have lk7 := S.2.2.2.2 (Cond.fieldLink RX10 28 "ShortProofsModel" "rights" "[I") (List.mem_of_getElem? (i := 9) rfl)
  have lk8 := S.2.2.2.2 (Cond.constantLong RX10 249 (-1)) (List.mem_of_getElem? (i := 7) rfl)
  have lk9 := S.2.2.2.2 (Cond.fieldLink RX10 74 "ShortProofsModel" "groundLetters" "[I") (List.mem_of_getElem? (i := 4) rfl)
  refine lv_aload_n hx hb dX10_middle_0 rfl (lv_at hl 0 rfl) ?_
  refine lv_iload_n hx hb dX10_middle_1 rfl (lv_at hl 1 rfl) ?_
  obtain ⟨r1, hc1, hf⟩ := sp_hc hf
  refine sp_callViP (rest := []) S hK hG hA hW (c_X10_isProof a fa tr la sl ce pn mn cl le ri lt nm nc nl nr nt at9 en9 de mm ma ne us lk sd sf nu gt gl tb sc su p1 hc1) (by decide) (cwV 1 S.2.2.2.2 gX10_middle_X10_isProof rfl rfl rfl (by decide +kernel) (by decide)) 8 0 rfl rfl (sp_pn _) rfl (WS' := sw_M a q5 fa tr la sl ce pn mn cl le ri lt nm nc nl nr nt at9 en9 de mm ma ne us lk sd sf nu gt gl tb sc su) (sp_pn' _) rfl hl.1 (Nat.le_of_ble_eq_true rfl) dX10_middle_2 ⟨Nat.zero_le _, Nat.zero_le _⟩ rfl (fun H locs hW => ?_)
  refine lv_if_eq (tgt := 38) hx hb dX10_middle_5 (by decide) (fun hc => ?_) (fun hc => ?_)
  · have hf := sp_ht hf hc
    refine lv_ldc2 hx hb S.2.2.2.1 lk1 dX10_middle_38 ?_
    have q0 := Option.some.inj hf
    obtain ⟨q1, z1⟩ := Prod.mk.inj q0
    obtain ⟨q2, z2⟩ := Prod.mk.inj z1
    obtain ⟨q3, z3⟩ := Prod.mk.inj z2
    subst q1
    subst q2
    subst q3
    subst z3
    exact sp_lret S hr hlk hW hQ dX10_middle_41
  · have hf := sp_hf hf hc
    refine lv_iload_n hx hb dX10_middle_8 rfl (lv_at hl 3 rfl) ?_
    refine lv_iconst (v := 0) hx hb dX10_middle_9 (by decide) ?_
    refine lv_iconst (v := 1) hx hb dX10_middle_10 (by decide) ?_
    obtain ⟨r2, hc2, hf⟩ := sp_hc hf
    refine sp_callSi (rest := []) S hK hG hA hW (c_X10_within p3 (0 : Int32) (1 : Int32) hc2) (by decide) (va_cwS 3 S.2.2.2.2 gX10_middle_X10_within rfl rfl rfl (by decide +kernel) (by decide)) (isC := []) rfl rfl rfl (WS' := sw_M a q5 fa tr la sl ce pn mn cl le ri lt nm nc nl nr nt at9 en9 de mm ma ne us lk sd sf nu gt gl tb sc su) rfl rfl hl.1 (Nat.le_of_ble_eq_true rfl) dX10_middle_11 ⟨Nat.zero_le _, Nat.zero_le _⟩ rfl (fun H locs hW => ?_)
    refine lv_if_eq (tgt := 38) hx hb dX10_middle_14 (by decide) (fun hc => ?_) (fun hc => ?_)
    · have hf := sp_ht hf hc
      refine lv_ldc2 hx hb S.2.2.2.1 lk1 dX10_middle_38 ?_
      have q0 := Option.some.inj hf
      obtain ⟨q1, z1⟩ := Prod.mk.inj q0
      obtain ⟨q2, z2⟩ := Prod.mk.inj z1
      obtain ⟨q3, z3⟩ := Prod.mk.inj z2
      subst q1
      subst q2
      subst q3
      subst z3
      exact sp_lret S hr hlk hW hQ dX10_middle_41
    · have hf := sp_hf hf hc
      refine lv_aload_n hx hb dX10_middle_17 rfl (lv_at hl 0 rfl) ?_
      refine sp_get S hK hW inX10 0 rfl rfl 7 (by decide) lk2 rfl dX10_middle_18 ?_
      refine lv_bipush (v := 24) hx hb dX10_middle_21 (by decide) ?_
      refine lv_iload_n hx hb dX10_middle_23 rfl (lv_at hl 1 rfl) ?_
      refine lv_imul hx hb dX10_middle_24 ?_
      refine lv_aload_n hx hb dX10_middle_25 rfl (lv_at hl 0 rfl) ?_
      refine sp_get S hK hW inX10 0 rfl rfl 6 (by decide) lk3 rfl dX10_middle_26 ?_
      refine lv_iload_n hx hb dX10_middle_29 rfl (lv_at hl 1 rfl) ?_
      obtain ⟨hin, v3, ev3, hf⟩ := sp_hld hf
      refine sp_iald S hK hW 4 rfl hin ev3 dX10_middle_30 ?_
      refine lv_iadd hx hb dX10_middle_31 ?_
      refine lv_iconst (v := 1) hx hb dX10_middle_32 (by decide) ?_
      refine lv_isub hx hb dX10_middle_33 ?_
      obtain ⟨hin, v4, ev4, hf⟩ := sp_hld hf
      refine sp_iald S hK hW 5 rfl hin ev4 dX10_middle_34 ?_
      refine lv_if_eq (tgt := 42) hx hb dX10_middle_35 (by decide) (fun hc => ?_) (fun hc => ?_)
      · have hf := sp_ht hf hc
        refine lv_aload_n hx hb dX10_middle_42 rfl (lv_at hl 0 rfl) ?_
        refine lv_iload_n hx hb dX10_middle_43 rfl (lv_at hl 1 rfl) ?_
        obtain ⟨r5, hc5, hf⟩ := sp_hc hf
        refine sp_callViP (rest := []) S hK hG hA hW (c_X10_groundsOf a fa tr la sl ce pn mn cl le ri lt nm nc nl nr nt at9 en9 de mm ma ne us lk sd sf nu gt gl tb sc su p1 hc5) (by decide) (cwV 1 S.2.2.2.2 gX10_middle_X10_groundsOf rfl rfl rfl (by decide +kernel) (by decide)) 8 0 rfl rfl (sp_pn _) rfl (WS' := sw_M a q5 fa tr la sl ce pn mn cl le ri lt nm nc nl nr nt at9 en9 de mm ma ne us lk sd sf nu gt gl tb sc su) (sp_pn' _) rfl hl.1 (Nat.le_of_ble_eq_true rfl) dX10_middle_44 ⟨Nat.zero_le _, Nat.zero_le _⟩ rfl (fun H locs hW => ?_)
        refine lv_istore (lv' := [(4, .int r5), (0, .ref (a 0)), (1, .int p1), (2, .int p2), (3, .int p3)]) hx hb dX10_middle_47 hl (by decide) rfl (fun ls hl => ?_)
        refine lv_iload hx hb dX10_middle_49 (lv_at hl 0 rfl) ?_
        refine lv_bipush (v := 10) hx hb dX10_middle_51 (by decide) ?_
        refine lv_icmp_gt (tgt := 70) hx hb dX10_middle_53 (by decide) (fun hc => ?_) (fun hc => ?_)
        · have hf := sp_ht hf hc
          refine lv_ldc2 hx hb S.2.2.2.1 lk1 dX10_middle_70 ?_
          have q0 := Option.some.inj hf
          obtain ⟨q1, z1⟩ := Prod.mk.inj q0
          obtain ⟨q2, z2⟩ := Prod.mk.inj z1
          obtain ⟨q3, z3⟩ := Prod.mk.inj z2
          subst q1
          subst q2
          subst q3
          subst z3
          exact sp_lret S hr hlk hW hQ dX10_middle_73
        · have hf := sp_hf hf hc
          refine lv_iload_n hx hb dX10_middle_56 rfl (lv_at hl 3 rfl) ?_
          refine lv_iconst (v := 0) hx hb dX10_middle_57 (by decide) ?_
          refine lv_iconst (v := 1) hx hb dX10_middle_58 (by decide) ?_
          refine lv_iload hx hb dX10_middle_59 (lv_at hl 0 rfl) ?_
          refine lv_ishl hx hb dX10_middle_61 ?_
          refine lv_iconst (v := 1) hx hb dX10_middle_62 (by decide) ?_
          refine lv_isub hx hb dX10_middle_63 ?_
          obtain ⟨r6, hc6, hf⟩ := sp_hc hf
          refine sp_callSi (rest := []) S hK hG hA hW (c_X10_within p2 (0 : Int32) (((1 : Int32) <<< (r5 &&& 31)) - (1 : Int32)) hc6) (by decide) (va_cwS 3 S.2.2.2.2 gX10_middle_X10_within rfl rfl rfl (by decide +kernel) (by decide)) (isC := []) rfl rfl rfl (WS' := sw_M a q5 fa tr la sl ce pn mn cl le ri lt nm nc nl nr nt at9 en9 de mm ma ne us lk sd sf nu gt gl tb sc su) rfl rfl hl.1 (Nat.le_of_ble_eq_true rfl) dX10_middle_64 ⟨Nat.zero_le _, Nat.zero_le _⟩ rfl (fun H locs hW => ?_)
          refine lv_if_ne (tgt := 74) hx hb dX10_middle_67 (by decide) (fun hc => ?_) (fun hc => ?_)
          · have hf := sp_hf hf hc
            refine lv_aload_n hx hb dX10_middle_74 rfl (lv_at hl 1 rfl) ?_
            refine lv_iload_n hx hb dX10_middle_75 rfl (lv_at hl 2 rfl) ?_
            obtain ⟨⟨c7, c8⟩, hc8, hf⟩ := sp_hc hf
            refine sp_callVvP (rest := []) S hK hG hA hW (c_X10_layGrounds a fa tr la sl ce pn mn cl le ri lt nm nc nl nr nt at9 en9 de mm ma ne us lk sd sf nu gt gl tb sc su p1 hc8) (by decide) (cwV 1 S.2.2.2.2 gX10_middle_X10_layGrounds rfl rfl rfl (by decide +kernel) (by decide)) 8 0 rfl rfl (sp_pn _) rfl (WS' := sw_M a q5 fa tr la sl ce pn mn cl le ri lt nm nc nl nr nt at9 en9 de mm ma ne us lk sd sf nu c7 c8 tb sc su) (sp_pn' _) rfl hl.1 (Nat.le_of_ble_eq_true rfl) dX10_middle_76 ⟨Nat.zero_le _, Nat.zero_le _⟩ rfl (fun H locs hW => ?_)
            refine lv_iconst (v := 0) hx hb dX10_middle_79 (by decide) ?_
            refine lv_istore (lv' := [(5, .int (0 : Int32)), (4, .int r5), (0, .ref (a 0)), (1, .int p1), (2, .int p2), (3, .int p3)]) hx hb dX10_middle_80 hl (by decide) rfl (fun ls hl => ?_)
            refine lv_iconst (v := 0) hx hb dX10_middle_82 (by decide) ?_
            refine lv_istore (lv' := [(6, .int (0 : Int32)), (5, .int (0 : Int32)), (4, .int r5), (0, .ref (a 0)), (1, .int p1), (2, .int p2), (3, .int p3)]) hx hb dX10_middle_83 hl (by decide) rfl (fun ls hl => ?_)
            refine lv_iconst (v := 0) hx hb dX10_middle_85 (by decide) ?_
            refine lv_istore (lv' := [(7, .int (0 : Int32)), (6, .int (0 : Int32)), (5, .int (0 : Int32)), (4, .int r5), (0, .ref (a 0)), (1, .int p1), (2, .int p2), (3, .int p3)]) hx hb dX10_middle_86 hl (by decide) rfl (fun ls hl => ?_)
            obtain ⟨k14, ek14, hf⟩ := sp_hb hf
            have hj14 : ∀ (x12 : Int32) (x13 : Int32) (H : Heap) (locs : List Loc) (ls : Array Slot), k14 x12 x13 = some (r', gt', gl', tb') → sp_wd D A s.heap (sw_M a q5 fa tr la sl ce pn mn cl le ri lt nm nc nl nr nt at9 en9 de mm ma ne us lk sd sf nu c7 c8 tb sc su) H locs → lv_has ls 18 [(0, .ref (a 0)), (1, .int p1), (2, .int p2), (3, .int p3), (5, .int x12), (6, .int x13)] → W p l e rmX10_middle s m args below meth c H locs 0 0 Q (F0 m 152 ls []) := by
              intro x12 x13 H locs ls hf hW hl
              rw [ek14] at hf
              refine lv_iconst (v := 0) hx hb dX10_middle_152 (by decide) ?_
              refine lv_istore (lv' := [(7, .int (0 : Int32)), (0, .ref (a 0)), (1, .int p1), (2, .int p2), (3, .int p3), (5, .int x12), (6, .int x13)]) hx hb dX10_middle_153 hl (by decide) rfl (fun ls hl => ?_)
              refine lv_iconst (v := 0) hx hb dX10_middle_155 (by decide) ?_
              refine lv_istore (lv' := [(8, .int (0 : Int32)), (7, .int (0 : Int32)), (0, .ref (a 0)), (1, .int p1), (2, .int p2), (3, .int p3), (5, .int x12), (6, .int x13)]) hx hb dX10_middle_156 hl (by decide) rfl (fun ls hl => ?_)
              obtain ⟨k19, ek19, hf⟩ := sp_hb hf
              have hj19 : ∀ (c18 : Nat → Int64) (H : Heap) (locs : List Loc) (ls : Array Slot), k19 c18 = some (r', gt', gl', tb') → sp_wd D A s.heap (sw_M a q5 fa tr la sl ce pn mn cl le ri lt nm nc nl nr nt at9 en9 de mm ma ne us lk sd sf nu c7 c8 c18 sc su) H locs → lv_has ls 18 [(0, .ref (a 0)), (1, .int p1), (3, .int p3)] → W p l e rmX10_middle s m args below meth c H locs 0 0 Q (F0 m 367 ls []) := by
                intro c18 H locs ls hf hW hl
                rw [ek19] at hf
                refine lv_aload_n hx hb dX10_middle_367 rfl (lv_at hl 0 rfl) ?_
                refine sp_get S hK hW inX10 0 rfl rfl 29 (by decide) lk4 rfl dX10_middle_368 ?_
                refine lv_aload_n hx hb dX10_middle_371 rfl (lv_at hl 0 rfl) ?_
                refine sp_get S hK hW inX10 0 rfl rfl 6 (by decide) lk3 rfl dX10_middle_372 ?_
                refine lv_iload_n hx hb dX10_middle_375 rfl (lv_at hl 1 rfl) ?_
                obtain ⟨hin, v20, ev20, hf⟩ := sp_hld hf
                refine sp_iald S hK hW 4 rfl hin ev20 dX10_middle_376 ?_
                refine lv_iconst (v := 1) hx hb dX10_middle_377 (by decide) ?_
                refine lv_isub hx hb dX10_middle_378 ?_
                obtain ⟨hin, v21, ev21, hf⟩ := sp_hld hf
                refine sp_lald S hK hW 23 rfl hin ev21 dX10_middle_379 ?_
                refine lv_iload_n hx hb dX10_middle_380 rfl (lv_at hl 2 rfl) ?_
                obtain ⟨r22, hc22, hf⟩ := sp_hc hf
                refine sp_callSl (rest := []) S hK hG hA hW (c_X10_halfOf v21 p3 hc22) (by decide) (va_cwS 2 S.2.2.2.2 gX10_middle_X10_halfOf rfl rfl rfl (by decide +kernel) (by decide)) (isC := []) rfl rfl rfl (WS' := sw_M a q5 fa tr la sl ce pn mn cl le ri lt nm nc nl nr nt at9 en9 de mm ma ne us lk sd sf nu c7 c8 c18 sc su) rfl rfl hl.1 (Nat.le_of_ble_eq_true rfl) dX10_middle_381 ⟨Nat.zero_le _, Nat.zero_le _⟩ rfl (fun H locs hW => ?_)
                have q0 := Option.some.inj hf
                obtain ⟨q1, z1⟩ := Prod.mk.inj q0
                obtain ⟨q2, z2⟩ := Prod.mk.inj z1
                obtain ⟨q3, z3⟩ := Prod.mk.inj z2
                subst q1
                subst q2
                subst q3
                subst z3
                exact sp_lret S hr hlk hW hQ dX10_middle_384
              have hlp158 : ∀ (n9 : Nat) (y15 : Int32) (y16 : Int32) (c17 : Nat → Int64) (H : Heap) (locs : List Loc) (ls : Array Slot), sp_lp (f_X10_middle_L158 mn p1 k19 lt p2 le ri x13 x12) n9 (y15, y16, c17) = some (r', gt', gl', tb') → sp_wd D A s.heap (sw_M a q5 fa tr la sl ce pn mn cl le ri lt nm nc nl nr nt at9 en9 de mm ma ne us lk sd sf nu c7 c8 c17 sc su) H locs → lv_has ls 18 [(0, .ref (a 0)), (1, .int p1), (2, .int p2), (3, .int p3), (5, .int x12), (6, .int x13), (7, .int y15), (8, .int y16)] → W p l e rmX10_middle s m args below meth c H locs 0 0 Q (F0 m 158 ls []) := by
                intro n9
                induction n9 with
                | zero =>
                  intro y15 y16 c17 H locs ls hf hW hl
                  exact (sp_lp0 hf).elim
                | succ n9 ih158 =>
                  intro y15 y16 c17 H locs ls hf hW hl
                  have hf := sp_lpS hf
                  rw [f_X10_middle_L158_eq] at hf
                  refine lv_iload hx hb dX10_middle_158 (lv_at hl 7 rfl) ?_
                  refine lv_aload_n hx hb dX10_middle_160 rfl (lv_at hl 0 rfl) ?_
                  refine sp_get S hK hW inX10 0 rfl rfl 6 (by decide) lk3 rfl dX10_middle_161 ?_
                  refine lv_iload_n hx hb dX10_middle_164 rfl (lv_at hl 1 rfl) ?_
                  obtain ⟨hin, v23, ev23, hf⟩ := sp_hld hf
                  refine sp_iald S hK hW 4 rfl hin ev23 dX10_middle_165 ?_
                  refine lv_icmp_ge (tgt := 367) hx hb dX10_middle_166 (by decide) (fun hc => ?_) (fun hc => ?_)
                  · have hf := sp_ht hf hc
                    exact hj19 _ _ _ _ hf hW (lv_sub hl [0, 1, 3] rfl)
                  · have hf := sp_hf hf hc
                    refine lv_bipush (v := 24) hx hb dX10_middle_169 (by decide) ?_
                    refine lv_iload_n hx hb dX10_middle_171 rfl (lv_at hl 1 rfl) ?_
                    refine lv_imul hx hb dX10_middle_172 ?_
                    refine lv_iload hx hb dX10_middle_173 (lv_at hl 7 rfl) ?_
                    refine lv_iadd hx hb dX10_middle_175 ?_
                    obtain ⟨v24, ev24, hf⟩ := sp_hb hf
                    refine sp_topi ev24 ?_
                    refine lv_istore (lv' := [(9, .int v24), (0, .ref (a 0)), (1, .int p1), (2, .int p2), (3, .int p3), (5, .int x12), (6, .int x13), (7, .int y15), (8, .int y16)]) hx hb dX10_middle_176 hl (by decide) rfl (fun ls hl => ?_)
                    refine lv_aload_n hx hb dX10_middle_178 rfl (lv_at hl 1 rfl) ?_
                    refine sp_get S hK hW inX10 0 rfl rfl 10 (by decide) lk5 rfl dX10_middle_179 ?_
                    refine lv_iload hx hb dX10_middle_182 (lv_at hl 0 rfl) ?_
                    obtain ⟨hin, v25, ev25, hf⟩ := sp_hld hf
                    refine sp_iald S hK hW 8 rfl hin ev25 dX10_middle_184 ?_
                    refine lv_bipush (v := (-9)) hx hb dX10_middle_185 (by decide) ?_
                    obtain ⟨k28, ek28, hf⟩ := sp_hb hf
                    have hj28 : ∀ (x26 : Int32) (c27 : Nat → Int64) (H : Heap) (locs : List Loc) (ls : Array Slot), k28 x26 c27 = some (r', gt', gl', tb') → sp_wd D A s.heap (sw_M a q5 fa tr la sl ce pn mn cl le ri lt nm nc nl nr nt at9 en9 de mm ma ne us lk sd sf nu c7 c8 c27 sc su) H locs → lv_has ls 18 [(0, .ref (a 0)), (1, .int p1), (2, .int p2), (3, .int p3), (5, .int x12), (6, .int x13), (7, .int x26), (8, .int y16)] → W p l e rmX10_middle s m args below meth c H locs 0 0 Q (F0 m 361 ls []) := by
                      intro x26 c27 H locs ls hf hW hl
                      rw [ek28] at hf
                      obtain ⟨v29, ev29, hf⟩ := sp_hb hf
                      refine lv_iinc (v := v29) (lv' := [(8, .int v29), (0, .ref (a 0)), (1, .int p1), (2, .int p2), (3, .int p3), (5, .int x12), (6, .int x13), (7, .int x26)]) hx hb dX10_middle_361 hl (k := 7) rfl (by rw [ev29]; rfl) (by decide) rfl (fun ls hl => ?_)
                      refine lv_goto (tgt := 158) hx hb dX10_middle_364 (by decide) ?_
                      exact ih158 _ _ _ _ _ _ hf hW (lv_sub hl [1, 2, 3, 4, 5, 6, 7, 0] rfl)
                    refine lv_icmp_ne (tgt := 220) hx hb dX10_middle_187 (by decide) (fun hc => ?_) (fun hc => ?_)
                    · have hf := sp_hf hf hc
                      refine lv_aload_n hx hb dX10_middle_220 rfl (lv_at hl 1 rfl) ?_
                      refine sp_get S hK hW inX10 0 rfl rfl 29 (by decide) lk4 rfl dX10_middle_221 ?_
                      refine lv_aload_n hx hb dX10_middle_224 rfl (lv_at hl 1 rfl) ?_
                      refine sp_get S hK hW inX10 0 rfl rfl 8 (by decide) lk6 rfl dX10_middle_225 ?_
                      refine lv_iload hx hb dX10_middle_228 (lv_at hl 0 rfl) ?_
                      obtain ⟨hin, v30, ev30, hf⟩ := sp_hld hf
                      refine sp_iald S hK hW 6 rfl hin ev30 dX10_middle_230 ?_
                      obtain ⟨hin, v31, ev31, hf⟩ := sp_hld hf
                      refine sp_lald S hK hW 23 rfl hin ev31 dX10_middle_231 ?_
                      refine lv_lstore (lv' := [(10, .long v31), (9, .int v24), (0, .ref (a 0)), (1, .int p1), (2, .int p2), (3, .int p3), (5, .int x12), (6, .int x13), (7, .int y15), (8, .int y16)]) hx hb dX10_middle_232 hl (by decide) rfl (fun ls hl => ?_)
                      refine lv_aload_n hx hb dX10_middle_234 rfl (lv_at hl 2 rfl) ?_
                      refine sp_get S hK hW inX10 0 rfl rfl 29 (by decide) lk4 rfl dX10_middle_235 ?_
                      refine lv_aload_n hx hb dX10_middle_238 rfl (lv_at hl 2 rfl) ?_
                      refine sp_get S hK hW inX10 0 rfl rfl 9 (by decide) lk7 rfl dX10_middle_239 ?_
                      refine lv_iload hx hb dX10_middle_242 (lv_at hl 1 rfl) ?_
                      obtain ⟨hin, v32, ev32, hf⟩ := sp_hld hf
                      refine sp_iald S hK hW 7 rfl hin ev32 dX10_middle_244 ?_
                      obtain ⟨hin, v33, ev33, hf⟩ := sp_hld hf
                      refine sp_lald S hK hW 23 rfl hin ev33 dX10_middle_245 ?_
                      refine lv_lstore (lv' := [(12, .long v33), (10, .long v31), (9, .int v24), (0, .ref (a 0)), (1, .int p1), (2, .int p2), (3, .int p3), (5, .int x12), (6, .int x13), (7, .int y15), (8, .int y16)]) hx hb dX10_middle_246 hl (by decide) rfl (fun ls hl => ?_)
                      refine lv_iload hx hb dX10_middle_248 (lv_at hl 7 rfl) ?_
                      refine lv_aload_n hx hb dX10_middle_250 rfl (lv_at hl 3 rfl) ?_
                      refine sp_get S hK hW inX10 0 rfl rfl 10 (by decide) lk5 rfl dX10_middle_251 ?_
                      refine lv_iload hx hb dX10_middle_254 (lv_at hl 2 rfl) ?_
                      obtain ⟨hin, v34, ev34, hf⟩ := sp_hld hf
                      refine sp_iald S hK hW 8 rfl hin ev34 dX10_middle_256 ?_
                      refine lv_ishr hx hb dX10_middle_257 ?_
                      refine lv_iconst (v := 1) hx hb dX10_middle_258 (by decide) ?_
                      refine lv_iand hx hb dX10_middle_259 ?_
                      refine lv_iconst (v := 1) hx hb dX10_middle_260 (by decide) ?_
                      obtain ⟨k36, ek36, hf⟩ := sp_hb hf
                      have hj36 : ∀ (x35 : Int32) (H : Heap) (locs : List Loc) (ls : Array Slot), k36 x35 = some (r', gt', gl', tb') → sp_wd D A s.heap (sw_M a q5 fa tr la sl ce pn mn cl le ri lt nm nc nl nr nt at9 en9 de mm ma ne us lk sd sf nu c7 c8 c17 sc su) H locs → lv_has ls 18 [(0, .ref (a 0)), (1, .int p1), (2, .int p2), (3, .int p3), (5, .int x12), (6, .int x13), (7, .int y15), (8, .int y16), (9, .int v24), (10, .long v31), (12, .long v33)] → W p l e rmX10_middle s m args below meth c H locs 0 0 Q (F0 m 269 ls [.int x35]) := by
                        intro x35 H locs ls hf hW hl
                        rw [ek36] at hf
                        refine lv_istore (lv' := [(14, .int x35), (0, .ref (a 0)), (1, .int p1), (2, .int p2), (3, .int p3), (5, .int x12), (6, .int x13), (7, .int y15), (8, .int y16), (9, .int v24), (10, .long v31), (12, .long v33)]) hx hb dX10_middle_269 hl (by decide) rfl (fun ls hl => ?_)
                        refine lv_iload hx hb dX10_middle_271 (lv_at hl 6 rfl) ?_
                        refine lv_aload_n hx hb dX10_middle_273 rfl (lv_at hl 1 rfl) ?_
                        refine sp_get S hK hW inX10 0 rfl rfl 10 (by decide) lk5 rfl dX10_middle_274 ?_
                        refine lv_iload hx hb dX10_middle_277 (lv_at hl 9 rfl) ?_
                        obtain ⟨hin, v37, ev37, hf⟩ := sp_hld hf
                        refine sp_iald S hK hW 8 rfl hin ev37 dX10_middle_279 ?_
                        refine lv_ishr hx hb dX10_middle_280 ?_
                        refine lv_iconst (v := 1) hx hb dX10_middle_281 (by decide) ?_
                        refine lv_iand hx hb dX10_middle_282 ?_
                        refine lv_iconst (v := 1) hx hb dX10_middle_283 (by decide) ?_
                        obtain ⟨k39, ek39, hf⟩ := sp_hb hf
                        have hj39 : ∀ (x38 : Int32) (H : Heap) (locs : List Loc) (ls : Array Slot), k39 x38 = some (r', gt', gl', tb') → sp_wd D A s.heap (sw_M a q5 fa tr la sl ce pn mn cl le ri lt nm nc nl nr nt at9 en9 de mm ma ne us lk sd sf nu c7 c8 c17 sc su) H locs → lv_has ls 18 [(0, .ref (a 0)), (1, .int p1), (2, .int p2), (3, .int p3), (5, .int x12), (6, .int x13), (7, .int y15), (8, .int y16), (9, .int v24), (10, .long v31), (12, .long v33), (14, .int x35)] → W p l e rmX10_middle s m args below meth c H locs 0 0 Q (F0 m 292 ls [.int x38]) := by
                          intro x38 H locs ls hf hW hl
                          rw [ek39] at hf
                          refine lv_istore (lv' := [(15, .int x38), (0, .ref (a 0)), (1, .int p1), (2, .int p2), (3, .int p3), (5, .int x12), (6, .int x13), (7, .int y15), (8, .int y16), (9, .int v24), (10, .long v31), (12, .long v33), (14, .int x35)]) hx hb dX10_middle_292 hl (by decide) rfl (fun ls hl => ?_)
                          refine lv_iconst (v := 1) hx hb dX10_middle_294 (by decide) ?_
                          refine lv_aload_n hx hb dX10_middle_295 rfl (lv_at hl 1 rfl) ?_
                          refine sp_get S hK hW inX10 0 rfl rfl 10 (by decide) lk5 rfl dX10_middle_296 ?_
                          refine lv_iload hx hb dX10_middle_299 (lv_at hl 9 rfl) ?_
                          obtain ⟨hin, v40, ev40, hf⟩ := sp_hld hf
                          refine sp_iald S hK hW 8 rfl hin ev40 dX10_middle_301 ?_
                          refine lv_ishl hx hb dX10_middle_302 ?_
                          obtain ⟨r41, hc41, hf⟩ := sp_hc hf
                          refine sp_callSl (rest := []) S hK hG hA hW (c_X10_truthsOf ((1 : Int32) <<< (v40 &&& 31)) hc41) (by decide) (va_cwS 1 S.2.2.2.2 gX10_middle_X10_truthsOf rfl rfl rfl (by decide +kernel) (by decide)) (isC := []) rfl rfl rfl (WS' := sw_M a q5 fa tr la sl ce pn mn cl le ri lt nm nc nl nr nt at9 en9 de mm ma ne us lk sd sf nu c7 c8 c17 sc su) rfl rfl hl.1 (Nat.le_of_ble_eq_true rfl) dX10_middle_303 ⟨Nat.zero_le _, Nat.zero_le _⟩ rfl (fun H locs hW => ?_)
                          refine lv_lstore (lv' := [(16, .long r41), (15, .int x38), (0, .ref (a 0)), (1, .int p1), (2, .int p2), (3, .int p3), (5, .int x12), (6, .int x13), (7, .int y15), (8, .int y16), (9, .int v24), (10, .long v31), (12, .long v33), (14, .int x35)]) hx hb dX10_middle_306 hl (by decide) rfl (fun ls hl => ?_)
                          refine lv_aload_n hx hb dX10_middle_308 rfl (lv_at hl 2 rfl) ?_
                          refine sp_get S hK hW inX10 0 rfl rfl 29 (by decide) lk4 rfl dX10_middle_309 ?_
                          refine lv_iload hx hb dX10_middle_312 (lv_at hl 9 rfl) ?_
                          refine lv_iload hx hb dX10_middle_314 (lv_at hl 13 rfl) ?_
                          obtain ⟨k43, ek43, hf⟩ := sp_hb hf
                          have hj43 : ∀ (x42 : Int64) (H : Heap) (locs : List Loc) (ls : Array Slot), k43 x42 = some (r', gt', gl', tb') → sp_wd D A s.heap (sw_M a q5 fa tr la sl ce pn mn cl le ri lt nm nc nl nr nt at9 en9 de mm ma ne us lk sd sf nu c7 c8 c17 sc su) H locs → lv_has ls 18 [(0, .ref (a 0)), (1, .int p1), (2, .int p2), (3, .int p3), (5, .int x12), (6, .int x13), (7, .int y15), (8, .int y16)] → W p l e rmX10_middle s m args below meth c H locs 0 0 Q (F0 m 360 ls [.long x42, .int y16, .ref (a 23)]) := by
                            intro x42 H locs ls hf hW hl
                            rw [ek43] at hf
                            obtain ⟨hin, c44, ec44, hf⟩ := sp_hstL hf
                            refine sp_last S hK hW 23 rfl hin ec44 (ws' := sw_M a q5 fa tr la sl ce pn mn cl le ri lt nm nc nl nr nt at9 en9 de mm ma ne us lk sd sf nu c7 c8 c44 sc su) rfl dX10_middle_360 (fun H locs hW => ?_)
                            exact hj28 _ _ _ _ _ hf hW (lv_sub hl [0, 1, 2, 3, 4, 5, 6, 7] rfl)
                          refine lv_if_eq (tgt := 342) hx hb dX10_middle_316 (by decide) (fun hc => ?_) (fun hc => ?_)
                          · have hf := sp_ht hf hc
                            refine lv_iload hx hb dX10_middle_342 (lv_at hl 13 rfl) ?_
                            refine lv_if_eq (tgt := 355) hx hb dX10_middle_344 (by decide) (fun hc => ?_) (fun hc => ?_)
                            · have hf := sp_ht hf hc
                              refine lv_lload hx hb dX10_middle_355 (lv_at hl 11 rfl) ?_
                              refine lv_lload hx hb dX10_middle_357 (lv_at hl 12 rfl) ?_
                              refine lv_land hx hb dX10_middle_359 ?_
                              exact hj43 _ _ _ _ hf hW (lv_sub hl [2, 3, 4, 5, 6, 7, 8, 9] rfl)
                            · have hf := sp_hf hf hc
                              refine lv_lload hx hb dX10_middle_347 (lv_at hl 11 rfl) ?_
                              refine lv_lload hx hb dX10_middle_349 (lv_at hl 12 rfl) ?_
                              refine lv_lor hx hb dX10_middle_351 ?_
                              refine lv_goto (tgt := 360) hx hb dX10_middle_352 (by decide) ?_
                              exact hj43 _ _ _ _ hf hW (lv_sub hl [2, 3, 4, 5, 6, 7, 8, 9] rfl)
                          · have hf := sp_hf hf hc
                            refine lv_iload hx hb dX10_middle_319 (lv_at hl 1 rfl) ?_
                            refine lv_if_eq (tgt := 342) hx hb dX10_middle_321 (by decide) (fun hc => ?_) (fun hc => ?_)
                            · have hf := sp_ht hf hc
                              refine lv_iload hx hb dX10_middle_342 (lv_at hl 13 rfl) ?_
                              refine lv_if_eq (tgt := 355) hx hb dX10_middle_344 (by decide) (fun hc => ?_) (fun hc => ?_)
                              · have hf := sp_ht hf hc
                                refine lv_lload hx hb dX10_middle_355 (lv_at hl 11 rfl) ?_
                                refine lv_lload hx hb dX10_middle_357 (lv_at hl 12 rfl) ?_
                                refine lv_land hx hb dX10_middle_359 ?_
                                exact hj43 _ _ _ _ hf hW (lv_sub hl [2, 3, 4, 5, 6, 7, 8, 9] rfl)
                              · have hf := sp_hf hf hc
                                refine lv_lload hx hb dX10_middle_347 (lv_at hl 11 rfl) ?_
                                refine lv_lload hx hb dX10_middle_349 (lv_at hl 12 rfl) ?_
                                refine lv_lor hx hb dX10_middle_351 ?_
                                refine lv_goto (tgt := 360) hx hb dX10_middle_352 (by decide) ?_
                                exact hj43 _ _ _ _ hf hW (lv_sub hl [2, 3, 4, 5, 6, 7, 8, 9] rfl)
                            · have hf := sp_hf hf hc
                              refine lv_lload hx hb dX10_middle_324 (lv_at hl 11 rfl) ?_
                              refine lv_lload hx hb dX10_middle_326 (lv_at hl 0 rfl) ?_
                              refine lv_ldc2 hx hb S.2.2.2.1 lk8 dX10_middle_328 ?_
                              refine lv_lxor hx hb dX10_middle_331 ?_
                              refine lv_land hx hb dX10_middle_332 ?_
                              refine lv_lload hx hb dX10_middle_333 (lv_at hl 12 rfl) ?_
                              refine lv_lload hx hb dX10_middle_335 (lv_at hl 0 rfl) ?_
                              refine lv_land hx hb dX10_middle_337 ?_
                              refine lv_lor hx hb dX10_middle_338 ?_
                              refine lv_goto (tgt := 360) hx hb dX10_middle_339 (by decide) ?_
                              exact hj43 _ _ _ _ hf hW (lv_sub hl [2, 3, 4, 5, 6, 7, 8, 9] rfl)
                        refine lv_icmp_ne (tgt := 291) hx hb dX10_middle_284 (by decide) (fun hc => ?_) (fun hc => ?_)
                        · have hf := sp_hf hf hc
                          refine lv_iconst (v := 0) hx hb dX10_middle_291 (by decide) ?_
                          exact hj39 _ _ _ _ hf hW (lv_sub hl [1, 2, 3, 4, 5, 6, 7, 8, 9, 10, 11, 0] rfl)
                        · have hf := sp_ht hf hc
                          refine lv_iconst (v := 1) hx hb dX10_middle_287 (by decide) ?_
                          refine lv_goto (tgt := 292) hx hb dX10_middle_288 (by decide) ?_
                          exact hj39 _ _ _ _ hf hW (lv_sub hl [1, 2, 3, 4, 5, 6, 7, 8, 9, 10, 11, 0] rfl)
                      refine lv_icmp_ne (tgt := 268) hx hb dX10_middle_261 (by decide) (fun hc => ?_) (fun hc => ?_)
                      · have hf := sp_hf hf hc
                        refine lv_iconst (v := 0) hx hb dX10_middle_268 (by decide) ?_
                        exact hj36 _ _ _ _ hf hW (lv_sub hl [3, 4, 5, 6, 7, 8, 9, 10, 2, 1, 0] rfl)
                      · have hf := sp_ht hf hc
                        refine lv_iconst (v := 1) hx hb dX10_middle_264 (by decide) ?_
                        refine lv_goto (tgt := 269) hx hb dX10_middle_265 (by decide) ?_
                        exact hj36 _ _ _ _ hf hW (lv_sub hl [3, 4, 5, 6, 7, 8, 9, 10, 2, 1, 0] rfl)
                    · have hf := sp_ht hf hc
                      refine lv_aload_n hx hb dX10_middle_190 rfl (lv_at hl 1 rfl) ?_
                      refine sp_get S hK hW inX10 0 rfl rfl 29 (by decide) lk4 rfl dX10_middle_191 ?_
                      refine lv_iload hx hb dX10_middle_194 (lv_at hl 8 rfl) ?_
                      refine lv_iload_n hx hb dX10_middle_196 rfl (lv_at hl 3 rfl) ?_
                      refine lv_iload hx hb dX10_middle_197 (lv_at hl 7 rfl) ?_
                      refine lv_ishr hx hb dX10_middle_199 ?_
                      refine lv_iconst (v := 1) hx hb dX10_middle_200 (by decide) ?_
                      refine lv_iand hx hb dX10_middle_201 ?_
                      refine lv_iconst (v := 1) hx hb dX10_middle_202 (by decide) ?_
                      obtain ⟨k46, ek46, hf⟩ := sp_hb hf
                      have hj46 : ∀ (x45 : Int64) (H : Heap) (locs : List Loc) (ls : Array Slot), k46 x45 = some (r', gt', gl', tb') → sp_wd D A s.heap (sw_M a q5 fa tr la sl ce pn mn cl le ri lt nm nc nl nr nt at9 en9 de mm ma ne us lk sd sf nu c7 c8 c17 sc su) H locs → lv_has ls 18 [(0, .ref (a 0)), (1, .int p1), (2, .int p2), (3, .int p3), (5, .int x12), (6, .int x13), (7, .int y15), (8, .int y16)] → W p l e rmX10_middle s m args below meth c H locs 0 0 Q (F0 m 213 ls [.long x45, .int y16, .ref (a 23)]) := by
                        intro x45 H locs ls hf hW hl
                        rw [ek46] at hf
                        obtain ⟨hin, c47, ec47, hf⟩ := sp_hstL hf
                        refine sp_last S hK hW 23 rfl hin ec47 (ws' := sw_M a q5 fa tr la sl ce pn mn cl le ri lt nm nc nl nr nt at9 en9 de mm ma ne us lk sd sf nu c7 c8 c47 sc su) rfl dX10_middle_213 (fun H locs hW => ?_)
                        obtain ⟨v48, ev48, hf⟩ := sp_hb hf
                        refine lv_iinc (v := v48) (lv' := [(7, .int v48), (0, .ref (a 0)), (1, .int p1), (2, .int p2), (3, .int p3), (5, .int x12), (6, .int x13), (8, .int y16)]) hx hb dX10_middle_214 hl (k := 6) rfl (by rw [ev48]; rfl) (by decide) rfl (fun ls hl => ?_)
                        refine lv_goto (tgt := 361) hx hb dX10_middle_217 (by decide) ?_
                        exact hj28 _ _ _ _ _ hf hW (lv_sub hl [1, 2, 3, 4, 5, 6, 0, 7] rfl)
                      refine lv_icmp_ne (tgt := 210) hx hb dX10_middle_203 (by decide) (fun hc => ?_) (fun hc => ?_)
                      · have hf := sp_hf hf hc
                        refine lv_ldc2 hx hb S.2.2.2.1 lk8 dX10_middle_210 ?_
                        exact hj46 _ _ _ _ hf hW (lv_sub hl [1, 2, 3, 4, 5, 6, 7, 8] rfl)
                      · have hf := sp_ht hf hc
                        refine lv_lconst (v := 0) hx hb dX10_middle_206 (by decide) ?_
                        refine lv_goto (tgt := 213) hx hb dX10_middle_207 (by decide) ?_
                        exact hj46 _ _ _ _ hf hW (lv_sub hl [1, 2, 3, 4, 5, 6, 7, 8] rfl)
              exact hlp158 _ _ _ _ _ _ _ hf hW (lv_sub hl [2, 3, 4, 5, 6, 7, 1, 0] rfl)
            have hlp88 : ∀ (n9 : Nat) (y9 : Int32) (y10 : Int32) (y11 : Int32) (H : Heap) (locs : List Loc) (ls : Array Slot), sp_lp (f_X10_middle_L88 r5 k14 p2 c8) n9 (y9, y10, y11) = some (r', gt', gl', tb') → sp_wd D A s.heap (sw_M a q5 fa tr la sl ce pn mn cl le ri lt nm nc nl nr nt at9 en9 de mm ma ne us lk sd sf nu c7 c8 tb sc su) H locs → lv_has ls 18 [(0, .ref (a 0)), (1, .int p1), (2, .int p2), (3, .int p3), (4, .int r5), (5, .int y9), (6, .int y10), (7, .int y11)] → W p l e rmX10_middle s m args below meth c H locs 0 0 Q (F0 m 88 ls []) := by
              intro n9
              induction n9 with
              | zero =>
                intro y9 y10 y11 H locs ls hf hW hl
                exact (sp_lp0 hf).elim
              | succ n9 ih88 =>
                intro y9 y10 y11 H locs ls hf hW hl
                have hf := sp_lpS hf
                rw [f_X10_middle_L88_eq] at hf
                refine lv_iload hx hb dX10_middle_88 (lv_at hl 7 rfl) ?_
                refine lv_iload hx hb dX10_middle_90 (lv_at hl 4 rfl) ?_
                refine lv_icmp_ge (tgt := 152) hx hb dX10_middle_92 (by decide) (fun hc => ?_) (fun hc => ?_)
                · have hf := sp_ht hf hc
                  exact hj14 _ _ _ _ _ hf hW (lv_sub hl [0, 1, 2, 3, 5, 6] rfl)
                · have hf := sp_hf hf hc
                  refine lv_iload hx hb dX10_middle_95 (lv_at hl 5 rfl) ?_
                  refine lv_iload_n hx hb dX10_middle_97 rfl (lv_at hl 2 rfl) ?_
                  refine lv_iload hx hb dX10_middle_98 (lv_at hl 7 rfl) ?_
                  refine lv_ishr hx hb dX10_middle_100 ?_
                  refine lv_iconst (v := 1) hx hb dX10_middle_101 (by decide) ?_
                  refine lv_iand hx hb dX10_middle_102 ?_
                  refine lv_iconst (v := 1) hx hb dX10_middle_103 (by decide) ?_
                  obtain ⟨k50, ek50, hf⟩ := sp_hb hf
                  have hj50 : ∀ (x49 : Int32) (H : Heap) (locs : List Loc) (ls : Array Slot), k50 x49 = some (r', gt', gl', tb') → sp_wd D A s.heap (sw_M a q5 fa tr la sl ce pn mn cl le ri lt nm nc nl nr nt at9 en9 de mm ma ne us lk sd sf nu c7 c8 tb sc su) H locs → lv_has ls 18 [(0, .ref (a 0)), (1, .int p1), (2, .int p2), (3, .int p3), (4, .int r5), (6, .int y10), (7, .int y11)] → W p l e rmX10_middle s m args below meth c H locs 0 0 Q (F0 m 118 ls [.int x49, .int y9]) := by
                    intro x49 H locs ls hf hW hl
                    rw [ek50] at hf
                    refine lv_ior hx hb dX10_middle_118 ?_
                    obtain ⟨v51, ev51, hf⟩ := sp_hb hf
                    refine sp_topi ev51 ?_
                    refine lv_istore (lv' := [(5, .int v51), (0, .ref (a 0)), (1, .int p1), (2, .int p2), (3, .int p3), (4, .int r5), (6, .int y10), (7, .int y11)]) hx hb dX10_middle_119 hl (by decide) rfl (fun ls hl => ?_)
                    refine lv_iload hx hb dX10_middle_121 (lv_at hl 6 rfl) ?_
                    refine lv_iload_n hx hb dX10_middle_123 rfl (lv_at hl 3 rfl) ?_
                    refine lv_iload hx hb dX10_middle_124 (lv_at hl 7 rfl) ?_
                    refine lv_ishr hx hb dX10_middle_126 ?_
                    refine lv_iconst (v := 1) hx hb dX10_middle_127 (by decide) ?_
                    refine lv_iand hx hb dX10_middle_128 ?_
                    obtain ⟨k53, ek53, hf⟩ := sp_hb hf
                    have hj53 : ∀ (x52 : Int32) (H : Heap) (locs : List Loc) (ls : Array Slot), k53 x52 = some (r', gt', gl', tb') → sp_wd D A s.heap (sw_M a q5 fa tr la sl ce pn mn cl le ri lt nm nc nl nr nt at9 en9 de mm ma ne us lk sd sf nu c7 c8 tb sc su) H locs → lv_has ls 18 [(0, .ref (a 0)), (1, .int p1), (2, .int p2), (3, .int p3), (4, .int r5), (5, .int v51), (7, .int y11)] → W p l e rmX10_middle s m args below meth c H locs 0 0 Q (F0 m 143 ls [.int x52, .int y10]) := by
                      intro x52 H locs ls hf hW hl
                      rw [ek53] at hf
                      refine lv_ior hx hb dX10_middle_143 ?_
                      obtain ⟨v54, ev54, hf⟩ := sp_hb hf
                      refine sp_topi ev54 ?_
                      refine lv_istore (lv' := [(6, .int v54), (0, .ref (a 0)), (1, .int p1), (2, .int p2), (3, .int p3), (4, .int r5), (5, .int v51), (7, .int y11)]) hx hb dX10_middle_144 hl (by decide) rfl (fun ls hl => ?_)
                      obtain ⟨v55, ev55, hf⟩ := sp_hb hf
                      refine lv_iinc (v := v55) (lv' := [(7, .int v55), (6, .int v54), (0, .ref (a 0)), (1, .int p1), (2, .int p2), (3, .int p3), (4, .int r5), (5, .int v51)]) hx hb dX10_middle_146 hl (k := 7) rfl (by rw [ev55]; rfl) (by decide) rfl (fun ls hl => ?_)
                      refine lv_goto (tgt := 88) hx hb dX10_middle_149 (by decide) ?_
                      exact ih88 _ _ _ _ _ _ hf hW (lv_sub hl [2, 3, 4, 5, 6, 7, 1, 0] rfl)
                    refine lv_if_ne (tgt := 142) hx hb dX10_middle_129 (by decide) (fun hc => ?_) (fun hc => ?_)
                    · have hf := sp_hf hf hc
                      refine lv_iconst (v := 0) hx hb dX10_middle_142 (by decide) ?_
                      exact hj53 _ _ _ _ hf hW (lv_sub hl [1, 2, 3, 4, 5, 0, 7] rfl)
                    · have hf := sp_ht hf hc
                      refine lv_aload_n hx hb dX10_middle_132 rfl (lv_at hl 1 rfl) ?_
                      refine sp_get S hK hW inX10 0 rfl rfl 28 (by decide) lk9 rfl dX10_middle_133 ?_
                      refine lv_iload hx hb dX10_middle_136 (lv_at hl 7 rfl) ?_
                      obtain ⟨hin, v56, ev56, hf⟩ := sp_hld hf
                      refine sp_iald S hK hW 22 rfl hin ev56 dX10_middle_138 ?_
                      refine lv_goto (tgt := 143) hx hb dX10_middle_139 (by decide) ?_
                      exact hj53 _ _ _ _ hf hW (lv_sub hl [1, 2, 3, 4, 5, 0, 7] rfl)
                  refine lv_icmp_ne (tgt := 117) hx hb dX10_middle_104 (by decide) (fun hc => ?_) (fun hc => ?_)
                  · have hf := sp_hf hf hc
                    refine lv_iconst (v := 0) hx hb dX10_middle_117 (by decide) ?_
                    exact hj50 _ _ _ _ hf hW (lv_sub hl [0, 1, 2, 3, 4, 6, 7] rfl)
                  · have hf := sp_ht hf hc
                    refine lv_aload_n hx hb dX10_middle_107 rfl (lv_at hl 0 rfl) ?_
                    refine sp_get S hK hW inX10 0 rfl rfl 28 (by decide) lk9 rfl dX10_middle_108 ?_
                    refine lv_iload hx hb dX10_middle_111 (lv_at hl 7 rfl) ?_
                    obtain ⟨hin, v57, ev57, hf⟩ := sp_hld hf
                    refine sp_iald S hK hW 22 rfl hin ev57 dX10_middle_113 ?_
                    refine lv_goto (tgt := 118) hx hb dX10_middle_114 (by decide) ?_
                    exact hj50 _ _ _ _ hf hW (lv_sub hl [0, 1, 2, 3, 4, 6, 7] rfl)
            exact hlp88 _ _ _ _ _ _ _ hf hW (lv_sub hl [4, 5, 6, 7, 3, 2, 1, 0] rfl)
          · have hf := sp_ht hf hc
            refine lv_ldc2 hx hb S.2.2.2.1 lk1 dX10_middle_70 ?_
            have q0 := Option.some.inj hf
            obtain ⟨q1, z1⟩ := Prod.mk.inj q0
            obtain ⟨q2, z2⟩ := Prod.mk.inj z1
            obtain ⟨q3, z3⟩ := Prod.mk.inj z2
            subst q1
            subst q2
            subst q3
            subst z3
            exact sp_lret S hr hlk hW hQ dX10_middle_73
      · have hf := sp_hf hf hc
        refine lv_ldc2 hx hb S.2.2.2.1 lk1 dX10_middle_38 ?_
        have q0 := Option.some.inj hf
        obtain ⟨q1, z1⟩ := Prod.mk.inj q0
        obtain ⟨q2, z2⟩ := Prod.mk.inj z1
        obtain ⟨q3, z3⟩ := Prod.mk.inj z2
        subst q1
        subst q2
        subst q3
        subst z3
        exact sp_lret S hr hlk hW hQ dX10_middle_41

def f_X10_smallOf_L4 (k4 : Int32 → Option (Int32)) (p1 : Int32) (rec4 : (Int32 × Int32) → Option (Int32)) (s9 : Int32 × Int32) : Option (Int32) := match s9 with
  | (y1, y2) => if y2 < 0 then (k4 y1) else (sp_bnd (fun (x5 : Int32) => sp_bnd (((3 : Int32) * y1) + x5) (fun v7 => sp_bnd (y2 + (-1 : Int32)) (fun v8 => rec4 (v7, v8)))) (fun k6 => if ((p1 >>> (y2 &&& 31)) &&& (1 : Int32)) = (1 : Int32) then (k6 (1 : Int32)) else (if ((p1 >>> (((6 : Int32) + y2) &&& 31)) &&& (1 : Int32)) = (1 : Int32) then (k6 (2 : Int32)) else (k6 (0 : Int32)))))
theorem f_X10_smallOf_L4_eq {rec4 : (Int32 × Int32) → Option (Int32)} {k4 : Int32 → Option (Int32)} {p1 : Int32} {y1 : Int32} {y2 : Int32} : f_X10_smallOf_L4 k4 p1 rec4 (y1, y2) = (if y2 < 0 then (k4 y1) else (sp_bnd (fun (x5 : Int32) => sp_bnd (((3 : Int32) * y1) + x5) (fun v7 => sp_bnd (y2 + (-1 : Int32)) (fun v8 => rec4 (v7, v8)))) (fun k6 => if ((p1 >>> (y2 &&& 31)) &&& (1 : Int32)) = (1 : Int32) then (k6 (1 : Int32)) else (if ((p1 >>> (((6 : Int32) + y2) &&& 31)) &&& (1 : Int32)) = (1 : Int32) then (k6 (2 : Int32)) else (k6 (0 : Int32)))))) := rfl
def f_X10_smallOf (p1 : Int32) : Option (Int32) := sp_bnd (fun (x3 : Int32) => some x3) (fun k4 => sp_lp (f_X10_smallOf_L4 k4 p1) sp_F ((0 : Int32), (2 : Int32)))
def rmX10_smallOf : Room := { frames := 0, cells := 0, slots := 0, locals := 0 }
set_option maxRecDepth 4000 in
theorem c_X10_smallOf {l : Launch} {D : va_G} {q5 : Nat → ClassId} (p1 : Int32) {r' : Int32} (hf : f_X10_smallOf p1 = some r') : sp_Ci l yX10_smallOf wsX10_smallOf rmX10_smallOf D q5 0 [.int p1] ([]) r' ([]) := by
  intro sz
  refine sp_of (cc := cX10_smallOf) (maxL := 3) (ret := some .int) (own := RX10) (Qc := sp_Qi D r' ([])) (by decide) rfl rfl (Nat.le_of_ble_eq_true rfl) ?_
  intro p e s m args below meth c A ls Q hQ S hr hlk hK hG hA hW hl
  have hx := S.1
  have hb := S.2.1
  unfold f_X10_smallOf at hf
  refine lv_iconst (v := 0) hx hb dX10_smallOf_0 (by decide) ?_
  refine lv_istore_n (lv' := [(1, .int (0 : Int32)), (0, .int p1)]) hx hb dX10_smallOf_1 rfl hl (by decide) rfl (fun ls hl => ?_)
  refine lv_iconst (v := 2) hx hb dX10_smallOf_2 (by decide) ?_
  refine lv_istore_n (lv' := [(2, .int (2 : Int32)), (1, .int (0 : Int32)), (0, .int p1)]) hx hb dX10_smallOf_3 rfl hl (by decide) rfl (fun ls hl => ?_)
  obtain ⟨k4, ek4, hf⟩ := sp_hb hf
  have hj4 : ∀ (x3 : Int32) (H : Heap) (locs : List Loc) (ls : Array Slot), k4 x3 = some r' → sp_wd D A s.heap ([]) H locs → lv_has ls 3 [(1, .int x3)] → W p l e rmX10_smallOf s m args below meth c H locs 0 0 Q (F0 m 49 ls []) := by
    intro x3 H locs ls hf hW hl
    rw [ek4] at hf
    refine lv_iload_n hx hb dX10_smallOf_49 rfl (lv_at hl 0 rfl) ?_
    have q0 := Option.some.inj hf
    subst q0
    exact sp_iret S hr hlk hW hQ dX10_smallOf_50
  have hlp4 : ∀ (n9 : Nat) (y1 : Int32) (y2 : Int32) (H : Heap) (locs : List Loc) (ls : Array Slot), sp_lp (f_X10_smallOf_L4 k4 p1) n9 (y1, y2) = some r' → sp_wd D A s.heap ([]) H locs → lv_has ls 3 [(0, .int p1), (1, .int y1), (2, .int y2)] → W p l e rmX10_smallOf s m args below meth c H locs 0 0 Q (F0 m 4 ls []) := by
    intro n9
    induction n9 with
    | zero =>
      intro y1 y2 H locs ls hf hW hl
      exact (sp_lp0 hf).elim
    | succ n9 ih4 =>
      intro y1 y2 H locs ls hf hW hl
      have hf := sp_lpS hf
      rw [f_X10_smallOf_L4_eq] at hf
      refine lv_iload_n hx hb dX10_smallOf_4 rfl (lv_at hl 2 rfl) ?_
      refine lv_if_lt (tgt := 49) hx hb dX10_smallOf_5 (by decide) (fun hc => ?_) (fun hc => ?_)
      · have hf := sp_ht hf hc
        exact hj4 _ _ _ _ hf hW (lv_sub hl [1] rfl)
      · have hf := sp_hf hf hc
        refine lv_iconst (v := 3) hx hb dX10_smallOf_8 (by decide) ?_
        refine lv_iload_n hx hb dX10_smallOf_9 rfl (lv_at hl 1 rfl) ?_
        refine lv_imul hx hb dX10_smallOf_10 ?_
        refine lv_iload_n hx hb dX10_smallOf_11 rfl (lv_at hl 0 rfl) ?_
        refine lv_iload_n hx hb dX10_smallOf_12 rfl (lv_at hl 2 rfl) ?_
        refine lv_ishr hx hb dX10_smallOf_13 ?_
        refine lv_iconst (v := 1) hx hb dX10_smallOf_14 (by decide) ?_
        refine lv_iand hx hb dX10_smallOf_15 ?_
        refine lv_iconst (v := 1) hx hb dX10_smallOf_16 (by decide) ?_
        obtain ⟨k6, ek6, hf⟩ := sp_hb hf
        have hj6 : ∀ (x5 : Int32) (H : Heap) (locs : List Loc) (ls : Array Slot), k6 x5 = some r' → sp_wd D A s.heap ([]) H locs → lv_has ls 3 [(0, .int p1), (2, .int y2)] → W p l e rmX10_smallOf s m args below meth c H locs 0 0 Q (F0 m 41 ls [.int x5, .int ((3 : Int32) * y1)]) := by
          intro x5 H locs ls hf hW hl
          rw [ek6] at hf
          refine lv_iadd hx hb dX10_smallOf_41 ?_
          obtain ⟨v7, ev7, hf⟩ := sp_hb hf
          refine sp_topi ev7 ?_
          refine lv_istore_n (lv' := [(1, .int v7), (0, .int p1), (2, .int y2)]) hx hb dX10_smallOf_42 rfl hl (by decide) rfl (fun ls hl => ?_)
          obtain ⟨v8, ev8, hf⟩ := sp_hb hf
          refine lv_iinc (v := v8) (lv' := [(2, .int v8), (1, .int v7), (0, .int p1)]) hx hb dX10_smallOf_43 hl (k := 2) rfl (by rw [ev8]; rfl) (by decide) rfl (fun ls hl => ?_)
          refine lv_goto (tgt := 4) hx hb dX10_smallOf_46 (by decide) ?_
          exact ih4 _ _ _ _ _ hf hW (lv_sub hl [2, 1, 0] rfl)
        refine lv_icmp_ne (tgt := 24) hx hb dX10_smallOf_17 (by decide) (fun hc => ?_) (fun hc => ?_)
        · have hf := sp_hf hf hc
          refine lv_iload_n hx hb dX10_smallOf_24 rfl (lv_at hl 0 rfl) ?_
          refine lv_bipush (v := 6) hx hb dX10_smallOf_25 (by decide) ?_
          refine lv_iload_n hx hb dX10_smallOf_27 rfl (lv_at hl 2 rfl) ?_
          refine lv_iadd hx hb dX10_smallOf_28 ?_
          refine lv_ishr hx hb dX10_smallOf_29 ?_
          refine lv_iconst (v := 1) hx hb dX10_smallOf_30 (by decide) ?_
          refine lv_iand hx hb dX10_smallOf_31 ?_
          refine lv_iconst (v := 1) hx hb dX10_smallOf_32 (by decide) ?_
          refine lv_icmp_ne (tgt := 40) hx hb dX10_smallOf_33 (by decide) (fun hc => ?_) (fun hc => ?_)
          · have hf := sp_hf hf hc
            refine lv_iconst (v := 0) hx hb dX10_smallOf_40 (by decide) ?_
            exact hj6 _ _ _ _ hf hW (lv_sub hl [0, 2] rfl)
          · have hf := sp_ht hf hc
            refine lv_iconst (v := 2) hx hb dX10_smallOf_36 (by decide) ?_
            refine lv_goto (tgt := 41) hx hb dX10_smallOf_37 (by decide) ?_
            exact hj6 _ _ _ _ hf hW (lv_sub hl [0, 2] rfl)
        · have hf := sp_ht hf hc
          refine lv_iconst (v := 1) hx hb dX10_smallOf_20 (by decide) ?_
          refine lv_goto (tgt := 41) hx hb dX10_smallOf_21 (by decide) ?_
          exact hj6 _ _ _ _ hf hW (lv_sub hl [0, 2] rfl)
  exact hlp4 _ _ _ _ _ _ hf hW (lv_sub hl [2, 1, 0] rfl)

def f_X10_laySmall_L98 (k17 : Int32 → Option ((Nat → Int32) × (Nat → Int32))) (c3 : Nat → Int32) (y5 : Int32) (y9 : Int32) (rec98 : (Int32 × Int32) → Option ((Nat → Int32) × (Nat → Int32))) (s9 : Int32 × Int32) : Option ((Nat → Int32) × (Nat → Int32)) := match s9 with
  | (y14, y15) => if (3 : Int32) ≤ y15 then (k17 y14) else (sp_ld c3 27 y5 (fun v20 => sp_ld c3 27 y9 (fun v21 => Option.bind (f_X10_cutOf v20 v21 y15) (fun r22 => sp_bnd (fun (x23 : Int32) => sp_bnd (y14 ||| x23) (fun v25 => sp_bnd (y15 + (1 : Int32)) (fun v26 => rec98 (v25, v26)))) (fun k24 => if r22 = (-9 : Int32) then (k24 (0 : Int32)) else (Option.bind (f_X10_smallOf r22) (fun r27 => k24 ((1 : Int32) <<< (r27 &&& 31)))))))))
theorem f_X10_laySmall_L98_eq {rec98 : (Int32 × Int32) → Option ((Nat → Int32) × (Nat → Int32))} {k17 : Int32 → Option ((Nat → Int32) × (Nat → Int32))} {c3 : Nat → Int32} {y5 : Int32} {y9 : Int32} {y14 : Int32} {y15 : Int32} : f_X10_laySmall_L98 k17 c3 y5 y9 rec98 (y14, y15) = (if (3 : Int32) ≤ y15 then (k17 y14) else (sp_ld c3 27 y5 (fun v20 => sp_ld c3 27 y9 (fun v21 => Option.bind (f_X10_cutOf v20 v21 y15) (fun r22 => sp_bnd (fun (x23 : Int32) => sp_bnd (y14 ||| x23) (fun v25 => sp_bnd (y15 + (1 : Int32)) (fun v26 => rec98 (v25, v26)))) (fun k24 => if r22 = (-9 : Int32) then (k24 (0 : Int32)) else (Option.bind (f_X10_smallOf r22) (fun r27 => k24 ((1 : Int32) <<< (r27 &&& 31)))))))))) := rfl
def f_X10_laySmall_L87 (k12 : (Nat → Int32) → Option ((Nat → Int32) × (Nat → Int32))) (y5 : Int32) (c3 : Nat → Int32) (rec87 : (Int32 × (Nat → Int32)) → Option ((Nat → Int32) × (Nat → Int32))) (s9 : Int32 × (Nat → Int32)) : Option ((Nat → Int32) × (Nat → Int32)) := match s9 with
  | (y9, c10) => if (27 : Int32) ≤ y9 then (k12 c10) else (sp_bnd (fun (x16 : Int32) => sp_st c10 729 (((27 : Int32) * y5) + y9) x16 (fun c18 => sp_bnd (y9 + (1 : Int32)) (fun v19 => rec87 (v19, c18)))) (fun k17 => sp_lp (f_X10_laySmall_L98 k17 c3 y5 y9) sp_F ((0 : Int32), (0 : Int32))))
theorem f_X10_laySmall_L87_eq {rec87 : (Int32 × (Nat → Int32)) → Option ((Nat → Int32) × (Nat → Int32))} {k12 : (Nat → Int32) → Option ((Nat → Int32) × (Nat → Int32))} {y5 : Int32} {c3 : Nat → Int32} {y9 : Int32} {c10 : Nat → Int32} : f_X10_laySmall_L87 k12 y5 c3 rec87 (y9, c10) = (if (27 : Int32) ≤ y9 then (k12 c10) else (sp_bnd (fun (x16 : Int32) => sp_st c10 729 (((27 : Int32) * y5) + y9) x16 (fun c18 => sp_bnd (y9 + (1 : Int32)) (fun v19 => rec87 (v19, c18)))) (fun k17 => sp_lp (f_X10_laySmall_L98 k17 c3 y5 y9) sp_F ((0 : Int32), (0 : Int32))))) := rfl
def f_X10_laySmall_L79 (k8 : (Nat → Int32) → Option ((Nat → Int32) × (Nat → Int32))) (c3 : Nat → Int32) (rec79 : (Int32 × (Nat → Int32)) → Option ((Nat → Int32) × (Nat → Int32))) (s9 : Int32 × (Nat → Int32)) : Option ((Nat → Int32) × (Nat → Int32)) := match s9 with
  | (y5, c6) => if (27 : Int32) ≤ y5 then (k8 c6) else (sp_bnd (fun (c11 : Nat → Int32) => sp_bnd (y5 + (1 : Int32)) (fun v13 => rec79 (v13, c11))) (fun k12 => sp_lp (f_X10_laySmall_L87 k12 y5 c3) sp_F ((0 : Int32), c6)))
theorem f_X10_laySmall_L79_eq {rec79 : (Int32 × (Nat → Int32)) → Option ((Nat → Int32) × (Nat → Int32))} {k8 : (Nat → Int32) → Option ((Nat → Int32) × (Nat → Int32))} {c3 : Nat → Int32} {y5 : Int32} {c6 : Nat → Int32} : f_X10_laySmall_L79 k8 c3 rec79 (y5, c6) = (if (27 : Int32) ≤ y5 then (k8 c6) else (sp_bnd (fun (c11 : Nat → Int32) => sp_bnd (y5 + (1 : Int32)) (fun v13 => rec79 (v13, c11))) (fun k12 => sp_lp (f_X10_laySmall_L87 k12 y5 c3) sp_F ((0 : Int32), c6)))) := rfl
def f_X10_laySmall_L19 (k33 : (Nat → Int32) → Option ((Nat → Int32) × (Nat → Int32))) (y1 : Int32) (rec19 : (Int32 × Int32 × (Nat → Int32)) → Option ((Nat → Int32) × (Nat → Int32))) (s9 : Int32 × Int32 × (Nat → Int32)) : Option ((Nat → Int32) × (Nat → Int32)) := match s9 with
  | (y29, y30, c31) => if (3 : Int32) ≤ y30 then (k33 c31) else (sp_ld c31 27 y1 (fun v35 => sp_bnd (fun (x36 : Int32) => sp_st c31 27 y1 (v35 ||| x36) (fun c38 => sp_bnd (y29 / (3 : Int32)) (fun v39 => sp_bnd (y30 + (1 : Int32)) (fun v40 => rec19 (v39, v40, c38))))) (fun k37 => if (y29 - y29 / (3 : Int32) * (3 : Int32)) = (1 : Int32) then (k37 ((1 : Int32) <<< (y30 &&& 31))) else (if (y29 - y29 / (3 : Int32) * (3 : Int32)) = (2 : Int32) then (k37 ((64 : Int32) <<< (y30 &&& 31))) else (k37 (0 : Int32))))))
theorem f_X10_laySmall_L19_eq {rec19 : (Int32 × Int32 × (Nat → Int32)) → Option ((Nat → Int32) × (Nat → Int32))} {k33 : (Nat → Int32) → Option ((Nat → Int32) × (Nat → Int32))} {y1 : Int32} {y29 : Int32} {y30 : Int32} {c31 : Nat → Int32} : f_X10_laySmall_L19 k33 y1 rec19 (y29, y30, c31) = (if (3 : Int32) ≤ y30 then (k33 c31) else (sp_ld c31 27 y1 (fun v35 => sp_bnd (fun (x36 : Int32) => sp_st c31 27 y1 (v35 ||| x36) (fun c38 => sp_bnd (y29 / (3 : Int32)) (fun v39 => sp_bnd (y30 + (1 : Int32)) (fun v40 => rec19 (v39, v40, c38))))) (fun k37 => if (y29 - y29 / (3 : Int32) * (3 : Int32)) = (1 : Int32) then (k37 ((1 : Int32) <<< (y30 &&& 31))) else (if (y29 - y29 / (3 : Int32) * (3 : Int32)) = (2 : Int32) then (k37 ((64 : Int32) <<< (y30 &&& 31))) else (k37 (0 : Int32))))))) := rfl
def f_X10_laySmall_L2 (k4 : (Nat → Int32) → Option ((Nat → Int32) × (Nat → Int32))) (rec2 : (Int32 × (Nat → Int32)) → Option ((Nat → Int32) × (Nat → Int32))) (s9 : Int32 × (Nat → Int32)) : Option ((Nat → Int32) × (Nat → Int32)) := match s9 with
  | (y1, c2) => if (27 : Int32) ≤ y1 then (k4 c2) else (sp_st c2 27 y1 (0 : Int32) (fun c28 => sp_bnd (fun (c32 : Nat → Int32) => sp_bnd (y1 + (1 : Int32)) (fun v34 => rec2 (v34, c32))) (fun k33 => sp_lp (f_X10_laySmall_L19 k33 y1) sp_F (y1, (0 : Int32), c28))))
theorem f_X10_laySmall_L2_eq {rec2 : (Int32 × (Nat → Int32)) → Option ((Nat → Int32) × (Nat → Int32))} {k4 : (Nat → Int32) → Option ((Nat → Int32) × (Nat → Int32))} {y1 : Int32} {c2 : Nat → Int32} : f_X10_laySmall_L2 k4 rec2 (y1, c2) = (if (27 : Int32) ≤ y1 then (k4 c2) else (sp_st c2 27 y1 (0 : Int32) (fun c28 => sp_bnd (fun (c32 : Nat → Int32) => sp_bnd (y1 + (1 : Int32)) (fun v34 => rec2 (v34, c32))) (fun k33 => sp_lp (f_X10_laySmall_L19 k33 y1) sp_F (y1, (0 : Int32), c28))))) := rfl
def f_X10_laySmall (sc : Nat → Int32) (su : Nat → Int32) : Option ((Nat → Int32) × (Nat → Int32)) := sp_bnd (fun (c3 : Nat → Int32) => sp_bnd (fun (c7 : Nat → Int32) => some (c3, c7)) (fun k8 => sp_lp (f_X10_laySmall_L79 k8 c3) sp_F ((0 : Int32), su))) (fun k4 => sp_lp (f_X10_laySmall_L2 k4) sp_F ((0 : Int32), sc))
def rmX10_laySmall : Room := { frames := 3, cells := 0, slots := 0, locals := 67 }
set_option maxRecDepth 4000 in
theorem c_X10_laySmall {l : Launch} {D : va_G} {q5 : Nat → ClassId} (a : Nat → Nat) (fa : Int32) (tr : Int32) (la : Nat → Int32) (sl : Nat → Int32) (ce : Nat → Int32) (pn : Int32) (mn : Nat → Int32) (cl : Nat → Int32) (le : Nat → Int32) (ri : Nat → Int32) (lt : Nat → Int32) (nm : Int32) (nc : Nat → Int32) (nl : Nat → Int32) (nr : Nat → Int32) (nt : Nat → Int32) (at9 : Int32) (en9 : Int32) (de : Nat → Int32) (mm : Int32) (ma : Nat → Int32) (ne : Nat → Int32) (us : Nat → Int32) (lk : Nat → Int32) (sd : Nat → Int32) (sf : Nat → Int32) (nu : Nat → Int32) (gt : Nat → Int64) (gl : Nat → Int32) (tb : Nat → Int64) (sc : Nat → Int32) (su : Nat → Int32) {sc' : Nat → Int32} {su' : Nat → Int32} (hf : f_X10_laySmall sc su = some (sc', su')) : sp_Cv l yX10_laySmall wsX10_laySmall rmX10_laySmall D q5 0 [.ref (a 0)] (sw_M a q5 fa tr la sl ce pn mn cl le ri lt nm nc nl nr nt at9 en9 de mm ma ne us lk sd sf nu gt gl tb sc su) (sw_M a q5 fa tr la sl ce pn mn cl le ri lt nm nc nl nr nt at9 en9 de mm ma ne us lk sd sf nu gt gl tb sc' su') := by
  intro sz
  refine sp_of (cc := cX10_laySmall) (maxL := 6) (ret := none) (own := RX10) (Qc := sp_Qv D (sw_M a q5 fa tr la sl ce pn mn cl le ri lt nm nc nl nr nt at9 en9 de mm ma ne us lk sd sf nu gt gl tb sc' su')) (by decide) rfl rfl (Nat.le_of_ble_eq_true rfl) ?_
  intro p e s m args below meth c A ls Q hQ S hr hlk hK hG hA hW hl
  have hx := S.1
  have hb := S.2.1
  unfold f_X10_laySmall at hf
  have inX10 : ∀ w ∈ u_ws RX10 TX10 32, w ∈ wsX10_laySmall := (fun _ h => List.mem_cons_of_mem _ (List.mem_append_right _ h))
  have lk1 := S.2.2.2.2 (Cond.fieldLink RX10 83 "ShortProofsModel" "smallCut" "[I") (List.mem_of_getElem? (i := 2) rfl)
  have lk2 := S.2.2.2.2 (Cond.fieldLink RX10 80 "ShortProofsModel" "smallClause" "[I") (List.mem_of_getElem? (i := 1) rfl)
  refine lv_iconst (v := 0) hx hb dX10_laySmall_0 (by decide) ?_
  refine lv_istore_n (lv' := [(1, .int (0 : Int32)), (0, .ref (a 0))]) hx hb dX10_laySmall_1 rfl hl (by decide) rfl (fun ls hl => ?_)
  obtain ⟨k4, ek4, hf⟩ := sp_hb hf
  have hj4 : ∀ (c3 : Nat → Int32) (H : Heap) (locs : List Loc) (ls : Array Slot), k4 c3 = some (sc', su') → sp_wd D A s.heap (sw_M a q5 fa tr la sl ce pn mn cl le ri lt nm nc nl nr nt at9 en9 de mm ma ne us lk sd sf nu gt gl tb c3 su) H locs → lv_has ls 6 [(0, .ref (a 0))] → W p l e rmX10_laySmall s m args below meth c H locs 0 0 Q (F0 m 77 ls []) := by
    intro c3 H locs ls hf hW hl
    rw [ek4] at hf
    refine lv_iconst (v := 0) hx hb dX10_laySmall_77 (by decide) ?_
    refine lv_istore_n (lv' := [(1, .int (0 : Int32)), (0, .ref (a 0))]) hx hb dX10_laySmall_78 rfl hl (by decide) rfl (fun ls hl => ?_)
    obtain ⟨k8, ek8, hf⟩ := sp_hb hf
    have hj8 : ∀ (c7 : Nat → Int32) (H : Heap) (locs : List Loc) (ls : Array Slot), k8 c7 = some (sc', su') → sp_wd D A s.heap (sw_M a q5 fa tr la sl ce pn mn cl le ri lt nm nc nl nr nt at9 en9 de mm ma ne us lk sd sf nu gt gl tb c3 c7) H locs → lv_has ls 6 [] → W p l e rmX10_laySmall s m args below meth c H locs 0 0 Q (F0 m 174 ls []) := by
      intro c7 H locs ls hf hW hl
      rw [ek8] at hf
      have q0 := Option.some.inj hf
      obtain ⟨q1, z1⟩ := Prod.mk.inj q0
      subst q1
      subst z1
      exact sp_vret S hr hlk hW hQ dX10_laySmall_174
    have hlp79 : ∀ (n9 : Nat) (y5 : Int32) (c6 : Nat → Int32) (H : Heap) (locs : List Loc) (ls : Array Slot), sp_lp (f_X10_laySmall_L79 k8 c3) n9 (y5, c6) = some (sc', su') → sp_wd D A s.heap (sw_M a q5 fa tr la sl ce pn mn cl le ri lt nm nc nl nr nt at9 en9 de mm ma ne us lk sd sf nu gt gl tb c3 c6) H locs → lv_has ls 6 [(0, .ref (a 0)), (1, .int y5)] → W p l e rmX10_laySmall s m args below meth c H locs 0 0 Q (F0 m 79 ls []) := by
      intro n9
      induction n9 with
      | zero =>
        intro y5 c6 H locs ls hf hW hl
        exact (sp_lp0 hf).elim
      | succ n9 ih79 =>
        intro y5 c6 H locs ls hf hW hl
        have hf := sp_lpS hf
        rw [f_X10_laySmall_L79_eq] at hf
        refine lv_iload_n hx hb dX10_laySmall_79 rfl (lv_at hl 1 rfl) ?_
        refine lv_bipush (v := 27) hx hb dX10_laySmall_80 (by decide) ?_
        refine lv_icmp_ge (tgt := 174) hx hb dX10_laySmall_82 (by decide) (fun hc => ?_) (fun hc => ?_)
        · have hf := sp_ht hf hc
          exact hj8 _ _ _ _ hf hW (lv_sub hl [] rfl)
        · have hf := sp_hf hf hc
          refine lv_iconst (v := 0) hx hb dX10_laySmall_85 (by decide) ?_
          refine lv_istore_n (lv' := [(2, .int (0 : Int32)), (0, .ref (a 0)), (1, .int y5)]) hx hb dX10_laySmall_86 rfl hl (by decide) rfl (fun ls hl => ?_)
          obtain ⟨k12, ek12, hf⟩ := sp_hb hf
          have hj12 : ∀ (c11 : Nat → Int32) (H : Heap) (locs : List Loc) (ls : Array Slot), k12 c11 = some (sc', su') → sp_wd D A s.heap (sw_M a q5 fa tr la sl ce pn mn cl le ri lt nm nc nl nr nt at9 en9 de mm ma ne us lk sd sf nu gt gl tb c3 c11) H locs → lv_has ls 6 [(0, .ref (a 0)), (1, .int y5)] → W p l e rmX10_laySmall s m args below meth c H locs 0 0 Q (F0 m 168 ls []) := by
            intro c11 H locs ls hf hW hl
            rw [ek12] at hf
            obtain ⟨v13, ev13, hf⟩ := sp_hb hf
            refine lv_iinc (v := v13) (lv' := [(1, .int v13), (0, .ref (a 0))]) hx hb dX10_laySmall_168 hl (k := 1) rfl (by rw [ev13]; rfl) (by decide) rfl (fun ls hl => ?_)
            refine lv_goto (tgt := 79) hx hb dX10_laySmall_171 (by decide) ?_
            exact ih79 _ _ _ _ _ hf hW (lv_sub hl [1, 0] rfl)
          have hlp87 : ∀ (n9 : Nat) (y9 : Int32) (c10 : Nat → Int32) (H : Heap) (locs : List Loc) (ls : Array Slot), sp_lp (f_X10_laySmall_L87 k12 y5 c3) n9 (y9, c10) = some (sc', su') → sp_wd D A s.heap (sw_M a q5 fa tr la sl ce pn mn cl le ri lt nm nc nl nr nt at9 en9 de mm ma ne us lk sd sf nu gt gl tb c3 c10) H locs → lv_has ls 6 [(0, .ref (a 0)), (1, .int y5), (2, .int y9)] → W p l e rmX10_laySmall s m args below meth c H locs 0 0 Q (F0 m 87 ls []) := by
            intro n9
            induction n9 with
            | zero =>
              intro y9 c10 H locs ls hf hW hl
              exact (sp_lp0 hf).elim
            | succ n9 ih87 =>
              intro y9 c10 H locs ls hf hW hl
              have hf := sp_lpS hf
              rw [f_X10_laySmall_L87_eq] at hf
              refine lv_iload_n hx hb dX10_laySmall_87 rfl (lv_at hl 2 rfl) ?_
              refine lv_bipush (v := 27) hx hb dX10_laySmall_88 (by decide) ?_
              refine lv_icmp_ge (tgt := 168) hx hb dX10_laySmall_90 (by decide) (fun hc => ?_) (fun hc => ?_)
              · have hf := sp_ht hf hc
                exact hj12 _ _ _ _ hf hW (lv_sub hl [0, 1] rfl)
              · have hf := sp_hf hf hc
                refine lv_iconst (v := 0) hx hb dX10_laySmall_93 (by decide) ?_
                refine lv_istore_n (lv' := [(3, .int (0 : Int32)), (0, .ref (a 0)), (1, .int y5), (2, .int y9)]) hx hb dX10_laySmall_94 rfl hl (by decide) rfl (fun ls hl => ?_)
                refine lv_iconst (v := 0) hx hb dX10_laySmall_95 (by decide) ?_
                refine lv_istore (lv' := [(4, .int (0 : Int32)), (3, .int (0 : Int32)), (0, .ref (a 0)), (1, .int y5), (2, .int y9)]) hx hb dX10_laySmall_96 hl (by decide) rfl (fun ls hl => ?_)
                obtain ⟨k17, ek17, hf⟩ := sp_hb hf
                have hj17 : ∀ (x16 : Int32) (H : Heap) (locs : List Loc) (ls : Array Slot), k17 x16 = some (sc', su') → sp_wd D A s.heap (sw_M a q5 fa tr la sl ce pn mn cl le ri lt nm nc nl nr nt at9 en9 de mm ma ne us lk sd sf nu gt gl tb c3 c10) H locs → lv_has ls 6 [(0, .ref (a 0)), (1, .int y5), (2, .int y9), (3, .int x16)] → W p l e rmX10_laySmall s m args below meth c H locs 0 0 Q (F0 m 150 ls []) := by
                  intro x16 H locs ls hf hW hl
                  rw [ek17] at hf
                  refine lv_aload_n hx hb dX10_laySmall_150 rfl (lv_at hl 0 rfl) ?_
                  refine sp_get S hK hW inX10 0 rfl rfl 31 (by decide) lk1 rfl dX10_laySmall_151 ?_
                  refine lv_bipush (v := 27) hx hb dX10_laySmall_154 (by decide) ?_
                  refine lv_iload_n hx hb dX10_laySmall_156 rfl (lv_at hl 1 rfl) ?_
                  refine lv_imul hx hb dX10_laySmall_157 ?_
                  refine lv_iload_n hx hb dX10_laySmall_158 rfl (lv_at hl 2 rfl) ?_
                  refine lv_iadd hx hb dX10_laySmall_159 ?_
                  refine lv_iload_n hx hb dX10_laySmall_160 rfl (lv_at hl 3 rfl) ?_
                  obtain ⟨hin, c18, ec18, hf⟩ := sp_hst hf
                  refine sp_iast S hK hW 25 rfl hin ec18 (ws' := sw_M a q5 fa tr la sl ce pn mn cl le ri lt nm nc nl nr nt at9 en9 de mm ma ne us lk sd sf nu gt gl tb c3 c18) rfl dX10_laySmall_161 (fun H locs hW => ?_)
                  obtain ⟨v19, ev19, hf⟩ := sp_hb hf
                  refine lv_iinc (v := v19) (lv' := [(2, .int v19), (0, .ref (a 0)), (1, .int y5), (3, .int x16)]) hx hb dX10_laySmall_162 hl (k := 2) rfl (by rw [ev19]; rfl) (by decide) rfl (fun ls hl => ?_)
                  refine lv_goto (tgt := 87) hx hb dX10_laySmall_165 (by decide) ?_
                  exact ih87 _ _ _ _ _ hf hW (lv_sub hl [1, 2, 0] rfl)
                have hlp98 : ∀ (n9 : Nat) (y14 : Int32) (y15 : Int32) (H : Heap) (locs : List Loc) (ls : Array Slot), sp_lp (f_X10_laySmall_L98 k17 c3 y5 y9) n9 (y14, y15) = some (sc', su') → sp_wd D A s.heap (sw_M a q5 fa tr la sl ce pn mn cl le ri lt nm nc nl nr nt at9 en9 de mm ma ne us lk sd sf nu gt gl tb c3 c10) H locs → lv_has ls 6 [(0, .ref (a 0)), (1, .int y5), (2, .int y9), (3, .int y14), (4, .int y15)] → W p l e rmX10_laySmall s m args below meth c H locs 0 0 Q (F0 m 98 ls []) := by
                  intro n9
                  induction n9 with
                  | zero =>
                    intro y14 y15 H locs ls hf hW hl
                    exact (sp_lp0 hf).elim
                  | succ n9 ih98 =>
                    intro y14 y15 H locs ls hf hW hl
                    have hf := sp_lpS hf
                    rw [f_X10_laySmall_L98_eq] at hf
                    refine lv_iload hx hb dX10_laySmall_98 (lv_at hl 4 rfl) ?_
                    refine lv_iconst (v := 3) hx hb dX10_laySmall_100 (by decide) ?_
                    refine lv_icmp_ge (tgt := 150) hx hb dX10_laySmall_101 (by decide) (fun hc => ?_) (fun hc => ?_)
                    · have hf := sp_ht hf hc
                      exact hj17 _ _ _ _ hf hW (lv_sub hl [0, 1, 2, 3] rfl)
                    · have hf := sp_hf hf hc
                      refine lv_aload_n hx hb dX10_laySmall_104 rfl (lv_at hl 0 rfl) ?_
                      refine sp_get S hK hW inX10 0 rfl rfl 30 (by decide) lk2 rfl dX10_laySmall_105 ?_
                      refine lv_iload_n hx hb dX10_laySmall_108 rfl (lv_at hl 1 rfl) ?_
                      obtain ⟨hin, v20, ev20, hf⟩ := sp_hld hf
                      refine sp_iald S hK hW 24 rfl hin ev20 dX10_laySmall_109 ?_
                      refine lv_aload_n hx hb dX10_laySmall_110 rfl (lv_at hl 0 rfl) ?_
                      refine sp_get S hK hW inX10 0 rfl rfl 30 (by decide) lk2 rfl dX10_laySmall_111 ?_
                      refine lv_iload_n hx hb dX10_laySmall_114 rfl (lv_at hl 2 rfl) ?_
                      obtain ⟨hin, v21, ev21, hf⟩ := sp_hld hf
                      refine sp_iald S hK hW 24 rfl hin ev21 dX10_laySmall_115 ?_
                      refine lv_iload hx hb dX10_laySmall_116 (lv_at hl 4 rfl) ?_
                      obtain ⟨r22, hc22, hf⟩ := sp_hc hf
                      refine sp_callSi (rest := []) S hK hG hA hW (c_X10_cutOf v20 v21 y15 hc22) (by decide) (va_cwS 3 S.2.2.2.2 gX10_laySmall_X10_cutOf rfl rfl rfl (by decide +kernel) (by decide)) (isC := []) rfl rfl rfl (WS' := sw_M a q5 fa tr la sl ce pn mn cl le ri lt nm nc nl nr nt at9 en9 de mm ma ne us lk sd sf nu gt gl tb c3 c10) rfl rfl hl.1 (Nat.le_of_ble_eq_true rfl) dX10_laySmall_118 ⟨Nat.zero_le _, Nat.zero_le _⟩ rfl (fun H locs hW => ?_)
                      refine lv_istore (lv' := [(5, .int r22), (0, .ref (a 0)), (1, .int y5), (2, .int y9), (3, .int y14), (4, .int y15)]) hx hb dX10_laySmall_121 hl (by decide) rfl (fun ls hl => ?_)
                      refine lv_iload_n hx hb dX10_laySmall_123 rfl (lv_at hl 4 rfl) ?_
                      refine lv_iload hx hb dX10_laySmall_124 (lv_at hl 0 rfl) ?_
                      refine lv_bipush (v := (-9)) hx hb dX10_laySmall_126 (by decide) ?_
                      obtain ⟨k24, ek24, hf⟩ := sp_hb hf
                      have hj24 : ∀ (x23 : Int32) (H : Heap) (locs : List Loc) (ls : Array Slot), k24 x23 = some (sc', su') → sp_wd D A s.heap (sw_M a q5 fa tr la sl ce pn mn cl le ri lt nm nc nl nr nt at9 en9 de mm ma ne us lk sd sf nu gt gl tb c3 c10) H locs → lv_has ls 6 [(0, .ref (a 0)), (1, .int y5), (2, .int y9), (4, .int y15)] → W p l e rmX10_laySmall s m args below meth c H locs 0 0 Q (F0 m 142 ls [.int x23, .int y14]) := by
                        intro x23 H locs ls hf hW hl
                        rw [ek24] at hf
                        refine lv_ior hx hb dX10_laySmall_142 ?_
                        obtain ⟨v25, ev25, hf⟩ := sp_hb hf
                        refine sp_topi ev25 ?_
                        refine lv_istore_n (lv' := [(3, .int v25), (0, .ref (a 0)), (1, .int y5), (2, .int y9), (4, .int y15)]) hx hb dX10_laySmall_143 rfl hl (by decide) rfl (fun ls hl => ?_)
                        obtain ⟨v26, ev26, hf⟩ := sp_hb hf
                        refine lv_iinc (v := v26) (lv' := [(4, .int v26), (3, .int v25), (0, .ref (a 0)), (1, .int y5), (2, .int y9)]) hx hb dX10_laySmall_144 hl (k := 4) rfl (by rw [ev26]; rfl) (by decide) rfl (fun ls hl => ?_)
                        refine lv_goto (tgt := 98) hx hb dX10_laySmall_147 (by decide) ?_
                        exact ih98 _ _ _ _ _ hf hW (lv_sub hl [2, 3, 4, 1, 0] rfl)
                      refine lv_icmp_ne (tgt := 135) hx hb dX10_laySmall_128 (by decide) (fun hc => ?_) (fun hc => ?_)
                      · have hf := sp_hf hf hc
                        refine lv_iconst (v := 1) hx hb dX10_laySmall_135 (by decide) ?_
                        refine lv_iload hx hb dX10_laySmall_136 (lv_at hl 0 rfl) ?_
                        obtain ⟨r27, hc27, hf⟩ := sp_hc hf
                        refine sp_callSi (rest := [.int (1 : Int32), .int y14]) S hK hG hA hW (c_X10_smallOf r22 hc27) (by decide) (va_cwS 1 S.2.2.2.2 gX10_laySmall_X10_smallOf rfl rfl rfl (by decide +kernel) (by decide)) (isC := []) rfl rfl rfl (WS' := sw_M a q5 fa tr la sl ce pn mn cl le ri lt nm nc nl nr nt at9 en9 de mm ma ne us lk sd sf nu gt gl tb c3 c10) rfl rfl hl.1 (Nat.le_of_ble_eq_true rfl) dX10_laySmall_138 ⟨Nat.zero_le _, Nat.zero_le _⟩ rfl (fun H locs hW => ?_)
                        refine lv_ishl hx hb dX10_laySmall_141 ?_
                        exact hj24 _ _ _ _ hf hW (lv_sub hl [1, 2, 3, 5] rfl)
                      · have hf := sp_ht hf hc
                        refine lv_iconst (v := 0) hx hb dX10_laySmall_131 (by decide) ?_
                        refine lv_goto (tgt := 142) hx hb dX10_laySmall_132 (by decide) ?_
                        exact hj24 _ _ _ _ hf hW (lv_sub hl [1, 2, 3, 5] rfl)
                exact hlp98 _ _ _ _ _ _ hf hW (lv_sub hl [2, 3, 4, 1, 0] rfl)
          exact hlp87 _ _ _ _ _ _ hf hW (lv_sub hl [1, 2, 0] rfl)
    exact hlp79 _ _ _ _ _ _ hf hW (lv_sub hl [1, 0] rfl)
  have hlp2 : ∀ (n9 : Nat) (y1 : Int32) (c2 : Nat → Int32) (H : Heap) (locs : List Loc) (ls : Array Slot), sp_lp (f_X10_laySmall_L2 k4) n9 (y1, c2) = some (sc', su') → sp_wd D A s.heap (sw_M a q5 fa tr la sl ce pn mn cl le ri lt nm nc nl nr nt at9 en9 de mm ma ne us lk sd sf nu gt gl tb c2 su) H locs → lv_has ls 6 [(0, .ref (a 0)), (1, .int y1)] → W p l e rmX10_laySmall s m args below meth c H locs 0 0 Q (F0 m 2 ls []) := by
    intro n9
    induction n9 with
    | zero =>
      intro y1 c2 H locs ls hf hW hl
      exact (sp_lp0 hf).elim
    | succ n9 ih2 =>
      intro y1 c2 H locs ls hf hW hl
      have hf := sp_lpS hf
      rw [f_X10_laySmall_L2_eq] at hf
      refine lv_iload_n hx hb dX10_laySmall_2 rfl (lv_at hl 1 rfl) ?_
      refine lv_bipush (v := 27) hx hb dX10_laySmall_3 (by decide) ?_
      refine lv_icmp_ge (tgt := 77) hx hb dX10_laySmall_5 (by decide) (fun hc => ?_) (fun hc => ?_)
      · have hf := sp_ht hf hc
        exact hj4 _ _ _ _ hf hW (lv_sub hl [0] rfl)
      · have hf := sp_hf hf hc
        refine lv_iload_n hx hb dX10_laySmall_8 rfl (lv_at hl 1 rfl) ?_
        refine lv_istore_n (lv' := [(2, .int y1), (0, .ref (a 0)), (1, .int y1)]) hx hb dX10_laySmall_9 rfl hl (by decide) rfl (fun ls hl => ?_)
        refine lv_aload_n hx hb dX10_laySmall_10 rfl (lv_at hl 1 rfl) ?_
        refine sp_get S hK hW inX10 0 rfl rfl 30 (by decide) lk2 rfl dX10_laySmall_11 ?_
        refine lv_iload_n hx hb dX10_laySmall_14 rfl (lv_at hl 2 rfl) ?_
        refine lv_iconst (v := 0) hx hb dX10_laySmall_15 (by decide) ?_
        obtain ⟨hin, c28, ec28, hf⟩ := sp_hst hf
        refine sp_iast S hK hW 24 rfl hin ec28 (ws' := sw_M a q5 fa tr la sl ce pn mn cl le ri lt nm nc nl nr nt at9 en9 de mm ma ne us lk sd sf nu gt gl tb c28 su) rfl dX10_laySmall_16 (fun H locs hW => ?_)
        refine lv_iconst (v := 0) hx hb dX10_laySmall_17 (by decide) ?_
        refine lv_istore_n (lv' := [(3, .int (0 : Int32)), (2, .int y1), (0, .ref (a 0)), (1, .int y1)]) hx hb dX10_laySmall_18 rfl hl (by decide) rfl (fun ls hl => ?_)
        obtain ⟨k33, ek33, hf⟩ := sp_hb hf
        have hj33 : ∀ (c32 : Nat → Int32) (H : Heap) (locs : List Loc) (ls : Array Slot), k33 c32 = some (sc', su') → sp_wd D A s.heap (sw_M a q5 fa tr la sl ce pn mn cl le ri lt nm nc nl nr nt at9 en9 de mm ma ne us lk sd sf nu gt gl tb c32 su) H locs → lv_has ls 6 [(0, .ref (a 0)), (1, .int y1)] → W p l e rmX10_laySmall s m args below meth c H locs 0 0 Q (F0 m 71 ls []) := by
          intro c32 H locs ls hf hW hl
          rw [ek33] at hf
          obtain ⟨v34, ev34, hf⟩ := sp_hb hf
          refine lv_iinc (v := v34) (lv' := [(1, .int v34), (0, .ref (a 0))]) hx hb dX10_laySmall_71 hl (k := 1) rfl (by rw [ev34]; rfl) (by decide) rfl (fun ls hl => ?_)
          refine lv_goto (tgt := 2) hx hb dX10_laySmall_74 (by decide) ?_
          exact ih2 _ _ _ _ _ hf hW (lv_sub hl [1, 0] rfl)
        have hlp19 : ∀ (n9 : Nat) (y29 : Int32) (y30 : Int32) (c31 : Nat → Int32) (H : Heap) (locs : List Loc) (ls : Array Slot), sp_lp (f_X10_laySmall_L19 k33 y1) n9 (y29, y30, c31) = some (sc', su') → sp_wd D A s.heap (sw_M a q5 fa tr la sl ce pn mn cl le ri lt nm nc nl nr nt at9 en9 de mm ma ne us lk sd sf nu gt gl tb c31 su) H locs → lv_has ls 6 [(0, .ref (a 0)), (1, .int y1), (2, .int y29), (3, .int y30)] → W p l e rmX10_laySmall s m args below meth c H locs 0 0 Q (F0 m 19 ls []) := by
          intro n9
          induction n9 with
          | zero =>
            intro y29 y30 c31 H locs ls hf hW hl
            exact (sp_lp0 hf).elim
          | succ n9 ih19 =>
            intro y29 y30 c31 H locs ls hf hW hl
            have hf := sp_lpS hf
            rw [f_X10_laySmall_L19_eq] at hf
            refine lv_iload_n hx hb dX10_laySmall_19 rfl (lv_at hl 3 rfl) ?_
            refine lv_iconst (v := 3) hx hb dX10_laySmall_20 (by decide) ?_
            refine lv_icmp_ge (tgt := 71) hx hb dX10_laySmall_21 (by decide) (fun hc => ?_) (fun hc => ?_)
            · have hf := sp_ht hf hc
              exact hj33 _ _ _ _ hf hW (lv_sub hl [0, 1] rfl)
            · have hf := sp_hf hf hc
              refine lv_aload_n hx hb dX10_laySmall_24 rfl (lv_at hl 0 rfl) ?_
              refine sp_get S hK hW inX10 0 rfl rfl 30 (by decide) lk2 rfl dX10_laySmall_25 ?_
              refine lv_iload_n hx hb dX10_laySmall_28 rfl (lv_at hl 1 rfl) ?_
              refine lv_dup2_11 hx hb dX10_laySmall_29 rfl rfl ?_
              obtain ⟨hin, v35, ev35, hf⟩ := sp_hld hf
              refine sp_iald S hK hW 24 rfl hin ev35 dX10_laySmall_30 ?_
              refine lv_iload_n hx hb dX10_laySmall_31 rfl (lv_at hl 2 rfl) ?_
              refine lv_iconst (v := 3) hx hb dX10_laySmall_32 (by decide) ?_
              refine lv_irem hx hb dX10_laySmall_33 (by decide) ?_
              refine lv_iconst (v := 1) hx hb dX10_laySmall_34 (by decide) ?_
              obtain ⟨k37, ek37, hf⟩ := sp_hb hf
              have hj37 : ∀ (x36 : Int32) (H : Heap) (locs : List Loc) (ls : Array Slot), k37 x36 = some (sc', su') → sp_wd D A s.heap (sw_M a q5 fa tr la sl ce pn mn cl le ri lt nm nc nl nr nt at9 en9 de mm ma ne us lk sd sf nu gt gl tb c31 su) H locs → lv_has ls 6 [(0, .ref (a 0)), (1, .int y1), (2, .int y29), (3, .int y30)] → W p l e rmX10_laySmall s m args below meth c H locs 0 0 Q (F0 m 59 ls [.int x36, .int v35, .int y1, .ref (a 24)]) := by
                intro x36 H locs ls hf hW hl
                rw [ek37] at hf
                refine lv_ior hx hb dX10_laySmall_59 ?_
                obtain ⟨hin, c38, ec38, hf⟩ := sp_hst hf
                refine sp_iast S hK hW 24 rfl hin ec38 (ws' := sw_M a q5 fa tr la sl ce pn mn cl le ri lt nm nc nl nr nt at9 en9 de mm ma ne us lk sd sf nu gt gl tb c38 su) rfl dX10_laySmall_60 (fun H locs hW => ?_)
                refine lv_iload_n hx hb dX10_laySmall_61 rfl (lv_at hl 2 rfl) ?_
                refine lv_iconst (v := 3) hx hb dX10_laySmall_62 (by decide) ?_
                refine lv_idiv hx hb dX10_laySmall_63 (by decide) ?_
                obtain ⟨v39, ev39, hf⟩ := sp_hb hf
                refine sp_topi ev39 ?_
                refine lv_istore_n (lv' := [(2, .int v39), (0, .ref (a 0)), (1, .int y1), (3, .int y30)]) hx hb dX10_laySmall_64 rfl hl (by decide) rfl (fun ls hl => ?_)
                obtain ⟨v40, ev40, hf⟩ := sp_hb hf
                refine lv_iinc (v := v40) (lv' := [(3, .int v40), (2, .int v39), (0, .ref (a 0)), (1, .int y1)]) hx hb dX10_laySmall_65 hl (k := 3) rfl (by rw [ev40]; rfl) (by decide) rfl (fun ls hl => ?_)
                refine lv_goto (tgt := 19) hx hb dX10_laySmall_68 (by decide) ?_
                exact ih19 _ _ _ _ _ _ hf hW (lv_sub hl [2, 3, 1, 0] rfl)
              refine lv_icmp_ne (tgt := 44) hx hb dX10_laySmall_35 (by decide) (fun hc => ?_) (fun hc => ?_)
              · have hf := sp_hf hf hc
                refine lv_iload_n hx hb dX10_laySmall_44 rfl (lv_at hl 2 rfl) ?_
                refine lv_iconst (v := 3) hx hb dX10_laySmall_45 (by decide) ?_
                refine lv_irem hx hb dX10_laySmall_46 (by decide) ?_
                refine lv_iconst (v := 2) hx hb dX10_laySmall_47 (by decide) ?_
                refine lv_icmp_ne (tgt := 58) hx hb dX10_laySmall_48 (by decide) (fun hc => ?_) (fun hc => ?_)
                · have hf := sp_hf hf hc
                  refine lv_iconst (v := 0) hx hb dX10_laySmall_58 (by decide) ?_
                  exact hj37 _ _ _ _ hf hW (lv_sub hl [0, 1, 2, 3] rfl)
                · have hf := sp_ht hf hc
                  refine lv_bipush (v := 64) hx hb dX10_laySmall_51 (by decide) ?_
                  refine lv_iload_n hx hb dX10_laySmall_53 rfl (lv_at hl 3 rfl) ?_
                  refine lv_ishl hx hb dX10_laySmall_54 ?_
                  refine lv_goto (tgt := 59) hx hb dX10_laySmall_55 (by decide) ?_
                  exact hj37 _ _ _ _ hf hW (lv_sub hl [0, 1, 2, 3] rfl)
              · have hf := sp_ht hf hc
                refine lv_iconst (v := 1) hx hb dX10_laySmall_38 (by decide) ?_
                refine lv_iload_n hx hb dX10_laySmall_39 rfl (lv_at hl 3 rfl) ?_
                refine lv_ishl hx hb dX10_laySmall_40 ?_
                refine lv_goto (tgt := 59) hx hb dX10_laySmall_41 (by decide) ?_
                exact hj37 _ _ _ _ hf hW (lv_sub hl [0, 1, 2, 3] rfl)
        exact hlp19 _ _ _ _ _ _ _ hf hW (lv_sub hl [2, 3, 1, 0] rfl)
  exact hlp2 _ _ _ _ _ _ hf hW (lv_sub hl [1, 0] rfl)
