def f_X10_cutNew (p1 : Int32) (p2 : Int32) (p3 : Int32) (p4 : Int32) (nm : Int32) (nc : Nat → Int32) (nl : Nat → Int32) (nr : Nat → Int32) (nt : Nat → Int32) : Option (Int32 × Int32 × (Nat → Int32) × (Nat → Int32) × (Nat → Int32) × (Nat → Int32)) := sp_ld nc 64 p1 (fun v1 => if ((v1 >>> (p3 &&& 31)) &&& (1 : Int32)) = 0 then (some (p1, nm, nc, nl, nr, nt)) else (sp_ld nc 64 p2 (fun v2 => if ((v2 >>> (((6 : Int32) + p3) &&& 31)) &&& (1 : Int32)) = 0 then (some (p2, nm, nc, nl, nr, nt)) else (sp_ld nc 64 p1 (fun v3 => sp_ld nc 64 p2 (fun v4 => Option.bind (f_X10_cutOf v3 v4 p3) (fun r5 => if r5 = (-9 : Int32) then (some ((-9 : Int32), nm, nc, nl, nr, nt)) else (Option.bind (f_X10_joined r5 p1 p2 p3 p4 nm nc nl nr nt) (fun q9 => match q9 with | (r6, c7, c8, c9, c10, c11) => some (r6, c7, c8, c9, c10, c11))))))))))
def rmX10_cutNew : Room := { frames := 3, cells := 0, slots := 0, locals := 70 }
set_option maxRecDepth 4000 in
theorem c_X10_cutNew {l : Launch} {D : va_G} {q5 : Nat → ClassId} (a : Nat → Nat) (fa : Int32) (tr : Int32) (la : Nat → Int32) (sl : Nat → Int32) (ce : Nat → Int32) (pn : Int32) (mn : Nat → Int32) (cl : Nat → Int32) (le : Nat → Int32) (ri : Nat → Int32) (lt : Nat → Int32) (nm : Int32) (nc : Nat → Int32) (nl : Nat → Int32) (nr : Nat → Int32) (nt : Nat → Int32) (at9 : Int32) (en9 : Int32) (de : Nat → Int32) (mm : Int32) (ma : Nat → Int32) (ne : Nat → Int32) (us : Nat → Int32) (lk : Nat → Int32) (sd : Nat → Int32) (sf : Nat → Int32) (nu : Nat → Int32) (gt : Nat → Int64) (gl : Nat → Int32) (tb : Nat → Int64) (sc : Nat → Int32) (su : Nat → Int32) (p1 : Int32) (p2 : Int32) (p3 : Int32) (p4 : Int32) {r' : Int32} {nm' : Int32} {nc' : Nat → Int32} {nl' : Nat → Int32} {nr' : Nat → Int32} {nt' : Nat → Int32} (hf : f_X10_cutNew p1 p2 p3 p4 nm nc nl nr nt = some (r', nm', nc', nl', nr', nt')) : sp_Ci l yX10_cutNew wsX10_cutNew rmX10_cutNew D q5 0 [.ref (a 0), .int p1, .int p2, .int p3, .int p4] (sw_M a q5 fa tr la sl ce pn mn cl le ri lt nm nc nl nr nt at9 en9 de mm ma ne us lk sd sf nu gt gl tb sc su) r' (sw_M a q5 fa tr la sl ce pn mn cl le ri lt nm' nc' nl' nr' nt' at9 en9 de mm ma ne us lk sd sf nu gt gl tb sc su) := by
  intro sz
  refine sp_of (cc := cX10_cutNew) (maxL := 6) (ret := some .int) (own := RX10) (Qc := sp_Qi D r' (sw_M a q5 fa tr la sl ce pn mn cl le ri lt nm' nc' nl' nr' nt' at9 en9 de mm ma ne us lk sd sf nu gt gl tb sc su)) (by decide) rfl rfl (Nat.le_of_ble_eq_true rfl) ?_
  intro p e s m args below meth c A ls Q hQ S hr hlk hK hG hA hW hl
  have hx := S.1
  have hb := S.2.1
  unfold f_X10_cutNew at hf
  have inX10 : ∀ w ∈ u_ws RX10 TX10 32, w ∈ wsX10_cutNew := (fun _ h => List.mem_cons_of_mem _ (List.mem_append_right _ h))
  have lk1 := S.2.2.2.2 (Cond.fieldLink RX10 34 "ShortProofsModel" "newClause" "[I") (List.mem_of_getElem? (i := 1) rfl)
  refine lv_aload_n hx hb dX10_cutNew_0 rfl (lv_at hl 0 rfl) ?_
  refine sp_get S hK hW inX10 0 rfl rfl 12 (by decide) lk1 rfl dX10_cutNew_1 ?_
  refine lv_iload_n hx hb dX10_cutNew_4 rfl (lv_at hl 1 rfl) ?_
  obtain ⟨hin, v1, ev1, hf⟩ := sp_hld hf
  refine sp_iald S hK hW 9 rfl hin ev1 dX10_cutNew_5 ?_
  refine lv_iload_n hx hb dX10_cutNew_6 rfl (lv_at hl 3 rfl) ?_
  refine lv_ishr hx hb dX10_cutNew_7 ?_
  refine lv_iconst (v := 1) hx hb dX10_cutNew_8 (by decide) ?_
  refine lv_iand hx hb dX10_cutNew_9 ?_
  refine lv_if_ne (tgt := 15) hx hb dX10_cutNew_10 (by decide) (fun hc => ?_) (fun hc => ?_)
  · have hf := sp_hf hf hc
    refine lv_aload_n hx hb dX10_cutNew_15 rfl (lv_at hl 0 rfl) ?_
    refine sp_get S hK hW inX10 0 rfl rfl 12 (by decide) lk1 rfl dX10_cutNew_16 ?_
    refine lv_iload_n hx hb dX10_cutNew_19 rfl (lv_at hl 2 rfl) ?_
    obtain ⟨hin, v2, ev2, hf⟩ := sp_hld hf
    refine sp_iald S hK hW 9 rfl hin ev2 dX10_cutNew_20 ?_
    refine lv_bipush (v := 6) hx hb dX10_cutNew_21 (by decide) ?_
    refine lv_iload_n hx hb dX10_cutNew_23 rfl (lv_at hl 3 rfl) ?_
    refine lv_iadd hx hb dX10_cutNew_24 ?_
    refine lv_ishr hx hb dX10_cutNew_25 ?_
    refine lv_iconst (v := 1) hx hb dX10_cutNew_26 (by decide) ?_
    refine lv_iand hx hb dX10_cutNew_27 ?_
    refine lv_if_ne (tgt := 33) hx hb dX10_cutNew_28 (by decide) (fun hc => ?_) (fun hc => ?_)
    · have hf := sp_hf hf hc
      refine lv_aload_n hx hb dX10_cutNew_33 rfl (lv_at hl 0 rfl) ?_
      refine sp_get S hK hW inX10 0 rfl rfl 12 (by decide) lk1 rfl dX10_cutNew_34 ?_
      refine lv_iload_n hx hb dX10_cutNew_37 rfl (lv_at hl 1 rfl) ?_
      obtain ⟨hin, v3, ev3, hf⟩ := sp_hld hf
      refine sp_iald S hK hW 9 rfl hin ev3 dX10_cutNew_38 ?_
      refine lv_aload_n hx hb dX10_cutNew_39 rfl (lv_at hl 0 rfl) ?_
      refine sp_get S hK hW inX10 0 rfl rfl 12 (by decide) lk1 rfl dX10_cutNew_40 ?_
      refine lv_iload_n hx hb dX10_cutNew_43 rfl (lv_at hl 2 rfl) ?_
      obtain ⟨hin, v4, ev4, hf⟩ := sp_hld hf
      refine sp_iald S hK hW 9 rfl hin ev4 dX10_cutNew_44 ?_
      refine lv_iload_n hx hb dX10_cutNew_45 rfl (lv_at hl 3 rfl) ?_
      obtain ⟨r5, hc5, hf⟩ := sp_hc hf
      refine sp_callSi (rest := []) S hK hG hA hW (c_X10_cutOf v3 v4 p3 hc5) (by decide) (va_cwS 3 S.2.2.2.2 gX10_cutNew_X10_cutOf rfl rfl rfl (by decide +kernel) (by decide)) (isC := []) rfl rfl rfl (WS' := sw_M a q5 fa tr la sl ce pn mn cl le ri lt nm nc nl nr nt at9 en9 de mm ma ne us lk sd sf nu gt gl tb sc su) rfl rfl hl.1 (Nat.le_of_ble_eq_true rfl) dX10_cutNew_46 ⟨Nat.zero_le _, Nat.zero_le _⟩ rfl (fun H locs hW => ?_)
      refine lv_istore (lv' := [(5, .int r5), (0, .ref (a 0)), (1, .int p1), (2, .int p2), (3, .int p3), (4, .int p4)]) hx hb dX10_cutNew_49 hl (by decide) rfl (fun ls hl => ?_)
      refine lv_iload hx hb dX10_cutNew_51 (lv_at hl 0 rfl) ?_
      refine lv_bipush (v := (-9)) hx hb dX10_cutNew_53 (by decide) ?_
      refine lv_icmp_ne (tgt := 63) hx hb dX10_cutNew_55 (by decide) (fun hc => ?_) (fun hc => ?_)
      · have hf := sp_hf hf hc
        refine lv_aload_n hx hb dX10_cutNew_63 rfl (lv_at hl 1 rfl) ?_
        refine lv_iload hx hb dX10_cutNew_64 (lv_at hl 0 rfl) ?_
        refine lv_iload_n hx hb dX10_cutNew_66 rfl (lv_at hl 2 rfl) ?_
        refine lv_iload_n hx hb dX10_cutNew_67 rfl (lv_at hl 3 rfl) ?_
        refine lv_iload_n hx hb dX10_cutNew_68 rfl (lv_at hl 4 rfl) ?_
        refine lv_iload hx hb dX10_cutNew_69 (lv_at hl 5 rfl) ?_
        obtain ⟨⟨r6, c7, c8, c9, c10, c11⟩, hc11, hf⟩ := sp_hc hf
        refine sp_callViP (rest := []) S hK hG hA hW (c_X10_joined a fa tr la sl ce pn mn cl le ri lt nm nc nl nr nt at9 en9 de mm ma ne us lk sd sf nu gt gl tb sc su r5 p1 p2 p3 p4 hc11) (by decide) (cwV 5 S.2.2.2.2 gX10_cutNew_X10_joined rfl rfl rfl (by decide +kernel) (by decide)) 8 0 rfl rfl (sp_pn _) rfl (WS' := sw_M a q5 fa tr la sl ce pn mn cl le ri lt c7 c8 c9 c10 c11 at9 en9 de mm ma ne us lk sd sf nu gt gl tb sc su) (sp_pn' _) rfl hl.1 (Nat.le_of_ble_eq_true rfl) dX10_cutNew_71 ⟨Nat.zero_le _, Nat.zero_le _⟩ rfl (fun H locs hW => ?_)
        have q0 := Option.some.inj hf
        obtain ⟨q1, z1⟩ := Prod.mk.inj q0
        obtain ⟨q2, z2⟩ := Prod.mk.inj z1
        obtain ⟨q3, z3⟩ := Prod.mk.inj z2
        obtain ⟨q4, z4⟩ := Prod.mk.inj z3
        obtain ⟨q5, z5⟩ := Prod.mk.inj z4
        subst q1
        subst q2
        subst q3
        subst q4
        subst q5
        subst z5
        exact sp_iret S hr hlk hW hQ dX10_cutNew_74
      · have hf := sp_ht hf hc
        refine lv_bipush (v := (-9)) hx hb dX10_cutNew_58 (by decide) ?_
        refine lv_goto (tgt := 74) hx hb dX10_cutNew_60 (by decide) ?_
        have q0 := Option.some.inj hf
        obtain ⟨q1, z1⟩ := Prod.mk.inj q0
        obtain ⟨q2, z2⟩ := Prod.mk.inj z1
        obtain ⟨q3, z3⟩ := Prod.mk.inj z2
        obtain ⟨q4, z4⟩ := Prod.mk.inj z3
        obtain ⟨q5, z5⟩ := Prod.mk.inj z4
        subst q1
        subst q2
        subst q3
        subst q4
        subst q5
        subst z5
        exact sp_iret S hr hlk hW hQ dX10_cutNew_74
    · have hf := sp_ht hf hc
      refine lv_iload_n hx hb dX10_cutNew_31 rfl (lv_at hl 2 rfl) ?_
      have q0 := Option.some.inj hf
      obtain ⟨q1, z1⟩ := Prod.mk.inj q0
      obtain ⟨q2, z2⟩ := Prod.mk.inj z1
      obtain ⟨q3, z3⟩ := Prod.mk.inj z2
      obtain ⟨q4, z4⟩ := Prod.mk.inj z3
      obtain ⟨q5, z5⟩ := Prod.mk.inj z4
      subst q1
      subst q2
      subst q3
      subst q4
      subst q5
      subst z5
      exact sp_iret S hr hlk hW hQ dX10_cutNew_32
  · have hf := sp_ht hf hc
    refine lv_iload_n hx hb dX10_cutNew_13 rfl (lv_at hl 1 rfl) ?_
    have q0 := Option.some.inj hf
    obtain ⟨q1, z1⟩ := Prod.mk.inj q0
    obtain ⟨q2, z2⟩ := Prod.mk.inj z1
    obtain ⟨q3, z3⟩ := Prod.mk.inj z2
    obtain ⟨q4, z4⟩ := Prod.mk.inj z3
    obtain ⟨q5, z5⟩ := Prod.mk.inj z4
    subst q1
    subst q2
    subst q3
    subst q4
    subst q5
    subst z5
    exact sp_iret S hr hlk hW hQ dX10_cutNew_14

def f_X10_standFor (p1 : Int32) (p2 : Int32) (p3 : Int32) (p4 : Int32) (p5 : Int32) (mn : Nat → Int32) (cl : Nat → Int32) (le : Nat → Int32) (ri : Nat → Int32) (lt : Nat → Int32) (nm : Int32) (nc : Nat → Int32) (nl : Nat → Int32) (nr : Nat → Int32) (nt : Nat → Int32) (sd : Nat → Int32) (sf : Nat → Int32) : Option (Int32 × Int32 × (Nat → Int32) × (Nat → Int32) × (Nat → Int32) × (Nat → Int32)) := sp_bnd (((24 : Int32) * p1) + p2) (fun v1 => sp_ld lt 288 v1 (fun v2 => if v2 = (-9 : Int32) then (sp_ld cl 288 v1 (fun v26 => Option.bind (f_X10_joined v26 (-9 : Int32) (-9 : Int32) (-9 : Int32) p3 nm nc nl nr nt) (fun q9 => match q9 with | (r27, c28, c29, c30, c31, c32) => some (r27, c28, c29, c30, c31, c32)))) else (sp_ld le 288 v1 (fun v3 => sp_ld sd 48 (p5 + v3) (fun v4 => sp_ld ri 288 v1 (fun v5 => sp_ld sd 48 (p5 + v5) (fun v6 => sp_bnd (sp_bnd (sp_bnd (sp_bnd (sp_ld lt 288 v1 (fun v11 => Option.bind (f_X10_cutNew v4 v6 v11 p3 nm nc nl nr nt) (fun q9 => match q9 with | (r12, c13, c14, c15, c16, c17) => some (r12, c13, c14, c15, c16, c17)))) (fun k10 => if p3 = (4 : Int32) then (sp_ld ri 288 v1 (fun v18 => Option.bind (f_X10_isUnit p1 v18 p4 mn cl le ri lt) (fun r19 => if r19 = 0 then k10 else (some (v4, nm, nc, nl, nr, nt))))) else k10)) (fun k9 => if p3 = (4 : Int32) then (sp_ld le 288 v1 (fun v20 => Option.bind (f_X10_isUnit p1 v20 p4 mn cl le ri lt) (fun r21 => if r21 = 0 then k9 else (some (v6, nm, nc, nl, nr, nt))))) else k9)) (fun k8 => if p3 = (3 : Int32) then (sp_ld sf 24 p2 (fun v22 => sp_ld lt 288 v1 (fun v23 => if ((v22 >>> (((6 : Int32) + v23) &&& 31)) &&& (1 : Int32)) = (1 : Int32) then (some (v6, nm, nc, nl, nr, nt)) else k8))) else k8)) (fun k7 => if p3 = (3 : Int32) then (sp_ld sf 24 p2 (fun v24 => sp_ld lt 288 v1 (fun v25 => if ((v24 >>> (v25 &&& 31)) &&& (1 : Int32)) = (1 : Int32) then (some (v4, nm, nc, nl, nr, nt)) else k7))) else k7))))))))
def rmX10_standFor : Room := { frames := 4, cells := 0, slots := 0, locals := 95 }
set_option maxRecDepth 4000 in
theorem c_X10_standFor {l : Launch} {D : va_G} {q5 : Nat → ClassId} (a : Nat → Nat) (fa : Int32) (tr : Int32) (la : Nat → Int32) (sl : Nat → Int32) (ce : Nat → Int32) (pn : Int32) (mn : Nat → Int32) (cl : Nat → Int32) (le : Nat → Int32) (ri : Nat → Int32) (lt : Nat → Int32) (nm : Int32) (nc : Nat → Int32) (nl : Nat → Int32) (nr : Nat → Int32) (nt : Nat → Int32) (at9 : Int32) (en9 : Int32) (de : Nat → Int32) (mm : Int32) (ma : Nat → Int32) (ne : Nat → Int32) (us : Nat → Int32) (lk : Nat → Int32) (sd : Nat → Int32) (sf : Nat → Int32) (nu : Nat → Int32) (gt : Nat → Int64) (gl : Nat → Int32) (tb : Nat → Int64) (sc : Nat → Int32) (su : Nat → Int32) (p1 : Int32) (p2 : Int32) (p3 : Int32) (p4 : Int32) (p5 : Int32) {r' : Int32} {nm' : Int32} {nc' : Nat → Int32} {nl' : Nat → Int32} {nr' : Nat → Int32} {nt' : Nat → Int32} (hf : f_X10_standFor p1 p2 p3 p4 p5 mn cl le ri lt nm nc nl nr nt sd sf = some (r', nm', nc', nl', nr', nt')) : sp_Ci l yX10_standFor wsX10_standFor rmX10_standFor D q5 0 [.ref (a 0), .int p1, .int p2, .int p3, .int p4, .int p5] (sw_M a q5 fa tr la sl ce pn mn cl le ri lt nm nc nl nr nt at9 en9 de mm ma ne us lk sd sf nu gt gl tb sc su) r' (sw_M a q5 fa tr la sl ce pn mn cl le ri lt nm' nc' nl' nr' nt' at9 en9 de mm ma ne us lk sd sf nu gt gl tb sc su) := by
  intro sz
  refine sp_of (cc := cX10_standFor) (maxL := 9) (ret := some .int) (own := RX10) (Qc := sp_Qi D r' (sw_M a q5 fa tr la sl ce pn mn cl le ri lt nm' nc' nl' nr' nt' at9 en9 de mm ma ne us lk sd sf nu gt gl tb sc su)) (by decide) rfl rfl (Nat.le_of_ble_eq_true rfl) ?_
  intro p e s m args below meth c A ls Q hQ S hr hlk hK hG hA hW hl
  have hx := S.1
  have hb := S.2.1
  unfold f_X10_standFor at hf
  have inX10 : ∀ w ∈ u_ws RX10 TX10 32, w ∈ wsX10_standFor := (fun _ h => List.mem_cons_of_mem _ (List.mem_append_right _ h))
  have lk1 := S.2.2.2.2 (Cond.fieldLink RX10 31 "ShortProofsModel" "letters" "[I") (List.mem_of_getElem? (i := 1) rfl)
  have lk2 := S.2.2.2.2 (Cond.fieldLink RX10 61 "ShortProofsModel" "stands" "[I") (List.mem_of_getElem? (i := 3) rfl)
  have lk3 := S.2.2.2.2 (Cond.fieldLink RX10 25 "ShortProofsModel" "lefts" "[I") (List.mem_of_getElem? (i := 4) rfl)
  have lk4 := S.2.2.2.2 (Cond.fieldLink RX10 28 "ShortProofsModel" "rights" "[I") (List.mem_of_getElem? (i := 5) rfl)
  have lk5 := S.2.2.2.2 (Cond.fieldLink RX10 64 "ShortProofsModel" "safes" "[I") (List.mem_of_getElem? (i := 6) rfl)
  have lk6 := S.2.2.2.2 (Cond.fieldLink RX10 22 "ShortProofsModel" "clauses" "[I") (List.mem_of_getElem? (i := 2) rfl)
  refine lv_bipush (v := 24) hx hb dX10_standFor_0 (by decide) ?_
  refine lv_iload_n hx hb dX10_standFor_2 rfl (lv_at hl 1 rfl) ?_
  refine lv_imul hx hb dX10_standFor_3 ?_
  refine lv_iload_n hx hb dX10_standFor_4 rfl (lv_at hl 2 rfl) ?_
  refine lv_iadd hx hb dX10_standFor_5 ?_
  obtain ⟨v1, ev1, hf⟩ := sp_hb hf
  refine sp_topi ev1 ?_
  refine lv_istore (lv' := [(6, .int v1), (0, .ref (a 0)), (1, .int p1), (2, .int p2), (3, .int p3), (4, .int p4), (5, .int p5)]) hx hb dX10_standFor_6 hl (by decide) rfl (fun ls hl => ?_)
  refine lv_aload_n hx hb dX10_standFor_8 rfl (lv_at hl 1 rfl) ?_
  refine sp_get S hK hW inX10 0 rfl rfl 10 (by decide) lk1 rfl dX10_standFor_9 ?_
  refine lv_iload hx hb dX10_standFor_12 (lv_at hl 0 rfl) ?_
  obtain ⟨hin, v2, ev2, hf⟩ := sp_hld hf
  refine sp_iald S hK hW 8 rfl hin ev2 dX10_standFor_14 ?_
  refine lv_bipush (v := (-9)) hx hb dX10_standFor_15 (by decide) ?_
  refine lv_icmp_ne (tgt := 39) hx hb dX10_standFor_17 (by decide) (fun hc => ?_) (fun hc => ?_)
  · have hf := sp_hf hf hc
    refine lv_aload_n hx hb dX10_standFor_39 rfl (lv_at hl 1 rfl) ?_
    refine sp_get S hK hW inX10 0 rfl rfl 24 (by decide) lk2 rfl dX10_standFor_40 ?_
    refine lv_iload hx hb dX10_standFor_43 (lv_at hl 6 rfl) ?_
    refine lv_aload_n hx hb dX10_standFor_45 rfl (lv_at hl 1 rfl) ?_
    refine sp_get S hK hW inX10 0 rfl rfl 8 (by decide) lk3 rfl dX10_standFor_46 ?_
    refine lv_iload hx hb dX10_standFor_49 (lv_at hl 0 rfl) ?_
    obtain ⟨hin, v3, ev3, hf⟩ := sp_hld hf
    refine sp_iald S hK hW 6 rfl hin ev3 dX10_standFor_51 ?_
    refine lv_iadd hx hb dX10_standFor_52 ?_
    obtain ⟨hin, v4, ev4, hf⟩ := sp_hld hf
    refine sp_iald S hK hW 18 rfl hin ev4 dX10_standFor_53 ?_
    refine lv_istore (lv' := [(7, .int v4), (6, .int v1), (0, .ref (a 0)), (1, .int p1), (2, .int p2), (3, .int p3), (4, .int p4), (5, .int p5)]) hx hb dX10_standFor_54 hl (by decide) rfl (fun ls hl => ?_)
    refine lv_aload_n hx hb dX10_standFor_56 rfl (lv_at hl 2 rfl) ?_
    refine sp_get S hK hW inX10 0 rfl rfl 24 (by decide) lk2 rfl dX10_standFor_57 ?_
    refine lv_iload hx hb dX10_standFor_60 (lv_at hl 7 rfl) ?_
    refine lv_aload_n hx hb dX10_standFor_62 rfl (lv_at hl 2 rfl) ?_
    refine sp_get S hK hW inX10 0 rfl rfl 9 (by decide) lk4 rfl dX10_standFor_63 ?_
    refine lv_iload hx hb dX10_standFor_66 (lv_at hl 1 rfl) ?_
    obtain ⟨hin, v5, ev5, hf⟩ := sp_hld hf
    refine sp_iald S hK hW 7 rfl hin ev5 dX10_standFor_68 ?_
    refine lv_iadd hx hb dX10_standFor_69 ?_
    obtain ⟨hin, v6, ev6, hf⟩ := sp_hld hf
    refine sp_iald S hK hW 18 rfl hin ev6 dX10_standFor_70 ?_
    refine lv_istore (lv' := [(8, .int v6), (7, .int v4), (6, .int v1), (0, .ref (a 0)), (1, .int p1), (2, .int p2), (3, .int p3), (4, .int p4), (5, .int p5)]) hx hb dX10_standFor_71 hl (by decide) rfl (fun ls hl => ?_)
    refine lv_iload_n hx hb dX10_standFor_73 rfl (lv_at hl 6 rfl) ?_
    refine lv_iconst (v := 3) hx hb dX10_standFor_74 (by decide) ?_
    obtain ⟨k7, ek7, hf⟩ := sp_hb hf
    have hj7 : ∀ (H : Heap) (locs : List Loc) (ls : Array Slot), k7 = some (r', nm', nc', nl', nr', nt') → sp_wd D A s.heap (sw_M a q5 fa tr la sl ce pn mn cl le ri lt nm nc nl nr nt at9 en9 de mm ma ne us lk sd sf nu gt gl tb sc su) H locs → lv_has ls 9 [(0, .ref (a 0)), (1, .int p1), (2, .int p2), (3, .int p3), (4, .int p4), (6, .int v1), (7, .int v4), (8, .int v6)] → W p l e rmX10_standFor s m args below meth c H locs 0 0 Q (F0 m 101 ls []) := by
      intro H locs ls hf hW hl
      rw [ek7] at hf
      refine lv_iload_n hx hb dX10_standFor_101 rfl (lv_at hl 3 rfl) ?_
      refine lv_iconst (v := 3) hx hb dX10_standFor_102 (by decide) ?_
      obtain ⟨k8, ek8, hf⟩ := sp_hb hf
      have hj8 : ∀ (H : Heap) (locs : List Loc) (ls : Array Slot), k8 = some (r', nm', nc', nl', nr', nt') → sp_wd D A s.heap (sw_M a q5 fa tr la sl ce pn mn cl le ri lt nm nc nl nr nt at9 en9 de mm ma ne us lk sd sf nu gt gl tb sc su) H locs → lv_has ls 9 [(0, .ref (a 0)), (1, .int p1), (3, .int p3), (4, .int p4), (6, .int v1), (7, .int v4), (8, .int v6)] → W p l e rmX10_standFor s m args below meth c H locs 0 0 Q (F0 m 132 ls []) := by
        intro H locs ls hf hW hl
        rw [ek8] at hf
        refine lv_iload_n hx hb dX10_standFor_132 rfl (lv_at hl 2 rfl) ?_
        refine lv_iconst (v := 4) hx hb dX10_standFor_133 (by decide) ?_
        obtain ⟨k9, ek9, hf⟩ := sp_hb hf
        have hj9 : ∀ (H : Heap) (locs : List Loc) (ls : Array Slot), k9 = some (r', nm', nc', nl', nr', nt') → sp_wd D A s.heap (sw_M a q5 fa tr la sl ce pn mn cl le ri lt nm nc nl nr nt at9 en9 de mm ma ne us lk sd sf nu gt gl tb sc su) H locs → lv_has ls 9 [(0, .ref (a 0)), (1, .int p1), (3, .int p3), (4, .int p4), (6, .int v1), (7, .int v4), (8, .int v6)] → W p l e rmX10_standFor s m args below meth c H locs 0 0 Q (F0 m 157 ls []) := by
          intro H locs ls hf hW hl
          rw [ek9] at hf
          refine lv_iload_n hx hb dX10_standFor_157 rfl (lv_at hl 2 rfl) ?_
          refine lv_iconst (v := 4) hx hb dX10_standFor_158 (by decide) ?_
          obtain ⟨k10, ek10, hf⟩ := sp_hb hf
          have hj10 : ∀ (H : Heap) (locs : List Loc) (ls : Array Slot), k10 = some (r', nm', nc', nl', nr', nt') → sp_wd D A s.heap (sw_M a q5 fa tr la sl ce pn mn cl le ri lt nm nc nl nr nt at9 en9 de mm ma ne us lk sd sf nu gt gl tb sc su) H locs → lv_has ls 9 [(0, .ref (a 0)), (3, .int p3), (6, .int v1), (7, .int v4), (8, .int v6)] → W p l e rmX10_standFor s m args below meth c H locs 0 0 Q (F0 m 182 ls []) := by
            intro H locs ls hf hW hl
            rw [ek10] at hf
            refine lv_aload_n hx hb dX10_standFor_182 rfl (lv_at hl 0 rfl) ?_
            refine lv_iload hx hb dX10_standFor_183 (lv_at hl 3 rfl) ?_
            refine lv_iload hx hb dX10_standFor_185 (lv_at hl 4 rfl) ?_
            refine lv_aload_n hx hb dX10_standFor_187 rfl (lv_at hl 0 rfl) ?_
            refine sp_get S hK hW inX10 0 rfl rfl 10 (by decide) lk1 rfl dX10_standFor_188 ?_
            refine lv_iload hx hb dX10_standFor_191 (lv_at hl 2 rfl) ?_
            obtain ⟨hin, v11, ev11, hf⟩ := sp_hld hf
            refine sp_iald S hK hW 8 rfl hin ev11 dX10_standFor_193 ?_
            refine lv_iload_n hx hb dX10_standFor_194 rfl (lv_at hl 1 rfl) ?_
            obtain ⟨⟨r12, c13, c14, c15, c16, c17⟩, hc17, hf⟩ := sp_hc hf
            refine sp_callViP (rest := []) S hK hG hA hW (c_X10_cutNew a fa tr la sl ce pn mn cl le ri lt nm nc nl nr nt at9 en9 de mm ma ne us lk sd sf nu gt gl tb sc su v4 v6 v11 p3 hc17) (by decide) (cwV 4 S.2.2.2.2 gX10_standFor_X10_cutNew rfl rfl rfl (by decide +kernel) (by decide)) 8 0 rfl rfl (sp_pn _) rfl (WS' := sw_M a q5 fa tr la sl ce pn mn cl le ri lt c13 c14 c15 c16 c17 at9 en9 de mm ma ne us lk sd sf nu gt gl tb sc su) (sp_pn' _) rfl hl.1 (Nat.le_of_ble_eq_true rfl) dX10_standFor_195 ⟨Nat.zero_le _, Nat.zero_le _⟩ rfl (fun H locs hW => ?_)
            have q0 := Option.some.inj hf
            obtain ⟨q1, z1⟩ := Prod.mk.inj q0
            obtain ⟨q2, z2⟩ := Prod.mk.inj z1
            obtain ⟨q3, z3⟩ := Prod.mk.inj z2
            obtain ⟨q4, z4⟩ := Prod.mk.inj z3
            obtain ⟨q5, z5⟩ := Prod.mk.inj z4
            subst q1
            subst q2
            subst q3
            subst q4
            subst q5
            subst z5
            exact sp_iret S hr hlk hW hQ dX10_standFor_198
          refine lv_icmp_ne (tgt := 182) hx hb dX10_standFor_159 (by decide) (fun hc => ?_) (fun hc => ?_)
          · have hf := sp_hf hf hc
            exact hj10 _ _ _ hf hW (lv_sub hl [0, 2, 4, 5, 6] rfl)
          · have hf := sp_ht hf hc
            refine lv_aload_n hx hb dX10_standFor_162 rfl (lv_at hl 0 rfl) ?_
            refine lv_iload_n hx hb dX10_standFor_163 rfl (lv_at hl 1 rfl) ?_
            refine lv_aload_n hx hb dX10_standFor_164 rfl (lv_at hl 0 rfl) ?_
            refine sp_get S hK hW inX10 0 rfl rfl 9 (by decide) lk4 rfl dX10_standFor_165 ?_
            refine lv_iload hx hb dX10_standFor_168 (lv_at hl 4 rfl) ?_
            obtain ⟨hin, v18, ev18, hf⟩ := sp_hld hf
            refine sp_iald S hK hW 7 rfl hin ev18 dX10_standFor_170 ?_
            refine lv_iload hx hb dX10_standFor_171 (lv_at hl 3 rfl) ?_
            obtain ⟨r19, hc19, hf⟩ := sp_hc hf
            refine sp_callViP (rest := []) S hK hG hA hW (c_X10_isUnit a fa tr la sl ce pn mn cl le ri lt nm nc nl nr nt at9 en9 de mm ma ne us lk sd sf nu gt gl tb sc su p1 v18 p4 hc19) (by decide) (cwV 3 S.2.2.2.2 gX10_standFor_X10_isUnit rfl rfl rfl (by decide +kernel) (by decide)) 8 0 rfl rfl (sp_pn _) rfl (WS' := sw_M a q5 fa tr la sl ce pn mn cl le ri lt nm nc nl nr nt at9 en9 de mm ma ne us lk sd sf nu gt gl tb sc su) (sp_pn' _) rfl hl.1 (Nat.le_of_ble_eq_true rfl) dX10_standFor_173 ⟨Nat.zero_le _, Nat.zero_le _⟩ rfl (fun H locs hW => ?_)
            refine lv_if_eq (tgt := 182) hx hb dX10_standFor_176 (by decide) (fun hc => ?_) (fun hc => ?_)
            · have hf := sp_ht hf hc
              exact hj10 _ _ _ hf hW (lv_sub hl [0, 2, 4, 5, 6] rfl)
            · have hf := sp_hf hf hc
              refine lv_iload hx hb dX10_standFor_179 (lv_at hl 5 rfl) ?_
              have q0 := Option.some.inj hf
              obtain ⟨q1, z1⟩ := Prod.mk.inj q0
              obtain ⟨q2, z2⟩ := Prod.mk.inj z1
              obtain ⟨q3, z3⟩ := Prod.mk.inj z2
              obtain ⟨q4, z4⟩ := Prod.mk.inj z3
              obtain ⟨q5, z5⟩ := Prod.mk.inj z4
              subst q1
              subst q2
              subst q3
              subst q4
              subst q5
              subst z5
              exact sp_iret S hr hlk hW hQ dX10_standFor_181
        refine lv_icmp_ne (tgt := 157) hx hb dX10_standFor_134 (by decide) (fun hc => ?_) (fun hc => ?_)
        · have hf := sp_hf hf hc
          exact hj9 _ _ _ hf hW (lv_sub hl [0, 1, 2, 3, 4, 5, 6] rfl)
        · have hf := sp_ht hf hc
          refine lv_aload_n hx hb dX10_standFor_137 rfl (lv_at hl 0 rfl) ?_
          refine lv_iload_n hx hb dX10_standFor_138 rfl (lv_at hl 1 rfl) ?_
          refine lv_aload_n hx hb dX10_standFor_139 rfl (lv_at hl 0 rfl) ?_
          refine sp_get S hK hW inX10 0 rfl rfl 8 (by decide) lk3 rfl dX10_standFor_140 ?_
          refine lv_iload hx hb dX10_standFor_143 (lv_at hl 4 rfl) ?_
          obtain ⟨hin, v20, ev20, hf⟩ := sp_hld hf
          refine sp_iald S hK hW 6 rfl hin ev20 dX10_standFor_145 ?_
          refine lv_iload hx hb dX10_standFor_146 (lv_at hl 3 rfl) ?_
          obtain ⟨r21, hc21, hf⟩ := sp_hc hf
          refine sp_callViP (rest := []) S hK hG hA hW (c_X10_isUnit a fa tr la sl ce pn mn cl le ri lt nm nc nl nr nt at9 en9 de mm ma ne us lk sd sf nu gt gl tb sc su p1 v20 p4 hc21) (by decide) (cwV 3 S.2.2.2.2 gX10_standFor_X10_isUnit rfl rfl rfl (by decide +kernel) (by decide)) 8 0 rfl rfl (sp_pn _) rfl (WS' := sw_M a q5 fa tr la sl ce pn mn cl le ri lt nm nc nl nr nt at9 en9 de mm ma ne us lk sd sf nu gt gl tb sc su) (sp_pn' _) rfl hl.1 (Nat.le_of_ble_eq_true rfl) dX10_standFor_148 ⟨Nat.zero_le _, Nat.zero_le _⟩ rfl (fun H locs hW => ?_)
          refine lv_if_eq (tgt := 157) hx hb dX10_standFor_151 (by decide) (fun hc => ?_) (fun hc => ?_)
          · have hf := sp_ht hf hc
            exact hj9 _ _ _ hf hW (lv_sub hl [0, 1, 2, 3, 4, 5, 6] rfl)
          · have hf := sp_hf hf hc
            refine lv_iload hx hb dX10_standFor_154 (lv_at hl 6 rfl) ?_
            have q0 := Option.some.inj hf
            obtain ⟨q1, z1⟩ := Prod.mk.inj q0
            obtain ⟨q2, z2⟩ := Prod.mk.inj z1
            obtain ⟨q3, z3⟩ := Prod.mk.inj z2
            obtain ⟨q4, z4⟩ := Prod.mk.inj z3
            obtain ⟨q5, z5⟩ := Prod.mk.inj z4
            subst q1
            subst q2
            subst q3
            subst q4
            subst q5
            subst z5
            exact sp_iret S hr hlk hW hQ dX10_standFor_156
      refine lv_icmp_ne (tgt := 132) hx hb dX10_standFor_103 (by decide) (fun hc => ?_) (fun hc => ?_)
      · have hf := sp_hf hf hc
        exact hj8 _ _ _ hf hW (lv_sub hl [0, 1, 3, 4, 5, 6, 7] rfl)
      · have hf := sp_ht hf hc
        refine lv_aload_n hx hb dX10_standFor_106 rfl (lv_at hl 0 rfl) ?_
        refine sp_get S hK hW inX10 0 rfl rfl 25 (by decide) lk5 rfl dX10_standFor_107 ?_
        refine lv_iload_n hx hb dX10_standFor_110 rfl (lv_at hl 2 rfl) ?_
        obtain ⟨hin, v22, ev22, hf⟩ := sp_hld hf
        refine sp_iald S hK hW 19 rfl hin ev22 dX10_standFor_111 ?_
        refine lv_bipush (v := 6) hx hb dX10_standFor_112 (by decide) ?_
        refine lv_aload_n hx hb dX10_standFor_114 rfl (lv_at hl 0 rfl) ?_
        refine sp_get S hK hW inX10 0 rfl rfl 10 (by decide) lk1 rfl dX10_standFor_115 ?_
        refine lv_iload hx hb dX10_standFor_118 (lv_at hl 5 rfl) ?_
        obtain ⟨hin, v23, ev23, hf⟩ := sp_hld hf
        refine sp_iald S hK hW 8 rfl hin ev23 dX10_standFor_120 ?_
        refine lv_iadd hx hb dX10_standFor_121 ?_
        refine lv_ishr hx hb dX10_standFor_122 ?_
        refine lv_iconst (v := 1) hx hb dX10_standFor_123 (by decide) ?_
        refine lv_iand hx hb dX10_standFor_124 ?_
        refine lv_iconst (v := 1) hx hb dX10_standFor_125 (by decide) ?_
        refine lv_icmp_ne (tgt := 132) hx hb dX10_standFor_126 (by decide) (fun hc => ?_) (fun hc => ?_)
        · have hf := sp_hf hf hc
          exact hj8 _ _ _ hf hW (lv_sub hl [0, 1, 3, 4, 5, 6, 7] rfl)
        · have hf := sp_ht hf hc
          refine lv_iload hx hb dX10_standFor_129 (lv_at hl 7 rfl) ?_
          have q0 := Option.some.inj hf
          obtain ⟨q1, z1⟩ := Prod.mk.inj q0
          obtain ⟨q2, z2⟩ := Prod.mk.inj z1
          obtain ⟨q3, z3⟩ := Prod.mk.inj z2
          obtain ⟨q4, z4⟩ := Prod.mk.inj z3
          obtain ⟨q5, z5⟩ := Prod.mk.inj z4
          subst q1
          subst q2
          subst q3
          subst q4
          subst q5
          subst z5
          exact sp_iret S hr hlk hW hQ dX10_standFor_131
    refine lv_icmp_ne (tgt := 101) hx hb dX10_standFor_75 (by decide) (fun hc => ?_) (fun hc => ?_)
    · have hf := sp_hf hf hc
      exact hj7 _ _ _ hf hW (lv_sub hl [3, 4, 5, 6, 7, 2, 1, 0] rfl)
    · have hf := sp_ht hf hc
      refine lv_aload_n hx hb dX10_standFor_78 rfl (lv_at hl 3 rfl) ?_
      refine sp_get S hK hW inX10 0 rfl rfl 25 (by decide) lk5 rfl dX10_standFor_79 ?_
      refine lv_iload_n hx hb dX10_standFor_82 rfl (lv_at hl 5 rfl) ?_
      obtain ⟨hin, v24, ev24, hf⟩ := sp_hld hf
      refine sp_iald S hK hW 19 rfl hin ev24 dX10_standFor_83 ?_
      refine lv_aload_n hx hb dX10_standFor_84 rfl (lv_at hl 3 rfl) ?_
      refine sp_get S hK hW inX10 0 rfl rfl 10 (by decide) lk1 rfl dX10_standFor_85 ?_
      refine lv_iload hx hb dX10_standFor_88 (lv_at hl 2 rfl) ?_
      obtain ⟨hin, v25, ev25, hf⟩ := sp_hld hf
      refine sp_iald S hK hW 8 rfl hin ev25 dX10_standFor_90 ?_
      refine lv_ishr hx hb dX10_standFor_91 ?_
      refine lv_iconst (v := 1) hx hb dX10_standFor_92 (by decide) ?_
      refine lv_iand hx hb dX10_standFor_93 ?_
      refine lv_iconst (v := 1) hx hb dX10_standFor_94 (by decide) ?_
      refine lv_icmp_ne (tgt := 101) hx hb dX10_standFor_95 (by decide) (fun hc => ?_) (fun hc => ?_)
      · have hf := sp_hf hf hc
        exact hj7 _ _ _ hf hW (lv_sub hl [3, 4, 5, 6, 7, 2, 1, 0] rfl)
      · have hf := sp_ht hf hc
        refine lv_iload hx hb dX10_standFor_98 (lv_at hl 1 rfl) ?_
        have q0 := Option.some.inj hf
        obtain ⟨q1, z1⟩ := Prod.mk.inj q0
        obtain ⟨q2, z2⟩ := Prod.mk.inj z1
        obtain ⟨q3, z3⟩ := Prod.mk.inj z2
        obtain ⟨q4, z4⟩ := Prod.mk.inj z3
        obtain ⟨q5, z5⟩ := Prod.mk.inj z4
        subst q1
        subst q2
        subst q3
        subst q4
        subst q5
        subst z5
        exact sp_iret S hr hlk hW hQ dX10_standFor_100
  · have hf := sp_ht hf hc
    refine lv_aload_n hx hb dX10_standFor_20 rfl (lv_at hl 1 rfl) ?_
    refine lv_aload_n hx hb dX10_standFor_21 rfl (lv_at hl 1 rfl) ?_
    refine sp_get S hK hW inX10 0 rfl rfl 7 (by decide) lk6 rfl dX10_standFor_22 ?_
    refine lv_iload hx hb dX10_standFor_25 (lv_at hl 0 rfl) ?_
    obtain ⟨hin, v26, ev26, hf⟩ := sp_hld hf
    refine sp_iald S hK hW 5 rfl hin ev26 dX10_standFor_27 ?_
    refine lv_bipush (v := (-9)) hx hb dX10_standFor_28 (by decide) ?_
    refine lv_bipush (v := (-9)) hx hb dX10_standFor_30 (by decide) ?_
    refine lv_bipush (v := (-9)) hx hb dX10_standFor_32 (by decide) ?_
    refine lv_iload_n hx hb dX10_standFor_34 rfl (lv_at hl 4 rfl) ?_
    obtain ⟨⟨r27, c28, c29, c30, c31, c32⟩, hc32, hf⟩ := sp_hc hf
    refine sp_callViP (rest := []) S hK hG hA hW (c_X10_joined a fa tr la sl ce pn mn cl le ri lt nm nc nl nr nt at9 en9 de mm ma ne us lk sd sf nu gt gl tb sc su v26 (-9 : Int32) (-9 : Int32) (-9 : Int32) p3 hc32) (by decide) (cwV 5 S.2.2.2.2 gX10_standFor_X10_joined rfl rfl rfl (by decide +kernel) (by decide)) 8 0 rfl rfl (sp_pn _) rfl (WS' := sw_M a q5 fa tr la sl ce pn mn cl le ri lt c28 c29 c30 c31 c32 at9 en9 de mm ma ne us lk sd sf nu gt gl tb sc su) (sp_pn' _) rfl hl.1 (Nat.le_of_ble_eq_true rfl) dX10_standFor_35 ⟨Nat.zero_le _, Nat.zero_le _⟩ rfl (fun H locs hW => ?_)
    have q0 := Option.some.inj hf
    obtain ⟨q1, z1⟩ := Prod.mk.inj q0
    obtain ⟨q2, z2⟩ := Prod.mk.inj z1
    obtain ⟨q3, z3⟩ := Prod.mk.inj z2
    obtain ⟨q4, z4⟩ := Prod.mk.inj z3
    obtain ⟨q5, z5⟩ := Prod.mk.inj z4
    subst q1
    subst q2
    subst q3
    subst q4
    subst q5
    subst z5
    exact sp_iret S hr hlk hW hQ dX10_standFor_38

def f_X10_cutUnits_L125 (v28 : Int32) (k36 : Int32 → Option (Int32 × Int32 × (Nat → Int32) × (Nat → Int32) × (Nat → Int32) × (Nat → Int32))) (rec125 : (Int32) → Option (Int32 × Int32 × (Nat → Int32) × (Nat → Int32) × (Nat → Int32) × (Nat → Int32))) (s9 : Int32) : Option (Int32 × Int32 × (Nat → Int32) × (Nat → Int32) × (Nat → Int32) × (Nat → Int32)) := match s9 with
  | y34 => if ((v28 >>> (y34 &&& 31)) &&& (1 : Int32)) = 0 then (if ((v28 >>> (((6 : Int32) + y34) &&& 31)) &&& (1 : Int32)) = 0 then (sp_bnd (y34 + (1 : Int32)) (fun v50 => rec125 v50)) else (k36 y34)) else (k36 y34)
theorem f_X10_cutUnits_L125_eq {rec125 : (Int32) → Option (Int32 × Int32 × (Nat → Int32) × (Nat → Int32) × (Nat → Int32) × (Nat → Int32))} {v28 : Int32} {k36 : Int32 → Option (Int32 × Int32 × (Nat → Int32) × (Nat → Int32) × (Nat → Int32) × (Nat → Int32))} {y34 : Int32} : f_X10_cutUnits_L125 v28 k36 rec125 y34 = (if ((v28 >>> (y34 &&& 31)) &&& (1 : Int32)) = 0 then (if ((v28 >>> (((6 : Int32) + y34) &&& 31)) &&& (1 : Int32)) = 0 then (sp_bnd (y34 + (1 : Int32)) (fun v50 => rec125 v50)) else (k36 y34)) else (k36 y34)) := rfl
def f_X10_cutUnits_L24 (k18 : Int32 → Int32 → (Nat → Int32) → (Nat → Int32) → (Nat → Int32) → (Nat → Int32) → Option (Int32 × Int32 × (Nat → Int32) × (Nat → Int32) × (Nat → Int32) × (Nat → Int32))) (p1 : Int32) (p2 : Int32) (mn : Nat → Int32) (cl : Nat → Int32) (le : Nat → Int32) (ri : Nat → Int32) (lt : Nat → Int32) (sd : Nat → Int32) (rec24 : (Int32 × Int32 × Int32 × (Nat → Int32) × (Nat → Int32) × (Nat → Int32) × (Nat → Int32)) → Option (Int32 × Int32 × (Nat → Int32) × (Nat → Int32) × (Nat → Int32) × (Nat → Int32))) (s9 : Int32 × Int32 × Int32 × (Nat → Int32) × (Nat → Int32) × (Nat → Int32) × (Nat → Int32)) : Option (Int32 × Int32 × (Nat → Int32) × (Nat → Int32) × (Nat → Int32) × (Nat → Int32)) := match s9 with
  | (y5, y6, c7, c8, c9, c10, c11) => if y6 < 0 then (k18 y5 c7 c8 c9 c10 c11) else (Option.bind (f_X10_isUnit p1 y6 p2 mn cl le ri lt) (fun r19 => sp_bnd (fun (x20 : Int32) (c21 : Int32) (c22 : Nat → Int32) (c23 : Nat → Int32) (c24 : Nat → Int32) (c25 : Nat → Int32) => sp_bnd (y6 + (-1 : Int32)) (fun v27 => rec24 (x20, v27, c21, c22, c23, c24, c25))) (fun k26 => if r19 = 0 then (k26 y5 c7 c8 c9 c10 c11) else (sp_ld cl 288 (((24 : Int32) * p1) + y6) (fun v28 => sp_bnd (fun (x29 : Int32) => sp_ld c8 64 y5 (fun v31 => if (v31 &&& x29) = 0 then (k26 y5 c7 c8 c9 c10 c11) else (sp_ld sd 48 y6 (fun v32 => sp_ld c8 64 v32 (fun v33 => if (v33 &&& v28) = 0 then (k26 v32 c7 c8 c9 c10 c11) else (sp_bnd (fun (x35 : Int32) => sp_bnd (fun (x37 : Int32) => sp_bnd (fun (x39 : Int32) => sp_ld c8 64 x37 (fun v41 => sp_ld c8 64 x39 (fun v42 => Option.bind (f_X10_cutOf v41 v42 x35) (fun r43 => if r43 = (-9 : Int32) then (some ((-9 : Int32), c7, c8, c9, c10, c11)) else (Option.bind (f_X10_add r43 x37 x39 x35 c7 c8 c9 c10 c11) (fun q9 => match q9 with | (r44, c45, c46, c47, c48, c49) => k26 r44 c45 c46 c47 c48 c49)))))) (fun k40 => if (64 : Int32) ≤ v28 then (k40 v32) else (k40 y5))) (fun k38 => if (64 : Int32) ≤ v28 then (k38 y5) else (k38 v32))) (fun k36 => sp_lp (f_X10_cutUnits_L125 v28 k36) sp_F (0 : Int32)))))))) (fun k30 => if (64 : Int32) ≤ v28 then (k30 (v28 >>> ((6 : Int32) &&& 31))) else (k30 (v28 <<< ((6 : Int32) &&& 31)))))))))
theorem f_X10_cutUnits_L24_eq {rec24 : (Int32 × Int32 × Int32 × (Nat → Int32) × (Nat → Int32) × (Nat → Int32) × (Nat → Int32)) → Option (Int32 × Int32 × (Nat → Int32) × (Nat → Int32) × (Nat → Int32) × (Nat → Int32))} {k18 : Int32 → Int32 → (Nat → Int32) → (Nat → Int32) → (Nat → Int32) → (Nat → Int32) → Option (Int32 × Int32 × (Nat → Int32) × (Nat → Int32) × (Nat → Int32) × (Nat → Int32))} {p1 : Int32} {p2 : Int32} {mn : Nat → Int32} {cl : Nat → Int32} {le : Nat → Int32} {ri : Nat → Int32} {lt : Nat → Int32} {sd : Nat → Int32} {y5 : Int32} {y6 : Int32} {c7 : Int32} {c8 : Nat → Int32} {c9 : Nat → Int32} {c10 : Nat → Int32} {c11 : Nat → Int32} : f_X10_cutUnits_L24 k18 p1 p2 mn cl le ri lt sd rec24 (y5, y6, c7, c8, c9, c10, c11) = (if y6 < 0 then (k18 y5 c7 c8 c9 c10 c11) else (Option.bind (f_X10_isUnit p1 y6 p2 mn cl le ri lt) (fun r19 => sp_bnd (fun (x20 : Int32) (c21 : Int32) (c22 : Nat → Int32) (c23 : Nat → Int32) (c24 : Nat → Int32) (c25 : Nat → Int32) => sp_bnd (y6 + (-1 : Int32)) (fun v27 => rec24 (x20, v27, c21, c22, c23, c24, c25))) (fun k26 => if r19 = 0 then (k26 y5 c7 c8 c9 c10 c11) else (sp_ld cl 288 (((24 : Int32) * p1) + y6) (fun v28 => sp_bnd (fun (x29 : Int32) => sp_ld c8 64 y5 (fun v31 => if (v31 &&& x29) = 0 then (k26 y5 c7 c8 c9 c10 c11) else (sp_ld sd 48 y6 (fun v32 => sp_ld c8 64 v32 (fun v33 => if (v33 &&& v28) = 0 then (k26 v32 c7 c8 c9 c10 c11) else (sp_bnd (fun (x35 : Int32) => sp_bnd (fun (x37 : Int32) => sp_bnd (fun (x39 : Int32) => sp_ld c8 64 x37 (fun v41 => sp_ld c8 64 x39 (fun v42 => Option.bind (f_X10_cutOf v41 v42 x35) (fun r43 => if r43 = (-9 : Int32) then (some ((-9 : Int32), c7, c8, c9, c10, c11)) else (Option.bind (f_X10_add r43 x37 x39 x35 c7 c8 c9 c10 c11) (fun q9 => match q9 with | (r44, c45, c46, c47, c48, c49) => k26 r44 c45 c46 c47 c48 c49)))))) (fun k40 => if (64 : Int32) ≤ v28 then (k40 v32) else (k40 y5))) (fun k38 => if (64 : Int32) ≤ v28 then (k38 y5) else (k38 v32))) (fun k36 => sp_lp (f_X10_cutUnits_L125 v28 k36) sp_F (0 : Int32)))))))) (fun k30 => if (64 : Int32) ≤ v28 then (k30 (v28 >>> ((6 : Int32) &&& 31))) else (k30 (v28 <<< ((6 : Int32) &&& 31)))))))))) := rfl
def f_X10_cutUnits (p1 : Int32) (p2 : Int32) (mn : Nat → Int32) (cl : Nat → Int32) (le : Nat → Int32) (ri : Nat → Int32) (lt : Nat → Int32) (nm : Int32) (nc : Nat → Int32) (nl : Nat → Int32) (nr : Nat → Int32) (nt : Nat → Int32) (sd : Nat → Int32) : Option (Int32 × Int32 × (Nat → Int32) × (Nat → Int32) × (Nat → Int32) × (Nat → Int32)) := sp_ld mn 12 p1 (fun v1 => sp_ld sd 48 (v1 - (1 : Int32)) (fun v2 => sp_ld mn 12 p1 (fun v3 => sp_bnd (v3 - (1 : Int32)) (fun v4 => sp_bnd (fun (x12 : Int32) (c13 : Int32) (c14 : Nat → Int32) (c15 : Nat → Int32) (c16 : Nat → Int32) (c17 : Nat → Int32) => some (x12, c13, c14, c15, c16, c17)) (fun k18 => sp_lp (f_X10_cutUnits_L24 k18 p1 p2 mn cl le ri lt sd) sp_F (v2, v4, nm, nc, nl, nr, nt))))))
def rmX10_cutUnits : Room := { frames := 3, cells := 0, slots := 0, locals := 67 }
set_option maxRecDepth 4000 in
theorem c_X10_cutUnits {l : Launch} {D : va_G} {q5 : Nat → ClassId} (a : Nat → Nat) (fa : Int32) (tr : Int32) (la : Nat → Int32) (sl : Nat → Int32) (ce : Nat → Int32) (pn : Int32) (mn : Nat → Int32) (cl : Nat → Int32) (le : Nat → Int32) (ri : Nat → Int32) (lt : Nat → Int32) (nm : Int32) (nc : Nat → Int32) (nl : Nat → Int32) (nr : Nat → Int32) (nt : Nat → Int32) (at9 : Int32) (en9 : Int32) (de : Nat → Int32) (mm : Int32) (ma : Nat → Int32) (ne : Nat → Int32) (us : Nat → Int32) (lk : Nat → Int32) (sd : Nat → Int32) (sf : Nat → Int32) (nu : Nat → Int32) (gt : Nat → Int64) (gl : Nat → Int32) (tb : Nat → Int64) (sc : Nat → Int32) (su : Nat → Int32) (p1 : Int32) (p2 : Int32) {r' : Int32} {nm' : Int32} {nc' : Nat → Int32} {nl' : Nat → Int32} {nr' : Nat → Int32} {nt' : Nat → Int32} (hf : f_X10_cutUnits p1 p2 mn cl le ri lt nm nc nl nr nt sd = some (r', nm', nc', nl', nr', nt')) : sp_Ci l yX10_cutUnits wsX10_cutUnits rmX10_cutUnits D q5 0 [.ref (a 0), .int p1, .int p2] (sw_M a q5 fa tr la sl ce pn mn cl le ri lt nm nc nl nr nt at9 en9 de mm ma ne us lk sd sf nu gt gl tb sc su) r' (sw_M a q5 fa tr la sl ce pn mn cl le ri lt nm' nc' nl' nr' nt' at9 en9 de mm ma ne us lk sd sf nu gt gl tb sc su) := by
  intro sz
  refine sp_of (cc := cX10_cutUnits) (maxL := 12) (ret := some .int) (own := RX10) (Qc := sp_Qi D r' (sw_M a q5 fa tr la sl ce pn mn cl le ri lt nm' nc' nl' nr' nt' at9 en9 de mm ma ne us lk sd sf nu gt gl tb sc su)) (by decide) rfl rfl (Nat.le_of_ble_eq_true rfl) ?_
  intro p e s m args below meth c A ls Q hQ S hr hlk hK hG hA hW hl
  have hx := S.1
  have hb := S.2.1
  unfold f_X10_cutUnits at hf
  have inX10 : ∀ w ∈ u_ws RX10 TX10 32, w ∈ wsX10_cutUnits := (fun _ h => List.mem_cons_of_mem _ (List.mem_append_right _ h))
  have lk1 := S.2.2.2.2 (Cond.fieldLink RX10 61 "ShortProofsModel" "stands" "[I") (List.mem_of_getElem? (i := 1) rfl)
  have lk2 := S.2.2.2.2 (Cond.fieldLink RX10 19 "ShortProofsModel" "many" "[I") (List.mem_of_getElem? (i := 2) rfl)
  have lk3 := S.2.2.2.2 (Cond.fieldLink RX10 22 "ShortProofsModel" "clauses" "[I") (List.mem_of_getElem? (i := 3) rfl)
  have lk4 := S.2.2.2.2 (Cond.fieldLink RX10 34 "ShortProofsModel" "newClause" "[I") (List.mem_of_getElem? (i := 4) rfl)
  refine lv_aload_n hx hb dX10_cutUnits_0 rfl (lv_at hl 0 rfl) ?_
  refine sp_get S hK hW inX10 0 rfl rfl 24 (by decide) lk1 rfl dX10_cutUnits_1 ?_
  refine lv_aload_n hx hb dX10_cutUnits_4 rfl (lv_at hl 0 rfl) ?_
  refine sp_get S hK hW inX10 0 rfl rfl 6 (by decide) lk2 rfl dX10_cutUnits_5 ?_
  refine lv_iload_n hx hb dX10_cutUnits_8 rfl (lv_at hl 1 rfl) ?_
  obtain ⟨hin, v1, ev1, hf⟩ := sp_hld hf
  refine sp_iald S hK hW 4 rfl hin ev1 dX10_cutUnits_9 ?_
  refine lv_iconst (v := 1) hx hb dX10_cutUnits_10 (by decide) ?_
  refine lv_isub hx hb dX10_cutUnits_11 ?_
  obtain ⟨hin, v2, ev2, hf⟩ := sp_hld hf
  refine sp_iald S hK hW 18 rfl hin ev2 dX10_cutUnits_12 ?_
  refine lv_istore_n (lv' := [(3, .int v2), (0, .ref (a 0)), (1, .int p1), (2, .int p2)]) hx hb dX10_cutUnits_13 rfl hl (by decide) rfl (fun ls hl => ?_)
  refine lv_aload_n hx hb dX10_cutUnits_14 rfl (lv_at hl 1 rfl) ?_
  refine sp_get S hK hW inX10 0 rfl rfl 6 (by decide) lk2 rfl dX10_cutUnits_15 ?_
  refine lv_iload_n hx hb dX10_cutUnits_18 rfl (lv_at hl 2 rfl) ?_
  obtain ⟨hin, v3, ev3, hf⟩ := sp_hld hf
  refine sp_iald S hK hW 4 rfl hin ev3 dX10_cutUnits_19 ?_
  refine lv_iconst (v := 1) hx hb dX10_cutUnits_20 (by decide) ?_
  refine lv_isub hx hb dX10_cutUnits_21 ?_
  obtain ⟨v4, ev4, hf⟩ := sp_hb hf
  refine sp_topi ev4 ?_
  refine lv_istore (lv' := [(4, .int v4), (3, .int v2), (0, .ref (a 0)), (1, .int p1), (2, .int p2)]) hx hb dX10_cutUnits_22 hl (by decide) rfl (fun ls hl => ?_)
  obtain ⟨k18, ek18, hf⟩ := sp_hb hf
  have hj18 : ∀ (x12 : Int32) (c13 : Int32) (c14 : Nat → Int32) (c15 : Nat → Int32) (c16 : Nat → Int32) (c17 : Nat → Int32) (H : Heap) (locs : List Loc) (ls : Array Slot), k18 x12 c13 c14 c15 c16 c17 = some (r', nm', nc', nl', nr', nt') → sp_wd D A s.heap (sw_M a q5 fa tr la sl ce pn mn cl le ri lt c13 c14 c15 c16 c17 at9 en9 de mm ma ne us lk sd sf nu gt gl tb sc su) H locs → lv_has ls 12 [(3, .int x12)] → W p l e rmX10_cutUnits s m args below meth c H locs 0 0 Q (F0 m 234 ls []) := by
    intro x12 c13 c14 c15 c16 c17 H locs ls hf hW hl
    rw [ek18] at hf
    refine lv_iload_n hx hb dX10_cutUnits_234 rfl (lv_at hl 0 rfl) ?_
    have q0 := Option.some.inj hf
    obtain ⟨q1, z1⟩ := Prod.mk.inj q0
    obtain ⟨q2, z2⟩ := Prod.mk.inj z1
    obtain ⟨q3, z3⟩ := Prod.mk.inj z2
    obtain ⟨q4, z4⟩ := Prod.mk.inj z3
    obtain ⟨q5, z5⟩ := Prod.mk.inj z4
    subst q1
    subst q2
    subst q3
    subst q4
    subst q5
    subst z5
    exact sp_iret S hr hlk hW hQ dX10_cutUnits_235
  have hlp24 : ∀ (n9 : Nat) (y5 : Int32) (y6 : Int32) (c7 : Int32) (c8 : Nat → Int32) (c9 : Nat → Int32) (c10 : Nat → Int32) (c11 : Nat → Int32) (H : Heap) (locs : List Loc) (ls : Array Slot), sp_lp (f_X10_cutUnits_L24 k18 p1 p2 mn cl le ri lt sd) n9 (y5, y6, c7, c8, c9, c10, c11) = some (r', nm', nc', nl', nr', nt') → sp_wd D A s.heap (sw_M a q5 fa tr la sl ce pn mn cl le ri lt c7 c8 c9 c10 c11 at9 en9 de mm ma ne us lk sd sf nu gt gl tb sc su) H locs → lv_has ls 12 [(0, .ref (a 0)), (1, .int p1), (2, .int p2), (3, .int y5), (4, .int y6)] → W p l e rmX10_cutUnits s m args below meth c H locs 0 0 Q (F0 m 24 ls []) := by
    intro n9
    induction n9 with
    | zero =>
      intro y5 y6 c7 c8 c9 c10 c11 H locs ls hf hW hl
      exact (sp_lp0 hf).elim
    | succ n9 ih24 =>
      intro y5 y6 c7 c8 c9 c10 c11 H locs ls hf hW hl
      have hf := sp_lpS hf
      rw [f_X10_cutUnits_L24_eq] at hf
      refine lv_iload hx hb dX10_cutUnits_24 (lv_at hl 4 rfl) ?_
      refine lv_if_lt (tgt := 234) hx hb dX10_cutUnits_26 (by decide) (fun hc => ?_) (fun hc => ?_)
      · have hf := sp_ht hf hc
        exact hj18 _ _ _ _ _ _ _ _ _ hf hW (lv_sub hl [3] rfl)
      · have hf := sp_hf hf hc
        refine lv_aload_n hx hb dX10_cutUnits_29 rfl (lv_at hl 0 rfl) ?_
        refine lv_iload_n hx hb dX10_cutUnits_30 rfl (lv_at hl 1 rfl) ?_
        refine lv_iload hx hb dX10_cutUnits_31 (lv_at hl 4 rfl) ?_
        refine lv_iload_n hx hb dX10_cutUnits_33 rfl (lv_at hl 2 rfl) ?_
        obtain ⟨r19, hc19, hf⟩ := sp_hc hf
        refine sp_callViP (rest := []) S hK hG hA hW (c_X10_isUnit a fa tr la sl ce pn mn cl le ri lt c7 c8 c9 c10 c11 at9 en9 de mm ma ne us lk sd sf nu gt gl tb sc su p1 y6 p2 hc19) (by decide) (cwV 3 S.2.2.2.2 gX10_cutUnits_X10_isUnit rfl rfl rfl (by decide +kernel) (by decide)) 8 0 rfl rfl (sp_pn _) rfl (WS' := sw_M a q5 fa tr la sl ce pn mn cl le ri lt c7 c8 c9 c10 c11 at9 en9 de mm ma ne us lk sd sf nu gt gl tb sc su) (sp_pn' _) rfl hl.1 (Nat.le_of_ble_eq_true rfl) dX10_cutUnits_34 ⟨Nat.zero_le _, Nat.zero_le _⟩ rfl (fun H locs hW => ?_)
        obtain ⟨k26, ek26, hf⟩ := sp_hb hf
        have hj26 : ∀ (x20 : Int32) (c21 : Int32) (c22 : Nat → Int32) (c23 : Nat → Int32) (c24 : Nat → Int32) (c25 : Nat → Int32) (H : Heap) (locs : List Loc) (ls : Array Slot), k26 x20 c21 c22 c23 c24 c25 = some (r', nm', nc', nl', nr', nt') → sp_wd D A s.heap (sw_M a q5 fa tr la sl ce pn mn cl le ri lt c21 c22 c23 c24 c25 at9 en9 de mm ma ne us lk sd sf nu gt gl tb sc su) H locs → lv_has ls 12 [(0, .ref (a 0)), (1, .int p1), (2, .int p2), (3, .int x20), (4, .int y6)] → W p l e rmX10_cutUnits s m args below meth c H locs 0 0 Q (F0 m 228 ls []) := by
          intro x20 c21 c22 c23 c24 c25 H locs ls hf hW hl
          rw [ek26] at hf
          obtain ⟨v27, ev27, hf⟩ := sp_hb hf
          refine lv_iinc (v := v27) (lv' := [(4, .int v27), (0, .ref (a 0)), (1, .int p1), (2, .int p2), (3, .int x20)]) hx hb dX10_cutUnits_228 hl (k := 4) rfl (by rw [ev27]; rfl) (by decide) rfl (fun ls hl => ?_)
          refine lv_goto (tgt := 24) hx hb dX10_cutUnits_231 (by decide) ?_
          exact ih24 _ _ _ _ _ _ _ _ _ _ hf hW (lv_sub hl [1, 2, 3, 4, 0] rfl)
        refine lv_if_ne (tgt := 43) hx hb dX10_cutUnits_37 (by decide) (fun hc => ?_) (fun hc => ?_)
        · have hf := sp_hf hf hc
          refine lv_aload_n hx hb dX10_cutUnits_43 rfl (lv_at hl 0 rfl) ?_
          refine sp_get S hK hW inX10 0 rfl rfl 7 (by decide) lk3 rfl dX10_cutUnits_44 ?_
          refine lv_bipush (v := 24) hx hb dX10_cutUnits_47 (by decide) ?_
          refine lv_iload_n hx hb dX10_cutUnits_49 rfl (lv_at hl 1 rfl) ?_
          refine lv_imul hx hb dX10_cutUnits_50 ?_
          refine lv_iload hx hb dX10_cutUnits_51 (lv_at hl 4 rfl) ?_
          refine lv_iadd hx hb dX10_cutUnits_53 ?_
          obtain ⟨hin, v28, ev28, hf⟩ := sp_hld hf
          refine sp_iald S hK hW 5 rfl hin ev28 dX10_cutUnits_54 ?_
          refine lv_istore (lv' := [(5, .int v28), (0, .ref (a 0)), (1, .int p1), (2, .int p2), (3, .int y5), (4, .int y6)]) hx hb dX10_cutUnits_55 hl (by decide) rfl (fun ls hl => ?_)
          refine lv_iload hx hb dX10_cutUnits_57 (lv_at hl 0 rfl) ?_
          refine lv_bipush (v := 64) hx hb dX10_cutUnits_59 (by decide) ?_
          obtain ⟨k30, ek30, hf⟩ := sp_hb hf
          have hj30 : ∀ (x29 : Int32) (H : Heap) (locs : List Loc) (ls : Array Slot), k30 x29 = some (r', nm', nc', nl', nr', nt') → sp_wd D A s.heap (sw_M a q5 fa tr la sl ce pn mn cl le ri lt c7 c8 c9 c10 c11 at9 en9 de mm ma ne us lk sd sf nu gt gl tb sc su) H locs → lv_has ls 12 [(0, .ref (a 0)), (1, .int p1), (2, .int p2), (3, .int y5), (4, .int y6), (5, .int v28)] → W p l e rmX10_cutUnits s m args below meth c H locs 0 0 Q (F0 m 77 ls [.int x29]) := by
            intro x29 H locs ls hf hW hl
            rw [ek30] at hf
            refine lv_istore (lv' := [(6, .int x29), (0, .ref (a 0)), (1, .int p1), (2, .int p2), (3, .int y5), (4, .int y6), (5, .int v28)]) hx hb dX10_cutUnits_77 hl (by decide) rfl (fun ls hl => ?_)
            refine lv_aload_n hx hb dX10_cutUnits_79 rfl (lv_at hl 1 rfl) ?_
            refine sp_get S hK hW inX10 0 rfl rfl 12 (by decide) lk4 rfl dX10_cutUnits_80 ?_
            refine lv_iload_n hx hb dX10_cutUnits_83 rfl (lv_at hl 4 rfl) ?_
            obtain ⟨hin, v31, ev31, hf⟩ := sp_hld hf
            refine sp_iald S hK hW 9 rfl hin ev31 dX10_cutUnits_84 ?_
            refine lv_iload hx hb dX10_cutUnits_85 (lv_at hl 0 rfl) ?_
            refine lv_iand hx hb dX10_cutUnits_87 ?_
            refine lv_if_ne (tgt := 94) hx hb dX10_cutUnits_88 (by decide) (fun hc => ?_) (fun hc => ?_)
            · have hf := sp_hf hf hc
              refine lv_aload_n hx hb dX10_cutUnits_94 rfl (lv_at hl 1 rfl) ?_
              refine sp_get S hK hW inX10 0 rfl rfl 24 (by decide) lk1 rfl dX10_cutUnits_95 ?_
              refine lv_iload hx hb dX10_cutUnits_98 (lv_at hl 5 rfl) ?_
              obtain ⟨hin, v32, ev32, hf⟩ := sp_hld hf
              refine sp_iald S hK hW 18 rfl hin ev32 dX10_cutUnits_100 ?_
              refine lv_istore (lv' := [(7, .int v32), (6, .int x29), (0, .ref (a 0)), (1, .int p1), (2, .int p2), (3, .int y5), (4, .int y6), (5, .int v28)]) hx hb dX10_cutUnits_101 hl (by decide) rfl (fun ls hl => ?_)
              refine lv_aload_n hx hb dX10_cutUnits_103 rfl (lv_at hl 2 rfl) ?_
              refine sp_get S hK hW inX10 0 rfl rfl 12 (by decide) lk4 rfl dX10_cutUnits_104 ?_
              refine lv_iload hx hb dX10_cutUnits_107 (lv_at hl 0 rfl) ?_
              obtain ⟨hin, v33, ev33, hf⟩ := sp_hld hf
              refine sp_iald S hK hW 9 rfl hin ev33 dX10_cutUnits_109 ?_
              refine lv_iload hx hb dX10_cutUnits_110 (lv_at hl 7 rfl) ?_
              refine lv_iand hx hb dX10_cutUnits_112 ?_
              refine lv_if_ne (tgt := 122) hx hb dX10_cutUnits_113 (by decide) (fun hc => ?_) (fun hc => ?_)
              · have hf := sp_hf hf hc
                refine lv_iconst (v := 0) hx hb dX10_cutUnits_122 (by decide) ?_
                refine lv_istore (lv' := [(8, .int (0 : Int32)), (7, .int v32), (6, .int x29), (0, .ref (a 0)), (1, .int p1), (2, .int p2), (3, .int y5), (4, .int y6), (5, .int v28)]) hx hb dX10_cutUnits_123 hl (by decide) rfl (fun ls hl => ?_)
                obtain ⟨k36, ek36, hf⟩ := sp_hb hf
                have hj36 : ∀ (x35 : Int32) (H : Heap) (locs : List Loc) (ls : Array Slot), k36 x35 = some (r', nm', nc', nl', nr', nt') → sp_wd D A s.heap (sw_M a q5 fa tr la sl ce pn mn cl le ri lt c7 c8 c9 c10 c11 at9 en9 de mm ma ne us lk sd sf nu gt gl tb sc su) H locs → lv_has ls 12 [(0, .ref (a 0)), (1, .int p1), (2, .int p2), (3, .int y5), (4, .int y6), (5, .int v28), (7, .int v32), (8, .int x35)] → W p l e rmX10_cutUnits s m args below meth c H locs 0 0 Q (F0 m 154 ls []) := by
                  intro x35 H locs ls hf hW hl
                  rw [ek36] at hf
                  refine lv_iload hx hb dX10_cutUnits_154 (lv_at hl 5 rfl) ?_
                  refine lv_bipush (v := 64) hx hb dX10_cutUnits_156 (by decide) ?_
                  obtain ⟨k38, ek38, hf⟩ := sp_hb hf
                  have hj38 : ∀ (x37 : Int32) (H : Heap) (locs : List Loc) (ls : Array Slot), k38 x37 = some (r', nm', nc', nl', nr', nt') → sp_wd D A s.heap (sw_M a q5 fa tr la sl ce pn mn cl le ri lt c7 c8 c9 c10 c11 at9 en9 de mm ma ne us lk sd sf nu gt gl tb sc su) H locs → lv_has ls 12 [(0, .ref (a 0)), (1, .int p1), (2, .int p2), (3, .int y5), (4, .int y6), (5, .int v28), (7, .int v32), (8, .int x35)] → W p l e rmX10_cutUnits s m args below meth c H locs 0 0 Q (F0 m 167 ls [.int x37]) := by
                    intro x37 H locs ls hf hW hl
                    rw [ek38] at hf
                    refine lv_istore (lv' := [(9, .int x37), (0, .ref (a 0)), (1, .int p1), (2, .int p2), (3, .int y5), (4, .int y6), (5, .int v28), (7, .int v32), (8, .int x35)]) hx hb dX10_cutUnits_167 hl (by decide) rfl (fun ls hl => ?_)
                    refine lv_iload hx hb dX10_cutUnits_169 (lv_at hl 6 rfl) ?_
                    refine lv_bipush (v := 64) hx hb dX10_cutUnits_171 (by decide) ?_
                    obtain ⟨k40, ek40, hf⟩ := sp_hb hf
                    have hj40 : ∀ (x39 : Int32) (H : Heap) (locs : List Loc) (ls : Array Slot), k40 x39 = some (r', nm', nc', nl', nr', nt') → sp_wd D A s.heap (sw_M a q5 fa tr la sl ce pn mn cl le ri lt c7 c8 c9 c10 c11 at9 en9 de mm ma ne us lk sd sf nu gt gl tb sc su) H locs → lv_has ls 12 [(0, .ref (a 0)), (1, .int p1), (2, .int p2), (4, .int y6), (8, .int x35), (9, .int x37)] → W p l e rmX10_cutUnits s m args below meth c H locs 0 0 Q (F0 m 182 ls [.int x39]) := by
                      intro x39 H locs ls hf hW hl
                      rw [ek40] at hf
                      refine lv_istore (lv' := [(10, .int x39), (0, .ref (a 0)), (1, .int p1), (2, .int p2), (4, .int y6), (8, .int x35), (9, .int x37)]) hx hb dX10_cutUnits_182 hl (by decide) rfl (fun ls hl => ?_)
                      refine lv_aload_n hx hb dX10_cutUnits_184 rfl (lv_at hl 1 rfl) ?_
                      refine sp_get S hK hW inX10 0 rfl rfl 12 (by decide) lk4 rfl dX10_cutUnits_185 ?_
                      refine lv_iload hx hb dX10_cutUnits_188 (lv_at hl 6 rfl) ?_
                      obtain ⟨hin, v41, ev41, hf⟩ := sp_hld hf
                      refine sp_iald S hK hW 9 rfl hin ev41 dX10_cutUnits_190 ?_
                      refine lv_aload_n hx hb dX10_cutUnits_191 rfl (lv_at hl 1 rfl) ?_
                      refine sp_get S hK hW inX10 0 rfl rfl 12 (by decide) lk4 rfl dX10_cutUnits_192 ?_
                      refine lv_iload hx hb dX10_cutUnits_195 (lv_at hl 0 rfl) ?_
                      obtain ⟨hin, v42, ev42, hf⟩ := sp_hld hf
                      refine sp_iald S hK hW 9 rfl hin ev42 dX10_cutUnits_197 ?_
                      refine lv_iload hx hb dX10_cutUnits_198 (lv_at hl 5 rfl) ?_
                      obtain ⟨r43, hc43, hf⟩ := sp_hc hf
                      refine sp_callSi (rest := []) S hK hG hA hW (c_X10_cutOf v41 v42 x35 hc43) (by decide) (va_cwS 3 S.2.2.2.2 gX10_cutUnits_X10_cutOf rfl rfl rfl (by decide +kernel) (by decide)) (isC := []) rfl rfl rfl (WS' := sw_M a q5 fa tr la sl ce pn mn cl le ri lt c7 c8 c9 c10 c11 at9 en9 de mm ma ne us lk sd sf nu gt gl tb sc su) rfl rfl hl.1 (Nat.le_of_ble_eq_true rfl) dX10_cutUnits_200 ⟨Nat.zero_le _, Nat.zero_le _⟩ rfl (fun H locs hW => ?_)
                      refine lv_istore (lv' := [(11, .int r43), (10, .int x39), (0, .ref (a 0)), (1, .int p1), (2, .int p2), (4, .int y6), (8, .int x35), (9, .int x37)]) hx hb dX10_cutUnits_203 hl (by decide) rfl (fun ls hl => ?_)
                      refine lv_iload hx hb dX10_cutUnits_205 (lv_at hl 0 rfl) ?_
                      refine lv_bipush (v := (-9)) hx hb dX10_cutUnits_207 (by decide) ?_
                      refine lv_icmp_ne (tgt := 215) hx hb dX10_cutUnits_209 (by decide) (fun hc => ?_) (fun hc => ?_)
                      · have hf := sp_hf hf hc
                        refine lv_aload_n hx hb dX10_cutUnits_215 rfl (lv_at hl 2 rfl) ?_
                        refine lv_iload hx hb dX10_cutUnits_216 (lv_at hl 0 rfl) ?_
                        refine lv_iload hx hb dX10_cutUnits_218 (lv_at hl 7 rfl) ?_
                        refine lv_iload hx hb dX10_cutUnits_220 (lv_at hl 1 rfl) ?_
                        refine lv_iload hx hb dX10_cutUnits_222 (lv_at hl 6 rfl) ?_
                        obtain ⟨⟨r44, c45, c46, c47, c48, c49⟩, hc49, hf⟩ := sp_hc hf
                        refine sp_callViP (rest := []) S hK hG hA hW (c_X10_add a fa tr la sl ce pn mn cl le ri lt c7 c8 c9 c10 c11 at9 en9 de mm ma ne us lk sd sf nu gt gl tb sc su r43 x37 x39 x35 hc49) (by decide) (cwV 4 S.2.2.2.2 gX10_cutUnits_X10_add rfl rfl rfl (by decide +kernel) (by decide)) 8 0 rfl rfl (sp_pn _) rfl (WS' := sw_M a q5 fa tr la sl ce pn mn cl le ri lt c45 c46 c47 c48 c49 at9 en9 de mm ma ne us lk sd sf nu gt gl tb sc su) (sp_pn' _) rfl hl.1 (Nat.le_of_ble_eq_true rfl) dX10_cutUnits_224 ⟨Nat.zero_le _, Nat.zero_le _⟩ rfl (fun H locs hW => ?_)
                        refine lv_istore_n (lv' := [(3, .int r44), (11, .int r43), (10, .int x39), (0, .ref (a 0)), (1, .int p1), (2, .int p2), (4, .int y6), (8, .int x35), (9, .int x37)]) hx hb dX10_cutUnits_227 rfl hl (by decide) rfl (fun ls hl => ?_)
                        exact hj26 _ _ _ _ _ _ _ _ _ hf hW (lv_sub hl [3, 4, 5, 0, 6] rfl)
                      · have hf := sp_ht hf hc
                        refine lv_bipush (v := (-9)) hx hb dX10_cutUnits_212 (by decide) ?_
                        have q0 := Option.some.inj hf
                        obtain ⟨q1, z1⟩ := Prod.mk.inj q0
                        obtain ⟨q2, z2⟩ := Prod.mk.inj z1
                        obtain ⟨q3, z3⟩ := Prod.mk.inj z2
                        obtain ⟨q4, z4⟩ := Prod.mk.inj z3
                        obtain ⟨q5, z5⟩ := Prod.mk.inj z4
                        subst q1
                        subst q2
                        subst q3
                        subst q4
                        subst q5
                        subst z5
                        exact sp_iret S hr hlk hW hQ dX10_cutUnits_214
                    refine lv_icmp_ge (tgt := 180) hx hb dX10_cutUnits_173 (by decide) (fun hc => ?_) (fun hc => ?_)
                    · have hf := sp_ht hf hc
                      refine lv_iload hx hb dX10_cutUnits_180 (lv_at hl 7 rfl) ?_
                      exact hj40 _ _ _ _ hf hW (lv_sub hl [1, 2, 3, 5, 8, 0] rfl)
                    · have hf := sp_hf hf hc
                      refine lv_iload_n hx hb dX10_cutUnits_176 rfl (lv_at hl 4 rfl) ?_
                      refine lv_goto (tgt := 182) hx hb dX10_cutUnits_177 (by decide) ?_
                      exact hj40 _ _ _ _ hf hW (lv_sub hl [1, 2, 3, 5, 8, 0] rfl)
                  refine lv_icmp_ge (tgt := 166) hx hb dX10_cutUnits_158 (by decide) (fun hc => ?_) (fun hc => ?_)
                  · have hf := sp_ht hf hc
                    refine lv_iload_n hx hb dX10_cutUnits_166 rfl (lv_at hl 3 rfl) ?_
                    exact hj38 _ _ _ _ hf hW (lv_sub hl [0, 1, 2, 3, 4, 5, 6, 7] rfl)
                  · have hf := sp_hf hf hc
                    refine lv_iload hx hb dX10_cutUnits_161 (lv_at hl 6 rfl) ?_
                    refine lv_goto (tgt := 167) hx hb dX10_cutUnits_163 (by decide) ?_
                    exact hj38 _ _ _ _ hf hW (lv_sub hl [0, 1, 2, 3, 4, 5, 6, 7] rfl)
                have hlp125 : ∀ (n9 : Nat) (y34 : Int32) (H : Heap) (locs : List Loc) (ls : Array Slot), sp_lp (f_X10_cutUnits_L125 v28 k36) n9 y34 = some (r', nm', nc', nl', nr', nt') → sp_wd D A s.heap (sw_M a q5 fa tr la sl ce pn mn cl le ri lt c7 c8 c9 c10 c11 at9 en9 de mm ma ne us lk sd sf nu gt gl tb sc su) H locs → lv_has ls 12 [(0, .ref (a 0)), (1, .int p1), (2, .int p2), (3, .int y5), (4, .int y6), (5, .int v28), (7, .int v32), (8, .int y34)] → W p l e rmX10_cutUnits s m args below meth c H locs 0 0 Q (F0 m 125 ls []) := by
                  intro n9
                  induction n9 with
                  | zero =>
                    intro y34 H locs ls hf hW hl
                    exact (sp_lp0 hf).elim
                  | succ n9 ih125 =>
                    intro y34 H locs ls hf hW hl
                    have hf := sp_lpS hf
                    rw [f_X10_cutUnits_L125_eq] at hf
                    refine lv_iload hx hb dX10_cutUnits_125 (lv_at hl 5 rfl) ?_
                    refine lv_iload hx hb dX10_cutUnits_127 (lv_at hl 7 rfl) ?_
                    refine lv_ishr hx hb dX10_cutUnits_129 ?_
                    refine lv_iconst (v := 1) hx hb dX10_cutUnits_130 (by decide) ?_
                    refine lv_iand hx hb dX10_cutUnits_131 ?_
                    refine lv_if_ne (tgt := 154) hx hb dX10_cutUnits_132 (by decide) (fun hc => ?_) (fun hc => ?_)
                    · have hf := sp_hf hf hc
                      exact hj36 _ _ _ _ hf hW (lv_sub hl [0, 1, 2, 3, 4, 5, 6, 7] rfl)
                    · have hf := sp_ht hf hc
                      refine lv_iload hx hb dX10_cutUnits_135 (lv_at hl 5 rfl) ?_
                      refine lv_bipush (v := 6) hx hb dX10_cutUnits_137 (by decide) ?_
                      refine lv_iload hx hb dX10_cutUnits_139 (lv_at hl 7 rfl) ?_
                      refine lv_iadd hx hb dX10_cutUnits_141 ?_
                      refine lv_ishr hx hb dX10_cutUnits_142 ?_
                      refine lv_iconst (v := 1) hx hb dX10_cutUnits_143 (by decide) ?_
                      refine lv_iand hx hb dX10_cutUnits_144 ?_
                      refine lv_if_ne (tgt := 154) hx hb dX10_cutUnits_145 (by decide) (fun hc => ?_) (fun hc => ?_)
                      · have hf := sp_hf hf hc
                        exact hj36 _ _ _ _ hf hW (lv_sub hl [0, 1, 2, 3, 4, 5, 6, 7] rfl)
                      · have hf := sp_ht hf hc
                        obtain ⟨v50, ev50, hf⟩ := sp_hb hf
                        refine lv_iinc (v := v50) (lv' := [(8, .int v50), (0, .ref (a 0)), (1, .int p1), (2, .int p2), (3, .int y5), (4, .int y6), (5, .int v28), (7, .int v32)]) hx hb dX10_cutUnits_148 hl (k := 7) rfl (by rw [ev50]; rfl) (by decide) rfl (fun ls hl => ?_)
                        refine lv_goto (tgt := 125) hx hb dX10_cutUnits_151 (by decide) ?_
                        exact ih125 _ _ _ _ hf hW (lv_sub hl [1, 2, 3, 4, 5, 6, 7, 0] rfl)
                exact hlp125 _ _ _ _ _ hf hW (lv_sub hl [3, 4, 5, 6, 7, 8, 1, 0] rfl)
              · have hf := sp_ht hf hc
                refine lv_iload hx hb dX10_cutUnits_116 (lv_at hl 0 rfl) ?_
                refine lv_istore_n (lv' := [(3, .int v32), (7, .int v32), (6, .int x29), (0, .ref (a 0)), (1, .int p1), (2, .int p2), (4, .int y6), (5, .int v28)]) hx hb dX10_cutUnits_118 rfl hl (by decide) rfl (fun ls hl => ?_)
                refine lv_goto (tgt := 228) hx hb dX10_cutUnits_119 (by decide) ?_
                exact hj26 _ _ _ _ _ _ _ _ _ hf hW (lv_sub hl [3, 4, 5, 0, 6] rfl)
            · have hf := sp_ht hf hc
              refine lv_goto (tgt := 228) hx hb dX10_cutUnits_91 (by decide) ?_
              exact hj26 _ _ _ _ _ _ _ _ _ hf hW (lv_sub hl [1, 2, 3, 4, 5] rfl)
          refine lv_icmp_ge (tgt := 72) hx hb dX10_cutUnits_61 (by decide) (fun hc => ?_) (fun hc => ?_)
          · have hf := sp_ht hf hc
            refine lv_iload hx hb dX10_cutUnits_72 (lv_at hl 0 rfl) ?_
            refine lv_bipush (v := 6) hx hb dX10_cutUnits_74 (by decide) ?_
            refine lv_ishr hx hb dX10_cutUnits_76 ?_
            exact hj30 _ _ _ _ hf hW (lv_sub hl [1, 2, 3, 4, 5, 0] rfl)
          · have hf := sp_hf hf hc
            refine lv_iload hx hb dX10_cutUnits_64 (lv_at hl 0 rfl) ?_
            refine lv_bipush (v := 6) hx hb dX10_cutUnits_66 (by decide) ?_
            refine lv_ishl hx hb dX10_cutUnits_68 ?_
            refine lv_goto (tgt := 77) hx hb dX10_cutUnits_69 (by decide) ?_
            exact hj30 _ _ _ _ hf hW (lv_sub hl [1, 2, 3, 4, 5, 0] rfl)
        · have hf := sp_ht hf hc
          refine lv_goto (tgt := 228) hx hb dX10_cutUnits_40 (by decide) ?_
          exact hj26 _ _ _ _ _ _ _ _ _ hf hW (lv_sub hl [0, 1, 2, 3, 4] rfl)
  exact hlp24 _ _ _ _ _ _ _ _ _ _ _ hf hW (lv_sub hl [2, 3, 4, 1, 0] rfl)
