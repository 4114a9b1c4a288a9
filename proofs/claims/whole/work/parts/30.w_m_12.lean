def f_X10_tell (p1 : Int32) (p2 : Int32) (tr : Int32) (pn : Int32) (mn : Nat → Int32) (cl : Nat → Int32) (le : Nat → Int32) (ri : Nat → Int32) (lt : Nat → Int32) : Option (Int32 × Int32) := Option.bind (f_X10_isLine p1 p2 pn mn) (fun r1 => if r1 = 0 then (some ((-1 : Int32), tr)) else (sp_bnd (((24 : Int32) * p1) + p2) (fun v2 => Option.bind (f_X10_kindOf p1 p2 mn lt) (fun r3 => if r3 = (1 : Int32) then (Option.bind (f_X10_begins (2 : Int32) tr) (fun c4 => Option.bind (f_X10_begins (1 : Int32) c4) (fun c5 => sp_ld cl 288 v2 (fun v6 => sp_ld le 288 v2 (fun v7 => sp_ld ri 288 v2 (fun v8 => some (((v6 + v7) + v8), c5))))))) else (if r3 = (2 : Int32) then (Option.bind (f_X10_begins (3 : Int32) tr) (fun c9 => Option.bind (f_X10_begins (2 : Int32) c9) (fun c10 => Option.bind (f_X10_begins (1 : Int32) c10) (fun c11 => Option.bind (f_X10_begins (1 : Int32) c11) (fun c12 => sp_ld cl 288 v2 (fun v13 => sp_ld le 288 v2 (fun v14 => sp_ld ri 288 v2 (fun v15 => some (((((2 : Int32) * v13) + v14) + v15), c12))))))))) else (Option.bind (f_X10_begins (1 : Int32) tr) (fun c16 => sp_ld cl 288 v2 (fun v17 => some (v17, c16)))))))))
def rmX10_tell : Room := { frames := 2, cells := 0, slots := 0, locals := 43 }
set_option maxRecDepth 4000 in
theorem c_X10_tell {l : Launch} {D : va_G} {q5 : Nat → ClassId} (a : Nat → Nat) (fa : Int32) (tr : Int32) (la : Nat → Int32) (sl : Nat → Int32) (ce : Nat → Int32) (pn : Int32) (mn : Nat → Int32) (cl : Nat → Int32) (le : Nat → Int32) (ri : Nat → Int32) (lt : Nat → Int32) (nm : Int32) (nc : Nat → Int32) (nl : Nat → Int32) (nr : Nat → Int32) (nt : Nat → Int32) (at9 : Int32) (en9 : Int32) (de : Nat → Int32) (mm : Int32) (ma : Nat → Int32) (ne : Nat → Int32) (us : Nat → Int32) (lk : Nat → Int32) (sd : Nat → Int32) (sf : Nat → Int32) (nu : Nat → Int32) (gt : Nat → Int64) (gl : Nat → Int32) (tb : Nat → Int64) (sc : Nat → Int32) (su : Nat → Int32) (p1 : Int32) (p2 : Int32) {r' : Int32} {tr' : Int32} (hf : f_X10_tell p1 p2 tr pn mn cl le ri lt = some (r', tr')) : sp_Ci l yX10_tell wsX10_tell rmX10_tell D q5 0 [.ref (a 0), .int p1, .int p2] (sw_M a q5 fa tr la sl ce pn mn cl le ri lt nm nc nl nr nt at9 en9 de mm ma ne us lk sd sf nu gt gl tb sc su) r' (sw_M a q5 fa tr' la sl ce pn mn cl le ri lt nm nc nl nr nt at9 en9 de mm ma ne us lk sd sf nu gt gl tb sc su) := by
  intro sz
  refine sp_of (cc := cX10_tell) (maxL := 4) (ret := some .int) (own := RX10) (Qc := sp_Qi D r' (sw_M a q5 fa tr' la sl ce pn mn cl le ri lt nm nc nl nr nt at9 en9 de mm ma ne us lk sd sf nu gt gl tb sc su)) (by decide) rfl rfl (Nat.le_of_ble_eq_true rfl) ?_
  intro p e s m args below meth c A ls Q hQ S hr hlk hK hG hA hW hl
  have hx := S.1
  have hb := S.2.1
  unfold f_X10_tell at hf
  have inX10 : ∀ w ∈ u_ws RX10 TX10 32, w ∈ wsX10_tell := (fun _ h => List.mem_cons_of_mem _ (List.mem_append_right _ h))
  have lk1 := S.2.2.2.2 (Cond.fieldLink RX10 22 "ShortProofsModel" "clauses" "[I") (List.mem_of_getElem? (i := 1) rfl)
  have lk2 := S.2.2.2.2 (Cond.fieldLink RX10 25 "ShortProofsModel" "lefts" "[I") (List.mem_of_getElem? (i := 2) rfl)
  have lk3 := S.2.2.2.2 (Cond.fieldLink RX10 28 "ShortProofsModel" "rights" "[I") (List.mem_of_getElem? (i := 3) rfl)
  refine lv_aload_n hx hb dX10_tell_0 rfl (lv_at hl 0 rfl) ?_
  refine lv_iload_n hx hb dX10_tell_1 rfl (lv_at hl 1 rfl) ?_
  refine lv_iload_n hx hb dX10_tell_2 rfl (lv_at hl 2 rfl) ?_
  obtain ⟨r1, hc1, hf⟩ := sp_hc hf
  refine sp_callViP (rest := []) S hK hG hA hW (c_X10_isLine a fa tr la sl ce pn mn cl le ri lt nm nc nl nr nt at9 en9 de mm ma ne us lk sd sf nu gt gl tb sc su p1 p2 hc1) (by decide) (cwV 2 S.2.2.2.2 gX10_tell_X10_isLine rfl rfl rfl (by decide +kernel) (by decide)) 8 0 rfl rfl (sp_pn _) rfl (WS' := sw_M a q5 fa tr la sl ce pn mn cl le ri lt nm nc nl nr nt at9 en9 de mm ma ne us lk sd sf nu gt gl tb sc su) (sp_pn' _) rfl hl.1 (Nat.le_of_ble_eq_true rfl) dX10_tell_3 ⟨Nat.zero_le _, Nat.zero_le _⟩ rfl (fun H locs hW => ?_)
  refine lv_if_ne (tgt := 11) hx hb dX10_tell_6 (by decide) (fun hc => ?_) (fun hc => ?_)
  · have hf := sp_hf hf hc
    refine lv_bipush (v := 24) hx hb dX10_tell_11 (by decide) ?_
    refine lv_iload_n hx hb dX10_tell_13 rfl (lv_at hl 1 rfl) ?_
    refine lv_imul hx hb dX10_tell_14 ?_
    refine lv_iload_n hx hb dX10_tell_15 rfl (lv_at hl 2 rfl) ?_
    refine lv_iadd hx hb dX10_tell_16 ?_
    obtain ⟨v2, ev2, hf⟩ := sp_hb hf
    refine sp_topi ev2 ?_
    refine lv_istore_n (lv' := [(3, .int v2), (0, .ref (a 0)), (1, .int p1), (2, .int p2)]) hx hb dX10_tell_17 rfl hl (by decide) rfl (fun ls hl => ?_)
    refine lv_aload_n hx hb dX10_tell_18 rfl (lv_at hl 1 rfl) ?_
    refine lv_iload_n hx hb dX10_tell_19 rfl (lv_at hl 2 rfl) ?_
    refine lv_iload_n hx hb dX10_tell_20 rfl (lv_at hl 3 rfl) ?_
    obtain ⟨r3, hc3, hf⟩ := sp_hc hf
    refine sp_callViP (rest := []) S hK hG hA hW (c_X10_kindOf a fa tr la sl ce pn mn cl le ri lt nm nc nl nr nt at9 en9 de mm ma ne us lk sd sf nu gt gl tb sc su p1 p2 hc3) (by decide) (cwV 2 S.2.2.2.2 gX10_tell_X10_kindOf rfl rfl rfl (by decide +kernel) (by decide)) 8 0 rfl rfl (sp_pn _) rfl (WS' := sw_M a q5 fa tr la sl ce pn mn cl le ri lt nm nc nl nr nt at9 en9 de mm ma ne us lk sd sf nu gt gl tb sc su) (sp_pn' _) rfl hl.1 (Nat.le_of_ble_eq_true rfl) dX10_tell_21 ⟨Nat.zero_le _, Nat.zero_le _⟩ rfl (fun H locs hW => ?_)
    by_cases hs0 : r3 = (1 : Int32)
    · have hf := sp_ht hf hs0
      refine lv_lookup (tgt := 52) (off := 28) hx hb dX10_tell_24 (by decide) (by rw [hs0]; rfl) (by decide) ?_
      refine lv_aload_n hx hb dX10_tell_52 rfl (lv_at hl 1 rfl) ?_
      refine lv_iconst (v := 2) hx hb dX10_tell_53 (by decide) ?_
      obtain ⟨c4, hc4, hf⟩ := sp_hc hf
      refine sp_callVvP (rest := []) S hK hG hA hW (c_X10_begins a fa tr la sl ce pn mn cl le ri lt nm nc nl nr nt at9 en9 de mm ma ne us lk sd sf nu gt gl tb sc su (2 : Int32) hc4) (by decide) (cwV 1 S.2.2.2.2 gX10_tell_X10_begins rfl rfl rfl (by decide +kernel) (by decide)) 8 0 rfl rfl (sp_pn _) rfl (WS' := sw_M a q5 fa c4 la sl ce pn mn cl le ri lt nm nc nl nr nt at9 en9 de mm ma ne us lk sd sf nu gt gl tb sc su) (sp_pn' _) rfl hl.1 (Nat.le_of_ble_eq_true rfl) dX10_tell_54 ⟨Nat.zero_le _, Nat.zero_le _⟩ rfl (fun H locs hW => ?_)
      refine lv_aload_n hx hb dX10_tell_57 rfl (lv_at hl 1 rfl) ?_
      refine lv_iconst (v := 1) hx hb dX10_tell_58 (by decide) ?_
      obtain ⟨c5, hc5, hf⟩ := sp_hc hf
      refine sp_callVvP (rest := []) S hK hG hA hW (c_X10_begins a fa c4 la sl ce pn mn cl le ri lt nm nc nl nr nt at9 en9 de mm ma ne us lk sd sf nu gt gl tb sc su (1 : Int32) hc5) (by decide) (cwV 1 S.2.2.2.2 gX10_tell_X10_begins rfl rfl rfl (by decide +kernel) (by decide)) 8 0 rfl rfl (sp_pn _) rfl (WS' := sw_M a q5 fa c5 la sl ce pn mn cl le ri lt nm nc nl nr nt at9 en9 de mm ma ne us lk sd sf nu gt gl tb sc su) (sp_pn' _) rfl hl.1 (Nat.le_of_ble_eq_true rfl) dX10_tell_59 ⟨Nat.zero_le _, Nat.zero_le _⟩ rfl (fun H locs hW => ?_)
      refine lv_aload_n hx hb dX10_tell_62 rfl (lv_at hl 1 rfl) ?_
      refine sp_get S hK hW inX10 0 rfl rfl 7 (by decide) lk1 rfl dX10_tell_63 ?_
      refine lv_iload_n hx hb dX10_tell_66 rfl (lv_at hl 0 rfl) ?_
      obtain ⟨hin, v6, ev6, hf⟩ := sp_hld hf
      refine sp_iald S hK hW 5 rfl hin ev6 dX10_tell_67 ?_
      refine lv_aload_n hx hb dX10_tell_68 rfl (lv_at hl 1 rfl) ?_
      refine sp_get S hK hW inX10 0 rfl rfl 8 (by decide) lk2 rfl dX10_tell_69 ?_
      refine lv_iload_n hx hb dX10_tell_72 rfl (lv_at hl 0 rfl) ?_
      obtain ⟨hin, v7, ev7, hf⟩ := sp_hld hf
      refine sp_iald S hK hW 6 rfl hin ev7 dX10_tell_73 ?_
      refine lv_iadd hx hb dX10_tell_74 ?_
      refine lv_aload_n hx hb dX10_tell_75 rfl (lv_at hl 1 rfl) ?_
      refine sp_get S hK hW inX10 0 rfl rfl 9 (by decide) lk3 rfl dX10_tell_76 ?_
      refine lv_iload_n hx hb dX10_tell_79 rfl (lv_at hl 0 rfl) ?_
      obtain ⟨hin, v8, ev8, hf⟩ := sp_hld hf
      refine sp_iald S hK hW 7 rfl hin ev8 dX10_tell_80 ?_
      refine lv_iadd hx hb dX10_tell_81 ?_
      have q0 := Option.some.inj hf
      obtain ⟨q1, z1⟩ := Prod.mk.inj q0
      subst q1
      subst z1
      exact sp_iret S hr hlk hW hQ dX10_tell_82
    have hf := sp_hf hf hs0
    by_cases hs1 : r3 = (2 : Int32)
    · have hf := sp_ht hf hs1
      refine lv_lookup (tgt := 83) (off := 59) hx hb dX10_tell_24 (by decide) (by rw [hs1]; rfl) (by decide) ?_
      refine lv_aload_n hx hb dX10_tell_83 rfl (lv_at hl 1 rfl) ?_
      refine lv_iconst (v := 3) hx hb dX10_tell_84 (by decide) ?_
      obtain ⟨c9, hc9, hf⟩ := sp_hc hf
      refine sp_callVvP (rest := []) S hK hG hA hW (c_X10_begins a fa tr la sl ce pn mn cl le ri lt nm nc nl nr nt at9 en9 de mm ma ne us lk sd sf nu gt gl tb sc su (3 : Int32) hc9) (by decide) (cwV 1 S.2.2.2.2 gX10_tell_X10_begins rfl rfl rfl (by decide +kernel) (by decide)) 8 0 rfl rfl (sp_pn _) rfl (WS' := sw_M a q5 fa c9 la sl ce pn mn cl le ri lt nm nc nl nr nt at9 en9 de mm ma ne us lk sd sf nu gt gl tb sc su) (sp_pn' _) rfl hl.1 (Nat.le_of_ble_eq_true rfl) dX10_tell_85 ⟨Nat.zero_le _, Nat.zero_le _⟩ rfl (fun H locs hW => ?_)
      refine lv_aload_n hx hb dX10_tell_88 rfl (lv_at hl 1 rfl) ?_
      refine lv_iconst (v := 2) hx hb dX10_tell_89 (by decide) ?_
      obtain ⟨c10, hc10, hf⟩ := sp_hc hf
      refine sp_callVvP (rest := []) S hK hG hA hW (c_X10_begins a fa c9 la sl ce pn mn cl le ri lt nm nc nl nr nt at9 en9 de mm ma ne us lk sd sf nu gt gl tb sc su (2 : Int32) hc10) (by decide) (cwV 1 S.2.2.2.2 gX10_tell_X10_begins rfl rfl rfl (by decide +kernel) (by decide)) 8 0 rfl rfl (sp_pn _) rfl (WS' := sw_M a q5 fa c10 la sl ce pn mn cl le ri lt nm nc nl nr nt at9 en9 de mm ma ne us lk sd sf nu gt gl tb sc su) (sp_pn' _) rfl hl.1 (Nat.le_of_ble_eq_true rfl) dX10_tell_90 ⟨Nat.zero_le _, Nat.zero_le _⟩ rfl (fun H locs hW => ?_)
      refine lv_aload_n hx hb dX10_tell_93 rfl (lv_at hl 1 rfl) ?_
      refine lv_iconst (v := 1) hx hb dX10_tell_94 (by decide) ?_
      obtain ⟨c11, hc11, hf⟩ := sp_hc hf
      refine sp_callVvP (rest := []) S hK hG hA hW (c_X10_begins a fa c10 la sl ce pn mn cl le ri lt nm nc nl nr nt at9 en9 de mm ma ne us lk sd sf nu gt gl tb sc su (1 : Int32) hc11) (by decide) (cwV 1 S.2.2.2.2 gX10_tell_X10_begins rfl rfl rfl (by decide +kernel) (by decide)) 8 0 rfl rfl (sp_pn _) rfl (WS' := sw_M a q5 fa c11 la sl ce pn mn cl le ri lt nm nc nl nr nt at9 en9 de mm ma ne us lk sd sf nu gt gl tb sc su) (sp_pn' _) rfl hl.1 (Nat.le_of_ble_eq_true rfl) dX10_tell_95 ⟨Nat.zero_le _, Nat.zero_le _⟩ rfl (fun H locs hW => ?_)
      refine lv_aload_n hx hb dX10_tell_98 rfl (lv_at hl 1 rfl) ?_
      refine lv_iconst (v := 1) hx hb dX10_tell_99 (by decide) ?_
      obtain ⟨c12, hc12, hf⟩ := sp_hc hf
      refine sp_callVvP (rest := []) S hK hG hA hW (c_X10_begins a fa c11 la sl ce pn mn cl le ri lt nm nc nl nr nt at9 en9 de mm ma ne us lk sd sf nu gt gl tb sc su (1 : Int32) hc12) (by decide) (cwV 1 S.2.2.2.2 gX10_tell_X10_begins rfl rfl rfl (by decide +kernel) (by decide)) 8 0 rfl rfl (sp_pn _) rfl (WS' := sw_M a q5 fa c12 la sl ce pn mn cl le ri lt nm nc nl nr nt at9 en9 de mm ma ne us lk sd sf nu gt gl tb sc su) (sp_pn' _) rfl hl.1 (Nat.le_of_ble_eq_true rfl) dX10_tell_100 ⟨Nat.zero_le _, Nat.zero_le _⟩ rfl (fun H locs hW => ?_)
      refine lv_iconst (v := 2) hx hb dX10_tell_103 (by decide) ?_
      refine lv_aload_n hx hb dX10_tell_104 rfl (lv_at hl 1 rfl) ?_
      refine sp_get S hK hW inX10 0 rfl rfl 7 (by decide) lk1 rfl dX10_tell_105 ?_
      refine lv_iload_n hx hb dX10_tell_108 rfl (lv_at hl 0 rfl) ?_
      obtain ⟨hin, v13, ev13, hf⟩ := sp_hld hf
      refine sp_iald S hK hW 5 rfl hin ev13 dX10_tell_109 ?_
      refine lv_imul hx hb dX10_tell_110 ?_
      refine lv_aload_n hx hb dX10_tell_111 rfl (lv_at hl 1 rfl) ?_
      refine sp_get S hK hW inX10 0 rfl rfl 8 (by decide) lk2 rfl dX10_tell_112 ?_
      refine lv_iload_n hx hb dX10_tell_115 rfl (lv_at hl 0 rfl) ?_
      obtain ⟨hin, v14, ev14, hf⟩ := sp_hld hf
      refine sp_iald S hK hW 6 rfl hin ev14 dX10_tell_116 ?_
      refine lv_iadd hx hb dX10_tell_117 ?_
      refine lv_aload_n hx hb dX10_tell_118 rfl (lv_at hl 1 rfl) ?_
      refine sp_get S hK hW inX10 0 rfl rfl 9 (by decide) lk3 rfl dX10_tell_119 ?_
      refine lv_iload_n hx hb dX10_tell_122 rfl (lv_at hl 0 rfl) ?_
      obtain ⟨hin, v15, ev15, hf⟩ := sp_hld hf
      refine sp_iald S hK hW 7 rfl hin ev15 dX10_tell_123 ?_
      refine lv_iadd hx hb dX10_tell_124 ?_
      have q0 := Option.some.inj hf
      obtain ⟨q1, z1⟩ := Prod.mk.inj q0
      subst q1
      subst z1
      exact sp_iret S hr hlk hW hQ dX10_tell_125
    have hf := sp_hf hf hs1
    have hz0 : r3.toInt ≠ 1 := sp_nei hs0
    have hz1 : r3.toInt ≠ 2 := sp_nei hs1
    refine lv_lookup (tgt := 126) (off := 102) hx hb dX10_tell_24 (by decide) (by simp [Op.lookupswitch.offset, hz0.symm, hz1.symm]) (by decide) ?_
    refine lv_aload_n hx hb dX10_tell_126 rfl (lv_at hl 1 rfl) ?_
    refine lv_iconst (v := 1) hx hb dX10_tell_127 (by decide) ?_
    obtain ⟨c16, hc16, hf⟩ := sp_hc hf
    refine sp_callVvP (rest := []) S hK hG hA hW (c_X10_begins a fa tr la sl ce pn mn cl le ri lt nm nc nl nr nt at9 en9 de mm ma ne us lk sd sf nu gt gl tb sc su (1 : Int32) hc16) (by decide) (cwV 1 S.2.2.2.2 gX10_tell_X10_begins rfl rfl rfl (by decide +kernel) (by decide)) 8 0 rfl rfl (sp_pn _) rfl (WS' := sw_M a q5 fa c16 la sl ce pn mn cl le ri lt nm nc nl nr nt at9 en9 de mm ma ne us lk sd sf nu gt gl tb sc su) (sp_pn' _) rfl hl.1 (Nat.le_of_ble_eq_true rfl) dX10_tell_128 ⟨Nat.zero_le _, Nat.zero_le _⟩ rfl (fun H locs hW => ?_)
    refine lv_aload_n hx hb dX10_tell_131 rfl (lv_at hl 1 rfl) ?_
    refine sp_get S hK hW inX10 0 rfl rfl 7 (by decide) lk1 rfl dX10_tell_132 ?_
    refine lv_iload_n hx hb dX10_tell_135 rfl (lv_at hl 0 rfl) ?_
    obtain ⟨hin, v17, ev17, hf⟩ := sp_hld hf
    refine sp_iald S hK hW 5 rfl hin ev17 dX10_tell_136 ?_
    have q0 := Option.some.inj hf
    obtain ⟨q1, z1⟩ := Prod.mk.inj q0
    subst q1
    subst z1
    exact sp_iret S hr hlk hW hQ dX10_tell_137
  · have hf := sp_ht hf hc
    refine lv_iconst (v := (-1)) hx hb dX10_tell_9 (by decide) ?_
    have q0 := Option.some.inj hf
    obtain ⟨q1, z1⟩ := Prod.mk.inj q0
    subst q1
    subst z1
    exact sp_iret S hr hlk hW hQ dX10_tell_10

def f_X10_show (p1 : Int32) (p2 : Int32) (tr : Int32) (pn : Int32) (mn : Nat → Int32) (lt : Nat → Int32) : Option (Int32 × Int32) := Option.bind (f_X10_isLine p1 p2 pn mn) (fun r1 => if r1 = 0 then (some ((-1 : Int32), tr)) else (Option.bind (f_X10_kindOf p1 p2 mn lt) (fun r2 => sp_bnd (fun (x3 : Int32) => Option.bind (f_X10_begins x3 tr) (fun c5 => Option.bind (f_X10_kindOf p1 p2 mn lt) (fun r6 => if r6 = (2 : Int32) then (some ((90 : Int32), c5)) else (some (p2, c5))))) (fun k4 => if r2 = (2 : Int32) then (k4 (5 : Int32)) else (k4 (4 : Int32))))))
def rmX10_show : Room := { frames := 2, cells := 0, slots := 0, locals := 43 }
set_option maxRecDepth 4000 in
theorem c_X10_show {l : Launch} {D : va_G} {q5 : Nat → ClassId} (a : Nat → Nat) (fa : Int32) (tr : Int32) (la : Nat → Int32) (sl : Nat → Int32) (ce : Nat → Int32) (pn : Int32) (mn : Nat → Int32) (cl : Nat → Int32) (le : Nat → Int32) (ri : Nat → Int32) (lt : Nat → Int32) (nm : Int32) (nc : Nat → Int32) (nl : Nat → Int32) (nr : Nat → Int32) (nt : Nat → Int32) (at9 : Int32) (en9 : Int32) (de : Nat → Int32) (mm : Int32) (ma : Nat → Int32) (ne : Nat → Int32) (us : Nat → Int32) (lk : Nat → Int32) (sd : Nat → Int32) (sf : Nat → Int32) (nu : Nat → Int32) (gt : Nat → Int64) (gl : Nat → Int32) (tb : Nat → Int64) (sc : Nat → Int32) (su : Nat → Int32) (p1 : Int32) (p2 : Int32) {r' : Int32} {tr' : Int32} (hf : f_X10_show p1 p2 tr pn mn lt = some (r', tr')) : sp_Ci l yX10_show wsX10_show rmX10_show D q5 0 [.ref (a 0), .int p1, .int p2] (sw_M a q5 fa tr la sl ce pn mn cl le ri lt nm nc nl nr nt at9 en9 de mm ma ne us lk sd sf nu gt gl tb sc su) r' (sw_M a q5 fa tr' la sl ce pn mn cl le ri lt nm nc nl nr nt at9 en9 de mm ma ne us lk sd sf nu gt gl tb sc su) := by
  intro sz
  refine sp_of (cc := cX10_show) (maxL := 3) (ret := some .int) (own := RX10) (Qc := sp_Qi D r' (sw_M a q5 fa tr' la sl ce pn mn cl le ri lt nm nc nl nr nt at9 en9 de mm ma ne us lk sd sf nu gt gl tb sc su)) (by decide) rfl rfl (Nat.le_of_ble_eq_true rfl) ?_
  intro p e s m args below meth c A ls Q hQ S hr hlk hK hG hA hW hl
  have hx := S.1
  have hb := S.2.1
  unfold f_X10_show at hf
  refine lv_aload_n hx hb dX10_show_0 rfl (lv_at hl 0 rfl) ?_
  refine lv_iload_n hx hb dX10_show_1 rfl (lv_at hl 1 rfl) ?_
  refine lv_iload_n hx hb dX10_show_2 rfl (lv_at hl 2 rfl) ?_
  obtain ⟨r1, hc1, hf⟩ := sp_hc hf
  refine sp_callViP (rest := []) S hK hG hA hW (c_X10_isLine a fa tr la sl ce pn mn cl le ri lt nm nc nl nr nt at9 en9 de mm ma ne us lk sd sf nu gt gl tb sc su p1 p2 hc1) (by decide) (cwV 2 S.2.2.2.2 gX10_show_X10_isLine rfl rfl rfl (by decide +kernel) (by decide)) 8 0 rfl rfl (sp_pn _) rfl (WS' := sw_M a q5 fa tr la sl ce pn mn cl le ri lt nm nc nl nr nt at9 en9 de mm ma ne us lk sd sf nu gt gl tb sc su) (sp_pn' _) rfl hl.1 (Nat.le_of_ble_eq_true rfl) dX10_show_3 ⟨Nat.zero_le _, Nat.zero_le _⟩ rfl (fun H locs hW => ?_)
  refine lv_if_ne (tgt := 11) hx hb dX10_show_6 (by decide) (fun hc => ?_) (fun hc => ?_)
  · have hf := sp_hf hf hc
    refine lv_aload_n hx hb dX10_show_11 rfl (lv_at hl 0 rfl) ?_
    refine lv_aload_n hx hb dX10_show_12 rfl (lv_at hl 0 rfl) ?_
    refine lv_iload_n hx hb dX10_show_13 rfl (lv_at hl 1 rfl) ?_
    refine lv_iload_n hx hb dX10_show_14 rfl (lv_at hl 2 rfl) ?_
    obtain ⟨r2, hc2, hf⟩ := sp_hc hf
    refine sp_callViP (rest := [.ref (a 0)]) S hK hG hA hW (c_X10_kindOf a fa tr la sl ce pn mn cl le ri lt nm nc nl nr nt at9 en9 de mm ma ne us lk sd sf nu gt gl tb sc su p1 p2 hc2) (by decide) (cwV 2 S.2.2.2.2 gX10_show_X10_kindOf rfl rfl rfl (by decide +kernel) (by decide)) 8 0 rfl rfl (sp_pn _) rfl (WS' := sw_M a q5 fa tr la sl ce pn mn cl le ri lt nm nc nl nr nt at9 en9 de mm ma ne us lk sd sf nu gt gl tb sc su) (sp_pn' _) rfl hl.1 (Nat.le_of_ble_eq_true rfl) dX10_show_15 ⟨Nat.zero_le _, Nat.zero_le _⟩ rfl (fun H locs hW => ?_)
    refine lv_iconst (v := 2) hx hb dX10_show_18 (by decide) ?_
    obtain ⟨k4, ek4, hf⟩ := sp_hb hf
    have hj4 : ∀ (x3 : Int32) (H : Heap) (locs : List Loc) (ls : Array Slot), k4 x3 = some (r', tr') → sp_wd D A s.heap (sw_M a q5 fa tr la sl ce pn mn cl le ri lt nm nc nl nr nt at9 en9 de mm ma ne us lk sd sf nu gt gl tb sc su) H locs → lv_has ls 3 [(0, .ref (a 0)), (1, .int p1), (2, .int p2)] → W p l e rmX10_show s m args below meth c H locs 0 0 Q (F0 m 27 ls [.int x3, .ref (a 0)]) := by
      intro x3 H locs ls hf hW hl
      rw [ek4] at hf
      obtain ⟨c5, hc5, hf⟩ := sp_hc hf
      refine sp_callVvP (rest := []) S hK hG hA hW (c_X10_begins a fa tr la sl ce pn mn cl le ri lt nm nc nl nr nt at9 en9 de mm ma ne us lk sd sf nu gt gl tb sc su x3 hc5) (by decide) (cwV 1 S.2.2.2.2 gX10_show_X10_begins rfl rfl rfl (by decide +kernel) (by decide)) 8 0 rfl rfl (sp_pn _) rfl (WS' := sw_M a q5 fa c5 la sl ce pn mn cl le ri lt nm nc nl nr nt at9 en9 de mm ma ne us lk sd sf nu gt gl tb sc su) (sp_pn' _) rfl hl.1 (Nat.le_of_ble_eq_true rfl) dX10_show_27 ⟨Nat.zero_le _, Nat.zero_le _⟩ rfl (fun H locs hW => ?_)
      refine lv_aload_n hx hb dX10_show_30 rfl (lv_at hl 0 rfl) ?_
      refine lv_iload_n hx hb dX10_show_31 rfl (lv_at hl 1 rfl) ?_
      refine lv_iload_n hx hb dX10_show_32 rfl (lv_at hl 2 rfl) ?_
      obtain ⟨r6, hc6, hf⟩ := sp_hc hf
      refine sp_callViP (rest := []) S hK hG hA hW (c_X10_kindOf a fa c5 la sl ce pn mn cl le ri lt nm nc nl nr nt at9 en9 de mm ma ne us lk sd sf nu gt gl tb sc su p1 p2 hc6) (by decide) (cwV 2 S.2.2.2.2 gX10_show_X10_kindOf rfl rfl rfl (by decide +kernel) (by decide)) 8 0 rfl rfl (sp_pn _) rfl (WS' := sw_M a q5 fa c5 la sl ce pn mn cl le ri lt nm nc nl nr nt at9 en9 de mm ma ne us lk sd sf nu gt gl tb sc su) (sp_pn' _) rfl hl.1 (Nat.le_of_ble_eq_true rfl) dX10_show_33 ⟨Nat.zero_le _, Nat.zero_le _⟩ rfl (fun H locs hW => ?_)
      refine lv_iconst (v := 2) hx hb dX10_show_36 (by decide) ?_
      refine lv_icmp_ne (tgt := 45) hx hb dX10_show_37 (by decide) (fun hc => ?_) (fun hc => ?_)
      · have hf := sp_hf hf hc
        refine lv_iload_n hx hb dX10_show_45 rfl (lv_at hl 2 rfl) ?_
        have q0 := Option.some.inj hf
        obtain ⟨q1, z1⟩ := Prod.mk.inj q0
        subst q1
        subst z1
        exact sp_iret S hr hlk hW hQ dX10_show_46
      · have hf := sp_ht hf hc
        refine lv_bipush (v := 90) hx hb dX10_show_40 (by decide) ?_
        refine lv_goto (tgt := 46) hx hb dX10_show_42 (by decide) ?_
        have q0 := Option.some.inj hf
        obtain ⟨q1, z1⟩ := Prod.mk.inj q0
        subst q1
        subst z1
        exact sp_iret S hr hlk hW hQ dX10_show_46
    refine lv_icmp_ne (tgt := 26) hx hb dX10_show_19 (by decide) (fun hc => ?_) (fun hc => ?_)
    · have hf := sp_hf hf hc
      refine lv_iconst (v := 4) hx hb dX10_show_26 (by decide) ?_
      exact hj4 _ _ _ _ hf hW (lv_sub hl [0, 1, 2] rfl)
    · have hf := sp_ht hf hc
      refine lv_iconst (v := 5) hx hb dX10_show_22 (by decide) ?_
      refine lv_goto (tgt := 27) hx hb dX10_show_23 (by decide) ?_
      exact hj4 _ _ _ _ hf hW (lv_sub hl [0, 1, 2] rfl)
  · have hf := sp_ht hf hc
    refine lv_iconst (v := (-1)) hx hb dX10_show_9 (by decide) ?_
    have q0 := Option.some.inj hf
    obtain ⟨q1, z1⟩ := Prod.mk.inj q0
    subst q1
    subst z1
    exact sp_iret S hr hlk hW hQ dX10_show_10

def f_X10_as (p1 : Int32) (p2 : Int32) (p3 : Int32) (pn : Int32) (mn : Nat → Int32) (lt : Nat → Int32) : Option (Int32 × Int32) := Option.bind (f_X10_isLine p1 p2 pn mn) (fun r1 => if r1 = 0 then (some ((-1 : Int32), (0 : Int32))) else (Option.bind (f_X10_within p3 (0 : Int32) (2 : Int32)) (fun r2 => if r2 = 0 then (some ((-2 : Int32), (0 : Int32))) else (Option.bind (f_X10_kindOf p1 p2 mn lt) (fun r3 => if r3 < p3 then (Option.bind (f_X10_fails (2 : Int32)) (fun q9 => match q9 with | (r4, c5) => some (r4, c5))) else (some ((1 : Int32), (0 : Int32))))))))
def rmX10_as : Room := { frames := 2, cells := 0, slots := 0, locals := 43 }
set_option maxRecDepth 4000 in
theorem c_X10_as {l : Launch} {D : va_G} {q5 : Nat → ClassId} (a : Nat → Nat) (fa : Int32) (tr : Int32) (la : Nat → Int32) (sl : Nat → Int32) (ce : Nat → Int32) (pn : Int32) (mn : Nat → Int32) (cl : Nat → Int32) (le : Nat → Int32) (ri : Nat → Int32) (lt : Nat → Int32) (nm : Int32) (nc : Nat → Int32) (nl : Nat → Int32) (nr : Nat → Int32) (nt : Nat → Int32) (at9 : Int32) (en9 : Int32) (de : Nat → Int32) (mm : Int32) (ma : Nat → Int32) (ne : Nat → Int32) (us : Nat → Int32) (lk : Nat → Int32) (sd : Nat → Int32) (sf : Nat → Int32) (nu : Nat → Int32) (gt : Nat → Int64) (gl : Nat → Int32) (tb : Nat → Int64) (sc : Nat → Int32) (su : Nat → Int32) (p1 : Int32) (p2 : Int32) (p3 : Int32) {r' : Int32} {fa' : Int32} (hf : f_X10_as p1 p2 p3 pn mn lt = some (r', fa')) : sp_Ci l yX10_as wsX10_as rmX10_as D q5 0 [.ref (a 0), .int p1, .int p2, .int p3] (sw_M a q5 fa tr la sl ce pn mn cl le ri lt nm nc nl nr nt at9 en9 de mm ma ne us lk sd sf nu gt gl tb sc su) r' (sw_M a q5 fa' tr la sl ce pn mn cl le ri lt nm nc nl nr nt at9 en9 de mm ma ne us lk sd sf nu gt gl tb sc su) := by
  intro sz
  refine sp_of (cc := cX10_as) (maxL := 4) (ret := some .int) (own := RX10) (Qc := sp_Qi D r' (sw_M a q5 fa' tr la sl ce pn mn cl le ri lt nm nc nl nr nt at9 en9 de mm ma ne us lk sd sf nu gt gl tb sc su)) (by decide) rfl rfl (Nat.le_of_ble_eq_true rfl) ?_
  intro p e s m args below meth c A ls Q hQ S hr hlk hK hG hA hW hl
  have hx := S.1
  have hb := S.2.1
  unfold f_X10_as at hf
  have inX10 : ∀ w ∈ u_ws RX10 TX10 32, w ∈ wsX10_as := (fun _ h => List.mem_cons_of_mem _ (List.mem_append_right _ h))
  have lk1 := S.2.2.2.2 (Cond.fieldLink RX10 86 "ShortProofsModel" "fault" "I") (List.mem_of_getElem? (i := 1) rfl)
  refine lv_aload_n hx hb dX10_as_0 rfl (lv_at hl 0 rfl) ?_
  refine lv_iconst (v := 0) hx hb dX10_as_1 (by decide) ?_
  refine sp_put S hK hW inX10 tyX10_ok nmX10 0 rfl rfl 0 (by decide) lk1 rfl rfl rfl (Nat.le_of_ble_eq_true rfl) (ws' := sw_M a q5 (0 : Int32) tr la sl ce pn mn cl le ri lt nm nc nl nr nt at9 en9 de mm ma ne us lk sd sf nu gt gl tb sc su) rfl dX10_as_2 (fun H locs hW => ?_)
  refine lv_aload_n hx hb dX10_as_5 rfl (lv_at hl 0 rfl) ?_
  refine lv_iload_n hx hb dX10_as_6 rfl (lv_at hl 1 rfl) ?_
  refine lv_iload_n hx hb dX10_as_7 rfl (lv_at hl 2 rfl) ?_
  obtain ⟨r1, hc1, hf⟩ := sp_hc hf
  refine sp_callViP (rest := []) S hK hG hA hW (c_X10_isLine a (0 : Int32) tr la sl ce pn mn cl le ri lt nm nc nl nr nt at9 en9 de mm ma ne us lk sd sf nu gt gl tb sc su p1 p2 hc1) (by decide) (cwV 2 S.2.2.2.2 gX10_as_X10_isLine rfl rfl rfl (by decide +kernel) (by decide)) 8 0 rfl rfl (sp_pn _) rfl (WS' := sw_M a q5 (0 : Int32) tr la sl ce pn mn cl le ri lt nm nc nl nr nt at9 en9 de mm ma ne us lk sd sf nu gt gl tb sc su) (sp_pn' _) rfl hl.1 (Nat.le_of_ble_eq_true rfl) dX10_as_8 ⟨Nat.zero_le _, Nat.zero_le _⟩ rfl (fun H locs hW => ?_)
  refine lv_if_ne (tgt := 16) hx hb dX10_as_11 (by decide) (fun hc => ?_) (fun hc => ?_)
  · have hf := sp_hf hf hc
    refine lv_iload_n hx hb dX10_as_16 rfl (lv_at hl 3 rfl) ?_
    refine lv_iconst (v := 0) hx hb dX10_as_17 (by decide) ?_
    refine lv_iconst (v := 2) hx hb dX10_as_18 (by decide) ?_
    obtain ⟨r2, hc2, hf⟩ := sp_hc hf
    refine sp_callSi (rest := []) S hK hG hA hW (c_X10_within p3 (0 : Int32) (2 : Int32) hc2) (by decide) (va_cwS 3 S.2.2.2.2 gX10_as_X10_within rfl rfl rfl (by decide +kernel) (by decide)) (isC := []) rfl rfl rfl (WS' := sw_M a q5 (0 : Int32) tr la sl ce pn mn cl le ri lt nm nc nl nr nt at9 en9 de mm ma ne us lk sd sf nu gt gl tb sc su) rfl rfl hl.1 (Nat.le_of_ble_eq_true rfl) dX10_as_19 ⟨Nat.zero_le _, Nat.zero_le _⟩ rfl (fun H locs hW => ?_)
    refine lv_if_ne (tgt := 28) hx hb dX10_as_22 (by decide) (fun hc => ?_) (fun hc => ?_)
    · have hf := sp_hf hf hc
      refine lv_aload_n hx hb dX10_as_28 rfl (lv_at hl 0 rfl) ?_
      refine lv_iload_n hx hb dX10_as_29 rfl (lv_at hl 1 rfl) ?_
      refine lv_iload_n hx hb dX10_as_30 rfl (lv_at hl 2 rfl) ?_
      obtain ⟨r3, hc3, hf⟩ := sp_hc hf
      refine sp_callViP (rest := []) S hK hG hA hW (c_X10_kindOf a (0 : Int32) tr la sl ce pn mn cl le ri lt nm nc nl nr nt at9 en9 de mm ma ne us lk sd sf nu gt gl tb sc su p1 p2 hc3) (by decide) (cwV 2 S.2.2.2.2 gX10_as_X10_kindOf rfl rfl rfl (by decide +kernel) (by decide)) 8 0 rfl rfl (sp_pn _) rfl (WS' := sw_M a q5 (0 : Int32) tr la sl ce pn mn cl le ri lt nm nc nl nr nt at9 en9 de mm ma ne us lk sd sf nu gt gl tb sc su) (sp_pn' _) rfl hl.1 (Nat.le_of_ble_eq_true rfl) dX10_as_31 ⟨Nat.zero_le _, Nat.zero_le _⟩ rfl (fun H locs hW => ?_)
      refine lv_iload_n hx hb dX10_as_34 rfl (lv_at hl 3 rfl) ?_
      refine lv_icmp_lt (tgt := 42) hx hb dX10_as_35 (by decide) (fun hc => ?_) (fun hc => ?_)
      · have hf := sp_ht hf hc
        refine lv_aload_n hx hb dX10_as_42 rfl (lv_at hl 0 rfl) ?_
        refine lv_iconst (v := 2) hx hb dX10_as_43 (by decide) ?_
        obtain ⟨⟨r4, c5⟩, hc5, hf⟩ := sp_hc hf
        refine sp_callViP (rest := []) S hK hG hA hW (c_X10_fails a (0 : Int32) tr la sl ce pn mn cl le ri lt nm nc nl nr nt at9 en9 de mm ma ne us lk sd sf nu gt gl tb sc su (2 : Int32) hc5) (by decide) (cwV 1 S.2.2.2.2 gX10_as_X10_fails rfl rfl rfl (by decide +kernel) (by decide)) 8 0 rfl rfl (sp_pn _) rfl (WS' := sw_M a q5 c5 tr la sl ce pn mn cl le ri lt nm nc nl nr nt at9 en9 de mm ma ne us lk sd sf nu gt gl tb sc su) (sp_pn' _) rfl hl.1 (Nat.le_of_ble_eq_true rfl) dX10_as_44 ⟨Nat.zero_le _, Nat.zero_le _⟩ rfl (fun H locs hW => ?_)
        have q0 := Option.some.inj hf
        obtain ⟨q1, z1⟩ := Prod.mk.inj q0
        subst q1
        subst z1
        exact sp_iret S hr hlk hW hQ dX10_as_47
      · have hf := sp_hf hf hc
        refine lv_iconst (v := 1) hx hb dX10_as_38 (by decide) ?_
        refine lv_goto (tgt := 47) hx hb dX10_as_39 (by decide) ?_
        have q0 := Option.some.inj hf
        obtain ⟨q1, z1⟩ := Prod.mk.inj q0
        subst q1
        subst z1
        exact sp_iret S hr hlk hW hQ dX10_as_47
    · have hf := sp_ht hf hc
      refine lv_bipush (v := (-2)) hx hb dX10_as_25 (by decide) ?_
      have q0 := Option.some.inj hf
      obtain ⟨q1, z1⟩ := Prod.mk.inj q0
      subst q1
      subst z1
      exact sp_iret S hr hlk hW hQ dX10_as_27
  · have hf := sp_ht hf hc
    refine lv_iconst (v := (-1)) hx hb dX10_as_14 (by decide) ?_
    have q0 := Option.some.inj hf
    obtain ⟨q1, z1⟩ := Prod.mk.inj q0
    subst q1
    subst z1
    exact sp_iret S hr hlk hW hQ dX10_as_15

def f_X10_trace (tr : Int32) : Option (Int32) := some tr
def rmX10_trace : Room := { frames := 0, cells := 0, slots := 0, locals := 0 }
set_option maxRecDepth 4000 in
theorem c_X10_trace {l : Launch} {D : va_G} {q5 : Nat → ClassId} (a : Nat → Nat) (fa : Int32) (tr : Int32) (la : Nat → Int32) (sl : Nat → Int32) (ce : Nat → Int32) (pn : Int32) (mn : Nat → Int32) (cl : Nat → Int32) (le : Nat → Int32) (ri : Nat → Int32) (lt : Nat → Int32) (nm : Int32) (nc : Nat → Int32) (nl : Nat → Int32) (nr : Nat → Int32) (nt : Nat → Int32) (at9 : Int32) (en9 : Int32) (de : Nat → Int32) (mm : Int32) (ma : Nat → Int32) (ne : Nat → Int32) (us : Nat → Int32) (lk : Nat → Int32) (sd : Nat → Int32) (sf : Nat → Int32) (nu : Nat → Int32) (gt : Nat → Int64) (gl : Nat → Int32) (tb : Nat → Int64) (sc : Nat → Int32) (su : Nat → Int32) {r' : Int32} (hf : f_X10_trace tr = some r') : sp_Ci l yX10_trace wsX10_trace rmX10_trace D q5 0 [.ref (a 0)] (sw_M a q5 fa tr la sl ce pn mn cl le ri lt nm nc nl nr nt at9 en9 de mm ma ne us lk sd sf nu gt gl tb sc su) r' (sw_M a q5 fa tr la sl ce pn mn cl le ri lt nm nc nl nr nt at9 en9 de mm ma ne us lk sd sf nu gt gl tb sc su) := by
  intro sz
  refine sp_of (cc := cX10_trace) (maxL := 1) (ret := some .int) (own := RX10) (Qc := sp_Qi D r' (sw_M a q5 fa tr la sl ce pn mn cl le ri lt nm nc nl nr nt at9 en9 de mm ma ne us lk sd sf nu gt gl tb sc su)) (by decide) rfl rfl (Nat.le_of_ble_eq_true rfl) ?_
  intro p e s m args below meth c A ls Q hQ S hr hlk hK hG hA hW hl
  have hx := S.1
  have hb := S.2.1
  unfold f_X10_trace at hf
  have inX10 : ∀ w ∈ u_ws RX10 TX10 32, w ∈ wsX10_trace := (fun _ h => List.mem_cons_of_mem _ (List.mem_append_right _ h))
  have lk1 := S.2.2.2.2 (Cond.fieldLink RX10 288 "ShortProofsModel" "trace" "I") (List.mem_of_getElem? (i := 1) rfl)
  refine lv_aload_n hx hb dX10_trace_0 rfl (lv_at hl 0 rfl) ?_
  refine sp_get S hK hW inX10 0 rfl rfl 1 (by decide) lk1 rfl dX10_trace_1 ?_
  have q0 := Option.some.inj hf
  subst q0
  exact sp_iret S hr hlk hW hQ dX10_trace_4

def f_X10_fault (fa : Int32) : Option (Int32) := some fa
def rmX10_fault : Room := { frames := 0, cells := 0, slots := 0, locals := 0 }
set_option maxRecDepth 4000 in
theorem c_X10_fault {l : Launch} {D : va_G} {q5 : Nat → ClassId} (a : Nat → Nat) (fa : Int32) (tr : Int32) (la : Nat → Int32) (sl : Nat → Int32) (ce : Nat → Int32) (pn : Int32) (mn : Nat → Int32) (cl : Nat → Int32) (le : Nat → Int32) (ri : Nat → Int32) (lt : Nat → Int32) (nm : Int32) (nc : Nat → Int32) (nl : Nat → Int32) (nr : Nat → Int32) (nt : Nat → Int32) (at9 : Int32) (en9 : Int32) (de : Nat → Int32) (mm : Int32) (ma : Nat → Int32) (ne : Nat → Int32) (us : Nat → Int32) (lk : Nat → Int32) (sd : Nat → Int32) (sf : Nat → Int32) (nu : Nat → Int32) (gt : Nat → Int64) (gl : Nat → Int32) (tb : Nat → Int64) (sc : Nat → Int32) (su : Nat → Int32) {r' : Int32} (hf : f_X10_fault fa = some r') : sp_Ci l yX10_fault wsX10_fault rmX10_fault D q5 0 [.ref (a 0)] (sw_M a q5 fa tr la sl ce pn mn cl le ri lt nm nc nl nr nt at9 en9 de mm ma ne us lk sd sf nu gt gl tb sc su) r' (sw_M a q5 fa tr la sl ce pn mn cl le ri lt nm nc nl nr nt at9 en9 de mm ma ne us lk sd sf nu gt gl tb sc su) := by
  intro sz
  refine sp_of (cc := cX10_fault) (maxL := 1) (ret := some .int) (own := RX10) (Qc := sp_Qi D r' (sw_M a q5 fa tr la sl ce pn mn cl le ri lt nm nc nl nr nt at9 en9 de mm ma ne us lk sd sf nu gt gl tb sc su)) (by decide) rfl rfl (Nat.le_of_ble_eq_true rfl) ?_
  intro p e s m args below meth c A ls Q hQ S hr hlk hK hG hA hW hl
  have hx := S.1
  have hb := S.2.1
  unfold f_X10_fault at hf
  have inX10 : ∀ w ∈ u_ws RX10 TX10 32, w ∈ wsX10_fault := (fun _ h => List.mem_cons_of_mem _ (List.mem_append_right _ h))
  have lk1 := S.2.2.2.2 (Cond.fieldLink RX10 86 "ShortProofsModel" "fault" "I") (List.mem_of_getElem? (i := 1) rfl)
  refine lv_aload_n hx hb dX10_fault_0 rfl (lv_at hl 0 rfl) ?_
  refine sp_get S hK hW inX10 0 rfl rfl 0 (by decide) lk1 rfl dX10_fault_1 ?_
  have q0 := Option.some.inj hf
  subst q0
  exact sp_iret S hr hlk hW hQ dX10_fault_4

def f_X10_many_L4 (pn : Int32) (k4 : Int32 → Option (Int32)) (mn : Nat → Int32) (rec4 : (Int32 × Int32) → Option (Int32)) (s9 : Int32 × Int32) : Option (Int32) := match s9 with
  | (y1, y2) => if pn ≤ y2 then (k4 y1) else (sp_ld mn 12 y2 (fun v5 => sp_bnd (y1 + v5) (fun v6 => sp_bnd (y2 + (1 : Int32)) (fun v7 => rec4 (v6, v7)))))
theorem f_X10_many_L4_eq {rec4 : (Int32 × Int32) → Option (Int32)} {pn : Int32} {k4 : Int32 → Option (Int32)} {mn : Nat → Int32} {y1 : Int32} {y2 : Int32} : f_X10_many_L4 pn k4 mn rec4 (y1, y2) = (if pn ≤ y2 then (k4 y1) else (sp_ld mn 12 y2 (fun v5 => sp_bnd (y1 + v5) (fun v6 => sp_bnd (y2 + (1 : Int32)) (fun v7 => rec4 (v6, v7)))))) := rfl
def f_X10_many (p1 : Int32) (pn : Int32) (mn : Nat → Int32) : Option (Int32) := sp_bnd (fun (x3 : Int32) => if p1 = 0 then (some pn) else (if p1 = (1 : Int32) then (some x3) else (some (-2 : Int32)))) (fun k4 => sp_lp (f_X10_many_L4 pn k4 mn) sp_F ((0 : Int32), (0 : Int32)))
def rmX10_many : Room := { frames := 0, cells := 0, slots := 0, locals := 0 }
set_option maxRecDepth 4000 in
theorem c_X10_many {l : Launch} {D : va_G} {q5 : Nat → ClassId} (a : Nat → Nat) (fa : Int32) (tr : Int32) (la : Nat → Int32) (sl : Nat → Int32) (ce : Nat → Int32) (pn : Int32) (mn : Nat → Int32) (cl : Nat → Int32) (le : Nat → Int32) (ri : Nat → Int32) (lt : Nat → Int32) (nm : Int32) (nc : Nat → Int32) (nl : Nat → Int32) (nr : Nat → Int32) (nt : Nat → Int32) (at9 : Int32) (en9 : Int32) (de : Nat → Int32) (mm : Int32) (ma : Nat → Int32) (ne : Nat → Int32) (us : Nat → Int32) (lk : Nat → Int32) (sd : Nat → Int32) (sf : Nat → Int32) (nu : Nat → Int32) (gt : Nat → Int64) (gl : Nat → Int32) (tb : Nat → Int64) (sc : Nat → Int32) (su : Nat → Int32) (p1 : Int32) {r' : Int32} (hf : f_X10_many p1 pn mn = some r') : sp_Ci l yX10_many wsX10_many rmX10_many D q5 0 [.ref (a 0), .int p1] (sw_M a q5 fa tr la sl ce pn mn cl le ri lt nm nc nl nr nt at9 en9 de mm ma ne us lk sd sf nu gt gl tb sc su) r' (sw_M a q5 fa tr la sl ce pn mn cl le ri lt nm nc nl nr nt at9 en9 de mm ma ne us lk sd sf nu gt gl tb sc su) := by
  intro sz
  refine sp_of (cc := cX10_many) (maxL := 4) (ret := some .int) (own := RX10) (Qc := sp_Qi D r' (sw_M a q5 fa tr la sl ce pn mn cl le ri lt nm nc nl nr nt at9 en9 de mm ma ne us lk sd sf nu gt gl tb sc su)) (by decide) rfl rfl (Nat.le_of_ble_eq_true rfl) ?_
  intro p e s m args below meth c A ls Q hQ S hr hlk hK hG hA hW hl
  have hx := S.1
  have hb := S.2.1
  unfold f_X10_many at hf
  have inX10 : ∀ w ∈ u_ws RX10 TX10 32, w ∈ wsX10_many := (fun _ h => List.mem_cons_of_mem _ (List.mem_append_right _ h))
  have lk1 := S.2.2.2.2 (Cond.fieldLink RX10 108 "ShortProofsModel" "proofs" "I") (List.mem_of_getElem? (i := 1) rfl)
  have lk2 := S.2.2.2.2 (Cond.fieldLink RX10 19 "ShortProofsModel" "many" "[I") (List.mem_of_getElem? (i := 2) rfl)
  refine lv_iconst (v := 0) hx hb dX10_many_0 (by decide) ?_
  refine lv_istore_n (lv' := [(2, .int (0 : Int32)), (0, .ref (a 0)), (1, .int p1)]) hx hb dX10_many_1 rfl hl (by decide) rfl (fun ls hl => ?_)
  refine lv_iconst (v := 0) hx hb dX10_many_2 (by decide) ?_
  refine lv_istore_n (lv' := [(3, .int (0 : Int32)), (2, .int (0 : Int32)), (0, .ref (a 0)), (1, .int p1)]) hx hb dX10_many_3 rfl hl (by decide) rfl (fun ls hl => ?_)
  obtain ⟨k4, ek4, hf⟩ := sp_hb hf
  have hj4 : ∀ (x3 : Int32) (H : Heap) (locs : List Loc) (ls : Array Slot), k4 x3 = some r' → sp_wd D A s.heap (sw_M a q5 fa tr la sl ce pn mn cl le ri lt nm nc nl nr nt at9 en9 de mm ma ne us lk sd sf nu gt gl tb sc su) H locs → lv_has ls 4 [(0, .ref (a 0)), (1, .int p1), (2, .int x3)] → W p l e rmX10_many s m args below meth c H locs 0 0 Q (F0 m 27 ls []) := by
    intro x3 H locs ls hf hW hl
    rw [ek4] at hf
    refine lv_iload_n hx hb dX10_many_27 rfl (lv_at hl 1 rfl) ?_
    refine lv_if_ne (tgt := 38) hx hb dX10_many_28 (by decide) (fun hc => ?_) (fun hc => ?_)
    · have hf := sp_hf hf hc
      refine lv_iload_n hx hb dX10_many_38 rfl (lv_at hl 1 rfl) ?_
      refine lv_iconst (v := 1) hx hb dX10_many_39 (by decide) ?_
      refine lv_icmp_ne (tgt := 47) hx hb dX10_many_40 (by decide) (fun hc => ?_) (fun hc => ?_)
      · have hf := sp_hf hf hc
        refine lv_bipush (v := (-2)) hx hb dX10_many_47 (by decide) ?_
        have q0 := Option.some.inj hf
        subst q0
        exact sp_iret S hr hlk hW hQ dX10_many_49
      · have hf := sp_ht hf hc
        refine lv_iload_n hx hb dX10_many_43 rfl (lv_at hl 2 rfl) ?_
        refine lv_goto (tgt := 49) hx hb dX10_many_44 (by decide) ?_
        have q0 := Option.some.inj hf
        subst q0
        exact sp_iret S hr hlk hW hQ dX10_many_49
    · have hf := sp_ht hf hc
      refine lv_aload_n hx hb dX10_many_31 rfl (lv_at hl 0 rfl) ?_
      refine sp_get S hK hW inX10 0 rfl rfl 5 (by decide) lk1 rfl dX10_many_32 ?_
      refine lv_goto (tgt := 49) hx hb dX10_many_35 (by decide) ?_
      have q0 := Option.some.inj hf
      subst q0
      exact sp_iret S hr hlk hW hQ dX10_many_49
  have hlp4 : ∀ (n9 : Nat) (y1 : Int32) (y2 : Int32) (H : Heap) (locs : List Loc) (ls : Array Slot), sp_lp (f_X10_many_L4 pn k4 mn) n9 (y1, y2) = some r' → sp_wd D A s.heap (sw_M a q5 fa tr la sl ce pn mn cl le ri lt nm nc nl nr nt at9 en9 de mm ma ne us lk sd sf nu gt gl tb sc su) H locs → lv_has ls 4 [(0, .ref (a 0)), (1, .int p1), (2, .int y1), (3, .int y2)] → W p l e rmX10_many s m args below meth c H locs 0 0 Q (F0 m 4 ls []) := by
    intro n9
    induction n9 with
    | zero =>
      intro y1 y2 H locs ls hf hW hl
      exact (sp_lp0 hf).elim
    | succ n9 ih4 =>
      intro y1 y2 H locs ls hf hW hl
      have hf := sp_lpS hf
      rw [f_X10_many_L4_eq] at hf
      refine lv_iload_n hx hb dX10_many_4 rfl (lv_at hl 3 rfl) ?_
      refine lv_aload_n hx hb dX10_many_5 rfl (lv_at hl 0 rfl) ?_
      refine sp_get S hK hW inX10 0 rfl rfl 5 (by decide) lk1 rfl dX10_many_6 ?_
      refine lv_icmp_ge (tgt := 27) hx hb dX10_many_9 (by decide) (fun hc => ?_) (fun hc => ?_)
      · have hf := sp_ht hf hc
        exact hj4 _ _ _ _ hf hW (lv_sub hl [0, 1, 2] rfl)
      · have hf := sp_hf hf hc
        refine lv_iload_n hx hb dX10_many_12 rfl (lv_at hl 2 rfl) ?_
        refine lv_aload_n hx hb dX10_many_13 rfl (lv_at hl 0 rfl) ?_
        refine sp_get S hK hW inX10 0 rfl rfl 6 (by decide) lk2 rfl dX10_many_14 ?_
        refine lv_iload_n hx hb dX10_many_17 rfl (lv_at hl 3 rfl) ?_
        obtain ⟨hin, v5, ev5, hf⟩ := sp_hld hf
        refine sp_iald S hK hW 4 rfl hin ev5 dX10_many_18 ?_
        refine lv_iadd hx hb dX10_many_19 ?_
        obtain ⟨v6, ev6, hf⟩ := sp_hb hf
        refine sp_topi ev6 ?_
        refine lv_istore_n (lv' := [(2, .int v6), (0, .ref (a 0)), (1, .int p1), (3, .int y2)]) hx hb dX10_many_20 rfl hl (by decide) rfl (fun ls hl => ?_)
        obtain ⟨v7, ev7, hf⟩ := sp_hb hf
        refine lv_iinc (v := v7) (lv' := [(3, .int v7), (2, .int v6), (0, .ref (a 0)), (1, .int p1)]) hx hb dX10_many_21 hl (k := 3) rfl (by rw [ev7]; rfl) (by decide) rfl (fun ls hl => ?_)
        refine lv_goto (tgt := 4) hx hb dX10_many_24 (by decide) ?_
        exact ih4 _ _ _ _ _ hf hW (lv_sub hl [2, 3, 1, 0] rfl)
  exact hlp4 _ _ _ _ _ _ hf hW (lv_sub hl [2, 3, 1, 0] rfl)
