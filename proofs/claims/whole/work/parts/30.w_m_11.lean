def f_X10_follows_L32 (p1 : Int32) (mn : Nat → Int32) (lt : Nat → Int32) (k8 : Int64 → Option (Int32 × (Nat → Int64) × (Nat → Int32))) (c3 : Nat → Int64) (rec32 : (Int64 × Int32) → Option (Int32 × (Nat → Int64) × (Nat → Int32))) (s9 : Int64 × Int32) : Option (Int32 × (Nat → Int64) × (Nat → Int32)) := match s9 with
  | (y5, y6) => Option.bind (f_X10_groundsOf p1 mn lt) (fun r10 => if r10 ≤ y6 then (k8 y5) else (sp_ld c3 24 y6 (fun v11 => sp_bnd (y5 &&& v11) (fun v12 => sp_bnd (y6 + (1 : Int32)) (fun v13 => rec32 (v12, v13))))))
theorem f_X10_follows_L32_eq {rec32 : (Int64 × Int32) → Option (Int32 × (Nat → Int64) × (Nat → Int32))} {p1 : Int32} {mn : Nat → Int32} {lt : Nat → Int32} {k8 : Int64 → Option (Int32 × (Nat → Int64) × (Nat → Int32))} {c3 : Nat → Int64} {y5 : Int64} {y6 : Int32} : f_X10_follows_L32 p1 mn lt k8 c3 rec32 (y5, y6) = (Option.bind (f_X10_groundsOf p1 mn lt) (fun r10 => if r10 ≤ y6 then (k8 y5) else (sp_ld c3 24 y6 (fun v11 => sp_bnd (y5 &&& v11) (fun v12 => sp_bnd (y6 + (1 : Int32)) (fun v13 => rec32 (v12, v13))))))) := rfl
def f_X10_follows (p1 : Int32) (p2 : Int32) (pn : Int32) (mn : Nat → Int32) (cl : Nat → Int32) (lt : Nat → Int32) (gt : Nat → Int64) (gl : Nat → Int32) : Option (Int32 × (Nat → Int64) × (Nat → Int32)) := Option.bind (f_X10_isProof p1 pn) (fun r1 => if r1 = 0 then (some ((-1 : Int32), gt, gl)) else (Option.bind (f_X10_isClause p2) (fun r2 => if r2 = 0 then (some ((-2 : Int32), gt, gl)) else (Option.bind (f_X10_layGrounds p1 mn cl lt gt gl) (fun q9 => match q9 with | (c3, c4) => sp_bnd (fun (x7 : Int64) => Option.bind (f_X10_truthsOf p2) (fun r9 => if (lg_cmp (x7 &&& (r9 ^^^ (-1 : Int64))) (0 : Int64)) = 0 then (some ((1 : Int32), c3, c4)) else (some ((0 : Int32), c3, c4)))) (fun k8 => sp_lp (f_X10_follows_L32 p1 mn lt k8 c3) sp_F ((-1 : Int64), (0 : Int32))))))))
def rmX10_follows : Room := { frames := 3, cells := 0, slots := 0, locals := 68 }
set_option maxRecDepth 4000 in
theorem c_X10_follows {l : Launch} {D : va_G} {q5 : Nat → ClassId} (a : Nat → Nat) (fa : Int32) (tr : Int32) (la : Nat → Int32) (sl : Nat → Int32) (ce : Nat → Int32) (pn : Int32) (mn : Nat → Int32) (cl : Nat → Int32) (le : Nat → Int32) (ri : Nat → Int32) (lt : Nat → Int32) (nm : Int32) (nc : Nat → Int32) (nl : Nat → Int32) (nr : Nat → Int32) (nt : Nat → Int32) (at9 : Int32) (en9 : Int32) (de : Nat → Int32) (mm : Int32) (ma : Nat → Int32) (ne : Nat → Int32) (us : Nat → Int32) (lk : Nat → Int32) (sd : Nat → Int32) (sf : Nat → Int32) (nu : Nat → Int32) (gt : Nat → Int64) (gl : Nat → Int32) (tb : Nat → Int64) (sc : Nat → Int32) (su : Nat → Int32) (p1 : Int32) (p2 : Int32) {r' : Int32} {gt' : Nat → Int64} {gl' : Nat → Int32} (hf : f_X10_follows p1 p2 pn mn cl lt gt gl = some (r', gt', gl')) : sp_Ci l yX10_follows wsX10_follows rmX10_follows D q5 0 [.ref (a 0), .int p1, .int p2] (sw_M a q5 fa tr la sl ce pn mn cl le ri lt nm nc nl nr nt at9 en9 de mm ma ne us lk sd sf nu gt gl tb sc su) r' (sw_M a q5 fa tr la sl ce pn mn cl le ri lt nm nc nl nr nt at9 en9 de mm ma ne us lk sd sf nu gt' gl' tb sc su) := by
  intro sz
  refine sp_of (cc := cX10_follows) (maxL := 6) (ret := some .int) (own := RX10) (Qc := sp_Qi D r' (sw_M a q5 fa tr la sl ce pn mn cl le ri lt nm nc nl nr nt at9 en9 de mm ma ne us lk sd sf nu gt' gl' tb sc su)) (by decide) rfl rfl (Nat.le_of_ble_eq_true rfl) ?_
  intro p e s m args below meth c A ls Q hQ S hr hlk hK hG hA hW hl
  have hx := S.1
  have hb := S.2.1
  unfold f_X10_follows at hf
  have inX10 : ∀ w ∈ u_ws RX10 TX10 32, w ∈ wsX10_follows := (fun _ h => List.mem_cons_of_mem _ (List.mem_append_right _ h))
  have lk1 := S.2.2.2.2 (Cond.constantLong RX10 249 (-1)) (List.mem_of_getElem? (i := 1) rfl)
  have lk2 := S.2.2.2.2 (Cond.fieldLink RX10 70 "ShortProofsModel" "groundTruths" "[J") (List.mem_of_getElem? (i := 2) rfl)
  refine lv_aload_n hx hb dX10_follows_0 rfl (lv_at hl 0 rfl) ?_
  refine lv_iload_n hx hb dX10_follows_1 rfl (lv_at hl 1 rfl) ?_
  obtain ⟨r1, hc1, hf⟩ := sp_hc hf
  refine sp_callViP (rest := []) S hK hG hA hW (c_X10_isProof a fa tr la sl ce pn mn cl le ri lt nm nc nl nr nt at9 en9 de mm ma ne us lk sd sf nu gt gl tb sc su p1 hc1) (by decide) (cwV 1 S.2.2.2.2 gX10_follows_X10_isProof rfl rfl rfl (by decide +kernel) (by decide)) 8 0 rfl rfl (sp_pn _) rfl (WS' := sw_M a q5 fa tr la sl ce pn mn cl le ri lt nm nc nl nr nt at9 en9 de mm ma ne us lk sd sf nu gt gl tb sc su) (sp_pn' _) rfl hl.1 (Nat.le_of_ble_eq_true rfl) dX10_follows_2 ⟨Nat.zero_le _, Nat.zero_le _⟩ rfl (fun H locs hW => ?_)
  refine lv_if_ne (tgt := 10) hx hb dX10_follows_5 (by decide) (fun hc => ?_) (fun hc => ?_)
  · have hf := sp_hf hf hc
    refine lv_iload_n hx hb dX10_follows_10 rfl (lv_at hl 2 rfl) ?_
    obtain ⟨r2, hc2, hf⟩ := sp_hc hf
    refine sp_callSi (rest := []) S hK hG hA hW (c_X10_isClause p2 hc2) (by decide) (va_cwS 1 S.2.2.2.2 gX10_follows_X10_isClause rfl rfl rfl (by decide +kernel) (by decide)) (isC := []) rfl rfl rfl (WS' := sw_M a q5 fa tr la sl ce pn mn cl le ri lt nm nc nl nr nt at9 en9 de mm ma ne us lk sd sf nu gt gl tb sc su) rfl rfl hl.1 (Nat.le_of_ble_eq_true rfl) dX10_follows_11 ⟨Nat.zero_le _, Nat.zero_le _⟩ rfl (fun H locs hW => ?_)
    refine lv_if_ne (tgt := 20) hx hb dX10_follows_14 (by decide) (fun hc => ?_) (fun hc => ?_)
    · have hf := sp_hf hf hc
      refine lv_aload_n hx hb dX10_follows_20 rfl (lv_at hl 0 rfl) ?_
      refine lv_iload_n hx hb dX10_follows_21 rfl (lv_at hl 1 rfl) ?_
      obtain ⟨⟨c3, c4⟩, hc4, hf⟩ := sp_hc hf
      refine sp_callVvP (rest := []) S hK hG hA hW (c_X10_layGrounds a fa tr la sl ce pn mn cl le ri lt nm nc nl nr nt at9 en9 de mm ma ne us lk sd sf nu gt gl tb sc su p1 hc4) (by decide) (cwV 1 S.2.2.2.2 gX10_follows_X10_layGrounds rfl rfl rfl (by decide +kernel) (by decide)) 8 0 rfl rfl (sp_pn _) rfl (WS' := sw_M a q5 fa tr la sl ce pn mn cl le ri lt nm nc nl nr nt at9 en9 de mm ma ne us lk sd sf nu c3 c4 tb sc su) (sp_pn' _) rfl hl.1 (Nat.le_of_ble_eq_true rfl) dX10_follows_22 ⟨Nat.zero_le _, Nat.zero_le _⟩ rfl (fun H locs hW => ?_)
      refine lv_ldc2 hx hb S.2.2.2.1 lk1 dX10_follows_25 ?_
      refine lv_lstore_n (lv' := [(3, .long (-1 : Int64)), (0, .ref (a 0)), (1, .int p1), (2, .int p2)]) hx hb dX10_follows_28 rfl hl (by decide) rfl (fun ls hl => ?_)
      refine lv_iconst (v := 0) hx hb dX10_follows_29 (by decide) ?_
      refine lv_istore (lv' := [(5, .int (0 : Int32)), (3, .long (-1 : Int64)), (0, .ref (a 0)), (1, .int p1), (2, .int p2)]) hx hb dX10_follows_30 hl (by decide) rfl (fun ls hl => ?_)
      obtain ⟨k8, ek8, hf⟩ := sp_hb hf
      have hj8 : ∀ (x7 : Int64) (H : Heap) (locs : List Loc) (ls : Array Slot), k8 x7 = some (r', gt', gl') → sp_wd D A s.heap (sw_M a q5 fa tr la sl ce pn mn cl le ri lt nm nc nl nr nt at9 en9 de mm ma ne us lk sd sf nu c3 c4 tb sc su) H locs → lv_has ls 6 [(2, .int p2), (3, .long x7)] → W p l e rmX10_follows s m args below meth c H locs 0 0 Q (F0 m 58 ls []) := by
        intro x7 H locs ls hf hW hl
        rw [ek8] at hf
        refine lv_lload_n hx hb dX10_follows_58 rfl (lv_at hl 1 rfl) ?_
        refine lv_iload_n hx hb dX10_follows_59 rfl (lv_at hl 0 rfl) ?_
        obtain ⟨r9, hc9, hf⟩ := sp_hc hf
        refine sp_callSl (rest := [.long x7]) S hK hG hA hW (c_X10_truthsOf p2 hc9) (by decide) (va_cwS 1 S.2.2.2.2 gX10_follows_X10_truthsOf rfl rfl rfl (by decide +kernel) (by decide)) (isC := []) rfl rfl rfl (WS' := sw_M a q5 fa tr la sl ce pn mn cl le ri lt nm nc nl nr nt at9 en9 de mm ma ne us lk sd sf nu c3 c4 tb sc su) rfl rfl hl.1 (Nat.le_of_ble_eq_true rfl) dX10_follows_60 ⟨Nat.zero_le _, Nat.zero_le _⟩ rfl (fun H locs hW => ?_)
        refine lv_ldc2 hx hb S.2.2.2.1 lk1 dX10_follows_63 ?_
        refine lv_lxor hx hb dX10_follows_66 ?_
        refine lv_land hx hb dX10_follows_67 ?_
        refine lv_lconst (v := 0) hx hb dX10_follows_68 (by decide) ?_
        refine W.lcmp hx hb dX10_follows_69 ?_
        refine lv_if_ne (tgt := 77) hx hb dX10_follows_70 (by decide) (fun hc => ?_) (fun hc => ?_)
        · have hf := sp_hf hf hc
          refine lv_iconst (v := 0) hx hb dX10_follows_77 (by decide) ?_
          have q0 := Option.some.inj hf
          obtain ⟨q1, z1⟩ := Prod.mk.inj q0
          obtain ⟨q2, z2⟩ := Prod.mk.inj z1
          subst q1
          subst q2
          subst z2
          exact sp_iret S hr hlk hW hQ dX10_follows_78
        · have hf := sp_ht hf hc
          refine lv_iconst (v := 1) hx hb dX10_follows_73 (by decide) ?_
          refine lv_goto (tgt := 78) hx hb dX10_follows_74 (by decide) ?_
          have q0 := Option.some.inj hf
          obtain ⟨q1, z1⟩ := Prod.mk.inj q0
          obtain ⟨q2, z2⟩ := Prod.mk.inj z1
          subst q1
          subst q2
          subst z2
          exact sp_iret S hr hlk hW hQ dX10_follows_78
      have hlp32 : ∀ (n9 : Nat) (y5 : Int64) (y6 : Int32) (H : Heap) (locs : List Loc) (ls : Array Slot), sp_lp (f_X10_follows_L32 p1 mn lt k8 c3) n9 (y5, y6) = some (r', gt', gl') → sp_wd D A s.heap (sw_M a q5 fa tr la sl ce pn mn cl le ri lt nm nc nl nr nt at9 en9 de mm ma ne us lk sd sf nu c3 c4 tb sc su) H locs → lv_has ls 6 [(0, .ref (a 0)), (1, .int p1), (2, .int p2), (3, .long y5), (5, .int y6)] → W p l e rmX10_follows s m args below meth c H locs 0 0 Q (F0 m 32 ls []) := by
        intro n9
        induction n9 with
        | zero =>
          intro y5 y6 H locs ls hf hW hl
          exact (sp_lp0 hf).elim
        | succ n9 ih32 =>
          intro y5 y6 H locs ls hf hW hl
          have hf := sp_lpS hf
          rw [f_X10_follows_L32_eq] at hf
          refine lv_iload hx hb dX10_follows_32 (lv_at hl 4 rfl) ?_
          refine lv_aload_n hx hb dX10_follows_34 rfl (lv_at hl 0 rfl) ?_
          refine lv_iload_n hx hb dX10_follows_35 rfl (lv_at hl 1 rfl) ?_
          obtain ⟨r10, hc10, hf⟩ := sp_hc hf
          refine sp_callViP (rest := [.int y6]) S hK hG hA hW (c_X10_groundsOf a fa tr la sl ce pn mn cl le ri lt nm nc nl nr nt at9 en9 de mm ma ne us lk sd sf nu c3 c4 tb sc su p1 hc10) (by decide) (cwV 1 S.2.2.2.2 gX10_follows_X10_groundsOf rfl rfl rfl (by decide +kernel) (by decide)) 8 0 rfl rfl (sp_pn _) rfl (WS' := sw_M a q5 fa tr la sl ce pn mn cl le ri lt nm nc nl nr nt at9 en9 de mm ma ne us lk sd sf nu c3 c4 tb sc su) (sp_pn' _) rfl hl.1 (Nat.le_of_ble_eq_true rfl) dX10_follows_36 ⟨Nat.zero_le _, Nat.zero_le _⟩ rfl (fun H locs hW => ?_)
          refine lv_icmp_ge (tgt := 58) hx hb dX10_follows_39 (by decide) (fun hc => ?_) (fun hc => ?_)
          · have hf := sp_ht hf hc
            exact hj8 _ _ _ _ hf hW (lv_sub hl [2, 3] rfl)
          · have hf := sp_hf hf hc
            refine lv_lload_n hx hb dX10_follows_42 rfl (lv_at hl 3 rfl) ?_
            refine lv_aload_n hx hb dX10_follows_43 rfl (lv_at hl 0 rfl) ?_
            refine sp_get S hK hW inX10 0 rfl rfl 27 (by decide) lk2 rfl dX10_follows_44 ?_
            refine lv_iload hx hb dX10_follows_47 (lv_at hl 4 rfl) ?_
            obtain ⟨hin, v11, ev11, hf⟩ := sp_hld hf
            refine sp_lald S hK hW 21 rfl hin ev11 dX10_follows_49 ?_
            refine lv_land hx hb dX10_follows_50 ?_
            obtain ⟨v12, ev12, hf⟩ := sp_hb hf
            refine sp_topl ev12 ?_
            refine lv_lstore_n (lv' := [(3, .long v12), (0, .ref (a 0)), (1, .int p1), (2, .int p2), (5, .int y6)]) hx hb dX10_follows_51 rfl hl (by decide) rfl (fun ls hl => ?_)
            obtain ⟨v13, ev13, hf⟩ := sp_hb hf
            refine lv_iinc (v := v13) (lv' := [(5, .int v13), (3, .long v12), (0, .ref (a 0)), (1, .int p1), (2, .int p2)]) hx hb dX10_follows_52 hl (k := 4) rfl (by rw [ev13]; rfl) (by decide) rfl (fun ls hl => ?_)
            refine lv_goto (tgt := 32) hx hb dX10_follows_55 (by decide) ?_
            exact ih32 _ _ _ _ _ hf hW (lv_sub hl [2, 3, 4, 1, 0] rfl)
      exact hlp32 _ _ _ _ _ _ hf hW (lv_sub hl [2, 3, 4, 1, 0] rfl)
    · have hf := sp_ht hf hc
      refine lv_bipush (v := (-2)) hx hb dX10_follows_17 (by decide) ?_
      have q0 := Option.some.inj hf
      obtain ⟨q1, z1⟩ := Prod.mk.inj q0
      obtain ⟨q2, z2⟩ := Prod.mk.inj z1
      subst q1
      subst q2
      subst z2
      exact sp_iret S hr hlk hW hQ dX10_follows_19
  · have hf := sp_ht hf hc
    refine lv_iconst (v := (-1)) hx hb dX10_follows_8 (by decide) ?_
    have q0 := Option.some.inj hf
    obtain ⟨q1, z1⟩ := Prod.mk.inj q0
    obtain ⟨q2, z2⟩ := Prod.mk.inj z1
    subst q1
    subst q2
    subst z2
    exact sp_iret S hr hlk hW hQ dX10_follows_9

def f_X10_sheet_L57 (k8 : (Nat → Int32) → Option (Int32 × Int32 × (Nat → Int32) × (Nat → Int32) × (Nat → Int32))) (p1 : Int32) (rec57 : (Int32 × (Nat → Int32)) → Option (Int32 × Int32 × (Nat → Int32) × (Nat → Int32) × (Nat → Int32))) (s9 : Int32 × (Nat → Int32)) : Option (Int32 × Int32 × (Nat → Int32) × (Nat → Int32) × (Nat → Int32)) := match s9 with
  | (y5, c6) => if (60 : Int32) ≤ y5 then (k8 c6) else (sp_st c6 240 (((60 : Int32) * p1) + y5) (0 : Int32) (fun c9 => sp_bnd (y5 + (1 : Int32)) (fun v10 => rec57 (v10, c9))))
theorem f_X10_sheet_L57_eq {rec57 : (Int32 × (Nat → Int32)) → Option (Int32 × Int32 × (Nat → Int32) × (Nat → Int32) × (Nat → Int32))} {k8 : (Nat → Int32) → Option (Int32 × Int32 × (Nat → Int32) × (Nat → Int32) × (Nat → Int32))} {p1 : Int32} {y5 : Int32} {c6 : Nat → Int32} : f_X10_sheet_L57 k8 p1 rec57 (y5, c6) = (if (60 : Int32) ≤ y5 then (k8 c6) else (sp_st c6 240 (((60 : Int32) * p1) + y5) (0 : Int32) (fun c9 => sp_bnd (y5 + (1 : Int32)) (fun v10 => rec57 (v10, c9))))) := rfl
def f_X10_sheet (p1 : Int32) (p2 : Int32) (p3 : Int32) (la : Nat → Int32) (sl : Nat → Int32) (ce : Nat → Int32) : Option (Int32 × Int32 × (Nat → Int32) × (Nat → Int32) × (Nat → Int32)) := Option.bind (f_X10_isSheet p1) (fun r1 => if r1 = 0 then (some ((-1 : Int32), (0 : Int32), la, sl, ce)) else (Option.bind (f_X10_isLane p2) (fun r2 => if r2 = 0 then (some ((-2 : Int32), (0 : Int32), la, sl, ce)) else (if p3 ≤ (60 : Int32) then (if 0 ≤ p3 then (sp_st la 4 p1 p2 (fun c3 => sp_st sl 4 p1 p3 (fun c4 => sp_bnd (fun (c7 : Nat → Int32) => some ((1 : Int32), (0 : Int32), c3, c4, c7)) (fun k8 => sp_lp (f_X10_sheet_L57 k8 p1) sp_F ((0 : Int32), ce))))) else (Option.bind (f_X10_fails (4 : Int32)) (fun q9 => match q9 with | (r11, c12) => some (r11, c12, la, sl, ce)))) else (some ((-2 : Int32), (0 : Int32), la, sl, ce))))))
def rmX10_sheet : Room := { frames := 2, cells := 0, slots := 0, locals := 42 }
set_option maxRecDepth 4000 in
theorem c_X10_sheet {l : Launch} {D : va_G} {q5 : Nat → ClassId} (a : Nat → Nat) (fa : Int32) (tr : Int32) (la : Nat → Int32) (sl : Nat → Int32) (ce : Nat → Int32) (pn : Int32) (mn : Nat → Int32) (cl : Nat → Int32) (le : Nat → Int32) (ri : Nat → Int32) (lt : Nat → Int32) (nm : Int32) (nc : Nat → Int32) (nl : Nat → Int32) (nr : Nat → Int32) (nt : Nat → Int32) (at9 : Int32) (en9 : Int32) (de : Nat → Int32) (mm : Int32) (ma : Nat → Int32) (ne : Nat → Int32) (us : Nat → Int32) (lk : Nat → Int32) (sd : Nat → Int32) (sf : Nat → Int32) (nu : Nat → Int32) (gt : Nat → Int64) (gl : Nat → Int32) (tb : Nat → Int64) (sc : Nat → Int32) (su : Nat → Int32) (p1 : Int32) (p2 : Int32) (p3 : Int32) {r' : Int32} {fa' : Int32} {la' : Nat → Int32} {sl' : Nat → Int32} {ce' : Nat → Int32} (hf : f_X10_sheet p1 p2 p3 la sl ce = some (r', fa', la', sl', ce')) : sp_Ci l yX10_sheet wsX10_sheet rmX10_sheet D q5 0 [.ref (a 0), .int p1, .int p2, .int p3] (sw_M a q5 fa tr la sl ce pn mn cl le ri lt nm nc nl nr nt at9 en9 de mm ma ne us lk sd sf nu gt gl tb sc su) r' (sw_M a q5 fa' tr la' sl' ce' pn mn cl le ri lt nm nc nl nr nt at9 en9 de mm ma ne us lk sd sf nu gt gl tb sc su) := by
  intro sz
  refine sp_of (cc := cX10_sheet) (maxL := 5) (ret := some .int) (own := RX10) (Qc := sp_Qi D r' (sw_M a q5 fa' tr la' sl' ce' pn mn cl le ri lt nm nc nl nr nt at9 en9 de mm ma ne us lk sd sf nu gt gl tb sc su)) (by decide) rfl rfl (Nat.le_of_ble_eq_true rfl) ?_
  intro p e s m args below meth c A ls Q hQ S hr hlk hK hG hA hW hl
  have hx := S.1
  have hb := S.2.1
  unfold f_X10_sheet at hf
  have inX10 : ∀ w ∈ u_ws RX10 TX10 32, w ∈ wsX10_sheet := (fun _ h => List.mem_cons_of_mem _ (List.mem_append_right _ h))
  have lk1 := S.2.2.2.2 (Cond.fieldLink RX10 86 "ShortProofsModel" "fault" "I") (List.mem_of_getElem? (i := 1) rfl)
  have lk2 := S.2.2.2.2 (Cond.fieldLink RX10 9 "ShortProofsModel" "lanes" "[I") (List.mem_of_getElem? (i := 2) rfl)
  have lk3 := S.2.2.2.2 (Cond.fieldLink RX10 13 "ShortProofsModel" "sheetLong" "[I") (List.mem_of_getElem? (i := 3) rfl)
  have lk4 := S.2.2.2.2 (Cond.fieldLink RX10 16 "ShortProofsModel" "cells" "[I") (List.mem_of_getElem? (i := 4) rfl)
  refine lv_aload_n hx hb dX10_sheet_0 rfl (lv_at hl 0 rfl) ?_
  refine lv_iconst (v := 0) hx hb dX10_sheet_1 (by decide) ?_
  refine sp_put S hK hW inX10 tyX10_ok nmX10 0 rfl rfl 0 (by decide) lk1 rfl rfl rfl (Nat.le_of_ble_eq_true rfl) (ws' := sw_M a q5 (0 : Int32) tr la sl ce pn mn cl le ri lt nm nc nl nr nt at9 en9 de mm ma ne us lk sd sf nu gt gl tb sc su) rfl dX10_sheet_2 (fun H locs hW => ?_)
  refine lv_iload_n hx hb dX10_sheet_5 rfl (lv_at hl 1 rfl) ?_
  obtain ⟨r1, hc1, hf⟩ := sp_hc hf
  refine sp_callSi (rest := []) S hK hG hA hW (c_X10_isSheet p1 hc1) (by decide) (va_cwS 1 S.2.2.2.2 gX10_sheet_X10_isSheet rfl rfl rfl (by decide +kernel) (by decide)) (isC := []) rfl rfl rfl (WS' := sw_M a q5 (0 : Int32) tr la sl ce pn mn cl le ri lt nm nc nl nr nt at9 en9 de mm ma ne us lk sd sf nu gt gl tb sc su) rfl rfl hl.1 (Nat.le_of_ble_eq_true rfl) dX10_sheet_6 ⟨Nat.zero_le _, Nat.zero_le _⟩ rfl (fun H locs hW => ?_)
  refine lv_if_ne (tgt := 14) hx hb dX10_sheet_9 (by decide) (fun hc => ?_) (fun hc => ?_)
  · have hf := sp_hf hf hc
    refine lv_iload_n hx hb dX10_sheet_14 rfl (lv_at hl 2 rfl) ?_
    obtain ⟨r2, hc2, hf⟩ := sp_hc hf
    refine sp_callSi (rest := []) S hK hG hA hW (c_X10_isLane p2 hc2) (by decide) (va_cwS 1 S.2.2.2.2 gX10_sheet_X10_isLane rfl rfl rfl (by decide +kernel) (by decide)) (isC := []) rfl rfl rfl (WS' := sw_M a q5 (0 : Int32) tr la sl ce pn mn cl le ri lt nm nc nl nr nt at9 en9 de mm ma ne us lk sd sf nu gt gl tb sc su) rfl rfl hl.1 (Nat.le_of_ble_eq_true rfl) dX10_sheet_15 ⟨Nat.zero_le _, Nat.zero_le _⟩ rfl (fun H locs hW => ?_)
    refine lv_if_eq (tgt := 27) hx hb dX10_sheet_18 (by decide) (fun hc => ?_) (fun hc => ?_)
    · have hf := sp_ht hf hc
      refine lv_bipush (v := (-2)) hx hb dX10_sheet_27 (by decide) ?_
      have q0 := Option.some.inj hf
      obtain ⟨q1, z1⟩ := Prod.mk.inj q0
      obtain ⟨q2, z2⟩ := Prod.mk.inj z1
      obtain ⟨q3, z3⟩ := Prod.mk.inj z2
      obtain ⟨q4, z4⟩ := Prod.mk.inj z3
      subst q1
      subst q2
      subst q3
      subst q4
      subst z4
      exact sp_iret S hr hlk hW hQ dX10_sheet_29
    · have hf := sp_hf hf hc
      refine lv_iload_n hx hb dX10_sheet_21 rfl (lv_at hl 3 rfl) ?_
      refine lv_bipush (v := 60) hx hb dX10_sheet_22 (by decide) ?_
      refine lv_icmp_le (tgt := 30) hx hb dX10_sheet_24 (by decide) (fun hc => ?_) (fun hc => ?_)
      · have hf := sp_ht hf hc
        refine lv_iload_n hx hb dX10_sheet_30 rfl (lv_at hl 3 rfl) ?_
        refine lv_if_ge (tgt := 40) hx hb dX10_sheet_31 (by decide) (fun hc => ?_) (fun hc => ?_)
        · have hf := sp_ht hf hc
          refine lv_aload_n hx hb dX10_sheet_40 rfl (lv_at hl 0 rfl) ?_
          refine sp_get S hK hW inX10 0 rfl rfl 2 (by decide) lk2 rfl dX10_sheet_41 ?_
          refine lv_iload_n hx hb dX10_sheet_44 rfl (lv_at hl 1 rfl) ?_
          refine lv_iload_n hx hb dX10_sheet_45 rfl (lv_at hl 2 rfl) ?_
          obtain ⟨hin, c3, ec3, hf⟩ := sp_hst hf
          refine sp_iast S hK hW 1 rfl hin ec3 (ws' := sw_M a q5 (0 : Int32) tr c3 sl ce pn mn cl le ri lt nm nc nl nr nt at9 en9 de mm ma ne us lk sd sf nu gt gl tb sc su) rfl dX10_sheet_46 (fun H locs hW => ?_)
          refine lv_aload_n hx hb dX10_sheet_47 rfl (lv_at hl 0 rfl) ?_
          refine sp_get S hK hW inX10 0 rfl rfl 3 (by decide) lk3 rfl dX10_sheet_48 ?_
          refine lv_iload_n hx hb dX10_sheet_51 rfl (lv_at hl 1 rfl) ?_
          refine lv_iload_n hx hb dX10_sheet_52 rfl (lv_at hl 3 rfl) ?_
          obtain ⟨hin, c4, ec4, hf⟩ := sp_hst hf
          refine sp_iast S hK hW 2 rfl hin ec4 (ws' := sw_M a q5 (0 : Int32) tr c3 c4 ce pn mn cl le ri lt nm nc nl nr nt at9 en9 de mm ma ne us lk sd sf nu gt gl tb sc su) rfl dX10_sheet_53 (fun H locs hW => ?_)
          refine lv_iconst (v := 0) hx hb dX10_sheet_54 (by decide) ?_
          refine lv_istore (lv' := [(4, .int (0 : Int32)), (0, .ref (a 0)), (1, .int p1), (2, .int p2), (3, .int p3)]) hx hb dX10_sheet_55 hl (by decide) rfl (fun ls hl => ?_)
          obtain ⟨k8, ek8, hf⟩ := sp_hb hf
          have hj8 : ∀ (c7 : Nat → Int32) (H : Heap) (locs : List Loc) (ls : Array Slot), k8 c7 = some (r', fa', la', sl', ce') → sp_wd D A s.heap (sw_M a q5 (0 : Int32) tr c3 c4 c7 pn mn cl le ri lt nm nc nl nr nt at9 en9 de mm ma ne us lk sd sf nu gt gl tb sc su) H locs → lv_has ls 5 [] → W p l e rmX10_sheet s m args below meth c H locs 0 0 Q (F0 m 83 ls []) := by
            intro c7 H locs ls hf hW hl
            rw [ek8] at hf
            refine lv_iconst (v := 1) hx hb dX10_sheet_83 (by decide) ?_
            have q0 := Option.some.inj hf
            obtain ⟨q1, z1⟩ := Prod.mk.inj q0
            obtain ⟨q2, z2⟩ := Prod.mk.inj z1
            obtain ⟨q3, z3⟩ := Prod.mk.inj z2
            obtain ⟨q4, z4⟩ := Prod.mk.inj z3
            subst q1
            subst q2
            subst q3
            subst q4
            subst z4
            exact sp_iret S hr hlk hW hQ dX10_sheet_84
          have hlp57 : ∀ (n9 : Nat) (y5 : Int32) (c6 : Nat → Int32) (H : Heap) (locs : List Loc) (ls : Array Slot), sp_lp (f_X10_sheet_L57 k8 p1) n9 (y5, c6) = some (r', fa', la', sl', ce') → sp_wd D A s.heap (sw_M a q5 (0 : Int32) tr c3 c4 c6 pn mn cl le ri lt nm nc nl nr nt at9 en9 de mm ma ne us lk sd sf nu gt gl tb sc su) H locs → lv_has ls 5 [(0, .ref (a 0)), (1, .int p1), (4, .int y5)] → W p l e rmX10_sheet s m args below meth c H locs 0 0 Q (F0 m 57 ls []) := by
            intro n9
            induction n9 with
            | zero =>
              intro y5 c6 H locs ls hf hW hl
              exact (sp_lp0 hf).elim
            | succ n9 ih57 =>
              intro y5 c6 H locs ls hf hW hl
              have hf := sp_lpS hf
              rw [f_X10_sheet_L57_eq] at hf
              refine lv_iload hx hb dX10_sheet_57 (lv_at hl 2 rfl) ?_
              refine lv_bipush (v := 60) hx hb dX10_sheet_59 (by decide) ?_
              refine lv_icmp_ge (tgt := 83) hx hb dX10_sheet_61 (by decide) (fun hc => ?_) (fun hc => ?_)
              · have hf := sp_ht hf hc
                exact hj8 _ _ _ _ hf hW (lv_sub hl [] rfl)
              · have hf := sp_hf hf hc
                refine lv_aload_n hx hb dX10_sheet_64 rfl (lv_at hl 0 rfl) ?_
                refine sp_get S hK hW inX10 0 rfl rfl 4 (by decide) lk4 rfl dX10_sheet_65 ?_
                refine lv_bipush (v := 60) hx hb dX10_sheet_68 (by decide) ?_
                refine lv_iload_n hx hb dX10_sheet_70 rfl (lv_at hl 1 rfl) ?_
                refine lv_imul hx hb dX10_sheet_71 ?_
                refine lv_iload hx hb dX10_sheet_72 (lv_at hl 2 rfl) ?_
                refine lv_iadd hx hb dX10_sheet_74 ?_
                refine lv_iconst (v := 0) hx hb dX10_sheet_75 (by decide) ?_
                obtain ⟨hin, c9, ec9, hf⟩ := sp_hst hf
                refine sp_iast S hK hW 3 rfl hin ec9 (ws' := sw_M a q5 (0 : Int32) tr c3 c4 c9 pn mn cl le ri lt nm nc nl nr nt at9 en9 de mm ma ne us lk sd sf nu gt gl tb sc su) rfl dX10_sheet_76 (fun H locs hW => ?_)
                obtain ⟨v10, ev10, hf⟩ := sp_hb hf
                refine lv_iinc (v := v10) (lv' := [(4, .int v10), (0, .ref (a 0)), (1, .int p1)]) hx hb dX10_sheet_77 hl (k := 2) rfl (by rw [ev10]; rfl) (by decide) rfl (fun ls hl => ?_)
                refine lv_goto (tgt := 57) hx hb dX10_sheet_80 (by decide) ?_
                exact ih57 _ _ _ _ _ hf hW (lv_sub hl [1, 2, 0] rfl)
          exact hlp57 _ _ _ _ _ _ hf hW (lv_sub hl [1, 2, 0] rfl)
        · have hf := sp_hf hf hc
          refine lv_aload_n hx hb dX10_sheet_34 rfl (lv_at hl 0 rfl) ?_
          refine lv_iconst (v := 4) hx hb dX10_sheet_35 (by decide) ?_
          obtain ⟨⟨r11, c12⟩, hc12, hf⟩ := sp_hc hf
          refine sp_callViP (rest := []) S hK hG hA hW (c_X10_fails a (0 : Int32) tr la sl ce pn mn cl le ri lt nm nc nl nr nt at9 en9 de mm ma ne us lk sd sf nu gt gl tb sc su (4 : Int32) hc12) (by decide) (cwV 1 S.2.2.2.2 gX10_sheet_X10_fails rfl rfl rfl (by decide +kernel) (by decide)) 8 0 rfl rfl (sp_pn _) rfl (WS' := sw_M a q5 c12 tr la sl ce pn mn cl le ri lt nm nc nl nr nt at9 en9 de mm ma ne us lk sd sf nu gt gl tb sc su) (sp_pn' _) rfl hl.1 (Nat.le_of_ble_eq_true rfl) dX10_sheet_36 ⟨Nat.zero_le _, Nat.zero_le _⟩ rfl (fun H locs hW => ?_)
          have q0 := Option.some.inj hf
          obtain ⟨q1, z1⟩ := Prod.mk.inj q0
          obtain ⟨q2, z2⟩ := Prod.mk.inj z1
          obtain ⟨q3, z3⟩ := Prod.mk.inj z2
          obtain ⟨q4, z4⟩ := Prod.mk.inj z3
          subst q1
          subst q2
          subst q3
          subst q4
          subst z4
          exact sp_iret S hr hlk hW hQ dX10_sheet_39
      · have hf := sp_hf hf hc
        refine lv_bipush (v := (-2)) hx hb dX10_sheet_27 (by decide) ?_
        have q0 := Option.some.inj hf
        obtain ⟨q1, z1⟩ := Prod.mk.inj q0
        obtain ⟨q2, z2⟩ := Prod.mk.inj z1
        obtain ⟨q3, z3⟩ := Prod.mk.inj z2
        obtain ⟨q4, z4⟩ := Prod.mk.inj z3
        subst q1
        subst q2
        subst q3
        subst q4
        subst z4
        exact sp_iret S hr hlk hW hQ dX10_sheet_29
  · have hf := sp_ht hf hc
    refine lv_iconst (v := (-1)) hx hb dX10_sheet_12 (by decide) ?_
    have q0 := Option.some.inj hf
    obtain ⟨q1, z1⟩ := Prod.mk.inj q0
    obtain ⟨q2, z2⟩ := Prod.mk.inj z1
    obtain ⟨q3, z3⟩ := Prod.mk.inj z2
    obtain ⟨q4, z4⟩ := Prod.mk.inj z3
    subst q1
    subst q2
    subst q3
    subst q4
    subst z4
    exact sp_iret S hr hlk hW hQ dX10_sheet_13

def f_X10_lose (p1 : Int32) (la : Nat → Int32) : Option (Int32 × (Nat → Int32)) := Option.bind (f_X10_isSheet p1) (fun r1 => if r1 = 0 then (some ((-1 : Int32), la)) else (sp_ld la 4 p1 (fun v2 => sp_bnd (fun (x3 : Int32) => sp_st la 4 p1 (-9 : Int32) (fun c5 => some (x3, c5))) (fun k4 => if v2 = (-9 : Int32) then (k4 (0 : Int32)) else (k4 (1 : Int32))))))
def rmX10_lose : Room := { frames := 2, cells := 0, slots := 0, locals := 42 }
set_option maxRecDepth 4000 in
theorem c_X10_lose {l : Launch} {D : va_G} {q5 : Nat → ClassId} (a : Nat → Nat) (fa : Int32) (tr : Int32) (la : Nat → Int32) (sl : Nat → Int32) (ce : Nat → Int32) (pn : Int32) (mn : Nat → Int32) (cl : Nat → Int32) (le : Nat → Int32) (ri : Nat → Int32) (lt : Nat → Int32) (nm : Int32) (nc : Nat → Int32) (nl : Nat → Int32) (nr : Nat → Int32) (nt : Nat → Int32) (at9 : Int32) (en9 : Int32) (de : Nat → Int32) (mm : Int32) (ma : Nat → Int32) (ne : Nat → Int32) (us : Nat → Int32) (lk : Nat → Int32) (sd : Nat → Int32) (sf : Nat → Int32) (nu : Nat → Int32) (gt : Nat → Int64) (gl : Nat → Int32) (tb : Nat → Int64) (sc : Nat → Int32) (su : Nat → Int32) (p1 : Int32) {r' : Int32} {la' : Nat → Int32} (hf : f_X10_lose p1 la = some (r', la')) : sp_Ci l yX10_lose wsX10_lose rmX10_lose D q5 0 [.ref (a 0), .int p1] (sw_M a q5 fa tr la sl ce pn mn cl le ri lt nm nc nl nr nt at9 en9 de mm ma ne us lk sd sf nu gt gl tb sc su) r' (sw_M a q5 fa tr la' sl ce pn mn cl le ri lt nm nc nl nr nt at9 en9 de mm ma ne us lk sd sf nu gt gl tb sc su) := by
  intro sz
  refine sp_of (cc := cX10_lose) (maxL := 3) (ret := some .int) (own := RX10) (Qc := sp_Qi D r' (sw_M a q5 fa tr la' sl ce pn mn cl le ri lt nm nc nl nr nt at9 en9 de mm ma ne us lk sd sf nu gt gl tb sc su)) (by decide) rfl rfl (Nat.le_of_ble_eq_true rfl) ?_
  intro p e s m args below meth c A ls Q hQ S hr hlk hK hG hA hW hl
  have hx := S.1
  have hb := S.2.1
  unfold f_X10_lose at hf
  have inX10 : ∀ w ∈ u_ws RX10 TX10 32, w ∈ wsX10_lose := (fun _ h => List.mem_cons_of_mem _ (List.mem_append_right _ h))
  have lk1 := S.2.2.2.2 (Cond.fieldLink RX10 9 "ShortProofsModel" "lanes" "[I") (List.mem_of_getElem? (i := 1) rfl)
  refine lv_iload_n hx hb dX10_lose_0 rfl (lv_at hl 1 rfl) ?_
  obtain ⟨r1, hc1, hf⟩ := sp_hc hf
  refine sp_callSi (rest := []) S hK hG hA hW (c_X10_isSheet p1 hc1) (by decide) (va_cwS 1 S.2.2.2.2 gX10_lose_X10_isSheet rfl rfl rfl (by decide +kernel) (by decide)) (isC := []) rfl rfl rfl (WS' := sw_M a q5 fa tr la sl ce pn mn cl le ri lt nm nc nl nr nt at9 en9 de mm ma ne us lk sd sf nu gt gl tb sc su) rfl rfl hl.1 (Nat.le_of_ble_eq_true rfl) dX10_lose_1 ⟨Nat.zero_le _, Nat.zero_le _⟩ rfl (fun H locs hW => ?_)
  refine lv_if_ne (tgt := 9) hx hb dX10_lose_4 (by decide) (fun hc => ?_) (fun hc => ?_)
  · have hf := sp_hf hf hc
    refine lv_aload_n hx hb dX10_lose_9 rfl (lv_at hl 0 rfl) ?_
    refine sp_get S hK hW inX10 0 rfl rfl 2 (by decide) lk1 rfl dX10_lose_10 ?_
    refine lv_iload_n hx hb dX10_lose_13 rfl (lv_at hl 1 rfl) ?_
    obtain ⟨hin, v2, ev2, hf⟩ := sp_hld hf
    refine sp_iald S hK hW 1 rfl hin ev2 dX10_lose_14 ?_
    refine lv_bipush (v := (-9)) hx hb dX10_lose_15 (by decide) ?_
    obtain ⟨k4, ek4, hf⟩ := sp_hb hf
    have hj4 : ∀ (x3 : Int32) (H : Heap) (locs : List Loc) (ls : Array Slot), k4 x3 = some (r', la') → sp_wd D A s.heap (sw_M a q5 fa tr la sl ce pn mn cl le ri lt nm nc nl nr nt at9 en9 de mm ma ne us lk sd sf nu gt gl tb sc su) H locs → lv_has ls 3 [(0, .ref (a 0)), (1, .int p1)] → W p l e rmX10_lose s m args below meth c H locs 0 0 Q (F0 m 25 ls [.int x3]) := by
      intro x3 H locs ls hf hW hl
      rw [ek4] at hf
      refine lv_istore_n (lv' := [(2, .int x3), (0, .ref (a 0)), (1, .int p1)]) hx hb dX10_lose_25 rfl hl (by decide) rfl (fun ls hl => ?_)
      refine lv_aload_n hx hb dX10_lose_26 rfl (lv_at hl 1 rfl) ?_
      refine sp_get S hK hW inX10 0 rfl rfl 2 (by decide) lk1 rfl dX10_lose_27 ?_
      refine lv_iload_n hx hb dX10_lose_30 rfl (lv_at hl 2 rfl) ?_
      refine lv_bipush (v := (-9)) hx hb dX10_lose_31 (by decide) ?_
      obtain ⟨hin, c5, ec5, hf⟩ := sp_hst hf
      refine sp_iast S hK hW 1 rfl hin ec5 (ws' := sw_M a q5 fa tr c5 sl ce pn mn cl le ri lt nm nc nl nr nt at9 en9 de mm ma ne us lk sd sf nu gt gl tb sc su) rfl dX10_lose_33 (fun H locs hW => ?_)
      refine lv_iload_n hx hb dX10_lose_34 rfl (lv_at hl 0 rfl) ?_
      have q0 := Option.some.inj hf
      obtain ⟨q1, z1⟩ := Prod.mk.inj q0
      subst q1
      subst z1
      exact sp_iret S hr hlk hW hQ dX10_lose_35
    refine lv_icmp_ne (tgt := 24) hx hb dX10_lose_17 (by decide) (fun hc => ?_) (fun hc => ?_)
    · have hf := sp_hf hf hc
      refine lv_iconst (v := 1) hx hb dX10_lose_24 (by decide) ?_
      exact hj4 _ _ _ _ hf hW (lv_sub hl [0, 1] rfl)
    · have hf := sp_ht hf hc
      refine lv_iconst (v := 0) hx hb dX10_lose_20 (by decide) ?_
      refine lv_goto (tgt := 25) hx hb dX10_lose_21 (by decide) ?_
      exact hj4 _ _ _ _ hf hW (lv_sub hl [0, 1] rfl)
  · have hf := sp_ht hf hc
    refine lv_iconst (v := (-1)) hx hb dX10_lose_7 (by decide) ?_
    have q0 := Option.some.inj hf
    obtain ⟨q1, z1⟩ := Prod.mk.inj q0
    subst q1
    subst z1
    exact sp_iret S hr hlk hW hQ dX10_lose_8

def f_X10_put (p1 : Int32) (p2 : Int32) (p3 : Int32) (la : Nat → Int32) (sl : Nat → Int32) (ce : Nat → Int32) : Option (Int32 × Int32 × (Nat → Int32)) := Option.bind (f_X10_isSheet p1) (fun r1 => if r1 = 0 then (some ((-1 : Int32), (0 : Int32), ce)) else (sp_ld la 4 p1 (fun v2 => if v2 = (-9 : Int32) then (Option.bind (f_X10_fails (1 : Int32)) (fun q9 => match q9 with | (r12, c13) => some (r12, c13, ce))) else (sp_ld sl 4 p1 (fun v3 => Option.bind (f_X10_within p2 (0 : Int32) (v3 - (1 : Int32))) (fun r4 => if r4 = 0 then (Option.bind (f_X10_fails (3 : Int32)) (fun q9 => match q9 with | (r10, c11) => some (r10, c11, ce))) else (sp_ld la 4 p1 (fun v5 => sp_bnd (fun (x6 : Int32) => sp_st ce 240 (((60 : Int32) * p1) + p2) x6 (fun c8 => some ((1 : Int32), (0 : Int32), c8))) (fun k7 => if v5 = 0 then (k7 (p3.toInt8.toInt32)) else (sp_ld la 4 p1 (fun v9 => if v9 = (1 : Int32) then (k7 (p3.toInt16.toInt32)) else (k7 p3))))))))))))
def rmX10_put : Room := { frames := 2, cells := 0, slots := 0, locals := 42 }
set_option maxRecDepth 4000 in
theorem c_X10_put {l : Launch} {D : va_G} {q5 : Nat → ClassId} (a : Nat → Nat) (fa : Int32) (tr : Int32) (la : Nat → Int32) (sl : Nat → Int32) (ce : Nat → Int32) (pn : Int32) (mn : Nat → Int32) (cl : Nat → Int32) (le : Nat → Int32) (ri : Nat → Int32) (lt : Nat → Int32) (nm : Int32) (nc : Nat → Int32) (nl : Nat → Int32) (nr : Nat → Int32) (nt : Nat → Int32) (at9 : Int32) (en9 : Int32) (de : Nat → Int32) (mm : Int32) (ma : Nat → Int32) (ne : Nat → Int32) (us : Nat → Int32) (lk : Nat → Int32) (sd : Nat → Int32) (sf : Nat → Int32) (nu : Nat → Int32) (gt : Nat → Int64) (gl : Nat → Int32) (tb : Nat → Int64) (sc : Nat → Int32) (su : Nat → Int32) (p1 : Int32) (p2 : Int32) (p3 : Int32) {r' : Int32} {fa' : Int32} {ce' : Nat → Int32} (hf : f_X10_put p1 p2 p3 la sl ce = some (r', fa', ce')) : sp_Ci l yX10_put wsX10_put rmX10_put D q5 0 [.ref (a 0), .int p1, .int p2, .int p3] (sw_M a q5 fa tr la sl ce pn mn cl le ri lt nm nc nl nr nt at9 en9 de mm ma ne us lk sd sf nu gt gl tb sc su) r' (sw_M a q5 fa' tr la sl ce' pn mn cl le ri lt nm nc nl nr nt at9 en9 de mm ma ne us lk sd sf nu gt gl tb sc su) := by
  intro sz
  refine sp_of (cc := cX10_put) (maxL := 4) (ret := some .int) (own := RX10) (Qc := sp_Qi D r' (sw_M a q5 fa' tr la sl ce' pn mn cl le ri lt nm nc nl nr nt at9 en9 de mm ma ne us lk sd sf nu gt gl tb sc su)) (by decide) rfl rfl (Nat.le_of_ble_eq_true rfl) ?_
  intro p e s m args below meth c A ls Q hQ S hr hlk hK hG hA hW hl
  have hx := S.1
  have hb := S.2.1
  unfold f_X10_put at hf
  have inX10 : ∀ w ∈ u_ws RX10 TX10 32, w ∈ wsX10_put := (fun _ h => List.mem_cons_of_mem _ (List.mem_append_right _ h))
  have lk1 := S.2.2.2.2 (Cond.fieldLink RX10 86 "ShortProofsModel" "fault" "I") (List.mem_of_getElem? (i := 1) rfl)
  have lk2 := S.2.2.2.2 (Cond.fieldLink RX10 9 "ShortProofsModel" "lanes" "[I") (List.mem_of_getElem? (i := 2) rfl)
  have lk3 := S.2.2.2.2 (Cond.fieldLink RX10 13 "ShortProofsModel" "sheetLong" "[I") (List.mem_of_getElem? (i := 3) rfl)
  have lk4 := S.2.2.2.2 (Cond.fieldLink RX10 16 "ShortProofsModel" "cells" "[I") (List.mem_of_getElem? (i := 4) rfl)
  refine lv_aload_n hx hb dX10_put_0 rfl (lv_at hl 0 rfl) ?_
  refine lv_iconst (v := 0) hx hb dX10_put_1 (by decide) ?_
  refine sp_put S hK hW inX10 tyX10_ok nmX10 0 rfl rfl 0 (by decide) lk1 rfl rfl rfl (Nat.le_of_ble_eq_true rfl) (ws' := sw_M a q5 (0 : Int32) tr la sl ce pn mn cl le ri lt nm nc nl nr nt at9 en9 de mm ma ne us lk sd sf nu gt gl tb sc su) rfl dX10_put_2 (fun H locs hW => ?_)
  refine lv_iload_n hx hb dX10_put_5 rfl (lv_at hl 1 rfl) ?_
  obtain ⟨r1, hc1, hf⟩ := sp_hc hf
  refine sp_callSi (rest := []) S hK hG hA hW (c_X10_isSheet p1 hc1) (by decide) (va_cwS 1 S.2.2.2.2 gX10_put_X10_isSheet rfl rfl rfl (by decide +kernel) (by decide)) (isC := []) rfl rfl rfl (WS' := sw_M a q5 (0 : Int32) tr la sl ce pn mn cl le ri lt nm nc nl nr nt at9 en9 de mm ma ne us lk sd sf nu gt gl tb sc su) rfl rfl hl.1 (Nat.le_of_ble_eq_true rfl) dX10_put_6 ⟨Nat.zero_le _, Nat.zero_le _⟩ rfl (fun H locs hW => ?_)
  refine lv_if_ne (tgt := 14) hx hb dX10_put_9 (by decide) (fun hc => ?_) (fun hc => ?_)
  · have hf := sp_hf hf hc
    refine lv_aload_n hx hb dX10_put_14 rfl (lv_at hl 0 rfl) ?_
    refine sp_get S hK hW inX10 0 rfl rfl 2 (by decide) lk2 rfl dX10_put_15 ?_
    refine lv_iload_n hx hb dX10_put_18 rfl (lv_at hl 1 rfl) ?_
    obtain ⟨hin, v2, ev2, hf⟩ := sp_hld hf
    refine sp_iald S hK hW 1 rfl hin ev2 dX10_put_19 ?_
    refine lv_bipush (v := (-9)) hx hb dX10_put_20 (by decide) ?_
    refine lv_icmp_ne (tgt := 31) hx hb dX10_put_22 (by decide) (fun hc => ?_) (fun hc => ?_)
    · have hf := sp_hf hf hc
      refine lv_iload_n hx hb dX10_put_31 rfl (lv_at hl 2 rfl) ?_
      refine lv_iconst (v := 0) hx hb dX10_put_32 (by decide) ?_
      refine lv_aload_n hx hb dX10_put_33 rfl (lv_at hl 0 rfl) ?_
      refine sp_get S hK hW inX10 0 rfl rfl 3 (by decide) lk3 rfl dX10_put_34 ?_
      refine lv_iload_n hx hb dX10_put_37 rfl (lv_at hl 1 rfl) ?_
      obtain ⟨hin, v3, ev3, hf⟩ := sp_hld hf
      refine sp_iald S hK hW 2 rfl hin ev3 dX10_put_38 ?_
      refine lv_iconst (v := 1) hx hb dX10_put_39 (by decide) ?_
      refine lv_isub hx hb dX10_put_40 ?_
      obtain ⟨r4, hc4, hf⟩ := sp_hc hf
      refine sp_callSi (rest := []) S hK hG hA hW (c_X10_within p2 (0 : Int32) (v3 - (1 : Int32)) hc4) (by decide) (va_cwS 3 S.2.2.2.2 gX10_put_X10_within rfl rfl rfl (by decide +kernel) (by decide)) (isC := []) rfl rfl rfl (WS' := sw_M a q5 (0 : Int32) tr la sl ce pn mn cl le ri lt nm nc nl nr nt at9 en9 de mm ma ne us lk sd sf nu gt gl tb sc su) rfl rfl hl.1 (Nat.le_of_ble_eq_true rfl) dX10_put_41 ⟨Nat.zero_le _, Nat.zero_le _⟩ rfl (fun H locs hW => ?_)
      refine lv_if_ne (tgt := 53) hx hb dX10_put_44 (by decide) (fun hc => ?_) (fun hc => ?_)
      · have hf := sp_hf hf hc
        refine lv_aload_n hx hb dX10_put_53 rfl (lv_at hl 0 rfl) ?_
        refine sp_get S hK hW inX10 0 rfl rfl 4 (by decide) lk4 rfl dX10_put_54 ?_
        refine lv_bipush (v := 60) hx hb dX10_put_57 (by decide) ?_
        refine lv_iload_n hx hb dX10_put_59 rfl (lv_at hl 1 rfl) ?_
        refine lv_imul hx hb dX10_put_60 ?_
        refine lv_iload_n hx hb dX10_put_61 rfl (lv_at hl 2 rfl) ?_
        refine lv_iadd hx hb dX10_put_62 ?_
        refine lv_aload_n hx hb dX10_put_63 rfl (lv_at hl 0 rfl) ?_
        refine sp_get S hK hW inX10 0 rfl rfl 2 (by decide) lk2 rfl dX10_put_64 ?_
        refine lv_iload_n hx hb dX10_put_67 rfl (lv_at hl 1 rfl) ?_
        obtain ⟨hin, v5, ev5, hf⟩ := sp_hld hf
        refine sp_iald S hK hW 1 rfl hin ev5 dX10_put_68 ?_
        obtain ⟨k7, ek7, hf⟩ := sp_hb hf
        have hj7 : ∀ (x6 : Int32) (H : Heap) (locs : List Loc) (ls : Array Slot), k7 x6 = some (r', fa', ce') → sp_wd D A s.heap (sw_M a q5 (0 : Int32) tr la sl ce pn mn cl le ri lt nm nc nl nr nt at9 en9 de mm ma ne us lk sd sf nu gt gl tb sc su) H locs → lv_has ls 4 [] → W p l e rmX10_put s m args below meth c H locs 0 0 Q (F0 m 93 ls [.int x6, .int (((60 : Int32) * p1) + p2), .ref (a 3)]) := by
          intro x6 H locs ls hf hW hl
          rw [ek7] at hf
          obtain ⟨hin, c8, ec8, hf⟩ := sp_hst hf
          refine sp_iast S hK hW 3 rfl hin ec8 (ws' := sw_M a q5 (0 : Int32) tr la sl c8 pn mn cl le ri lt nm nc nl nr nt at9 en9 de mm ma ne us lk sd sf nu gt gl tb sc su) rfl dX10_put_93 (fun H locs hW => ?_)
          refine lv_iconst (v := 1) hx hb dX10_put_94 (by decide) ?_
          have q0 := Option.some.inj hf
          obtain ⟨q1, z1⟩ := Prod.mk.inj q0
          obtain ⟨q2, z2⟩ := Prod.mk.inj z1
          subst q1
          subst q2
          subst z2
          exact sp_iret S hr hlk hW hQ dX10_put_95
        refine lv_if_ne (tgt := 77) hx hb dX10_put_69 (by decide) (fun hc => ?_) (fun hc => ?_)
        · have hf := sp_hf hf hc
          refine lv_aload_n hx hb dX10_put_77 rfl (lv_at hl 0 rfl) ?_
          refine sp_get S hK hW inX10 0 rfl rfl 2 (by decide) lk2 rfl dX10_put_78 ?_
          refine lv_iload_n hx hb dX10_put_81 rfl (lv_at hl 1 rfl) ?_
          obtain ⟨hin, v9, ev9, hf⟩ := sp_hld hf
          refine sp_iald S hK hW 1 rfl hin ev9 dX10_put_82 ?_
          refine lv_iconst (v := 1) hx hb dX10_put_83 (by decide) ?_
          refine lv_icmp_ne (tgt := 92) hx hb dX10_put_84 (by decide) (fun hc => ?_) (fun hc => ?_)
          · have hf := sp_hf hf hc
            refine lv_iload_n hx hb dX10_put_92 rfl (lv_at hl 3 rfl) ?_
            exact hj7 _ _ _ _ hf hW (lv_sub hl [] rfl)
          · have hf := sp_ht hf hc
            refine lv_iload_n hx hb dX10_put_87 rfl (lv_at hl 3 rfl) ?_
            refine lv_i2s hx hb dX10_put_88 rfl ?_
            refine lv_goto (tgt := 93) hx hb dX10_put_89 (by decide) ?_
            exact hj7 _ _ _ _ hf hW (lv_sub hl [] rfl)
        · have hf := sp_ht hf hc
          refine lv_iload_n hx hb dX10_put_72 rfl (lv_at hl 3 rfl) ?_
          refine lv_i2b hx hb dX10_put_73 rfl ?_
          refine lv_goto (tgt := 93) hx hb dX10_put_74 (by decide) ?_
          exact hj7 _ _ _ _ hf hW (lv_sub hl [] rfl)
      · have hf := sp_ht hf hc
        refine lv_aload_n hx hb dX10_put_47 rfl (lv_at hl 0 rfl) ?_
        refine lv_iconst (v := 3) hx hb dX10_put_48 (by decide) ?_
        obtain ⟨⟨r10, c11⟩, hc11, hf⟩ := sp_hc hf
        refine sp_callViP (rest := []) S hK hG hA hW (c_X10_fails a (0 : Int32) tr la sl ce pn mn cl le ri lt nm nc nl nr nt at9 en9 de mm ma ne us lk sd sf nu gt gl tb sc su (3 : Int32) hc11) (by decide) (cwV 1 S.2.2.2.2 gX10_put_X10_fails rfl rfl rfl (by decide +kernel) (by decide)) 8 0 rfl rfl (sp_pn _) rfl (WS' := sw_M a q5 c11 tr la sl ce pn mn cl le ri lt nm nc nl nr nt at9 en9 de mm ma ne us lk sd sf nu gt gl tb sc su) (sp_pn' _) rfl hl.1 (Nat.le_of_ble_eq_true rfl) dX10_put_49 ⟨Nat.zero_le _, Nat.zero_le _⟩ rfl (fun H locs hW => ?_)
        have q0 := Option.some.inj hf
        obtain ⟨q1, z1⟩ := Prod.mk.inj q0
        obtain ⟨q2, z2⟩ := Prod.mk.inj z1
        subst q1
        subst q2
        subst z2
        exact sp_iret S hr hlk hW hQ dX10_put_52
    · have hf := sp_ht hf hc
      refine lv_aload_n hx hb dX10_put_25 rfl (lv_at hl 0 rfl) ?_
      refine lv_iconst (v := 1) hx hb dX10_put_26 (by decide) ?_
      obtain ⟨⟨r12, c13⟩, hc13, hf⟩ := sp_hc hf
      refine sp_callViP (rest := []) S hK hG hA hW (c_X10_fails a (0 : Int32) tr la sl ce pn mn cl le ri lt nm nc nl nr nt at9 en9 de mm ma ne us lk sd sf nu gt gl tb sc su (1 : Int32) hc13) (by decide) (cwV 1 S.2.2.2.2 gX10_put_X10_fails rfl rfl rfl (by decide +kernel) (by decide)) 8 0 rfl rfl (sp_pn _) rfl (WS' := sw_M a q5 c13 tr la sl ce pn mn cl le ri lt nm nc nl nr nt at9 en9 de mm ma ne us lk sd sf nu gt gl tb sc su) (sp_pn' _) rfl hl.1 (Nat.le_of_ble_eq_true rfl) dX10_put_27 ⟨Nat.zero_le _, Nat.zero_le _⟩ rfl (fun H locs hW => ?_)
      have q0 := Option.some.inj hf
      obtain ⟨q1, z1⟩ := Prod.mk.inj q0
      obtain ⟨q2, z2⟩ := Prod.mk.inj z1
      subst q1
      subst q2
      subst z2
      exact sp_iret S hr hlk hW hQ dX10_put_30
  · have hf := sp_ht hf hc
    refine lv_iconst (v := (-1)) hx hb dX10_put_12 (by decide) ?_
    have q0 := Option.some.inj hf
    obtain ⟨q1, z1⟩ := Prod.mk.inj q0
    obtain ⟨q2, z2⟩ := Prod.mk.inj z1
    subst q1
    subst q2
    subst z2
    exact sp_iret S hr hlk hW hQ dX10_put_13

def f_X10_cell (p1 : Int32) (p2 : Int32) (p3 : Int32) (la : Nat → Int32) (sl : Nat → Int32) (ce : Nat → Int32) : Option (Int64 × Int32) := Option.bind (f_X10_isSheet p1) (fun r1 => if r1 = 0 then (some ((-9223372036854775808 : Int64), (0 : Int32))) else (Option.bind (f_X10_isLane p3) (fun r2 => if r2 = 0 then (some ((-9223372036854775808 : Int64), (0 : Int32))) else (sp_ld la 4 p1 (fun v3 => sp_bnd (fun (c4 : Int32) => sp_ld la 4 p1 (fun v6 => if v6 = (-9 : Int32) then (Option.bind (f_X10_lost (1 : Int32)) (fun q9 => match q9 with | (r12, c13) => some (r12, c13))) else (sp_ld sl 4 p1 (fun v7 => Option.bind (f_X10_within p2 (0 : Int32) (v7 - (1 : Int32))) (fun r8 => if r8 = 0 then (Option.bind (f_X10_lost (3 : Int32)) (fun q9 => match q9 with | (r10, c11) => some (r10, c11))) else (sp_ld ce 240 (((60 : Int32) * p1) + p2) (fun v9 => some ((v9.toInt64), c4)))))))) (fun k5 => if v3 = (-9 : Int32) then (k5 (0 : Int32)) else (sp_ld la 4 p1 (fun v14 => if v14 = p3 then (k5 (0 : Int32)) else (Option.bind (f_X10_lost (2 : Int32)) (fun q9 => match q9 with | (r15, c16) => some (r15, c16)))))))))))
def rmX10_cell : Room := { frames := 2, cells := 0, slots := 0, locals := 42 }
set_option maxRecDepth 4000 in
theorem c_X10_cell {l : Launch} {D : va_G} {q5 : Nat → ClassId} (a : Nat → Nat) (fa : Int32) (tr : Int32) (la : Nat → Int32) (sl : Nat → Int32) (ce : Nat → Int32) (pn : Int32) (mn : Nat → Int32) (cl : Nat → Int32) (le : Nat → Int32) (ri : Nat → Int32) (lt : Nat → Int32) (nm : Int32) (nc : Nat → Int32) (nl : Nat → Int32) (nr : Nat → Int32) (nt : Nat → Int32) (at9 : Int32) (en9 : Int32) (de : Nat → Int32) (mm : Int32) (ma : Nat → Int32) (ne : Nat → Int32) (us : Nat → Int32) (lk : Nat → Int32) (sd : Nat → Int32) (sf : Nat → Int32) (nu : Nat → Int32) (gt : Nat → Int64) (gl : Nat → Int32) (tb : Nat → Int64) (sc : Nat → Int32) (su : Nat → Int32) (p1 : Int32) (p2 : Int32) (p3 : Int32) {r' : Int64} {fa' : Int32} (hf : f_X10_cell p1 p2 p3 la sl ce = some (r', fa')) : sp_Cl l yX10_cell wsX10_cell rmX10_cell D q5 0 [.ref (a 0), .int p1, .int p2, .int p3] (sw_M a q5 fa tr la sl ce pn mn cl le ri lt nm nc nl nr nt at9 en9 de mm ma ne us lk sd sf nu gt gl tb sc su) r' (sw_M a q5 fa' tr la sl ce pn mn cl le ri lt nm nc nl nr nt at9 en9 de mm ma ne us lk sd sf nu gt gl tb sc su) := by
  intro sz
  refine sp_of (cc := cX10_cell) (maxL := 4) (ret := some .long) (own := RX10) (Qc := sp_Ql D r' (sw_M a q5 fa' tr la sl ce pn mn cl le ri lt nm nc nl nr nt at9 en9 de mm ma ne us lk sd sf nu gt gl tb sc su)) (by decide) rfl rfl (Nat.le_of_ble_eq_true rfl) ?_
  intro p e s m args below meth c A ls Q hQ S hr hlk hK hG hA hW hl
  have hx := S.1
  have hb := S.2.1
  unfold f_X10_cell at hf
  have inX10 : ∀ w ∈ u_ws RX10 TX10 32, w ∈ wsX10_cell := (fun _ h => List.mem_cons_of_mem _ (List.mem_append_right _ h))
  have lk1 := S.2.2.2.2 (Cond.fieldLink RX10 86 "ShortProofsModel" "fault" "I") (List.mem_of_getElem? (i := 1) rfl)
  have lk2 := S.2.2.2.2 (Cond.constantLong RX10 90 (-9223372036854775808)) (List.mem_of_getElem? (i := 2) rfl)
  have lk3 := S.2.2.2.2 (Cond.fieldLink RX10 9 "ShortProofsModel" "lanes" "[I") (List.mem_of_getElem? (i := 3) rfl)
  have lk4 := S.2.2.2.2 (Cond.fieldLink RX10 13 "ShortProofsModel" "sheetLong" "[I") (List.mem_of_getElem? (i := 4) rfl)
  have lk5 := S.2.2.2.2 (Cond.fieldLink RX10 16 "ShortProofsModel" "cells" "[I") (List.mem_of_getElem? (i := 5) rfl)
  refine lv_aload_n hx hb dX10_cell_0 rfl (lv_at hl 0 rfl) ?_
  refine lv_iconst (v := 0) hx hb dX10_cell_1 (by decide) ?_
  refine sp_put S hK hW inX10 tyX10_ok nmX10 0 rfl rfl 0 (by decide) lk1 rfl rfl rfl (Nat.le_of_ble_eq_true rfl) (ws' := sw_M a q5 (0 : Int32) tr la sl ce pn mn cl le ri lt nm nc nl nr nt at9 en9 de mm ma ne us lk sd sf nu gt gl tb sc su) rfl dX10_cell_2 (fun H locs hW => ?_)
  refine lv_iload_n hx hb dX10_cell_5 rfl (lv_at hl 1 rfl) ?_
  obtain ⟨r1, hc1, hf⟩ := sp_hc hf
  refine sp_callSi (rest := []) S hK hG hA hW (c_X10_isSheet p1 hc1) (by decide) (va_cwS 1 S.2.2.2.2 gX10_cell_X10_isSheet rfl rfl rfl (by decide +kernel) (by decide)) (isC := []) rfl rfl rfl (WS' := sw_M a q5 (0 : Int32) tr la sl ce pn mn cl le ri lt nm nc nl nr nt at9 en9 de mm ma ne us lk sd sf nu gt gl tb sc su) rfl rfl hl.1 (Nat.le_of_ble_eq_true rfl) dX10_cell_6 ⟨Nat.zero_le _, Nat.zero_le _⟩ rfl (fun H locs hW => ?_)
  refine lv_if_eq (tgt := 19) hx hb dX10_cell_9 (by decide) (fun hc => ?_) (fun hc => ?_)
  · have hf := sp_ht hf hc
    refine lv_ldc2 hx hb S.2.2.2.1 lk2 dX10_cell_19 ?_
    have q0 := Option.some.inj hf
    obtain ⟨q1, z1⟩ := Prod.mk.inj q0
    subst q1
    subst z1
    exact sp_lret S hr hlk hW hQ dX10_cell_22
  · have hf := sp_hf hf hc
    refine lv_iload_n hx hb dX10_cell_12 rfl (lv_at hl 3 rfl) ?_
    obtain ⟨r2, hc2, hf⟩ := sp_hc hf
    refine sp_callSi (rest := []) S hK hG hA hW (c_X10_isLane p3 hc2) (by decide) (va_cwS 1 S.2.2.2.2 gX10_cell_X10_isLane rfl rfl rfl (by decide +kernel) (by decide)) (isC := []) rfl rfl rfl (WS' := sw_M a q5 (0 : Int32) tr la sl ce pn mn cl le ri lt nm nc nl nr nt at9 en9 de mm ma ne us lk sd sf nu gt gl tb sc su) rfl rfl hl.1 (Nat.le_of_ble_eq_true rfl) dX10_cell_13 ⟨Nat.zero_le _, Nat.zero_le _⟩ rfl (fun H locs hW => ?_)
    refine lv_if_ne (tgt := 23) hx hb dX10_cell_16 (by decide) (fun hc => ?_) (fun hc => ?_)
    · have hf := sp_hf hf hc
      refine lv_aload_n hx hb dX10_cell_23 rfl (lv_at hl 0 rfl) ?_
      refine sp_get S hK hW inX10 0 rfl rfl 2 (by decide) lk3 rfl dX10_cell_24 ?_
      refine lv_iload_n hx hb dX10_cell_27 rfl (lv_at hl 1 rfl) ?_
      obtain ⟨hin, v3, ev3, hf⟩ := sp_hld hf
      refine sp_iald S hK hW 1 rfl hin ev3 dX10_cell_28 ?_
      refine lv_bipush (v := (-9)) hx hb dX10_cell_29 (by decide) ?_
      obtain ⟨k5, ek5, hf⟩ := sp_hb hf
      have hj5 : ∀ (c4 : Int32) (H : Heap) (locs : List Loc) (ls : Array Slot), k5 c4 = some (r', fa') → sp_wd D A s.heap (sw_M a q5 c4 tr la sl ce pn mn cl le ri lt nm nc nl nr nt at9 en9 de mm ma ne us lk sd sf nu gt gl tb sc su) H locs → lv_has ls 4 [(0, .ref (a 0)), (1, .int p1), (2, .int p2)] → W p l e rmX10_cell s m args below meth c H locs 0 0 Q (F0 m 50 ls []) := by
        intro c4 H locs ls hf hW hl
        rw [ek5] at hf
        refine lv_aload_n hx hb dX10_cell_50 rfl (lv_at hl 0 rfl) ?_
        refine sp_get S hK hW inX10 0 rfl rfl 2 (by decide) lk3 rfl dX10_cell_51 ?_
        refine lv_iload_n hx hb dX10_cell_54 rfl (lv_at hl 1 rfl) ?_
        obtain ⟨hin, v6, ev6, hf⟩ := sp_hld hf
        refine sp_iald S hK hW 1 rfl hin ev6 dX10_cell_55 ?_
        refine lv_bipush (v := (-9)) hx hb dX10_cell_56 (by decide) ?_
        refine lv_icmp_ne (tgt := 67) hx hb dX10_cell_58 (by decide) (fun hc => ?_) (fun hc => ?_)
        · have hf := sp_hf hf hc
          refine lv_iload_n hx hb dX10_cell_67 rfl (lv_at hl 2 rfl) ?_
          refine lv_iconst (v := 0) hx hb dX10_cell_68 (by decide) ?_
          refine lv_aload_n hx hb dX10_cell_69 rfl (lv_at hl 0 rfl) ?_
          refine sp_get S hK hW inX10 0 rfl rfl 3 (by decide) lk4 rfl dX10_cell_70 ?_
          refine lv_iload_n hx hb dX10_cell_73 rfl (lv_at hl 1 rfl) ?_
          obtain ⟨hin, v7, ev7, hf⟩ := sp_hld hf
          refine sp_iald S hK hW 2 rfl hin ev7 dX10_cell_74 ?_
          refine lv_iconst (v := 1) hx hb dX10_cell_75 (by decide) ?_
          refine lv_isub hx hb dX10_cell_76 ?_
          obtain ⟨r8, hc8, hf⟩ := sp_hc hf
          refine sp_callSi (rest := []) S hK hG hA hW (c_X10_within p2 (0 : Int32) (v7 - (1 : Int32)) hc8) (by decide) (va_cwS 3 S.2.2.2.2 gX10_cell_X10_within rfl rfl rfl (by decide +kernel) (by decide)) (isC := []) rfl rfl rfl (WS' := sw_M a q5 c4 tr la sl ce pn mn cl le ri lt nm nc nl nr nt at9 en9 de mm ma ne us lk sd sf nu gt gl tb sc su) rfl rfl hl.1 (Nat.le_of_ble_eq_true rfl) dX10_cell_77 ⟨Nat.zero_le _, Nat.zero_le _⟩ rfl (fun H locs hW => ?_)
          refine lv_if_ne (tgt := 89) hx hb dX10_cell_80 (by decide) (fun hc => ?_) (fun hc => ?_)
          · have hf := sp_hf hf hc
            refine lv_aload_n hx hb dX10_cell_89 rfl (lv_at hl 0 rfl) ?_
            refine sp_get S hK hW inX10 0 rfl rfl 4 (by decide) lk5 rfl dX10_cell_90 ?_
            refine lv_bipush (v := 60) hx hb dX10_cell_93 (by decide) ?_
            refine lv_iload_n hx hb dX10_cell_95 rfl (lv_at hl 1 rfl) ?_
            refine lv_imul hx hb dX10_cell_96 ?_
            refine lv_iload_n hx hb dX10_cell_97 rfl (lv_at hl 2 rfl) ?_
            refine lv_iadd hx hb dX10_cell_98 ?_
            obtain ⟨hin, v9, ev9, hf⟩ := sp_hld hf
            refine sp_iald S hK hW 3 rfl hin ev9 dX10_cell_99 ?_
            refine lv_i2l hx hb dX10_cell_100 rfl ?_
            have q0 := Option.some.inj hf
            obtain ⟨q1, z1⟩ := Prod.mk.inj q0
            subst q1
            subst z1
            exact sp_lret S hr hlk hW hQ dX10_cell_101
          · have hf := sp_ht hf hc
            refine lv_aload_n hx hb dX10_cell_83 rfl (lv_at hl 0 rfl) ?_
            refine lv_iconst (v := 3) hx hb dX10_cell_84 (by decide) ?_
            obtain ⟨⟨r10, c11⟩, hc11, hf⟩ := sp_hc hf
            refine sp_callVlP (rest := []) S hK hG hA hW (c_X10_lost a c4 tr la sl ce pn mn cl le ri lt nm nc nl nr nt at9 en9 de mm ma ne us lk sd sf nu gt gl tb sc su (3 : Int32) hc11) (by decide) (cwV 1 S.2.2.2.2 gX10_cell_X10_lost rfl rfl rfl (by decide +kernel) (by decide)) 8 0 rfl rfl (sp_pn _) rfl (WS' := sw_M a q5 c11 tr la sl ce pn mn cl le ri lt nm nc nl nr nt at9 en9 de mm ma ne us lk sd sf nu gt gl tb sc su) (sp_pn' _) rfl hl.1 (Nat.le_of_ble_eq_true rfl) dX10_cell_85 ⟨Nat.zero_le _, Nat.zero_le _⟩ rfl (fun H locs hW => ?_)
            have q0 := Option.some.inj hf
            obtain ⟨q1, z1⟩ := Prod.mk.inj q0
            subst q1
            subst z1
            exact sp_lret S hr hlk hW hQ dX10_cell_88
        · have hf := sp_ht hf hc
          refine lv_aload_n hx hb dX10_cell_61 rfl (lv_at hl 0 rfl) ?_
          refine lv_iconst (v := 1) hx hb dX10_cell_62 (by decide) ?_
          obtain ⟨⟨r12, c13⟩, hc13, hf⟩ := sp_hc hf
          refine sp_callVlP (rest := []) S hK hG hA hW (c_X10_lost a c4 tr la sl ce pn mn cl le ri lt nm nc nl nr nt at9 en9 de mm ma ne us lk sd sf nu gt gl tb sc su (1 : Int32) hc13) (by decide) (cwV 1 S.2.2.2.2 gX10_cell_X10_lost rfl rfl rfl (by decide +kernel) (by decide)) 8 0 rfl rfl (sp_pn _) rfl (WS' := sw_M a q5 c13 tr la sl ce pn mn cl le ri lt nm nc nl nr nt at9 en9 de mm ma ne us lk sd sf nu gt gl tb sc su) (sp_pn' _) rfl hl.1 (Nat.le_of_ble_eq_true rfl) dX10_cell_63 ⟨Nat.zero_le _, Nat.zero_le _⟩ rfl (fun H locs hW => ?_)
          have q0 := Option.some.inj hf
          obtain ⟨q1, z1⟩ := Prod.mk.inj q0
          subst q1
          subst z1
          exact sp_lret S hr hlk hW hQ dX10_cell_66
      refine lv_icmp_eq (tgt := 50) hx hb dX10_cell_31 (by decide) (fun hc => ?_) (fun hc => ?_)
      · have hf := sp_ht hf hc
        exact hj5 _ _ _ _ hf hW (lv_sub hl [0, 1, 2] rfl)
      · have hf := sp_hf hf hc
        refine lv_aload_n hx hb dX10_cell_34 rfl (lv_at hl 0 rfl) ?_
        refine sp_get S hK hW inX10 0 rfl rfl 2 (by decide) lk3 rfl dX10_cell_35 ?_
        refine lv_iload_n hx hb dX10_cell_38 rfl (lv_at hl 1 rfl) ?_
        obtain ⟨hin, v14, ev14, hf⟩ := sp_hld hf
        refine sp_iald S hK hW 1 rfl hin ev14 dX10_cell_39 ?_
        refine lv_iload_n hx hb dX10_cell_40 rfl (lv_at hl 3 rfl) ?_
        refine lv_icmp_eq (tgt := 50) hx hb dX10_cell_41 (by decide) (fun hc => ?_) (fun hc => ?_)
        · have hf := sp_ht hf hc
          exact hj5 _ _ _ _ hf hW (lv_sub hl [0, 1, 2] rfl)
        · have hf := sp_hf hf hc
          refine lv_aload_n hx hb dX10_cell_44 rfl (lv_at hl 0 rfl) ?_
          refine lv_iconst (v := 2) hx hb dX10_cell_45 (by decide) ?_
          obtain ⟨⟨r15, c16⟩, hc16, hf⟩ := sp_hc hf
          refine sp_callVlP (rest := []) S hK hG hA hW (c_X10_lost a (0 : Int32) tr la sl ce pn mn cl le ri lt nm nc nl nr nt at9 en9 de mm ma ne us lk sd sf nu gt gl tb sc su (2 : Int32) hc16) (by decide) (cwV 1 S.2.2.2.2 gX10_cell_X10_lost rfl rfl rfl (by decide +kernel) (by decide)) 8 0 rfl rfl (sp_pn _) rfl (WS' := sw_M a q5 c16 tr la sl ce pn mn cl le ri lt nm nc nl nr nt at9 en9 de mm ma ne us lk sd sf nu gt gl tb sc su) (sp_pn' _) rfl hl.1 (Nat.le_of_ble_eq_true rfl) dX10_cell_46 ⟨Nat.zero_le _, Nat.zero_le _⟩ rfl (fun H locs hW => ?_)
          have q0 := Option.some.inj hf
          obtain ⟨q1, z1⟩ := Prod.mk.inj q0
          subst q1
          subst z1
          exact sp_lret S hr hlk hW hQ dX10_cell_49
    · have hf := sp_ht hf hc
      refine lv_ldc2 hx hb S.2.2.2.1 lk2 dX10_cell_19 ?_
      have q0 := Option.some.inj hf
      obtain ⟨q1, z1⟩ := Prod.mk.inj q0
      subst q1
      subst z1
      exact sp_lret S hr hlk hW hQ dX10_cell_22

def f_X10_copy_L166 (p5 : Int32) (k25 : (Nat → Int32) → Option (Int32 × Int32 × (Nat → Int32))) (p1 : Int32) (p2 : Int32) (p3 : Int32) (p4 : Int32) (x20 : Int32) (rec166 : (Int32 × (Nat → Int32)) → Option (Int32 × Int32 × (Nat → Int32))) (s9 : Int32 × (Nat → Int32)) : Option (Int32 × Int32 × (Nat → Int32)) := match s9 with
  | (y22, c23) => if p5 ≤ y22 then (k25 c23) else (sp_bnd (fun (x26 : Int32) => sp_ld c23 240 ((((60 : Int32) * p1) + p2) + x26) (fun v28 => sp_st c23 240 ((((60 : Int32) * p3) + p4) + x26) v28 (fun c29 => sp_bnd (y22 + (1 : Int32)) (fun v30 => rec166 (v30, c29))))) (fun k27 => if x20 = 0 then (k27 y22) else (k27 ((p5 - (1 : Int32)) - y22))))
theorem f_X10_copy_L166_eq {rec166 : (Int32 × (Nat → Int32)) → Option (Int32 × Int32 × (Nat → Int32))} {p5 : Int32} {k25 : (Nat → Int32) → Option (Int32 × Int32 × (Nat → Int32))} {p1 : Int32} {p2 : Int32} {p3 : Int32} {p4 : Int32} {x20 : Int32} {y22 : Int32} {c23 : Nat → Int32} : f_X10_copy_L166 p5 k25 p1 p2 p3 p4 x20 rec166 (y22, c23) = (if p5 ≤ y22 then (k25 c23) else (sp_bnd (fun (x26 : Int32) => sp_ld c23 240 ((((60 : Int32) * p1) + p2) + x26) (fun v28 => sp_st c23 240 ((((60 : Int32) * p3) + p4) + x26) v28 (fun c29 => sp_bnd (y22 + (1 : Int32)) (fun v30 => rec166 (v30, c29))))) (fun k27 => if x20 = 0 then (k27 y22) else (k27 ((p5 - (1 : Int32)) - y22))))) := rfl
def f_X10_copy (p1 : Int32) (p2 : Int32) (p3 : Int32) (p4 : Int32) (p5 : Int32) (la : Nat → Int32) (sl : Nat → Int32) (ce : Nat → Int32) : Option (Int32 × Int32 × (Nat → Int32)) := Option.bind (f_X10_isSheet p1) (fun r1 => if r1 = 0 then (some ((-1 : Int32), (0 : Int32), ce)) else (Option.bind (f_X10_isSheet p3) (fun r2 => if r2 = 0 then (some ((-1 : Int32), (0 : Int32), ce)) else (sp_ld la 4 p1 (fun v3 => sp_bnd (fun (c4 : Int32) (c5 : Nat → Int32) => Option.bind (f_X10_fails (1 : Int32)) (fun q9 => match q9 with | (r7, c8) => some (r7, c8, c5))) (fun k6 => if v3 = (-9 : Int32) then (k6 (0 : Int32) ce) else (sp_ld la 4 p3 (fun v9 => if v9 = (-9 : Int32) then (k6 (0 : Int32) ce) else (sp_ld la 4 p1 (fun v10 => sp_ld la 4 p3 (fun v11 => if v10 = v11 then (sp_bnd (fun (x12 : Int32) => sp_bnd (fun (c14 : Nat → Int32) => Option.bind (f_X10_fails (3 : Int32)) (fun q9 => match q9 with | (r16, c17) => some (r16, c17, c14))) (fun k15 => if x12 = 0 then (k15 ce) else (sp_ld sl 4 p1 (fun v18 => if (v18 - p2) < p5 then (k15 ce) else (sp_ld sl 4 p3 (fun v19 => if p5 ≤ (v19 - p4) then (sp_bnd (fun (x20 : Int32) => sp_bnd (fun (c24 : Nat → Int32) => some (p5, (0 : Int32), c24)) (fun k25 => sp_lp (f_X10_copy_L166 p5 k25 p1 p2 p3 p4 x20) sp_F ((0 : Int32), ce))) (fun k21 => if p4 ≤ p2 then (k21 (0 : Int32)) else (k21 (1 : Int32)))) else (k15 ce))))))) (fun k13 => if p2 < 0 then (k13 (0 : Int32)) else (sp_bnd (k13 (0 : Int32)) (fun k31 => if p4 < 0 then k31 else (if p5 < 0 then k31 else (sp_ld sl 4 p1 (fun v32 => if v32 < p2 then k31 else (sp_ld sl 4 p3 (fun v33 => if v33 < p4 then k31 else (k13 (1 : Int32))))))))))) else (Option.bind (f_X10_fails (2 : Int32)) (fun q9 => match q9 with | (r34, c35) => some (r34, c35, ce))))))))))))))
def rmX10_copy : Room := { frames := 2, cells := 0, slots := 0, locals := 42 }
set_option maxRecDepth 4000 in
theorem c_X10_copy {l : Launch} {D : va_G} {q5 : Nat → ClassId} (a : Nat → Nat) (fa : Int32) (tr : Int32) (la : Nat → Int32) (sl : Nat → Int32) (ce : Nat → Int32) (pn : Int32) (mn : Nat → Int32) (cl : Nat → Int32) (le : Nat → Int32) (ri : Nat → Int32) (lt : Nat → Int32) (nm : Int32) (nc : Nat → Int32) (nl : Nat → Int32) (nr : Nat → Int32) (nt : Nat → Int32) (at9 : Int32) (en9 : Int32) (de : Nat → Int32) (mm : Int32) (ma : Nat → Int32) (ne : Nat → Int32) (us : Nat → Int32) (lk : Nat → Int32) (sd : Nat → Int32) (sf : Nat → Int32) (nu : Nat → Int32) (gt : Nat → Int64) (gl : Nat → Int32) (tb : Nat → Int64) (sc : Nat → Int32) (su : Nat → Int32) (p1 : Int32) (p2 : Int32) (p3 : Int32) (p4 : Int32) (p5 : Int32) {r' : Int32} {fa' : Int32} {ce' : Nat → Int32} (hf : f_X10_copy p1 p2 p3 p4 p5 la sl ce = some (r', fa', ce')) : sp_Ci l yX10_copy wsX10_copy rmX10_copy D q5 0 [.ref (a 0), .int p1, .int p2, .int p3, .int p4, .int p5] (sw_M a q5 fa tr la sl ce pn mn cl le ri lt nm nc nl nr nt at9 en9 de mm ma ne us lk sd sf nu gt gl tb sc su) r' (sw_M a q5 fa' tr la sl ce' pn mn cl le ri lt nm nc nl nr nt at9 en9 de mm ma ne us lk sd sf nu gt gl tb sc su) := by
  intro sz
  refine sp_of (cc := cX10_copy) (maxL := 10) (ret := some .int) (own := RX10) (Qc := sp_Qi D r' (sw_M a q5 fa' tr la sl ce' pn mn cl le ri lt nm nc nl nr nt at9 en9 de mm ma ne us lk sd sf nu gt gl tb sc su)) (by decide) rfl rfl (Nat.le_of_ble_eq_true rfl) ?_
  intro p e s m args below meth c A ls Q hQ S hr hlk hK hG hA hW hl
  have hx := S.1
  have hb := S.2.1
  unfold f_X10_copy at hf
  have inX10 : ∀ w ∈ u_ws RX10 TX10 32, w ∈ wsX10_copy := (fun _ h => List.mem_cons_of_mem _ (List.mem_append_right _ h))
  have lk1 := S.2.2.2.2 (Cond.fieldLink RX10 86 "ShortProofsModel" "fault" "I") (List.mem_of_getElem? (i := 1) rfl)
  have lk2 := S.2.2.2.2 (Cond.fieldLink RX10 9 "ShortProofsModel" "lanes" "[I") (List.mem_of_getElem? (i := 2) rfl)
  have lk3 := S.2.2.2.2 (Cond.fieldLink RX10 13 "ShortProofsModel" "sheetLong" "[I") (List.mem_of_getElem? (i := 3) rfl)
  have lk4 := S.2.2.2.2 (Cond.fieldLink RX10 16 "ShortProofsModel" "cells" "[I") (List.mem_of_getElem? (i := 4) rfl)
  refine lv_aload_n hx hb dX10_copy_0 rfl (lv_at hl 0 rfl) ?_
  refine lv_iconst (v := 0) hx hb dX10_copy_1 (by decide) ?_
  refine sp_put S hK hW inX10 tyX10_ok nmX10 0 rfl rfl 0 (by decide) lk1 rfl rfl rfl (Nat.le_of_ble_eq_true rfl) (ws' := sw_M a q5 (0 : Int32) tr la sl ce pn mn cl le ri lt nm nc nl nr nt at9 en9 de mm ma ne us lk sd sf nu gt gl tb sc su) rfl dX10_copy_2 (fun H locs hW => ?_)
  refine lv_iload_n hx hb dX10_copy_5 rfl (lv_at hl 1 rfl) ?_
  obtain ⟨r1, hc1, hf⟩ := sp_hc hf
  refine sp_callSi (rest := []) S hK hG hA hW (c_X10_isSheet p1 hc1) (by decide) (va_cwS 1 S.2.2.2.2 gX10_copy_X10_isSheet rfl rfl rfl (by decide +kernel) (by decide)) (isC := []) rfl rfl rfl (WS' := sw_M a q5 (0 : Int32) tr la sl ce pn mn cl le ri lt nm nc nl nr nt at9 en9 de mm ma ne us lk sd sf nu gt gl tb sc su) rfl rfl hl.1 (Nat.le_of_ble_eq_true rfl) dX10_copy_6 ⟨Nat.zero_le _, Nat.zero_le _⟩ rfl (fun H locs hW => ?_)
  refine lv_if_eq (tgt := 19) hx hb dX10_copy_9 (by decide) (fun hc => ?_) (fun hc => ?_)
  · have hf := sp_ht hf hc
    refine lv_iconst (v := (-1)) hx hb dX10_copy_19 (by decide) ?_
    have q0 := Option.some.inj hf
    obtain ⟨q1, z1⟩ := Prod.mk.inj q0
    obtain ⟨q2, z2⟩ := Prod.mk.inj z1
    subst q1
    subst q2
    subst z2
    exact sp_iret S hr hlk hW hQ dX10_copy_20
  · have hf := sp_hf hf hc
    refine lv_iload_n hx hb dX10_copy_12 rfl (lv_at hl 3 rfl) ?_
    obtain ⟨r2, hc2, hf⟩ := sp_hc hf
    refine sp_callSi (rest := []) S hK hG hA hW (c_X10_isSheet p3 hc2) (by decide) (va_cwS 1 S.2.2.2.2 gX10_copy_X10_isSheet rfl rfl rfl (by decide +kernel) (by decide)) (isC := []) rfl rfl rfl (WS' := sw_M a q5 (0 : Int32) tr la sl ce pn mn cl le ri lt nm nc nl nr nt at9 en9 de mm ma ne us lk sd sf nu gt gl tb sc su) rfl rfl hl.1 (Nat.le_of_ble_eq_true rfl) dX10_copy_13 ⟨Nat.zero_le _, Nat.zero_le _⟩ rfl (fun H locs hW => ?_)
    refine lv_if_ne (tgt := 21) hx hb dX10_copy_16 (by decide) (fun hc => ?_) (fun hc => ?_)
    · have hf := sp_hf hf hc
      refine lv_aload_n hx hb dX10_copy_21 rfl (lv_at hl 0 rfl) ?_
      refine sp_get S hK hW inX10 0 rfl rfl 2 (by decide) lk2 rfl dX10_copy_22 ?_
      refine lv_iload_n hx hb dX10_copy_25 rfl (lv_at hl 1 rfl) ?_
      obtain ⟨hin, v3, ev3, hf⟩ := sp_hld hf
      refine sp_iald S hK hW 1 rfl hin ev3 dX10_copy_26 ?_
      refine lv_bipush (v := (-9)) hx hb dX10_copy_27 (by decide) ?_
      obtain ⟨k6, ek6, hf⟩ := sp_hb hf
      have hj6 : ∀ (c4 : Int32) (c5 : Nat → Int32) (H : Heap) (locs : List Loc) (ls : Array Slot), k6 c4 c5 = some (r', fa', ce') → sp_wd D A s.heap (sw_M a q5 c4 tr la sl c5 pn mn cl le ri lt nm nc nl nr nt at9 en9 de mm ma ne us lk sd sf nu gt gl tb sc su) H locs → lv_has ls 10 [(0, .ref (a 0))] → W p l e rmX10_copy s m args below meth c H locs 0 0 Q (F0 m 43 ls []) := by
        intro c4 c5 H locs ls hf hW hl
        rw [ek6] at hf
        refine lv_aload_n hx hb dX10_copy_43 rfl (lv_at hl 0 rfl) ?_
        refine lv_iconst (v := 1) hx hb dX10_copy_44 (by decide) ?_
        obtain ⟨⟨r7, c8⟩, hc8, hf⟩ := sp_hc hf
        refine sp_callViP (rest := []) S hK hG hA hW (c_X10_fails a c4 tr la sl c5 pn mn cl le ri lt nm nc nl nr nt at9 en9 de mm ma ne us lk sd sf nu gt gl tb sc su (1 : Int32) hc8) (by decide) (cwV 1 S.2.2.2.2 gX10_copy_X10_fails rfl rfl rfl (by decide +kernel) (by decide)) 8 0 rfl rfl (sp_pn _) rfl (WS' := sw_M a q5 c8 tr la sl c5 pn mn cl le ri lt nm nc nl nr nt at9 en9 de mm ma ne us lk sd sf nu gt gl tb sc su) (sp_pn' _) rfl hl.1 (Nat.le_of_ble_eq_true rfl) dX10_copy_45 ⟨Nat.zero_le _, Nat.zero_le _⟩ rfl (fun H locs hW => ?_)
        have q0 := Option.some.inj hf
        obtain ⟨q1, z1⟩ := Prod.mk.inj q0
        obtain ⟨q2, z2⟩ := Prod.mk.inj z1
        subst q1
        subst q2
        subst z2
        exact sp_iret S hr hlk hW hQ dX10_copy_48
      refine lv_icmp_eq (tgt := 43) hx hb dX10_copy_29 (by decide) (fun hc => ?_) (fun hc => ?_)
      · have hf := sp_ht hf hc
        exact hj6 _ _ _ _ _ hf hW (lv_sub hl [0] rfl)
      · have hf := sp_hf hf hc
        refine lv_aload_n hx hb dX10_copy_32 rfl (lv_at hl 0 rfl) ?_
        refine sp_get S hK hW inX10 0 rfl rfl 2 (by decide) lk2 rfl dX10_copy_33 ?_
        refine lv_iload_n hx hb dX10_copy_36 rfl (lv_at hl 3 rfl) ?_
        obtain ⟨hin, v9, ev9, hf⟩ := sp_hld hf
        refine sp_iald S hK hW 1 rfl hin ev9 dX10_copy_37 ?_
        refine lv_bipush (v := (-9)) hx hb dX10_copy_38 (by decide) ?_
        refine lv_icmp_ne (tgt := 49) hx hb dX10_copy_40 (by decide) (fun hc => ?_) (fun hc => ?_)
        · have hf := sp_hf hf hc
          refine lv_aload_n hx hb dX10_copy_49 rfl (lv_at hl 0 rfl) ?_
          refine sp_get S hK hW inX10 0 rfl rfl 2 (by decide) lk2 rfl dX10_copy_50 ?_
          refine lv_iload_n hx hb dX10_copy_53 rfl (lv_at hl 1 rfl) ?_
          obtain ⟨hin, v10, ev10, hf⟩ := sp_hld hf
          refine sp_iald S hK hW 1 rfl hin ev10 dX10_copy_54 ?_
          refine lv_aload_n hx hb dX10_copy_55 rfl (lv_at hl 0 rfl) ?_
          refine sp_get S hK hW inX10 0 rfl rfl 2 (by decide) lk2 rfl dX10_copy_56 ?_
          refine lv_iload_n hx hb dX10_copy_59 rfl (lv_at hl 3 rfl) ?_
          obtain ⟨hin, v11, ev11, hf⟩ := sp_hld hf
          refine sp_iald S hK hW 1 rfl hin ev11 dX10_copy_60 ?_
          refine lv_icmp_eq (tgt := 70) hx hb dX10_copy_61 (by decide) (fun hc => ?_) (fun hc => ?_)
          · have hf := sp_ht hf hc
            refine lv_iload_n hx hb dX10_copy_70 rfl (lv_at hl 2 rfl) ?_
            obtain ⟨k13, ek13, hf⟩ := sp_hb hf
            have hj13 : ∀ (x12 : Int32) (H : Heap) (locs : List Loc) (ls : Array Slot), k13 x12 = some (r', fa', ce') → sp_wd D A s.heap (sw_M a q5 (0 : Int32) tr la sl ce pn mn cl le ri lt nm nc nl nr nt at9 en9 de mm ma ne us lk sd sf nu gt gl tb sc su) H locs → lv_has ls 10 [(0, .ref (a 0)), (1, .int p1), (2, .int p2), (3, .int p3), (4, .int p4), (5, .int p5)] → W p l e rmX10_copy s m args below meth c H locs 0 0 Q (F0 m 110 ls [.int x12]) := by
              intro x12 H locs ls hf hW hl
              rw [ek13] at hf
              refine lv_istore (lv' := [(6, .int x12), (0, .ref (a 0)), (1, .int p1), (2, .int p2), (3, .int p3), (4, .int p4), (5, .int p5)]) hx hb dX10_copy_110 hl (by decide) rfl (fun ls hl => ?_)
              refine lv_iload hx hb dX10_copy_112 (lv_at hl 0 rfl) ?_
              obtain ⟨k15, ek15, hf⟩ := sp_hb hf
              have hj15 : ∀ (c14 : Nat → Int32) (H : Heap) (locs : List Loc) (ls : Array Slot), k15 c14 = some (r', fa', ce') → sp_wd D A s.heap (sw_M a q5 (0 : Int32) tr la sl c14 pn mn cl le ri lt nm nc nl nr nt at9 en9 de mm ma ne us lk sd sf nu gt gl tb sc su) H locs → lv_has ls 10 [(0, .ref (a 0))] → W p l e rmX10_copy s m args below meth c H locs 0 0 Q (F0 m 144 ls []) := by
                intro c14 H locs ls hf hW hl
                rw [ek15] at hf
                refine lv_aload_n hx hb dX10_copy_144 rfl (lv_at hl 0 rfl) ?_
                refine lv_iconst (v := 3) hx hb dX10_copy_145 (by decide) ?_
                obtain ⟨⟨r16, c17⟩, hc17, hf⟩ := sp_hc hf
                refine sp_callViP (rest := []) S hK hG hA hW (c_X10_fails a (0 : Int32) tr la sl c14 pn mn cl le ri lt nm nc nl nr nt at9 en9 de mm ma ne us lk sd sf nu gt gl tb sc su (3 : Int32) hc17) (by decide) (cwV 1 S.2.2.2.2 gX10_copy_X10_fails rfl rfl rfl (by decide +kernel) (by decide)) 8 0 rfl rfl (sp_pn _) rfl (WS' := sw_M a q5 c17 tr la sl c14 pn mn cl le ri lt nm nc nl nr nt at9 en9 de mm ma ne us lk sd sf nu gt gl tb sc su) (sp_pn' _) rfl hl.1 (Nat.le_of_ble_eq_true rfl) dX10_copy_146 ⟨Nat.zero_le _, Nat.zero_le _⟩ rfl (fun H locs hW => ?_)
                have q0 := Option.some.inj hf
                obtain ⟨q1, z1⟩ := Prod.mk.inj q0
                obtain ⟨q2, z2⟩ := Prod.mk.inj z1
                subst q1
                subst q2
                subst z2
                exact sp_iret S hr hlk hW hQ dX10_copy_149
              refine lv_if_eq (tgt := 144) hx hb dX10_copy_114 (by decide) (fun hc => ?_) (fun hc => ?_)
              · have hf := sp_ht hf hc
                exact hj15 _ _ _ _ hf hW (lv_sub hl [1] rfl)
              · have hf := sp_hf hf hc
                refine lv_iload hx hb dX10_copy_117 (lv_at hl 6 rfl) ?_
                refine lv_aload_n hx hb dX10_copy_119 rfl (lv_at hl 1 rfl) ?_
                refine sp_get S hK hW inX10 0 rfl rfl 3 (by decide) lk3 rfl dX10_copy_120 ?_
                refine lv_iload_n hx hb dX10_copy_123 rfl (lv_at hl 2 rfl) ?_
                obtain ⟨hin, v18, ev18, hf⟩ := sp_hld hf
                refine sp_iald S hK hW 2 rfl hin ev18 dX10_copy_124 ?_
                refine lv_iload_n hx hb dX10_copy_125 rfl (lv_at hl 3 rfl) ?_
                refine lv_isub hx hb dX10_copy_126 ?_
                refine lv_icmp_gt (tgt := 144) hx hb dX10_copy_127 (by decide) (fun hc => ?_) (fun hc => ?_)
                · have hf := sp_ht hf hc
                  exact hj15 _ _ _ _ hf hW (lv_sub hl [1] rfl)
                · have hf := sp_hf hf hc
                  refine lv_iload hx hb dX10_copy_130 (lv_at hl 6 rfl) ?_
                  refine lv_aload_n hx hb dX10_copy_132 rfl (lv_at hl 1 rfl) ?_
                  refine sp_get S hK hW inX10 0 rfl rfl 3 (by decide) lk3 rfl dX10_copy_133 ?_
                  refine lv_iload_n hx hb dX10_copy_136 rfl (lv_at hl 4 rfl) ?_
                  obtain ⟨hin, v19, ev19, hf⟩ := sp_hld hf
                  refine sp_iald S hK hW 2 rfl hin ev19 dX10_copy_137 ?_
                  refine lv_iload hx hb dX10_copy_138 (lv_at hl 5 rfl) ?_
                  refine lv_isub hx hb dX10_copy_140 ?_
                  refine lv_icmp_le (tgt := 150) hx hb dX10_copy_141 (by decide) (fun hc => ?_) (fun hc => ?_)
                  · have hf := sp_ht hf hc
                    refine lv_iload_n hx hb dX10_copy_150 rfl (lv_at hl 3 rfl) ?_
                    refine lv_iload hx hb dX10_copy_151 (lv_at hl 5 rfl) ?_
                    obtain ⟨k21, ek21, hf⟩ := sp_hb hf
                    have hj21 : ∀ (x20 : Int32) (H : Heap) (locs : List Loc) (ls : Array Slot), k21 x20 = some (r', fa', ce') → sp_wd D A s.heap (sw_M a q5 (0 : Int32) tr la sl ce pn mn cl le ri lt nm nc nl nr nt at9 en9 de mm ma ne us lk sd sf nu gt gl tb sc su) H locs → lv_has ls 10 [(0, .ref (a 0)), (1, .int p1), (2, .int p2), (3, .int p3), (4, .int p4), (5, .int p5)] → W p l e rmX10_copy s m args below meth c H locs 0 0 Q (F0 m 161 ls [.int x20]) := by
                      intro x20 H locs ls hf hW hl
                      rw [ek21] at hf
                      refine lv_istore (lv' := [(7, .int x20), (0, .ref (a 0)), (1, .int p1), (2, .int p2), (3, .int p3), (4, .int p4), (5, .int p5)]) hx hb dX10_copy_161 hl (by decide) rfl (fun ls hl => ?_)
                      refine lv_iconst (v := 0) hx hb dX10_copy_163 (by decide) ?_
                      refine lv_istore (lv' := [(8, .int (0 : Int32)), (7, .int x20), (0, .ref (a 0)), (1, .int p1), (2, .int p2), (3, .int p3), (4, .int p4), (5, .int p5)]) hx hb dX10_copy_164 hl (by decide) rfl (fun ls hl => ?_)
                      obtain ⟨k25, ek25, hf⟩ := sp_hb hf
                      have hj25 : ∀ (c24 : Nat → Int32) (H : Heap) (locs : List Loc) (ls : Array Slot), k25 c24 = some (r', fa', ce') → sp_wd D A s.heap (sw_M a q5 (0 : Int32) tr la sl c24 pn mn cl le ri lt nm nc nl nr nt at9 en9 de mm ma ne us lk sd sf nu gt gl tb sc su) H locs → lv_has ls 10 [(5, .int p5)] → W p l e rmX10_copy s m args below meth c H locs 0 0 Q (F0 m 227 ls []) := by
                        intro c24 H locs ls hf hW hl
                        rw [ek25] at hf
                        refine lv_iload hx hb dX10_copy_227 (lv_at hl 0 rfl) ?_
                        have q0 := Option.some.inj hf
                        obtain ⟨q1, z1⟩ := Prod.mk.inj q0
                        obtain ⟨q2, z2⟩ := Prod.mk.inj z1
                        subst q1
                        subst q2
                        subst z2
                        exact sp_iret S hr hlk hW hQ dX10_copy_229
                      have hlp166 : ∀ (n9 : Nat) (y22 : Int32) (c23 : Nat → Int32) (H : Heap) (locs : List Loc) (ls : Array Slot), sp_lp (f_X10_copy_L166 p5 k25 p1 p2 p3 p4 x20) n9 (y22, c23) = some (r', fa', ce') → sp_wd D A s.heap (sw_M a q5 (0 : Int32) tr la sl c23 pn mn cl le ri lt nm nc nl nr nt at9 en9 de mm ma ne us lk sd sf nu gt gl tb sc su) H locs → lv_has ls 10 [(0, .ref (a 0)), (1, .int p1), (2, .int p2), (3, .int p3), (4, .int p4), (5, .int p5), (7, .int x20), (8, .int y22)] → W p l e rmX10_copy s m args below meth c H locs 0 0 Q (F0 m 166 ls []) := by
                        intro n9
                        induction n9 with
                        | zero =>
                          intro y22 c23 H locs ls hf hW hl
                          exact (sp_lp0 hf).elim
                        | succ n9 ih166 =>
                          intro y22 c23 H locs ls hf hW hl
                          have hf := sp_lpS hf
                          rw [f_X10_copy_L166_eq] at hf
                          refine lv_iload hx hb dX10_copy_166 (lv_at hl 7 rfl) ?_
                          refine lv_iload hx hb dX10_copy_168 (lv_at hl 5 rfl) ?_
                          refine lv_icmp_ge (tgt := 227) hx hb dX10_copy_170 (by decide) (fun hc => ?_) (fun hc => ?_)
                          · have hf := sp_ht hf hc
                            exact hj25 _ _ _ _ hf hW (lv_sub hl [5] rfl)
                          · have hf := sp_hf hf hc
                            refine lv_iload hx hb dX10_copy_173 (lv_at hl 6 rfl) ?_
                            obtain ⟨k27, ek27, hf⟩ := sp_hb hf
                            have hj27 : ∀ (x26 : Int32) (H : Heap) (locs : List Loc) (ls : Array Slot), k27 x26 = some (r', fa', ce') → sp_wd D A s.heap (sw_M a q5 (0 : Int32) tr la sl c23 pn mn cl le ri lt nm nc nl nr nt at9 en9 de mm ma ne us lk sd sf nu gt gl tb sc su) H locs → lv_has ls 10 [(0, .ref (a 0)), (1, .int p1), (2, .int p2), (3, .int p3), (4, .int p4), (5, .int p5), (7, .int x20), (8, .int y22)] → W p l e rmX10_copy s m args below meth c H locs 0 0 Q (F0 m 190 ls [.int x26]) := by
                              intro x26 H locs ls hf hW hl
                              rw [ek27] at hf
                              refine lv_istore (lv' := [(9, .int x26), (0, .ref (a 0)), (1, .int p1), (2, .int p2), (3, .int p3), (4, .int p4), (5, .int p5), (7, .int x20), (8, .int y22)]) hx hb dX10_copy_190 hl (by decide) rfl (fun ls hl => ?_)
                              refine lv_aload_n hx hb dX10_copy_192 rfl (lv_at hl 1 rfl) ?_
                              refine sp_get S hK hW inX10 0 rfl rfl 4 (by decide) lk4 rfl dX10_copy_193 ?_
                              refine lv_bipush (v := 60) hx hb dX10_copy_196 (by decide) ?_
                              refine lv_iload_n hx hb dX10_copy_198 rfl (lv_at hl 4 rfl) ?_
                              refine lv_imul hx hb dX10_copy_199 ?_
                              refine lv_iload hx hb dX10_copy_200 (lv_at hl 5 rfl) ?_
                              refine lv_iadd hx hb dX10_copy_202 ?_
                              refine lv_iload hx hb dX10_copy_203 (lv_at hl 0 rfl) ?_
                              refine lv_iadd hx hb dX10_copy_205 ?_
                              refine lv_aload_n hx hb dX10_copy_206 rfl (lv_at hl 1 rfl) ?_
                              refine sp_get S hK hW inX10 0 rfl rfl 4 (by decide) lk4 rfl dX10_copy_207 ?_
                              refine lv_bipush (v := 60) hx hb dX10_copy_210 (by decide) ?_
                              refine lv_iload_n hx hb dX10_copy_212 rfl (lv_at hl 2 rfl) ?_
                              refine lv_imul hx hb dX10_copy_213 ?_
                              refine lv_iload_n hx hb dX10_copy_214 rfl (lv_at hl 3 rfl) ?_
                              refine lv_iadd hx hb dX10_copy_215 ?_
                              refine lv_iload hx hb dX10_copy_216 (lv_at hl 0 rfl) ?_
                              refine lv_iadd hx hb dX10_copy_218 ?_
                              obtain ⟨hin, v28, ev28, hf⟩ := sp_hld hf
                              refine sp_iald S hK hW 3 rfl hin ev28 dX10_copy_219 ?_
                              obtain ⟨hin, c29, ec29, hf⟩ := sp_hst hf
                              refine sp_iast S hK hW 3 rfl hin ec29 (ws' := sw_M a q5 (0 : Int32) tr la sl c29 pn mn cl le ri lt nm nc nl nr nt at9 en9 de mm ma ne us lk sd sf nu gt gl tb sc su) rfl dX10_copy_220 (fun H locs hW => ?_)
                              obtain ⟨v30, ev30, hf⟩ := sp_hb hf
                              refine lv_iinc (v := v30) (lv' := [(8, .int v30), (9, .int x26), (0, .ref (a 0)), (1, .int p1), (2, .int p2), (3, .int p3), (4, .int p4), (5, .int p5), (7, .int x20)]) hx hb dX10_copy_221 hl (k := 8) rfl (by rw [ev30]; rfl) (by decide) rfl (fun ls hl => ?_)
                              refine lv_goto (tgt := 166) hx hb dX10_copy_224 (by decide) ?_
                              exact ih166 _ _ _ _ _ hf hW (lv_sub hl [2, 3, 4, 5, 6, 7, 8, 0] rfl)
                            refine lv_if_eq (tgt := 188) hx hb dX10_copy_175 (by decide) (fun hc => ?_) (fun hc => ?_)
                            · have hf := sp_ht hf hc
                              refine lv_iload hx hb dX10_copy_188 (lv_at hl 7 rfl) ?_
                              exact hj27 _ _ _ _ hf hW (lv_sub hl [0, 1, 2, 3, 4, 5, 6, 7] rfl)
                            · have hf := sp_hf hf hc
                              refine lv_iload hx hb dX10_copy_178 (lv_at hl 5 rfl) ?_
                              refine lv_iconst (v := 1) hx hb dX10_copy_180 (by decide) ?_
                              refine lv_isub hx hb dX10_copy_181 ?_
                              refine lv_iload hx hb dX10_copy_182 (lv_at hl 7 rfl) ?_
                              refine lv_isub hx hb dX10_copy_184 ?_
                              refine lv_goto (tgt := 190) hx hb dX10_copy_185 (by decide) ?_
                              exact hj27 _ _ _ _ hf hW (lv_sub hl [0, 1, 2, 3, 4, 5, 6, 7] rfl)
                      exact hlp166 _ _ _ _ _ _ hf hW (lv_sub hl [2, 3, 4, 5, 6, 7, 1, 0] rfl)
                    refine lv_icmp_ge (tgt := 160) hx hb dX10_copy_153 (by decide) (fun hc => ?_) (fun hc => ?_)
                    · have hf := sp_ht hf hc
                      refine lv_iconst (v := 0) hx hb dX10_copy_160 (by decide) ?_
                      exact hj21 _ _ _ _ hf hW (lv_sub hl [1, 2, 3, 4, 5, 6] rfl)
                    · have hf := sp_hf hf hc
                      refine lv_iconst (v := 1) hx hb dX10_copy_156 (by decide) ?_
                      refine lv_goto (tgt := 161) hx hb dX10_copy_157 (by decide) ?_
                      exact hj21 _ _ _ _ hf hW (lv_sub hl [1, 2, 3, 4, 5, 6] rfl)
                  · have hf := sp_hf hf hc
                    exact hj15 _ _ _ _ hf hW (lv_sub hl [1] rfl)
            refine lv_if_lt (tgt := 109) hx hb dX10_copy_71 (by decide) (fun hc => ?_) (fun hc => ?_)
            · have hf := sp_ht hf hc
              refine lv_iconst (v := 0) hx hb dX10_copy_109 (by decide) ?_
              exact hj13 _ _ _ _ hf hW (lv_sub hl [0, 1, 2, 3, 4, 5] rfl)
            · have hf := sp_hf hf hc
              refine lv_iload hx hb dX10_copy_74 (lv_at hl 4 rfl) ?_
              obtain ⟨k31, ek31, hf⟩ := sp_hb hf
              have hj31 : ∀ (H : Heap) (locs : List Loc) (ls : Array Slot), k31 = some (r', fa', ce') → sp_wd D A s.heap (sw_M a q5 (0 : Int32) tr la sl ce pn mn cl le ri lt nm nc nl nr nt at9 en9 de mm ma ne us lk sd sf nu gt gl tb sc su) H locs → lv_has ls 10 [(0, .ref (a 0)), (1, .int p1), (2, .int p2), (3, .int p3), (4, .int p4), (5, .int p5)] → W p l e rmX10_copy s m args below meth c H locs 0 0 Q (F0 m 109 ls []) := by
                intro H locs ls hf hW hl
                rw [ek31] at hf
                refine lv_iconst (v := 0) hx hb dX10_copy_109 (by decide) ?_
                exact hj13 _ _ _ _ hf hW (lv_sub hl [0, 1, 2, 3, 4, 5] rfl)
              refine lv_if_lt (tgt := 109) hx hb dX10_copy_76 (by decide) (fun hc => ?_) (fun hc => ?_)
              · have hf := sp_ht hf hc
                exact hj31 _ _ _ hf hW (lv_sub hl [0, 1, 2, 3, 4, 5] rfl)
              · have hf := sp_hf hf hc
                refine lv_iload hx hb dX10_copy_79 (lv_at hl 5 rfl) ?_
                refine lv_if_lt (tgt := 109) hx hb dX10_copy_81 (by decide) (fun hc => ?_) (fun hc => ?_)
                · have hf := sp_ht hf hc
                  exact hj31 _ _ _ hf hW (lv_sub hl [0, 1, 2, 3, 4, 5] rfl)
                · have hf := sp_hf hf hc
                  refine lv_iload_n hx hb dX10_copy_84 rfl (lv_at hl 2 rfl) ?_
                  refine lv_aload_n hx hb dX10_copy_85 rfl (lv_at hl 0 rfl) ?_
                  refine sp_get S hK hW inX10 0 rfl rfl 3 (by decide) lk3 rfl dX10_copy_86 ?_
                  refine lv_iload_n hx hb dX10_copy_89 rfl (lv_at hl 1 rfl) ?_
                  obtain ⟨hin, v32, ev32, hf⟩ := sp_hld hf
                  refine sp_iald S hK hW 2 rfl hin ev32 dX10_copy_90 ?_
                  refine lv_icmp_gt (tgt := 109) hx hb dX10_copy_91 (by decide) (fun hc => ?_) (fun hc => ?_)
                  · have hf := sp_ht hf hc
                    exact hj31 _ _ _ hf hW (lv_sub hl [0, 1, 2, 3, 4, 5] rfl)
                  · have hf := sp_hf hf hc
                    refine lv_iload hx hb dX10_copy_94 (lv_at hl 4 rfl) ?_
                    refine lv_aload_n hx hb dX10_copy_96 rfl (lv_at hl 0 rfl) ?_
                    refine sp_get S hK hW inX10 0 rfl rfl 3 (by decide) lk3 rfl dX10_copy_97 ?_
                    refine lv_iload_n hx hb dX10_copy_100 rfl (lv_at hl 3 rfl) ?_
                    obtain ⟨hin, v33, ev33, hf⟩ := sp_hld hf
                    refine sp_iald S hK hW 2 rfl hin ev33 dX10_copy_101 ?_
                    refine lv_icmp_gt (tgt := 109) hx hb dX10_copy_102 (by decide) (fun hc => ?_) (fun hc => ?_)
                    · have hf := sp_ht hf hc
                      exact hj31 _ _ _ hf hW (lv_sub hl [0, 1, 2, 3, 4, 5] rfl)
                    · have hf := sp_hf hf hc
                      refine lv_iconst (v := 1) hx hb dX10_copy_105 (by decide) ?_
                      refine lv_goto (tgt := 110) hx hb dX10_copy_106 (by decide) ?_
                      exact hj13 _ _ _ _ hf hW (lv_sub hl [0, 1, 2, 3, 4, 5] rfl)
          · have hf := sp_hf hf hc
            refine lv_aload_n hx hb dX10_copy_64 rfl (lv_at hl 0 rfl) ?_
            refine lv_iconst (v := 2) hx hb dX10_copy_65 (by decide) ?_
            obtain ⟨⟨r34, c35⟩, hc35, hf⟩ := sp_hc hf
            refine sp_callViP (rest := []) S hK hG hA hW (c_X10_fails a (0 : Int32) tr la sl ce pn mn cl le ri lt nm nc nl nr nt at9 en9 de mm ma ne us lk sd sf nu gt gl tb sc su (2 : Int32) hc35) (by decide) (cwV 1 S.2.2.2.2 gX10_copy_X10_fails rfl rfl rfl (by decide +kernel) (by decide)) 8 0 rfl rfl (sp_pn _) rfl (WS' := sw_M a q5 c35 tr la sl ce pn mn cl le ri lt nm nc nl nr nt at9 en9 de mm ma ne us lk sd sf nu gt gl tb sc su) (sp_pn' _) rfl hl.1 (Nat.le_of_ble_eq_true rfl) dX10_copy_66 ⟨Nat.zero_le _, Nat.zero_le _⟩ rfl (fun H locs hW => ?_)
            have q0 := Option.some.inj hf
            obtain ⟨q1, z1⟩ := Prod.mk.inj q0
            obtain ⟨q2, z2⟩ := Prod.mk.inj z1
            subst q1
            subst q2
            subst z2
            exact sp_iret S hr hlk hW hQ dX10_copy_69
        · have hf := sp_ht hf hc
          exact hj6 _ _ _ _ _ hf hW (lv_sub hl [0] rfl)
    · have hf := sp_ht hf hc
      refine lv_iconst (v := (-1)) hx hb dX10_copy_19 (by decide) ?_
      have q0 := Option.some.inj hf
      obtain ⟨q1, z1⟩ := Prod.mk.inj q0
      obtain ⟨q2, z2⟩ := Prod.mk.inj z1
      subst q1
      subst q2
      subst z2
      exact sp_iret S hr hlk hW hQ dX10_copy_20

def f_X10_begins (p1 : Int32) (tr : Int32) : Option (Int32) := sp_bnd (((31 : Int32) * tr) + p1) (fun v1 => some v1)
def rmX10_begins : Room := { frames := 0, cells := 0, slots := 0, locals := 0 }
set_option maxRecDepth 4000 in
theorem c_X10_begins {l : Launch} {D : va_G} {q5 : Nat → ClassId} (a : Nat → Nat) (fa : Int32) (tr : Int32) (la : Nat → Int32) (sl : Nat → Int32) (ce : Nat → Int32) (pn : Int32) (mn : Nat → Int32) (cl : Nat → Int32) (le : Nat → Int32) (ri : Nat → Int32) (lt : Nat → Int32) (nm : Int32) (nc : Nat → Int32) (nl : Nat → Int32) (nr : Nat → Int32) (nt : Nat → Int32) (at9 : Int32) (en9 : Int32) (de : Nat → Int32) (mm : Int32) (ma : Nat → Int32) (ne : Nat → Int32) (us : Nat → Int32) (lk : Nat → Int32) (sd : Nat → Int32) (sf : Nat → Int32) (nu : Nat → Int32) (gt : Nat → Int64) (gl : Nat → Int32) (tb : Nat → Int64) (sc : Nat → Int32) (su : Nat → Int32) (p1 : Int32) {tr' : Int32} (hf : f_X10_begins p1 tr = some tr') : sp_Cv l yX10_begins wsX10_begins rmX10_begins D q5 0 [.ref (a 0), .int p1] (sw_M a q5 fa tr la sl ce pn mn cl le ri lt nm nc nl nr nt at9 en9 de mm ma ne us lk sd sf nu gt gl tb sc su) (sw_M a q5 fa tr' la sl ce pn mn cl le ri lt nm nc nl nr nt at9 en9 de mm ma ne us lk sd sf nu gt gl tb sc su) := by
  intro sz
  refine sp_of (cc := cX10_begins) (maxL := 2) (ret := none) (own := RX10) (Qc := sp_Qv D (sw_M a q5 fa tr' la sl ce pn mn cl le ri lt nm nc nl nr nt at9 en9 de mm ma ne us lk sd sf nu gt gl tb sc su)) (by decide) rfl rfl (Nat.le_of_ble_eq_true rfl) ?_
  intro p e s m args below meth c A ls Q hQ S hr hlk hK hG hA hW hl
  have hx := S.1
  have hb := S.2.1
  unfold f_X10_begins at hf
  have inX10 : ∀ w ∈ u_ws RX10 TX10 32, w ∈ wsX10_begins := (fun _ h => List.mem_cons_of_mem _ (List.mem_append_right _ h))
  have lk1 := S.2.2.2.2 (Cond.fieldLink RX10 288 "ShortProofsModel" "trace" "I") (List.mem_of_getElem? (i := 1) rfl)
  refine lv_aload_n hx hb dX10_begins_0 rfl (lv_at hl 0 rfl) ?_
  refine lv_bipush (v := 31) hx hb dX10_begins_1 (by decide) ?_
  refine lv_aload_n hx hb dX10_begins_3 rfl (lv_at hl 0 rfl) ?_
  refine sp_get S hK hW inX10 0 rfl rfl 1 (by decide) lk1 rfl dX10_begins_4 ?_
  refine lv_imul hx hb dX10_begins_7 ?_
  refine lv_iload_n hx hb dX10_begins_8 rfl (lv_at hl 1 rfl) ?_
  refine lv_iadd hx hb dX10_begins_9 ?_
  obtain ⟨v1, ev1, hf⟩ := sp_hb hf
  refine sp_topi ev1 ?_
  refine sp_put S hK hW inX10 tyX10_ok nmX10 0 rfl rfl 1 (by decide) lk1 rfl rfl rfl (Nat.le_of_ble_eq_true rfl) (ws' := sw_M a q5 fa v1 la sl ce pn mn cl le ri lt nm nc nl nr nt at9 en9 de mm ma ne us lk sd sf nu gt gl tb sc su) rfl dX10_begins_10 (fun H locs hW => ?_)
  have q0 := Option.some.inj hf
  subst q0
  exact sp_vret S hr hlk hW hQ dX10_begins_13
