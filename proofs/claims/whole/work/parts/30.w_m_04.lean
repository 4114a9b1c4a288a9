def f_X10_fewest_L82 (y11 : Int32) (c7 : Nat → Int32) (c9 : Nat → Int32) (v10 : Int32) (k16 : Int32 → Option (Int32 × Int32 × (Nat → Int32) × (Nat → Int32) × (Nat → Int32) × (Nat → Int32))) (rec82 : (Int32) → Option (Int32 × Int32 × (Nat → Int32) × (Nat → Int32) × (Nat → Int32) × (Nat → Int32))) (s9 : Int32) : Option (Int32 × Int32 × (Nat → Int32) × (Nat → Int32) × (Nat → Int32) × (Nat → Int32)) := match s9 with
  | y14 => Option.bind (f_X10_mayCome y11 y14 c7) (fun r20 => sp_bnd (sp_bnd (y14 + (1 : Int32)) (fun v22 => rec82 v22)) (fun k21 => if r20 = 0 then k21 else (sp_ld c9 4096 (y11 ||| ((1 : Int32) <<< (y14 &&& 31))) (fun v23 => if v23 ≤ v10 then (k16 y14) else k21))))
theorem f_X10_fewest_L82_eq {rec82 : (Int32) → Option (Int32 × Int32 × (Nat → Int32) × (Nat → Int32) × (Nat → Int32) × (Nat → Int32))} {y11 : Int32} {c7 : Nat → Int32} {c9 : Nat → Int32} {v10 : Int32} {k16 : Int32 → Option (Int32 × Int32 × (Nat → Int32) × (Nat → Int32) × (Nat → Int32) × (Nat → Int32))} {y14 : Int32} : f_X10_fewest_L82 y11 c7 c9 v10 k16 rec82 y14 = (Option.bind (f_X10_mayCome y11 y14 c7) (fun r20 => sp_bnd (sp_bnd (y14 + (1 : Int32)) (fun v22 => rec82 v22)) (fun k21 => if r20 = 0 then k21 else (sp_ld c9 4096 (y11 ||| ((1 : Int32) <<< (y14 &&& 31))) (fun v23 => if v23 ≤ v10 then (k16 y14) else k21))))) := rfl
def f_X10_fewest_L70 (c5 : Int32) (k13 : Option (Int32 × Int32 × (Nat → Int32) × (Nat → Int32) × (Nat → Int32) × (Nat → Int32))) (p2 : Int32) (c6 : Nat → Int32) (c7 : Nat → Int32) (c8 : Nat → Int32) (c9 : Nat → Int32) (v10 : Int32) (rec70 : (Int32 × Int32) → Option (Int32 × Int32 × (Nat → Int32) × (Nat → Int32) × (Nat → Int32) × (Nat → Int32))) (s9 : Int32 × Int32) : Option (Int32 × Int32 × (Nat → Int32) × (Nat → Int32) × (Nat → Int32) × (Nat → Int32)) := match s9 with
  | (y11, y12) => if c5 ≤ y12 then k13 else (sp_bnd (fun (x15 : Int32) => if y12 = p2 then (sp_ld c6 12 x15 (fun v19 => some (v19, c5, c6, c7, c8, c9))) else (sp_bnd (y11 ||| ((1 : Int32) <<< (x15 &&& 31))) (fun v17 => sp_bnd (y12 + (1 : Int32)) (fun v18 => rec70 (v17, v18))))) (fun k16 => sp_lp (f_X10_fewest_L82 y11 c7 c9 v10 k16) sp_F (0 : Int32)))
theorem f_X10_fewest_L70_eq {rec70 : (Int32 × Int32) → Option (Int32 × Int32 × (Nat → Int32) × (Nat → Int32) × (Nat → Int32) × (Nat → Int32))} {c5 : Int32} {k13 : Option (Int32 × Int32 × (Nat → Int32) × (Nat → Int32) × (Nat → Int32) × (Nat → Int32))} {p2 : Int32} {c6 : Nat → Int32} {c7 : Nat → Int32} {c8 : Nat → Int32} {c9 : Nat → Int32} {v10 : Int32} {y11 : Int32} {y12 : Int32} : f_X10_fewest_L70 c5 k13 p2 c6 c7 c8 c9 v10 rec70 (y11, y12) = (if c5 ≤ y12 then k13 else (sp_bnd (fun (x15 : Int32) => if y12 = p2 then (sp_ld c6 12 x15 (fun v19 => some (v19, c5, c6, c7, c8, c9))) else (sp_bnd (y11 ||| ((1 : Int32) <<< (x15 &&& 31))) (fun v17 => sp_bnd (y12 + (1 : Int32)) (fun v18 => rec70 (v17, v18))))) (fun k16 => sp_lp (f_X10_fewest_L82 y11 c7 c9 v10 k16) sp_F (0 : Int32)))) := rfl
def f_X10_fewest (p1 : Int32) (p2 : Int32) (pn : Int32) (mn : Nat → Int32) (le : Nat → Int32) (ri : Nat → Int32) (lt : Nat → Int32) (mm : Int32) (ma : Nat → Int32) (ne : Nat → Int32) (us : Nat → Int32) (lk : Nat → Int32) : Option (Int32 × Int32 × (Nat → Int32) × (Nat → Int32) × (Nat → Int32) × (Nat → Int32)) := Option.bind (f_X10_isProof p1 pn) (fun r1 => if r1 = 0 then (some ((-1 : Int32), mm, ma, ne, us, lk)) else (Option.bind (f_X10_within p2 (-1 : Int32) (11 : Int32)) (fun r2 => if r2 = 0 then (some ((-1 : Int32), mm, ma, ne, us, lk)) else (Option.bind (f_X10_restsOf p1 mn le ri lt) (fun r3 => Option.bind (f_X10_bitsOf r3) (fun r4 => if r4 ≤ (12 : Int32) then (Option.bind (f_X10_layMatter p1 r3 mn le ri lt ma ne us) (fun q9 => match q9 with | (c5, c6, c7, c8) => Option.bind (f_X10_layKept c5 c7 c8 lk) (fun c9 => sp_ld c9 4096 (0 : Int32) (fun v10 => if p2 = (-1 : Int32) then (some (v10, c5, c6, c7, c8, c9)) else (sp_bnd (some ((-9 : Int32), c5, c6, c7, c8, c9)) (fun k13 => sp_lp (f_X10_fewest_L70 c5 k13 p2 c6 c7 c8 c9 v10) sp_F ((0 : Int32), (0 : Int32)))))))) else (some ((-3 : Int32), mm, ma, ne, us, lk))))))))
def rmX10_fewest : Room := { frames := 2, cells := 0, slots := 0, locals := 49 }
set_option maxRecDepth 4000 in
theorem c_X10_fewest {l : Launch} {D : va_G} {q5 : Nat → ClassId} (a : Nat → Nat) (fa : Int32) (tr : Int32) (la : Nat → Int32) (sl : Nat → Int32) (ce : Nat → Int32) (pn : Int32) (mn : Nat → Int32) (cl : Nat → Int32) (le : Nat → Int32) (ri : Nat → Int32) (lt : Nat → Int32) (nm : Int32) (nc : Nat → Int32) (nl : Nat → Int32) (nr : Nat → Int32) (nt : Nat → Int32) (at9 : Int32) (en9 : Int32) (de : Nat → Int32) (mm : Int32) (ma : Nat → Int32) (ne : Nat → Int32) (us : Nat → Int32) (lk : Nat → Int32) (sd : Nat → Int32) (sf : Nat → Int32) (nu : Nat → Int32) (gt : Nat → Int64) (gl : Nat → Int32) (tb : Nat → Int64) (sc : Nat → Int32) (su : Nat → Int32) (p1 : Int32) (p2 : Int32) {r' : Int32} {mm' : Int32} {ma' : Nat → Int32} {ne' : Nat → Int32} {us' : Nat → Int32} {lk' : Nat → Int32} (hf : f_X10_fewest p1 p2 pn mn le ri lt mm ma ne us lk = some (r', mm', ma', ne', us', lk')) : sp_Ci l yX10_fewest wsX10_fewest rmX10_fewest D q5 0 [.ref (a 0), .int p1, .int p2] (sw_M a q5 fa tr la sl ce pn mn cl le ri lt nm nc nl nr nt at9 en9 de mm ma ne us lk sd sf nu gt gl tb sc su) r' (sw_M a q5 fa tr la sl ce pn mn cl le ri lt nm nc nl nr nt at9 en9 de mm' ma' ne' us' lk' sd sf nu gt gl tb sc su) := by
  intro sz
  refine sp_of (cc := cX10_fewest) (maxL := 8) (ret := some .int) (own := RX10) (Qc := sp_Qi D r' (sw_M a q5 fa tr la sl ce pn mn cl le ri lt nm nc nl nr nt at9 en9 de mm' ma' ne' us' lk' sd sf nu gt gl tb sc su)) (by decide) rfl rfl (Nat.le_of_ble_eq_true rfl) ?_
  intro p e s m args below meth c A ls Q hQ S hr hlk hK hG hA hW hl
  have hx := S.1
  have hb := S.2.1
  unfold f_X10_fewest at hf
  have inX10 : ∀ w ∈ u_ws RX10 TX10 32, w ∈ wsX10_fewest := (fun _ h => List.mem_cons_of_mem _ (List.mem_append_right _ h))
  have lk1 := S.2.2.2.2 (Cond.fieldLink RX10 58 "ShortProofsModel" "leastKept" "[I") (List.mem_of_getElem? (i := 1) rfl)
  have lk2 := S.2.2.2.2 (Cond.fieldLink RX10 194 "ShortProofsModel" "matterMany" "I") (List.mem_of_getElem? (i := 2) rfl)
  have lk3 := S.2.2.2.2 (Cond.fieldLink RX10 49 "ShortProofsModel" "matter" "[I") (List.mem_of_getElem? (i := 3) rfl)
  refine lv_aload_n hx hb dX10_fewest_0 rfl (lv_at hl 0 rfl) ?_
  refine lv_iload_n hx hb dX10_fewest_1 rfl (lv_at hl 1 rfl) ?_
  obtain ⟨r1, hc1, hf⟩ := sp_hc hf
  refine sp_callViP (rest := []) S hK hG hA hW (c_X10_isProof a fa tr la sl ce pn mn cl le ri lt nm nc nl nr nt at9 en9 de mm ma ne us lk sd sf nu gt gl tb sc su p1 hc1) (by decide) (cwV 1 S.2.2.2.2 gX10_fewest_X10_isProof rfl rfl rfl (by decide +kernel) (by decide)) 8 0 rfl rfl (sp_pn _) rfl (WS' := sw_M a q5 fa tr la sl ce pn mn cl le ri lt nm nc nl nr nt at9 en9 de mm ma ne us lk sd sf nu gt gl tb sc su) (sp_pn' _) rfl hl.1 (Nat.le_of_ble_eq_true rfl) dX10_fewest_2 ⟨Nat.zero_le _, Nat.zero_le _⟩ rfl (fun H locs hW => ?_)
  refine lv_if_eq (tgt := 18) hx hb dX10_fewest_5 (by decide) (fun hc => ?_) (fun hc => ?_)
  · have hf := sp_ht hf hc
    refine lv_iconst (v := (-1)) hx hb dX10_fewest_18 (by decide) ?_
    have q0 := Option.some.inj hf
    obtain ⟨q1, z1⟩ := Prod.mk.inj q0
    obtain ⟨q2, z2⟩ := Prod.mk.inj z1
    obtain ⟨q3, z3⟩ := Prod.mk.inj z2
    obtain ⟨q4, z4⟩ := Prod.mk.inj z3
    obtain ⟨q5, z5⟩ := Prod.mk.inj z4
    subst q1
    subst q2
    subst q3
    subst q4
    subst q5
    subst z5
    exact sp_iret S hr hlk hW hQ dX10_fewest_19
  · have hf := sp_hf hf hc
    refine lv_iload_n hx hb dX10_fewest_8 rfl (lv_at hl 2 rfl) ?_
    refine lv_iconst (v := (-1)) hx hb dX10_fewest_9 (by decide) ?_
    refine lv_bipush (v := 11) hx hb dX10_fewest_10 (by decide) ?_
    obtain ⟨r2, hc2, hf⟩ := sp_hc hf
    refine sp_callSi (rest := []) S hK hG hA hW (c_X10_within p2 (-1 : Int32) (11 : Int32) hc2) (by decide) (va_cwS 3 S.2.2.2.2 gX10_fewest_X10_within rfl rfl rfl (by decide +kernel) (by decide)) (isC := []) rfl rfl rfl (WS' := sw_M a q5 fa tr la sl ce pn mn cl le ri lt nm nc nl nr nt at9 en9 de mm ma ne us lk sd sf nu gt gl tb sc su) rfl rfl hl.1 (Nat.le_of_ble_eq_true rfl) dX10_fewest_12 ⟨Nat.zero_le _, Nat.zero_le _⟩ rfl (fun H locs hW => ?_)
    refine lv_if_ne (tgt := 20) hx hb dX10_fewest_15 (by decide) (fun hc => ?_) (fun hc => ?_)
    · have hf := sp_hf hf hc
      refine lv_aload_n hx hb dX10_fewest_20 rfl (lv_at hl 0 rfl) ?_
      refine lv_iload_n hx hb dX10_fewest_21 rfl (lv_at hl 1 rfl) ?_
      obtain ⟨r3, hc3, hf⟩ := sp_hc hf
      refine sp_callViP (rest := []) S hK hG hA hW (c_X10_restsOf a fa tr la sl ce pn mn cl le ri lt nm nc nl nr nt at9 en9 de mm ma ne us lk sd sf nu gt gl tb sc su p1 hc3) (by decide) (cwV 1 S.2.2.2.2 gX10_fewest_X10_restsOf rfl rfl rfl (by decide +kernel) (by decide)) 8 0 rfl rfl (sp_pn _) rfl (WS' := sw_M a q5 fa tr la sl ce pn mn cl le ri lt nm nc nl nr nt at9 en9 de mm ma ne us lk sd sf nu gt gl tb sc su) (sp_pn' _) rfl hl.1 (Nat.le_of_ble_eq_true rfl) dX10_fewest_22 ⟨Nat.zero_le _, Nat.zero_le _⟩ rfl (fun H locs hW => ?_)
      refine lv_istore_n (lv' := [(3, .int r3), (0, .ref (a 0)), (1, .int p1), (2, .int p2)]) hx hb dX10_fewest_25 rfl hl (by decide) rfl (fun ls hl => ?_)
      refine lv_iload_n hx hb dX10_fewest_26 rfl (lv_at hl 0 rfl) ?_
      obtain ⟨r4, hc4, hf⟩ := sp_hc hf
      refine sp_callSi (rest := []) S hK hG hA hW (c_X10_bitsOf r3 hc4) (by decide) (va_cwS 1 S.2.2.2.2 gX10_fewest_X10_bitsOf rfl rfl rfl (by decide +kernel) (by decide)) (isC := []) rfl rfl rfl (WS' := sw_M a q5 fa tr la sl ce pn mn cl le ri lt nm nc nl nr nt at9 en9 de mm ma ne us lk sd sf nu gt gl tb sc su) rfl rfl hl.1 (Nat.le_of_ble_eq_true rfl) dX10_fewest_27 ⟨Nat.zero_le _, Nat.zero_le _⟩ rfl (fun H locs hW => ?_)
      refine lv_bipush (v := 12) hx hb dX10_fewest_30 (by decide) ?_
      refine lv_icmp_le (tgt := 38) hx hb dX10_fewest_32 (by decide) (fun hc => ?_) (fun hc => ?_)
      · have hf := sp_ht hf hc
        refine lv_aload_n hx hb dX10_fewest_38 rfl (lv_at hl 1 rfl) ?_
        refine lv_iload_n hx hb dX10_fewest_39 rfl (lv_at hl 2 rfl) ?_
        refine lv_iload_n hx hb dX10_fewest_40 rfl (lv_at hl 0 rfl) ?_
        obtain ⟨⟨c5, c6, c7, c8⟩, hc8, hf⟩ := sp_hc hf
        refine sp_callVvP (rest := []) S hK hG hA hW (c_X10_layMatter a fa tr la sl ce pn mn cl le ri lt nm nc nl nr nt at9 en9 de mm ma ne us lk sd sf nu gt gl tb sc su p1 r3 hc8) (by decide) (cwV 2 S.2.2.2.2 gX10_fewest_X10_layMatter rfl rfl rfl (by decide +kernel) (by decide)) 8 0 rfl rfl (sp_pn _) rfl (WS' := sw_M a q5 fa tr la sl ce pn mn cl le ri lt nm nc nl nr nt at9 en9 de c5 c6 c7 c8 lk sd sf nu gt gl tb sc su) (sp_pn' _) rfl hl.1 (Nat.le_of_ble_eq_true rfl) dX10_fewest_41 ⟨Nat.zero_le _, Nat.zero_le _⟩ rfl (fun H locs hW => ?_)
        refine lv_aload_n hx hb dX10_fewest_44 rfl (lv_at hl 1 rfl) ?_
        obtain ⟨c9, hc9, hf⟩ := sp_hc hf
        refine sp_callVvP (rest := []) S hK hG hA hW (c_X10_layKept a fa tr la sl ce pn mn cl le ri lt nm nc nl nr nt at9 en9 de c5 c6 c7 c8 lk sd sf nu gt gl tb sc su hc9) (by decide) (cwV 0 S.2.2.2.2 gX10_fewest_X10_layKept rfl rfl rfl (by decide +kernel) (by decide)) 8 0 rfl rfl (sp_pn _) rfl (WS' := sw_M a q5 fa tr la sl ce pn mn cl le ri lt nm nc nl nr nt at9 en9 de c5 c6 c7 c8 c9 sd sf nu gt gl tb sc su) (sp_pn' _) rfl hl.1 (Nat.le_of_ble_eq_true rfl) dX10_fewest_45 ⟨Nat.zero_le _, Nat.zero_le _⟩ rfl (fun H locs hW => ?_)
        refine lv_aload_n hx hb dX10_fewest_48 rfl (lv_at hl 1 rfl) ?_
        refine sp_get S hK hW inX10 0 rfl rfl 23 (by decide) lk1 rfl dX10_fewest_49 ?_
        refine lv_iconst (v := 0) hx hb dX10_fewest_52 (by decide) ?_
        obtain ⟨hin, v10, ev10, hf⟩ := sp_hld hf
        refine sp_iald S hK hW 17 rfl hin ev10 dX10_fewest_53 ?_
        refine lv_istore (lv' := [(4, .int v10), (3, .int r3), (0, .ref (a 0)), (1, .int p1), (2, .int p2)]) hx hb dX10_fewest_54 hl (by decide) rfl (fun ls hl => ?_)
        refine lv_iload_n hx hb dX10_fewest_56 rfl (lv_at hl 4 rfl) ?_
        refine lv_iconst (v := (-1)) hx hb dX10_fewest_57 (by decide) ?_
        refine lv_icmp_ne (tgt := 64) hx hb dX10_fewest_58 (by decide) (fun hc => ?_) (fun hc => ?_)
        · have hf := sp_hf hf hc
          refine lv_iconst (v := 0) hx hb dX10_fewest_64 (by decide) ?_
          refine lv_istore (lv' := [(5, .int (0 : Int32)), (4, .int v10), (3, .int r3), (0, .ref (a 0)), (1, .int p1), (2, .int p2)]) hx hb dX10_fewest_65 hl (by decide) rfl (fun ls hl => ?_)
          refine lv_iconst (v := 0) hx hb dX10_fewest_67 (by decide) ?_
          refine lv_istore (lv' := [(6, .int (0 : Int32)), (5, .int (0 : Int32)), (4, .int v10), (3, .int r3), (0, .ref (a 0)), (1, .int p1), (2, .int p2)]) hx hb dX10_fewest_68 hl (by decide) rfl (fun ls hl => ?_)
          obtain ⟨k13, ek13, hf⟩ := sp_hb hf
          have hj13 : ∀ (H : Heap) (locs : List Loc) (ls : Array Slot), k13 = some (r', mm', ma', ne', us', lk') → sp_wd D A s.heap (sw_M a q5 fa tr la sl ce pn mn cl le ri lt nm nc nl nr nt at9 en9 de c5 c6 c7 c8 c9 sd sf nu gt gl tb sc su) H locs → lv_has ls 8 [] → W p l e rmX10_fewest s m args below meth c H locs 0 0 Q (F0 m 145 ls []) := by
            intro H locs ls hf hW hl
            rw [ek13] at hf
            refine lv_bipush (v := (-9)) hx hb dX10_fewest_145 (by decide) ?_
            have q0 := Option.some.inj hf
            obtain ⟨q1, z1⟩ := Prod.mk.inj q0
            obtain ⟨q2, z2⟩ := Prod.mk.inj z1
            obtain ⟨q3, z3⟩ := Prod.mk.inj z2
            obtain ⟨q4, z4⟩ := Prod.mk.inj z3
            obtain ⟨q5, z5⟩ := Prod.mk.inj z4
            subst q1
            subst q2
            subst q3
            subst q4
            subst q5
            subst z5
            exact sp_iret S hr hlk hW hQ dX10_fewest_147
          have hlp70 : ∀ (n9 : Nat) (y11 : Int32) (y12 : Int32) (H : Heap) (locs : List Loc) (ls : Array Slot), sp_lp (f_X10_fewest_L70 c5 k13 p2 c6 c7 c8 c9 v10) n9 (y11, y12) = some (r', mm', ma', ne', us', lk') → sp_wd D A s.heap (sw_M a q5 fa tr la sl ce pn mn cl le ri lt nm nc nl nr nt at9 en9 de c5 c6 c7 c8 c9 sd sf nu gt gl tb sc su) H locs → lv_has ls 8 [(0, .ref (a 0)), (2, .int p2), (4, .int v10), (5, .int y11), (6, .int y12)] → W p l e rmX10_fewest s m args below meth c H locs 0 0 Q (F0 m 70 ls []) := by
            intro n9
            induction n9 with
            | zero =>
              intro y11 y12 H locs ls hf hW hl
              exact (sp_lp0 hf).elim
            | succ n9 ih70 =>
              intro y11 y12 H locs ls hf hW hl
              have hf := sp_lpS hf
              rw [f_X10_fewest_L70_eq] at hf
              refine lv_iload hx hb dX10_fewest_70 (lv_at hl 4 rfl) ?_
              refine lv_aload_n hx hb dX10_fewest_72 rfl (lv_at hl 0 rfl) ?_
              refine sp_get S hK hW inX10 0 rfl rfl 19 (by decide) lk2 rfl dX10_fewest_73 ?_
              refine lv_icmp_ge (tgt := 145) hx hb dX10_fewest_76 (by decide) (fun hc => ?_) (fun hc => ?_)
              · have hf := sp_ht hf hc
                exact hj13 _ _ _ hf hW (lv_sub hl [] rfl)
              · have hf := sp_hf hf hc
                refine lv_iconst (v := 0) hx hb dX10_fewest_79 (by decide) ?_
                refine lv_istore (lv' := [(7, .int (0 : Int32)), (0, .ref (a 0)), (2, .int p2), (4, .int v10), (5, .int y11), (6, .int y12)]) hx hb dX10_fewest_80 hl (by decide) rfl (fun ls hl => ?_)
                obtain ⟨k16, ek16, hf⟩ := sp_hb hf
                have hj16 : ∀ (x15 : Int32) (H : Heap) (locs : List Loc) (ls : Array Slot), k16 x15 = some (r', mm', ma', ne', us', lk') → sp_wd D A s.heap (sw_M a q5 fa tr la sl ce pn mn cl le ri lt nm nc nl nr nt at9 en9 de c5 c6 c7 c8 c9 sd sf nu gt gl tb sc su) H locs → lv_has ls 8 [(0, .ref (a 0)), (2, .int p2), (4, .int v10), (5, .int y11), (6, .int y12), (7, .int x15)] → W p l e rmX10_fewest s m args below meth c H locs 0 0 Q (F0 m 116 ls []) := by
                  intro x15 H locs ls hf hW hl
                  rw [ek16] at hf
                  refine lv_iload hx hb dX10_fewest_116 (lv_at hl 4 rfl) ?_
                  refine lv_iload_n hx hb dX10_fewest_118 rfl (lv_at hl 1 rfl) ?_
                  refine lv_icmp_ne (tgt := 130) hx hb dX10_fewest_119 (by decide) (fun hc => ?_) (fun hc => ?_)
                  · have hf := sp_hf hf hc
                    refine lv_iload hx hb dX10_fewest_130 (lv_at hl 3 rfl) ?_
                    refine lv_iconst (v := 1) hx hb dX10_fewest_132 (by decide) ?_
                    refine lv_iload hx hb dX10_fewest_133 (lv_at hl 5 rfl) ?_
                    refine lv_ishl hx hb dX10_fewest_135 ?_
                    refine lv_ior hx hb dX10_fewest_136 ?_
                    obtain ⟨v17, ev17, hf⟩ := sp_hb hf
                    refine sp_topi ev17 ?_
                    refine lv_istore (lv' := [(5, .int v17), (0, .ref (a 0)), (2, .int p2), (4, .int v10), (6, .int y12), (7, .int x15)]) hx hb dX10_fewest_137 hl (by decide) rfl (fun ls hl => ?_)
                    obtain ⟨v18, ev18, hf⟩ := sp_hb hf
                    refine lv_iinc (v := v18) (lv' := [(6, .int v18), (5, .int v17), (0, .ref (a 0)), (2, .int p2), (4, .int v10), (7, .int x15)]) hx hb dX10_fewest_139 hl (k := 4) rfl (by rw [ev18]; rfl) (by decide) rfl (fun ls hl => ?_)
                    refine lv_goto (tgt := 70) hx hb dX10_fewest_142 (by decide) ?_
                    exact ih70 _ _ _ _ _ hf hW (lv_sub hl [2, 3, 4, 1, 0] rfl)
                  · have hf := sp_ht hf hc
                    refine lv_aload_n hx hb dX10_fewest_122 rfl (lv_at hl 0 rfl) ?_
                    refine sp_get S hK hW inX10 0 rfl rfl 20 (by decide) lk3 rfl dX10_fewest_123 ?_
                    refine lv_iload hx hb dX10_fewest_126 (lv_at hl 5 rfl) ?_
                    obtain ⟨hin, v19, ev19, hf⟩ := sp_hld hf
                    refine sp_iald S hK hW 14 rfl hin ev19 dX10_fewest_128 ?_
                    have q0 := Option.some.inj hf
                    obtain ⟨q1, z1⟩ := Prod.mk.inj q0
                    obtain ⟨q2, z2⟩ := Prod.mk.inj z1
                    obtain ⟨q3, z3⟩ := Prod.mk.inj z2
                    obtain ⟨q4, z4⟩ := Prod.mk.inj z3
                    obtain ⟨q5, z5⟩ := Prod.mk.inj z4
                    subst q1
                    subst q2
                    subst q3
                    subst q4
                    subst q5
                    subst z5
                    exact sp_iret S hr hlk hW hQ dX10_fewest_129
                have hlp82 : ∀ (n9 : Nat) (y14 : Int32) (H : Heap) (locs : List Loc) (ls : Array Slot), sp_lp (f_X10_fewest_L82 y11 c7 c9 v10 k16) n9 y14 = some (r', mm', ma', ne', us', lk') → sp_wd D A s.heap (sw_M a q5 fa tr la sl ce pn mn cl le ri lt nm nc nl nr nt at9 en9 de c5 c6 c7 c8 c9 sd sf nu gt gl tb sc su) H locs → lv_has ls 8 [(0, .ref (a 0)), (2, .int p2), (4, .int v10), (5, .int y11), (6, .int y12), (7, .int y14)] → W p l e rmX10_fewest s m args below meth c H locs 0 0 Q (F0 m 82 ls []) := by
                  intro n9
                  induction n9 with
                  | zero =>
                    intro y14 H locs ls hf hW hl
                    exact (sp_lp0 hf).elim
                  | succ n9 ih82 =>
                    intro y14 H locs ls hf hW hl
                    have hf := sp_lpS hf
                    rw [f_X10_fewest_L82_eq] at hf
                    refine lv_aload_n hx hb dX10_fewest_82 rfl (lv_at hl 0 rfl) ?_
                    refine lv_iload hx hb dX10_fewest_83 (lv_at hl 3 rfl) ?_
                    refine lv_iload hx hb dX10_fewest_85 (lv_at hl 5 rfl) ?_
                    obtain ⟨r20, hc20, hf⟩ := sp_hc hf
                    refine sp_callViP (rest := []) S hK hG hA hW (c_X10_mayCome a fa tr la sl ce pn mn cl le ri lt nm nc nl nr nt at9 en9 de c5 c6 c7 c8 c9 sd sf nu gt gl tb sc su y11 y14 hc20) (by decide) (cwV 2 S.2.2.2.2 gX10_fewest_X10_mayCome rfl rfl rfl (by decide +kernel) (by decide)) 8 0 rfl rfl (sp_pn _) rfl (WS' := sw_M a q5 fa tr la sl ce pn mn cl le ri lt nm nc nl nr nt at9 en9 de c5 c6 c7 c8 c9 sd sf nu gt gl tb sc su) (sp_pn' _) rfl hl.1 (Nat.le_of_ble_eq_true rfl) dX10_fewest_87 ⟨Nat.zero_le _, Nat.zero_le _⟩ rfl (fun H locs hW => ?_)
                    obtain ⟨k21, ek21, hf⟩ := sp_hb hf
                    have hj21 : ∀ (H : Heap) (locs : List Loc) (ls : Array Slot), k21 = some (r', mm', ma', ne', us', lk') → sp_wd D A s.heap (sw_M a q5 fa tr la sl ce pn mn cl le ri lt nm nc nl nr nt at9 en9 de c5 c6 c7 c8 c9 sd sf nu gt gl tb sc su) H locs → lv_has ls 8 [(0, .ref (a 0)), (2, .int p2), (4, .int v10), (5, .int y11), (6, .int y12), (7, .int y14)] → W p l e rmX10_fewest s m args below meth c H locs 0 0 Q (F0 m 110 ls []) := by
                      intro H locs ls hf hW hl
                      rw [ek21] at hf
                      obtain ⟨v22, ev22, hf⟩ := sp_hb hf
                      refine lv_iinc (v := v22) (lv' := [(7, .int v22), (0, .ref (a 0)), (2, .int p2), (4, .int v10), (5, .int y11), (6, .int y12)]) hx hb dX10_fewest_110 hl (k := 5) rfl (by rw [ev22]; rfl) (by decide) rfl (fun ls hl => ?_)
                      refine lv_goto (tgt := 82) hx hb dX10_fewest_113 (by decide) ?_
                      exact ih82 _ _ _ _ hf hW (lv_sub hl [1, 2, 3, 4, 5, 0] rfl)
                    refine lv_if_eq (tgt := 110) hx hb dX10_fewest_90 (by decide) (fun hc => ?_) (fun hc => ?_)
                    · have hf := sp_ht hf hc
                      exact hj21 _ _ _ hf hW (lv_sub hl [0, 1, 2, 3, 4, 5] rfl)
                    · have hf := sp_hf hf hc
                      refine lv_aload_n hx hb dX10_fewest_93 rfl (lv_at hl 0 rfl) ?_
                      refine sp_get S hK hW inX10 0 rfl rfl 23 (by decide) lk1 rfl dX10_fewest_94 ?_
                      refine lv_iload hx hb dX10_fewest_97 (lv_at hl 3 rfl) ?_
                      refine lv_iconst (v := 1) hx hb dX10_fewest_99 (by decide) ?_
                      refine lv_iload hx hb dX10_fewest_100 (lv_at hl 5 rfl) ?_
                      refine lv_ishl hx hb dX10_fewest_102 ?_
                      refine lv_ior hx hb dX10_fewest_103 ?_
                      obtain ⟨hin, v23, ev23, hf⟩ := sp_hld hf
                      refine sp_iald S hK hW 17 rfl hin ev23 dX10_fewest_104 ?_
                      refine lv_iload hx hb dX10_fewest_105 (lv_at hl 2 rfl) ?_
                      refine lv_icmp_le (tgt := 116) hx hb dX10_fewest_107 (by decide) (fun hc => ?_) (fun hc => ?_)
                      · have hf := sp_ht hf hc
                        exact hj16 _ _ _ _ hf hW (lv_sub hl [0, 1, 2, 3, 4, 5] rfl)
                      · have hf := sp_hf hf hc
                        exact hj21 _ _ _ hf hW (lv_sub hl [0, 1, 2, 3, 4, 5] rfl)
                exact hlp82 _ _ _ _ _ hf hW (lv_sub hl [1, 2, 3, 4, 5, 0] rfl)
          exact hlp70 _ _ _ _ _ _ hf hW (lv_sub hl [4, 6, 2, 1, 0] rfl)
        · have hf := sp_ht hf hc
          refine lv_iload hx hb dX10_fewest_61 (lv_at hl 0 rfl) ?_
          have q0 := Option.some.inj hf
          obtain ⟨q1, z1⟩ := Prod.mk.inj q0
          obtain ⟨q2, z2⟩ := Prod.mk.inj z1
          obtain ⟨q3, z3⟩ := Prod.mk.inj z2
          obtain ⟨q4, z4⟩ := Prod.mk.inj z3
          obtain ⟨q5, z5⟩ := Prod.mk.inj z4
          subst q1
          subst q2
          subst q3
          subst q4
          subst q5
          subst z5
          exact sp_iret S hr hlk hW hQ dX10_fewest_63
      · have hf := sp_hf hf hc
        refine lv_bipush (v := (-3)) hx hb dX10_fewest_35 (by decide) ?_
        have q0 := Option.some.inj hf
        obtain ⟨q1, z1⟩ := Prod.mk.inj q0
        obtain ⟨q2, z2⟩ := Prod.mk.inj z1
        obtain ⟨q3, z3⟩ := Prod.mk.inj z2
        obtain ⟨q4, z4⟩ := Prod.mk.inj z3
        obtain ⟨q5, z5⟩ := Prod.mk.inj z4
        subst q1
        subst q2
        subst q3
        subst q4
        subst q5
        subst z5
        exact sp_iret S hr hlk hW hQ dX10_fewest_37
    · have hf := sp_ht hf hc
      refine lv_iconst (v := (-1)) hx hb dX10_fewest_18 (by decide) ?_
      have q0 := Option.some.inj hf
      obtain ⟨q1, z1⟩ := Prod.mk.inj q0
      obtain ⟨q2, z2⟩ := Prod.mk.inj z1
      obtain ⟨q3, z3⟩ := Prod.mk.inj z2
      obtain ⟨q4, z4⟩ := Prod.mk.inj z3
      obtain ⟨q5, z5⟩ := Prod.mk.inj z4
      subst q1
      subst q2
      subst q3
      subst q4
      subst q5
      subst z5
      exact sp_iret S hr hlk hW hQ dX10_fewest_19

def f_X10_laySafe_L53 (mn : Nat → Int32) (p1 : Int32) (k15 : (Nat → Int32) → Option ((Nat → Int32))) (y3 : Int32) (p2 : Int32) (le : Nat → Int32) (ri : Nat → Int32) (lt : Nat → Int32) (rec53 : (Int32 × (Nat → Int32)) → Option ((Nat → Int32))) (s9 : Int32 × (Nat → Int32)) : Option ((Nat → Int32)) := match s9 with
  | (y12, c13) => sp_ld mn 12 p1 (fun v21 => if v21 ≤ y12 then (k15 c13) else (sp_ld mn 12 p1 (fun v22 => if (v22 - (1 : Int32)) ≤ y3 then (k15 c13) else (sp_bnd (fun (c23 : Nat → Int32) => sp_bnd (y12 + (1 : Int32)) (fun v25 => rec53 (v25, c23))) (fun k24 => if ((p2 >>> (y12 &&& 31)) &&& (1 : Int32)) = 0 then (k24 c13) else (Option.bind (f_X10_isFrom p1 y12 y3 le ri lt) (fun r26 => if r26 = 0 then (k24 c13) else (sp_ld le 288 (((24 : Int32) * p1) + y12) (fun v27 => sp_bnd (fun (x28 : Int32) => sp_ld c13 24 y3 (fun v30 => sp_ld c13 24 y12 (fun v31 => sp_st c13 24 y3 (v30 &&& (v31 ||| x28)) (fun c32 => k24 c32)))) (fun k29 => if v27 = y3 then (sp_ld lt 288 (((24 : Int32) * p1) + y12) (fun v34 => k29 ((1 : Int32) <<< (v34 &&& 31)))) else (sp_ld lt 288 (((24 : Int32) * p1) + y12) (fun v33 => k29 ((64 : Int32) <<< (v33 &&& 31))))))))))))))
theorem f_X10_laySafe_L53_eq {rec53 : (Int32 × (Nat → Int32)) → Option ((Nat → Int32))} {mn : Nat → Int32} {p1 : Int32} {k15 : (Nat → Int32) → Option ((Nat → Int32))} {y3 : Int32} {p2 : Int32} {le : Nat → Int32} {ri : Nat → Int32} {lt : Nat → Int32} {y12 : Int32} {c13 : Nat → Int32} : f_X10_laySafe_L53 mn p1 k15 y3 p2 le ri lt rec53 (y12, c13) = (sp_ld mn 12 p1 (fun v21 => if v21 ≤ y12 then (k15 c13) else (sp_ld mn 12 p1 (fun v22 => if (v22 - (1 : Int32)) ≤ y3 then (k15 c13) else (sp_bnd (fun (c23 : Nat → Int32) => sp_bnd (y12 + (1 : Int32)) (fun v25 => rec53 (v25, c23))) (fun k24 => if ((p2 >>> (y12 &&& 31)) &&& (1 : Int32)) = 0 then (k24 c13) else (Option.bind (f_X10_isFrom p1 y12 y3 le ri lt) (fun r26 => if r26 = 0 then (k24 c13) else (sp_ld le 288 (((24 : Int32) * p1) + y12) (fun v27 => sp_bnd (fun (x28 : Int32) => sp_ld c13 24 y3 (fun v30 => sp_ld c13 24 y12 (fun v31 => sp_st c13 24 y3 (v30 &&& (v31 ||| x28)) (fun c32 => k24 c32)))) (fun k29 => if v27 = y3 then (sp_ld lt 288 (((24 : Int32) * p1) + y12) (fun v34 => k29 ((1 : Int32) <<< (v34 &&& 31)))) else (sp_ld lt 288 (((24 : Int32) * p1) + y12) (fun v33 => k29 ((64 : Int32) <<< (v33 &&& 31))))))))))))))) := rfl
def f_X10_laySafe_L9 (k6 : (Nat → Int32) → Option ((Nat → Int32))) (mn : Nat → Int32) (p1 : Int32) (p2 : Int32) (le : Nat → Int32) (ri : Nat → Int32) (lt : Nat → Int32) (cl : Nat → Int32) (rec9 : (Int32 × (Nat → Int32)) → Option ((Nat → Int32))) (s9 : Int32 × (Nat → Int32)) : Option ((Nat → Int32)) := match s9 with
  | (y3, c4) => if y3 < 0 then (k6 c4) else (sp_ld mn 12 p1 (fun v7 => sp_bnd (fun (x8 : Int32) => sp_st c4 24 y3 x8 (fun c10 => sp_bnd (y3 + (1 : Int32)) (fun v11 => sp_bnd (fun (c14 : Nat → Int32) => sp_bnd (fun (x16 : Int32) => sp_st c14 24 y3 x16 (fun c18 => sp_bnd (y3 + (-1 : Int32)) (fun v19 => rec9 (v19, c18)))) (fun k17 => if ((p2 >>> (y3 &&& 31)) &&& (1 : Int32)) = 0 then (k17 (4095 : Int32)) else (sp_ld c14 24 y3 (fun v20 => k17 v20)))) (fun k15 => sp_lp (f_X10_laySafe_L53 mn p1 k15 y3 p2 le ri lt) sp_F (v11, c10))))) (fun k9 => if y3 = (v7 - (1 : Int32)) then (sp_ld cl 288 (((24 : Int32) * p1) + y3) (fun v35 => k9 v35)) else (k9 (4095 : Int32)))))
theorem f_X10_laySafe_L9_eq {rec9 : (Int32 × (Nat → Int32)) → Option ((Nat → Int32))} {k6 : (Nat → Int32) → Option ((Nat → Int32))} {mn : Nat → Int32} {p1 : Int32} {p2 : Int32} {le : Nat → Int32} {ri : Nat → Int32} {lt : Nat → Int32} {cl : Nat → Int32} {y3 : Int32} {c4 : Nat → Int32} : f_X10_laySafe_L9 k6 mn p1 p2 le ri lt cl rec9 (y3, c4) = (if y3 < 0 then (k6 c4) else (sp_ld mn 12 p1 (fun v7 => sp_bnd (fun (x8 : Int32) => sp_st c4 24 y3 x8 (fun c10 => sp_bnd (y3 + (1 : Int32)) (fun v11 => sp_bnd (fun (c14 : Nat → Int32) => sp_bnd (fun (x16 : Int32) => sp_st c14 24 y3 x16 (fun c18 => sp_bnd (y3 + (-1 : Int32)) (fun v19 => rec9 (v19, c18)))) (fun k17 => if ((p2 >>> (y3 &&& 31)) &&& (1 : Int32)) = 0 then (k17 (4095 : Int32)) else (sp_ld c14 24 y3 (fun v20 => k17 v20)))) (fun k15 => sp_lp (f_X10_laySafe_L53 mn p1 k15 y3 p2 le ri lt) sp_F (v11, c10))))) (fun k9 => if y3 = (v7 - (1 : Int32)) then (sp_ld cl 288 (((24 : Int32) * p1) + y3) (fun v35 => k9 v35)) else (k9 (4095 : Int32)))))) := rfl
def f_X10_laySafe (p1 : Int32) (p2 : Int32) (mn : Nat → Int32) (cl : Nat → Int32) (le : Nat → Int32) (ri : Nat → Int32) (lt : Nat → Int32) (sf : Nat → Int32) : Option ((Nat → Int32)) := sp_ld mn 12 p1 (fun v1 => sp_bnd (v1 - (1 : Int32)) (fun v2 => sp_bnd (fun (c5 : Nat → Int32) => some c5) (fun k6 => sp_lp (f_X10_laySafe_L9 k6 mn p1 p2 le ri lt cl) sp_F (v2, sf))))
def rmX10_laySafe : Room := { frames := 1, cells := 0, slots := 0, locals := 23 }
set_option maxRecDepth 4000 in
theorem c_X10_laySafe {l : Launch} {D : va_G} {q5 : Nat → ClassId} (a : Nat → Nat) (fa : Int32) (tr : Int32) (la : Nat → Int32) (sl : Nat → Int32) (ce : Nat → Int32) (pn : Int32) (mn : Nat → Int32) (cl : Nat → Int32) (le : Nat → Int32) (ri : Nat → Int32) (lt : Nat → Int32) (nm : Int32) (nc : Nat → Int32) (nl : Nat → Int32) (nr : Nat → Int32) (nt : Nat → Int32) (at9 : Int32) (en9 : Int32) (de : Nat → Int32) (mm : Int32) (ma : Nat → Int32) (ne : Nat → Int32) (us : Nat → Int32) (lk : Nat → Int32) (sd : Nat → Int32) (sf : Nat → Int32) (nu : Nat → Int32) (gt : Nat → Int64) (gl : Nat → Int32) (tb : Nat → Int64) (sc : Nat → Int32) (su : Nat → Int32) (p1 : Int32) (p2 : Int32) {sf' : Nat → Int32} (hf : f_X10_laySafe p1 p2 mn cl le ri lt sf = some sf') : sp_Cv l yX10_laySafe wsX10_laySafe rmX10_laySafe D q5 0 [.ref (a 0), .int p1, .int p2] (sw_M a q5 fa tr la sl ce pn mn cl le ri lt nm nc nl nr nt at9 en9 de mm ma ne us lk sd sf nu gt gl tb sc su) (sw_M a q5 fa tr la sl ce pn mn cl le ri lt nm nc nl nr nt at9 en9 de mm ma ne us lk sd sf' nu gt gl tb sc su) := by
  intro sz
  refine sp_of (cc := cX10_laySafe) (maxL := 6) (ret := none) (own := RX10) (Qc := sp_Qv D (sw_M a q5 fa tr la sl ce pn mn cl le ri lt nm nc nl nr nt at9 en9 de mm ma ne us lk sd sf' nu gt gl tb sc su)) (by decide) rfl rfl (Nat.le_of_ble_eq_true rfl) ?_
  intro p e s m args below meth c A ls Q hQ S hr hlk hK hG hA hW hl
  have hx := S.1
  have hb := S.2.1
  unfold f_X10_laySafe at hf
  have inX10 : ∀ w ∈ u_ws RX10 TX10 32, w ∈ wsX10_laySafe := (fun _ h => List.mem_cons_of_mem _ (List.mem_append_right _ h))
  have lk1 := S.2.2.2.2 (Cond.fieldLink RX10 19 "ShortProofsModel" "many" "[I") (List.mem_of_getElem? (i := 1) rfl)
  have lk2 := S.2.2.2.2 (Cond.fieldLink RX10 64 "ShortProofsModel" "safes" "[I") (List.mem_of_getElem? (i := 2) rfl)
  have lk3 := S.2.2.2.2 (Cond.fieldLink RX10 25 "ShortProofsModel" "lefts" "[I") (List.mem_of_getElem? (i := 4) rfl)
  have lk4 := S.2.2.2.2 (Cond.fieldLink RX10 31 "ShortProofsModel" "letters" "[I") (List.mem_of_getElem? (i := 5) rfl)
  have lk5 := S.2.2.2.2 (Cond.fieldLink RX10 22 "ShortProofsModel" "clauses" "[I") (List.mem_of_getElem? (i := 3) rfl)
  refine lv_aload_n hx hb dX10_laySafe_0 rfl (lv_at hl 0 rfl) ?_
  refine sp_get S hK hW inX10 0 rfl rfl 6 (by decide) lk1 rfl dX10_laySafe_1 ?_
  refine lv_iload_n hx hb dX10_laySafe_4 rfl (lv_at hl 1 rfl) ?_
  obtain ⟨hin, v1, ev1, hf⟩ := sp_hld hf
  refine sp_iald S hK hW 4 rfl hin ev1 dX10_laySafe_5 ?_
  refine lv_iconst (v := 1) hx hb dX10_laySafe_6 (by decide) ?_
  refine lv_isub hx hb dX10_laySafe_7 ?_
  obtain ⟨v2, ev2, hf⟩ := sp_hb hf
  refine sp_topi ev2 ?_
  refine lv_istore_n (lv' := [(3, .int v2), (0, .ref (a 0)), (1, .int p1), (2, .int p2)]) hx hb dX10_laySafe_8 rfl hl (by decide) rfl (fun ls hl => ?_)
  obtain ⟨k6, ek6, hf⟩ := sp_hb hf
  have hj6 : ∀ (c5 : Nat → Int32) (H : Heap) (locs : List Loc) (ls : Array Slot), k6 c5 = some sf' → sp_wd D A s.heap (sw_M a q5 fa tr la sl ce pn mn cl le ri lt nm nc nl nr nt at9 en9 de mm ma ne us lk sd c5 nu gt gl tb sc su) H locs → lv_has ls 6 [] → W p l e rmX10_laySafe s m args below meth c H locs 0 0 Q (F0 m 206 ls []) := by
    intro c5 H locs ls hf hW hl
    rw [ek6] at hf
    have q0 := Option.some.inj hf
    subst q0
    exact sp_vret S hr hlk hW hQ dX10_laySafe_206
  have hlp9 : ∀ (n9 : Nat) (y3 : Int32) (c4 : Nat → Int32) (H : Heap) (locs : List Loc) (ls : Array Slot), sp_lp (f_X10_laySafe_L9 k6 mn p1 p2 le ri lt cl) n9 (y3, c4) = some sf' → sp_wd D A s.heap (sw_M a q5 fa tr la sl ce pn mn cl le ri lt nm nc nl nr nt at9 en9 de mm ma ne us lk sd c4 nu gt gl tb sc su) H locs → lv_has ls 6 [(0, .ref (a 0)), (1, .int p1), (2, .int p2), (3, .int y3)] → W p l e rmX10_laySafe s m args below meth c H locs 0 0 Q (F0 m 9 ls []) := by
    intro n9
    induction n9 with
    | zero =>
      intro y3 c4 H locs ls hf hW hl
      exact (sp_lp0 hf).elim
    | succ n9 ih9 =>
      intro y3 c4 H locs ls hf hW hl
      have hf := sp_lpS hf
      rw [f_X10_laySafe_L9_eq] at hf
      refine lv_iload_n hx hb dX10_laySafe_9 rfl (lv_at hl 3 rfl) ?_
      refine lv_if_lt (tgt := 206) hx hb dX10_laySafe_10 (by decide) (fun hc => ?_) (fun hc => ?_)
      · have hf := sp_ht hf hc
        exact hj6 _ _ _ _ hf hW (lv_sub hl [] rfl)
      · have hf := sp_hf hf hc
        refine lv_aload_n hx hb dX10_laySafe_13 rfl (lv_at hl 0 rfl) ?_
        refine sp_get S hK hW inX10 0 rfl rfl 25 (by decide) lk2 rfl dX10_laySafe_14 ?_
        refine lv_iload_n hx hb dX10_laySafe_17 rfl (lv_at hl 3 rfl) ?_
        refine lv_iload_n hx hb dX10_laySafe_18 rfl (lv_at hl 3 rfl) ?_
        refine lv_aload_n hx hb dX10_laySafe_19 rfl (lv_at hl 0 rfl) ?_
        refine sp_get S hK hW inX10 0 rfl rfl 6 (by decide) lk1 rfl dX10_laySafe_20 ?_
        refine lv_iload_n hx hb dX10_laySafe_23 rfl (lv_at hl 1 rfl) ?_
        obtain ⟨hin, v7, ev7, hf⟩ := sp_hld hf
        refine sp_iald S hK hW 4 rfl hin ev7 dX10_laySafe_24 ?_
        refine lv_iconst (v := 1) hx hb dX10_laySafe_25 (by decide) ?_
        refine lv_isub hx hb dX10_laySafe_26 ?_
        obtain ⟨k9, ek9, hf⟩ := sp_hb hf
        have hj9 : ∀ (x8 : Int32) (H : Heap) (locs : List Loc) (ls : Array Slot), k9 x8 = some sf' → sp_wd D A s.heap (sw_M a q5 fa tr la sl ce pn mn cl le ri lt nm nc nl nr nt at9 en9 de mm ma ne us lk sd c4 nu gt gl tb sc su) H locs → lv_has ls 6 [(0, .ref (a 0)), (1, .int p1), (2, .int p2), (3, .int y3)] → W p l e rmX10_laySafe s m args below meth c H locs 0 0 Q (F0 m 47 ls [.int x8, .int y3, .ref (a 19)]) := by
          intro x8 H locs ls hf hW hl
          rw [ek9] at hf
          obtain ⟨hin, c10, ec10, hf⟩ := sp_hst hf
          refine sp_iast S hK hW 19 rfl hin ec10 (ws' := sw_M a q5 fa tr la sl ce pn mn cl le ri lt nm nc nl nr nt at9 en9 de mm ma ne us lk sd c10 nu gt gl tb sc su) rfl dX10_laySafe_47 (fun H locs hW => ?_)
          refine lv_iload_n hx hb dX10_laySafe_48 rfl (lv_at hl 3 rfl) ?_
          refine lv_iconst (v := 1) hx hb dX10_laySafe_49 (by decide) ?_
          refine lv_iadd hx hb dX10_laySafe_50 ?_
          obtain ⟨v11, ev11, hf⟩ := sp_hb hf
          refine sp_topi ev11 ?_
          refine lv_istore (lv' := [(4, .int v11), (0, .ref (a 0)), (1, .int p1), (2, .int p2), (3, .int y3)]) hx hb dX10_laySafe_51 hl (by decide) rfl (fun ls hl => ?_)
          obtain ⟨k15, ek15, hf⟩ := sp_hb hf
          have hj15 : ∀ (c14 : Nat → Int32) (H : Heap) (locs : List Loc) (ls : Array Slot), k15 c14 = some sf' → sp_wd D A s.heap (sw_M a q5 fa tr la sl ce pn mn cl le ri lt nm nc nl nr nt at9 en9 de mm ma ne us lk sd c14 nu gt gl tb sc su) H locs → lv_has ls 6 [(0, .ref (a 0)), (1, .int p1), (2, .int p2), (3, .int y3)] → W p l e rmX10_laySafe s m args below meth c H locs 0 0 Q (F0 m 174 ls []) := by
            intro c14 H locs ls hf hW hl
            rw [ek15] at hf
            refine lv_aload_n hx hb dX10_laySafe_174 rfl (lv_at hl 0 rfl) ?_
            refine sp_get S hK hW inX10 0 rfl rfl 25 (by decide) lk2 rfl dX10_laySafe_175 ?_
            refine lv_iload_n hx hb dX10_laySafe_178 rfl (lv_at hl 3 rfl) ?_
            refine lv_iload_n hx hb dX10_laySafe_179 rfl (lv_at hl 2 rfl) ?_
            refine lv_iload_n hx hb dX10_laySafe_180 rfl (lv_at hl 3 rfl) ?_
            refine lv_ishr hx hb dX10_laySafe_181 ?_
            refine lv_iconst (v := 1) hx hb dX10_laySafe_182 (by decide) ?_
            refine lv_iand hx hb dX10_laySafe_183 ?_
            obtain ⟨k17, ek17, hf⟩ := sp_hb hf
            have hj17 : ∀ (x16 : Int32) (H : Heap) (locs : List Loc) (ls : Array Slot), k17 x16 = some sf' → sp_wd D A s.heap (sw_M a q5 fa tr la sl ce pn mn cl le ri lt nm nc nl nr nt at9 en9 de mm ma ne us lk sd c14 nu gt gl tb sc su) H locs → lv_has ls 6 [(0, .ref (a 0)), (1, .int p1), (2, .int p2), (3, .int y3)] → W p l e rmX10_laySafe s m args below meth c H locs 0 0 Q (F0 m 199 ls [.int x16, .int y3, .ref (a 19)]) := by
              intro x16 H locs ls hf hW hl
              rw [ek17] at hf
              obtain ⟨hin, c18, ec18, hf⟩ := sp_hst hf
              refine sp_iast S hK hW 19 rfl hin ec18 (ws' := sw_M a q5 fa tr la sl ce pn mn cl le ri lt nm nc nl nr nt at9 en9 de mm ma ne us lk sd c18 nu gt gl tb sc su) rfl dX10_laySafe_199 (fun H locs hW => ?_)
              obtain ⟨v19, ev19, hf⟩ := sp_hb hf
              refine lv_iinc (v := v19) (lv' := [(3, .int v19), (0, .ref (a 0)), (1, .int p1), (2, .int p2)]) hx hb dX10_laySafe_200 hl (k := 3) rfl (by rw [ev19]; rfl) (by decide) rfl (fun ls hl => ?_)
              refine lv_goto (tgt := 9) hx hb dX10_laySafe_203 (by decide) ?_
              exact ih9 _ _ _ _ _ hf hW (lv_sub hl [1, 2, 3, 0] rfl)
            refine lv_if_ne (tgt := 193) hx hb dX10_laySafe_184 (by decide) (fun hc => ?_) (fun hc => ?_)
            · have hf := sp_hf hf hc
              refine lv_aload_n hx hb dX10_laySafe_193 rfl (lv_at hl 0 rfl) ?_
              refine sp_get S hK hW inX10 0 rfl rfl 25 (by decide) lk2 rfl dX10_laySafe_194 ?_
              refine lv_iload_n hx hb dX10_laySafe_197 rfl (lv_at hl 3 rfl) ?_
              obtain ⟨hin, v20, ev20, hf⟩ := sp_hld hf
              refine sp_iald S hK hW 19 rfl hin ev20 dX10_laySafe_198 ?_
              exact hj17 _ _ _ _ hf hW (lv_sub hl [0, 1, 2, 3] rfl)
            · have hf := sp_ht hf hc
              refine lv_sipush (v := 4095) hx hb dX10_laySafe_187 (by decide) ?_
              refine lv_goto (tgt := 199) hx hb dX10_laySafe_190 (by decide) ?_
              exact hj17 _ _ _ _ hf hW (lv_sub hl [0, 1, 2, 3] rfl)
          have hlp53 : ∀ (n9 : Nat) (y12 : Int32) (c13 : Nat → Int32) (H : Heap) (locs : List Loc) (ls : Array Slot), sp_lp (f_X10_laySafe_L53 mn p1 k15 y3 p2 le ri lt) n9 (y12, c13) = some sf' → sp_wd D A s.heap (sw_M a q5 fa tr la sl ce pn mn cl le ri lt nm nc nl nr nt at9 en9 de mm ma ne us lk sd c13 nu gt gl tb sc su) H locs → lv_has ls 6 [(0, .ref (a 0)), (1, .int p1), (2, .int p2), (3, .int y3), (4, .int y12)] → W p l e rmX10_laySafe s m args below meth c H locs 0 0 Q (F0 m 53 ls []) := by
            intro n9
            induction n9 with
            | zero =>
              intro y12 c13 H locs ls hf hW hl
              exact (sp_lp0 hf).elim
            | succ n9 ih53 =>
              intro y12 c13 H locs ls hf hW hl
              have hf := sp_lpS hf
              rw [f_X10_laySafe_L53_eq] at hf
              refine lv_iload hx hb dX10_laySafe_53 (lv_at hl 4 rfl) ?_
              refine lv_aload_n hx hb dX10_laySafe_55 rfl (lv_at hl 0 rfl) ?_
              refine sp_get S hK hW inX10 0 rfl rfl 6 (by decide) lk1 rfl dX10_laySafe_56 ?_
              refine lv_iload_n hx hb dX10_laySafe_59 rfl (lv_at hl 1 rfl) ?_
              obtain ⟨hin, v21, ev21, hf⟩ := sp_hld hf
              refine sp_iald S hK hW 4 rfl hin ev21 dX10_laySafe_60 ?_
              refine lv_icmp_ge (tgt := 174) hx hb dX10_laySafe_61 (by decide) (fun hc => ?_) (fun hc => ?_)
              · have hf := sp_ht hf hc
                exact hj15 _ _ _ _ hf hW (lv_sub hl [0, 1, 2, 3] rfl)
              · have hf := sp_hf hf hc
                refine lv_iload_n hx hb dX10_laySafe_64 rfl (lv_at hl 3 rfl) ?_
                refine lv_aload_n hx hb dX10_laySafe_65 rfl (lv_at hl 0 rfl) ?_
                refine sp_get S hK hW inX10 0 rfl rfl 6 (by decide) lk1 rfl dX10_laySafe_66 ?_
                refine lv_iload_n hx hb dX10_laySafe_69 rfl (lv_at hl 1 rfl) ?_
                obtain ⟨hin, v22, ev22, hf⟩ := sp_hld hf
                refine sp_iald S hK hW 4 rfl hin ev22 dX10_laySafe_70 ?_
                refine lv_iconst (v := 1) hx hb dX10_laySafe_71 (by decide) ?_
                refine lv_isub hx hb dX10_laySafe_72 ?_
                refine lv_icmp_ge (tgt := 174) hx hb dX10_laySafe_73 (by decide) (fun hc => ?_) (fun hc => ?_)
                · have hf := sp_ht hf hc
                  exact hj15 _ _ _ _ hf hW (lv_sub hl [0, 1, 2, 3] rfl)
                · have hf := sp_hf hf hc
                  refine lv_iload_n hx hb dX10_laySafe_76 rfl (lv_at hl 2 rfl) ?_
                  refine lv_iload hx hb dX10_laySafe_77 (lv_at hl 4 rfl) ?_
                  refine lv_ishr hx hb dX10_laySafe_79 ?_
                  refine lv_iconst (v := 1) hx hb dX10_laySafe_80 (by decide) ?_
                  refine lv_iand hx hb dX10_laySafe_81 ?_
                  obtain ⟨k24, ek24, hf⟩ := sp_hb hf
                  have hj24 : ∀ (c23 : Nat → Int32) (H : Heap) (locs : List Loc) (ls : Array Slot), k24 c23 = some sf' → sp_wd D A s.heap (sw_M a q5 fa tr la sl ce pn mn cl le ri lt nm nc nl nr nt at9 en9 de mm ma ne us lk sd c23 nu gt gl tb sc su) H locs → lv_has ls 6 [(0, .ref (a 0)), (1, .int p1), (2, .int p2), (3, .int y3), (4, .int y12)] → W p l e rmX10_laySafe s m args below meth c H locs 0 0 Q (F0 m 168 ls []) := by
                    intro c23 H locs ls hf hW hl
                    rw [ek24] at hf
                    obtain ⟨v25, ev25, hf⟩ := sp_hb hf
                    refine lv_iinc (v := v25) (lv' := [(4, .int v25), (0, .ref (a 0)), (1, .int p1), (2, .int p2), (3, .int y3)]) hx hb dX10_laySafe_168 hl (k := 4) rfl (by rw [ev25]; rfl) (by decide) rfl (fun ls hl => ?_)
                    refine lv_goto (tgt := 53) hx hb dX10_laySafe_171 (by decide) ?_
                    exact ih53 _ _ _ _ _ hf hW (lv_sub hl [1, 2, 3, 4, 0] rfl)
                  refine lv_if_eq (tgt := 168) hx hb dX10_laySafe_82 (by decide) (fun hc => ?_) (fun hc => ?_)
                  · have hf := sp_ht hf hc
                    exact hj24 _ _ _ _ hf hW (lv_sub hl [0, 1, 2, 3, 4] rfl)
                  · have hf := sp_hf hf hc
                    refine lv_aload_n hx hb dX10_laySafe_85 rfl (lv_at hl 0 rfl) ?_
                    refine lv_iload_n hx hb dX10_laySafe_86 rfl (lv_at hl 1 rfl) ?_
                    refine lv_iload hx hb dX10_laySafe_87 (lv_at hl 4 rfl) ?_
                    refine lv_iload_n hx hb dX10_laySafe_89 rfl (lv_at hl 3 rfl) ?_
                    obtain ⟨r26, hc26, hf⟩ := sp_hc hf
                    refine sp_callViP (rest := []) S hK hG hA hW (c_X10_isFrom a fa tr la sl ce pn mn cl le ri lt nm nc nl nr nt at9 en9 de mm ma ne us lk sd c13 nu gt gl tb sc su p1 y12 y3 hc26) (by decide) (cwV 3 S.2.2.2.2 gX10_laySafe_X10_isFrom rfl rfl rfl (by decide +kernel) (by decide)) 8 0 rfl rfl (sp_pn _) rfl (WS' := sw_M a q5 fa tr la sl ce pn mn cl le ri lt nm nc nl nr nt at9 en9 de mm ma ne us lk sd c13 nu gt gl tb sc su) (sp_pn' _) rfl hl.1 (Nat.le_of_ble_eq_true rfl) dX10_laySafe_90 ⟨Nat.zero_le _, Nat.zero_le _⟩ rfl (fun H locs hW => ?_)
                    refine lv_if_ne (tgt := 99) hx hb dX10_laySafe_93 (by decide) (fun hc => ?_) (fun hc => ?_)
                    · have hf := sp_hf hf hc
                      refine lv_aload_n hx hb dX10_laySafe_99 rfl (lv_at hl 0 rfl) ?_
                      refine sp_get S hK hW inX10 0 rfl rfl 8 (by decide) lk3 rfl dX10_laySafe_100 ?_
                      refine lv_bipush (v := 24) hx hb dX10_laySafe_103 (by decide) ?_
                      refine lv_iload_n hx hb dX10_laySafe_105 rfl (lv_at hl 1 rfl) ?_
                      refine lv_imul hx hb dX10_laySafe_106 ?_
                      refine lv_iload hx hb dX10_laySafe_107 (lv_at hl 4 rfl) ?_
                      refine lv_iadd hx hb dX10_laySafe_109 ?_
                      obtain ⟨hin, v27, ev27, hf⟩ := sp_hld hf
                      refine sp_iald S hK hW 6 rfl hin ev27 dX10_laySafe_110 ?_
                      refine lv_iload_n hx hb dX10_laySafe_111 rfl (lv_at hl 3 rfl) ?_
                      obtain ⟨k29, ek29, hf⟩ := sp_hb hf
                      have hj29 : ∀ (x28 : Int32) (H : Heap) (locs : List Loc) (ls : Array Slot), k29 x28 = some sf' → sp_wd D A s.heap (sw_M a q5 fa tr la sl ce pn mn cl le ri lt nm nc nl nr nt at9 en9 de mm ma ne us lk sd c13 nu gt gl tb sc su) H locs → lv_has ls 6 [(0, .ref (a 0)), (1, .int p1), (2, .int p2), (3, .int y3), (4, .int y12)] → W p l e rmX10_laySafe s m args below meth c H locs 0 0 Q (F0 m 147 ls [.int x28]) := by
                        intro x28 H locs ls hf hW hl
                        rw [ek29] at hf
                        refine lv_istore (lv' := [(5, .int x28), (0, .ref (a 0)), (1, .int p1), (2, .int p2), (3, .int y3), (4, .int y12)]) hx hb dX10_laySafe_147 hl (by decide) rfl (fun ls hl => ?_)
                        refine lv_aload_n hx hb dX10_laySafe_149 rfl (lv_at hl 1 rfl) ?_
                        refine sp_get S hK hW inX10 0 rfl rfl 25 (by decide) lk2 rfl dX10_laySafe_150 ?_
                        refine lv_iload_n hx hb dX10_laySafe_153 rfl (lv_at hl 4 rfl) ?_
                        refine lv_dup2_11 hx hb dX10_laySafe_154 rfl rfl ?_
                        obtain ⟨hin, v30, ev30, hf⟩ := sp_hld hf
                        refine sp_iald S hK hW 19 rfl hin ev30 dX10_laySafe_155 ?_
                        refine lv_aload_n hx hb dX10_laySafe_156 rfl (lv_at hl 1 rfl) ?_
                        refine sp_get S hK hW inX10 0 rfl rfl 25 (by decide) lk2 rfl dX10_laySafe_157 ?_
                        refine lv_iload hx hb dX10_laySafe_160 (lv_at hl 5 rfl) ?_
                        obtain ⟨hin, v31, ev31, hf⟩ := sp_hld hf
                        refine sp_iald S hK hW 19 rfl hin ev31 dX10_laySafe_162 ?_
                        refine lv_iload hx hb dX10_laySafe_163 (lv_at hl 0 rfl) ?_
                        refine lv_ior hx hb dX10_laySafe_165 ?_
                        refine lv_iand hx hb dX10_laySafe_166 ?_
                        obtain ⟨hin, c32, ec32, hf⟩ := sp_hst hf
                        refine sp_iast S hK hW 19 rfl hin ec32 (ws' := sw_M a q5 fa tr la sl ce pn mn cl le ri lt nm nc nl nr nt at9 en9 de mm ma ne us lk sd c32 nu gt gl tb sc su) rfl dX10_laySafe_167 (fun H locs hW => ?_)
                        exact hj24 _ _ _ _ hf hW (lv_sub hl [1, 2, 3, 4, 5] rfl)
                      refine lv_icmp_ne (tgt := 132) hx hb dX10_laySafe_112 (by decide) (fun hc => ?_) (fun hc => ?_)
                      · have hf := sp_hf hf hc
                        refine lv_bipush (v := 64) hx hb dX10_laySafe_132 (by decide) ?_
                        refine lv_aload_n hx hb dX10_laySafe_134 rfl (lv_at hl 0 rfl) ?_
                        refine sp_get S hK hW inX10 0 rfl rfl 10 (by decide) lk4 rfl dX10_laySafe_135 ?_
                        refine lv_bipush (v := 24) hx hb dX10_laySafe_138 (by decide) ?_
                        refine lv_iload_n hx hb dX10_laySafe_140 rfl (lv_at hl 1 rfl) ?_
                        refine lv_imul hx hb dX10_laySafe_141 ?_
                        refine lv_iload hx hb dX10_laySafe_142 (lv_at hl 4 rfl) ?_
                        refine lv_iadd hx hb dX10_laySafe_144 ?_
                        obtain ⟨hin, v33, ev33, hf⟩ := sp_hld hf
                        refine sp_iald S hK hW 8 rfl hin ev33 dX10_laySafe_145 ?_
                        refine lv_ishl hx hb dX10_laySafe_146 ?_
                        exact hj29 _ _ _ _ hf hW (lv_sub hl [0, 1, 2, 3, 4] rfl)
                      · have hf := sp_ht hf hc
                        refine lv_iconst (v := 1) hx hb dX10_laySafe_115 (by decide) ?_
                        refine lv_aload_n hx hb dX10_laySafe_116 rfl (lv_at hl 0 rfl) ?_
                        refine sp_get S hK hW inX10 0 rfl rfl 10 (by decide) lk4 rfl dX10_laySafe_117 ?_
                        refine lv_bipush (v := 24) hx hb dX10_laySafe_120 (by decide) ?_
                        refine lv_iload_n hx hb dX10_laySafe_122 rfl (lv_at hl 1 rfl) ?_
                        refine lv_imul hx hb dX10_laySafe_123 ?_
                        refine lv_iload hx hb dX10_laySafe_124 (lv_at hl 4 rfl) ?_
                        refine lv_iadd hx hb dX10_laySafe_126 ?_
                        obtain ⟨hin, v34, ev34, hf⟩ := sp_hld hf
                        refine sp_iald S hK hW 8 rfl hin ev34 dX10_laySafe_127 ?_
                        refine lv_ishl hx hb dX10_laySafe_128 ?_
                        refine lv_goto (tgt := 147) hx hb dX10_laySafe_129 (by decide) ?_
                        exact hj29 _ _ _ _ hf hW (lv_sub hl [0, 1, 2, 3, 4] rfl)
                    · have hf := sp_ht hf hc
                      refine lv_goto (tgt := 168) hx hb dX10_laySafe_96 (by decide) ?_
                      exact hj24 _ _ _ _ hf hW (lv_sub hl [0, 1, 2, 3, 4] rfl)
          exact hlp53 _ _ _ _ _ _ hf hW (lv_sub hl [1, 2, 3, 4, 0] rfl)
        refine lv_icmp_ne (tgt := 44) hx hb dX10_laySafe_27 (by decide) (fun hc => ?_) (fun hc => ?_)
        · have hf := sp_hf hf hc
          refine lv_sipush (v := 4095) hx hb dX10_laySafe_44 (by decide) ?_
          exact hj9 _ _ _ _ hf hW (lv_sub hl [0, 1, 2, 3] rfl)
        · have hf := sp_ht hf hc
          refine lv_aload_n hx hb dX10_laySafe_30 rfl (lv_at hl 0 rfl) ?_
          refine sp_get S hK hW inX10 0 rfl rfl 7 (by decide) lk5 rfl dX10_laySafe_31 ?_
          refine lv_bipush (v := 24) hx hb dX10_laySafe_34 (by decide) ?_
          refine lv_iload_n hx hb dX10_laySafe_36 rfl (lv_at hl 1 rfl) ?_
          refine lv_imul hx hb dX10_laySafe_37 ?_
          refine lv_iload_n hx hb dX10_laySafe_38 rfl (lv_at hl 3 rfl) ?_
          refine lv_iadd hx hb dX10_laySafe_39 ?_
          obtain ⟨hin, v35, ev35, hf⟩ := sp_hld hf
          refine sp_iald S hK hW 5 rfl hin ev35 dX10_laySafe_40 ?_
          refine lv_goto (tgt := 47) hx hb dX10_laySafe_41 (by decide) ?_
          exact hj9 _ _ _ _ hf hW (lv_sub hl [0, 1, 2, 3] rfl)
  exact hlp9 _ _ _ _ _ _ hf hW (lv_sub hl [1, 2, 3, 0] rfl)

def f_X10_safe (p1 : Int32) (p2 : Int32) (pn : Int32) (mn : Nat → Int32) (cl : Nat → Int32) (le : Nat → Int32) (ri : Nat → Int32) (lt : Nat → Int32) (sf : Nat → Int32) : Option (Int32 × (Nat → Int32)) := Option.bind (f_X10_isLine p1 p2 pn mn) (fun r1 => if r1 = 0 then (some ((-1 : Int32), sf)) else (Option.bind (f_X10_restsOf p1 mn le ri lt) (fun r2 => Option.bind (f_X10_laySafe p1 r2 mn cl le ri lt sf) (fun c3 => sp_ld c3 24 p2 (fun v4 => some (v4, c3))))))
def rmX10_safe : Room := { frames := 2, cells := 0, slots := 0, locals := 48 }
set_option maxRecDepth 4000 in
theorem c_X10_safe {l : Launch} {D : va_G} {q5 : Nat → ClassId} (a : Nat → Nat) (fa : Int32) (tr : Int32) (la : Nat → Int32) (sl : Nat → Int32) (ce : Nat → Int32) (pn : Int32) (mn : Nat → Int32) (cl : Nat → Int32) (le : Nat → Int32) (ri : Nat → Int32) (lt : Nat → Int32) (nm : Int32) (nc : Nat → Int32) (nl : Nat → Int32) (nr : Nat → Int32) (nt : Nat → Int32) (at9 : Int32) (en9 : Int32) (de : Nat → Int32) (mm : Int32) (ma : Nat → Int32) (ne : Nat → Int32) (us : Nat → Int32) (lk : Nat → Int32) (sd : Nat → Int32) (sf : Nat → Int32) (nu : Nat → Int32) (gt : Nat → Int64) (gl : Nat → Int32) (tb : Nat → Int64) (sc : Nat → Int32) (su : Nat → Int32) (p1 : Int32) (p2 : Int32) {r' : Int32} {sf' : Nat → Int32} (hf : f_X10_safe p1 p2 pn mn cl le ri lt sf = some (r', sf')) : sp_Ci l yX10_safe wsX10_safe rmX10_safe D q5 0 [.ref (a 0), .int p1, .int p2] (sw_M a q5 fa tr la sl ce pn mn cl le ri lt nm nc nl nr nt at9 en9 de mm ma ne us lk sd sf nu gt gl tb sc su) r' (sw_M a q5 fa tr la sl ce pn mn cl le ri lt nm nc nl nr nt at9 en9 de mm ma ne us lk sd sf' nu gt gl tb sc su) := by
  intro sz
  refine sp_of (cc := cX10_safe) (maxL := 3) (ret := some .int) (own := RX10) (Qc := sp_Qi D r' (sw_M a q5 fa tr la sl ce pn mn cl le ri lt nm nc nl nr nt at9 en9 de mm ma ne us lk sd sf' nu gt gl tb sc su)) (by decide) rfl rfl (Nat.le_of_ble_eq_true rfl) ?_
  intro p e s m args below meth c A ls Q hQ S hr hlk hK hG hA hW hl
  have hx := S.1
  have hb := S.2.1
  unfold f_X10_safe at hf
  have inX10 : ∀ w ∈ u_ws RX10 TX10 32, w ∈ wsX10_safe := (fun _ h => List.mem_cons_of_mem _ (List.mem_append_right _ h))
  have lk1 := S.2.2.2.2 (Cond.fieldLink RX10 64 "ShortProofsModel" "safes" "[I") (List.mem_of_getElem? (i := 1) rfl)
  refine lv_aload_n hx hb dX10_safe_0 rfl (lv_at hl 0 rfl) ?_
  refine lv_iload_n hx hb dX10_safe_1 rfl (lv_at hl 1 rfl) ?_
  refine lv_iload_n hx hb dX10_safe_2 rfl (lv_at hl 2 rfl) ?_
  obtain ⟨r1, hc1, hf⟩ := sp_hc hf
  refine sp_callViP (rest := []) S hK hG hA hW (c_X10_isLine a fa tr la sl ce pn mn cl le ri lt nm nc nl nr nt at9 en9 de mm ma ne us lk sd sf nu gt gl tb sc su p1 p2 hc1) (by decide) (cwV 2 S.2.2.2.2 gX10_safe_X10_isLine rfl rfl rfl (by decide +kernel) (by decide)) 8 0 rfl rfl (sp_pn _) rfl (WS' := sw_M a q5 fa tr la sl ce pn mn cl le ri lt nm nc nl nr nt at9 en9 de mm ma ne us lk sd sf nu gt gl tb sc su) (sp_pn' _) rfl hl.1 (Nat.le_of_ble_eq_true rfl) dX10_safe_3 ⟨Nat.zero_le _, Nat.zero_le _⟩ rfl (fun H locs hW => ?_)
  refine lv_if_ne (tgt := 11) hx hb dX10_safe_6 (by decide) (fun hc => ?_) (fun hc => ?_)
  · have hf := sp_hf hf hc
    refine lv_aload_n hx hb dX10_safe_11 rfl (lv_at hl 0 rfl) ?_
    refine lv_iload_n hx hb dX10_safe_12 rfl (lv_at hl 1 rfl) ?_
    refine lv_aload_n hx hb dX10_safe_13 rfl (lv_at hl 0 rfl) ?_
    refine lv_iload_n hx hb dX10_safe_14 rfl (lv_at hl 1 rfl) ?_
    obtain ⟨r2, hc2, hf⟩ := sp_hc hf
    refine sp_callViP (rest := [.int p1, .ref (a 0)]) S hK hG hA hW (c_X10_restsOf a fa tr la sl ce pn mn cl le ri lt nm nc nl nr nt at9 en9 de mm ma ne us lk sd sf nu gt gl tb sc su p1 hc2) (by decide) (cwV 1 S.2.2.2.2 gX10_safe_X10_restsOf rfl rfl rfl (by decide +kernel) (by decide)) 8 0 rfl rfl (sp_pn _) rfl (WS' := sw_M a q5 fa tr la sl ce pn mn cl le ri lt nm nc nl nr nt at9 en9 de mm ma ne us lk sd sf nu gt gl tb sc su) (sp_pn' _) rfl hl.1 (Nat.le_of_ble_eq_true rfl) dX10_safe_15 ⟨Nat.zero_le _, Nat.zero_le _⟩ rfl (fun H locs hW => ?_)
    obtain ⟨c3, hc3, hf⟩ := sp_hc hf
    refine sp_callVvP (rest := []) S hK hG hA hW (c_X10_laySafe a fa tr la sl ce pn mn cl le ri lt nm nc nl nr nt at9 en9 de mm ma ne us lk sd sf nu gt gl tb sc su p1 r2 hc3) (by decide) (cwV 2 S.2.2.2.2 gX10_safe_X10_laySafe rfl rfl rfl (by decide +kernel) (by decide)) 8 0 rfl rfl (sp_pn _) rfl (WS' := sw_M a q5 fa tr la sl ce pn mn cl le ri lt nm nc nl nr nt at9 en9 de mm ma ne us lk sd c3 nu gt gl tb sc su) (sp_pn' _) rfl hl.1 (Nat.le_of_ble_eq_true rfl) dX10_safe_18 ⟨Nat.zero_le _, Nat.zero_le _⟩ rfl (fun H locs hW => ?_)
    refine lv_aload_n hx hb dX10_safe_21 rfl (lv_at hl 0 rfl) ?_
    refine sp_get S hK hW inX10 0 rfl rfl 25 (by decide) lk1 rfl dX10_safe_22 ?_
    refine lv_iload_n hx hb dX10_safe_25 rfl (lv_at hl 2 rfl) ?_
    obtain ⟨hin, v4, ev4, hf⟩ := sp_hld hf
    refine sp_iald S hK hW 19 rfl hin ev4 dX10_safe_26 ?_
    have q0 := Option.some.inj hf
    obtain ⟨q1, z1⟩ := Prod.mk.inj q0
    subst q1
    subst z1
    exact sp_iret S hr hlk hW hQ dX10_safe_27
  · have hf := sp_ht hf hc
    refine lv_iconst (v := (-1)) hx hb dX10_safe_9 (by decide) ?_
    have q0 := Option.some.inj hf
    obtain ⟨q1, z1⟩ := Prod.mk.inj q0
    subst q1
    subst z1
    exact sp_iret S hr hlk hW hQ dX10_safe_10

def f_X10_isUnit_L48 (mn : Nat → Int32) (p1 : Int32) (k8 : Int32 → Option (Int32)) (p3 : Int32) (p2 : Int32) (le : Nat → Int32) (ri : Nat → Int32) (lt : Nat → Int32) (rec48 : (Int32 × Int32) → Option (Int32)) (s9 : Int32 × Int32) : Option (Int32) := match s9 with
  | (y5, y6) => sp_ld mn 12 p1 (fun v9 => if v9 ≤ y6 then (k8 y5) else (sp_bnd (fun (x10 : Int32) => sp_bnd (y5 + x10) (fun v12 => sp_bnd (y6 + (1 : Int32)) (fun v13 => rec48 (v12, v13)))) (fun k11 => if ((p3 >>> (y6 &&& 31)) &&& (1 : Int32)) = (1 : Int32) then (Option.bind (f_X10_isFrom p1 y6 p2 le ri lt) (fun r14 => if r14 = 0 then (k11 (0 : Int32)) else (k11 (1 : Int32)))) else (k11 (0 : Int32)))))
theorem f_X10_isUnit_L48_eq {rec48 : (Int32 × Int32) → Option (Int32)} {mn : Nat → Int32} {p1 : Int32} {k8 : Int32 → Option (Int32)} {p3 : Int32} {p2 : Int32} {le : Nat → Int32} {ri : Nat → Int32} {lt : Nat → Int32} {y5 : Int32} {y6 : Int32} : f_X10_isUnit_L48 mn p1 k8 p3 p2 le ri lt rec48 (y5, y6) = (sp_ld mn 12 p1 (fun v9 => if v9 ≤ y6 then (k8 y5) else (sp_bnd (fun (x10 : Int32) => sp_bnd (y5 + x10) (fun v12 => sp_bnd (y6 + (1 : Int32)) (fun v13 => rec48 (v12, v13)))) (fun k11 => if ((p3 >>> (y6 &&& 31)) &&& (1 : Int32)) = (1 : Int32) then (Option.bind (f_X10_isFrom p1 y6 p2 le ri lt) (fun r14 => if r14 = 0 then (k11 (0 : Int32)) else (k11 (1 : Int32)))) else (k11 (0 : Int32)))))) := rfl
def f_X10_isUnit (p1 : Int32) (p2 : Int32) (p3 : Int32) (mn : Nat → Int32) (cl : Nat → Int32) (le : Nat → Int32) (ri : Nat → Int32) (lt : Nat → Int32) : Option (Int32) := sp_ld cl 288 (((24 : Int32) * p1) + p2) (fun v1 => Option.bind (f_X10_bitsOf v1) (fun r2 => if r2 = (1 : Int32) then (sp_ld mn 12 p1 (fun v3 => if p2 = (v3 - (1 : Int32)) then (some (0 : Int32)) else (if ((p3 >>> (p2 &&& 31)) &&& (1 : Int32)) = 0 then (some (0 : Int32)) else (sp_bnd (p2 + (1 : Int32)) (fun v4 => sp_bnd (fun (x7 : Int32) => if x7 ≤ (1 : Int32) then (some (0 : Int32)) else (some (1 : Int32))) (fun k8 => sp_lp (f_X10_isUnit_L48 mn p1 k8 p3 p2 le ri lt) sp_F ((0 : Int32), v4))))))) else (some (0 : Int32))))
def rmX10_isUnit : Room := { frames := 1, cells := 0, slots := 0, locals := 23 }
set_option maxRecDepth 4000 in
theorem c_X10_isUnit {l : Launch} {D : va_G} {q5 : Nat → ClassId} (a : Nat → Nat) (fa : Int32) (tr : Int32) (la : Nat → Int32) (sl : Nat → Int32) (ce : Nat → Int32) (pn : Int32) (mn : Nat → Int32) (cl : Nat → Int32) (le : Nat → Int32) (ri : Nat → Int32) (lt : Nat → Int32) (nm : Int32) (nc : Nat → Int32) (nl : Nat → Int32) (nr : Nat → Int32) (nt : Nat → Int32) (at9 : Int32) (en9 : Int32) (de : Nat → Int32) (mm : Int32) (ma : Nat → Int32) (ne : Nat → Int32) (us : Nat → Int32) (lk : Nat → Int32) (sd : Nat → Int32) (sf : Nat → Int32) (nu : Nat → Int32) (gt : Nat → Int64) (gl : Nat → Int32) (tb : Nat → Int64) (sc : Nat → Int32) (su : Nat → Int32) (p1 : Int32) (p2 : Int32) (p3 : Int32) {r' : Int32} (hf : f_X10_isUnit p1 p2 p3 mn cl le ri lt = some r') : sp_Ci l yX10_isUnit wsX10_isUnit rmX10_isUnit D q5 0 [.ref (a 0), .int p1, .int p2, .int p3] (sw_M a q5 fa tr la sl ce pn mn cl le ri lt nm nc nl nr nt at9 en9 de mm ma ne us lk sd sf nu gt gl tb sc su) r' (sw_M a q5 fa tr la sl ce pn mn cl le ri lt nm nc nl nr nt at9 en9 de mm ma ne us lk sd sf nu gt gl tb sc su) := by
  intro sz
  refine sp_of (cc := cX10_isUnit) (maxL := 6) (ret := some .boolean) (own := RX10) (Qc := sp_Qi D r' (sw_M a q5 fa tr la sl ce pn mn cl le ri lt nm nc nl nr nt at9 en9 de mm ma ne us lk sd sf nu gt gl tb sc su)) (by decide) rfl rfl (Nat.le_of_ble_eq_true rfl) ?_
  intro p e s m args below meth c A ls Q hQ S hr hlk hK hG hA hW hl
  have hx := S.1
  have hb := S.2.1
  unfold f_X10_isUnit at hf
  have inX10 : ∀ w ∈ u_ws RX10 TX10 32, w ∈ wsX10_isUnit := (fun _ h => List.mem_cons_of_mem _ (List.mem_append_right _ h))
  have lk1 := S.2.2.2.2 (Cond.fieldLink RX10 22 "ShortProofsModel" "clauses" "[I") (List.mem_of_getElem? (i := 1) rfl)
  have lk2 := S.2.2.2.2 (Cond.fieldLink RX10 19 "ShortProofsModel" "many" "[I") (List.mem_of_getElem? (i := 2) rfl)
  refine lv_aload_n hx hb dX10_isUnit_0 rfl (lv_at hl 0 rfl) ?_
  refine sp_get S hK hW inX10 0 rfl rfl 7 (by decide) lk1 rfl dX10_isUnit_1 ?_
  refine lv_bipush (v := 24) hx hb dX10_isUnit_4 (by decide) ?_
  refine lv_iload_n hx hb dX10_isUnit_6 rfl (lv_at hl 1 rfl) ?_
  refine lv_imul hx hb dX10_isUnit_7 ?_
  refine lv_iload_n hx hb dX10_isUnit_8 rfl (lv_at hl 2 rfl) ?_
  refine lv_iadd hx hb dX10_isUnit_9 ?_
  obtain ⟨hin, v1, ev1, hf⟩ := sp_hld hf
  refine sp_iald S hK hW 5 rfl hin ev1 dX10_isUnit_10 ?_
  obtain ⟨r2, hc2, hf⟩ := sp_hc hf
  refine sp_callSi (rest := []) S hK hG hA hW (c_X10_bitsOf v1 hc2) (by decide) (va_cwS 1 S.2.2.2.2 gX10_isUnit_X10_bitsOf rfl rfl rfl (by decide +kernel) (by decide)) (isC := []) rfl rfl rfl (WS' := sw_M a q5 fa tr la sl ce pn mn cl le ri lt nm nc nl nr nt at9 en9 de mm ma ne us lk sd sf nu gt gl tb sc su) rfl rfl hl.1 (Nat.le_of_ble_eq_true rfl) dX10_isUnit_11 ⟨Nat.zero_le _, Nat.zero_le _⟩ rfl (fun H locs hW => ?_)
  refine lv_iconst (v := 1) hx hb dX10_isUnit_14 (by decide) ?_
  refine lv_icmp_ne (tgt := 38) hx hb dX10_isUnit_15 (by decide) (fun hc => ?_) (fun hc => ?_)
  · have hf := sp_hf hf hc
    refine lv_iconst (v := 0) hx hb dX10_isUnit_38 (by decide) ?_
    have q0 := Option.some.inj hf
    subst q0
    exact sp_zret S hr hlk hW rfl hQ dX10_isUnit_39
  · have hf := sp_ht hf hc
    refine lv_iload_n hx hb dX10_isUnit_18 rfl (lv_at hl 2 rfl) ?_
    refine lv_aload_n hx hb dX10_isUnit_19 rfl (lv_at hl 0 rfl) ?_
    refine sp_get S hK hW inX10 0 rfl rfl 6 (by decide) lk2 rfl dX10_isUnit_20 ?_
    refine lv_iload_n hx hb dX10_isUnit_23 rfl (lv_at hl 1 rfl) ?_
    obtain ⟨hin, v3, ev3, hf⟩ := sp_hld hf
    refine sp_iald S hK hW 4 rfl hin ev3 dX10_isUnit_24 ?_
    refine lv_iconst (v := 1) hx hb dX10_isUnit_25 (by decide) ?_
    refine lv_isub hx hb dX10_isUnit_26 ?_
    refine lv_icmp_eq (tgt := 38) hx hb dX10_isUnit_27 (by decide) (fun hc => ?_) (fun hc => ?_)
    · have hf := sp_ht hf hc
      refine lv_iconst (v := 0) hx hb dX10_isUnit_38 (by decide) ?_
      have q0 := Option.some.inj hf
      subst q0
      exact sp_zret S hr hlk hW rfl hQ dX10_isUnit_39
    · have hf := sp_hf hf hc
      refine lv_iload_n hx hb dX10_isUnit_30 rfl (lv_at hl 3 rfl) ?_
      refine lv_iload_n hx hb dX10_isUnit_31 rfl (lv_at hl 2 rfl) ?_
      refine lv_ishr hx hb dX10_isUnit_32 ?_
      refine lv_iconst (v := 1) hx hb dX10_isUnit_33 (by decide) ?_
      refine lv_iand hx hb dX10_isUnit_34 ?_
      refine lv_if_ne (tgt := 40) hx hb dX10_isUnit_35 (by decide) (fun hc => ?_) (fun hc => ?_)
      · have hf := sp_hf hf hc
        refine lv_iconst (v := 0) hx hb dX10_isUnit_40 (by decide) ?_
        refine lv_istore (lv' := [(4, .int (0 : Int32)), (0, .ref (a 0)), (1, .int p1), (2, .int p2), (3, .int p3)]) hx hb dX10_isUnit_41 hl (by decide) rfl (fun ls hl => ?_)
        refine lv_iload_n hx hb dX10_isUnit_43 rfl (lv_at hl 3 rfl) ?_
        refine lv_iconst (v := 1) hx hb dX10_isUnit_44 (by decide) ?_
        refine lv_iadd hx hb dX10_isUnit_45 ?_
        obtain ⟨v4, ev4, hf⟩ := sp_hb hf
        refine sp_topi ev4 ?_
        refine lv_istore (lv' := [(5, .int v4), (4, .int (0 : Int32)), (0, .ref (a 0)), (1, .int p1), (2, .int p2), (3, .int p3)]) hx hb dX10_isUnit_46 hl (by decide) rfl (fun ls hl => ?_)
        obtain ⟨k8, ek8, hf⟩ := sp_hb hf
        have hj8 : ∀ (x7 : Int32) (H : Heap) (locs : List Loc) (ls : Array Slot), k8 x7 = some r' → sp_wd D A s.heap (sw_M a q5 fa tr la sl ce pn mn cl le ri lt nm nc nl nr nt at9 en9 de mm ma ne us lk sd sf nu gt gl tb sc su) H locs → lv_has ls 6 [(4, .int x7)] → W p l e rmX10_isUnit s m args below meth c H locs 0 0 Q (F0 m 96 ls []) := by
          intro x7 H locs ls hf hW hl
          rw [ek8] at hf
          refine lv_iload hx hb dX10_isUnit_96 (lv_at hl 0 rfl) ?_
          refine lv_iconst (v := 1) hx hb dX10_isUnit_98 (by decide) ?_
          refine lv_icmp_le (tgt := 106) hx hb dX10_isUnit_99 (by decide) (fun hc => ?_) (fun hc => ?_)
          · have hf := sp_ht hf hc
            refine lv_iconst (v := 0) hx hb dX10_isUnit_106 (by decide) ?_
            have q0 := Option.some.inj hf
            subst q0
            exact sp_zret S hr hlk hW rfl hQ dX10_isUnit_107
          · have hf := sp_hf hf hc
            refine lv_iconst (v := 1) hx hb dX10_isUnit_102 (by decide) ?_
            refine lv_goto (tgt := 107) hx hb dX10_isUnit_103 (by decide) ?_
            have q0 := Option.some.inj hf
            subst q0
            exact sp_zret S hr hlk hW rfl hQ dX10_isUnit_107
        have hlp48 : ∀ (n9 : Nat) (y5 : Int32) (y6 : Int32) (H : Heap) (locs : List Loc) (ls : Array Slot), sp_lp (f_X10_isUnit_L48 mn p1 k8 p3 p2 le ri lt) n9 (y5, y6) = some r' → sp_wd D A s.heap (sw_M a q5 fa tr la sl ce pn mn cl le ri lt nm nc nl nr nt at9 en9 de mm ma ne us lk sd sf nu gt gl tb sc su) H locs → lv_has ls 6 [(0, .ref (a 0)), (1, .int p1), (2, .int p2), (3, .int p3), (4, .int y5), (5, .int y6)] → W p l e rmX10_isUnit s m args below meth c H locs 0 0 Q (F0 m 48 ls []) := by
          intro n9
          induction n9 with
          | zero =>
            intro y5 y6 H locs ls hf hW hl
            exact (sp_lp0 hf).elim
          | succ n9 ih48 =>
            intro y5 y6 H locs ls hf hW hl
            have hf := sp_lpS hf
            rw [f_X10_isUnit_L48_eq] at hf
            refine lv_iload hx hb dX10_isUnit_48 (lv_at hl 5 rfl) ?_
            refine lv_aload_n hx hb dX10_isUnit_50 rfl (lv_at hl 0 rfl) ?_
            refine sp_get S hK hW inX10 0 rfl rfl 6 (by decide) lk2 rfl dX10_isUnit_51 ?_
            refine lv_iload_n hx hb dX10_isUnit_54 rfl (lv_at hl 1 rfl) ?_
            obtain ⟨hin, v9, ev9, hf⟩ := sp_hld hf
            refine sp_iald S hK hW 4 rfl hin ev9 dX10_isUnit_55 ?_
            refine lv_icmp_ge (tgt := 96) hx hb dX10_isUnit_56 (by decide) (fun hc => ?_) (fun hc => ?_)
            · have hf := sp_ht hf hc
              exact hj8 _ _ _ _ hf hW (lv_sub hl [4] rfl)
            · have hf := sp_hf hf hc
              refine lv_iload hx hb dX10_isUnit_59 (lv_at hl 4 rfl) ?_
              refine lv_iload_n hx hb dX10_isUnit_61 rfl (lv_at hl 3 rfl) ?_
              refine lv_iload hx hb dX10_isUnit_62 (lv_at hl 5 rfl) ?_
              refine lv_ishr hx hb dX10_isUnit_64 ?_
              refine lv_iconst (v := 1) hx hb dX10_isUnit_65 (by decide) ?_
              refine lv_iand hx hb dX10_isUnit_66 ?_
              refine lv_iconst (v := 1) hx hb dX10_isUnit_67 (by decide) ?_
              obtain ⟨k11, ek11, hf⟩ := sp_hb hf
              have hj11 : ∀ (x10 : Int32) (H : Heap) (locs : List Loc) (ls : Array Slot), k11 x10 = some r' → sp_wd D A s.heap (sw_M a q5 fa tr la sl ce pn mn cl le ri lt nm nc nl nr nt at9 en9 de mm ma ne us lk sd sf nu gt gl tb sc su) H locs → lv_has ls 6 [(0, .ref (a 0)), (1, .int p1), (2, .int p2), (3, .int p3), (5, .int y6)] → W p l e rmX10_isUnit s m args below meth c H locs 0 0 Q (F0 m 87 ls [.int x10, .int y5]) := by
                intro x10 H locs ls hf hW hl
                rw [ek11] at hf
                refine lv_iadd hx hb dX10_isUnit_87 ?_
                obtain ⟨v12, ev12, hf⟩ := sp_hb hf
                refine sp_topi ev12 ?_
                refine lv_istore (lv' := [(4, .int v12), (0, .ref (a 0)), (1, .int p1), (2, .int p2), (3, .int p3), (5, .int y6)]) hx hb dX10_isUnit_88 hl (by decide) rfl (fun ls hl => ?_)
                obtain ⟨v13, ev13, hf⟩ := sp_hb hf
                refine lv_iinc (v := v13) (lv' := [(5, .int v13), (4, .int v12), (0, .ref (a 0)), (1, .int p1), (2, .int p2), (3, .int p3)]) hx hb dX10_isUnit_90 hl (k := 5) rfl (by rw [ev13]; rfl) (by decide) rfl (fun ls hl => ?_)
                refine lv_goto (tgt := 48) hx hb dX10_isUnit_93 (by decide) ?_
                exact ih48 _ _ _ _ _ hf hW (lv_sub hl [2, 3, 4, 5, 1, 0] rfl)
              refine lv_icmp_ne (tgt := 86) hx hb dX10_isUnit_68 (by decide) (fun hc => ?_) (fun hc => ?_)
              · have hf := sp_hf hf hc
                refine lv_iconst (v := 0) hx hb dX10_isUnit_86 (by decide) ?_
                exact hj11 _ _ _ _ hf hW (lv_sub hl [0, 1, 2, 3, 5] rfl)
              · have hf := sp_ht hf hc
                refine lv_aload_n hx hb dX10_isUnit_71 rfl (lv_at hl 0 rfl) ?_
                refine lv_iload_n hx hb dX10_isUnit_72 rfl (lv_at hl 1 rfl) ?_
                refine lv_iload hx hb dX10_isUnit_73 (lv_at hl 5 rfl) ?_
                refine lv_iload_n hx hb dX10_isUnit_75 rfl (lv_at hl 2 rfl) ?_
                obtain ⟨r14, hc14, hf⟩ := sp_hc hf
                refine sp_callViP (rest := [.int y5]) S hK hG hA hW (c_X10_isFrom a fa tr la sl ce pn mn cl le ri lt nm nc nl nr nt at9 en9 de mm ma ne us lk sd sf nu gt gl tb sc su p1 y6 p2 hc14) (by decide) (cwV 3 S.2.2.2.2 gX10_isUnit_X10_isFrom rfl rfl rfl (by decide +kernel) (by decide)) 8 0 rfl rfl (sp_pn _) rfl (WS' := sw_M a q5 fa tr la sl ce pn mn cl le ri lt nm nc nl nr nt at9 en9 de mm ma ne us lk sd sf nu gt gl tb sc su) (sp_pn' _) rfl hl.1 (Nat.le_of_ble_eq_true rfl) dX10_isUnit_76 ⟨Nat.zero_le _, Nat.zero_le _⟩ rfl (fun H locs hW => ?_)
                refine lv_if_eq (tgt := 86) hx hb dX10_isUnit_79 (by decide) (fun hc => ?_) (fun hc => ?_)
                · have hf := sp_ht hf hc
                  refine lv_iconst (v := 0) hx hb dX10_isUnit_86 (by decide) ?_
                  exact hj11 _ _ _ _ hf hW (lv_sub hl [0, 1, 2, 3, 5] rfl)
                · have hf := sp_hf hf hc
                  refine lv_iconst (v := 1) hx hb dX10_isUnit_82 (by decide) ?_
                  refine lv_goto (tgt := 87) hx hb dX10_isUnit_83 (by decide) ?_
                  exact hj11 _ _ _ _ hf hW (lv_sub hl [0, 1, 2, 3, 5] rfl)
        exact hlp48 _ _ _ _ _ _ hf hW (lv_sub hl [2, 3, 4, 5, 1, 0] rfl)
      · have hf := sp_ht hf hc
        refine lv_iconst (v := 0) hx hb dX10_isUnit_38 (by decide) ?_
        have q0 := Option.some.inj hf
        subst q0
        exact sp_zret S hr hlk hW rfl hQ dX10_isUnit_39

def f_X10_likeOf_L2 (nm : Int32) (k2 : Option (Int32)) (p2 : Int32) (nc : Nat → Int32) (p1 : Int32) (rec2 : (Int32) → Option (Int32)) (s9 : Int32) : Option (Int32) := match s9 with
  | y1 => if nm ≤ y1 then k2 else (if p2 = (1 : Int32) then (sp_ld nc 64 y1 (fun v7 => if v7 = p1 then (some y1) else (sp_bnd (sp_bnd (y1 + (1 : Int32)) (fun v9 => rec2 v9)) (fun k8 => if p2 = (2 : Int32) then (sp_ld nc 64 y1 (fun v10 => Option.bind (f_X10_isStronger v10 p1) (fun r11 => if r11 = 0 then k8 else (some y1)))) else k8)))) else (sp_bnd (sp_bnd (y1 + (1 : Int32)) (fun v4 => rec2 v4)) (fun k3 => if p2 = (2 : Int32) then (sp_ld nc 64 y1 (fun v5 => Option.bind (f_X10_isStronger v5 p1) (fun r6 => if r6 = 0 then k3 else (some y1)))) else k3)))
theorem f_X10_likeOf_L2_eq {rec2 : (Int32) → Option (Int32)} {nm : Int32} {k2 : Option (Int32)} {p2 : Int32} {nc : Nat → Int32} {p1 : Int32} {y1 : Int32} : f_X10_likeOf_L2 nm k2 p2 nc p1 rec2 y1 = (if nm ≤ y1 then k2 else (if p2 = (1 : Int32) then (sp_ld nc 64 y1 (fun v7 => if v7 = p1 then (some y1) else (sp_bnd (sp_bnd (y1 + (1 : Int32)) (fun v9 => rec2 v9)) (fun k8 => if p2 = (2 : Int32) then (sp_ld nc 64 y1 (fun v10 => Option.bind (f_X10_isStronger v10 p1) (fun r11 => if r11 = 0 then k8 else (some y1)))) else k8)))) else (sp_bnd (sp_bnd (y1 + (1 : Int32)) (fun v4 => rec2 v4)) (fun k3 => if p2 = (2 : Int32) then (sp_ld nc 64 y1 (fun v5 => Option.bind (f_X10_isStronger v5 p1) (fun r6 => if r6 = 0 then k3 else (some y1)))) else k3)))) := rfl
def f_X10_likeOf (p1 : Int32) (p2 : Int32) (nm : Int32) (nc : Nat → Int32) : Option (Int32) := sp_bnd (some (-9 : Int32)) (fun k2 => sp_lp (f_X10_likeOf_L2 nm k2 p2 nc p1) sp_F (0 : Int32))
def rmX10_likeOf : Room := { frames := 1, cells := 0, slots := 0, locals := 21 }
set_option maxRecDepth 4000 in
theorem c_X10_likeOf {l : Launch} {D : va_G} {q5 : Nat → ClassId} (a : Nat → Nat) (fa : Int32) (tr : Int32) (la : Nat → Int32) (sl : Nat → Int32) (ce : Nat → Int32) (pn : Int32) (mn : Nat → Int32) (cl : Nat → Int32) (le : Nat → Int32) (ri : Nat → Int32) (lt : Nat → Int32) (nm : Int32) (nc : Nat → Int32) (nl : Nat → Int32) (nr : Nat → Int32) (nt : Nat → Int32) (at9 : Int32) (en9 : Int32) (de : Nat → Int32) (mm : Int32) (ma : Nat → Int32) (ne : Nat → Int32) (us : Nat → Int32) (lk : Nat → Int32) (sd : Nat → Int32) (sf : Nat → Int32) (nu : Nat → Int32) (gt : Nat → Int64) (gl : Nat → Int32) (tb : Nat → Int64) (sc : Nat → Int32) (su : Nat → Int32) (p1 : Int32) (p2 : Int32) {r' : Int32} (hf : f_X10_likeOf p1 p2 nm nc = some r') : sp_Ci l yX10_likeOf wsX10_likeOf rmX10_likeOf D q5 0 [.ref (a 0), .int p1, .int p2] (sw_M a q5 fa tr la sl ce pn mn cl le ri lt nm nc nl nr nt at9 en9 de mm ma ne us lk sd sf nu gt gl tb sc su) r' (sw_M a q5 fa tr la sl ce pn mn cl le ri lt nm nc nl nr nt at9 en9 de mm ma ne us lk sd sf nu gt gl tb sc su) := by
  intro sz
  refine sp_of (cc := cX10_likeOf) (maxL := 4) (ret := some .int) (own := RX10) (Qc := sp_Qi D r' (sw_M a q5 fa tr la sl ce pn mn cl le ri lt nm nc nl nr nt at9 en9 de mm ma ne us lk sd sf nu gt gl tb sc su)) (by decide) rfl rfl (Nat.le_of_ble_eq_true rfl) ?_
  intro p e s m args below meth c A ls Q hQ S hr hlk hK hG hA hW hl
  have hx := S.1
  have hb := S.2.1
  unfold f_X10_likeOf at hf
  have inX10 : ∀ w ∈ u_ws RX10 TX10 32, w ∈ wsX10_likeOf := (fun _ h => List.mem_cons_of_mem _ (List.mem_append_right _ h))
  have lk1 := S.2.2.2.2 (Cond.fieldLink RX10 114 "ShortProofsModel" "newMany" "I") (List.mem_of_getElem? (i := 1) rfl)
  have lk2 := S.2.2.2.2 (Cond.fieldLink RX10 34 "ShortProofsModel" "newClause" "[I") (List.mem_of_getElem? (i := 2) rfl)
  refine lv_iconst (v := 0) hx hb dX10_likeOf_0 (by decide) ?_
  refine lv_istore_n (lv' := [(3, .int (0 : Int32)), (0, .ref (a 0)), (1, .int p1), (2, .int p2)]) hx hb dX10_likeOf_1 rfl hl (by decide) rfl (fun ls hl => ?_)
  obtain ⟨k2, ek2, hf⟩ := sp_hb hf
  have hj2 : ∀ (H : Heap) (locs : List Loc) (ls : Array Slot), k2 = some r' → sp_wd D A s.heap (sw_M a q5 fa tr la sl ce pn mn cl le ri lt nm nc nl nr nt at9 en9 de mm ma ne us lk sd sf nu gt gl tb sc su) H locs → lv_has ls 4 [] → W p l e rmX10_likeOf s m args below meth c H locs 0 0 Q (F0 m 51 ls []) := by
    intro H locs ls hf hW hl
    rw [ek2] at hf
    refine lv_bipush (v := (-9)) hx hb dX10_likeOf_51 (by decide) ?_
    have q0 := Option.some.inj hf
    subst q0
    exact sp_iret S hr hlk hW hQ dX10_likeOf_53
  have hlp2 : ∀ (n9 : Nat) (y1 : Int32) (H : Heap) (locs : List Loc) (ls : Array Slot), sp_lp (f_X10_likeOf_L2 nm k2 p2 nc p1) n9 y1 = some r' → sp_wd D A s.heap (sw_M a q5 fa tr la sl ce pn mn cl le ri lt nm nc nl nr nt at9 en9 de mm ma ne us lk sd sf nu gt gl tb sc su) H locs → lv_has ls 4 [(0, .ref (a 0)), (1, .int p1), (2, .int p2), (3, .int y1)] → W p l e rmX10_likeOf s m args below meth c H locs 0 0 Q (F0 m 2 ls []) := by
    intro n9
    induction n9 with
    | zero =>
      intro y1 H locs ls hf hW hl
      exact (sp_lp0 hf).elim
    | succ n9 ih2 =>
      intro y1 H locs ls hf hW hl
      have hf := sp_lpS hf
      rw [f_X10_likeOf_L2_eq] at hf
      refine lv_iload_n hx hb dX10_likeOf_2 rfl (lv_at hl 3 rfl) ?_
      refine lv_aload_n hx hb dX10_likeOf_3 rfl (lv_at hl 0 rfl) ?_
      refine sp_get S hK hW inX10 0 rfl rfl 11 (by decide) lk1 rfl dX10_likeOf_4 ?_
      refine lv_icmp_ge (tgt := 51) hx hb dX10_likeOf_7 (by decide) (fun hc => ?_) (fun hc => ?_)
      · have hf := sp_ht hf hc
        exact hj2 _ _ _ hf hW (lv_sub hl [] rfl)
      · have hf := sp_hf hf hc
        refine lv_iload_n hx hb dX10_likeOf_10 rfl (lv_at hl 2 rfl) ?_
        refine lv_iconst (v := 1) hx hb dX10_likeOf_11 (by decide) ?_
        refine lv_icmp_ne (tgt := 25) hx hb dX10_likeOf_12 (by decide) (fun hc => ?_) (fun hc => ?_)
        · have hf := sp_hf hf hc
          refine lv_iload_n hx hb dX10_likeOf_25 rfl (lv_at hl 2 rfl) ?_
          refine lv_iconst (v := 2) hx hb dX10_likeOf_26 (by decide) ?_
          obtain ⟨k3, ek3, hf⟩ := sp_hb hf
          have hj3 : ∀ (H : Heap) (locs : List Loc) (ls : Array Slot), k3 = some r' → sp_wd D A s.heap (sw_M a q5 fa tr la sl ce pn mn cl le ri lt nm nc nl nr nt at9 en9 de mm ma ne us lk sd sf nu gt gl tb sc su) H locs → lv_has ls 4 [(0, .ref (a 0)), (1, .int p1), (2, .int p2), (3, .int y1)] → W p l e rmX10_likeOf s m args below meth c H locs 0 0 Q (F0 m 45 ls []) := by
            intro H locs ls hf hW hl
            rw [ek3] at hf
            obtain ⟨v4, ev4, hf⟩ := sp_hb hf
            refine lv_iinc (v := v4) (lv' := [(3, .int v4), (0, .ref (a 0)), (1, .int p1), (2, .int p2)]) hx hb dX10_likeOf_45 hl (k := 3) rfl (by rw [ev4]; rfl) (by decide) rfl (fun ls hl => ?_)
            refine lv_goto (tgt := 2) hx hb dX10_likeOf_48 (by decide) ?_
            exact ih2 _ _ _ _ hf hW (lv_sub hl [1, 2, 3, 0] rfl)
          refine lv_icmp_ne (tgt := 45) hx hb dX10_likeOf_27 (by decide) (fun hc => ?_) (fun hc => ?_)
          · have hf := sp_hf hf hc
            exact hj3 _ _ _ hf hW (lv_sub hl [0, 1, 2, 3] rfl)
          · have hf := sp_ht hf hc
            refine lv_aload_n hx hb dX10_likeOf_30 rfl (lv_at hl 0 rfl) ?_
            refine sp_get S hK hW inX10 0 rfl rfl 12 (by decide) lk2 rfl dX10_likeOf_31 ?_
            refine lv_iload_n hx hb dX10_likeOf_34 rfl (lv_at hl 3 rfl) ?_
            obtain ⟨hin, v5, ev5, hf⟩ := sp_hld hf
            refine sp_iald S hK hW 9 rfl hin ev5 dX10_likeOf_35 ?_
            refine lv_iload_n hx hb dX10_likeOf_36 rfl (lv_at hl 1 rfl) ?_
            obtain ⟨r6, hc6, hf⟩ := sp_hc hf
            refine sp_callSi (rest := []) S hK hG hA hW (c_X10_isStronger v5 p1 hc6) (by decide) (va_cwS 2 S.2.2.2.2 gX10_likeOf_X10_isStronger rfl rfl rfl (by decide +kernel) (by decide)) (isC := []) rfl rfl rfl (WS' := sw_M a q5 fa tr la sl ce pn mn cl le ri lt nm nc nl nr nt at9 en9 de mm ma ne us lk sd sf nu gt gl tb sc su) rfl rfl hl.1 (Nat.le_of_ble_eq_true rfl) dX10_likeOf_37 ⟨Nat.zero_le _, Nat.zero_le _⟩ rfl (fun H locs hW => ?_)
            refine lv_if_eq (tgt := 45) hx hb dX10_likeOf_40 (by decide) (fun hc => ?_) (fun hc => ?_)
            · have hf := sp_ht hf hc
              exact hj3 _ _ _ hf hW (lv_sub hl [0, 1, 2, 3] rfl)
            · have hf := sp_hf hf hc
              refine lv_iload_n hx hb dX10_likeOf_43 rfl (lv_at hl 3 rfl) ?_
              have q0 := Option.some.inj hf
              subst q0
              exact sp_iret S hr hlk hW hQ dX10_likeOf_44
        · have hf := sp_ht hf hc
          refine lv_aload_n hx hb dX10_likeOf_15 rfl (lv_at hl 0 rfl) ?_
          refine sp_get S hK hW inX10 0 rfl rfl 12 (by decide) lk2 rfl dX10_likeOf_16 ?_
          refine lv_iload_n hx hb dX10_likeOf_19 rfl (lv_at hl 3 rfl) ?_
          obtain ⟨hin, v7, ev7, hf⟩ := sp_hld hf
          refine sp_iald S hK hW 9 rfl hin ev7 dX10_likeOf_20 ?_
          refine lv_iload_n hx hb dX10_likeOf_21 rfl (lv_at hl 1 rfl) ?_
          refine lv_icmp_eq (tgt := 43) hx hb dX10_likeOf_22 (by decide) (fun hc => ?_) (fun hc => ?_)
          · have hf := sp_ht hf hc
            refine lv_iload_n hx hb dX10_likeOf_43 rfl (lv_at hl 3 rfl) ?_
            have q0 := Option.some.inj hf
            subst q0
            exact sp_iret S hr hlk hW hQ dX10_likeOf_44
          · have hf := sp_hf hf hc
            refine lv_iload_n hx hb dX10_likeOf_25 rfl (lv_at hl 2 rfl) ?_
            refine lv_iconst (v := 2) hx hb dX10_likeOf_26 (by decide) ?_
            obtain ⟨k8, ek8, hf⟩ := sp_hb hf
            have hj8 : ∀ (H : Heap) (locs : List Loc) (ls : Array Slot), k8 = some r' → sp_wd D A s.heap (sw_M a q5 fa tr la sl ce pn mn cl le ri lt nm nc nl nr nt at9 en9 de mm ma ne us lk sd sf nu gt gl tb sc su) H locs → lv_has ls 4 [(0, .ref (a 0)), (1, .int p1), (2, .int p2), (3, .int y1)] → W p l e rmX10_likeOf s m args below meth c H locs 0 0 Q (F0 m 45 ls []) := by
              intro H locs ls hf hW hl
              rw [ek8] at hf
              obtain ⟨v9, ev9, hf⟩ := sp_hb hf
              refine lv_iinc (v := v9) (lv' := [(3, .int v9), (0, .ref (a 0)), (1, .int p1), (2, .int p2)]) hx hb dX10_likeOf_45 hl (k := 3) rfl (by rw [ev9]; rfl) (by decide) rfl (fun ls hl => ?_)
              refine lv_goto (tgt := 2) hx hb dX10_likeOf_48 (by decide) ?_
              exact ih2 _ _ _ _ hf hW (lv_sub hl [1, 2, 3, 0] rfl)
            refine lv_icmp_ne (tgt := 45) hx hb dX10_likeOf_27 (by decide) (fun hc => ?_) (fun hc => ?_)
            · have hf := sp_hf hf hc
              exact hj8 _ _ _ hf hW (lv_sub hl [0, 1, 2, 3] rfl)
            · have hf := sp_ht hf hc
              refine lv_aload_n hx hb dX10_likeOf_30 rfl (lv_at hl 0 rfl) ?_
              refine sp_get S hK hW inX10 0 rfl rfl 12 (by decide) lk2 rfl dX10_likeOf_31 ?_
              refine lv_iload_n hx hb dX10_likeOf_34 rfl (lv_at hl 3 rfl) ?_
              obtain ⟨hin, v10, ev10, hf⟩ := sp_hld hf
              refine sp_iald S hK hW 9 rfl hin ev10 dX10_likeOf_35 ?_
              refine lv_iload_n hx hb dX10_likeOf_36 rfl (lv_at hl 1 rfl) ?_
              obtain ⟨r11, hc11, hf⟩ := sp_hc hf
              refine sp_callSi (rest := []) S hK hG hA hW (c_X10_isStronger v10 p1 hc11) (by decide) (va_cwS 2 S.2.2.2.2 gX10_likeOf_X10_isStronger rfl rfl rfl (by decide +kernel) (by decide)) (isC := []) rfl rfl rfl (WS' := sw_M a q5 fa tr la sl ce pn mn cl le ri lt nm nc nl nr nt at9 en9 de mm ma ne us lk sd sf nu gt gl tb sc su) rfl rfl hl.1 (Nat.le_of_ble_eq_true rfl) dX10_likeOf_37 ⟨Nat.zero_le _, Nat.zero_le _⟩ rfl (fun H locs hW => ?_)
              refine lv_if_eq (tgt := 45) hx hb dX10_likeOf_40 (by decide) (fun hc => ?_) (fun hc => ?_)
              · have hf := sp_ht hf hc
                exact hj8 _ _ _ hf hW (lv_sub hl [0, 1, 2, 3] rfl)
              · have hf := sp_hf hf hc
                refine lv_iload_n hx hb dX10_likeOf_43 rfl (lv_at hl 3 rfl) ?_
                have q0 := Option.some.inj hf
                subst q0
                exact sp_iret S hr hlk hW hQ dX10_likeOf_44
  exact hlp2 _ _ _ _ _ hf hW (lv_sub hl [1, 2, 3, 0] rfl)

def f_X10_joined (p1 : Int32) (p2 : Int32) (p3 : Int32) (p4 : Int32) (p5 : Int32) (nm : Int32) (nc : Nat → Int32) (nl : Nat → Int32) (nr : Nat → Int32) (nt : Nat → Int32) : Option (Int32 × Int32 × (Nat → Int32) × (Nat → Int32) × (Nat → Int32) × (Nat → Int32)) := Option.bind (f_X10_likeOf p1 p5 nm nc) (fun r1 => if r1 = (-9 : Int32) then (Option.bind (f_X10_add p1 p2 p3 p4 nm nc nl nr nt) (fun q9 => match q9 with | (r2, c3, c4, c5, c6, c7) => some (r2, c3, c4, c5, c6, c7))) else (some (r1, nm, nc, nl, nr, nt)))
def rmX10_joined : Room := { frames := 2, cells := 0, slots := 0, locals := 44 }
set_option maxRecDepth 4000 in
theorem c_X10_joined {l : Launch} {D : va_G} {q5 : Nat → ClassId} (a : Nat → Nat) (fa : Int32) (tr : Int32) (la : Nat → Int32) (sl : Nat → Int32) (ce : Nat → Int32) (pn : Int32) (mn : Nat → Int32) (cl : Nat → Int32) (le : Nat → Int32) (ri : Nat → Int32) (lt : Nat → Int32) (nm : Int32) (nc : Nat → Int32) (nl : Nat → Int32) (nr : Nat → Int32) (nt : Nat → Int32) (at9 : Int32) (en9 : Int32) (de : Nat → Int32) (mm : Int32) (ma : Nat → Int32) (ne : Nat → Int32) (us : Nat → Int32) (lk : Nat → Int32) (sd : Nat → Int32) (sf : Nat → Int32) (nu : Nat → Int32) (gt : Nat → Int64) (gl : Nat → Int32) (tb : Nat → Int64) (sc : Nat → Int32) (su : Nat → Int32) (p1 : Int32) (p2 : Int32) (p3 : Int32) (p4 : Int32) (p5 : Int32) {r' : Int32} {nm' : Int32} {nc' : Nat → Int32} {nl' : Nat → Int32} {nr' : Nat → Int32} {nt' : Nat → Int32} (hf : f_X10_joined p1 p2 p3 p4 p5 nm nc nl nr nt = some (r', nm', nc', nl', nr', nt')) : sp_Ci l yX10_joined wsX10_joined rmX10_joined D q5 0 [.ref (a 0), .int p1, .int p2, .int p3, .int p4, .int p5] (sw_M a q5 fa tr la sl ce pn mn cl le ri lt nm nc nl nr nt at9 en9 de mm ma ne us lk sd sf nu gt gl tb sc su) r' (sw_M a q5 fa tr la sl ce pn mn cl le ri lt nm' nc' nl' nr' nt' at9 en9 de mm ma ne us lk sd sf nu gt gl tb sc su) := by
  intro sz
  refine sp_of (cc := cX10_joined) (maxL := 7) (ret := some .int) (own := RX10) (Qc := sp_Qi D r' (sw_M a q5 fa tr la sl ce pn mn cl le ri lt nm' nc' nl' nr' nt' at9 en9 de mm ma ne us lk sd sf nu gt gl tb sc su)) (by decide) rfl rfl (Nat.le_of_ble_eq_true rfl) ?_
  intro p e s m args below meth c A ls Q hQ S hr hlk hK hG hA hW hl
  have hx := S.1
  have hb := S.2.1
  unfold f_X10_joined at hf
  refine lv_aload_n hx hb dX10_joined_0 rfl (lv_at hl 0 rfl) ?_
  refine lv_iload_n hx hb dX10_joined_1 rfl (lv_at hl 1 rfl) ?_
  refine lv_iload hx hb dX10_joined_2 (lv_at hl 5 rfl) ?_
  obtain ⟨r1, hc1, hf⟩ := sp_hc hf
  refine sp_callViP (rest := []) S hK hG hA hW (c_X10_likeOf a fa tr la sl ce pn mn cl le ri lt nm nc nl nr nt at9 en9 de mm ma ne us lk sd sf nu gt gl tb sc su p1 p5 hc1) (by decide) (cwV 2 S.2.2.2.2 gX10_joined_X10_likeOf rfl rfl rfl (by decide +kernel) (by decide)) 8 0 rfl rfl (sp_pn _) rfl (WS' := sw_M a q5 fa tr la sl ce pn mn cl le ri lt nm nc nl nr nt at9 en9 de mm ma ne us lk sd sf nu gt gl tb sc su) (sp_pn' _) rfl hl.1 (Nat.le_of_ble_eq_true rfl) dX10_joined_4 ⟨Nat.zero_le _, Nat.zero_le _⟩ rfl (fun H locs hW => ?_)
  refine lv_istore (lv' := [(6, .int r1), (0, .ref (a 0)), (1, .int p1), (2, .int p2), (3, .int p3), (4, .int p4), (5, .int p5)]) hx hb dX10_joined_7 hl (by decide) rfl (fun ls hl => ?_)
  refine lv_iload hx hb dX10_joined_9 (lv_at hl 0 rfl) ?_
  refine lv_bipush (v := (-9)) hx hb dX10_joined_11 (by decide) ?_
  refine lv_icmp_ne (tgt := 28) hx hb dX10_joined_13 (by decide) (fun hc => ?_) (fun hc => ?_)
  · have hf := sp_hf hf hc
    refine lv_iload hx hb dX10_joined_28 (lv_at hl 0 rfl) ?_
    have q0 := Option.some.inj hf
    obtain ⟨q1, z1⟩ := Prod.mk.inj q0
    obtain ⟨q2, z2⟩ := Prod.mk.inj z1
    obtain ⟨q3, z3⟩ := Prod.mk.inj z2
    obtain ⟨q4, z4⟩ := Prod.mk.inj z3
    obtain ⟨q5, z5⟩ := Prod.mk.inj z4
    subst q1
    subst q2
    subst q3
    subst q4
    subst q5
    subst z5
    exact sp_iret S hr hlk hW hQ dX10_joined_30
  · have hf := sp_ht hf hc
    refine lv_aload_n hx hb dX10_joined_16 rfl (lv_at hl 1 rfl) ?_
    refine lv_iload_n hx hb dX10_joined_17 rfl (lv_at hl 2 rfl) ?_
    refine lv_iload_n hx hb dX10_joined_18 rfl (lv_at hl 3 rfl) ?_
    refine lv_iload_n hx hb dX10_joined_19 rfl (lv_at hl 4 rfl) ?_
    refine lv_iload hx hb dX10_joined_20 (lv_at hl 5 rfl) ?_
    obtain ⟨⟨r2, c3, c4, c5, c6, c7⟩, hc7, hf⟩ := sp_hc hf
    refine sp_callViP (rest := []) S hK hG hA hW (c_X10_add a fa tr la sl ce pn mn cl le ri lt nm nc nl nr nt at9 en9 de mm ma ne us lk sd sf nu gt gl tb sc su p1 p2 p3 p4 hc7) (by decide) (cwV 4 S.2.2.2.2 gX10_joined_X10_add rfl rfl rfl (by decide +kernel) (by decide)) 8 0 rfl rfl (sp_pn _) rfl (WS' := sw_M a q5 fa tr la sl ce pn mn cl le ri lt c3 c4 c5 c6 c7 at9 en9 de mm ma ne us lk sd sf nu gt gl tb sc su) (sp_pn' _) rfl hl.1 (Nat.le_of_ble_eq_true rfl) dX10_joined_22 ⟨Nat.zero_le _, Nat.zero_le _⟩ rfl (fun H locs hW => ?_)
    refine lv_goto (tgt := 30) hx hb dX10_joined_25 (by decide) ?_
    have q0 := Option.some.inj hf
    obtain ⟨q1, z1⟩ := Prod.mk.inj q0
    obtain ⟨q2, z2⟩ := Prod.mk.inj z1
    obtain ⟨q3, z3⟩ := Prod.mk.inj z2
    obtain ⟨q4, z4⟩ := Prod.mk.inj z3
    obtain ⟨q5, z5⟩ := Prod.mk.inj z4
    subst q1
    subst q2
    subst q3
    subst q4
    subst q5
    subst z5
    exact sp_iret S hr hlk hW hQ dX10_joined_30
