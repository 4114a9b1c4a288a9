def f_X10_readsLine_L7 (at9 : Int32) (k5 : Int32 → Int32 → Option (Int32 × Int32)) (ce : Nat → Int32) (en9 : Int32) (rec7 : (Int32 × Int32) → Option (Int32 × Int32)) (s9 : Int32 × Int32) : Option (Int32 × Int32) := match s9 with
  | (y1, c2) => if (at9 + (2 : Int32)) ≤ c2 then (k5 y1 c2) else (Option.bind (f_X10_codeAt ce c2 en9) (fun r7 => Option.bind (f_X10_within r7 (48 : Int32) (57 : Int32)) (fun r8 => if r8 = 0 then (k5 y1 c2) else (Option.bind (f_X10_codeAt ce c2 en9) (fun r9 => sp_bnd ((((10 : Int32) * y1) + r9) - (48 : Int32)) (fun v10 => sp_bnd (c2 + (1 : Int32)) (fun v11 => rec7 (v10, v11))))))))
theorem f_X10_readsLine_L7_eq {rec7 : (Int32 × Int32) → Option (Int32 × Int32)} {at9 : Int32} {k5 : Int32 → Int32 → Option (Int32 × Int32)} {ce : Nat → Int32} {en9 : Int32} {y1 : Int32} {c2 : Int32} : f_X10_readsLine_L7 at9 k5 ce en9 rec7 (y1, c2) = (if (at9 + (2 : Int32)) ≤ c2 then (k5 y1 c2) else (Option.bind (f_X10_codeAt ce c2 en9) (fun r7 => Option.bind (f_X10_within r7 (48 : Int32) (57 : Int32)) (fun r8 => if r8 = 0 then (k5 y1 c2) else (Option.bind (f_X10_codeAt ce c2 en9) (fun r9 => sp_bnd ((((10 : Int32) * y1) + r9) - (48 : Int32)) (fun v10 => sp_bnd (c2 + (1 : Int32)) (fun v11 => rec7 (v10, v11))))))))) := rfl
def f_X10_readsLine (ce : Nat → Int32) (nm : Int32) (at9 : Int32) (en9 : Int32) : Option (Int32 × Int32) := sp_bnd (fun (x3 : Int32) (c4 : Int32) => sp_bnd (some ((-1 : Int32), at9)) (fun k6 => if c4 = at9 then k6 else (if x3 < nm then (some (x3, c4)) else k6))) (fun k5 => sp_lp (f_X10_readsLine_L7 at9 k5 ce en9) sp_F ((0 : Int32), at9))
def rmX10_readsLine : Room := { frames := 1, cells := 0, slots := 0, locals := 22 }
set_option maxRecDepth 4000 in
theorem c_X10_readsLine {l : Launch} {D : va_G} {q5 : Nat → ClassId} (a : Nat → Nat) (fa : Int32) (tr : Int32) (la : Nat → Int32) (sl : Nat → Int32) (ce : Nat → Int32) (pn : Int32) (mn : Nat → Int32) (cl : Nat → Int32) (le : Nat → Int32) (ri : Nat → Int32) (lt : Nat → Int32) (nm : Int32) (nc : Nat → Int32) (nl : Nat → Int32) (nr : Nat → Int32) (nt : Nat → Int32) (at9 : Int32) (en9 : Int32) (de : Nat → Int32) (mm : Int32) (ma : Nat → Int32) (ne : Nat → Int32) (us : Nat → Int32) (lk : Nat → Int32) (sd : Nat → Int32) (sf : Nat → Int32) (nu : Nat → Int32) (gt : Nat → Int64) (gl : Nat → Int32) (tb : Nat → Int64) (sc : Nat → Int32) (su : Nat → Int32) {r' : Int32} {at9' : Int32} (hf : f_X10_readsLine ce nm at9 en9 = some (r', at9')) : sp_Ci l yX10_readsLine wsX10_readsLine rmX10_readsLine D q5 0 [.ref (a 0)] (sw_M a q5 fa tr la sl ce pn mn cl le ri lt nm nc nl nr nt at9 en9 de mm ma ne us lk sd sf nu gt gl tb sc su) r' (sw_M a q5 fa tr la sl ce pn mn cl le ri lt nm nc nl nr nt at9' en9 de mm ma ne us lk sd sf nu gt gl tb sc su) := by
  intro sz
  refine sp_of (cc := cX10_readsLine) (maxL := 3) (ret := some .int) (own := RX10) (Qc := sp_Qi D r' (sw_M a q5 fa tr la sl ce pn mn cl le ri lt nm nc nl nr nt at9' en9 de mm ma ne us lk sd sf nu gt gl tb sc su)) (by decide) rfl rfl (Nat.le_of_ble_eq_true rfl) ?_
  intro p e s m args below meth c A ls Q hQ S hr hlk hK hG hA hW hl
  have hx := S.1
  have hb := S.2.1
  unfold f_X10_readsLine at hf
  have inX10 : ∀ w ∈ u_ws RX10 TX10 32, w ∈ wsX10_readsLine := (fun _ h => List.mem_cons_of_mem _ (List.mem_append_right _ h))
  have lk1 := S.2.2.2.2 (Cond.fieldLink RX10 117 "ShortProofsModel" "at" "I") (List.mem_of_getElem? (i := 1) rfl)
  have lk2 := S.2.2.2.2 (Cond.fieldLink RX10 114 "ShortProofsModel" "newMany" "I") (List.mem_of_getElem? (i := 2) rfl)
  refine lv_aload_n hx hb dX10_readsLine_0 rfl (lv_at hl 0 rfl) ?_
  refine sp_get S hK hW inX10 0 rfl rfl 16 (by decide) lk1 rfl dX10_readsLine_1 ?_
  refine lv_istore_n (lv' := [(1, .int at9), (0, .ref (a 0))]) hx hb dX10_readsLine_4 rfl hl (by decide) rfl (fun ls hl => ?_)
  refine lv_iconst (v := 0) hx hb dX10_readsLine_5 (by decide) ?_
  refine lv_istore_n (lv' := [(2, .int (0 : Int32)), (1, .int at9), (0, .ref (a 0))]) hx hb dX10_readsLine_6 rfl hl (by decide) rfl (fun ls hl => ?_)
  obtain ⟨k5, ek5, hf⟩ := sp_hb hf
  have hj5 : ∀ (x3 : Int32) (c4 : Int32) (H : Heap) (locs : List Loc) (ls : Array Slot), k5 x3 c4 = some (r', at9') → sp_wd D A s.heap (sw_M a q5 fa tr la sl ce pn mn cl le ri lt nm nc nl nr nt c4 en9 de mm ma ne us lk sd sf nu gt gl tb sc su) H locs → lv_has ls 3 [(0, .ref (a 0)), (1, .int at9), (2, .int x3)] → W p l e rmX10_readsLine s m args below meth c H locs 0 0 Q (F0 m 57 ls []) := by
    intro x3 c4 H locs ls hf hW hl
    rw [ek5] at hf
    refine lv_aload_n hx hb dX10_readsLine_57 rfl (lv_at hl 0 rfl) ?_
    refine sp_get S hK hW inX10 0 rfl rfl 16 (by decide) lk1 rfl dX10_readsLine_58 ?_
    refine lv_iload_n hx hb dX10_readsLine_61 rfl (lv_at hl 1 rfl) ?_
    obtain ⟨k6, ek6, hf⟩ := sp_hb hf
    have hj6 : ∀ (H : Heap) (locs : List Loc) (ls : Array Slot), k6 = some (r', at9') → sp_wd D A s.heap (sw_M a q5 fa tr la sl ce pn mn cl le ri lt nm nc nl nr nt c4 en9 de mm ma ne us lk sd sf nu gt gl tb sc su) H locs → lv_has ls 3 [(0, .ref (a 0)), (1, .int at9)] → W p l e rmX10_readsLine s m args below meth c H locs 0 0 Q (F0 m 73 ls []) := by
      intro H locs ls hf hW hl
      rw [ek6] at hf
      refine lv_aload_n hx hb dX10_readsLine_73 rfl (lv_at hl 0 rfl) ?_
      refine lv_iload_n hx hb dX10_readsLine_74 rfl (lv_at hl 1 rfl) ?_
      refine sp_put S hK hW inX10 tyX10_ok nmX10 0 rfl rfl 16 (by decide) lk1 rfl rfl rfl (Nat.le_of_ble_eq_true rfl) (ws' := sw_M a q5 fa tr la sl ce pn mn cl le ri lt nm nc nl nr nt at9 en9 de mm ma ne us lk sd sf nu gt gl tb sc su) rfl dX10_readsLine_75 (fun H locs hW => ?_)
      refine lv_iconst (v := (-1)) hx hb dX10_readsLine_78 (by decide) ?_
      have q0 := Option.some.inj hf
      obtain ⟨q1, z1⟩ := Prod.mk.inj q0
      subst q1
      subst z1
      exact sp_iret S hr hlk hW hQ dX10_readsLine_79
    refine lv_icmp_eq (tgt := 73) hx hb dX10_readsLine_62 (by decide) (fun hc => ?_) (fun hc => ?_)
    · have hf := sp_ht hf hc
      exact hj6 _ _ _ hf hW (lv_sub hl [0, 1] rfl)
    · have hf := sp_hf hf hc
      refine lv_iload_n hx hb dX10_readsLine_65 rfl (lv_at hl 2 rfl) ?_
      refine lv_aload_n hx hb dX10_readsLine_66 rfl (lv_at hl 0 rfl) ?_
      refine sp_get S hK hW inX10 0 rfl rfl 11 (by decide) lk2 rfl dX10_readsLine_67 ?_
      refine lv_icmp_lt (tgt := 80) hx hb dX10_readsLine_70 (by decide) (fun hc => ?_) (fun hc => ?_)
      · have hf := sp_ht hf hc
        refine lv_iload_n hx hb dX10_readsLine_80 rfl (lv_at hl 2 rfl) ?_
        have q0 := Option.some.inj hf
        obtain ⟨q1, z1⟩ := Prod.mk.inj q0
        subst q1
        subst z1
        exact sp_iret S hr hlk hW hQ dX10_readsLine_81
      · have hf := sp_hf hf hc
        exact hj6 _ _ _ hf hW (lv_sub hl [0, 1] rfl)
  have hlp7 : ∀ (n9 : Nat) (y1 : Int32) (c2 : Int32) (H : Heap) (locs : List Loc) (ls : Array Slot), sp_lp (f_X10_readsLine_L7 at9 k5 ce en9) n9 (y1, c2) = some (r', at9') → sp_wd D A s.heap (sw_M a q5 fa tr la sl ce pn mn cl le ri lt nm nc nl nr nt c2 en9 de mm ma ne us lk sd sf nu gt gl tb sc su) H locs → lv_has ls 3 [(0, .ref (a 0)), (1, .int at9), (2, .int y1)] → W p l e rmX10_readsLine s m args below meth c H locs 0 0 Q (F0 m 7 ls []) := by
    intro n9
    induction n9 with
    | zero =>
      intro y1 c2 H locs ls hf hW hl
      exact (sp_lp0 hf).elim
    | succ n9 ih7 =>
      intro y1 c2 H locs ls hf hW hl
      have hf := sp_lpS hf
      rw [f_X10_readsLine_L7_eq] at hf
      refine lv_aload_n hx hb dX10_readsLine_7 rfl (lv_at hl 0 rfl) ?_
      refine sp_get S hK hW inX10 0 rfl rfl 16 (by decide) lk1 rfl dX10_readsLine_8 ?_
      refine lv_iload_n hx hb dX10_readsLine_11 rfl (lv_at hl 1 rfl) ?_
      refine lv_iconst (v := 2) hx hb dX10_readsLine_12 (by decide) ?_
      refine lv_iadd hx hb dX10_readsLine_13 ?_
      refine lv_icmp_ge (tgt := 57) hx hb dX10_readsLine_14 (by decide) (fun hc => ?_) (fun hc => ?_)
      · have hf := sp_ht hf hc
        exact hj5 _ _ _ _ _ hf hW (lv_sub hl [0, 1, 2] rfl)
      · have hf := sp_hf hf hc
        refine lv_aload_n hx hb dX10_readsLine_17 rfl (lv_at hl 0 rfl) ?_
        obtain ⟨r7, hc7, hf⟩ := sp_hc hf
        refine sp_callViP (rest := []) S hK hG hA hW (c_X10_codeAt a fa tr la sl ce pn mn cl le ri lt nm nc nl nr nt c2 en9 de mm ma ne us lk sd sf nu gt gl tb sc su hc7) (by decide) (cwV 0 S.2.2.2.2 gX10_readsLine_X10_codeAt rfl rfl rfl (by decide +kernel) (by decide)) 8 0 rfl rfl (sp_pn _) rfl (WS' := sw_M a q5 fa tr la sl ce pn mn cl le ri lt nm nc nl nr nt c2 en9 de mm ma ne us lk sd sf nu gt gl tb sc su) (sp_pn' _) rfl hl.1 (Nat.le_of_ble_eq_true rfl) dX10_readsLine_18 ⟨Nat.zero_le _, Nat.zero_le _⟩ rfl (fun H locs hW => ?_)
        refine lv_bipush (v := 48) hx hb dX10_readsLine_21 (by decide) ?_
        refine lv_bipush (v := 57) hx hb dX10_readsLine_23 (by decide) ?_
        obtain ⟨r8, hc8, hf⟩ := sp_hc hf
        refine sp_callSi (rest := []) S hK hG hA hW (c_X10_within r7 (48 : Int32) (57 : Int32) hc8) (by decide) (va_cwS 3 S.2.2.2.2 gX10_readsLine_X10_within rfl rfl rfl (by decide +kernel) (by decide)) (isC := []) rfl rfl rfl (WS' := sw_M a q5 fa tr la sl ce pn mn cl le ri lt nm nc nl nr nt c2 en9 de mm ma ne us lk sd sf nu gt gl tb sc su) rfl rfl hl.1 (Nat.le_of_ble_eq_true rfl) dX10_readsLine_25 ⟨Nat.zero_le _, Nat.zero_le _⟩ rfl (fun H locs hW => ?_)
        refine lv_if_eq (tgt := 57) hx hb dX10_readsLine_28 (by decide) (fun hc => ?_) (fun hc => ?_)
        · have hf := sp_ht hf hc
          exact hj5 _ _ _ _ _ hf hW (lv_sub hl [0, 1, 2] rfl)
        · have hf := sp_hf hf hc
          refine lv_bipush (v := 10) hx hb dX10_readsLine_31 (by decide) ?_
          refine lv_iload_n hx hb dX10_readsLine_33 rfl (lv_at hl 2 rfl) ?_
          refine lv_imul hx hb dX10_readsLine_34 ?_
          refine lv_aload_n hx hb dX10_readsLine_35 rfl (lv_at hl 0 rfl) ?_
          obtain ⟨r9, hc9, hf⟩ := sp_hc hf
          refine sp_callViP (rest := [.int ((10 : Int32) * y1)]) S hK hG hA hW (c_X10_codeAt a fa tr la sl ce pn mn cl le ri lt nm nc nl nr nt c2 en9 de mm ma ne us lk sd sf nu gt gl tb sc su hc9) (by decide) (cwV 0 S.2.2.2.2 gX10_readsLine_X10_codeAt rfl rfl rfl (by decide +kernel) (by decide)) 8 0 rfl rfl (sp_pn _) rfl (WS' := sw_M a q5 fa tr la sl ce pn mn cl le ri lt nm nc nl nr nt c2 en9 de mm ma ne us lk sd sf nu gt gl tb sc su) (sp_pn' _) rfl hl.1 (Nat.le_of_ble_eq_true rfl) dX10_readsLine_36 ⟨Nat.zero_le _, Nat.zero_le _⟩ rfl (fun H locs hW => ?_)
          refine lv_iadd hx hb dX10_readsLine_39 ?_
          refine lv_bipush (v := 48) hx hb dX10_readsLine_40 (by decide) ?_
          refine lv_isub hx hb dX10_readsLine_42 ?_
          obtain ⟨v10, ev10, hf⟩ := sp_hb hf
          refine sp_topi ev10 ?_
          refine lv_istore_n (lv' := [(2, .int v10), (0, .ref (a 0)), (1, .int at9)]) hx hb dX10_readsLine_43 rfl hl (by decide) rfl (fun ls hl => ?_)
          refine lv_aload_n hx hb dX10_readsLine_44 rfl (lv_at hl 1 rfl) ?_
          refine lv_dup hx hb dX10_readsLine_45 rfl ?_
          refine sp_get S hK hW inX10 0 rfl rfl 16 (by decide) lk1 rfl dX10_readsLine_46 ?_
          refine lv_iconst (v := 1) hx hb dX10_readsLine_49 (by decide) ?_
          refine lv_iadd hx hb dX10_readsLine_50 ?_
          obtain ⟨v11, ev11, hf⟩ := sp_hb hf
          refine sp_topi ev11 ?_
          refine sp_put S hK hW inX10 tyX10_ok nmX10 0 rfl rfl 16 (by decide) lk1 rfl rfl rfl (Nat.le_of_ble_eq_true rfl) (ws' := sw_M a q5 fa tr la sl ce pn mn cl le ri lt nm nc nl nr nt v11 en9 de mm ma ne us lk sd sf nu gt gl tb sc su) rfl dX10_readsLine_51 (fun H locs hW => ?_)
          refine lv_goto (tgt := 7) hx hb dX10_readsLine_54 (by decide) ?_
          exact ih7 _ _ _ _ _ hf hW (lv_sub hl [1, 2, 0] rfl)
  exact hlp7 _ _ _ _ _ _ hf hW (lv_sub hl [2, 1, 0] rfl)

def f_X10_readsCut (ce : Nat → Int32) (nm : Int32) (nc : Nat → Int32) (nl : Nat → Int32) (nr : Nat → Int32) (nt : Nat → Int32) (at9 : Int32) (en9 : Int32) : Option (Int32 × Int32 × (Nat → Int32) × (Nat → Int32) × (Nat → Int32) × (Nat → Int32) × Int32) := Option.bind (f_X10_readsLine ce nm at9 en9) (fun q9 => match q9 with | (r1, c2) => if r1 < 0 then (some ((0 : Int32), nm, nc, nl, nr, nt, c2)) else (Option.bind (f_X10_codeAt ce c2 en9) (fun r3 => if r3 = (44 : Int32) then (sp_bnd (c2 + (1 : Int32)) (fun v4 => Option.bind (f_X10_readsLine ce nm v4 en9) (fun q9 => match q9 with | (r5, c6) => if r5 < 0 then (some ((0 : Int32), nm, nc, nl, nr, nt, c6)) else (Option.bind (f_X10_codeAt ce c6 en9) (fun r7 => Option.bind (f_X10_within r7 (97 : Int32) (102 : Int32)) (fun r8 => if r8 = 0 then (some ((0 : Int32), nm, nc, nl, nr, nt, c6)) else (Option.bind (f_X10_codeAt ce c6 en9) (fun r9 => sp_bnd (r9 - (97 : Int32)) (fun v10 => sp_ld nc 64 r1 (fun v11 => sp_ld nc 64 r5 (fun v12 => Option.bind (f_X10_cutOf v11 v12 v10) (fun r13 => if r13 = (-9 : Int32) then (some ((0 : Int32), nm, nc, nl, nr, nt, c6)) else (sp_bnd (c6 + (1 : Int32)) (fun v14 => Option.bind (f_X10_add r13 r1 r5 v10 nm nc nl nr nt) (fun q9 => match q9 with | (r15, c16, c17, c18, c19, c20) => if r15 < 0 then (some ((0 : Int32), c16, c17, c18, c19, c20, v14)) else (some ((1 : Int32), c16, c17, c18, c19, c20, v14))))))))))))))))) else (some ((0 : Int32), nm, nc, nl, nr, nt, c2)))))
def rmX10_readsCut : Room := { frames := 3, cells := 0, slots := 0, locals := 67 }
set_option maxRecDepth 4000 in
theorem c_X10_readsCut {l : Launch} {D : va_G} {q5 : Nat → ClassId} (a : Nat → Nat) (fa : Int32) (tr : Int32) (la : Nat → Int32) (sl : Nat → Int32) (ce : Nat → Int32) (pn : Int32) (mn : Nat → Int32) (cl : Nat → Int32) (le : Nat → Int32) (ri : Nat → Int32) (lt : Nat → Int32) (nm : Int32) (nc : Nat → Int32) (nl : Nat → Int32) (nr : Nat → Int32) (nt : Nat → Int32) (at9 : Int32) (en9 : Int32) (de : Nat → Int32) (mm : Int32) (ma : Nat → Int32) (ne : Nat → Int32) (us : Nat → Int32) (lk : Nat → Int32) (sd : Nat → Int32) (sf : Nat → Int32) (nu : Nat → Int32) (gt : Nat → Int64) (gl : Nat → Int32) (tb : Nat → Int64) (sc : Nat → Int32) (su : Nat → Int32) {r' : Int32} {nm' : Int32} {nc' : Nat → Int32} {nl' : Nat → Int32} {nr' : Nat → Int32} {nt' : Nat → Int32} {at9' : Int32} (hf : f_X10_readsCut ce nm nc nl nr nt at9 en9 = some (r', nm', nc', nl', nr', nt', at9')) : sp_Ci l yX10_readsCut wsX10_readsCut rmX10_readsCut D q5 0 [.ref (a 0)] (sw_M a q5 fa tr la sl ce pn mn cl le ri lt nm nc nl nr nt at9 en9 de mm ma ne us lk sd sf nu gt gl tb sc su) r' (sw_M a q5 fa tr la sl ce pn mn cl le ri lt nm' nc' nl' nr' nt' at9' en9 de mm ma ne us lk sd sf nu gt gl tb sc su) := by
  intro sz
  refine sp_of (cc := cX10_readsCut) (maxL := 5) (ret := some .boolean) (own := RX10) (Qc := sp_Qi D r' (sw_M a q5 fa tr la sl ce pn mn cl le ri lt nm' nc' nl' nr' nt' at9' en9 de mm ma ne us lk sd sf nu gt gl tb sc su)) (by decide) rfl rfl (Nat.le_of_ble_eq_true rfl) ?_
  intro p e s m args below meth c A ls Q hQ S hr hlk hK hG hA hW hl
  have hx := S.1
  have hb := S.2.1
  unfold f_X10_readsCut at hf
  have inX10 : ∀ w ∈ u_ws RX10 TX10 32, w ∈ wsX10_readsCut := (fun _ h => List.mem_cons_of_mem _ (List.mem_append_right _ h))
  have lk1 := S.2.2.2.2 (Cond.fieldLink RX10 117 "ShortProofsModel" "at" "I") (List.mem_of_getElem? (i := 1) rfl)
  have lk2 := S.2.2.2.2 (Cond.fieldLink RX10 34 "ShortProofsModel" "newClause" "[I") (List.mem_of_getElem? (i := 2) rfl)
  refine lv_aload_n hx hb dX10_readsCut_0 rfl (lv_at hl 0 rfl) ?_
  obtain ⟨⟨r1, c2⟩, hc2, hf⟩ := sp_hc hf
  refine sp_callViP (rest := []) S hK hG hA hW (c_X10_readsLine a fa tr la sl ce pn mn cl le ri lt nm nc nl nr nt at9 en9 de mm ma ne us lk sd sf nu gt gl tb sc su hc2) (by decide) (cwV 0 S.2.2.2.2 gX10_readsCut_X10_readsLine rfl rfl rfl (by decide +kernel) (by decide)) 8 0 rfl rfl (sp_pn _) rfl (WS' := sw_M a q5 fa tr la sl ce pn mn cl le ri lt nm nc nl nr nt c2 en9 de mm ma ne us lk sd sf nu gt gl tb sc su) (sp_pn' _) rfl hl.1 (Nat.le_of_ble_eq_true rfl) dX10_readsCut_1 ⟨Nat.zero_le _, Nat.zero_le _⟩ rfl (fun H locs hW => ?_)
  refine lv_istore_n (lv' := [(1, .int r1), (0, .ref (a 0))]) hx hb dX10_readsCut_4 rfl hl (by decide) rfl (fun ls hl => ?_)
  refine lv_iload_n hx hb dX10_readsCut_5 rfl (lv_at hl 0 rfl) ?_
  refine lv_if_lt (tgt := 18) hx hb dX10_readsCut_6 (by decide) (fun hc => ?_) (fun hc => ?_)
  · have hf := sp_ht hf hc
    refine lv_iconst (v := 0) hx hb dX10_readsCut_18 (by decide) ?_
    have q0 := Option.some.inj hf
    obtain ⟨q1, z1⟩ := Prod.mk.inj q0
    obtain ⟨q2, z2⟩ := Prod.mk.inj z1
    obtain ⟨q3, z3⟩ := Prod.mk.inj z2
    obtain ⟨q4, z4⟩ := Prod.mk.inj z3
    obtain ⟨q5, z5⟩ := Prod.mk.inj z4
    obtain ⟨q6, z6⟩ := Prod.mk.inj z5
    subst q1
    subst q2
    subst q3
    subst q4
    subst q5
    subst q6
    subst z6
    exact sp_zret S hr hlk hW rfl hQ dX10_readsCut_19
  · have hf := sp_hf hf hc
    refine lv_aload_n hx hb dX10_readsCut_9 rfl (lv_at hl 1 rfl) ?_
    obtain ⟨r3, hc3, hf⟩ := sp_hc hf
    refine sp_callViP (rest := []) S hK hG hA hW (c_X10_codeAt a fa tr la sl ce pn mn cl le ri lt nm nc nl nr nt c2 en9 de mm ma ne us lk sd sf nu gt gl tb sc su hc3) (by decide) (cwV 0 S.2.2.2.2 gX10_readsCut_X10_codeAt rfl rfl rfl (by decide +kernel) (by decide)) 8 0 rfl rfl (sp_pn _) rfl (WS' := sw_M a q5 fa tr la sl ce pn mn cl le ri lt nm nc nl nr nt c2 en9 de mm ma ne us lk sd sf nu gt gl tb sc su) (sp_pn' _) rfl hl.1 (Nat.le_of_ble_eq_true rfl) dX10_readsCut_10 ⟨Nat.zero_le _, Nat.zero_le _⟩ rfl (fun H locs hW => ?_)
    refine lv_bipush (v := 44) hx hb dX10_readsCut_13 (by decide) ?_
    refine lv_icmp_eq (tgt := 20) hx hb dX10_readsCut_15 (by decide) (fun hc => ?_) (fun hc => ?_)
    · have hf := sp_ht hf hc
      refine lv_aload_n hx hb dX10_readsCut_20 rfl (lv_at hl 1 rfl) ?_
      refine lv_dup hx hb dX10_readsCut_21 rfl ?_
      refine sp_get S hK hW inX10 0 rfl rfl 16 (by decide) lk1 rfl dX10_readsCut_22 ?_
      refine lv_iconst (v := 1) hx hb dX10_readsCut_25 (by decide) ?_
      refine lv_iadd hx hb dX10_readsCut_26 ?_
      obtain ⟨v4, ev4, hf⟩ := sp_hb hf
      refine sp_topi ev4 ?_
      refine sp_put S hK hW inX10 tyX10_ok nmX10 0 rfl rfl 16 (by decide) lk1 rfl rfl rfl (Nat.le_of_ble_eq_true rfl) (ws' := sw_M a q5 fa tr la sl ce pn mn cl le ri lt nm nc nl nr nt v4 en9 de mm ma ne us lk sd sf nu gt gl tb sc su) rfl dX10_readsCut_27 (fun H locs hW => ?_)
      refine lv_aload_n hx hb dX10_readsCut_30 rfl (lv_at hl 1 rfl) ?_
      obtain ⟨⟨r5, c6⟩, hc6, hf⟩ := sp_hc hf
      refine sp_callViP (rest := []) S hK hG hA hW (c_X10_readsLine a fa tr la sl ce pn mn cl le ri lt nm nc nl nr nt v4 en9 de mm ma ne us lk sd sf nu gt gl tb sc su hc6) (by decide) (cwV 0 S.2.2.2.2 gX10_readsCut_X10_readsLine rfl rfl rfl (by decide +kernel) (by decide)) 8 0 rfl rfl (sp_pn _) rfl (WS' := sw_M a q5 fa tr la sl ce pn mn cl le ri lt nm nc nl nr nt c6 en9 de mm ma ne us lk sd sf nu gt gl tb sc su) (sp_pn' _) rfl hl.1 (Nat.le_of_ble_eq_true rfl) dX10_readsCut_31 ⟨Nat.zero_le _, Nat.zero_le _⟩ rfl (fun H locs hW => ?_)
      refine lv_istore_n (lv' := [(2, .int r5), (1, .int r1), (0, .ref (a 0))]) hx hb dX10_readsCut_34 rfl hl (by decide) rfl (fun ls hl => ?_)
      refine lv_iload_n hx hb dX10_readsCut_35 rfl (lv_at hl 0 rfl) ?_
      refine lv_if_lt (tgt := 53) hx hb dX10_readsCut_36 (by decide) (fun hc => ?_) (fun hc => ?_)
      · have hf := sp_ht hf hc
        refine lv_iconst (v := 0) hx hb dX10_readsCut_53 (by decide) ?_
        have q0 := Option.some.inj hf
        obtain ⟨q1, z1⟩ := Prod.mk.inj q0
        obtain ⟨q2, z2⟩ := Prod.mk.inj z1
        obtain ⟨q3, z3⟩ := Prod.mk.inj z2
        obtain ⟨q4, z4⟩ := Prod.mk.inj z3
        obtain ⟨q5, z5⟩ := Prod.mk.inj z4
        obtain ⟨q6, z6⟩ := Prod.mk.inj z5
        subst q1
        subst q2
        subst q3
        subst q4
        subst q5
        subst q6
        subst z6
        exact sp_zret S hr hlk hW rfl hQ dX10_readsCut_54
      · have hf := sp_hf hf hc
        refine lv_aload_n hx hb dX10_readsCut_39 rfl (lv_at hl 2 rfl) ?_
        obtain ⟨r7, hc7, hf⟩ := sp_hc hf
        refine sp_callViP (rest := []) S hK hG hA hW (c_X10_codeAt a fa tr la sl ce pn mn cl le ri lt nm nc nl nr nt c6 en9 de mm ma ne us lk sd sf nu gt gl tb sc su hc7) (by decide) (cwV 0 S.2.2.2.2 gX10_readsCut_X10_codeAt rfl rfl rfl (by decide +kernel) (by decide)) 8 0 rfl rfl (sp_pn _) rfl (WS' := sw_M a q5 fa tr la sl ce pn mn cl le ri lt nm nc nl nr nt c6 en9 de mm ma ne us lk sd sf nu gt gl tb sc su) (sp_pn' _) rfl hl.1 (Nat.le_of_ble_eq_true rfl) dX10_readsCut_40 ⟨Nat.zero_le _, Nat.zero_le _⟩ rfl (fun H locs hW => ?_)
        refine lv_bipush (v := 97) hx hb dX10_readsCut_43 (by decide) ?_
        refine lv_bipush (v := 102) hx hb dX10_readsCut_45 (by decide) ?_
        obtain ⟨r8, hc8, hf⟩ := sp_hc hf
        refine sp_callSi (rest := []) S hK hG hA hW (c_X10_within r7 (97 : Int32) (102 : Int32) hc8) (by decide) (va_cwS 3 S.2.2.2.2 gX10_readsCut_X10_within rfl rfl rfl (by decide +kernel) (by decide)) (isC := []) rfl rfl rfl (WS' := sw_M a q5 fa tr la sl ce pn mn cl le ri lt nm nc nl nr nt c6 en9 de mm ma ne us lk sd sf nu gt gl tb sc su) rfl rfl hl.1 (Nat.le_of_ble_eq_true rfl) dX10_readsCut_47 ⟨Nat.zero_le _, Nat.zero_le _⟩ rfl (fun H locs hW => ?_)
        refine lv_if_ne (tgt := 55) hx hb dX10_readsCut_50 (by decide) (fun hc => ?_) (fun hc => ?_)
        · have hf := sp_hf hf hc
          refine lv_aload_n hx hb dX10_readsCut_55 rfl (lv_at hl 2 rfl) ?_
          obtain ⟨r9, hc9, hf⟩ := sp_hc hf
          refine sp_callViP (rest := []) S hK hG hA hW (c_X10_codeAt a fa tr la sl ce pn mn cl le ri lt nm nc nl nr nt c6 en9 de mm ma ne us lk sd sf nu gt gl tb sc su hc9) (by decide) (cwV 0 S.2.2.2.2 gX10_readsCut_X10_codeAt rfl rfl rfl (by decide +kernel) (by decide)) 8 0 rfl rfl (sp_pn _) rfl (WS' := sw_M a q5 fa tr la sl ce pn mn cl le ri lt nm nc nl nr nt c6 en9 de mm ma ne us lk sd sf nu gt gl tb sc su) (sp_pn' _) rfl hl.1 (Nat.le_of_ble_eq_true rfl) dX10_readsCut_56 ⟨Nat.zero_le _, Nat.zero_le _⟩ rfl (fun H locs hW => ?_)
          refine lv_bipush (v := 97) hx hb dX10_readsCut_59 (by decide) ?_
          refine lv_isub hx hb dX10_readsCut_61 ?_
          obtain ⟨v10, ev10, hf⟩ := sp_hb hf
          refine sp_topi ev10 ?_
          refine lv_istore_n (lv' := [(3, .int v10), (2, .int r5), (1, .int r1), (0, .ref (a 0))]) hx hb dX10_readsCut_62 rfl hl (by decide) rfl (fun ls hl => ?_)
          refine lv_aload_n hx hb dX10_readsCut_63 rfl (lv_at hl 3 rfl) ?_
          refine sp_get S hK hW inX10 0 rfl rfl 12 (by decide) lk2 rfl dX10_readsCut_64 ?_
          refine lv_iload_n hx hb dX10_readsCut_67 rfl (lv_at hl 2 rfl) ?_
          obtain ⟨hin, v11, ev11, hf⟩ := sp_hld hf
          refine sp_iald S hK hW 9 rfl hin ev11 dX10_readsCut_68 ?_
          refine lv_aload_n hx hb dX10_readsCut_69 rfl (lv_at hl 3 rfl) ?_
          refine sp_get S hK hW inX10 0 rfl rfl 12 (by decide) lk2 rfl dX10_readsCut_70 ?_
          refine lv_iload_n hx hb dX10_readsCut_73 rfl (lv_at hl 1 rfl) ?_
          obtain ⟨hin, v12, ev12, hf⟩ := sp_hld hf
          refine sp_iald S hK hW 9 rfl hin ev12 dX10_readsCut_74 ?_
          refine lv_iload_n hx hb dX10_readsCut_75 rfl (lv_at hl 0 rfl) ?_
          obtain ⟨r13, hc13, hf⟩ := sp_hc hf
          refine sp_callSi (rest := []) S hK hG hA hW (c_X10_cutOf v11 v12 v10 hc13) (by decide) (va_cwS 3 S.2.2.2.2 gX10_readsCut_X10_cutOf rfl rfl rfl (by decide +kernel) (by decide)) (isC := []) rfl rfl rfl (WS' := sw_M a q5 fa tr la sl ce pn mn cl le ri lt nm nc nl nr nt c6 en9 de mm ma ne us lk sd sf nu gt gl tb sc su) rfl rfl hl.1 (Nat.le_of_ble_eq_true rfl) dX10_readsCut_76 ⟨Nat.zero_le _, Nat.zero_le _⟩ rfl (fun H locs hW => ?_)
          refine lv_istore (lv' := [(4, .int r13), (3, .int v10), (2, .int r5), (1, .int r1), (0, .ref (a 0))]) hx hb dX10_readsCut_79 hl (by decide) rfl (fun ls hl => ?_)
          refine lv_iload hx hb dX10_readsCut_81 (lv_at hl 0 rfl) ?_
          refine lv_bipush (v := (-9)) hx hb dX10_readsCut_83 (by decide) ?_
          refine lv_icmp_ne (tgt := 90) hx hb dX10_readsCut_85 (by decide) (fun hc => ?_) (fun hc => ?_)
          · have hf := sp_hf hf hc
            refine lv_aload_n hx hb dX10_readsCut_90 rfl (lv_at hl 4 rfl) ?_
            refine lv_dup hx hb dX10_readsCut_91 rfl ?_
            refine sp_get S hK hW inX10 0 rfl rfl 16 (by decide) lk1 rfl dX10_readsCut_92 ?_
            refine lv_iconst (v := 1) hx hb dX10_readsCut_95 (by decide) ?_
            refine lv_iadd hx hb dX10_readsCut_96 ?_
            obtain ⟨v14, ev14, hf⟩ := sp_hb hf
            refine sp_topi ev14 ?_
            refine sp_put S hK hW inX10 tyX10_ok nmX10 0 rfl rfl 16 (by decide) lk1 rfl rfl rfl (Nat.le_of_ble_eq_true rfl) (ws' := sw_M a q5 fa tr la sl ce pn mn cl le ri lt nm nc nl nr nt v14 en9 de mm ma ne us lk sd sf nu gt gl tb sc su) rfl dX10_readsCut_97 (fun H locs hW => ?_)
            refine lv_aload_n hx hb dX10_readsCut_100 rfl (lv_at hl 4 rfl) ?_
            refine lv_iload hx hb dX10_readsCut_101 (lv_at hl 0 rfl) ?_
            refine lv_iload_n hx hb dX10_readsCut_103 rfl (lv_at hl 3 rfl) ?_
            refine lv_iload_n hx hb dX10_readsCut_104 rfl (lv_at hl 2 rfl) ?_
            refine lv_iload_n hx hb dX10_readsCut_105 rfl (lv_at hl 1 rfl) ?_
            obtain ⟨⟨r15, c16, c17, c18, c19, c20⟩, hc20, hf⟩ := sp_hc hf
            refine sp_callViP (rest := []) S hK hG hA hW (c_X10_add a fa tr la sl ce pn mn cl le ri lt nm nc nl nr nt v14 en9 de mm ma ne us lk sd sf nu gt gl tb sc su r13 r1 r5 v10 hc20) (by decide) (cwV 4 S.2.2.2.2 gX10_readsCut_X10_add rfl rfl rfl (by decide +kernel) (by decide)) 8 0 rfl rfl (sp_pn _) rfl (WS' := sw_M a q5 fa tr la sl ce pn mn cl le ri lt c16 c17 c18 c19 c20 v14 en9 de mm ma ne us lk sd sf nu gt gl tb sc su) (sp_pn' _) rfl hl.1 (Nat.le_of_ble_eq_true rfl) dX10_readsCut_106 ⟨Nat.zero_le _, Nat.zero_le _⟩ rfl (fun H locs hW => ?_)
            refine lv_if_lt (tgt := 116) hx hb dX10_readsCut_109 (by decide) (fun hc => ?_) (fun hc => ?_)
            · have hf := sp_ht hf hc
              refine lv_iconst (v := 0) hx hb dX10_readsCut_116 (by decide) ?_
              have q0 := Option.some.inj hf
              obtain ⟨q1, z1⟩ := Prod.mk.inj q0
              obtain ⟨q2, z2⟩ := Prod.mk.inj z1
              obtain ⟨q3, z3⟩ := Prod.mk.inj z2
              obtain ⟨q4, z4⟩ := Prod.mk.inj z3
              obtain ⟨q5, z5⟩ := Prod.mk.inj z4
              obtain ⟨q6, z6⟩ := Prod.mk.inj z5
              subst q1
              subst q2
              subst q3
              subst q4
              subst q5
              subst q6
              subst z6
              exact sp_zret S hr hlk hW rfl hQ dX10_readsCut_117
            · have hf := sp_hf hf hc
              refine lv_iconst (v := 1) hx hb dX10_readsCut_112 (by decide) ?_
              refine lv_goto (tgt := 117) hx hb dX10_readsCut_113 (by decide) ?_
              have q0 := Option.some.inj hf
              obtain ⟨q1, z1⟩ := Prod.mk.inj q0
              obtain ⟨q2, z2⟩ := Prod.mk.inj z1
              obtain ⟨q3, z3⟩ := Prod.mk.inj z2
              obtain ⟨q4, z4⟩ := Prod.mk.inj z3
              obtain ⟨q5, z5⟩ := Prod.mk.inj z4
              obtain ⟨q6, z6⟩ := Prod.mk.inj z5
              subst q1
              subst q2
              subst q3
              subst q4
              subst q5
              subst q6
              subst z6
              exact sp_zret S hr hlk hW rfl hQ dX10_readsCut_117
          · have hf := sp_ht hf hc
            refine lv_iconst (v := 0) hx hb dX10_readsCut_88 (by decide) ?_
            have q0 := Option.some.inj hf
            obtain ⟨q1, z1⟩ := Prod.mk.inj q0
            obtain ⟨q2, z2⟩ := Prod.mk.inj z1
            obtain ⟨q3, z3⟩ := Prod.mk.inj z2
            obtain ⟨q4, z4⟩ := Prod.mk.inj z3
            obtain ⟨q5, z5⟩ := Prod.mk.inj z4
            obtain ⟨q6, z6⟩ := Prod.mk.inj z5
            subst q1
            subst q2
            subst q3
            subst q4
            subst q5
            subst q6
            subst z6
            exact sp_zret S hr hlk hW rfl hQ dX10_readsCut_89
        · have hf := sp_ht hf hc
          refine lv_iconst (v := 0) hx hb dX10_readsCut_53 (by decide) ?_
          have q0 := Option.some.inj hf
          obtain ⟨q1, z1⟩ := Prod.mk.inj q0
          obtain ⟨q2, z2⟩ := Prod.mk.inj z1
          obtain ⟨q3, z3⟩ := Prod.mk.inj z2
          obtain ⟨q4, z4⟩ := Prod.mk.inj z3
          obtain ⟨q5, z5⟩ := Prod.mk.inj z4
          obtain ⟨q6, z6⟩ := Prod.mk.inj z5
          subst q1
          subst q2
          subst q3
          subst q4
          subst q5
          subst q6
          subst z6
          exact sp_zret S hr hlk hW rfl hQ dX10_readsCut_54
    · have hf := sp_hf hf hc
      refine lv_iconst (v := 0) hx hb dX10_readsCut_18 (by decide) ?_
      have q0 := Option.some.inj hf
      obtain ⟨q1, z1⟩ := Prod.mk.inj q0
      obtain ⟨q2, z2⟩ := Prod.mk.inj z1
      obtain ⟨q3, z3⟩ := Prod.mk.inj z2
      obtain ⟨q4, z4⟩ := Prod.mk.inj z3
      obtain ⟨q5, z5⟩ := Prod.mk.inj z4
      obtain ⟨q6, z6⟩ := Prod.mk.inj z5
      subst q1
      subst q2
      subst q3
      subst q4
      subst q5
      subst q6
      subst z6
      exact sp_zret S hr hlk hW rfl hQ dX10_readsCut_19

def f_X10_readsAll_L5 (ce : Nat → Int32) (en9 : Int32) (rec5 : (Int32 × (Nat → Int32) × (Nat → Int32) × (Nat → Int32) × (Nat → Int32) × Int32) → Option (Int32 × Int32 × (Nat → Int32) × (Nat → Int32) × (Nat → Int32) × (Nat → Int32) × Int32)) (s9 : Int32 × (Nat → Int32) × (Nat → Int32) × (Nat → Int32) × (Nat → Int32) × Int32) : Option (Int32 × Int32 × (Nat → Int32) × (Nat → Int32) × (Nat → Int32) × (Nat → Int32) × Int32) := match s9 with
  | (c1, c2, c3, c4, c5, c6) => Option.bind (f_X10_codeAt ce c6 en9) (fun r7 => if c6 = en9 then (some ((0 : Int32), c1, c2, c3, c4, c5, c6)) else (sp_bnd (sp_bnd (c6 + (1 : Int32)) (fun v9 => if r7 = (103 : Int32) then (Option.bind (f_X10_readsGround ce c1 c2 c3 c4 c5 v9 en9) (fun q9 => match q9 with | (r19, c20, c21, c22, c23, c24, c25) => if r19 = 0 then (some ((0 : Int32), c20, c21, c22, c23, c24, c25)) else (if c25 = en9 then (some ((1 : Int32), c20, c21, c22, c23, c24, c25)) else (Option.bind (f_X10_codeAt ce c25 en9) (fun r26 => if r26 = (59 : Int32) then (if c20 = (16 : Int32) then (some ((0 : Int32), c20, c21, c22, c23, c24, c25)) else (sp_bnd (c25 + (1 : Int32)) (fun v27 => rec5 (c20, c21, c22, c23, c24, v27)))) else (some ((0 : Int32), c20, c21, c22, c23, c24, c25))))))) else (Option.bind (f_X10_readsCut ce c1 c2 c3 c4 c5 v9 en9) (fun q9 => match q9 with | (r10, c11, c12, c13, c14, c15, c16) => if r10 = 0 then (some ((0 : Int32), c11, c12, c13, c14, c15, c16)) else (if c16 = en9 then (some ((1 : Int32), c11, c12, c13, c14, c15, c16)) else (Option.bind (f_X10_codeAt ce c16 en9) (fun r17 => if r17 = (59 : Int32) then (if c11 = (16 : Int32) then (some ((0 : Int32), c11, c12, c13, c14, c15, c16)) else (sp_bnd (c16 + (1 : Int32)) (fun v18 => rec5 (c11, c12, c13, c14, c15, v18)))) else (some ((0 : Int32), c11, c12, c13, c14, c15, c16))))))))) (fun k8 => if r7 = (103 : Int32) then k8 else (if r7 = (99 : Int32) then k8 else (some ((0 : Int32), c1, c2, c3, c4, c5, c6))))))
theorem f_X10_readsAll_L5_eq {rec5 : (Int32 × (Nat → Int32) × (Nat → Int32) × (Nat → Int32) × (Nat → Int32) × Int32) → Option (Int32 × Int32 × (Nat → Int32) × (Nat → Int32) × (Nat → Int32) × (Nat → Int32) × Int32)} {ce : Nat → Int32} {en9 : Int32} {c1 : Int32} {c2 : Nat → Int32} {c3 : Nat → Int32} {c4 : Nat → Int32} {c5 : Nat → Int32} {c6 : Int32} : f_X10_readsAll_L5 ce en9 rec5 (c1, c2, c3, c4, c5, c6) = (Option.bind (f_X10_codeAt ce c6 en9) (fun r7 => if c6 = en9 then (some ((0 : Int32), c1, c2, c3, c4, c5, c6)) else (sp_bnd (sp_bnd (c6 + (1 : Int32)) (fun v9 => if r7 = (103 : Int32) then (Option.bind (f_X10_readsGround ce c1 c2 c3 c4 c5 v9 en9) (fun q9 => match q9 with | (r19, c20, c21, c22, c23, c24, c25) => if r19 = 0 then (some ((0 : Int32), c20, c21, c22, c23, c24, c25)) else (if c25 = en9 then (some ((1 : Int32), c20, c21, c22, c23, c24, c25)) else (Option.bind (f_X10_codeAt ce c25 en9) (fun r26 => if r26 = (59 : Int32) then (if c20 = (16 : Int32) then (some ((0 : Int32), c20, c21, c22, c23, c24, c25)) else (sp_bnd (c25 + (1 : Int32)) (fun v27 => rec5 (c20, c21, c22, c23, c24, v27)))) else (some ((0 : Int32), c20, c21, c22, c23, c24, c25))))))) else (Option.bind (f_X10_readsCut ce c1 c2 c3 c4 c5 v9 en9) (fun q9 => match q9 with | (r10, c11, c12, c13, c14, c15, c16) => if r10 = 0 then (some ((0 : Int32), c11, c12, c13, c14, c15, c16)) else (if c16 = en9 then (some ((1 : Int32), c11, c12, c13, c14, c15, c16)) else (Option.bind (f_X10_codeAt ce c16 en9) (fun r17 => if r17 = (59 : Int32) then (if c11 = (16 : Int32) then (some ((0 : Int32), c11, c12, c13, c14, c15, c16)) else (sp_bnd (c16 + (1 : Int32)) (fun v18 => rec5 (c11, c12, c13, c14, c15, v18)))) else (some ((0 : Int32), c11, c12, c13, c14, c15, c16))))))))) (fun k8 => if r7 = (103 : Int32) then k8 else (if r7 = (99 : Int32) then k8 else (some ((0 : Int32), c1, c2, c3, c4, c5, c6))))))) := rfl
def f_X10_readsAll (ce : Nat → Int32) (nc : Nat → Int32) (nl : Nat → Int32) (nr : Nat → Int32) (nt : Nat → Int32) (at9 : Int32) (en9 : Int32) : Option (Int32 × Int32 × (Nat → Int32) × (Nat → Int32) × (Nat → Int32) × (Nat → Int32) × Int32) := sp_lp (f_X10_readsAll_L5 ce en9) sp_F ((0 : Int32), nc, nl, nr, nt, at9)
def rmX10_readsAll : Room := { frames := 4, cells := 0, slots := 0, locals := 91 }
set_option maxRecDepth 4000 in
theorem c_X10_readsAll {l : Launch} {D : va_G} {q5 : Nat → ClassId} (a : Nat → Nat) (fa : Int32) (tr : Int32) (la : Nat → Int32) (sl : Nat → Int32) (ce : Nat → Int32) (pn : Int32) (mn : Nat → Int32) (cl : Nat → Int32) (le : Nat → Int32) (ri : Nat → Int32) (lt : Nat → Int32) (nm : Int32) (nc : Nat → Int32) (nl : Nat → Int32) (nr : Nat → Int32) (nt : Nat → Int32) (at9 : Int32) (en9 : Int32) (de : Nat → Int32) (mm : Int32) (ma : Nat → Int32) (ne : Nat → Int32) (us : Nat → Int32) (lk : Nat → Int32) (sd : Nat → Int32) (sf : Nat → Int32) (nu : Nat → Int32) (gt : Nat → Int64) (gl : Nat → Int32) (tb : Nat → Int64) (sc : Nat → Int32) (su : Nat → Int32) {r' : Int32} {nm' : Int32} {nc' : Nat → Int32} {nl' : Nat → Int32} {nr' : Nat → Int32} {nt' : Nat → Int32} {at9' : Int32} (hf : f_X10_readsAll ce nc nl nr nt at9 en9 = some (r', nm', nc', nl', nr', nt', at9')) : sp_Ci l yX10_readsAll wsX10_readsAll rmX10_readsAll D q5 0 [.ref (a 0)] (sw_M a q5 fa tr la sl ce pn mn cl le ri lt nm nc nl nr nt at9 en9 de mm ma ne us lk sd sf nu gt gl tb sc su) r' (sw_M a q5 fa tr la sl ce pn mn cl le ri lt nm' nc' nl' nr' nt' at9' en9 de mm ma ne us lk sd sf nu gt gl tb sc su) := by
  intro sz
  refine sp_of (cc := cX10_readsAll) (maxL := 2) (ret := some .boolean) (own := RX10) (Qc := sp_Qi D r' (sw_M a q5 fa tr la sl ce pn mn cl le ri lt nm' nc' nl' nr' nt' at9' en9 de mm ma ne us lk sd sf nu gt gl tb sc su)) (by decide) rfl rfl (Nat.le_of_ble_eq_true rfl) ?_
  intro p e s m args below meth c A ls Q hQ S hr hlk hK hG hA hW hl
  have hx := S.1
  have hb := S.2.1
  unfold f_X10_readsAll at hf
  have inX10 : ∀ w ∈ u_ws RX10 TX10 32, w ∈ wsX10_readsAll := (fun _ h => List.mem_cons_of_mem _ (List.mem_append_right _ h))
  have lk1 := S.2.2.2.2 (Cond.fieldLink RX10 114 "ShortProofsModel" "newMany" "I") (List.mem_of_getElem? (i := 1) rfl)
  have lk2 := S.2.2.2.2 (Cond.fieldLink RX10 117 "ShortProofsModel" "at" "I") (List.mem_of_getElem? (i := 2) rfl)
  have lk3 := S.2.2.2.2 (Cond.fieldLink RX10 120 "ShortProofsModel" "end" "I") (List.mem_of_getElem? (i := 3) rfl)
  refine lv_aload_n hx hb dX10_readsAll_0 rfl (lv_at hl 0 rfl) ?_
  refine lv_iconst (v := 0) hx hb dX10_readsAll_1 (by decide) ?_
  refine sp_put S hK hW inX10 tyX10_ok nmX10 0 rfl rfl 11 (by decide) lk1 rfl rfl rfl (Nat.le_of_ble_eq_true rfl) (ws' := sw_M a q5 fa tr la sl ce pn mn cl le ri lt (0 : Int32) nc nl nr nt at9 en9 de mm ma ne us lk sd sf nu gt gl tb sc su) rfl dX10_readsAll_2 (fun H locs hW => ?_)
  have hlp5 : ∀ (n9 : Nat) (c1 : Int32) (c2 : Nat → Int32) (c3 : Nat → Int32) (c4 : Nat → Int32) (c5 : Nat → Int32) (c6 : Int32) (H : Heap) (locs : List Loc) (ls : Array Slot), sp_lp (f_X10_readsAll_L5 ce en9) n9 (c1, c2, c3, c4, c5, c6) = some (r', nm', nc', nl', nr', nt', at9') → sp_wd D A s.heap (sw_M a q5 fa tr la sl ce pn mn cl le ri lt c1 c2 c3 c4 c5 c6 en9 de mm ma ne us lk sd sf nu gt gl tb sc su) H locs → lv_has ls 2 [(0, .ref (a 0))] → W p l e rmX10_readsAll s m args below meth c H locs 0 0 Q (F0 m 5 ls []) := by
    intro n9
    induction n9 with
    | zero =>
      intro c1 c2 c3 c4 c5 c6 H locs ls hf hW hl
      exact (sp_lp0 hf).elim
    | succ n9 ih5 =>
      intro c1 c2 c3 c4 c5 c6 H locs ls hf hW hl
      have hf := sp_lpS hf
      rw [f_X10_readsAll_L5_eq] at hf
      refine lv_aload_n hx hb dX10_readsAll_5 rfl (lv_at hl 0 rfl) ?_
      obtain ⟨r7, hc7, hf⟩ := sp_hc hf
      refine sp_callViP (rest := []) S hK hG hA hW (c_X10_codeAt a fa tr la sl ce pn mn cl le ri lt c1 c2 c3 c4 c5 c6 en9 de mm ma ne us lk sd sf nu gt gl tb sc su hc7) (by decide) (cwV 0 S.2.2.2.2 gX10_readsAll_X10_codeAt rfl rfl rfl (by decide +kernel) (by decide)) 8 0 rfl rfl (sp_pn _) rfl (WS' := sw_M a q5 fa tr la sl ce pn mn cl le ri lt c1 c2 c3 c4 c5 c6 en9 de mm ma ne us lk sd sf nu gt gl tb sc su) (sp_pn' _) rfl hl.1 (Nat.le_of_ble_eq_true rfl) dX10_readsAll_6 ⟨Nat.zero_le _, Nat.zero_le _⟩ rfl (fun H locs hW => ?_)
      refine lv_istore_n (lv' := [(1, .int r7), (0, .ref (a 0))]) hx hb dX10_readsAll_9 rfl hl (by decide) rfl (fun ls hl => ?_)
      refine lv_aload_n hx hb dX10_readsAll_10 rfl (lv_at hl 1 rfl) ?_
      refine sp_get S hK hW inX10 0 rfl rfl 16 (by decide) lk2 rfl dX10_readsAll_11 ?_
      refine lv_aload_n hx hb dX10_readsAll_14 rfl (lv_at hl 1 rfl) ?_
      refine sp_get S hK hW inX10 0 rfl rfl 17 (by decide) lk3 rfl dX10_readsAll_15 ?_
      refine lv_icmp_eq (tgt := 33) hx hb dX10_readsAll_18 (by decide) (fun hc => ?_) (fun hc => ?_)
      · have hf := sp_ht hf hc
        refine lv_iconst (v := 0) hx hb dX10_readsAll_33 (by decide) ?_
        have q0 := Option.some.inj hf
        obtain ⟨q1, z1⟩ := Prod.mk.inj q0
        obtain ⟨q2, z2⟩ := Prod.mk.inj z1
        obtain ⟨q3, z3⟩ := Prod.mk.inj z2
        obtain ⟨q4, z4⟩ := Prod.mk.inj z3
        obtain ⟨q5, z5⟩ := Prod.mk.inj z4
        obtain ⟨q6, z6⟩ := Prod.mk.inj z5
        subst q1
        subst q2
        subst q3
        subst q4
        subst q5
        subst q6
        subst z6
        exact sp_zret S hr hlk hW rfl hQ dX10_readsAll_34
      · have hf := sp_hf hf hc
        refine lv_iload_n hx hb dX10_readsAll_21 rfl (lv_at hl 0 rfl) ?_
        refine lv_bipush (v := 103) hx hb dX10_readsAll_22 (by decide) ?_
        obtain ⟨k8, ek8, hf⟩ := sp_hb hf
        have hj8 : ∀ (H : Heap) (locs : List Loc) (ls : Array Slot), k8 = some (r', nm', nc', nl', nr', nt', at9') → sp_wd D A s.heap (sw_M a q5 fa tr la sl ce pn mn cl le ri lt c1 c2 c3 c4 c5 c6 en9 de mm ma ne us lk sd sf nu gt gl tb sc su) H locs → lv_has ls 2 [(0, .ref (a 0)), (1, .int r7)] → W p l e rmX10_readsAll s m args below meth c H locs 0 0 Q (F0 m 35 ls []) := by
          intro H locs ls hf hW hl
          rw [ek8] at hf
          refine lv_aload_n hx hb dX10_readsAll_35 rfl (lv_at hl 0 rfl) ?_
          refine lv_dup hx hb dX10_readsAll_36 rfl ?_
          refine sp_get S hK hW inX10 0 rfl rfl 16 (by decide) lk2 rfl dX10_readsAll_37 ?_
          refine lv_iconst (v := 1) hx hb dX10_readsAll_40 (by decide) ?_
          refine lv_iadd hx hb dX10_readsAll_41 ?_
          obtain ⟨v9, ev9, hf⟩ := sp_hb hf
          refine sp_topi ev9 ?_
          refine sp_put S hK hW inX10 tyX10_ok nmX10 0 rfl rfl 16 (by decide) lk2 rfl rfl rfl (Nat.le_of_ble_eq_true rfl) (ws' := sw_M a q5 fa tr la sl ce pn mn cl le ri lt c1 c2 c3 c4 c5 v9 en9 de mm ma ne us lk sd sf nu gt gl tb sc su) rfl dX10_readsAll_42 (fun H locs hW => ?_)
          refine lv_iload_n hx hb dX10_readsAll_45 rfl (lv_at hl 1 rfl) ?_
          refine lv_bipush (v := 103) hx hb dX10_readsAll_46 (by decide) ?_
          refine lv_icmp_ne (tgt := 61) hx hb dX10_readsAll_48 (by decide) (fun hc => ?_) (fun hc => ?_)
          · have hf := sp_hf hf hc
            refine lv_aload_n hx hb dX10_readsAll_61 rfl (lv_at hl 0 rfl) ?_
            obtain ⟨⟨r10, c11, c12, c13, c14, c15, c16⟩, hc16, hf⟩ := sp_hc hf
            refine sp_callViP (rest := []) S hK hG hA hW (c_X10_readsCut a fa tr la sl ce pn mn cl le ri lt c1 c2 c3 c4 c5 v9 en9 de mm ma ne us lk sd sf nu gt gl tb sc su hc16) (by decide) (cwV 0 S.2.2.2.2 gX10_readsAll_X10_readsCut rfl rfl rfl (by decide +kernel) (by decide)) 8 0 rfl rfl (sp_pn _) rfl (WS' := sw_M a q5 fa tr la sl ce pn mn cl le ri lt c11 c12 c13 c14 c15 c16 en9 de mm ma ne us lk sd sf nu gt gl tb sc su) (sp_pn' _) rfl hl.1 (Nat.le_of_ble_eq_true rfl) dX10_readsAll_62 ⟨Nat.zero_le _, Nat.zero_le _⟩ rfl (fun H locs hW => ?_)
            refine lv_if_ne (tgt := 70) hx hb dX10_readsAll_65 (by decide) (fun hc => ?_) (fun hc => ?_)
            · have hf := sp_hf hf hc
              refine lv_aload_n hx hb dX10_readsAll_70 rfl (lv_at hl 0 rfl) ?_
              refine sp_get S hK hW inX10 0 rfl rfl 16 (by decide) lk2 rfl dX10_readsAll_71 ?_
              refine lv_aload_n hx hb dX10_readsAll_74 rfl (lv_at hl 0 rfl) ?_
              refine sp_get S hK hW inX10 0 rfl rfl 17 (by decide) lk3 rfl dX10_readsAll_75 ?_
              refine lv_icmp_ne (tgt := 83) hx hb dX10_readsAll_78 (by decide) (fun hc => ?_) (fun hc => ?_)
              · have hf := sp_hf hf hc
                refine lv_aload_n hx hb dX10_readsAll_83 rfl (lv_at hl 0 rfl) ?_
                obtain ⟨r17, hc17, hf⟩ := sp_hc hf
                refine sp_callViP (rest := []) S hK hG hA hW (c_X10_codeAt a fa tr la sl ce pn mn cl le ri lt c11 c12 c13 c14 c15 c16 en9 de mm ma ne us lk sd sf nu gt gl tb sc su hc17) (by decide) (cwV 0 S.2.2.2.2 gX10_readsAll_X10_codeAt rfl rfl rfl (by decide +kernel) (by decide)) 8 0 rfl rfl (sp_pn _) rfl (WS' := sw_M a q5 fa tr la sl ce pn mn cl le ri lt c11 c12 c13 c14 c15 c16 en9 de mm ma ne us lk sd sf nu gt gl tb sc su) (sp_pn' _) rfl hl.1 (Nat.le_of_ble_eq_true rfl) dX10_readsAll_84 ⟨Nat.zero_le _, Nat.zero_le _⟩ rfl (fun H locs hW => ?_)
                refine lv_bipush (v := 59) hx hb dX10_readsAll_87 (by decide) ?_
                refine lv_icmp_ne (tgt := 101) hx hb dX10_readsAll_89 (by decide) (fun hc => ?_) (fun hc => ?_)
                · have hf := sp_hf hf hc
                  refine lv_iconst (v := 0) hx hb dX10_readsAll_101 (by decide) ?_
                  have q0 := Option.some.inj hf
                  obtain ⟨q1, z1⟩ := Prod.mk.inj q0
                  obtain ⟨q2, z2⟩ := Prod.mk.inj z1
                  obtain ⟨q3, z3⟩ := Prod.mk.inj z2
                  obtain ⟨q4, z4⟩ := Prod.mk.inj z3
                  obtain ⟨q5, z5⟩ := Prod.mk.inj z4
                  obtain ⟨q6, z6⟩ := Prod.mk.inj z5
                  subst q1
                  subst q2
                  subst q3
                  subst q4
                  subst q5
                  subst q6
                  subst z6
                  exact sp_zret S hr hlk hW rfl hQ dX10_readsAll_102
                · have hf := sp_ht hf hc
                  refine lv_aload_n hx hb dX10_readsAll_92 rfl (lv_at hl 0 rfl) ?_
                  refine sp_get S hK hW inX10 0 rfl rfl 11 (by decide) lk1 rfl dX10_readsAll_93 ?_
                  refine lv_bipush (v := 16) hx hb dX10_readsAll_96 (by decide) ?_
                  refine lv_icmp_ne (tgt := 103) hx hb dX10_readsAll_98 (by decide) (fun hc => ?_) (fun hc => ?_)
                  · have hf := sp_hf hf hc
                    refine lv_aload_n hx hb dX10_readsAll_103 rfl (lv_at hl 0 rfl) ?_
                    refine lv_dup hx hb dX10_readsAll_104 rfl ?_
                    refine sp_get S hK hW inX10 0 rfl rfl 16 (by decide) lk2 rfl dX10_readsAll_105 ?_
                    refine lv_iconst (v := 1) hx hb dX10_readsAll_108 (by decide) ?_
                    refine lv_iadd hx hb dX10_readsAll_109 ?_
                    obtain ⟨v18, ev18, hf⟩ := sp_hb hf
                    refine sp_topi ev18 ?_
                    refine sp_put S hK hW inX10 tyX10_ok nmX10 0 rfl rfl 16 (by decide) lk2 rfl rfl rfl (Nat.le_of_ble_eq_true rfl) (ws' := sw_M a q5 fa tr la sl ce pn mn cl le ri lt c11 c12 c13 c14 c15 v18 en9 de mm ma ne us lk sd sf nu gt gl tb sc su) rfl dX10_readsAll_110 (fun H locs hW => ?_)
                    refine lv_goto (tgt := 5) hx hb dX10_readsAll_113 (by decide) ?_
                    exact ih5 _ _ _ _ _ _ _ _ _ hf hW (lv_sub hl [0] rfl)
                  · have hf := sp_ht hf hc
                    refine lv_iconst (v := 0) hx hb dX10_readsAll_101 (by decide) ?_
                    have q0 := Option.some.inj hf
                    obtain ⟨q1, z1⟩ := Prod.mk.inj q0
                    obtain ⟨q2, z2⟩ := Prod.mk.inj z1
                    obtain ⟨q3, z3⟩ := Prod.mk.inj z2
                    obtain ⟨q4, z4⟩ := Prod.mk.inj z3
                    obtain ⟨q5, z5⟩ := Prod.mk.inj z4
                    obtain ⟨q6, z6⟩ := Prod.mk.inj z5
                    subst q1
                    subst q2
                    subst q3
                    subst q4
                    subst q5
                    subst q6
                    subst z6
                    exact sp_zret S hr hlk hW rfl hQ dX10_readsAll_102
              · have hf := sp_ht hf hc
                refine lv_iconst (v := 1) hx hb dX10_readsAll_81 (by decide) ?_
                have q0 := Option.some.inj hf
                obtain ⟨q1, z1⟩ := Prod.mk.inj q0
                obtain ⟨q2, z2⟩ := Prod.mk.inj z1
                obtain ⟨q3, z3⟩ := Prod.mk.inj z2
                obtain ⟨q4, z4⟩ := Prod.mk.inj z3
                obtain ⟨q5, z5⟩ := Prod.mk.inj z4
                obtain ⟨q6, z6⟩ := Prod.mk.inj z5
                subst q1
                subst q2
                subst q3
                subst q4
                subst q5
                subst q6
                subst z6
                exact sp_zret S hr hlk hW rfl hQ dX10_readsAll_82
            · have hf := sp_ht hf hc
              refine lv_iconst (v := 0) hx hb dX10_readsAll_68 (by decide) ?_
              have q0 := Option.some.inj hf
              obtain ⟨q1, z1⟩ := Prod.mk.inj q0
              obtain ⟨q2, z2⟩ := Prod.mk.inj z1
              obtain ⟨q3, z3⟩ := Prod.mk.inj z2
              obtain ⟨q4, z4⟩ := Prod.mk.inj z3
              obtain ⟨q5, z5⟩ := Prod.mk.inj z4
              obtain ⟨q6, z6⟩ := Prod.mk.inj z5
              subst q1
              subst q2
              subst q3
              subst q4
              subst q5
              subst q6
              subst z6
              exact sp_zret S hr hlk hW rfl hQ dX10_readsAll_69
          · have hf := sp_ht hf hc
            refine lv_aload_n hx hb dX10_readsAll_51 rfl (lv_at hl 0 rfl) ?_
            obtain ⟨⟨r19, c20, c21, c22, c23, c24, c25⟩, hc25, hf⟩ := sp_hc hf
            refine sp_callViP (rest := []) S hK hG hA hW (c_X10_readsGround a fa tr la sl ce pn mn cl le ri lt c1 c2 c3 c4 c5 v9 en9 de mm ma ne us lk sd sf nu gt gl tb sc su hc25) (by decide) (cwV 0 S.2.2.2.2 gX10_readsAll_X10_readsGround rfl rfl rfl (by decide +kernel) (by decide)) 8 0 rfl rfl (sp_pn _) rfl (WS' := sw_M a q5 fa tr la sl ce pn mn cl le ri lt c20 c21 c22 c23 c24 c25 en9 de mm ma ne us lk sd sf nu gt gl tb sc su) (sp_pn' _) rfl hl.1 (Nat.le_of_ble_eq_true rfl) dX10_readsAll_52 ⟨Nat.zero_le _, Nat.zero_le _⟩ rfl (fun H locs hW => ?_)
            refine lv_if_ne (tgt := 70) hx hb dX10_readsAll_55 (by decide) (fun hc => ?_) (fun hc => ?_)
            · have hf := sp_hf hf hc
              refine lv_aload_n hx hb dX10_readsAll_70 rfl (lv_at hl 0 rfl) ?_
              refine sp_get S hK hW inX10 0 rfl rfl 16 (by decide) lk2 rfl dX10_readsAll_71 ?_
              refine lv_aload_n hx hb dX10_readsAll_74 rfl (lv_at hl 0 rfl) ?_
              refine sp_get S hK hW inX10 0 rfl rfl 17 (by decide) lk3 rfl dX10_readsAll_75 ?_
              refine lv_icmp_ne (tgt := 83) hx hb dX10_readsAll_78 (by decide) (fun hc => ?_) (fun hc => ?_)
              · have hf := sp_hf hf hc
                refine lv_aload_n hx hb dX10_readsAll_83 rfl (lv_at hl 0 rfl) ?_
                obtain ⟨r26, hc26, hf⟩ := sp_hc hf
                refine sp_callViP (rest := []) S hK hG hA hW (c_X10_codeAt a fa tr la sl ce pn mn cl le ri lt c20 c21 c22 c23 c24 c25 en9 de mm ma ne us lk sd sf nu gt gl tb sc su hc26) (by decide) (cwV 0 S.2.2.2.2 gX10_readsAll_X10_codeAt rfl rfl rfl (by decide +kernel) (by decide)) 8 0 rfl rfl (sp_pn _) rfl (WS' := sw_M a q5 fa tr la sl ce pn mn cl le ri lt c20 c21 c22 c23 c24 c25 en9 de mm ma ne us lk sd sf nu gt gl tb sc su) (sp_pn' _) rfl hl.1 (Nat.le_of_ble_eq_true rfl) dX10_readsAll_84 ⟨Nat.zero_le _, Nat.zero_le _⟩ rfl (fun H locs hW => ?_)
                refine lv_bipush (v := 59) hx hb dX10_readsAll_87 (by decide) ?_
                refine lv_icmp_ne (tgt := 101) hx hb dX10_readsAll_89 (by decide) (fun hc => ?_) (fun hc => ?_)
                · have hf := sp_hf hf hc
                  refine lv_iconst (v := 0) hx hb dX10_readsAll_101 (by decide) ?_
                  have q0 := Option.some.inj hf
                  obtain ⟨q1, z1⟩ := Prod.mk.inj q0
                  obtain ⟨q2, z2⟩ := Prod.mk.inj z1
                  obtain ⟨q3, z3⟩ := Prod.mk.inj z2
                  obtain ⟨q4, z4⟩ := Prod.mk.inj z3
                  obtain ⟨q5, z5⟩ := Prod.mk.inj z4
                  obtain ⟨q6, z6⟩ := Prod.mk.inj z5
                  subst q1
                  subst q2
                  subst q3
                  subst q4
                  subst q5
                  subst q6
                  subst z6
                  exact sp_zret S hr hlk hW rfl hQ dX10_readsAll_102
                · have hf := sp_ht hf hc
                  refine lv_aload_n hx hb dX10_readsAll_92 rfl (lv_at hl 0 rfl) ?_
                  refine sp_get S hK hW inX10 0 rfl rfl 11 (by decide) lk1 rfl dX10_readsAll_93 ?_
                  refine lv_bipush (v := 16) hx hb dX10_readsAll_96 (by decide) ?_
                  refine lv_icmp_ne (tgt := 103) hx hb dX10_readsAll_98 (by decide) (fun hc => ?_) (fun hc => ?_)
                  · have hf := sp_hf hf hc
                    refine lv_aload_n hx hb dX10_readsAll_103 rfl (lv_at hl 0 rfl) ?_
                    refine lv_dup hx hb dX10_readsAll_104 rfl ?_
                    refine sp_get S hK hW inX10 0 rfl rfl 16 (by decide) lk2 rfl dX10_readsAll_105 ?_
                    refine lv_iconst (v := 1) hx hb dX10_readsAll_108 (by decide) ?_
                    refine lv_iadd hx hb dX10_readsAll_109 ?_
                    obtain ⟨v27, ev27, hf⟩ := sp_hb hf
                    refine sp_topi ev27 ?_
                    refine sp_put S hK hW inX10 tyX10_ok nmX10 0 rfl rfl 16 (by decide) lk2 rfl rfl rfl (Nat.le_of_ble_eq_true rfl) (ws' := sw_M a q5 fa tr la sl ce pn mn cl le ri lt c20 c21 c22 c23 c24 v27 en9 de mm ma ne us lk sd sf nu gt gl tb sc su) rfl dX10_readsAll_110 (fun H locs hW => ?_)
                    refine lv_goto (tgt := 5) hx hb dX10_readsAll_113 (by decide) ?_
                    exact ih5 _ _ _ _ _ _ _ _ _ hf hW (lv_sub hl [0] rfl)
                  · have hf := sp_ht hf hc
                    refine lv_iconst (v := 0) hx hb dX10_readsAll_101 (by decide) ?_
                    have q0 := Option.some.inj hf
                    obtain ⟨q1, z1⟩ := Prod.mk.inj q0
                    obtain ⟨q2, z2⟩ := Prod.mk.inj z1
                    obtain ⟨q3, z3⟩ := Prod.mk.inj z2
                    obtain ⟨q4, z4⟩ := Prod.mk.inj z3
                    obtain ⟨q5, z5⟩ := Prod.mk.inj z4
                    obtain ⟨q6, z6⟩ := Prod.mk.inj z5
                    subst q1
                    subst q2
                    subst q3
                    subst q4
                    subst q5
                    subst q6
                    subst z6
                    exact sp_zret S hr hlk hW rfl hQ dX10_readsAll_102
              · have hf := sp_ht hf hc
                refine lv_iconst (v := 1) hx hb dX10_readsAll_81 (by decide) ?_
                have q0 := Option.some.inj hf
                obtain ⟨q1, z1⟩ := Prod.mk.inj q0
                obtain ⟨q2, z2⟩ := Prod.mk.inj z1
                obtain ⟨q3, z3⟩ := Prod.mk.inj z2
                obtain ⟨q4, z4⟩ := Prod.mk.inj z3
                obtain ⟨q5, z5⟩ := Prod.mk.inj z4
                obtain ⟨q6, z6⟩ := Prod.mk.inj z5
                subst q1
                subst q2
                subst q3
                subst q4
                subst q5
                subst q6
                subst z6
                exact sp_zret S hr hlk hW rfl hQ dX10_readsAll_82
            · have hf := sp_ht hf hc
              refine lv_goto (tgt := 68) hx hb dX10_readsAll_58 (by decide) ?_
              refine lv_iconst (v := 0) hx hb dX10_readsAll_68 (by decide) ?_
              have q0 := Option.some.inj hf
              obtain ⟨q1, z1⟩ := Prod.mk.inj q0
              obtain ⟨q2, z2⟩ := Prod.mk.inj z1
              obtain ⟨q3, z3⟩ := Prod.mk.inj z2
              obtain ⟨q4, z4⟩ := Prod.mk.inj z3
              obtain ⟨q5, z5⟩ := Prod.mk.inj z4
              obtain ⟨q6, z6⟩ := Prod.mk.inj z5
              subst q1
              subst q2
              subst q3
              subst q4
              subst q5
              subst q6
              subst z6
              exact sp_zret S hr hlk hW rfl hQ dX10_readsAll_69
        refine lv_icmp_eq (tgt := 35) hx hb dX10_readsAll_24 (by decide) (fun hc => ?_) (fun hc => ?_)
        · have hf := sp_ht hf hc
          exact hj8 _ _ _ hf hW (lv_sub hl [1, 0] rfl)
        · have hf := sp_hf hf hc
          refine lv_iload_n hx hb dX10_readsAll_27 rfl (lv_at hl 0 rfl) ?_
          refine lv_bipush (v := 99) hx hb dX10_readsAll_28 (by decide) ?_
          refine lv_icmp_eq (tgt := 35) hx hb dX10_readsAll_30 (by decide) (fun hc => ?_) (fun hc => ?_)
          · have hf := sp_ht hf hc
            exact hj8 _ _ _ hf hW (lv_sub hl [1, 0] rfl)
          · have hf := sp_hf hf hc
            refine lv_iconst (v := 0) hx hb dX10_readsAll_33 (by decide) ?_
            have q0 := Option.some.inj hf
            obtain ⟨q1, z1⟩ := Prod.mk.inj q0
            obtain ⟨q2, z2⟩ := Prod.mk.inj z1
            obtain ⟨q3, z3⟩ := Prod.mk.inj z2
            obtain ⟨q4, z4⟩ := Prod.mk.inj z3
            obtain ⟨q5, z5⟩ := Prod.mk.inj z4
            obtain ⟨q6, z6⟩ := Prod.mk.inj z5
            subst q1
            subst q2
            subst q3
            subst q4
            subst q5
            subst q6
            subst z6
            exact sp_zret S hr hlk hW rfl hQ dX10_readsAll_34
  exact hlp5 _ _ _ _ _ _ _ _ _ _ hf hW (lv_sub hl [0] rfl)

def f_X10_text (p1 : Int32) (p2 : Int32) (p3 : Int32) (p4 : Int32) (la : Nat → Int32) (sl : Nat → Int32) (ce : Nat → Int32) (pn : Int32) (mn : Nat → Int32) (cl : Nat → Int32) (le : Nat → Int32) (ri : Nat → Int32) (lt : Nat → Int32) (nm : Int32) (nc : Nat → Int32) (nl : Nat → Int32) (nr : Nat → Int32) (nt : Nat → Int32) (at9 : Int32) (en9 : Int32) : Option (Int32 × Int32 × Int32 × (Nat → Int32) × (Nat → Int32) × (Nat → Int32) × (Nat → Int32) × (Nat → Int32) × Int32 × (Nat → Int32) × (Nat → Int32) × (Nat → Int32) × (Nat → Int32) × Int32 × Int32) := Option.bind (f_X10_isSheet p1) (fun r1 => if r1 = 0 then (some ((-1 : Int32), (0 : Int32), pn, mn, cl, le, ri, lt, nm, nc, nl, nr, nt, at9, en9)) else (Option.bind (f_X10_isLane p2) (fun r2 => if r2 = 0 then (some ((-2 : Int32), (0 : Int32), pn, mn, cl, le, ri, lt, nm, nc, nl, nr, nt, at9, en9)) else (sp_ld la 4 p1 (fun v3 => sp_bnd (fun (c4 : Int32) => sp_ld la 4 p1 (fun v6 => if v6 = (-9 : Int32) then (Option.bind (f_X10_fails (1 : Int32)) (fun q9 => match q9 with | (r43, c44) => some (r43, c44, pn, mn, cl, le, ri, lt, nm, nc, nl, nr, nt, at9, en9))) else (if 0 ≤ p4 then (sp_bnd (fun (c7 : Int32) (c8 : Nat → Int32) (c9 : Nat → Int32) (c10 : Nat → Int32) (c11 : Nat → Int32) (c12 : Nat → Int32) (c13 : Int32) (c14 : Nat → Int32) (c15 : Nat → Int32) (c16 : Nat → Int32) (c17 : Nat → Int32) (c18 : Int32) (c19 : Int32) => Option.bind (f_X10_fails (3 : Int32)) (fun q9 => match q9 with | (r21, c22) => some (r21, c22, c7, c8, c9, c10, c11, c12, c13, c14, c15, c16, c17, c18, c19))) (fun k20 => if p3 < 0 then (k20 pn mn cl le ri lt nm nc nl nr nt at9 en9) else (sp_ld sl 4 p1 (fun v23 => if v23 < p3 then (k20 pn mn cl le ri lt nm nc nl nr nt at9 en9) else (sp_ld sl 4 p1 (fun v24 => if p4 ≤ (v24 - p3) then (sp_bnd (((60 : Int32) * p1) + p3) (fun v25 => sp_bnd (v25 + p4) (fun v26 => Option.bind (f_X10_readsAll ce nc nl nr nt v25 v26) (fun q9 => match q9 with | (r27, c28, c29, c30, c31, c32, c33) => if r27 = 0 then (some (((-100 : Int32) - (c33 - v25)), c4, pn, mn, cl, le, ri, lt, c28, c29, c30, c31, c32, c33, v26)) else (Option.bind (f_X10_comes pn mn cl le ri lt c28 c29 c30 c31 c32) (fun q9 => match q9 with | (r34, c35, c36, c37, c38, c39, c40) => some (r34, c4, c35, c36, c37, c38, c39, c40, c28, c29, c30, c31, c32, c33, v26))))))) else (k20 pn mn cl le ri lt nm nc nl nr nt at9 en9))))))) else (Option.bind (f_X10_fails (4 : Int32)) (fun q9 => match q9 with | (r41, c42) => some (r41, c42, pn, mn, cl, le, ri, lt, nm, nc, nl, nr, nt, at9, en9)))))) (fun k5 => if v3 = (-9 : Int32) then (k5 (0 : Int32)) else (sp_ld la 4 p1 (fun v45 => if v45 = p2 then (k5 (0 : Int32)) else (Option.bind (f_X10_fails (2 : Int32)) (fun q9 => match q9 with | (r46, c47) => some (r46, c47, pn, mn, cl, le, ri, lt, nm, nc, nl, nr, nt, at9, en9)))))))))))
def rmX10_text : Room := { frames := 5, cells := 0, slots := 0, locals := 112 }
set_option maxRecDepth 4000 in
theorem c_X10_text {l : Launch} {D : va_G} {q5 : Nat → ClassId} (a : Nat → Nat) (fa : Int32) (tr : Int32) (la : Nat → Int32) (sl : Nat → Int32) (ce : Nat → Int32) (pn : Int32) (mn : Nat → Int32) (cl : Nat → Int32) (le : Nat → Int32) (ri : Nat → Int32) (lt : Nat → Int32) (nm : Int32) (nc : Nat → Int32) (nl : Nat → Int32) (nr : Nat → Int32) (nt : Nat → Int32) (at9 : Int32) (en9 : Int32) (de : Nat → Int32) (mm : Int32) (ma : Nat → Int32) (ne : Nat → Int32) (us : Nat → Int32) (lk : Nat → Int32) (sd : Nat → Int32) (sf : Nat → Int32) (nu : Nat → Int32) (gt : Nat → Int64) (gl : Nat → Int32) (tb : Nat → Int64) (sc : Nat → Int32) (su : Nat → Int32) (p1 : Int32) (p2 : Int32) (p3 : Int32) (p4 : Int32) {r' : Int32} {fa' : Int32} {pn' : Int32} {mn' : Nat → Int32} {cl' : Nat → Int32} {le' : Nat → Int32} {ri' : Nat → Int32} {lt' : Nat → Int32} {nm' : Int32} {nc' : Nat → Int32} {nl' : Nat → Int32} {nr' : Nat → Int32} {nt' : Nat → Int32} {at9' : Int32} {en9' : Int32} (hf : f_X10_text p1 p2 p3 p4 la sl ce pn mn cl le ri lt nm nc nl nr nt at9 en9 = some (r', fa', pn', mn', cl', le', ri', lt', nm', nc', nl', nr', nt', at9', en9')) : sp_Ci l yX10_text wsX10_text rmX10_text D q5 0 [.ref (a 0), .int p1, .int p2, .int p3, .int p4] (sw_M a q5 fa tr la sl ce pn mn cl le ri lt nm nc nl nr nt at9 en9 de mm ma ne us lk sd sf nu gt gl tb sc su) r' (sw_M a q5 fa' tr la sl ce pn' mn' cl' le' ri' lt' nm' nc' nl' nr' nt' at9' en9' de mm ma ne us lk sd sf nu gt gl tb sc su) := by
  intro sz
  refine sp_of (cc := cX10_text) (maxL := 6) (ret := some .int) (own := RX10) (Qc := sp_Qi D r' (sw_M a q5 fa' tr la sl ce pn' mn' cl' le' ri' lt' nm' nc' nl' nr' nt' at9' en9' de mm ma ne us lk sd sf nu gt gl tb sc su)) (by decide) rfl rfl (Nat.le_of_ble_eq_true rfl) ?_
  intro p e s m args below meth c A ls Q hQ S hr hlk hK hG hA hW hl
  have hx := S.1
  have hb := S.2.1
  unfold f_X10_text at hf
  have inX10 : ∀ w ∈ u_ws RX10 TX10 32, w ∈ wsX10_text := (fun _ h => List.mem_cons_of_mem _ (List.mem_append_right _ h))
  have lk1 := S.2.2.2.2 (Cond.fieldLink RX10 86 "ShortProofsModel" "fault" "I") (List.mem_of_getElem? (i := 1) rfl)
  have lk2 := S.2.2.2.2 (Cond.fieldLink RX10 9 "ShortProofsModel" "lanes" "[I") (List.mem_of_getElem? (i := 2) rfl)
  have lk3 := S.2.2.2.2 (Cond.fieldLink RX10 13 "ShortProofsModel" "sheetLong" "[I") (List.mem_of_getElem? (i := 3) rfl)
  have lk4 := S.2.2.2.2 (Cond.fieldLink RX10 117 "ShortProofsModel" "at" "I") (List.mem_of_getElem? (i := 4) rfl)
  have lk5 := S.2.2.2.2 (Cond.fieldLink RX10 120 "ShortProofsModel" "end" "I") (List.mem_of_getElem? (i := 5) rfl)
  refine lv_aload_n hx hb dX10_text_0 rfl (lv_at hl 0 rfl) ?_
  refine lv_iconst (v := 0) hx hb dX10_text_1 (by decide) ?_
  refine sp_put S hK hW inX10 tyX10_ok nmX10 0 rfl rfl 0 (by decide) lk1 rfl rfl rfl (Nat.le_of_ble_eq_true rfl) (ws' := sw_M a q5 (0 : Int32) tr la sl ce pn mn cl le ri lt nm nc nl nr nt at9 en9 de mm ma ne us lk sd sf nu gt gl tb sc su) rfl dX10_text_2 (fun H locs hW => ?_)
  refine lv_iload_n hx hb dX10_text_5 rfl (lv_at hl 1 rfl) ?_
  obtain ⟨r1, hc1, hf⟩ := sp_hc hf
  refine sp_callSi (rest := []) S hK hG hA hW (c_X10_isSheet p1 hc1) (by decide) (va_cwS 1 S.2.2.2.2 gX10_text_X10_isSheet rfl rfl rfl (by decide +kernel) (by decide)) (isC := []) rfl rfl rfl (WS' := sw_M a q5 (0 : Int32) tr la sl ce pn mn cl le ri lt nm nc nl nr nt at9 en9 de mm ma ne us lk sd sf nu gt gl tb sc su) rfl rfl hl.1 (Nat.le_of_ble_eq_true rfl) dX10_text_6 ⟨Nat.zero_le _, Nat.zero_le _⟩ rfl (fun H locs hW => ?_)
  refine lv_if_ne (tgt := 14) hx hb dX10_text_9 (by decide) (fun hc => ?_) (fun hc => ?_)
  · have hf := sp_hf hf hc
    refine lv_iload_n hx hb dX10_text_14 rfl (lv_at hl 2 rfl) ?_
    obtain ⟨r2, hc2, hf⟩ := sp_hc hf
    refine sp_callSi (rest := []) S hK hG hA hW (c_X10_isLane p2 hc2) (by decide) (va_cwS 1 S.2.2.2.2 gX10_text_X10_isLane rfl rfl rfl (by decide +kernel) (by decide)) (isC := []) rfl rfl rfl (WS' := sw_M a q5 (0 : Int32) tr la sl ce pn mn cl le ri lt nm nc nl nr nt at9 en9 de mm ma ne us lk sd sf nu gt gl tb sc su) rfl rfl hl.1 (Nat.le_of_ble_eq_true rfl) dX10_text_15 ⟨Nat.zero_le _, Nat.zero_le _⟩ rfl (fun H locs hW => ?_)
    refine lv_if_ne (tgt := 24) hx hb dX10_text_18 (by decide) (fun hc => ?_) (fun hc => ?_)
    · have hf := sp_hf hf hc
      refine lv_aload_n hx hb dX10_text_24 rfl (lv_at hl 0 rfl) ?_
      refine sp_get S hK hW inX10 0 rfl rfl 2 (by decide) lk2 rfl dX10_text_25 ?_
      refine lv_iload_n hx hb dX10_text_28 rfl (lv_at hl 1 rfl) ?_
      obtain ⟨hin, v3, ev3, hf⟩ := sp_hld hf
      refine sp_iald S hK hW 1 rfl hin ev3 dX10_text_29 ?_
      refine lv_bipush (v := (-9)) hx hb dX10_text_30 (by decide) ?_
      obtain ⟨k5, ek5, hf⟩ := sp_hb hf
      have hj5 : ∀ (c4 : Int32) (H : Heap) (locs : List Loc) (ls : Array Slot), k5 c4 = some (r', fa', pn', mn', cl', le', ri', lt', nm', nc', nl', nr', nt', at9', en9') → sp_wd D A s.heap (sw_M a q5 c4 tr la sl ce pn mn cl le ri lt nm nc nl nr nt at9 en9 de mm ma ne us lk sd sf nu gt gl tb sc su) H locs → lv_has ls 6 [(0, .ref (a 0)), (1, .int p1), (3, .int p3), (4, .int p4)] → W p l e rmX10_text s m args below meth c H locs 0 0 Q (F0 m 51 ls []) := by
        intro c4 H locs ls hf hW hl
        rw [ek5] at hf
        refine lv_aload_n hx hb dX10_text_51 rfl (lv_at hl 0 rfl) ?_
        refine sp_get S hK hW inX10 0 rfl rfl 2 (by decide) lk2 rfl dX10_text_52 ?_
        refine lv_iload_n hx hb dX10_text_55 rfl (lv_at hl 1 rfl) ?_
        obtain ⟨hin, v6, ev6, hf⟩ := sp_hld hf
        refine sp_iald S hK hW 1 rfl hin ev6 dX10_text_56 ?_
        refine lv_bipush (v := (-9)) hx hb dX10_text_57 (by decide) ?_
        refine lv_icmp_ne (tgt := 68) hx hb dX10_text_59 (by decide) (fun hc => ?_) (fun hc => ?_)
        · have hf := sp_hf hf hc
          refine lv_iload hx hb dX10_text_68 (lv_at hl 3 rfl) ?_
          refine lv_if_ge (tgt := 79) hx hb dX10_text_70 (by decide) (fun hc => ?_) (fun hc => ?_)
          · have hf := sp_ht hf hc
            refine lv_iload_n hx hb dX10_text_79 rfl (lv_at hl 2 rfl) ?_
            obtain ⟨k20, ek20, hf⟩ := sp_hb hf
            have hj20 : ∀ (c7 : Int32) (c8 : Nat → Int32) (c9 : Nat → Int32) (c10 : Nat → Int32) (c11 : Nat → Int32) (c12 : Nat → Int32) (c13 : Int32) (c14 : Nat → Int32) (c15 : Nat → Int32) (c16 : Nat → Int32) (c17 : Nat → Int32) (c18 : Int32) (c19 : Int32) (H : Heap) (locs : List Loc) (ls : Array Slot), k20 c7 c8 c9 c10 c11 c12 c13 c14 c15 c16 c17 c18 c19 = some (r', fa', pn', mn', cl', le', ri', lt', nm', nc', nl', nr', nt', at9', en9') → sp_wd D A s.heap (sw_M a q5 c4 tr la sl ce c7 c8 c9 c10 c11 c12 c13 c14 c15 c16 c17 c18 c19 de mm ma ne us lk sd sf nu gt gl tb sc su) H locs → lv_has ls 6 [(0, .ref (a 0))] → W p l e rmX10_text s m args below meth c H locs 0 0 Q (F0 m 106 ls []) := by
              intro c7 c8 c9 c10 c11 c12 c13 c14 c15 c16 c17 c18 c19 H locs ls hf hW hl
              rw [ek20] at hf
              refine lv_aload_n hx hb dX10_text_106 rfl (lv_at hl 0 rfl) ?_
              refine lv_iconst (v := 3) hx hb dX10_text_107 (by decide) ?_
              obtain ⟨⟨r21, c22⟩, hc22, hf⟩ := sp_hc hf
              refine sp_callViP (rest := []) S hK hG hA hW (c_X10_fails a c4 tr la sl ce c7 c8 c9 c10 c11 c12 c13 c14 c15 c16 c17 c18 c19 de mm ma ne us lk sd sf nu gt gl tb sc su (3 : Int32) hc22) (by decide) (cwV 1 S.2.2.2.2 gX10_text_X10_fails rfl rfl rfl (by decide +kernel) (by decide)) 8 0 rfl rfl (sp_pn _) rfl (WS' := sw_M a q5 c22 tr la sl ce c7 c8 c9 c10 c11 c12 c13 c14 c15 c16 c17 c18 c19 de mm ma ne us lk sd sf nu gt gl tb sc su) (sp_pn' _) rfl hl.1 (Nat.le_of_ble_eq_true rfl) dX10_text_108 ⟨Nat.zero_le _, Nat.zero_le _⟩ rfl (fun H locs hW => ?_)
              have q0 := Option.some.inj hf
              obtain ⟨q1, z1⟩ := Prod.mk.inj q0
              obtain ⟨q2, z2⟩ := Prod.mk.inj z1
              obtain ⟨q3, z3⟩ := Prod.mk.inj z2
              obtain ⟨q4, z4⟩ := Prod.mk.inj z3
              obtain ⟨q5, z5⟩ := Prod.mk.inj z4
              obtain ⟨q6, z6⟩ := Prod.mk.inj z5
              obtain ⟨q7, z7⟩ := Prod.mk.inj z6
              obtain ⟨q8, z8⟩ := Prod.mk.inj z7
              obtain ⟨q9, z9⟩ := Prod.mk.inj z8
              obtain ⟨q10, z10⟩ := Prod.mk.inj z9
              obtain ⟨q11, z11⟩ := Prod.mk.inj z10
              obtain ⟨q12, z12⟩ := Prod.mk.inj z11
              obtain ⟨q13, z13⟩ := Prod.mk.inj z12
              obtain ⟨q14, z14⟩ := Prod.mk.inj z13
              subst q1
              subst q2
              subst q3
              subst q4
              subst q5
              subst q6
              subst q7
              subst q8
              subst q9
              subst q10
              subst q11
              subst q12
              subst q13
              subst q14
              subst z14
              exact sp_iret S hr hlk hW hQ dX10_text_111
            refine lv_if_lt (tgt := 106) hx hb dX10_text_80 (by decide) (fun hc => ?_) (fun hc => ?_)
            · have hf := sp_ht hf hc
              exact hj20 _ _ _ _ _ _ _ _ _ _ _ _ _ _ _ _ hf hW (lv_sub hl [0] rfl)
            · have hf := sp_hf hf hc
              refine lv_iload_n hx hb dX10_text_83 rfl (lv_at hl 2 rfl) ?_
              refine lv_aload_n hx hb dX10_text_84 rfl (lv_at hl 0 rfl) ?_
              refine sp_get S hK hW inX10 0 rfl rfl 3 (by decide) lk3 rfl dX10_text_85 ?_
              refine lv_iload_n hx hb dX10_text_88 rfl (lv_at hl 1 rfl) ?_
              obtain ⟨hin, v23, ev23, hf⟩ := sp_hld hf
              refine sp_iald S hK hW 2 rfl hin ev23 dX10_text_89 ?_
              refine lv_icmp_gt (tgt := 106) hx hb dX10_text_90 (by decide) (fun hc => ?_) (fun hc => ?_)
              · have hf := sp_ht hf hc
                exact hj20 _ _ _ _ _ _ _ _ _ _ _ _ _ _ _ _ hf hW (lv_sub hl [0] rfl)
              · have hf := sp_hf hf hc
                refine lv_iload hx hb dX10_text_93 (lv_at hl 3 rfl) ?_
                refine lv_aload_n hx hb dX10_text_95 rfl (lv_at hl 0 rfl) ?_
                refine sp_get S hK hW inX10 0 rfl rfl 3 (by decide) lk3 rfl dX10_text_96 ?_
                refine lv_iload_n hx hb dX10_text_99 rfl (lv_at hl 1 rfl) ?_
                obtain ⟨hin, v24, ev24, hf⟩ := sp_hld hf
                refine sp_iald S hK hW 2 rfl hin ev24 dX10_text_100 ?_
                refine lv_iload_n hx hb dX10_text_101 rfl (lv_at hl 2 rfl) ?_
                refine lv_isub hx hb dX10_text_102 ?_
                refine lv_icmp_le (tgt := 112) hx hb dX10_text_103 (by decide) (fun hc => ?_) (fun hc => ?_)
                · have hf := sp_ht hf hc
                  refine lv_aload_n hx hb dX10_text_112 rfl (lv_at hl 0 rfl) ?_
                  refine lv_bipush (v := 60) hx hb dX10_text_113 (by decide) ?_
                  refine lv_iload_n hx hb dX10_text_115 rfl (lv_at hl 1 rfl) ?_
                  refine lv_imul hx hb dX10_text_116 ?_
                  refine lv_iload_n hx hb dX10_text_117 rfl (lv_at hl 2 rfl) ?_
                  refine lv_iadd hx hb dX10_text_118 ?_
                  obtain ⟨v25, ev25, hf⟩ := sp_hb hf
                  refine sp_topi ev25 ?_
                  refine sp_put S hK hW inX10 tyX10_ok nmX10 0 rfl rfl 16 (by decide) lk4 rfl rfl rfl (Nat.le_of_ble_eq_true rfl) (ws' := sw_M a q5 c4 tr la sl ce pn mn cl le ri lt nm nc nl nr nt v25 en9 de mm ma ne us lk sd sf nu gt gl tb sc su) rfl dX10_text_119 (fun H locs hW => ?_)
                  refine lv_aload_n hx hb dX10_text_122 rfl (lv_at hl 0 rfl) ?_
                  refine lv_aload_n hx hb dX10_text_123 rfl (lv_at hl 0 rfl) ?_
                  refine sp_get S hK hW inX10 0 rfl rfl 16 (by decide) lk4 rfl dX10_text_124 ?_
                  refine lv_iload hx hb dX10_text_127 (lv_at hl 3 rfl) ?_
                  refine lv_iadd hx hb dX10_text_129 ?_
                  obtain ⟨v26, ev26, hf⟩ := sp_hb hf
                  refine sp_topi ev26 ?_
                  refine sp_put S hK hW inX10 tyX10_ok nmX10 0 rfl rfl 17 (by decide) lk5 rfl rfl rfl (Nat.le_of_ble_eq_true rfl) (ws' := sw_M a q5 c4 tr la sl ce pn mn cl le ri lt nm nc nl nr nt v25 v26 de mm ma ne us lk sd sf nu gt gl tb sc su) rfl dX10_text_130 (fun H locs hW => ?_)
                  refine lv_aload_n hx hb dX10_text_133 rfl (lv_at hl 0 rfl) ?_
                  refine sp_get S hK hW inX10 0 rfl rfl 16 (by decide) lk4 rfl dX10_text_134 ?_
                  refine lv_istore (lv' := [(5, .int v25), (0, .ref (a 0)), (1, .int p1), (3, .int p3), (4, .int p4)]) hx hb dX10_text_137 hl (by decide) rfl (fun ls hl => ?_)
                  refine lv_aload_n hx hb dX10_text_139 rfl (lv_at hl 1 rfl) ?_
                  obtain ⟨⟨r27, c28, c29, c30, c31, c32, c33⟩, hc33, hf⟩ := sp_hc hf
                  refine sp_callViP (rest := []) S hK hG hA hW (c_X10_readsAll a c4 tr la sl ce pn mn cl le ri lt nm nc nl nr nt v25 v26 de mm ma ne us lk sd sf nu gt gl tb sc su hc33) (by decide) (cwV 0 S.2.2.2.2 gX10_text_X10_readsAll rfl rfl rfl (by decide +kernel) (by decide)) 8 0 rfl rfl (sp_pn _) rfl (WS' := sw_M a q5 c4 tr la sl ce pn mn cl le ri lt c28 c29 c30 c31 c32 c33 v26 de mm ma ne us lk sd sf nu gt gl tb sc su) (sp_pn' _) rfl hl.1 (Nat.le_of_ble_eq_true rfl) dX10_text_140 ⟨Nat.zero_le _, Nat.zero_le _⟩ rfl (fun H locs hW => ?_)
                  refine lv_if_ne (tgt := 157) hx hb dX10_text_143 (by decide) (fun hc => ?_) (fun hc => ?_)
                  · have hf := sp_hf hf hc
                    refine lv_aload_n hx hb dX10_text_157 rfl (lv_at hl 1 rfl) ?_
                    obtain ⟨⟨r34, c35, c36, c37, c38, c39, c40⟩, hc40, hf⟩ := sp_hc hf
                    refine sp_callViP (rest := []) S hK hG hA hW (c_X10_comes a c4 tr la sl ce pn mn cl le ri lt c28 c29 c30 c31 c32 c33 v26 de mm ma ne us lk sd sf nu gt gl tb sc su hc40) (by decide) (cwV 0 S.2.2.2.2 gX10_text_X10_comes rfl rfl rfl (by decide +kernel) (by decide)) 8 0 rfl rfl (sp_pn _) rfl (WS' := sw_M a q5 c4 tr la sl ce c35 c36 c37 c38 c39 c40 c28 c29 c30 c31 c32 c33 v26 de mm ma ne us lk sd sf nu gt gl tb sc su) (sp_pn' _) rfl hl.1 (Nat.le_of_ble_eq_true rfl) dX10_text_158 ⟨Nat.zero_le _, Nat.zero_le _⟩ rfl (fun H locs hW => ?_)
                    have q0 := Option.some.inj hf
                    obtain ⟨q1, z1⟩ := Prod.mk.inj q0
                    obtain ⟨q2, z2⟩ := Prod.mk.inj z1
                    obtain ⟨q3, z3⟩ := Prod.mk.inj z2
                    obtain ⟨q4, z4⟩ := Prod.mk.inj z3
                    obtain ⟨q5, z5⟩ := Prod.mk.inj z4
                    obtain ⟨q6, z6⟩ := Prod.mk.inj z5
                    obtain ⟨q7, z7⟩ := Prod.mk.inj z6
                    obtain ⟨q8, z8⟩ := Prod.mk.inj z7
                    obtain ⟨q9, z9⟩ := Prod.mk.inj z8
                    obtain ⟨q10, z10⟩ := Prod.mk.inj z9
                    obtain ⟨q11, z11⟩ := Prod.mk.inj z10
                    obtain ⟨q12, z12⟩ := Prod.mk.inj z11
                    obtain ⟨q13, z13⟩ := Prod.mk.inj z12
                    obtain ⟨q14, z14⟩ := Prod.mk.inj z13
                    subst q1
                    subst q2
                    subst q3
                    subst q4
                    subst q5
                    subst q6
                    subst q7
                    subst q8
                    subst q9
                    subst q10
                    subst q11
                    subst q12
                    subst q13
                    subst q14
                    subst z14
                    exact sp_iret S hr hlk hW hQ dX10_text_161
                  · have hf := sp_ht hf hc
                    refine lv_bipush (v := (-100)) hx hb dX10_text_146 (by decide) ?_
                    refine lv_aload_n hx hb dX10_text_148 rfl (lv_at hl 1 rfl) ?_
                    refine sp_get S hK hW inX10 0 rfl rfl 16 (by decide) lk4 rfl dX10_text_149 ?_
                    refine lv_iload hx hb dX10_text_152 (lv_at hl 0 rfl) ?_
                    refine lv_isub hx hb dX10_text_154 ?_
                    refine lv_isub hx hb dX10_text_155 ?_
                    have q0 := Option.some.inj hf
                    obtain ⟨q1, z1⟩ := Prod.mk.inj q0
                    obtain ⟨q2, z2⟩ := Prod.mk.inj z1
                    obtain ⟨q3, z3⟩ := Prod.mk.inj z2
                    obtain ⟨q4, z4⟩ := Prod.mk.inj z3
                    obtain ⟨q5, z5⟩ := Prod.mk.inj z4
                    obtain ⟨q6, z6⟩ := Prod.mk.inj z5
                    obtain ⟨q7, z7⟩ := Prod.mk.inj z6
                    obtain ⟨q8, z8⟩ := Prod.mk.inj z7
                    obtain ⟨q9, z9⟩ := Prod.mk.inj z8
                    obtain ⟨q10, z10⟩ := Prod.mk.inj z9
                    obtain ⟨q11, z11⟩ := Prod.mk.inj z10
                    obtain ⟨q12, z12⟩ := Prod.mk.inj z11
                    obtain ⟨q13, z13⟩ := Prod.mk.inj z12
                    obtain ⟨q14, z14⟩ := Prod.mk.inj z13
                    subst q1
                    subst q2
                    subst q3
                    subst q4
                    subst q5
                    subst q6
                    subst q7
                    subst q8
                    subst q9
                    subst q10
                    subst q11
                    subst q12
                    subst q13
                    subst q14
                    subst z14
                    exact sp_iret S hr hlk hW hQ dX10_text_156
                · have hf := sp_hf hf hc
                  exact hj20 _ _ _ _ _ _ _ _ _ _ _ _ _ _ _ _ hf hW (lv_sub hl [0] rfl)
          · have hf := sp_hf hf hc
            refine lv_aload_n hx hb dX10_text_73 rfl (lv_at hl 0 rfl) ?_
            refine lv_iconst (v := 4) hx hb dX10_text_74 (by decide) ?_
            obtain ⟨⟨r41, c42⟩, hc42, hf⟩ := sp_hc hf
            refine sp_callViP (rest := []) S hK hG hA hW (c_X10_fails a c4 tr la sl ce pn mn cl le ri lt nm nc nl nr nt at9 en9 de mm ma ne us lk sd sf nu gt gl tb sc su (4 : Int32) hc42) (by decide) (cwV 1 S.2.2.2.2 gX10_text_X10_fails rfl rfl rfl (by decide +kernel) (by decide)) 8 0 rfl rfl (sp_pn _) rfl (WS' := sw_M a q5 c42 tr la sl ce pn mn cl le ri lt nm nc nl nr nt at9 en9 de mm ma ne us lk sd sf nu gt gl tb sc su) (sp_pn' _) rfl hl.1 (Nat.le_of_ble_eq_true rfl) dX10_text_75 ⟨Nat.zero_le _, Nat.zero_le _⟩ rfl (fun H locs hW => ?_)
            have q0 := Option.some.inj hf
            obtain ⟨q1, z1⟩ := Prod.mk.inj q0
            obtain ⟨q2, z2⟩ := Prod.mk.inj z1
            obtain ⟨q3, z3⟩ := Prod.mk.inj z2
            obtain ⟨q4, z4⟩ := Prod.mk.inj z3
            obtain ⟨q5, z5⟩ := Prod.mk.inj z4
            obtain ⟨q6, z6⟩ := Prod.mk.inj z5
            obtain ⟨q7, z7⟩ := Prod.mk.inj z6
            obtain ⟨q8, z8⟩ := Prod.mk.inj z7
            obtain ⟨q9, z9⟩ := Prod.mk.inj z8
            obtain ⟨q10, z10⟩ := Prod.mk.inj z9
            obtain ⟨q11, z11⟩ := Prod.mk.inj z10
            obtain ⟨q12, z12⟩ := Prod.mk.inj z11
            obtain ⟨q13, z13⟩ := Prod.mk.inj z12
            obtain ⟨q14, z14⟩ := Prod.mk.inj z13
            subst q1
            subst q2
            subst q3
            subst q4
            subst q5
            subst q6
            subst q7
            subst q8
            subst q9
            subst q10
            subst q11
            subst q12
            subst q13
            subst q14
            subst z14
            exact sp_iret S hr hlk hW hQ dX10_text_78
        · have hf := sp_ht hf hc
          refine lv_aload_n hx hb dX10_text_62 rfl (lv_at hl 0 rfl) ?_
          refine lv_iconst (v := 1) hx hb dX10_text_63 (by decide) ?_
          obtain ⟨⟨r43, c44⟩, hc44, hf⟩ := sp_hc hf
          refine sp_callViP (rest := []) S hK hG hA hW (c_X10_fails a c4 tr la sl ce pn mn cl le ri lt nm nc nl nr nt at9 en9 de mm ma ne us lk sd sf nu gt gl tb sc su (1 : Int32) hc44) (by decide) (cwV 1 S.2.2.2.2 gX10_text_X10_fails rfl rfl rfl (by decide +kernel) (by decide)) 8 0 rfl rfl (sp_pn _) rfl (WS' := sw_M a q5 c44 tr la sl ce pn mn cl le ri lt nm nc nl nr nt at9 en9 de mm ma ne us lk sd sf nu gt gl tb sc su) (sp_pn' _) rfl hl.1 (Nat.le_of_ble_eq_true rfl) dX10_text_64 ⟨Nat.zero_le _, Nat.zero_le _⟩ rfl (fun H locs hW => ?_)
          have q0 := Option.some.inj hf
          obtain ⟨q1, z1⟩ := Prod.mk.inj q0
          obtain ⟨q2, z2⟩ := Prod.mk.inj z1
          obtain ⟨q3, z3⟩ := Prod.mk.inj z2
          obtain ⟨q4, z4⟩ := Prod.mk.inj z3
          obtain ⟨q5, z5⟩ := Prod.mk.inj z4
          obtain ⟨q6, z6⟩ := Prod.mk.inj z5
          obtain ⟨q7, z7⟩ := Prod.mk.inj z6
          obtain ⟨q8, z8⟩ := Prod.mk.inj z7
          obtain ⟨q9, z9⟩ := Prod.mk.inj z8
          obtain ⟨q10, z10⟩ := Prod.mk.inj z9
          obtain ⟨q11, z11⟩ := Prod.mk.inj z10
          obtain ⟨q12, z12⟩ := Prod.mk.inj z11
          obtain ⟨q13, z13⟩ := Prod.mk.inj z12
          obtain ⟨q14, z14⟩ := Prod.mk.inj z13
          subst q1
          subst q2
          subst q3
          subst q4
          subst q5
          subst q6
          subst q7
          subst q8
          subst q9
          subst q10
          subst q11
          subst q12
          subst q13
          subst q14
          subst z14
          exact sp_iret S hr hlk hW hQ dX10_text_67
      refine lv_icmp_eq (tgt := 51) hx hb dX10_text_32 (by decide) (fun hc => ?_) (fun hc => ?_)
      · have hf := sp_ht hf hc
        exact hj5 _ _ _ _ hf hW (lv_sub hl [0, 1, 3, 4] rfl)
      · have hf := sp_hf hf hc
        refine lv_aload_n hx hb dX10_text_35 rfl (lv_at hl 0 rfl) ?_
        refine sp_get S hK hW inX10 0 rfl rfl 2 (by decide) lk2 rfl dX10_text_36 ?_
        refine lv_iload_n hx hb dX10_text_39 rfl (lv_at hl 1 rfl) ?_
        obtain ⟨hin, v45, ev45, hf⟩ := sp_hld hf
        refine sp_iald S hK hW 1 rfl hin ev45 dX10_text_40 ?_
        refine lv_iload_n hx hb dX10_text_41 rfl (lv_at hl 2 rfl) ?_
        refine lv_icmp_eq (tgt := 51) hx hb dX10_text_42 (by decide) (fun hc => ?_) (fun hc => ?_)
        · have hf := sp_ht hf hc
          exact hj5 _ _ _ _ hf hW (lv_sub hl [0, 1, 3, 4] rfl)
        · have hf := sp_hf hf hc
          refine lv_aload_n hx hb dX10_text_45 rfl (lv_at hl 0 rfl) ?_
          refine lv_iconst (v := 2) hx hb dX10_text_46 (by decide) ?_
          obtain ⟨⟨r46, c47⟩, hc47, hf⟩ := sp_hc hf
          refine sp_callViP (rest := []) S hK hG hA hW (c_X10_fails a (0 : Int32) tr la sl ce pn mn cl le ri lt nm nc nl nr nt at9 en9 de mm ma ne us lk sd sf nu gt gl tb sc su (2 : Int32) hc47) (by decide) (cwV 1 S.2.2.2.2 gX10_text_X10_fails rfl rfl rfl (by decide +kernel) (by decide)) 8 0 rfl rfl (sp_pn _) rfl (WS' := sw_M a q5 c47 tr la sl ce pn mn cl le ri lt nm nc nl nr nt at9 en9 de mm ma ne us lk sd sf nu gt gl tb sc su) (sp_pn' _) rfl hl.1 (Nat.le_of_ble_eq_true rfl) dX10_text_47 ⟨Nat.zero_le _, Nat.zero_le _⟩ rfl (fun H locs hW => ?_)
          have q0 := Option.some.inj hf
          obtain ⟨q1, z1⟩ := Prod.mk.inj q0
          obtain ⟨q2, z2⟩ := Prod.mk.inj z1
          obtain ⟨q3, z3⟩ := Prod.mk.inj z2
          obtain ⟨q4, z4⟩ := Prod.mk.inj z3
          obtain ⟨q5, z5⟩ := Prod.mk.inj z4
          obtain ⟨q6, z6⟩ := Prod.mk.inj z5
          obtain ⟨q7, z7⟩ := Prod.mk.inj z6
          obtain ⟨q8, z8⟩ := Prod.mk.inj z7
          obtain ⟨q9, z9⟩ := Prod.mk.inj z8
          obtain ⟨q10, z10⟩ := Prod.mk.inj z9
          obtain ⟨q11, z11⟩ := Prod.mk.inj z10
          obtain ⟨q12, z12⟩ := Prod.mk.inj z11
          obtain ⟨q13, z13⟩ := Prod.mk.inj z12
          obtain ⟨q14, z14⟩ := Prod.mk.inj z13
          subst q1
          subst q2
          subst q3
          subst q4
          subst q5
          subst q6
          subst q7
          subst q8
          subst q9
          subst q10
          subst q11
          subst q12
          subst q13
          subst q14
          subst z14
          exact sp_iret S hr hlk hW hQ dX10_text_50
    · have hf := sp_ht hf hc
      refine lv_bipush (v := (-2)) hx hb dX10_text_21 (by decide) ?_
      have q0 := Option.some.inj hf
      obtain ⟨q1, z1⟩ := Prod.mk.inj q0
      obtain ⟨q2, z2⟩ := Prod.mk.inj z1
      obtain ⟨q3, z3⟩ := Prod.mk.inj z2
      obtain ⟨q4, z4⟩ := Prod.mk.inj z3
      obtain ⟨q5, z5⟩ := Prod.mk.inj z4
      obtain ⟨q6, z6⟩ := Prod.mk.inj z5
      obtain ⟨q7, z7⟩ := Prod.mk.inj z6
      obtain ⟨q8, z8⟩ := Prod.mk.inj z7
      obtain ⟨q9, z9⟩ := Prod.mk.inj z8
      obtain ⟨q10, z10⟩ := Prod.mk.inj z9
      obtain ⟨q11, z11⟩ := Prod.mk.inj z10
      obtain ⟨q12, z12⟩ := Prod.mk.inj z11
      obtain ⟨q13, z13⟩ := Prod.mk.inj z12
      obtain ⟨q14, z14⟩ := Prod.mk.inj z13
      subst q1
      subst q2
      subst q3
      subst q4
      subst q5
      subst q6
      subst q7
      subst q8
      subst q9
      subst q10
      subst q11
      subst q12
      subst q13
      subst q14
      subst z14
      exact sp_iret S hr hlk hW hQ dX10_text_23
  · have hf := sp_ht hf hc
    refine lv_iconst (v := (-1)) hx hb dX10_text_12 (by decide) ?_
    have q0 := Option.some.inj hf
    obtain ⟨q1, z1⟩ := Prod.mk.inj q0
    obtain ⟨q2, z2⟩ := Prod.mk.inj z1
    obtain ⟨q3, z3⟩ := Prod.mk.inj z2
    obtain ⟨q4, z4⟩ := Prod.mk.inj z3
    obtain ⟨q5, z5⟩ := Prod.mk.inj z4
    obtain ⟨q6, z6⟩ := Prod.mk.inj z5
    obtain ⟨q7, z7⟩ := Prod.mk.inj z6
    obtain ⟨q8, z8⟩ := Prod.mk.inj z7
    obtain ⟨q9, z9⟩ := Prod.mk.inj z8
    obtain ⟨q10, z10⟩ := Prod.mk.inj z9
    obtain ⟨q11, z11⟩ := Prod.mk.inj z10
    obtain ⟨q12, z12⟩ := Prod.mk.inj z11
    obtain ⟨q13, z13⟩ := Prod.mk.inj z12
    obtain ⟨q14, z14⟩ := Prod.mk.inj z13
    subst q1
    subst q2
    subst q3
    subst q4
    subst q5
    subst q6
    subst q7
    subst q8
    subst q9
    subst q10
    subst q11
    subst q12
    subst q13
    subst q14
    subst z14
    exact sp_iret S hr hlk hW hQ dX10_text_13

def f_X10_kindOf (p1 : Int32) (p2 : Int32) (mn : Nat → Int32) (lt : Nat → Int32) : Option (Int32) := sp_ld lt 288 (((24 : Int32) * p1) + p2) (fun v1 => if v1 = (-9 : Int32) then (some (0 : Int32)) else (sp_ld mn 12 p1 (fun v2 => if p2 = (v2 - (1 : Int32)) then (some (2 : Int32)) else (some (1 : Int32)))))
def rmX10_kindOf : Room := { frames := 0, cells := 0, slots := 0, locals := 0 }
set_option maxRecDepth 4000 in
theorem c_X10_kindOf {l : Launch} {D : va_G} {q5 : Nat → ClassId} (a : Nat → Nat) (fa : Int32) (tr : Int32) (la : Nat → Int32) (sl : Nat → Int32) (ce : Nat → Int32) (pn : Int32) (mn : Nat → Int32) (cl : Nat → Int32) (le : Nat → Int32) (ri : Nat → Int32) (lt : Nat → Int32) (nm : Int32) (nc : Nat → Int32) (nl : Nat → Int32) (nr : Nat → Int32) (nt : Nat → Int32) (at9 : Int32) (en9 : Int32) (de : Nat → Int32) (mm : Int32) (ma : Nat → Int32) (ne : Nat → Int32) (us : Nat → Int32) (lk : Nat → Int32) (sd : Nat → Int32) (sf : Nat → Int32) (nu : Nat → Int32) (gt : Nat → Int64) (gl : Nat → Int32) (tb : Nat → Int64) (sc : Nat → Int32) (su : Nat → Int32) (p1 : Int32) (p2 : Int32) {r' : Int32} (hf : f_X10_kindOf p1 p2 mn lt = some r') : sp_Ci l yX10_kindOf wsX10_kindOf rmX10_kindOf D q5 0 [.ref (a 0), .int p1, .int p2] (sw_M a q5 fa tr la sl ce pn mn cl le ri lt nm nc nl nr nt at9 en9 de mm ma ne us lk sd sf nu gt gl tb sc su) r' (sw_M a q5 fa tr la sl ce pn mn cl le ri lt nm nc nl nr nt at9 en9 de mm ma ne us lk sd sf nu gt gl tb sc su) := by
  intro sz
  refine sp_of (cc := cX10_kindOf) (maxL := 3) (ret := some .int) (own := RX10) (Qc := sp_Qi D r' (sw_M a q5 fa tr la sl ce pn mn cl le ri lt nm nc nl nr nt at9 en9 de mm ma ne us lk sd sf nu gt gl tb sc su)) (by decide) rfl rfl (Nat.le_of_ble_eq_true rfl) ?_
  intro p e s m args below meth c A ls Q hQ S hr hlk hK hG hA hW hl
  have hx := S.1
  have hb := S.2.1
  unfold f_X10_kindOf at hf
  have inX10 : ∀ w ∈ u_ws RX10 TX10 32, w ∈ wsX10_kindOf := (fun _ h => List.mem_cons_of_mem _ (List.mem_append_right _ h))
  have lk1 := S.2.2.2.2 (Cond.fieldLink RX10 31 "ShortProofsModel" "letters" "[I") (List.mem_of_getElem? (i := 1) rfl)
  have lk2 := S.2.2.2.2 (Cond.fieldLink RX10 19 "ShortProofsModel" "many" "[I") (List.mem_of_getElem? (i := 2) rfl)
  refine lv_aload_n hx hb dX10_kindOf_0 rfl (lv_at hl 0 rfl) ?_
  refine sp_get S hK hW inX10 0 rfl rfl 10 (by decide) lk1 rfl dX10_kindOf_1 ?_
  refine lv_bipush (v := 24) hx hb dX10_kindOf_4 (by decide) ?_
  refine lv_iload_n hx hb dX10_kindOf_6 rfl (lv_at hl 1 rfl) ?_
  refine lv_imul hx hb dX10_kindOf_7 ?_
  refine lv_iload_n hx hb dX10_kindOf_8 rfl (lv_at hl 2 rfl) ?_
  refine lv_iadd hx hb dX10_kindOf_9 ?_
  obtain ⟨hin, v1, ev1, hf⟩ := sp_hld hf
  refine sp_iald S hK hW 8 rfl hin ev1 dX10_kindOf_10 ?_
  refine lv_bipush (v := (-9)) hx hb dX10_kindOf_11 (by decide) ?_
  refine lv_icmp_ne (tgt := 20) hx hb dX10_kindOf_13 (by decide) (fun hc => ?_) (fun hc => ?_)
  · have hf := sp_hf hf hc
    refine lv_iload_n hx hb dX10_kindOf_20 rfl (lv_at hl 2 rfl) ?_
    refine lv_aload_n hx hb dX10_kindOf_21 rfl (lv_at hl 0 rfl) ?_
    refine sp_get S hK hW inX10 0 rfl rfl 6 (by decide) lk2 rfl dX10_kindOf_22 ?_
    refine lv_iload_n hx hb dX10_kindOf_25 rfl (lv_at hl 1 rfl) ?_
    obtain ⟨hin, v2, ev2, hf⟩ := sp_hld hf
    refine sp_iald S hK hW 4 rfl hin ev2 dX10_kindOf_26 ?_
    refine lv_iconst (v := 1) hx hb dX10_kindOf_27 (by decide) ?_
    refine lv_isub hx hb dX10_kindOf_28 ?_
    refine lv_icmp_ne (tgt := 36) hx hb dX10_kindOf_29 (by decide) (fun hc => ?_) (fun hc => ?_)
    · have hf := sp_hf hf hc
      refine lv_iconst (v := 1) hx hb dX10_kindOf_36 (by decide) ?_
      have q0 := Option.some.inj hf
      subst q0
      exact sp_iret S hr hlk hW hQ dX10_kindOf_37
    · have hf := sp_ht hf hc
      refine lv_iconst (v := 2) hx hb dX10_kindOf_32 (by decide) ?_
      refine lv_goto (tgt := 37) hx hb dX10_kindOf_33 (by decide) ?_
      have q0 := Option.some.inj hf
      subst q0
      exact sp_iret S hr hlk hW hQ dX10_kindOf_37
  · have hf := sp_ht hf hc
    refine lv_iconst (v := 0) hx hb dX10_kindOf_16 (by decide) ?_
    refine lv_goto (tgt := 37) hx hb dX10_kindOf_17 (by decide) ?_
    have q0 := Option.some.inj hf
    subst q0
    exact sp_iret S hr hlk hW hQ dX10_kindOf_37
