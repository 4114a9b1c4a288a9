def f_X10_keptAs_L17 (mn : Nat → Int32) (p1 : Int32) (k8 : Int32 → Option (Int32)) (y2 : Int32) (le : Nat → Int32) (ri : Nat → Int32) (lt : Nat → Int32) (rec17 : (Int32 × Int32) → Option (Int32)) (s9 : Int32 × Int32) : Option (Int32) := match s9 with
  | (y5, y6) => sp_ld mn 12 p1 (fun v13 => if v13 ≤ y6 then (k8 y5) else (Option.bind (f_X10_isFrom p1 y6 y2 le ri lt) (fun r14 => sp_bnd (y5 ||| r14) (fun v15 => sp_bnd (y6 + (1 : Int32)) (fun v16 => rec17 (v15, v16))))))
theorem f_X10_keptAs_L17_eq {rec17 : (Int32 × Int32) → Option (Int32)} {mn : Nat → Int32} {p1 : Int32} {k8 : Int32 → Option (Int32)} {y2 : Int32} {le : Nat → Int32} {ri : Nat → Int32} {lt : Nat → Int32} {y5 : Int32} {y6 : Int32} : f_X10_keptAs_L17 mn p1 k8 y2 le ri lt rec17 (y5, y6) = (sp_ld mn 12 p1 (fun v13 => if v13 ≤ y6 then (k8 y5) else (Option.bind (f_X10_isFrom p1 y6 y2 le ri lt) (fun r14 => sp_bnd (y5 ||| r14) (fun v15 => sp_bnd (y6 + (1 : Int32)) (fun v16 => rec17 (v15, v16))))))) := rfl
def f_X10_keptAs_L5 (p2 : Int32) (k4 : Int32 → Option (Int32)) (mn : Nat → Int32) (p1 : Int32) (le : Nat → Int32) (ri : Nat → Int32) (lt : Nat → Int32) (rec5 : (Int32 × Int32) → Option (Int32)) (s9 : Int32 × Int32) : Option (Int32) := match s9 with
  | (y1, y2) => if p2 ≤ y2 then (k4 y1) else (sp_bnd (fun (x7 : Int32) => sp_bnd (fun (x9 : Int32) => sp_bnd (y1 + x9) (fun v11 => sp_bnd (y2 + (1 : Int32)) (fun v12 => rec5 (v11, v12)))) (fun k10 => if x7 = 0 then (k10 (0 : Int32)) else (k10 (1 : Int32)))) (fun k8 => sp_lp (f_X10_keptAs_L17 mn p1 k8 y2 le ri lt) sp_F ((0 : Int32), p2)))
theorem f_X10_keptAs_L5_eq {rec5 : (Int32 × Int32) → Option (Int32)} {p2 : Int32} {k4 : Int32 → Option (Int32)} {mn : Nat → Int32} {p1 : Int32} {le : Nat → Int32} {ri : Nat → Int32} {lt : Nat → Int32} {y1 : Int32} {y2 : Int32} : f_X10_keptAs_L5 p2 k4 mn p1 le ri lt rec5 (y1, y2) = (if p2 ≤ y2 then (k4 y1) else (sp_bnd (fun (x7 : Int32) => sp_bnd (fun (x9 : Int32) => sp_bnd (y1 + x9) (fun v11 => sp_bnd (y2 + (1 : Int32)) (fun v12 => rec5 (v11, v12)))) (fun k10 => if x7 = 0 then (k10 (0 : Int32)) else (k10 (1 : Int32)))) (fun k8 => sp_lp (f_X10_keptAs_L17 mn p1 k8 y2 le ri lt) sp_F ((0 : Int32), p2)))) := rfl
def f_X10_keptAs (p1 : Int32) (p2 : Int32) (mn : Nat → Int32) (le : Nat → Int32) (ri : Nat → Int32) (lt : Nat → Int32) : Option (Int32) := sp_bnd (fun (x3 : Int32) => some x3) (fun k4 => sp_lp (f_X10_keptAs_L5 p2 k4 mn p1 le ri lt) sp_F ((1 : Int32), (0 : Int32)))
def rmX10_keptAs : Room := { frames := 1, cells := 0, slots := 0, locals := 23 }
set_option maxRecDepth 4000 in
theorem c_X10_keptAs {l : Launch} {D : va_G} {q5 : Nat → ClassId} (a : Nat → Nat) (fa : Int32) (tr : Int32) (la : Nat → Int32) (sl : Nat → Int32) (ce : Nat → Int32) (pn : Int32) (mn : Nat → Int32) (cl : Nat → Int32) (le : Nat → Int32) (ri : Nat → Int32) (lt : Nat → Int32) (nm : Int32) (nc : Nat → Int32) (nl : Nat → Int32) (nr : Nat → Int32) (nt : Nat → Int32) (at9 : Int32) (en9 : Int32) (de : Nat → Int32) (mm : Int32) (ma : Nat → Int32) (ne : Nat → Int32) (us : Nat → Int32) (lk : Nat → Int32) (sd : Nat → Int32) (sf : Nat → Int32) (nu : Nat → Int32) (gt : Nat → Int64) (gl : Nat → Int32) (tb : Nat → Int64) (sc : Nat → Int32) (su : Nat → Int32) (p1 : Int32) (p2 : Int32) {r' : Int32} (hf : f_X10_keptAs p1 p2 mn le ri lt = some r') : sp_Ci l yX10_keptAs wsX10_keptAs rmX10_keptAs D q5 0 [.ref (a 0), .int p1, .int p2] (sw_M a q5 fa tr la sl ce pn mn cl le ri lt nm nc nl nr nt at9 en9 de mm ma ne us lk sd sf nu gt gl tb sc su) r' (sw_M a q5 fa tr la sl ce pn mn cl le ri lt nm nc nl nr nt at9 en9 de mm ma ne us lk sd sf nu gt gl tb sc su) := by
  intro sz
  refine sp_of (cc := cX10_keptAs) (maxL := 7) (ret := some .int) (own := RX10) (Qc := sp_Qi D r' (sw_M a q5 fa tr la sl ce pn mn cl le ri lt nm nc nl nr nt at9 en9 de mm ma ne us lk sd sf nu gt gl tb sc su)) (by decide) rfl rfl (Nat.le_of_ble_eq_true rfl) ?_
  intro p e s m args below meth c A ls Q hQ S hr hlk hK hG hA hW hl
  have hx := S.1
  have hb := S.2.1
  unfold f_X10_keptAs at hf
  have inX10 : ∀ w ∈ u_ws RX10 TX10 32, w ∈ wsX10_keptAs := (fun _ h => List.mem_cons_of_mem _ (List.mem_append_right _ h))
  have lk1 := S.2.2.2.2 (Cond.fieldLink RX10 19 "ShortProofsModel" "many" "[I") (List.mem_of_getElem? (i := 1) rfl)
  refine lv_iconst (v := 1) hx hb dX10_keptAs_0 (by decide) ?_
  refine lv_istore_n (lv' := [(3, .int (1 : Int32)), (0, .ref (a 0)), (1, .int p1), (2, .int p2)]) hx hb dX10_keptAs_1 rfl hl (by decide) rfl (fun ls hl => ?_)
  refine lv_iconst (v := 0) hx hb dX10_keptAs_2 (by decide) ?_
  refine lv_istore (lv' := [(4, .int (0 : Int32)), (3, .int (1 : Int32)), (0, .ref (a 0)), (1, .int p1), (2, .int p2)]) hx hb dX10_keptAs_3 hl (by decide) rfl (fun ls hl => ?_)
  obtain ⟨k4, ek4, hf⟩ := sp_hb hf
  have hj4 : ∀ (x3 : Int32) (H : Heap) (locs : List Loc) (ls : Array Slot), k4 x3 = some r' → sp_wd D A s.heap (sw_M a q5 fa tr la sl ce pn mn cl le ri lt nm nc nl nr nt at9 en9 de mm ma ne us lk sd sf nu gt gl tb sc su) H locs → lv_has ls 7 [(3, .int x3)] → W p l e rmX10_keptAs s m args below meth c H locs 0 0 Q (F0 m 67 ls []) := by
    intro x3 H locs ls hf hW hl
    rw [ek4] at hf
    refine lv_iload_n hx hb dX10_keptAs_67 rfl (lv_at hl 0 rfl) ?_
    have q0 := Option.some.inj hf
    subst q0
    exact sp_iret S hr hlk hW hQ dX10_keptAs_68
  have hlp5 : ∀ (n9 : Nat) (y1 : Int32) (y2 : Int32) (H : Heap) (locs : List Loc) (ls : Array Slot), sp_lp (f_X10_keptAs_L5 p2 k4 mn p1 le ri lt) n9 (y1, y2) = some r' → sp_wd D A s.heap (sw_M a q5 fa tr la sl ce pn mn cl le ri lt nm nc nl nr nt at9 en9 de mm ma ne us lk sd sf nu gt gl tb sc su) H locs → lv_has ls 7 [(0, .ref (a 0)), (1, .int p1), (2, .int p2), (3, .int y1), (4, .int y2)] → W p l e rmX10_keptAs s m args below meth c H locs 0 0 Q (F0 m 5 ls []) := by
    intro n9
    induction n9 with
    | zero =>
      intro y1 y2 H locs ls hf hW hl
      exact (sp_lp0 hf).elim
    | succ n9 ih5 =>
      intro y1 y2 H locs ls hf hW hl
      have hf := sp_lpS hf
      rw [f_X10_keptAs_L5_eq] at hf
      refine lv_iload hx hb dX10_keptAs_5 (lv_at hl 4 rfl) ?_
      refine lv_iload_n hx hb dX10_keptAs_7 rfl (lv_at hl 2 rfl) ?_
      refine lv_icmp_ge (tgt := 67) hx hb dX10_keptAs_8 (by decide) (fun hc => ?_) (fun hc => ?_)
      · have hf := sp_ht hf hc
        exact hj4 _ _ _ _ hf hW (lv_sub hl [3] rfl)
      · have hf := sp_hf hf hc
        refine lv_iconst (v := 0) hx hb dX10_keptAs_11 (by decide) ?_
        refine lv_istore (lv' := [(5, .int (0 : Int32)), (0, .ref (a 0)), (1, .int p1), (2, .int p2), (3, .int y1), (4, .int y2)]) hx hb dX10_keptAs_12 hl (by decide) rfl (fun ls hl => ?_)
        refine lv_iload_n hx hb dX10_keptAs_14 rfl (lv_at hl 3 rfl) ?_
        refine lv_istore (lv' := [(6, .int p2), (5, .int (0 : Int32)), (0, .ref (a 0)), (1, .int p1), (2, .int p2), (3, .int y1), (4, .int y2)]) hx hb dX10_keptAs_15 hl (by decide) rfl (fun ls hl => ?_)
        obtain ⟨k8, ek8, hf⟩ := sp_hb hf
        have hj8 : ∀ (x7 : Int32) (H : Heap) (locs : List Loc) (ls : Array Slot), k8 x7 = some r' → sp_wd D A s.heap (sw_M a q5 fa tr la sl ce pn mn cl le ri lt nm nc nl nr nt at9 en9 de mm ma ne us lk sd sf nu gt gl tb sc su) H locs → lv_has ls 7 [(0, .ref (a 0)), (1, .int p1), (2, .int p2), (3, .int y1), (4, .int y2), (5, .int x7)] → W p l e rmX10_keptAs s m args below meth c H locs 0 0 Q (F0 m 48 ls []) := by
          intro x7 H locs ls hf hW hl
          rw [ek8] at hf
          refine lv_iload_n hx hb dX10_keptAs_48 rfl (lv_at hl 3 rfl) ?_
          refine lv_iload hx hb dX10_keptAs_49 (lv_at hl 5 rfl) ?_
          obtain ⟨k10, ek10, hf⟩ := sp_hb hf
          have hj10 : ∀ (x9 : Int32) (H : Heap) (locs : List Loc) (ls : Array Slot), k10 x9 = some r' → sp_wd D A s.heap (sw_M a q5 fa tr la sl ce pn mn cl le ri lt nm nc nl nr nt at9 en9 de mm ma ne us lk sd sf nu gt gl tb sc su) H locs → lv_has ls 7 [(0, .ref (a 0)), (1, .int p1), (2, .int p2), (4, .int y2)] → W p l e rmX10_keptAs s m args below meth c H locs 0 0 Q (F0 m 59 ls [.int x9, .int y1]) := by
            intro x9 H locs ls hf hW hl
            rw [ek10] at hf
            refine lv_iadd hx hb dX10_keptAs_59 ?_
            obtain ⟨v11, ev11, hf⟩ := sp_hb hf
            refine sp_topi ev11 ?_
            refine lv_istore_n (lv' := [(3, .int v11), (0, .ref (a 0)), (1, .int p1), (2, .int p2), (4, .int y2)]) hx hb dX10_keptAs_60 rfl hl (by decide) rfl (fun ls hl => ?_)
            obtain ⟨v12, ev12, hf⟩ := sp_hb hf
            refine lv_iinc (v := v12) (lv' := [(4, .int v12), (3, .int v11), (0, .ref (a 0)), (1, .int p1), (2, .int p2)]) hx hb dX10_keptAs_61 hl (k := 4) rfl (by rw [ev12]; rfl) (by decide) rfl (fun ls hl => ?_)
            refine lv_goto (tgt := 5) hx hb dX10_keptAs_64 (by decide) ?_
            exact ih5 _ _ _ _ _ hf hW (lv_sub hl [2, 3, 4, 1, 0] rfl)
          refine lv_if_eq (tgt := 58) hx hb dX10_keptAs_51 (by decide) (fun hc => ?_) (fun hc => ?_)
          · have hf := sp_ht hf hc
            refine lv_iconst (v := 0) hx hb dX10_keptAs_58 (by decide) ?_
            exact hj10 _ _ _ _ hf hW (lv_sub hl [0, 1, 2, 4] rfl)
          · have hf := sp_hf hf hc
            refine lv_iconst (v := 1) hx hb dX10_keptAs_54 (by decide) ?_
            refine lv_goto (tgt := 59) hx hb dX10_keptAs_55 (by decide) ?_
            exact hj10 _ _ _ _ hf hW (lv_sub hl [0, 1, 2, 4] rfl)
        have hlp17 : ∀ (n9 : Nat) (y5 : Int32) (y6 : Int32) (H : Heap) (locs : List Loc) (ls : Array Slot), sp_lp (f_X10_keptAs_L17 mn p1 k8 y2 le ri lt) n9 (y5, y6) = some r' → sp_wd D A s.heap (sw_M a q5 fa tr la sl ce pn mn cl le ri lt nm nc nl nr nt at9 en9 de mm ma ne us lk sd sf nu gt gl tb sc su) H locs → lv_has ls 7 [(0, .ref (a 0)), (1, .int p1), (2, .int p2), (3, .int y1), (4, .int y2), (5, .int y5), (6, .int y6)] → W p l e rmX10_keptAs s m args below meth c H locs 0 0 Q (F0 m 17 ls []) := by
          intro n9
          induction n9 with
          | zero =>
            intro y5 y6 H locs ls hf hW hl
            exact (sp_lp0 hf).elim
          | succ n9 ih17 =>
            intro y5 y6 H locs ls hf hW hl
            have hf := sp_lpS hf
            rw [f_X10_keptAs_L17_eq] at hf
            refine lv_iload hx hb dX10_keptAs_17 (lv_at hl 6 rfl) ?_
            refine lv_aload_n hx hb dX10_keptAs_19 rfl (lv_at hl 0 rfl) ?_
            refine sp_get S hK hW inX10 0 rfl rfl 6 (by decide) lk1 rfl dX10_keptAs_20 ?_
            refine lv_iload_n hx hb dX10_keptAs_23 rfl (lv_at hl 1 rfl) ?_
            obtain ⟨hin, v13, ev13, hf⟩ := sp_hld hf
            refine sp_iald S hK hW 4 rfl hin ev13 dX10_keptAs_24 ?_
            refine lv_icmp_ge (tgt := 48) hx hb dX10_keptAs_25 (by decide) (fun hc => ?_) (fun hc => ?_)
            · have hf := sp_ht hf hc
              exact hj8 _ _ _ _ hf hW (lv_sub hl [0, 1, 2, 3, 4, 5] rfl)
            · have hf := sp_hf hf hc
              refine lv_iload hx hb dX10_keptAs_28 (lv_at hl 5 rfl) ?_
              refine lv_aload_n hx hb dX10_keptAs_30 rfl (lv_at hl 0 rfl) ?_
              refine lv_iload_n hx hb dX10_keptAs_31 rfl (lv_at hl 1 rfl) ?_
              refine lv_iload hx hb dX10_keptAs_32 (lv_at hl 6 rfl) ?_
              refine lv_iload hx hb dX10_keptAs_34 (lv_at hl 4 rfl) ?_
              obtain ⟨r14, hc14, hf⟩ := sp_hc hf
              refine sp_callViP (rest := [.int y5]) S hK hG hA hW (c_X10_isFrom a fa tr la sl ce pn mn cl le ri lt nm nc nl nr nt at9 en9 de mm ma ne us lk sd sf nu gt gl tb sc su p1 y6 y2 hc14) (by decide) (cwV 3 S.2.2.2.2 gX10_keptAs_X10_isFrom rfl rfl rfl (by decide +kernel) (by decide)) 8 0 rfl rfl (sp_pn _) rfl (WS' := sw_M a q5 fa tr la sl ce pn mn cl le ri lt nm nc nl nr nt at9 en9 de mm ma ne us lk sd sf nu gt gl tb sc su) (sp_pn' _) rfl hl.1 (Nat.le_of_ble_eq_true rfl) dX10_keptAs_36 ⟨Nat.zero_le _, Nat.zero_le _⟩ rfl (fun H locs hW => ?_)
              refine lv_ior hx hb dX10_keptAs_39 ?_
              obtain ⟨v15, ev15, hf⟩ := sp_hb hf
              refine sp_topi ev15 ?_
              refine lv_istore (lv' := [(5, .int v15), (0, .ref (a 0)), (1, .int p1), (2, .int p2), (3, .int y1), (4, .int y2), (6, .int y6)]) hx hb dX10_keptAs_40 hl (by decide) rfl (fun ls hl => ?_)
              obtain ⟨v16, ev16, hf⟩ := sp_hb hf
              refine lv_iinc (v := v16) (lv' := [(6, .int v16), (5, .int v15), (0, .ref (a 0)), (1, .int p1), (2, .int p2), (3, .int y1), (4, .int y2)]) hx hb dX10_keptAs_42 hl (k := 6) rfl (by rw [ev16]; rfl) (by decide) rfl (fun ls hl => ?_)
              refine lv_goto (tgt := 17) hx hb dX10_keptAs_45 (by decide) ?_
              exact ih17 _ _ _ _ _ hf hW (lv_sub hl [2, 3, 4, 5, 6, 1, 0] rfl)
        exact hlp17 _ _ _ _ _ _ hf hW (lv_sub hl [2, 3, 4, 5, 6, 1, 0] rfl)
  exact hlp5 _ _ _ _ _ _ hf hW (lv_sub hl [2, 3, 4, 1, 0] rfl)

def f_X10_kept_L4 (mn : Nat → Int32) (p1 : Int32) (k4 : Int32 → Option (Int32)) (le : Nat → Int32) (ri : Nat → Int32) (lt : Nat → Int32) (rec4 : (Int32 × Int32) → Option (Int32)) (s9 : Int32 × Int32) : Option (Int32) := match s9 with
  | (y1, y2) => sp_ld mn 12 p1 (fun v5 => if v5 ≤ y2 then (k4 y1) else (Option.bind (f_X10_keptAs p1 y2 mn le ri lt) (fun r6 => sp_bnd (fun (x7 : Int32) => sp_bnd (y2 + (1 : Int32)) (fun v9 => rec4 (x7, v9))) (fun k8 => if r6 ≤ y1 then (k8 y1) else (k8 r6)))))
theorem f_X10_kept_L4_eq {rec4 : (Int32 × Int32) → Option (Int32)} {mn : Nat → Int32} {p1 : Int32} {k4 : Int32 → Option (Int32)} {le : Nat → Int32} {ri : Nat → Int32} {lt : Nat → Int32} {y1 : Int32} {y2 : Int32} : f_X10_kept_L4 mn p1 k4 le ri lt rec4 (y1, y2) = (sp_ld mn 12 p1 (fun v5 => if v5 ≤ y2 then (k4 y1) else (Option.bind (f_X10_keptAs p1 y2 mn le ri lt) (fun r6 => sp_bnd (fun (x7 : Int32) => sp_bnd (y2 + (1 : Int32)) (fun v9 => rec4 (x7, v9))) (fun k8 => if r6 ≤ y1 then (k8 y1) else (k8 r6)))))) := rfl
def f_X10_kept (p1 : Int32) (mn : Nat → Int32) (le : Nat → Int32) (ri : Nat → Int32) (lt : Nat → Int32) : Option (Int32) := sp_bnd (fun (x3 : Int32) => some x3) (fun k4 => sp_lp (f_X10_kept_L4 mn p1 k4 le ri lt) sp_F ((0 : Int32), (0 : Int32)))
def rmX10_kept : Room := { frames := 2, cells := 0, slots := 0, locals := 49 }
set_option maxRecDepth 4000 in
theorem c_X10_kept {l : Launch} {D : va_G} {q5 : Nat → ClassId} (a : Nat → Nat) (fa : Int32) (tr : Int32) (la : Nat → Int32) (sl : Nat → Int32) (ce : Nat → Int32) (pn : Int32) (mn : Nat → Int32) (cl : Nat → Int32) (le : Nat → Int32) (ri : Nat → Int32) (lt : Nat → Int32) (nm : Int32) (nc : Nat → Int32) (nl : Nat → Int32) (nr : Nat → Int32) (nt : Nat → Int32) (at9 : Int32) (en9 : Int32) (de : Nat → Int32) (mm : Int32) (ma : Nat → Int32) (ne : Nat → Int32) (us : Nat → Int32) (lk : Nat → Int32) (sd : Nat → Int32) (sf : Nat → Int32) (nu : Nat → Int32) (gt : Nat → Int64) (gl : Nat → Int32) (tb : Nat → Int64) (sc : Nat → Int32) (su : Nat → Int32) (p1 : Int32) {r' : Int32} (hf : f_X10_kept p1 mn le ri lt = some r') : sp_Ci l yX10_kept wsX10_kept rmX10_kept D q5 0 [.ref (a 0), .int p1] (sw_M a q5 fa tr la sl ce pn mn cl le ri lt nm nc nl nr nt at9 en9 de mm ma ne us lk sd sf nu gt gl tb sc su) r' (sw_M a q5 fa tr la sl ce pn mn cl le ri lt nm nc nl nr nt at9 en9 de mm ma ne us lk sd sf nu gt gl tb sc su) := by
  intro sz
  refine sp_of (cc := cX10_kept) (maxL := 5) (ret := some .int) (own := RX10) (Qc := sp_Qi D r' (sw_M a q5 fa tr la sl ce pn mn cl le ri lt nm nc nl nr nt at9 en9 de mm ma ne us lk sd sf nu gt gl tb sc su)) (by decide) rfl rfl (Nat.le_of_ble_eq_true rfl) ?_
  intro p e s m args below meth c A ls Q hQ S hr hlk hK hG hA hW hl
  have hx := S.1
  have hb := S.2.1
  unfold f_X10_kept at hf
  have inX10 : ∀ w ∈ u_ws RX10 TX10 32, w ∈ wsX10_kept := (fun _ h => List.mem_cons_of_mem _ (List.mem_append_right _ h))
  have lk1 := S.2.2.2.2 (Cond.fieldLink RX10 19 "ShortProofsModel" "many" "[I") (List.mem_of_getElem? (i := 1) rfl)
  refine lv_iconst (v := 0) hx hb dX10_kept_0 (by decide) ?_
  refine lv_istore_n (lv' := [(2, .int (0 : Int32)), (0, .ref (a 0)), (1, .int p1)]) hx hb dX10_kept_1 rfl hl (by decide) rfl (fun ls hl => ?_)
  refine lv_iconst (v := 0) hx hb dX10_kept_2 (by decide) ?_
  refine lv_istore_n (lv' := [(3, .int (0 : Int32)), (2, .int (0 : Int32)), (0, .ref (a 0)), (1, .int p1)]) hx hb dX10_kept_3 rfl hl (by decide) rfl (fun ls hl => ?_)
  obtain ⟨k4, ek4, hf⟩ := sp_hb hf
  have hj4 : ∀ (x3 : Int32) (H : Heap) (locs : List Loc) (ls : Array Slot), k4 x3 = some r' → sp_wd D A s.heap (sw_M a q5 fa tr la sl ce pn mn cl le ri lt nm nc nl nr nt at9 en9 de mm ma ne us lk sd sf nu gt gl tb sc su) H locs → lv_has ls 5 [(2, .int x3)] → W p l e rmX10_kept s m args below meth c H locs 0 0 Q (F0 m 41 ls []) := by
    intro x3 H locs ls hf hW hl
    rw [ek4] at hf
    refine lv_iload_n hx hb dX10_kept_41 rfl (lv_at hl 0 rfl) ?_
    have q0 := Option.some.inj hf
    subst q0
    exact sp_iret S hr hlk hW hQ dX10_kept_42
  have hlp4 : ∀ (n9 : Nat) (y1 : Int32) (y2 : Int32) (H : Heap) (locs : List Loc) (ls : Array Slot), sp_lp (f_X10_kept_L4 mn p1 k4 le ri lt) n9 (y1, y2) = some r' → sp_wd D A s.heap (sw_M a q5 fa tr la sl ce pn mn cl le ri lt nm nc nl nr nt at9 en9 de mm ma ne us lk sd sf nu gt gl tb sc su) H locs → lv_has ls 5 [(0, .ref (a 0)), (1, .int p1), (2, .int y1), (3, .int y2)] → W p l e rmX10_kept s m args below meth c H locs 0 0 Q (F0 m 4 ls []) := by
    intro n9
    induction n9 with
    | zero =>
      intro y1 y2 H locs ls hf hW hl
      exact (sp_lp0 hf).elim
    | succ n9 ih4 =>
      intro y1 y2 H locs ls hf hW hl
      have hf := sp_lpS hf
      rw [f_X10_kept_L4_eq] at hf
      refine lv_iload_n hx hb dX10_kept_4 rfl (lv_at hl 3 rfl) ?_
      refine lv_aload_n hx hb dX10_kept_5 rfl (lv_at hl 0 rfl) ?_
      refine sp_get S hK hW inX10 0 rfl rfl 6 (by decide) lk1 rfl dX10_kept_6 ?_
      refine lv_iload_n hx hb dX10_kept_9 rfl (lv_at hl 1 rfl) ?_
      obtain ⟨hin, v5, ev5, hf⟩ := sp_hld hf
      refine sp_iald S hK hW 4 rfl hin ev5 dX10_kept_10 ?_
      refine lv_icmp_ge (tgt := 41) hx hb dX10_kept_11 (by decide) (fun hc => ?_) (fun hc => ?_)
      · have hf := sp_ht hf hc
        exact hj4 _ _ _ _ hf hW (lv_sub hl [2] rfl)
      · have hf := sp_hf hf hc
        refine lv_aload_n hx hb dX10_kept_14 rfl (lv_at hl 0 rfl) ?_
        refine lv_iload_n hx hb dX10_kept_15 rfl (lv_at hl 1 rfl) ?_
        refine lv_iload_n hx hb dX10_kept_16 rfl (lv_at hl 3 rfl) ?_
        obtain ⟨r6, hc6, hf⟩ := sp_hc hf
        refine sp_callViP (rest := []) S hK hG hA hW (c_X10_keptAs a fa tr la sl ce pn mn cl le ri lt nm nc nl nr nt at9 en9 de mm ma ne us lk sd sf nu gt gl tb sc su p1 y2 hc6) (by decide) (cwV 2 S.2.2.2.2 gX10_kept_X10_keptAs rfl rfl rfl (by decide +kernel) (by decide)) 8 0 rfl rfl (sp_pn _) rfl (WS' := sw_M a q5 fa tr la sl ce pn mn cl le ri lt nm nc nl nr nt at9 en9 de mm ma ne us lk sd sf nu gt gl tb sc su) (sp_pn' _) rfl hl.1 (Nat.le_of_ble_eq_true rfl) dX10_kept_17 ⟨Nat.zero_le _, Nat.zero_le _⟩ rfl (fun H locs hW => ?_)
        refine lv_istore (lv' := [(4, .int r6), (0, .ref (a 0)), (1, .int p1), (2, .int y1), (3, .int y2)]) hx hb dX10_kept_20 hl (by decide) rfl (fun ls hl => ?_)
        refine lv_iload hx hb dX10_kept_22 (lv_at hl 0 rfl) ?_
        refine lv_iload_n hx hb dX10_kept_24 rfl (lv_at hl 3 rfl) ?_
        obtain ⟨k8, ek8, hf⟩ := sp_hb hf
        have hj8 : ∀ (x7 : Int32) (H : Heap) (locs : List Loc) (ls : Array Slot), k8 x7 = some r' → sp_wd D A s.heap (sw_M a q5 fa tr la sl ce pn mn cl le ri lt nm nc nl nr nt at9 en9 de mm ma ne us lk sd sf nu gt gl tb sc su) H locs → lv_has ls 5 [(0, .ref (a 0)), (1, .int p1), (3, .int y2)] → W p l e rmX10_kept s m args below meth c H locs 0 0 Q (F0 m 34 ls [.int x7]) := by
          intro x7 H locs ls hf hW hl
          rw [ek8] at hf
          refine lv_istore_n (lv' := [(2, .int x7), (0, .ref (a 0)), (1, .int p1), (3, .int y2)]) hx hb dX10_kept_34 rfl hl (by decide) rfl (fun ls hl => ?_)
          obtain ⟨v9, ev9, hf⟩ := sp_hb hf
          refine lv_iinc (v := v9) (lv' := [(3, .int v9), (2, .int x7), (0, .ref (a 0)), (1, .int p1)]) hx hb dX10_kept_35 hl (k := 3) rfl (by rw [ev9]; rfl) (by decide) rfl (fun ls hl => ?_)
          refine lv_goto (tgt := 4) hx hb dX10_kept_38 (by decide) ?_
          exact ih4 _ _ _ _ _ hf hW (lv_sub hl [2, 3, 1, 0] rfl)
        refine lv_icmp_le (tgt := 33) hx hb dX10_kept_25 (by decide) (fun hc => ?_) (fun hc => ?_)
        · have hf := sp_ht hf hc
          refine lv_iload_n hx hb dX10_kept_33 rfl (lv_at hl 3 rfl) ?_
          exact hj8 _ _ _ _ hf hW (lv_sub hl [1, 2, 4] rfl)
        · have hf := sp_hf hf hc
          refine lv_iload hx hb dX10_kept_28 (lv_at hl 0 rfl) ?_
          refine lv_goto (tgt := 34) hx hb dX10_kept_30 (by decide) ?_
          exact hj8 _ _ _ _ hf hW (lv_sub hl [1, 2, 4] rfl)
  exact hlp4 _ _ _ _ _ _ hf hW (lv_sub hl [2, 3, 1, 0] rfl)

def f_X10_size (p1 : Int32) (p2 : Int32) (pn : Int32) (mn : Nat → Int32) (cl : Nat → Int32) (le : Nat → Int32) (ri : Nat → Int32) (lt : Nat → Int32) (de : Nat → Int32) : Option (Int32 × (Nat → Int32)) := Option.bind (f_X10_isProof p1 pn) (fun r1 => if r1 = 0 then (some ((-1 : Int32), de)) else (if p2 = (0 : Int32) then (sp_ld mn 12 p1 (fun v2 => some (v2, de))) else (if p2 = (1 : Int32) then (Option.bind (f_X10_signs p1 mn cl) (fun r3 => some (r3, de))) else (if p2 = (2 : Int32) then (Option.bind (f_X10_widest p1 mn cl) (fun r4 => some (r4, de))) else (if p2 = (3 : Int32) then (Option.bind (f_X10_deep p1 mn le ri lt de) (fun q9 => match q9 with | (r5, c6) => some (r5, c6))) else (if p2 = (4 : Int32) then (Option.bind (f_X10_kept p1 mn le ri lt) (fun r7 => some (r7, de))) else (if p2 = (5 : Int32) then (Option.bind (f_X10_groundsOf p1 mn lt) (fun r8 => some (r8, de))) else (some ((-2 : Int32), de)))))))))
def rmX10_size : Room := { frames := 3, cells := 0, slots := 0, locals := 73 }
set_option maxRecDepth 4000 in
theorem c_X10_size {l : Launch} {D : va_G} {q5 : Nat → ClassId} (a : Nat → Nat) (fa : Int32) (tr : Int32) (la : Nat → Int32) (sl : Nat → Int32) (ce : Nat → Int32) (pn : Int32) (mn : Nat → Int32) (cl : Nat → Int32) (le : Nat → Int32) (ri : Nat → Int32) (lt : Nat → Int32) (nm : Int32) (nc : Nat → Int32) (nl : Nat → Int32) (nr : Nat → Int32) (nt : Nat → Int32) (at9 : Int32) (en9 : Int32) (de : Nat → Int32) (mm : Int32) (ma : Nat → Int32) (ne : Nat → Int32) (us : Nat → Int32) (lk : Nat → Int32) (sd : Nat → Int32) (sf : Nat → Int32) (nu : Nat → Int32) (gt : Nat → Int64) (gl : Nat → Int32) (tb : Nat → Int64) (sc : Nat → Int32) (su : Nat → Int32) (p1 : Int32) (p2 : Int32) {r' : Int32} {de' : Nat → Int32} (hf : f_X10_size p1 p2 pn mn cl le ri lt de = some (r', de')) : sp_Ci l yX10_size wsX10_size rmX10_size D q5 0 [.ref (a 0), .int p1, .int p2] (sw_M a q5 fa tr la sl ce pn mn cl le ri lt nm nc nl nr nt at9 en9 de mm ma ne us lk sd sf nu gt gl tb sc su) r' (sw_M a q5 fa tr la sl ce pn mn cl le ri lt nm nc nl nr nt at9 en9 de' mm ma ne us lk sd sf nu gt gl tb sc su) := by
  intro sz
  refine sp_of (cc := cX10_size) (maxL := 3) (ret := some .int) (own := RX10) (Qc := sp_Qi D r' (sw_M a q5 fa tr la sl ce pn mn cl le ri lt nm nc nl nr nt at9 en9 de' mm ma ne us lk sd sf nu gt gl tb sc su)) (by decide) rfl rfl (Nat.le_of_ble_eq_true rfl) ?_
  intro p e s m args below meth c A ls Q hQ S hr hlk hK hG hA hW hl
  have hx := S.1
  have hb := S.2.1
  unfold f_X10_size at hf
  have inX10 : ∀ w ∈ u_ws RX10 TX10 32, w ∈ wsX10_size := (fun _ h => List.mem_cons_of_mem _ (List.mem_append_right _ h))
  have lk1 := S.2.2.2.2 (Cond.fieldLink RX10 19 "ShortProofsModel" "many" "[I") (List.mem_of_getElem? (i := 1) rfl)
  refine lv_aload_n hx hb dX10_size_0 rfl (lv_at hl 0 rfl) ?_
  refine lv_iload_n hx hb dX10_size_1 rfl (lv_at hl 1 rfl) ?_
  obtain ⟨r1, hc1, hf⟩ := sp_hc hf
  refine sp_callViP (rest := []) S hK hG hA hW (c_X10_isProof a fa tr la sl ce pn mn cl le ri lt nm nc nl nr nt at9 en9 de mm ma ne us lk sd sf nu gt gl tb sc su p1 hc1) (by decide) (cwV 1 S.2.2.2.2 gX10_size_X10_isProof rfl rfl rfl (by decide +kernel) (by decide)) 8 0 rfl rfl (sp_pn _) rfl (WS' := sw_M a q5 fa tr la sl ce pn mn cl le ri lt nm nc nl nr nt at9 en9 de mm ma ne us lk sd sf nu gt gl tb sc su) (sp_pn' _) rfl hl.1 (Nat.le_of_ble_eq_true rfl) dX10_size_2 ⟨Nat.zero_le _, Nat.zero_le _⟩ rfl (fun H locs hW => ?_)
  refine lv_if_ne (tgt := 10) hx hb dX10_size_5 (by decide) (fun hc => ?_) (fun hc => ?_)
  · have hf := sp_hf hf hc
    refine lv_iload_n hx hb dX10_size_10 rfl (lv_at hl 2 rfl) ?_
    by_cases hs0 : p2 = (0 : Int32)
    · have hf := sp_ht hf hs0
      refine lv_tableIn (tgt := 48) (off := 37) hx hb dX10_size_11 (by rw [hs0]; decide) (by rw [hs0]; decide) (by rw [hs0]; rfl) (by decide) ?_
      refine lv_aload_n hx hb dX10_size_48 rfl (lv_at hl 0 rfl) ?_
      refine sp_get S hK hW inX10 0 rfl rfl 6 (by decide) lk1 rfl dX10_size_49 ?_
      refine lv_iload_n hx hb dX10_size_52 rfl (lv_at hl 1 rfl) ?_
      obtain ⟨hin, v2, ev2, hf⟩ := sp_hld hf
      refine sp_iald S hK hW 4 rfl hin ev2 dX10_size_53 ?_
      have q0 := Option.some.inj hf
      obtain ⟨q1, z1⟩ := Prod.mk.inj q0
      subst q1
      subst z1
      exact sp_iret S hr hlk hW hQ dX10_size_54
    have hf := sp_hf hf hs0
    by_cases hs1 : p2 = (1 : Int32)
    · have hf := sp_ht hf hs1
      refine lv_tableIn (tgt := 55) (off := 44) hx hb dX10_size_11 (by rw [hs1]; decide) (by rw [hs1]; decide) (by rw [hs1]; rfl) (by decide) ?_
      refine lv_aload_n hx hb dX10_size_55 rfl (lv_at hl 0 rfl) ?_
      refine lv_iload_n hx hb dX10_size_56 rfl (lv_at hl 1 rfl) ?_
      obtain ⟨r3, hc3, hf⟩ := sp_hc hf
      refine sp_callViP (rest := []) S hK hG hA hW (c_X10_signs a fa tr la sl ce pn mn cl le ri lt nm nc nl nr nt at9 en9 de mm ma ne us lk sd sf nu gt gl tb sc su p1 hc3) (by decide) (cwV 1 S.2.2.2.2 gX10_size_X10_signs rfl rfl rfl (by decide +kernel) (by decide)) 8 0 rfl rfl (sp_pn _) rfl (WS' := sw_M a q5 fa tr la sl ce pn mn cl le ri lt nm nc nl nr nt at9 en9 de mm ma ne us lk sd sf nu gt gl tb sc su) (sp_pn' _) rfl hl.1 (Nat.le_of_ble_eq_true rfl) dX10_size_57 ⟨Nat.zero_le _, Nat.zero_le _⟩ rfl (fun H locs hW => ?_)
      have q0 := Option.some.inj hf
      obtain ⟨q1, z1⟩ := Prod.mk.inj q0
      subst q1
      subst z1
      exact sp_iret S hr hlk hW hQ dX10_size_60
    have hf := sp_hf hf hs1
    by_cases hs2 : p2 = (2 : Int32)
    · have hf := sp_ht hf hs2
      refine lv_tableIn (tgt := 61) (off := 50) hx hb dX10_size_11 (by rw [hs2]; decide) (by rw [hs2]; decide) (by rw [hs2]; rfl) (by decide) ?_
      refine lv_aload_n hx hb dX10_size_61 rfl (lv_at hl 0 rfl) ?_
      refine lv_iload_n hx hb dX10_size_62 rfl (lv_at hl 1 rfl) ?_
      obtain ⟨r4, hc4, hf⟩ := sp_hc hf
      refine sp_callViP (rest := []) S hK hG hA hW (c_X10_widest a fa tr la sl ce pn mn cl le ri lt nm nc nl nr nt at9 en9 de mm ma ne us lk sd sf nu gt gl tb sc su p1 hc4) (by decide) (cwV 1 S.2.2.2.2 gX10_size_X10_widest rfl rfl rfl (by decide +kernel) (by decide)) 8 0 rfl rfl (sp_pn _) rfl (WS' := sw_M a q5 fa tr la sl ce pn mn cl le ri lt nm nc nl nr nt at9 en9 de mm ma ne us lk sd sf nu gt gl tb sc su) (sp_pn' _) rfl hl.1 (Nat.le_of_ble_eq_true rfl) dX10_size_63 ⟨Nat.zero_le _, Nat.zero_le _⟩ rfl (fun H locs hW => ?_)
      have q0 := Option.some.inj hf
      obtain ⟨q1, z1⟩ := Prod.mk.inj q0
      subst q1
      subst z1
      exact sp_iret S hr hlk hW hQ dX10_size_66
    have hf := sp_hf hf hs2
    by_cases hs3 : p2 = (3 : Int32)
    · have hf := sp_ht hf hs3
      refine lv_tableIn (tgt := 67) (off := 56) hx hb dX10_size_11 (by rw [hs3]; decide) (by rw [hs3]; decide) (by rw [hs3]; rfl) (by decide) ?_
      refine lv_aload_n hx hb dX10_size_67 rfl (lv_at hl 0 rfl) ?_
      refine lv_iload_n hx hb dX10_size_68 rfl (lv_at hl 1 rfl) ?_
      obtain ⟨⟨r5, c6⟩, hc6, hf⟩ := sp_hc hf
      refine sp_callViP (rest := []) S hK hG hA hW (c_X10_deep a fa tr la sl ce pn mn cl le ri lt nm nc nl nr nt at9 en9 de mm ma ne us lk sd sf nu gt gl tb sc su p1 hc6) (by decide) (cwV 1 S.2.2.2.2 gX10_size_X10_deep rfl rfl rfl (by decide +kernel) (by decide)) 8 0 rfl rfl (sp_pn _) rfl (WS' := sw_M a q5 fa tr la sl ce pn mn cl le ri lt nm nc nl nr nt at9 en9 c6 mm ma ne us lk sd sf nu gt gl tb sc su) (sp_pn' _) rfl hl.1 (Nat.le_of_ble_eq_true rfl) dX10_size_69 ⟨Nat.zero_le _, Nat.zero_le _⟩ rfl (fun H locs hW => ?_)
      have q0 := Option.some.inj hf
      obtain ⟨q1, z1⟩ := Prod.mk.inj q0
      subst q1
      subst z1
      exact sp_iret S hr hlk hW hQ dX10_size_72
    have hf := sp_hf hf hs3
    by_cases hs4 : p2 = (4 : Int32)
    · have hf := sp_ht hf hs4
      refine lv_tableIn (tgt := 73) (off := 62) hx hb dX10_size_11 (by rw [hs4]; decide) (by rw [hs4]; decide) (by rw [hs4]; rfl) (by decide) ?_
      refine lv_aload_n hx hb dX10_size_73 rfl (lv_at hl 0 rfl) ?_
      refine lv_iload_n hx hb dX10_size_74 rfl (lv_at hl 1 rfl) ?_
      obtain ⟨r7, hc7, hf⟩ := sp_hc hf
      refine sp_callViP (rest := []) S hK hG hA hW (c_X10_kept a fa tr la sl ce pn mn cl le ri lt nm nc nl nr nt at9 en9 de mm ma ne us lk sd sf nu gt gl tb sc su p1 hc7) (by decide) (cwV 1 S.2.2.2.2 gX10_size_X10_kept rfl rfl rfl (by decide +kernel) (by decide)) 8 0 rfl rfl (sp_pn _) rfl (WS' := sw_M a q5 fa tr la sl ce pn mn cl le ri lt nm nc nl nr nt at9 en9 de mm ma ne us lk sd sf nu gt gl tb sc su) (sp_pn' _) rfl hl.1 (Nat.le_of_ble_eq_true rfl) dX10_size_75 ⟨Nat.zero_le _, Nat.zero_le _⟩ rfl (fun H locs hW => ?_)
      have q0 := Option.some.inj hf
      obtain ⟨q1, z1⟩ := Prod.mk.inj q0
      subst q1
      subst z1
      exact sp_iret S hr hlk hW hQ dX10_size_78
    have hf := sp_hf hf hs4
    by_cases hs5 : p2 = (5 : Int32)
    · have hf := sp_ht hf hs5
      refine lv_tableIn (tgt := 79) (off := 68) hx hb dX10_size_11 (by rw [hs5]; decide) (by rw [hs5]; decide) (by rw [hs5]; rfl) (by decide) ?_
      refine lv_aload_n hx hb dX10_size_79 rfl (lv_at hl 0 rfl) ?_
      refine lv_iload_n hx hb dX10_size_80 rfl (lv_at hl 1 rfl) ?_
      obtain ⟨r8, hc8, hf⟩ := sp_hc hf
      refine sp_callViP (rest := []) S hK hG hA hW (c_X10_groundsOf a fa tr la sl ce pn mn cl le ri lt nm nc nl nr nt at9 en9 de mm ma ne us lk sd sf nu gt gl tb sc su p1 hc8) (by decide) (cwV 1 S.2.2.2.2 gX10_size_X10_groundsOf rfl rfl rfl (by decide +kernel) (by decide)) 8 0 rfl rfl (sp_pn _) rfl (WS' := sw_M a q5 fa tr la sl ce pn mn cl le ri lt nm nc nl nr nt at9 en9 de mm ma ne us lk sd sf nu gt gl tb sc su) (sp_pn' _) rfl hl.1 (Nat.le_of_ble_eq_true rfl) dX10_size_81 ⟨Nat.zero_le _, Nat.zero_le _⟩ rfl (fun H locs hW => ?_)
      have q0 := Option.some.inj hf
      obtain ⟨q1, z1⟩ := Prod.mk.inj q0
      subst q1
      subst z1
      exact sp_iret S hr hlk hW hQ dX10_size_84
    have hf := sp_hf hf hs5
    have hz0 : p2.toInt ≠ 0 := sp_nei hs0
    have hz1 : p2.toInt ≠ 1 := sp_nei hs1
    have hz2 : p2.toInt ≠ 2 := sp_nei hs2
    have hz3 : p2.toInt ≠ 3 := sp_nei hs3
    have hz4 : p2.toInt ≠ 4 := sp_nei hs4
    have hz5 : p2.toInt ≠ 5 := sp_nei hs5
    refine lv_tableOut (tgt := 85) hx hb dX10_size_11 (by omega) (by decide) ?_
    refine lv_bipush (v := (-2)) hx hb dX10_size_85 (by decide) ?_
    have q0 := Option.some.inj hf
    obtain ⟨q1, z1⟩ := Prod.mk.inj q0
    subst q1
    subst z1
    exact sp_iret S hr hlk hW hQ dX10_size_87
  · have hf := sp_ht hf hc
    refine lv_iconst (v := (-1)) hx hb dX10_size_8 (by decide) ?_
    have q0 := Option.some.inj hf
    obtain ⟨q1, z1⟩ := Prod.mk.inj q0
    subst q1
    subst z1
    exact sp_iret S hr hlk hW hQ dX10_size_9

def f_X10_placeOf_L2 (ma : Nat → Int32) (p1 : Int32) (k3 : Int32 → Option (Int32)) (rec2 : (Int32) → Option (Int32)) (s9 : Int32) : Option (Int32) := match s9 with
  | y1 => sp_ld ma 12 y1 (fun v4 => if v4 = p1 then (k3 y1) else (sp_bnd (y1 + (1 : Int32)) (fun v5 => rec2 v5)))
theorem f_X10_placeOf_L2_eq {rec2 : (Int32) → Option (Int32)} {ma : Nat → Int32} {p1 : Int32} {k3 : Int32 → Option (Int32)} {y1 : Int32} : f_X10_placeOf_L2 ma p1 k3 rec2 y1 = (sp_ld ma 12 y1 (fun v4 => if v4 = p1 then (k3 y1) else (sp_bnd (y1 + (1 : Int32)) (fun v5 => rec2 v5)))) := rfl
def f_X10_placeOf (p1 : Int32) (ma : Nat → Int32) : Option (Int32) := sp_bnd (fun (x2 : Int32) => some x2) (fun k3 => sp_lp (f_X10_placeOf_L2 ma p1 k3) sp_F (0 : Int32))
def rmX10_placeOf : Room := { frames := 0, cells := 0, slots := 0, locals := 0 }
set_option maxRecDepth 4000 in
theorem c_X10_placeOf {l : Launch} {D : va_G} {q5 : Nat → ClassId} (a : Nat → Nat) (fa : Int32) (tr : Int32) (la : Nat → Int32) (sl : Nat → Int32) (ce : Nat → Int32) (pn : Int32) (mn : Nat → Int32) (cl : Nat → Int32) (le : Nat → Int32) (ri : Nat → Int32) (lt : Nat → Int32) (nm : Int32) (nc : Nat → Int32) (nl : Nat → Int32) (nr : Nat → Int32) (nt : Nat → Int32) (at9 : Int32) (en9 : Int32) (de : Nat → Int32) (mm : Int32) (ma : Nat → Int32) (ne : Nat → Int32) (us : Nat → Int32) (lk : Nat → Int32) (sd : Nat → Int32) (sf : Nat → Int32) (nu : Nat → Int32) (gt : Nat → Int64) (gl : Nat → Int32) (tb : Nat → Int64) (sc : Nat → Int32) (su : Nat → Int32) (p1 : Int32) {r' : Int32} (hf : f_X10_placeOf p1 ma = some r') : sp_Ci l yX10_placeOf wsX10_placeOf rmX10_placeOf D q5 0 [.ref (a 0), .int p1] (sw_M a q5 fa tr la sl ce pn mn cl le ri lt nm nc nl nr nt at9 en9 de mm ma ne us lk sd sf nu gt gl tb sc su) r' (sw_M a q5 fa tr la sl ce pn mn cl le ri lt nm nc nl nr nt at9 en9 de mm ma ne us lk sd sf nu gt gl tb sc su) := by
  intro sz
  refine sp_of (cc := cX10_placeOf) (maxL := 3) (ret := some .int) (own := RX10) (Qc := sp_Qi D r' (sw_M a q5 fa tr la sl ce pn mn cl le ri lt nm nc nl nr nt at9 en9 de mm ma ne us lk sd sf nu gt gl tb sc su)) (by decide) rfl rfl (Nat.le_of_ble_eq_true rfl) ?_
  intro p e s m args below meth c A ls Q hQ S hr hlk hK hG hA hW hl
  have hx := S.1
  have hb := S.2.1
  unfold f_X10_placeOf at hf
  have inX10 : ∀ w ∈ u_ws RX10 TX10 32, w ∈ wsX10_placeOf := (fun _ h => List.mem_cons_of_mem _ (List.mem_append_right _ h))
  have lk1 := S.2.2.2.2 (Cond.fieldLink RX10 49 "ShortProofsModel" "matter" "[I") (List.mem_of_getElem? (i := 1) rfl)
  refine lv_iconst (v := 0) hx hb dX10_placeOf_0 (by decide) ?_
  refine lv_istore_n (lv' := [(2, .int (0 : Int32)), (0, .ref (a 0)), (1, .int p1)]) hx hb dX10_placeOf_1 rfl hl (by decide) rfl (fun ls hl => ?_)
  obtain ⟨k3, ek3, hf⟩ := sp_hb hf
  have hj3 : ∀ (x2 : Int32) (H : Heap) (locs : List Loc) (ls : Array Slot), k3 x2 = some r' → sp_wd D A s.heap (sw_M a q5 fa tr la sl ce pn mn cl le ri lt nm nc nl nr nt at9 en9 de mm ma ne us lk sd sf nu gt gl tb sc su) H locs → lv_has ls 3 [(2, .int x2)] → W p l e rmX10_placeOf s m args below meth c H locs 0 0 Q (F0 m 18 ls []) := by
    intro x2 H locs ls hf hW hl
    rw [ek3] at hf
    refine lv_iload_n hx hb dX10_placeOf_18 rfl (lv_at hl 0 rfl) ?_
    have q0 := Option.some.inj hf
    subst q0
    exact sp_iret S hr hlk hW hQ dX10_placeOf_19
  have hlp2 : ∀ (n9 : Nat) (y1 : Int32) (H : Heap) (locs : List Loc) (ls : Array Slot), sp_lp (f_X10_placeOf_L2 ma p1 k3) n9 y1 = some r' → sp_wd D A s.heap (sw_M a q5 fa tr la sl ce pn mn cl le ri lt nm nc nl nr nt at9 en9 de mm ma ne us lk sd sf nu gt gl tb sc su) H locs → lv_has ls 3 [(0, .ref (a 0)), (1, .int p1), (2, .int y1)] → W p l e rmX10_placeOf s m args below meth c H locs 0 0 Q (F0 m 2 ls []) := by
    intro n9
    induction n9 with
    | zero =>
      intro y1 H locs ls hf hW hl
      exact (sp_lp0 hf).elim
    | succ n9 ih2 =>
      intro y1 H locs ls hf hW hl
      have hf := sp_lpS hf
      rw [f_X10_placeOf_L2_eq] at hf
      refine lv_aload_n hx hb dX10_placeOf_2 rfl (lv_at hl 0 rfl) ?_
      refine sp_get S hK hW inX10 0 rfl rfl 20 (by decide) lk1 rfl dX10_placeOf_3 ?_
      refine lv_iload_n hx hb dX10_placeOf_6 rfl (lv_at hl 2 rfl) ?_
      obtain ⟨hin, v4, ev4, hf⟩ := sp_hld hf
      refine sp_iald S hK hW 14 rfl hin ev4 dX10_placeOf_7 ?_
      refine lv_iload_n hx hb dX10_placeOf_8 rfl (lv_at hl 1 rfl) ?_
      refine lv_icmp_eq (tgt := 18) hx hb dX10_placeOf_9 (by decide) (fun hc => ?_) (fun hc => ?_)
      · have hf := sp_ht hf hc
        exact hj3 _ _ _ _ hf hW (lv_sub hl [2] rfl)
      · have hf := sp_hf hf hc
        obtain ⟨v5, ev5, hf⟩ := sp_hb hf
        refine lv_iinc (v := v5) (lv' := [(2, .int v5), (0, .ref (a 0)), (1, .int p1)]) hx hb dX10_placeOf_12 hl (k := 2) rfl (by rw [ev5]; rfl) (by decide) rfl (fun ls hl => ?_)
        refine lv_goto (tgt := 2) hx hb dX10_placeOf_15 (by decide) ?_
        exact ih2 _ _ _ _ hf hW (lv_sub hl [1, 2, 0] rfl)
  exact hlp2 _ _ _ _ _ hf hW (lv_sub hl [1, 2, 0] rfl)

def f_X10_layMatter_L7 (mn : Nat → Int32) (p1 : Int32) (k10 : Int32 → (Nat → Int32) → (Nat → Int32) → (Nat → Int32) → Option (Int32 × (Nat → Int32) × (Nat → Int32) × (Nat → Int32))) (p2 : Int32) (lt : Nat → Int32) (le : Nat → Int32) (ri : Nat → Int32) (rec7 : (Int32 × Int32 × (Nat → Int32) × (Nat → Int32) × (Nat → Int32)) → Option (Int32 × (Nat → Int32) × (Nat → Int32) × (Nat → Int32))) (s9 : Int32 × Int32 × (Nat → Int32) × (Nat → Int32) × (Nat → Int32)) : Option (Int32 × (Nat → Int32) × (Nat → Int32) × (Nat → Int32)) := match s9 with
  | (y1, c2, c3, c4, c5) => sp_ld mn 12 p1 (fun v11 => if v11 ≤ y1 then (k10 c2 c3 c4 c5) else (sp_bnd (fun (c12 : Int32) (c13 : Nat → Int32) (c14 : Nat → Int32) (c15 : Nat → Int32) => sp_bnd (y1 + (1 : Int32)) (fun v17 => rec7 (v17, c12, c13, c14, c15))) (fun k16 => if ((p2 >>> (y1 &&& 31)) &&& (1 : Int32)) = 0 then (k16 c2 c3 c4 c5) else (sp_st c3 12 c2 y1 (fun c18 => sp_st c4 12 c2 (0 : Int32) (fun c19 => sp_st c5 12 c2 (0 : Int32) (fun c20 => sp_bnd (c2 + (1 : Int32)) (fun v21 => sp_ld lt 288 (((24 : Int32) * p1) + y1) (fun v22 => if v22 = (-9 : Int32) then (k16 v21 c18 c19 c20) else (sp_ld le 288 (((24 : Int32) * p1) + y1) (fun v23 => Option.bind (f_X10_placeOf v23 c18) (fun r24 => sp_ld ri 288 (((24 : Int32) * p1) + y1) (fun v25 => Option.bind (f_X10_placeOf v25 c18) (fun r26 => sp_st c19 12 c2 (((1 : Int32) <<< (r24 &&& 31)) ||| ((1 : Int32) <<< (r26 &&& 31))) (fun c27 => sp_ld c20 12 r24 (fun v28 => sp_st c20 12 r24 (v28 ||| ((1 : Int32) <<< (c2 &&& 31))) (fun c29 => sp_ld c29 12 r26 (fun v30 => sp_st c29 12 r26 (v30 ||| ((1 : Int32) <<< (c2 &&& 31))) (fun c31 => k16 v21 c18 c27 c31)))))))))))))))))))
theorem f_X10_layMatter_L7_eq {rec7 : (Int32 × Int32 × (Nat → Int32) × (Nat → Int32) × (Nat → Int32)) → Option (Int32 × (Nat → Int32) × (Nat → Int32) × (Nat → Int32))} {mn : Nat → Int32} {p1 : Int32} {k10 : Int32 → (Nat → Int32) → (Nat → Int32) → (Nat → Int32) → Option (Int32 × (Nat → Int32) × (Nat → Int32) × (Nat → Int32))} {p2 : Int32} {lt : Nat → Int32} {le : Nat → Int32} {ri : Nat → Int32} {y1 : Int32} {c2 : Int32} {c3 : Nat → Int32} {c4 : Nat → Int32} {c5 : Nat → Int32} : f_X10_layMatter_L7 mn p1 k10 p2 lt le ri rec7 (y1, c2, c3, c4, c5) = (sp_ld mn 12 p1 (fun v11 => if v11 ≤ y1 then (k10 c2 c3 c4 c5) else (sp_bnd (fun (c12 : Int32) (c13 : Nat → Int32) (c14 : Nat → Int32) (c15 : Nat → Int32) => sp_bnd (y1 + (1 : Int32)) (fun v17 => rec7 (v17, c12, c13, c14, c15))) (fun k16 => if ((p2 >>> (y1 &&& 31)) &&& (1 : Int32)) = 0 then (k16 c2 c3 c4 c5) else (sp_st c3 12 c2 y1 (fun c18 => sp_st c4 12 c2 (0 : Int32) (fun c19 => sp_st c5 12 c2 (0 : Int32) (fun c20 => sp_bnd (c2 + (1 : Int32)) (fun v21 => sp_ld lt 288 (((24 : Int32) * p1) + y1) (fun v22 => if v22 = (-9 : Int32) then (k16 v21 c18 c19 c20) else (sp_ld le 288 (((24 : Int32) * p1) + y1) (fun v23 => Option.bind (f_X10_placeOf v23 c18) (fun r24 => sp_ld ri 288 (((24 : Int32) * p1) + y1) (fun v25 => Option.bind (f_X10_placeOf v25 c18) (fun r26 => sp_st c19 12 c2 (((1 : Int32) <<< (r24 &&& 31)) ||| ((1 : Int32) <<< (r26 &&& 31))) (fun c27 => sp_ld c20 12 r24 (fun v28 => sp_st c20 12 r24 (v28 ||| ((1 : Int32) <<< (c2 &&& 31))) (fun c29 => sp_ld c29 12 r26 (fun v30 => sp_st c29 12 r26 (v30 ||| ((1 : Int32) <<< (c2 &&& 31))) (fun c31 => k16 v21 c18 c27 c31)))))))))))))))))))) := rfl
def f_X10_layMatter (p1 : Int32) (p2 : Int32) (mn : Nat → Int32) (le : Nat → Int32) (ri : Nat → Int32) (lt : Nat → Int32) (ma : Nat → Int32) (ne : Nat → Int32) (us : Nat → Int32) : Option (Int32 × (Nat → Int32) × (Nat → Int32) × (Nat → Int32)) := sp_bnd (fun (c6 : Int32) (c7 : Nat → Int32) (c8 : Nat → Int32) (c9 : Nat → Int32) => some (c6, c7, c8, c9)) (fun k10 => sp_lp (f_X10_layMatter_L7 mn p1 k10 p2 lt le ri) sp_F ((0 : Int32), (0 : Int32), ma, ne, us))
def rmX10_layMatter : Room := { frames := 1, cells := 0, slots := 0, locals := 22 }
set_option maxRecDepth 4000 in
theorem c_X10_layMatter {l : Launch} {D : va_G} {q5 : Nat → ClassId} (a : Nat → Nat) (fa : Int32) (tr : Int32) (la : Nat → Int32) (sl : Nat → Int32) (ce : Nat → Int32) (pn : Int32) (mn : Nat → Int32) (cl : Nat → Int32) (le : Nat → Int32) (ri : Nat → Int32) (lt : Nat → Int32) (nm : Int32) (nc : Nat → Int32) (nl : Nat → Int32) (nr : Nat → Int32) (nt : Nat → Int32) (at9 : Int32) (en9 : Int32) (de : Nat → Int32) (mm : Int32) (ma : Nat → Int32) (ne : Nat → Int32) (us : Nat → Int32) (lk : Nat → Int32) (sd : Nat → Int32) (sf : Nat → Int32) (nu : Nat → Int32) (gt : Nat → Int64) (gl : Nat → Int32) (tb : Nat → Int64) (sc : Nat → Int32) (su : Nat → Int32) (p1 : Int32) (p2 : Int32) {mm' : Int32} {ma' : Nat → Int32} {ne' : Nat → Int32} {us' : Nat → Int32} (hf : f_X10_layMatter p1 p2 mn le ri lt ma ne us = some (mm', ma', ne', us')) : sp_Cv l yX10_layMatter wsX10_layMatter rmX10_layMatter D q5 0 [.ref (a 0), .int p1, .int p2] (sw_M a q5 fa tr la sl ce pn mn cl le ri lt nm nc nl nr nt at9 en9 de mm ma ne us lk sd sf nu gt gl tb sc su) (sw_M a q5 fa tr la sl ce pn mn cl le ri lt nm nc nl nr nt at9 en9 de mm' ma' ne' us' lk sd sf nu gt gl tb sc su) := by
  intro sz
  refine sp_of (cc := cX10_layMatter) (maxL := 7) (ret := none) (own := RX10) (Qc := sp_Qv D (sw_M a q5 fa tr la sl ce pn mn cl le ri lt nm nc nl nr nt at9 en9 de mm' ma' ne' us' lk sd sf nu gt gl tb sc su)) (by decide) rfl rfl (Nat.le_of_ble_eq_true rfl) ?_
  intro p e s m args below meth c A ls Q hQ S hr hlk hK hG hA hW hl
  have hx := S.1
  have hb := S.2.1
  unfold f_X10_layMatter at hf
  have inX10 : ∀ w ∈ u_ws RX10 TX10 32, w ∈ wsX10_layMatter := (fun _ h => List.mem_cons_of_mem _ (List.mem_append_right _ h))
  have lk1 := S.2.2.2.2 (Cond.fieldLink RX10 194 "ShortProofsModel" "matterMany" "I") (List.mem_of_getElem? (i := 1) rfl)
  have lk2 := S.2.2.2.2 (Cond.fieldLink RX10 19 "ShortProofsModel" "many" "[I") (List.mem_of_getElem? (i := 2) rfl)
  have lk3 := S.2.2.2.2 (Cond.fieldLink RX10 49 "ShortProofsModel" "matter" "[I") (List.mem_of_getElem? (i := 3) rfl)
  have lk4 := S.2.2.2.2 (Cond.fieldLink RX10 52 "ShortProofsModel" "needs" "[I") (List.mem_of_getElem? (i := 4) rfl)
  have lk5 := S.2.2.2.2 (Cond.fieldLink RX10 55 "ShortProofsModel" "users" "[I") (List.mem_of_getElem? (i := 5) rfl)
  have lk6 := S.2.2.2.2 (Cond.fieldLink RX10 31 "ShortProofsModel" "letters" "[I") (List.mem_of_getElem? (i := 6) rfl)
  have lk7 := S.2.2.2.2 (Cond.fieldLink RX10 25 "ShortProofsModel" "lefts" "[I") (List.mem_of_getElem? (i := 7) rfl)
  have lk8 := S.2.2.2.2 (Cond.fieldLink RX10 28 "ShortProofsModel" "rights" "[I") (List.mem_of_getElem? (i := 8) rfl)
  refine lv_aload_n hx hb dX10_layMatter_0 rfl (lv_at hl 0 rfl) ?_
  refine lv_iconst (v := 0) hx hb dX10_layMatter_1 (by decide) ?_
  refine sp_put S hK hW inX10 tyX10_ok nmX10 0 rfl rfl 19 (by decide) lk1 rfl rfl rfl (Nat.le_of_ble_eq_true rfl) (ws' := sw_M a q5 fa tr la sl ce pn mn cl le ri lt nm nc nl nr nt at9 en9 de (0 : Int32) ma ne us lk sd sf nu gt gl tb sc su) rfl dX10_layMatter_2 (fun H locs hW => ?_)
  refine lv_iconst (v := 0) hx hb dX10_layMatter_5 (by decide) ?_
  refine lv_istore_n (lv' := [(3, .int (0 : Int32)), (0, .ref (a 0)), (1, .int p1), (2, .int p2)]) hx hb dX10_layMatter_6 rfl hl (by decide) rfl (fun ls hl => ?_)
  obtain ⟨k10, ek10, hf⟩ := sp_hb hf
  have hj10 : ∀ (c6 : Int32) (c7 : Nat → Int32) (c8 : Nat → Int32) (c9 : Nat → Int32) (H : Heap) (locs : List Loc) (ls : Array Slot), k10 c6 c7 c8 c9 = some (mm', ma', ne', us') → sp_wd D A s.heap (sw_M a q5 fa tr la sl ce pn mn cl le ri lt nm nc nl nr nt at9 en9 de c6 c7 c8 c9 lk sd sf nu gt gl tb sc su) H locs → lv_has ls 7 [] → W p l e rmX10_layMatter s m args below meth c H locs 0 0 Q (F0 m 168 ls []) := by
    intro c6 c7 c8 c9 H locs ls hf hW hl
    rw [ek10] at hf
    have q0 := Option.some.inj hf
    obtain ⟨q1, z1⟩ := Prod.mk.inj q0
    obtain ⟨q2, z2⟩ := Prod.mk.inj z1
    obtain ⟨q3, z3⟩ := Prod.mk.inj z2
    subst q1
    subst q2
    subst q3
    subst z3
    exact sp_vret S hr hlk hW hQ dX10_layMatter_168
  have hlp7 : ∀ (n9 : Nat) (y1 : Int32) (c2 : Int32) (c3 : Nat → Int32) (c4 : Nat → Int32) (c5 : Nat → Int32) (H : Heap) (locs : List Loc) (ls : Array Slot), sp_lp (f_X10_layMatter_L7 mn p1 k10 p2 lt le ri) n9 (y1, c2, c3, c4, c5) = some (mm', ma', ne', us') → sp_wd D A s.heap (sw_M a q5 fa tr la sl ce pn mn cl le ri lt nm nc nl nr nt at9 en9 de c2 c3 c4 c5 lk sd sf nu gt gl tb sc su) H locs → lv_has ls 7 [(0, .ref (a 0)), (1, .int p1), (2, .int p2), (3, .int y1)] → W p l e rmX10_layMatter s m args below meth c H locs 0 0 Q (F0 m 7 ls []) := by
    intro n9
    induction n9 with
    | zero =>
      intro y1 c2 c3 c4 c5 H locs ls hf hW hl
      exact (sp_lp0 hf).elim
    | succ n9 ih7 =>
      intro y1 c2 c3 c4 c5 H locs ls hf hW hl
      have hf := sp_lpS hf
      rw [f_X10_layMatter_L7_eq] at hf
      refine lv_iload_n hx hb dX10_layMatter_7 rfl (lv_at hl 3 rfl) ?_
      refine lv_aload_n hx hb dX10_layMatter_8 rfl (lv_at hl 0 rfl) ?_
      refine sp_get S hK hW inX10 0 rfl rfl 6 (by decide) lk2 rfl dX10_layMatter_9 ?_
      refine lv_iload_n hx hb dX10_layMatter_12 rfl (lv_at hl 1 rfl) ?_
      obtain ⟨hin, v11, ev11, hf⟩ := sp_hld hf
      refine sp_iald S hK hW 4 rfl hin ev11 dX10_layMatter_13 ?_
      refine lv_icmp_ge (tgt := 168) hx hb dX10_layMatter_14 (by decide) (fun hc => ?_) (fun hc => ?_)
      · have hf := sp_ht hf hc
        exact hj10 _ _ _ _ _ _ _ hf hW (lv_sub hl [] rfl)
      · have hf := sp_hf hf hc
        refine lv_iload_n hx hb dX10_layMatter_17 rfl (lv_at hl 2 rfl) ?_
        refine lv_iload_n hx hb dX10_layMatter_18 rfl (lv_at hl 3 rfl) ?_
        refine lv_ishr hx hb dX10_layMatter_19 ?_
        refine lv_iconst (v := 1) hx hb dX10_layMatter_20 (by decide) ?_
        refine lv_iand hx hb dX10_layMatter_21 ?_
        obtain ⟨k16, ek16, hf⟩ := sp_hb hf
        have hj16 : ∀ (c12 : Int32) (c13 : Nat → Int32) (c14 : Nat → Int32) (c15 : Nat → Int32) (H : Heap) (locs : List Loc) (ls : Array Slot), k16 c12 c13 c14 c15 = some (mm', ma', ne', us') → sp_wd D A s.heap (sw_M a q5 fa tr la sl ce pn mn cl le ri lt nm nc nl nr nt at9 en9 de c12 c13 c14 c15 lk sd sf nu gt gl tb sc su) H locs → lv_has ls 7 [(0, .ref (a 0)), (1, .int p1), (2, .int p2), (3, .int y1)] → W p l e rmX10_layMatter s m args below meth c H locs 0 0 Q (F0 m 162 ls []) := by
          intro c12 c13 c14 c15 H locs ls hf hW hl
          rw [ek16] at hf
          obtain ⟨v17, ev17, hf⟩ := sp_hb hf
          refine lv_iinc (v := v17) (lv' := [(3, .int v17), (0, .ref (a 0)), (1, .int p1), (2, .int p2)]) hx hb dX10_layMatter_162 hl (k := 3) rfl (by rw [ev17]; rfl) (by decide) rfl (fun ls hl => ?_)
          refine lv_goto (tgt := 7) hx hb dX10_layMatter_165 (by decide) ?_
          exact ih7 _ _ _ _ _ _ _ _ hf hW (lv_sub hl [1, 2, 3, 0] rfl)
        refine lv_if_ne (tgt := 28) hx hb dX10_layMatter_22 (by decide) (fun hc => ?_) (fun hc => ?_)
        · have hf := sp_hf hf hc
          refine lv_aload_n hx hb dX10_layMatter_28 rfl (lv_at hl 0 rfl) ?_
          refine sp_get S hK hW inX10 0 rfl rfl 19 (by decide) lk1 rfl dX10_layMatter_29 ?_
          refine lv_istore (lv' := [(4, .int c2), (0, .ref (a 0)), (1, .int p1), (2, .int p2), (3, .int y1)]) hx hb dX10_layMatter_32 hl (by decide) rfl (fun ls hl => ?_)
          refine lv_aload_n hx hb dX10_layMatter_34 rfl (lv_at hl 1 rfl) ?_
          refine sp_get S hK hW inX10 0 rfl rfl 20 (by decide) lk3 rfl dX10_layMatter_35 ?_
          refine lv_iload hx hb dX10_layMatter_38 (lv_at hl 0 rfl) ?_
          refine lv_iload_n hx hb dX10_layMatter_40 rfl (lv_at hl 4 rfl) ?_
          obtain ⟨hin, c18, ec18, hf⟩ := sp_hst hf
          refine sp_iast S hK hW 14 rfl hin ec18 (ws' := sw_M a q5 fa tr la sl ce pn mn cl le ri lt nm nc nl nr nt at9 en9 de c2 c18 c4 c5 lk sd sf nu gt gl tb sc su) rfl dX10_layMatter_41 (fun H locs hW => ?_)
          refine lv_aload_n hx hb dX10_layMatter_42 rfl (lv_at hl 1 rfl) ?_
          refine sp_get S hK hW inX10 0 rfl rfl 21 (by decide) lk4 rfl dX10_layMatter_43 ?_
          refine lv_iload hx hb dX10_layMatter_46 (lv_at hl 0 rfl) ?_
          refine lv_iconst (v := 0) hx hb dX10_layMatter_48 (by decide) ?_
          obtain ⟨hin, c19, ec19, hf⟩ := sp_hst hf
          refine sp_iast S hK hW 15 rfl hin ec19 (ws' := sw_M a q5 fa tr la sl ce pn mn cl le ri lt nm nc nl nr nt at9 en9 de c2 c18 c19 c5 lk sd sf nu gt gl tb sc su) rfl dX10_layMatter_49 (fun H locs hW => ?_)
          refine lv_aload_n hx hb dX10_layMatter_50 rfl (lv_at hl 1 rfl) ?_
          refine sp_get S hK hW inX10 0 rfl rfl 22 (by decide) lk5 rfl dX10_layMatter_51 ?_
          refine lv_iload hx hb dX10_layMatter_54 (lv_at hl 0 rfl) ?_
          refine lv_iconst (v := 0) hx hb dX10_layMatter_56 (by decide) ?_
          obtain ⟨hin, c20, ec20, hf⟩ := sp_hst hf
          refine sp_iast S hK hW 16 rfl hin ec20 (ws' := sw_M a q5 fa tr la sl ce pn mn cl le ri lt nm nc nl nr nt at9 en9 de c2 c18 c19 c20 lk sd sf nu gt gl tb sc su) rfl dX10_layMatter_57 (fun H locs hW => ?_)
          refine lv_aload_n hx hb dX10_layMatter_58 rfl (lv_at hl 1 rfl) ?_
          refine lv_dup hx hb dX10_layMatter_59 rfl ?_
          refine sp_get S hK hW inX10 0 rfl rfl 19 (by decide) lk1 rfl dX10_layMatter_60 ?_
          refine lv_iconst (v := 1) hx hb dX10_layMatter_63 (by decide) ?_
          refine lv_iadd hx hb dX10_layMatter_64 ?_
          obtain ⟨v21, ev21, hf⟩ := sp_hb hf
          refine sp_topi ev21 ?_
          refine sp_put S hK hW inX10 tyX10_ok nmX10 0 rfl rfl 19 (by decide) lk1 rfl rfl rfl (Nat.le_of_ble_eq_true rfl) (ws' := sw_M a q5 fa tr la sl ce pn mn cl le ri lt nm nc nl nr nt at9 en9 de v21 c18 c19 c20 lk sd sf nu gt gl tb sc su) rfl dX10_layMatter_65 (fun H locs hW => ?_)
          refine lv_aload_n hx hb dX10_layMatter_68 rfl (lv_at hl 1 rfl) ?_
          refine sp_get S hK hW inX10 0 rfl rfl 10 (by decide) lk6 rfl dX10_layMatter_69 ?_
          refine lv_bipush (v := 24) hx hb dX10_layMatter_72 (by decide) ?_
          refine lv_iload_n hx hb dX10_layMatter_74 rfl (lv_at hl 2 rfl) ?_
          refine lv_imul hx hb dX10_layMatter_75 ?_
          refine lv_iload_n hx hb dX10_layMatter_76 rfl (lv_at hl 4 rfl) ?_
          refine lv_iadd hx hb dX10_layMatter_77 ?_
          obtain ⟨hin, v22, ev22, hf⟩ := sp_hld hf
          refine sp_iald S hK hW 8 rfl hin ev22 dX10_layMatter_78 ?_
          refine lv_bipush (v := (-9)) hx hb dX10_layMatter_79 (by decide) ?_
          refine lv_icmp_eq (tgt := 162) hx hb dX10_layMatter_81 (by decide) (fun hc => ?_) (fun hc => ?_)
          · have hf := sp_ht hf hc
            exact hj16 _ _ _ _ _ _ _ hf hW (lv_sub hl [1, 2, 3, 4] rfl)
          · have hf := sp_hf hf hc
            refine lv_aload_n hx hb dX10_layMatter_84 rfl (lv_at hl 1 rfl) ?_
            refine lv_aload_n hx hb dX10_layMatter_85 rfl (lv_at hl 1 rfl) ?_
            refine sp_get S hK hW inX10 0 rfl rfl 8 (by decide) lk7 rfl dX10_layMatter_86 ?_
            refine lv_bipush (v := 24) hx hb dX10_layMatter_89 (by decide) ?_
            refine lv_iload_n hx hb dX10_layMatter_91 rfl (lv_at hl 2 rfl) ?_
            refine lv_imul hx hb dX10_layMatter_92 ?_
            refine lv_iload_n hx hb dX10_layMatter_93 rfl (lv_at hl 4 rfl) ?_
            refine lv_iadd hx hb dX10_layMatter_94 ?_
            obtain ⟨hin, v23, ev23, hf⟩ := sp_hld hf
            refine sp_iald S hK hW 6 rfl hin ev23 dX10_layMatter_95 ?_
            obtain ⟨r24, hc24, hf⟩ := sp_hc hf
            refine sp_callViP (rest := []) S hK hG hA hW (c_X10_placeOf a fa tr la sl ce pn mn cl le ri lt nm nc nl nr nt at9 en9 de v21 c18 c19 c20 lk sd sf nu gt gl tb sc su v23 hc24) (by decide) (cwV 1 S.2.2.2.2 gX10_layMatter_X10_placeOf rfl rfl rfl (by decide +kernel) (by decide)) 8 0 rfl rfl (sp_pn _) rfl (WS' := sw_M a q5 fa tr la sl ce pn mn cl le ri lt nm nc nl nr nt at9 en9 de v21 c18 c19 c20 lk sd sf nu gt gl tb sc su) (sp_pn' _) rfl hl.1 (Nat.le_of_ble_eq_true rfl) dX10_layMatter_96 ⟨Nat.zero_le _, Nat.zero_le _⟩ rfl (fun H locs hW => ?_)
            refine lv_istore (lv' := [(5, .int r24), (4, .int c2), (0, .ref (a 0)), (1, .int p1), (2, .int p2), (3, .int y1)]) hx hb dX10_layMatter_99 hl (by decide) rfl (fun ls hl => ?_)
            refine lv_aload_n hx hb dX10_layMatter_101 rfl (lv_at hl 2 rfl) ?_
            refine lv_aload_n hx hb dX10_layMatter_102 rfl (lv_at hl 2 rfl) ?_
            refine sp_get S hK hW inX10 0 rfl rfl 9 (by decide) lk8 rfl dX10_layMatter_103 ?_
            refine lv_bipush (v := 24) hx hb dX10_layMatter_106 (by decide) ?_
            refine lv_iload_n hx hb dX10_layMatter_108 rfl (lv_at hl 3 rfl) ?_
            refine lv_imul hx hb dX10_layMatter_109 ?_
            refine lv_iload_n hx hb dX10_layMatter_110 rfl (lv_at hl 5 rfl) ?_
            refine lv_iadd hx hb dX10_layMatter_111 ?_
            obtain ⟨hin, v25, ev25, hf⟩ := sp_hld hf
            refine sp_iald S hK hW 7 rfl hin ev25 dX10_layMatter_112 ?_
            obtain ⟨r26, hc26, hf⟩ := sp_hc hf
            refine sp_callViP (rest := []) S hK hG hA hW (c_X10_placeOf a fa tr la sl ce pn mn cl le ri lt nm nc nl nr nt at9 en9 de v21 c18 c19 c20 lk sd sf nu gt gl tb sc su v25 hc26) (by decide) (cwV 1 S.2.2.2.2 gX10_layMatter_X10_placeOf rfl rfl rfl (by decide +kernel) (by decide)) 8 0 rfl rfl (sp_pn _) rfl (WS' := sw_M a q5 fa tr la sl ce pn mn cl le ri lt nm nc nl nr nt at9 en9 de v21 c18 c19 c20 lk sd sf nu gt gl tb sc su) (sp_pn' _) rfl hl.1 (Nat.le_of_ble_eq_true rfl) dX10_layMatter_113 ⟨Nat.zero_le _, Nat.zero_le _⟩ rfl (fun H locs hW => ?_)
            refine lv_istore (lv' := [(6, .int r26), (5, .int r24), (4, .int c2), (0, .ref (a 0)), (1, .int p1), (2, .int p2), (3, .int y1)]) hx hb dX10_layMatter_116 hl (by decide) rfl (fun ls hl => ?_)
            refine lv_aload_n hx hb dX10_layMatter_118 rfl (lv_at hl 3 rfl) ?_
            refine sp_get S hK hW inX10 0 rfl rfl 21 (by decide) lk4 rfl dX10_layMatter_119 ?_
            refine lv_iload hx hb dX10_layMatter_122 (lv_at hl 2 rfl) ?_
            refine lv_iconst (v := 1) hx hb dX10_layMatter_124 (by decide) ?_
            refine lv_iload hx hb dX10_layMatter_125 (lv_at hl 1 rfl) ?_
            refine lv_ishl hx hb dX10_layMatter_127 ?_
            refine lv_iconst (v := 1) hx hb dX10_layMatter_128 (by decide) ?_
            refine lv_iload hx hb dX10_layMatter_129 (lv_at hl 0 rfl) ?_
            refine lv_ishl hx hb dX10_layMatter_131 ?_
            refine lv_ior hx hb dX10_layMatter_132 ?_
            obtain ⟨hin, c27, ec27, hf⟩ := sp_hst hf
            refine sp_iast S hK hW 15 rfl hin ec27 (ws' := sw_M a q5 fa tr la sl ce pn mn cl le ri lt nm nc nl nr nt at9 en9 de v21 c18 c27 c20 lk sd sf nu gt gl tb sc su) rfl dX10_layMatter_133 (fun H locs hW => ?_)
            refine lv_aload_n hx hb dX10_layMatter_134 rfl (lv_at hl 3 rfl) ?_
            refine sp_get S hK hW inX10 0 rfl rfl 22 (by decide) lk5 rfl dX10_layMatter_135 ?_
            refine lv_iload hx hb dX10_layMatter_138 (lv_at hl 1 rfl) ?_
            refine lv_dup2_11 hx hb dX10_layMatter_140 rfl rfl ?_
            obtain ⟨hin, v28, ev28, hf⟩ := sp_hld hf
            refine sp_iald S hK hW 16 rfl hin ev28 dX10_layMatter_141 ?_
            refine lv_iconst (v := 1) hx hb dX10_layMatter_142 (by decide) ?_
            refine lv_iload hx hb dX10_layMatter_143 (lv_at hl 2 rfl) ?_
            refine lv_ishl hx hb dX10_layMatter_145 ?_
            refine lv_ior hx hb dX10_layMatter_146 ?_
            obtain ⟨hin, c29, ec29, hf⟩ := sp_hst hf
            refine sp_iast S hK hW 16 rfl hin ec29 (ws' := sw_M a q5 fa tr la sl ce pn mn cl le ri lt nm nc nl nr nt at9 en9 de v21 c18 c27 c29 lk sd sf nu gt gl tb sc su) rfl dX10_layMatter_147 (fun H locs hW => ?_)
            refine lv_aload_n hx hb dX10_layMatter_148 rfl (lv_at hl 3 rfl) ?_
            refine sp_get S hK hW inX10 0 rfl rfl 22 (by decide) lk5 rfl dX10_layMatter_149 ?_
            refine lv_iload hx hb dX10_layMatter_152 (lv_at hl 0 rfl) ?_
            refine lv_dup2_11 hx hb dX10_layMatter_154 rfl rfl ?_
            obtain ⟨hin, v30, ev30, hf⟩ := sp_hld hf
            refine sp_iald S hK hW 16 rfl hin ev30 dX10_layMatter_155 ?_
            refine lv_iconst (v := 1) hx hb dX10_layMatter_156 (by decide) ?_
            refine lv_iload hx hb dX10_layMatter_157 (lv_at hl 2 rfl) ?_
            refine lv_ishl hx hb dX10_layMatter_159 ?_
            refine lv_ior hx hb dX10_layMatter_160 ?_
            obtain ⟨hin, c31, ec31, hf⟩ := sp_hst hf
            refine sp_iast S hK hW 16 rfl hin ec31 (ws' := sw_M a q5 fa tr la sl ce pn mn cl le ri lt nm nc nl nr nt at9 en9 de v21 c18 c27 c31 lk sd sf nu gt gl tb sc su) rfl dX10_layMatter_161 (fun H locs hW => ?_)
            exact hj16 _ _ _ _ _ _ _ hf hW (lv_sub hl [3, 4, 5, 6] rfl)
        · have hf := sp_ht hf hc
          refine lv_goto (tgt := 162) hx hb dX10_layMatter_25 (by decide) ?_
          exact hj16 _ _ _ _ _ _ _ hf hW (lv_sub hl [0, 1, 2, 3] rfl)
  exact hlp7 _ _ _ _ _ _ _ _ _ hf hW (lv_sub hl [1, 2, 3, 0] rfl)

def f_X10_keptBehind_L4 (mm : Int32) (k4 : Int32 → Option (Int32)) (p1 : Int32) (us : Nat → Int32) (rec4 : (Int32 × Int32) → Option (Int32)) (s9 : Int32 × Int32) : Option (Int32) := match s9 with
  | (y1, y2) => if mm ≤ y2 then (k4 y1) else (sp_bnd (fun (x5 : Int32) => sp_bnd (y1 + x5) (fun v7 => sp_bnd (y2 + (1 : Int32)) (fun v8 => rec4 (v7, v8)))) (fun k6 => if ((p1 >>> (y2 &&& 31)) &&& (1 : Int32)) = (1 : Int32) then (sp_ld us 12 y2 (fun v9 => if (v9 &&& (p1 ^^^ (-1 : Int32))) = 0 then (k6 (0 : Int32)) else (k6 (1 : Int32)))) else (k6 (0 : Int32))))
theorem f_X10_keptBehind_L4_eq {rec4 : (Int32 × Int32) → Option (Int32)} {mm : Int32} {k4 : Int32 → Option (Int32)} {p1 : Int32} {us : Nat → Int32} {y1 : Int32} {y2 : Int32} : f_X10_keptBehind_L4 mm k4 p1 us rec4 (y1, y2) = (if mm ≤ y2 then (k4 y1) else (sp_bnd (fun (x5 : Int32) => sp_bnd (y1 + x5) (fun v7 => sp_bnd (y2 + (1 : Int32)) (fun v8 => rec4 (v7, v8)))) (fun k6 => if ((p1 >>> (y2 &&& 31)) &&& (1 : Int32)) = (1 : Int32) then (sp_ld us 12 y2 (fun v9 => if (v9 &&& (p1 ^^^ (-1 : Int32))) = 0 then (k6 (0 : Int32)) else (k6 (1 : Int32)))) else (k6 (0 : Int32))))) := rfl
def f_X10_keptBehind (p1 : Int32) (mm : Int32) (us : Nat → Int32) : Option (Int32) := sp_bnd (fun (x3 : Int32) => some x3) (fun k4 => sp_lp (f_X10_keptBehind_L4 mm k4 p1 us) sp_F ((1 : Int32), (0 : Int32)))
def rmX10_keptBehind : Room := { frames := 0, cells := 0, slots := 0, locals := 0 }
set_option maxRecDepth 4000 in
theorem c_X10_keptBehind {l : Launch} {D : va_G} {q5 : Nat → ClassId} (a : Nat → Nat) (fa : Int32) (tr : Int32) (la : Nat → Int32) (sl : Nat → Int32) (ce : Nat → Int32) (pn : Int32) (mn : Nat → Int32) (cl : Nat → Int32) (le : Nat → Int32) (ri : Nat → Int32) (lt : Nat → Int32) (nm : Int32) (nc : Nat → Int32) (nl : Nat → Int32) (nr : Nat → Int32) (nt : Nat → Int32) (at9 : Int32) (en9 : Int32) (de : Nat → Int32) (mm : Int32) (ma : Nat → Int32) (ne : Nat → Int32) (us : Nat → Int32) (lk : Nat → Int32) (sd : Nat → Int32) (sf : Nat → Int32) (nu : Nat → Int32) (gt : Nat → Int64) (gl : Nat → Int32) (tb : Nat → Int64) (sc : Nat → Int32) (su : Nat → Int32) (p1 : Int32) {r' : Int32} (hf : f_X10_keptBehind p1 mm us = some r') : sp_Ci l yX10_keptBehind wsX10_keptBehind rmX10_keptBehind D q5 0 [.ref (a 0), .int p1] (sw_M a q5 fa tr la sl ce pn mn cl le ri lt nm nc nl nr nt at9 en9 de mm ma ne us lk sd sf nu gt gl tb sc su) r' (sw_M a q5 fa tr la sl ce pn mn cl le ri lt nm nc nl nr nt at9 en9 de mm ma ne us lk sd sf nu gt gl tb sc su) := by
  intro sz
  refine sp_of (cc := cX10_keptBehind) (maxL := 4) (ret := some .int) (own := RX10) (Qc := sp_Qi D r' (sw_M a q5 fa tr la sl ce pn mn cl le ri lt nm nc nl nr nt at9 en9 de mm ma ne us lk sd sf nu gt gl tb sc su)) (by decide) rfl rfl (Nat.le_of_ble_eq_true rfl) ?_
  intro p e s m args below meth c A ls Q hQ S hr hlk hK hG hA hW hl
  have hx := S.1
  have hb := S.2.1
  unfold f_X10_keptBehind at hf
  have inX10 : ∀ w ∈ u_ws RX10 TX10 32, w ∈ wsX10_keptBehind := (fun _ h => List.mem_cons_of_mem _ (List.mem_append_right _ h))
  have lk1 := S.2.2.2.2 (Cond.fieldLink RX10 194 "ShortProofsModel" "matterMany" "I") (List.mem_of_getElem? (i := 1) rfl)
  have lk2 := S.2.2.2.2 (Cond.fieldLink RX10 55 "ShortProofsModel" "users" "[I") (List.mem_of_getElem? (i := 2) rfl)
  refine lv_iconst (v := 1) hx hb dX10_keptBehind_0 (by decide) ?_
  refine lv_istore_n (lv' := [(2, .int (1 : Int32)), (0, .ref (a 0)), (1, .int p1)]) hx hb dX10_keptBehind_1 rfl hl (by decide) rfl (fun ls hl => ?_)
  refine lv_iconst (v := 0) hx hb dX10_keptBehind_2 (by decide) ?_
  refine lv_istore_n (lv' := [(3, .int (0 : Int32)), (2, .int (1 : Int32)), (0, .ref (a 0)), (1, .int p1)]) hx hb dX10_keptBehind_3 rfl hl (by decide) rfl (fun ls hl => ?_)
  obtain ⟨k4, ek4, hf⟩ := sp_hb hf
  have hj4 : ∀ (x3 : Int32) (H : Heap) (locs : List Loc) (ls : Array Slot), k4 x3 = some r' → sp_wd D A s.heap (sw_M a q5 fa tr la sl ce pn mn cl le ri lt nm nc nl nr nt at9 en9 de mm ma ne us lk sd sf nu gt gl tb sc su) H locs → lv_has ls 4 [(2, .int x3)] → W p l e rmX10_keptBehind s m args below meth c H locs 0 0 Q (F0 m 48 ls []) := by
    intro x3 H locs ls hf hW hl
    rw [ek4] at hf
    refine lv_iload_n hx hb dX10_keptBehind_48 rfl (lv_at hl 0 rfl) ?_
    have q0 := Option.some.inj hf
    subst q0
    exact sp_iret S hr hlk hW hQ dX10_keptBehind_49
  have hlp4 : ∀ (n9 : Nat) (y1 : Int32) (y2 : Int32) (H : Heap) (locs : List Loc) (ls : Array Slot), sp_lp (f_X10_keptBehind_L4 mm k4 p1 us) n9 (y1, y2) = some r' → sp_wd D A s.heap (sw_M a q5 fa tr la sl ce pn mn cl le ri lt nm nc nl nr nt at9 en9 de mm ma ne us lk sd sf nu gt gl tb sc su) H locs → lv_has ls 4 [(0, .ref (a 0)), (1, .int p1), (2, .int y1), (3, .int y2)] → W p l e rmX10_keptBehind s m args below meth c H locs 0 0 Q (F0 m 4 ls []) := by
    intro n9
    induction n9 with
    | zero =>
      intro y1 y2 H locs ls hf hW hl
      exact (sp_lp0 hf).elim
    | succ n9 ih4 =>
      intro y1 y2 H locs ls hf hW hl
      have hf := sp_lpS hf
      rw [f_X10_keptBehind_L4_eq] at hf
      refine lv_iload_n hx hb dX10_keptBehind_4 rfl (lv_at hl 3 rfl) ?_
      refine lv_aload_n hx hb dX10_keptBehind_5 rfl (lv_at hl 0 rfl) ?_
      refine sp_get S hK hW inX10 0 rfl rfl 19 (by decide) lk1 rfl dX10_keptBehind_6 ?_
      refine lv_icmp_ge (tgt := 48) hx hb dX10_keptBehind_9 (by decide) (fun hc => ?_) (fun hc => ?_)
      · have hf := sp_ht hf hc
        exact hj4 _ _ _ _ hf hW (lv_sub hl [2] rfl)
      · have hf := sp_hf hf hc
        refine lv_iload_n hx hb dX10_keptBehind_12 rfl (lv_at hl 2 rfl) ?_
        refine lv_iload_n hx hb dX10_keptBehind_13 rfl (lv_at hl 1 rfl) ?_
        refine lv_iload_n hx hb dX10_keptBehind_14 rfl (lv_at hl 3 rfl) ?_
        refine lv_ishr hx hb dX10_keptBehind_15 ?_
        refine lv_iconst (v := 1) hx hb dX10_keptBehind_16 (by decide) ?_
        refine lv_iand hx hb dX10_keptBehind_17 ?_
        refine lv_iconst (v := 1) hx hb dX10_keptBehind_18 (by decide) ?_
        obtain ⟨k6, ek6, hf⟩ := sp_hb hf
        have hj6 : ∀ (x5 : Int32) (H : Heap) (locs : List Loc) (ls : Array Slot), k6 x5 = some r' → sp_wd D A s.heap (sw_M a q5 fa tr la sl ce pn mn cl le ri lt nm nc nl nr nt at9 en9 de mm ma ne us lk sd sf nu gt gl tb sc su) H locs → lv_has ls 4 [(0, .ref (a 0)), (1, .int p1), (3, .int y2)] → W p l e rmX10_keptBehind s m args below meth c H locs 0 0 Q (F0 m 40 ls [.int x5, .int y1]) := by
          intro x5 H locs ls hf hW hl
          rw [ek6] at hf
          refine lv_iadd hx hb dX10_keptBehind_40 ?_
          obtain ⟨v7, ev7, hf⟩ := sp_hb hf
          refine sp_topi ev7 ?_
          refine lv_istore_n (lv' := [(2, .int v7), (0, .ref (a 0)), (1, .int p1), (3, .int y2)]) hx hb dX10_keptBehind_41 rfl hl (by decide) rfl (fun ls hl => ?_)
          obtain ⟨v8, ev8, hf⟩ := sp_hb hf
          refine lv_iinc (v := v8) (lv' := [(3, .int v8), (2, .int v7), (0, .ref (a 0)), (1, .int p1)]) hx hb dX10_keptBehind_42 hl (k := 3) rfl (by rw [ev8]; rfl) (by decide) rfl (fun ls hl => ?_)
          refine lv_goto (tgt := 4) hx hb dX10_keptBehind_45 (by decide) ?_
          exact ih4 _ _ _ _ _ hf hW (lv_sub hl [2, 3, 1, 0] rfl)
        refine lv_icmp_ne (tgt := 39) hx hb dX10_keptBehind_19 (by decide) (fun hc => ?_) (fun hc => ?_)
        · have hf := sp_hf hf hc
          refine lv_iconst (v := 0) hx hb dX10_keptBehind_39 (by decide) ?_
          exact hj6 _ _ _ _ hf hW (lv_sub hl [0, 1, 3] rfl)
        · have hf := sp_ht hf hc
          refine lv_aload_n hx hb dX10_keptBehind_22 rfl (lv_at hl 0 rfl) ?_
          refine sp_get S hK hW inX10 0 rfl rfl 22 (by decide) lk2 rfl dX10_keptBehind_23 ?_
          refine lv_iload_n hx hb dX10_keptBehind_26 rfl (lv_at hl 3 rfl) ?_
          obtain ⟨hin, v9, ev9, hf⟩ := sp_hld hf
          refine sp_iald S hK hW 16 rfl hin ev9 dX10_keptBehind_27 ?_
          refine lv_iload_n hx hb dX10_keptBehind_28 rfl (lv_at hl 1 rfl) ?_
          refine lv_iconst (v := (-1)) hx hb dX10_keptBehind_29 (by decide) ?_
          refine lv_ixor hx hb dX10_keptBehind_30 ?_
          refine lv_iand hx hb dX10_keptBehind_31 ?_
          refine lv_if_eq (tgt := 39) hx hb dX10_keptBehind_32 (by decide) (fun hc => ?_) (fun hc => ?_)
          · have hf := sp_ht hf hc
            refine lv_iconst (v := 0) hx hb dX10_keptBehind_39 (by decide) ?_
            exact hj6 _ _ _ _ hf hW (lv_sub hl [0, 1, 3] rfl)
          · have hf := sp_hf hf hc
            refine lv_iconst (v := 1) hx hb dX10_keptBehind_35 (by decide) ?_
            refine lv_goto (tgt := 40) hx hb dX10_keptBehind_36 (by decide) ?_
            exact hj6 _ _ _ _ hf hW (lv_sub hl [0, 1, 3] rfl)
  exact hlp4 _ _ _ _ _ _ hf hW (lv_sub hl [2, 3, 1, 0] rfl)

def f_X10_mayCome (p1 : Int32) (p2 : Int32) (ne : Nat → Int32) : Option (Int32) := if ((p1 >>> (p2 &&& 31)) &&& (1 : Int32)) = 0 then (sp_ld ne 12 p2 (fun v1 => if (v1 &&& (p1 ^^^ (-1 : Int32))) = 0 then (some (1 : Int32)) else (some (0 : Int32)))) else (some (0 : Int32))
def rmX10_mayCome : Room := { frames := 0, cells := 0, slots := 0, locals := 0 }
set_option maxRecDepth 4000 in
theorem c_X10_mayCome {l : Launch} {D : va_G} {q5 : Nat → ClassId} (a : Nat → Nat) (fa : Int32) (tr : Int32) (la : Nat → Int32) (sl : Nat → Int32) (ce : Nat → Int32) (pn : Int32) (mn : Nat → Int32) (cl : Nat → Int32) (le : Nat → Int32) (ri : Nat → Int32) (lt : Nat → Int32) (nm : Int32) (nc : Nat → Int32) (nl : Nat → Int32) (nr : Nat → Int32) (nt : Nat → Int32) (at9 : Int32) (en9 : Int32) (de : Nat → Int32) (mm : Int32) (ma : Nat → Int32) (ne : Nat → Int32) (us : Nat → Int32) (lk : Nat → Int32) (sd : Nat → Int32) (sf : Nat → Int32) (nu : Nat → Int32) (gt : Nat → Int64) (gl : Nat → Int32) (tb : Nat → Int64) (sc : Nat → Int32) (su : Nat → Int32) (p1 : Int32) (p2 : Int32) {r' : Int32} (hf : f_X10_mayCome p1 p2 ne = some r') : sp_Ci l yX10_mayCome wsX10_mayCome rmX10_mayCome D q5 0 [.ref (a 0), .int p1, .int p2] (sw_M a q5 fa tr la sl ce pn mn cl le ri lt nm nc nl nr nt at9 en9 de mm ma ne us lk sd sf nu gt gl tb sc su) r' (sw_M a q5 fa tr la sl ce pn mn cl le ri lt nm nc nl nr nt at9 en9 de mm ma ne us lk sd sf nu gt gl tb sc su) := by
  intro sz
  refine sp_of (cc := cX10_mayCome) (maxL := 3) (ret := some .boolean) (own := RX10) (Qc := sp_Qi D r' (sw_M a q5 fa tr la sl ce pn mn cl le ri lt nm nc nl nr nt at9 en9 de mm ma ne us lk sd sf nu gt gl tb sc su)) (by decide) rfl rfl (Nat.le_of_ble_eq_true rfl) ?_
  intro p e s m args below meth c A ls Q hQ S hr hlk hK hG hA hW hl
  have hx := S.1
  have hb := S.2.1
  unfold f_X10_mayCome at hf
  have inX10 : ∀ w ∈ u_ws RX10 TX10 32, w ∈ wsX10_mayCome := (fun _ h => List.mem_cons_of_mem _ (List.mem_append_right _ h))
  have lk1 := S.2.2.2.2 (Cond.fieldLink RX10 52 "ShortProofsModel" "needs" "[I") (List.mem_of_getElem? (i := 1) rfl)
  refine lv_iload_n hx hb dX10_mayCome_0 rfl (lv_at hl 1 rfl) ?_
  refine lv_iload_n hx hb dX10_mayCome_1 rfl (lv_at hl 2 rfl) ?_
  refine lv_ishr hx hb dX10_mayCome_2 ?_
  refine lv_iconst (v := 1) hx hb dX10_mayCome_3 (by decide) ?_
  refine lv_iand hx hb dX10_mayCome_4 ?_
  refine lv_if_ne (tgt := 25) hx hb dX10_mayCome_5 (by decide) (fun hc => ?_) (fun hc => ?_)
  · have hf := sp_hf hf hc
    refine lv_iconst (v := 0) hx hb dX10_mayCome_25 (by decide) ?_
    have q0 := Option.some.inj hf
    subst q0
    exact sp_zret S hr hlk hW rfl hQ dX10_mayCome_26
  · have hf := sp_ht hf hc
    refine lv_aload_n hx hb dX10_mayCome_8 rfl (lv_at hl 0 rfl) ?_
    refine sp_get S hK hW inX10 0 rfl rfl 21 (by decide) lk1 rfl dX10_mayCome_9 ?_
    refine lv_iload_n hx hb dX10_mayCome_12 rfl (lv_at hl 2 rfl) ?_
    obtain ⟨hin, v1, ev1, hf⟩ := sp_hld hf
    refine sp_iald S hK hW 15 rfl hin ev1 dX10_mayCome_13 ?_
    refine lv_iload_n hx hb dX10_mayCome_14 rfl (lv_at hl 1 rfl) ?_
    refine lv_iconst (v := (-1)) hx hb dX10_mayCome_15 (by decide) ?_
    refine lv_ixor hx hb dX10_mayCome_16 ?_
    refine lv_iand hx hb dX10_mayCome_17 ?_
    refine lv_if_ne (tgt := 25) hx hb dX10_mayCome_18 (by decide) (fun hc => ?_) (fun hc => ?_)
    · have hf := sp_hf hf hc
      refine lv_iconst (v := 0) hx hb dX10_mayCome_25 (by decide) ?_
      have q0 := Option.some.inj hf
      subst q0
      exact sp_zret S hr hlk hW rfl hQ dX10_mayCome_26
    · have hf := sp_ht hf hc
      refine lv_iconst (v := 1) hx hb dX10_mayCome_21 (by decide) ?_
      refine lv_goto (tgt := 26) hx hb dX10_mayCome_22 (by decide) ?_
      have q0 := Option.some.inj hf
      subst q0
      exact sp_zret S hr hlk hW rfl hQ dX10_mayCome_26

def f_X10_layKept_L44 (mm : Int32) (k13 : Int32 → Option ((Nat → Int32))) (y2 : Int32) (ne : Nat → Int32) (c3 : Nat → Int32) (rec44 : (Int32 × Int32) → Option ((Nat → Int32))) (s9 : Int32 × Int32) : Option ((Nat → Int32)) := match s9 with
  | (y10, y11) => if mm ≤ y11 then (k13 y10) else (Option.bind (f_X10_mayCome y2 y11 ne) (fun r17 => sp_bnd (fun (x18 : Int32) => sp_bnd (y11 + (1 : Int32)) (fun v20 => rec44 (x18, v20))) (fun k19 => if r17 = 0 then (k19 y10) else (sp_ld c3 4096 (y2 ||| ((1 : Int32) <<< (y11 &&& 31))) (fun v21 => sp_bnd (fun (x22 : Int32) => k19 x22) (fun k23 => if y10 ≤ v21 then (k23 y10) else (k23 v21)))))))
theorem f_X10_layKept_L44_eq {rec44 : (Int32 × Int32) → Option ((Nat → Int32))} {mm : Int32} {k13 : Int32 → Option ((Nat → Int32))} {y2 : Int32} {ne : Nat → Int32} {c3 : Nat → Int32} {y10 : Int32} {y11 : Int32} : f_X10_layKept_L44 mm k13 y2 ne c3 rec44 (y10, y11) = (if mm ≤ y11 then (k13 y10) else (Option.bind (f_X10_mayCome y2 y11 ne) (fun r17 => sp_bnd (fun (x18 : Int32) => sp_bnd (y11 + (1 : Int32)) (fun v20 => rec44 (x18, v20))) (fun k19 => if r17 = 0 then (k19 y10) else (sp_ld c3 4096 (y2 ||| ((1 : Int32) <<< (y11 &&& 31))) (fun v21 => sp_bnd (fun (x22 : Int32) => k19 x22) (fun k23 => if y10 ≤ v21 then (k23 y10) else (k23 v21)))))))) := rfl
def f_X10_layKept_L11 (k5 : (Nat → Int32) → Option ((Nat → Int32))) (v1 : Int32) (mm : Int32) (us : Nat → Int32) (ne : Nat → Int32) (rec11 : (Int32 × (Nat → Int32)) → Option ((Nat → Int32))) (s9 : Int32 × (Nat → Int32)) : Option ((Nat → Int32)) := match s9 with
  | (y2, c3) => if y2 < 0 then (k5 c3) else (sp_bnd (fun (c6 : Nat → Int32) => sp_bnd (y2 + (-1 : Int32)) (fun v8 => rec11 (v8, c6))) (fun k7 => if y2 = v1 then (sp_st c3 4096 y2 (0 : Int32) (fun c24 => k7 c24)) else (Option.bind (f_X10_keptBehind y2 mm us) (fun r9 => sp_bnd (fun (x12 : Int32) => sp_bnd (fun (x14 : Int32) => sp_st c3 4096 y2 x14 (fun c16 => k7 c16)) (fun k15 => if r9 ≤ x12 then (k15 x12) else (k15 r9))) (fun k13 => sp_lp (f_X10_layKept_L44 mm k13 y2 ne c3) sp_F ((1000 : Int32), (0 : Int32)))))))
theorem f_X10_layKept_L11_eq {rec11 : (Int32 × (Nat → Int32)) → Option ((Nat → Int32))} {k5 : (Nat → Int32) → Option ((Nat → Int32))} {v1 : Int32} {mm : Int32} {us : Nat → Int32} {ne : Nat → Int32} {y2 : Int32} {c3 : Nat → Int32} : f_X10_layKept_L11 k5 v1 mm us ne rec11 (y2, c3) = (if y2 < 0 then (k5 c3) else (sp_bnd (fun (c6 : Nat → Int32) => sp_bnd (y2 + (-1 : Int32)) (fun v8 => rec11 (v8, c6))) (fun k7 => if y2 = v1 then (sp_st c3 4096 y2 (0 : Int32) (fun c24 => k7 c24)) else (Option.bind (f_X10_keptBehind y2 mm us) (fun r9 => sp_bnd (fun (x12 : Int32) => sp_bnd (fun (x14 : Int32) => sp_st c3 4096 y2 x14 (fun c16 => k7 c16)) (fun k15 => if r9 ≤ x12 then (k15 x12) else (k15 r9))) (fun k13 => sp_lp (f_X10_layKept_L44 mm k13 y2 ne c3) sp_F ((1000 : Int32), (0 : Int32)))))))) := rfl
def f_X10_layKept (mm : Int32) (ne : Nat → Int32) (us : Nat → Int32) (lk : Nat → Int32) : Option ((Nat → Int32)) := sp_bnd (((1 : Int32) <<< (mm &&& 31)) - (1 : Int32)) (fun v1 => sp_bnd (fun (c4 : Nat → Int32) => some c4) (fun k5 => sp_lp (f_X10_layKept_L11 k5 v1 mm us ne) sp_F (v1, lk)))
def rmX10_layKept : Room := { frames := 1, cells := 0, slots := 0, locals := 23 }
set_option maxRecDepth 4000 in
theorem c_X10_layKept {l : Launch} {D : va_G} {q5 : Nat → ClassId} (a : Nat → Nat) (fa : Int32) (tr : Int32) (la : Nat → Int32) (sl : Nat → Int32) (ce : Nat → Int32) (pn : Int32) (mn : Nat → Int32) (cl : Nat → Int32) (le : Nat → Int32) (ri : Nat → Int32) (lt : Nat → Int32) (nm : Int32) (nc : Nat → Int32) (nl : Nat → Int32) (nr : Nat → Int32) (nt : Nat → Int32) (at9 : Int32) (en9 : Int32) (de : Nat → Int32) (mm : Int32) (ma : Nat → Int32) (ne : Nat → Int32) (us : Nat → Int32) (lk : Nat → Int32) (sd : Nat → Int32) (sf : Nat → Int32) (nu : Nat → Int32) (gt : Nat → Int64) (gl : Nat → Int32) (tb : Nat → Int64) (sc : Nat → Int32) (su : Nat → Int32) {lk' : Nat → Int32} (hf : f_X10_layKept mm ne us lk = some lk') : sp_Cv l yX10_layKept wsX10_layKept rmX10_layKept D q5 0 [.ref (a 0)] (sw_M a q5 fa tr la sl ce pn mn cl le ri lt nm nc nl nr nt at9 en9 de mm ma ne us lk sd sf nu gt gl tb sc su) (sw_M a q5 fa tr la sl ce pn mn cl le ri lt nm nc nl nr nt at9 en9 de mm ma ne us lk' sd sf nu gt gl tb sc su) := by
  intro sz
  refine sp_of (cc := cX10_layKept) (maxL := 7) (ret := none) (own := RX10) (Qc := sp_Qv D (sw_M a q5 fa tr la sl ce pn mn cl le ri lt nm nc nl nr nt at9 en9 de mm ma ne us lk' sd sf nu gt gl tb sc su)) (by decide) rfl rfl (Nat.le_of_ble_eq_true rfl) ?_
  intro p e s m args below meth c A ls Q hQ S hr hlk hK hG hA hW hl
  have hx := S.1
  have hb := S.2.1
  unfold f_X10_layKept at hf
  have inX10 : ∀ w ∈ u_ws RX10 TX10 32, w ∈ wsX10_layKept := (fun _ h => List.mem_cons_of_mem _ (List.mem_append_right _ h))
  have lk1 := S.2.2.2.2 (Cond.fieldLink RX10 194 "ShortProofsModel" "matterMany" "I") (List.mem_of_getElem? (i := 1) rfl)
  have lk2 := S.2.2.2.2 (Cond.fieldLink RX10 58 "ShortProofsModel" "leastKept" "[I") (List.mem_of_getElem? (i := 2) rfl)
  refine lv_iconst (v := 1) hx hb dX10_layKept_0 (by decide) ?_
  refine lv_aload_n hx hb dX10_layKept_1 rfl (lv_at hl 0 rfl) ?_
  refine sp_get S hK hW inX10 0 rfl rfl 19 (by decide) lk1 rfl dX10_layKept_2 ?_
  refine lv_ishl hx hb dX10_layKept_5 ?_
  refine lv_iconst (v := 1) hx hb dX10_layKept_6 (by decide) ?_
  refine lv_isub hx hb dX10_layKept_7 ?_
  obtain ⟨v1, ev1, hf⟩ := sp_hb hf
  refine sp_topi ev1 ?_
  refine lv_istore_n (lv' := [(1, .int v1), (0, .ref (a 0))]) hx hb dX10_layKept_8 rfl hl (by decide) rfl (fun ls hl => ?_)
  refine lv_iload_n hx hb dX10_layKept_9 rfl (lv_at hl 0 rfl) ?_
  refine lv_istore_n (lv' := [(2, .int v1), (1, .int v1), (0, .ref (a 0))]) hx hb dX10_layKept_10 rfl hl (by decide) rfl (fun ls hl => ?_)
  obtain ⟨k5, ek5, hf⟩ := sp_hb hf
  have hj5 : ∀ (c4 : Nat → Int32) (H : Heap) (locs : List Loc) (ls : Array Slot), k5 c4 = some lk' → sp_wd D A s.heap (sw_M a q5 fa tr la sl ce pn mn cl le ri lt nm nc nl nr nt at9 en9 de mm ma ne us c4 sd sf nu gt gl tb sc su) H locs → lv_has ls 7 [] → W p l e rmX10_layKept s m args below meth c H locs 0 0 Q (F0 m 122 ls []) := by
    intro c4 H locs ls hf hW hl
    rw [ek5] at hf
    have q0 := Option.some.inj hf
    subst q0
    exact sp_vret S hr hlk hW hQ dX10_layKept_122
  have hlp11 : ∀ (n9 : Nat) (y2 : Int32) (c3 : Nat → Int32) (H : Heap) (locs : List Loc) (ls : Array Slot), sp_lp (f_X10_layKept_L11 k5 v1 mm us ne) n9 (y2, c3) = some lk' → sp_wd D A s.heap (sw_M a q5 fa tr la sl ce pn mn cl le ri lt nm nc nl nr nt at9 en9 de mm ma ne us c3 sd sf nu gt gl tb sc su) H locs → lv_has ls 7 [(0, .ref (a 0)), (1, .int v1), (2, .int y2)] → W p l e rmX10_layKept s m args below meth c H locs 0 0 Q (F0 m 11 ls []) := by
    intro n9
    induction n9 with
    | zero =>
      intro y2 c3 H locs ls hf hW hl
      exact (sp_lp0 hf).elim
    | succ n9 ih11 =>
      intro y2 c3 H locs ls hf hW hl
      have hf := sp_lpS hf
      rw [f_X10_layKept_L11_eq] at hf
      refine lv_iload_n hx hb dX10_layKept_11 rfl (lv_at hl 2 rfl) ?_
      refine lv_if_lt (tgt := 122) hx hb dX10_layKept_12 (by decide) (fun hc => ?_) (fun hc => ?_)
      · have hf := sp_ht hf hc
        exact hj5 _ _ _ _ hf hW (lv_sub hl [] rfl)
      · have hf := sp_hf hf hc
        refine lv_iload_n hx hb dX10_layKept_15 rfl (lv_at hl 2 rfl) ?_
        refine lv_iload_n hx hb dX10_layKept_16 rfl (lv_at hl 1 rfl) ?_
        obtain ⟨k7, ek7, hf⟩ := sp_hb hf
        have hj7 : ∀ (c6 : Nat → Int32) (H : Heap) (locs : List Loc) (ls : Array Slot), k7 c6 = some lk' → sp_wd D A s.heap (sw_M a q5 fa tr la sl ce pn mn cl le ri lt nm nc nl nr nt at9 en9 de mm ma ne us c6 sd sf nu gt gl tb sc su) H locs → lv_has ls 7 [(0, .ref (a 0)), (1, .int v1), (2, .int y2)] → W p l e rmX10_layKept s m args below meth c H locs 0 0 Q (F0 m 116 ls []) := by
          intro c6 H locs ls hf hW hl
          rw [ek7] at hf
          obtain ⟨v8, ev8, hf⟩ := sp_hb hf
          refine lv_iinc (v := v8) (lv' := [(2, .int v8), (0, .ref (a 0)), (1, .int v1)]) hx hb dX10_layKept_116 hl (k := 2) rfl (by rw [ev8]; rfl) (by decide) rfl (fun ls hl => ?_)
          refine lv_goto (tgt := 11) hx hb dX10_layKept_119 (by decide) ?_
          exact ih11 _ _ _ _ _ hf hW (lv_sub hl [1, 2, 0] rfl)
        refine lv_icmp_ne (tgt := 30) hx hb dX10_layKept_17 (by decide) (fun hc => ?_) (fun hc => ?_)
        · have hf := sp_hf hf hc
          refine lv_aload_n hx hb dX10_layKept_30 rfl (lv_at hl 0 rfl) ?_
          refine lv_iload_n hx hb dX10_layKept_31 rfl (lv_at hl 2 rfl) ?_
          obtain ⟨r9, hc9, hf⟩ := sp_hc hf
          refine sp_callViP (rest := []) S hK hG hA hW (c_X10_keptBehind a fa tr la sl ce pn mn cl le ri lt nm nc nl nr nt at9 en9 de mm ma ne us c3 sd sf nu gt gl tb sc su y2 hc9) (by decide) (cwV 1 S.2.2.2.2 gX10_layKept_X10_keptBehind rfl rfl rfl (by decide +kernel) (by decide)) 8 0 rfl rfl (sp_pn _) rfl (WS' := sw_M a q5 fa tr la sl ce pn mn cl le ri lt nm nc nl nr nt at9 en9 de mm ma ne us c3 sd sf nu gt gl tb sc su) (sp_pn' _) rfl hl.1 (Nat.le_of_ble_eq_true rfl) dX10_layKept_32 ⟨Nat.zero_le _, Nat.zero_le _⟩ rfl (fun H locs hW => ?_)
          refine lv_istore_n (lv' := [(3, .int r9), (0, .ref (a 0)), (1, .int v1), (2, .int y2)]) hx hb dX10_layKept_35 rfl hl (by decide) rfl (fun ls hl => ?_)
          refine lv_sipush (v := 1000) hx hb dX10_layKept_36 (by decide) ?_
          refine lv_istore (lv' := [(4, .int (1000 : Int32)), (3, .int r9), (0, .ref (a 0)), (1, .int v1), (2, .int y2)]) hx hb dX10_layKept_39 hl (by decide) rfl (fun ls hl => ?_)
          refine lv_iconst (v := 0) hx hb dX10_layKept_41 (by decide) ?_
          refine lv_istore (lv' := [(5, .int (0 : Int32)), (4, .int (1000 : Int32)), (3, .int r9), (0, .ref (a 0)), (1, .int v1), (2, .int y2)]) hx hb dX10_layKept_42 hl (by decide) rfl (fun ls hl => ?_)
          obtain ⟨k13, ek13, hf⟩ := sp_hb hf
          have hj13 : ∀ (x12 : Int32) (H : Heap) (locs : List Loc) (ls : Array Slot), k13 x12 = some lk' → sp_wd D A s.heap (sw_M a q5 fa tr la sl ce pn mn cl le ri lt nm nc nl nr nt at9 en9 de mm ma ne us c3 sd sf nu gt gl tb sc su) H locs → lv_has ls 7 [(0, .ref (a 0)), (1, .int v1), (2, .int y2), (3, .int r9), (4, .int x12)] → W p l e rmX10_layKept s m args below meth c H locs 0 0 Q (F0 m 98 ls []) := by
            intro x12 H locs ls hf hW hl
            rw [ek13] at hf
            refine lv_aload_n hx hb dX10_layKept_98 rfl (lv_at hl 0 rfl) ?_
            refine sp_get S hK hW inX10 0 rfl rfl 23 (by decide) lk2 rfl dX10_layKept_99 ?_
            refine lv_iload_n hx hb dX10_layKept_102 rfl (lv_at hl 2 rfl) ?_
            refine lv_iload_n hx hb dX10_layKept_103 rfl (lv_at hl 3 rfl) ?_
            refine lv_iload hx hb dX10_layKept_104 (lv_at hl 4 rfl) ?_
            obtain ⟨k15, ek15, hf⟩ := sp_hb hf
            have hj15 : ∀ (x14 : Int32) (H : Heap) (locs : List Loc) (ls : Array Slot), k15 x14 = some lk' → sp_wd D A s.heap (sw_M a q5 fa tr la sl ce pn mn cl le ri lt nm nc nl nr nt at9 en9 de mm ma ne us c3 sd sf nu gt gl tb sc su) H locs → lv_has ls 7 [(0, .ref (a 0)), (1, .int v1), (2, .int y2)] → W p l e rmX10_layKept s m args below meth c H locs 0 0 Q (F0 m 115 ls [.int x14, .int y2, .ref (a 17)]) := by
              intro x14 H locs ls hf hW hl
              rw [ek15] at hf
              obtain ⟨hin, c16, ec16, hf⟩ := sp_hst hf
              refine sp_iast S hK hW 17 rfl hin ec16 (ws' := sw_M a q5 fa tr la sl ce pn mn cl le ri lt nm nc nl nr nt at9 en9 de mm ma ne us c16 sd sf nu gt gl tb sc su) rfl dX10_layKept_115 (fun H locs hW => ?_)
              exact hj7 _ _ _ _ hf hW (lv_sub hl [0, 1, 2] rfl)
            refine lv_icmp_le (tgt := 113) hx hb dX10_layKept_106 (by decide) (fun hc => ?_) (fun hc => ?_)
            · have hf := sp_ht hf hc
              refine lv_iload hx hb dX10_layKept_113 (lv_at hl 4 rfl) ?_
              exact hj15 _ _ _ _ hf hW (lv_sub hl [0, 1, 2] rfl)
            · have hf := sp_hf hf hc
              refine lv_iload_n hx hb dX10_layKept_109 rfl (lv_at hl 3 rfl) ?_
              refine lv_goto (tgt := 115) hx hb dX10_layKept_110 (by decide) ?_
              exact hj15 _ _ _ _ hf hW (lv_sub hl [0, 1, 2] rfl)
          have hlp44 : ∀ (n9 : Nat) (y10 : Int32) (y11 : Int32) (H : Heap) (locs : List Loc) (ls : Array Slot), sp_lp (f_X10_layKept_L44 mm k13 y2 ne c3) n9 (y10, y11) = some lk' → sp_wd D A s.heap (sw_M a q5 fa tr la sl ce pn mn cl le ri lt nm nc nl nr nt at9 en9 de mm ma ne us c3 sd sf nu gt gl tb sc su) H locs → lv_has ls 7 [(0, .ref (a 0)), (1, .int v1), (2, .int y2), (3, .int r9), (4, .int y10), (5, .int y11)] → W p l e rmX10_layKept s m args below meth c H locs 0 0 Q (F0 m 44 ls []) := by
            intro n9
            induction n9 with
            | zero =>
              intro y10 y11 H locs ls hf hW hl
              exact (sp_lp0 hf).elim
            | succ n9 ih44 =>
              intro y10 y11 H locs ls hf hW hl
              have hf := sp_lpS hf
              rw [f_X10_layKept_L44_eq] at hf
              refine lv_iload hx hb dX10_layKept_44 (lv_at hl 5 rfl) ?_
              refine lv_aload_n hx hb dX10_layKept_46 rfl (lv_at hl 0 rfl) ?_
              refine sp_get S hK hW inX10 0 rfl rfl 19 (by decide) lk1 rfl dX10_layKept_47 ?_
              refine lv_icmp_ge (tgt := 98) hx hb dX10_layKept_50 (by decide) (fun hc => ?_) (fun hc => ?_)
              · have hf := sp_ht hf hc
                exact hj13 _ _ _ _ hf hW (lv_sub hl [0, 1, 2, 3, 4] rfl)
              · have hf := sp_hf hf hc
                refine lv_aload_n hx hb dX10_layKept_53 rfl (lv_at hl 0 rfl) ?_
                refine lv_iload_n hx hb dX10_layKept_54 rfl (lv_at hl 2 rfl) ?_
                refine lv_iload hx hb dX10_layKept_55 (lv_at hl 5 rfl) ?_
                obtain ⟨r17, hc17, hf⟩ := sp_hc hf
                refine sp_callViP (rest := []) S hK hG hA hW (c_X10_mayCome a fa tr la sl ce pn mn cl le ri lt nm nc nl nr nt at9 en9 de mm ma ne us c3 sd sf nu gt gl tb sc su y2 y11 hc17) (by decide) (cwV 2 S.2.2.2.2 gX10_layKept_X10_mayCome rfl rfl rfl (by decide +kernel) (by decide)) 8 0 rfl rfl (sp_pn _) rfl (WS' := sw_M a q5 fa tr la sl ce pn mn cl le ri lt nm nc nl nr nt at9 en9 de mm ma ne us c3 sd sf nu gt gl tb sc su) (sp_pn' _) rfl hl.1 (Nat.le_of_ble_eq_true rfl) dX10_layKept_57 ⟨Nat.zero_le _, Nat.zero_le _⟩ rfl (fun H locs hW => ?_)
                obtain ⟨k19, ek19, hf⟩ := sp_hb hf
                have hj19 : ∀ (x18 : Int32) (H : Heap) (locs : List Loc) (ls : Array Slot), k19 x18 = some lk' → sp_wd D A s.heap (sw_M a q5 fa tr la sl ce pn mn cl le ri lt nm nc nl nr nt at9 en9 de mm ma ne us c3 sd sf nu gt gl tb sc su) H locs → lv_has ls 7 [(0, .ref (a 0)), (1, .int v1), (2, .int y2), (3, .int r9), (4, .int x18), (5, .int y11)] → W p l e rmX10_layKept s m args below meth c H locs 0 0 Q (F0 m 92 ls []) := by
                  intro x18 H locs ls hf hW hl
                  rw [ek19] at hf
                  obtain ⟨v20, ev20, hf⟩ := sp_hb hf
                  refine lv_iinc (v := v20) (lv' := [(5, .int v20), (0, .ref (a 0)), (1, .int v1), (2, .int y2), (3, .int r9), (4, .int x18)]) hx hb dX10_layKept_92 hl (k := 5) rfl (by rw [ev20]; rfl) (by decide) rfl (fun ls hl => ?_)
                  refine lv_goto (tgt := 44) hx hb dX10_layKept_95 (by decide) ?_
                  exact ih44 _ _ _ _ _ hf hW (lv_sub hl [1, 2, 3, 4, 5, 0] rfl)
                refine lv_if_eq (tgt := 92) hx hb dX10_layKept_60 (by decide) (fun hc => ?_) (fun hc => ?_)
                · have hf := sp_ht hf hc
                  exact hj19 _ _ _ _ hf hW (lv_sub hl [0, 1, 2, 3, 4, 5] rfl)
                · have hf := sp_hf hf hc
                  refine lv_aload_n hx hb dX10_layKept_63 rfl (lv_at hl 0 rfl) ?_
                  refine sp_get S hK hW inX10 0 rfl rfl 23 (by decide) lk2 rfl dX10_layKept_64 ?_
                  refine lv_iload_n hx hb dX10_layKept_67 rfl (lv_at hl 2 rfl) ?_
                  refine lv_iconst (v := 1) hx hb dX10_layKept_68 (by decide) ?_
                  refine lv_iload hx hb dX10_layKept_69 (lv_at hl 5 rfl) ?_
                  refine lv_ishl hx hb dX10_layKept_71 ?_
                  refine lv_ior hx hb dX10_layKept_72 ?_
                  obtain ⟨hin, v21, ev21, hf⟩ := sp_hld hf
                  refine sp_iald S hK hW 17 rfl hin ev21 dX10_layKept_73 ?_
                  refine lv_istore (lv' := [(6, .int v21), (0, .ref (a 0)), (1, .int v1), (2, .int y2), (3, .int r9), (4, .int y10), (5, .int y11)]) hx hb dX10_layKept_74 hl (by decide) rfl (fun ls hl => ?_)
                  refine lv_iload hx hb dX10_layKept_76 (lv_at hl 0 rfl) ?_
                  refine lv_iload hx hb dX10_layKept_78 (lv_at hl 5 rfl) ?_
                  obtain ⟨k23, ek23, hf⟩ := sp_hb hf
                  have hj23 : ∀ (x22 : Int32) (H : Heap) (locs : List Loc) (ls : Array Slot), k23 x22 = some lk' → sp_wd D A s.heap (sw_M a q5 fa tr la sl ce pn mn cl le ri lt nm nc nl nr nt at9 en9 de mm ma ne us c3 sd sf nu gt gl tb sc su) H locs → lv_has ls 7 [(0, .ref (a 0)), (1, .int v1), (2, .int y2), (3, .int r9), (5, .int y11)] → W p l e rmX10_layKept s m args below meth c H locs 0 0 Q (F0 m 90 ls [.int x22]) := by
                    intro x22 H locs ls hf hW hl
                    rw [ek23] at hf
                    refine lv_istore (lv' := [(4, .int x22), (0, .ref (a 0)), (1, .int v1), (2, .int y2), (3, .int r9), (5, .int y11)]) hx hb dX10_layKept_90 hl (by decide) rfl (fun ls hl => ?_)
                    exact hj19 _ _ _ _ hf hW (lv_sub hl [1, 2, 3, 4, 0, 5] rfl)
                  refine lv_icmp_ge (tgt := 88) hx hb dX10_layKept_80 (by decide) (fun hc => ?_) (fun hc => ?_)
                  · have hf := sp_ht hf hc
                    refine lv_iload hx hb dX10_layKept_88 (lv_at hl 5 rfl) ?_
                    exact hj23 _ _ _ _ hf hW (lv_sub hl [1, 2, 3, 4, 6] rfl)
                  · have hf := sp_hf hf hc
                    refine lv_iload hx hb dX10_layKept_83 (lv_at hl 0 rfl) ?_
                    refine lv_goto (tgt := 90) hx hb dX10_layKept_85 (by decide) ?_
                    exact hj23 _ _ _ _ hf hW (lv_sub hl [1, 2, 3, 4, 6] rfl)
          exact hlp44 _ _ _ _ _ _ hf hW (lv_sub hl [3, 4, 5, 2, 1, 0] rfl)
        · have hf := sp_ht hf hc
          refine lv_aload_n hx hb dX10_layKept_20 rfl (lv_at hl 0 rfl) ?_
          refine sp_get S hK hW inX10 0 rfl rfl 23 (by decide) lk2 rfl dX10_layKept_21 ?_
          refine lv_iload_n hx hb dX10_layKept_24 rfl (lv_at hl 2 rfl) ?_
          refine lv_iconst (v := 0) hx hb dX10_layKept_25 (by decide) ?_
          obtain ⟨hin, c24, ec24, hf⟩ := sp_hst hf
          refine sp_iast S hK hW 17 rfl hin ec24 (ws' := sw_M a q5 fa tr la sl ce pn mn cl le ri lt nm nc nl nr nt at9 en9 de mm ma ne us c24 sd sf nu gt gl tb sc su) rfl dX10_layKept_26 (fun H locs hW => ?_)
          refine lv_goto (tgt := 116) hx hb dX10_layKept_27 (by decide) ?_
          exact hj7 _ _ _ _ hf hW (lv_sub hl [0, 1, 2] rfl)
  exact hlp11 _ _ _ _ _ _ hf hW (lv_sub hl [2, 1, 0] rfl)
