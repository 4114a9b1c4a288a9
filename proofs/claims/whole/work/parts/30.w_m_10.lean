def f_X10_oneCut_L13 (k8 : Int32 → Option (Int32)) (p1 : Int32) (y2 : Int32) (su : Nat → Int32) (rec13 : (Int32 × Int32) → Option (Int32)) (s9 : Int32 × Int32) : Option (Int32) := match s9 with
  | (y5, y6) => if (27 : Int32) ≤ y6 then (k8 y5) else (if ((p1 >>> (y2 &&& 31)) &&& (1 : Int32)) = (1 : Int32) then (sp_bnd (fun (x10 : Int32) => sp_bnd (y5 ||| x10) (fun v12 => sp_bnd (y6 + (1 : Int32)) (fun v13 => rec13 (v12, v13)))) (fun k11 => if ((p1 >>> (y6 &&& 31)) &&& (1 : Int32)) = (1 : Int32) then (sp_ld su 729 (((27 : Int32) * y2) + y6) (fun v14 => k11 v14)) else (k11 (0 : Int32)))) else (k8 y5))
theorem f_X10_oneCut_L13_eq {rec13 : (Int32 × Int32) → Option (Int32)} {k8 : Int32 → Option (Int32)} {p1 : Int32} {y2 : Int32} {su : Nat → Int32} {y5 : Int32} {y6 : Int32} : f_X10_oneCut_L13 k8 p1 y2 su rec13 (y5, y6) = (if (27 : Int32) ≤ y6 then (k8 y5) else (if ((p1 >>> (y2 &&& 31)) &&& (1 : Int32)) = (1 : Int32) then (sp_bnd (fun (x10 : Int32) => sp_bnd (y5 ||| x10) (fun v12 => sp_bnd (y6 + (1 : Int32)) (fun v13 => rec13 (v12, v13)))) (fun k11 => if ((p1 >>> (y6 &&& 31)) &&& (1 : Int32)) = (1 : Int32) then (sp_ld su 729 (((27 : Int32) * y2) + y6) (fun v14 => k11 v14)) else (k11 (0 : Int32)))) else (k8 y5))) := rfl
def f_X10_oneCut_L4 (k4 : Int32 → Option (Int32)) (p1 : Int32) (su : Nat → Int32) (rec4 : (Int32 × Int32) → Option (Int32)) (s9 : Int32 × Int32) : Option (Int32) := match s9 with
  | (y1, y2) => if (27 : Int32) ≤ y2 then (k4 y1) else (sp_bnd (fun (x7 : Int32) => sp_bnd (y2 + (1 : Int32)) (fun v9 => rec4 (x7, v9))) (fun k8 => sp_lp (f_X10_oneCut_L13 k8 p1 y2 su) sp_F (y1, (0 : Int32))))
theorem f_X10_oneCut_L4_eq {rec4 : (Int32 × Int32) → Option (Int32)} {k4 : Int32 → Option (Int32)} {p1 : Int32} {su : Nat → Int32} {y1 : Int32} {y2 : Int32} : f_X10_oneCut_L4 k4 p1 su rec4 (y1, y2) = (if (27 : Int32) ≤ y2 then (k4 y1) else (sp_bnd (fun (x7 : Int32) => sp_bnd (y2 + (1 : Int32)) (fun v9 => rec4 (x7, v9))) (fun k8 => sp_lp (f_X10_oneCut_L13 k8 p1 y2 su) sp_F (y1, (0 : Int32))))) := rfl
def f_X10_oneCut (p1 : Int32) (su : Nat → Int32) : Option (Int32) := sp_bnd (fun (x3 : Int32) => some x3) (fun k4 => sp_lp (f_X10_oneCut_L4 k4 p1 su) sp_F ((0 : Int32), (0 : Int32)))
def rmX10_oneCut : Room := { frames := 0, cells := 0, slots := 0, locals := 0 }
set_option maxRecDepth 4000 in
theorem c_X10_oneCut {l : Launch} {D : va_G} {q5 : Nat → ClassId} (a : Nat → Nat) (fa : Int32) (tr : Int32) (la : Nat → Int32) (sl : Nat → Int32) (ce : Nat → Int32) (pn : Int32) (mn : Nat → Int32) (cl : Nat → Int32) (le : Nat → Int32) (ri : Nat → Int32) (lt : Nat → Int32) (nm : Int32) (nc : Nat → Int32) (nl : Nat → Int32) (nr : Nat → Int32) (nt : Nat → Int32) (at9 : Int32) (en9 : Int32) (de : Nat → Int32) (mm : Int32) (ma : Nat → Int32) (ne : Nat → Int32) (us : Nat → Int32) (lk : Nat → Int32) (sd : Nat → Int32) (sf : Nat → Int32) (nu : Nat → Int32) (gt : Nat → Int64) (gl : Nat → Int32) (tb : Nat → Int64) (sc : Nat → Int32) (su : Nat → Int32) (p1 : Int32) {r' : Int32} (hf : f_X10_oneCut p1 su = some r') : sp_Ci l yX10_oneCut wsX10_oneCut rmX10_oneCut D q5 0 [.ref (a 0), .int p1] (sw_M a q5 fa tr la sl ce pn mn cl le ri lt nm nc nl nr nt at9 en9 de mm ma ne us lk sd sf nu gt gl tb sc su) r' (sw_M a q5 fa tr la sl ce pn mn cl le ri lt nm nc nl nr nt at9 en9 de mm ma ne us lk sd sf nu gt gl tb sc su) := by
  intro sz
  refine sp_of (cc := cX10_oneCut) (maxL := 5) (ret := some .int) (own := RX10) (Qc := sp_Qi D r' (sw_M a q5 fa tr la sl ce pn mn cl le ri lt nm nc nl nr nt at9 en9 de mm ma ne us lk sd sf nu gt gl tb sc su)) (by decide) rfl rfl (Nat.le_of_ble_eq_true rfl) ?_
  intro p e s m args below meth c A ls Q hQ S hr hlk hK hG hA hW hl
  have hx := S.1
  have hb := S.2.1
  unfold f_X10_oneCut at hf
  have inX10 : ∀ w ∈ u_ws RX10 TX10 32, w ∈ wsX10_oneCut := (fun _ h => List.mem_cons_of_mem _ (List.mem_append_right _ h))
  have lk1 := S.2.2.2.2 (Cond.fieldLink RX10 83 "ShortProofsModel" "smallCut" "[I") (List.mem_of_getElem? (i := 1) rfl)
  refine lv_iconst (v := 0) hx hb dX10_oneCut_0 (by decide) ?_
  refine lv_istore_n (lv' := [(2, .int (0 : Int32)), (0, .ref (a 0)), (1, .int p1)]) hx hb dX10_oneCut_1 rfl hl (by decide) rfl (fun ls hl => ?_)
  refine lv_iconst (v := 0) hx hb dX10_oneCut_2 (by decide) ?_
  refine lv_istore_n (lv' := [(3, .int (0 : Int32)), (2, .int (0 : Int32)), (0, .ref (a 0)), (1, .int p1)]) hx hb dX10_oneCut_3 rfl hl (by decide) rfl (fun ls hl => ?_)
  obtain ⟨k4, ek4, hf⟩ := sp_hb hf
  have hj4 : ∀ (x3 : Int32) (H : Heap) (locs : List Loc) (ls : Array Slot), k4 x3 = some r' → sp_wd D A s.heap (sw_M a q5 fa tr la sl ce pn mn cl le ri lt nm nc nl nr nt at9 en9 de mm ma ne us lk sd sf nu gt gl tb sc su) H locs → lv_has ls 5 [(2, .int x3)] → W p l e rmX10_oneCut s m args below meth c H locs 0 0 Q (F0 m 70 ls []) := by
    intro x3 H locs ls hf hW hl
    rw [ek4] at hf
    refine lv_iload_n hx hb dX10_oneCut_70 rfl (lv_at hl 0 rfl) ?_
    have q0 := Option.some.inj hf
    subst q0
    exact sp_iret S hr hlk hW hQ dX10_oneCut_71
  have hlp4 : ∀ (n9 : Nat) (y1 : Int32) (y2 : Int32) (H : Heap) (locs : List Loc) (ls : Array Slot), sp_lp (f_X10_oneCut_L4 k4 p1 su) n9 (y1, y2) = some r' → sp_wd D A s.heap (sw_M a q5 fa tr la sl ce pn mn cl le ri lt nm nc nl nr nt at9 en9 de mm ma ne us lk sd sf nu gt gl tb sc su) H locs → lv_has ls 5 [(0, .ref (a 0)), (1, .int p1), (2, .int y1), (3, .int y2)] → W p l e rmX10_oneCut s m args below meth c H locs 0 0 Q (F0 m 4 ls []) := by
    intro n9
    induction n9 with
    | zero =>
      intro y1 y2 H locs ls hf hW hl
      exact (sp_lp0 hf).elim
    | succ n9 ih4 =>
      intro y1 y2 H locs ls hf hW hl
      have hf := sp_lpS hf
      rw [f_X10_oneCut_L4_eq] at hf
      refine lv_iload_n hx hb dX10_oneCut_4 rfl (lv_at hl 3 rfl) ?_
      refine lv_bipush (v := 27) hx hb dX10_oneCut_5 (by decide) ?_
      refine lv_icmp_ge (tgt := 70) hx hb dX10_oneCut_7 (by decide) (fun hc => ?_) (fun hc => ?_)
      · have hf := sp_ht hf hc
        exact hj4 _ _ _ _ hf hW (lv_sub hl [2] rfl)
      · have hf := sp_hf hf hc
        refine lv_iconst (v := 0) hx hb dX10_oneCut_10 (by decide) ?_
        refine lv_istore (lv' := [(4, .int (0 : Int32)), (0, .ref (a 0)), (1, .int p1), (2, .int y1), (3, .int y2)]) hx hb dX10_oneCut_11 hl (by decide) rfl (fun ls hl => ?_)
        obtain ⟨k8, ek8, hf⟩ := sp_hb hf
        have hj8 : ∀ (x7 : Int32) (H : Heap) (locs : List Loc) (ls : Array Slot), k8 x7 = some r' → sp_wd D A s.heap (sw_M a q5 fa tr la sl ce pn mn cl le ri lt nm nc nl nr nt at9 en9 de mm ma ne us lk sd sf nu gt gl tb sc su) H locs → lv_has ls 5 [(0, .ref (a 0)), (1, .int p1), (2, .int x7), (3, .int y2)] → W p l e rmX10_oneCut s m args below meth c H locs 0 0 Q (F0 m 64 ls []) := by
          intro x7 H locs ls hf hW hl
          rw [ek8] at hf
          obtain ⟨v9, ev9, hf⟩ := sp_hb hf
          refine lv_iinc (v := v9) (lv' := [(3, .int v9), (0, .ref (a 0)), (1, .int p1), (2, .int x7)]) hx hb dX10_oneCut_64 hl (k := 3) rfl (by rw [ev9]; rfl) (by decide) rfl (fun ls hl => ?_)
          refine lv_goto (tgt := 4) hx hb dX10_oneCut_67 (by decide) ?_
          exact ih4 _ _ _ _ _ hf hW (lv_sub hl [1, 2, 3, 0] rfl)
        have hlp13 : ∀ (n9 : Nat) (y5 : Int32) (y6 : Int32) (H : Heap) (locs : List Loc) (ls : Array Slot), sp_lp (f_X10_oneCut_L13 k8 p1 y2 su) n9 (y5, y6) = some r' → sp_wd D A s.heap (sw_M a q5 fa tr la sl ce pn mn cl le ri lt nm nc nl nr nt at9 en9 de mm ma ne us lk sd sf nu gt gl tb sc su) H locs → lv_has ls 5 [(0, .ref (a 0)), (1, .int p1), (2, .int y5), (3, .int y2), (4, .int y6)] → W p l e rmX10_oneCut s m args below meth c H locs 0 0 Q (F0 m 13 ls []) := by
          intro n9
          induction n9 with
          | zero =>
            intro y5 y6 H locs ls hf hW hl
            exact (sp_lp0 hf).elim
          | succ n9 ih13 =>
            intro y5 y6 H locs ls hf hW hl
            have hf := sp_lpS hf
            rw [f_X10_oneCut_L13_eq] at hf
            refine lv_iload hx hb dX10_oneCut_13 (lv_at hl 4 rfl) ?_
            refine lv_bipush (v := 27) hx hb dX10_oneCut_15 (by decide) ?_
            refine lv_icmp_ge (tgt := 64) hx hb dX10_oneCut_17 (by decide) (fun hc => ?_) (fun hc => ?_)
            · have hf := sp_ht hf hc
              exact hj8 _ _ _ _ hf hW (lv_sub hl [0, 1, 2, 3] rfl)
            · have hf := sp_hf hf hc
              refine lv_iload_n hx hb dX10_oneCut_20 rfl (lv_at hl 1 rfl) ?_
              refine lv_iload_n hx hb dX10_oneCut_21 rfl (lv_at hl 3 rfl) ?_
              refine lv_ishr hx hb dX10_oneCut_22 ?_
              refine lv_iconst (v := 1) hx hb dX10_oneCut_23 (by decide) ?_
              refine lv_iand hx hb dX10_oneCut_24 ?_
              refine lv_iconst (v := 1) hx hb dX10_oneCut_25 (by decide) ?_
              refine lv_icmp_ne (tgt := 64) hx hb dX10_oneCut_26 (by decide) (fun hc => ?_) (fun hc => ?_)
              · have hf := sp_hf hf hc
                exact hj8 _ _ _ _ hf hW (lv_sub hl [0, 1, 2, 3] rfl)
              · have hf := sp_ht hf hc
                refine lv_iload_n hx hb dX10_oneCut_29 rfl (lv_at hl 2 rfl) ?_
                refine lv_iload_n hx hb dX10_oneCut_30 rfl (lv_at hl 1 rfl) ?_
                refine lv_iload hx hb dX10_oneCut_31 (lv_at hl 4 rfl) ?_
                refine lv_ishr hx hb dX10_oneCut_33 ?_
                refine lv_iconst (v := 1) hx hb dX10_oneCut_34 (by decide) ?_
                refine lv_iand hx hb dX10_oneCut_35 ?_
                refine lv_iconst (v := 1) hx hb dX10_oneCut_36 (by decide) ?_
                obtain ⟨k11, ek11, hf⟩ := sp_hb hf
                have hj11 : ∀ (x10 : Int32) (H : Heap) (locs : List Loc) (ls : Array Slot), k11 x10 = some r' → sp_wd D A s.heap (sw_M a q5 fa tr la sl ce pn mn cl le ri lt nm nc nl nr nt at9 en9 de mm ma ne us lk sd sf nu gt gl tb sc su) H locs → lv_has ls 5 [(0, .ref (a 0)), (1, .int p1), (3, .int y2), (4, .int y6)] → W p l e rmX10_oneCut s m args below meth c H locs 0 0 Q (F0 m 56 ls [.int x10, .int y5]) := by
                  intro x10 H locs ls hf hW hl
                  rw [ek11] at hf
                  refine lv_ior hx hb dX10_oneCut_56 ?_
                  obtain ⟨v12, ev12, hf⟩ := sp_hb hf
                  refine sp_topi ev12 ?_
                  refine lv_istore_n (lv' := [(2, .int v12), (0, .ref (a 0)), (1, .int p1), (3, .int y2), (4, .int y6)]) hx hb dX10_oneCut_57 rfl hl (by decide) rfl (fun ls hl => ?_)
                  obtain ⟨v13, ev13, hf⟩ := sp_hb hf
                  refine lv_iinc (v := v13) (lv' := [(4, .int v13), (2, .int v12), (0, .ref (a 0)), (1, .int p1), (3, .int y2)]) hx hb dX10_oneCut_58 hl (k := 4) rfl (by rw [ev13]; rfl) (by decide) rfl (fun ls hl => ?_)
                  refine lv_goto (tgt := 13) hx hb dX10_oneCut_61 (by decide) ?_
                  exact ih13 _ _ _ _ _ hf hW (lv_sub hl [2, 3, 1, 4, 0] rfl)
                refine lv_icmp_ne (tgt := 55) hx hb dX10_oneCut_37 (by decide) (fun hc => ?_) (fun hc => ?_)
                · have hf := sp_hf hf hc
                  refine lv_iconst (v := 0) hx hb dX10_oneCut_55 (by decide) ?_
                  exact hj11 _ _ _ _ hf hW (lv_sub hl [0, 1, 3, 4] rfl)
                · have hf := sp_ht hf hc
                  refine lv_aload_n hx hb dX10_oneCut_40 rfl (lv_at hl 0 rfl) ?_
                  refine sp_get S hK hW inX10 0 rfl rfl 31 (by decide) lk1 rfl dX10_oneCut_41 ?_
                  refine lv_bipush (v := 27) hx hb dX10_oneCut_44 (by decide) ?_
                  refine lv_iload_n hx hb dX10_oneCut_46 rfl (lv_at hl 3 rfl) ?_
                  refine lv_imul hx hb dX10_oneCut_47 ?_
                  refine lv_iload hx hb dX10_oneCut_48 (lv_at hl 4 rfl) ?_
                  refine lv_iadd hx hb dX10_oneCut_50 ?_
                  obtain ⟨hin, v14, ev14, hf⟩ := sp_hld hf
                  refine sp_iald S hK hW 25 rfl hin ev14 dX10_oneCut_51 ?_
                  refine lv_goto (tgt := 56) hx hb dX10_oneCut_52 (by decide) ?_
                  exact hj11 _ _ _ _ hf hW (lv_sub hl [0, 1, 3, 4] rfl)
        exact hlp13 _ _ _ _ _ _ hf hW (lv_sub hl [1, 2, 3, 4, 0] rfl)
  exact hlp4 _ _ _ _ _ _ hf hW (lv_sub hl [2, 3, 1, 0] rfl)

def f_X10_isSmall (p1 : Int32) : Option (Int32) := Option.bind (f_X10_isClause p1) (fun r1 => if r1 = 0 then (some (0 : Int32)) else (if ((p1 ||| (p1 >>> ((6 : Int32) &&& 31))) &&& (56 : Int32)) = 0 then (some (1 : Int32)) else (some (0 : Int32))))
def rmX10_isSmall : Room := { frames := 2, cells := 0, slots := 0, locals := 42 }
set_option maxRecDepth 4000 in
theorem c_X10_isSmall {l : Launch} {D : va_G} {q5 : Nat → ClassId} (p1 : Int32) {r' : Int32} (hf : f_X10_isSmall p1 = some r') : sp_Ci l yX10_isSmall wsX10_isSmall rmX10_isSmall D q5 0 [.int p1] ([]) r' ([]) := by
  intro sz
  refine sp_of (cc := cX10_isSmall) (maxL := 1) (ret := some .boolean) (own := RX10) (Qc := sp_Qi D r' ([])) (by decide) rfl rfl (Nat.le_of_ble_eq_true rfl) ?_
  intro p e s m args below meth c A ls Q hQ S hr hlk hK hG hA hW hl
  have hx := S.1
  have hb := S.2.1
  unfold f_X10_isSmall at hf
  refine lv_iload_n hx hb dX10_isSmall_0 rfl (lv_at hl 0 rfl) ?_
  obtain ⟨r1, hc1, hf⟩ := sp_hc hf
  refine sp_callSi (rest := []) S hK hG hA hW (c_X10_isClause p1 hc1) (by decide) (va_cwS 1 S.2.2.2.2 gX10_isSmall_X10_isClause rfl rfl rfl (by decide +kernel) (by decide)) (isC := []) rfl rfl rfl (WS' := []) rfl rfl hl.1 (Nat.le_of_ble_eq_true rfl) dX10_isSmall_1 ⟨Nat.zero_le _, Nat.zero_le _⟩ rfl (fun H locs hW => ?_)
  refine lv_if_eq (tgt := 23) hx hb dX10_isSmall_4 (by decide) (fun hc => ?_) (fun hc => ?_)
  · have hf := sp_ht hf hc
    refine lv_iconst (v := 0) hx hb dX10_isSmall_23 (by decide) ?_
    have q0 := Option.some.inj hf
    subst q0
    exact sp_zret S hr hlk hW rfl hQ dX10_isSmall_24
  · have hf := sp_hf hf hc
    refine lv_iload_n hx hb dX10_isSmall_7 rfl (lv_at hl 0 rfl) ?_
    refine lv_iload_n hx hb dX10_isSmall_8 rfl (lv_at hl 0 rfl) ?_
    refine lv_bipush (v := 6) hx hb dX10_isSmall_9 (by decide) ?_
    refine lv_ishr hx hb dX10_isSmall_11 ?_
    refine lv_ior hx hb dX10_isSmall_12 ?_
    refine lv_bipush (v := 56) hx hb dX10_isSmall_13 (by decide) ?_
    refine lv_iand hx hb dX10_isSmall_15 ?_
    refine lv_if_ne (tgt := 23) hx hb dX10_isSmall_16 (by decide) (fun hc => ?_) (fun hc => ?_)
    · have hf := sp_hf hf hc
      refine lv_iconst (v := 0) hx hb dX10_isSmall_23 (by decide) ?_
      have q0 := Option.some.inj hf
      subst q0
      exact sp_zret S hr hlk hW rfl hQ dX10_isSmall_24
    · have hf := sp_ht hf hc
      refine lv_iconst (v := 1) hx hb dX10_isSmall_19 (by decide) ?_
      refine lv_goto (tgt := 24) hx hb dX10_isSmall_20 (by decide) ?_
      have q0 := Option.some.inj hf
      subst q0
      exact sp_zret S hr hlk hW rfl hQ dX10_isSmall_24

def f_X10_cuts_L248 (k34 : Int32 → Option (Int32 × (Nat → Int32) × (Nat → Int32))) (v30 : Int32) (v27 : Int32) (v25 : Int32) (c8 : Nat → Int32) (x11 : Int32) (rec248 : (Int32 × Int32) → Option (Int32 × (Nat → Int32) × (Nat → Int32))) (s9 : Int32 × Int32) : Option (Int32 × (Nat → Int32) × (Nat → Int32)) := match s9 with
  | (y31, y32) => if (27 : Int32) ≤ y32 then (k34 y31) else (if v30 = 0 then (if y31 = 0 then (sp_bnd (fun (x35 : Int32) => sp_bnd (y32 + (1 : Int32)) (fun v37 => rec248 (x35, v37))) (fun k36 => if ((v27 >>> (y32 &&& 31)) &&& (1 : Int32)) = (1 : Int32) then (Option.bind (f_X10_oneCut (v25 ||| ((1 : Int32) <<< (y32 &&& 31))) c8) (fun r38 => if (r38 &&& x11) = 0 then (k36 (0 : Int32)) else (k36 (1 : Int32)))) else (k36 (0 : Int32)))) else (k34 y31)) else (k34 y31))
theorem f_X10_cuts_L248_eq {rec248 : (Int32 × Int32) → Option (Int32 × (Nat → Int32) × (Nat → Int32))} {k34 : Int32 → Option (Int32 × (Nat → Int32) × (Nat → Int32))} {v30 : Int32} {v27 : Int32} {v25 : Int32} {c8 : Nat → Int32} {x11 : Int32} {y31 : Int32} {y32 : Int32} : f_X10_cuts_L248 k34 v30 v27 v25 c8 x11 rec248 (y31, y32) = (if (27 : Int32) ≤ y32 then (k34 y31) else (if v30 = 0 then (if y31 = 0 then (sp_bnd (fun (x35 : Int32) => sp_bnd (y32 + (1 : Int32)) (fun v37 => rec248 (x35, v37))) (fun k36 => if ((v27 >>> (y32 &&& 31)) &&& (1 : Int32)) = (1 : Int32) then (Option.bind (f_X10_oneCut (v25 ||| ((1 : Int32) <<< (y32 &&& 31))) c8) (fun r38 => if (r38 &&& x11) = 0 then (k36 (0 : Int32)) else (k36 (1 : Int32)))) else (k36 (0 : Int32)))) else (k34 y31)) else (k34 y31))) := rfl
def f_X10_cuts_L186 (k20 : Int32 → Int32 → Option (Int32 × (Nat → Int32) × (Nat → Int32))) (v14 : Int32) (x5 : Int32) (c8 : Nat → Int32) (x11 : Int32) (rec186 : (Int32 × Int32 × Int32) → Option (Int32 × (Nat → Int32) × (Nat → Int32))) (s9 : Int32 × Int32 × Int32) : Option (Int32 × (Nat → Int32) × (Nat → Int32)) := match s9 with
  | (y15, y16, y17) => if (27 : Int32) ≤ y17 then (k20 y15 y16) else (sp_bnd (fun (x21 : Int32) (x22 : Int32) => sp_bnd (y17 + (1 : Int32)) (fun v24 => rec186 (x21, x22, v24))) (fun k23 => if ((v14 >>> (y17 &&& 31)) &&& (1 : Int32)) = 0 then (k23 y15 y16) else (sp_bnd (x5 ||| ((1 : Int32) <<< (y17 &&& 31))) (fun v25 => Option.bind (f_X10_oneCut v25 c8) (fun r26 => sp_bnd (r26 &&& (v25 ^^^ (-1 : Int32))) (fun v27 => sp_bnd (fun (x28 : Int32) => sp_bnd (y15 ||| x28) (fun v30 => sp_bnd (fun (x33 : Int32) => k23 v30 x33) (fun k34 => sp_lp (f_X10_cuts_L248 k34 v30 v27 v25 c8 x11) sp_F (y16, (0 : Int32))))) (fun k29 => if (v27 &&& x11) = 0 then (k29 (0 : Int32)) else (k29 (1 : Int32)))))))))
theorem f_X10_cuts_L186_eq {rec186 : (Int32 × Int32 × Int32) → Option (Int32 × (Nat → Int32) × (Nat → Int32))} {k20 : Int32 → Int32 → Option (Int32 × (Nat → Int32) × (Nat → Int32))} {v14 : Int32} {x5 : Int32} {c8 : Nat → Int32} {x11 : Int32} {y15 : Int32} {y16 : Int32} {y17 : Int32} : f_X10_cuts_L186 k20 v14 x5 c8 x11 rec186 (y15, y16, y17) = (if (27 : Int32) ≤ y17 then (k20 y15 y16) else (sp_bnd (fun (x21 : Int32) (x22 : Int32) => sp_bnd (y17 + (1 : Int32)) (fun v24 => rec186 (x21, x22, v24))) (fun k23 => if ((v14 >>> (y17 &&& 31)) &&& (1 : Int32)) = 0 then (k23 y15 y16) else (sp_bnd (x5 ||| ((1 : Int32) <<< (y17 &&& 31))) (fun v25 => Option.bind (f_X10_oneCut v25 c8) (fun r26 => sp_bnd (r26 &&& (v25 ^^^ (-1 : Int32))) (fun v27 => sp_bnd (fun (x28 : Int32) => sp_bnd (y15 ||| x28) (fun v30 => sp_bnd (fun (x33 : Int32) => k23 v30 x33) (fun k34 => sp_lp (f_X10_cuts_L248 k34 v30 v27 v25 c8 x11) sp_F (y16, (0 : Int32))))) (fun k29 => if (v27 &&& x11) = 0 then (k29 (0 : Int32)) else (k29 (1 : Int32)))))))))) := rfl
def f_X10_cuts_L107 (k12 : Int32 → Option (Int32 × (Nat → Int32) × (Nat → Int32))) (c7 : Nat → Int32) (p2 : Int32) (rec107 : (Int32 × Int32) → Option (Int32 × (Nat → Int32) × (Nat → Int32))) (s9 : Int32 × Int32) : Option (Int32 × (Nat → Int32) × (Nat → Int32)) := match s9 with
  | (y9, y10) => if (27 : Int32) ≤ y10 then (k12 y9) else (sp_ld c7 27 y10 (fun v39 => Option.bind (f_X10_isStronger v39 p2) (fun r40 => sp_bnd (fun (x41 : Int32) => sp_bnd (y9 ||| x41) (fun v43 => sp_bnd (y10 + (1 : Int32)) (fun v44 => rec107 (v43, v44)))) (fun k42 => if r40 = 0 then (k42 (0 : Int32)) else (k42 ((1 : Int32) <<< (y10 &&& 31)))))))
theorem f_X10_cuts_L107_eq {rec107 : (Int32 × Int32) → Option (Int32 × (Nat → Int32) × (Nat → Int32))} {k12 : Int32 → Option (Int32 × (Nat → Int32) × (Nat → Int32))} {c7 : Nat → Int32} {p2 : Int32} {y9 : Int32} {y10 : Int32} : f_X10_cuts_L107 k12 c7 p2 rec107 (y9, y10) = (if (27 : Int32) ≤ y10 then (k12 y9) else (sp_ld c7 27 y10 (fun v39 => Option.bind (f_X10_isStronger v39 p2) (fun r40 => sp_bnd (fun (x41 : Int32) => sp_bnd (y9 ||| x41) (fun v43 => sp_bnd (y10 + (1 : Int32)) (fun v44 => rec107 (v43, v44)))) (fun k42 => if r40 = 0 then (k42 (0 : Int32)) else (k42 ((1 : Int32) <<< (y10 &&& 31)))))))) := rfl
def f_X10_cuts_L25 (mn : Nat → Int32) (p1 : Int32) (k6 : Int32 → Option (Int32 × (Nat → Int32) × (Nat → Int32))) (lt : Nat → Int32) (cl : Nat → Int32) (sc : Nat → Int32) (su : Nat → Int32) (rec25 : (Int32 × Int32) → Option (Int32 × (Nat → Int32) × (Nat → Int32))) (s9 : Int32 × Int32) : Option (Int32 × (Nat → Int32) × (Nat → Int32)) := match s9 with
  | (y3, y4) => sp_ld mn 12 p1 (fun v45 => if v45 ≤ y4 then (k6 y3) else (sp_bnd (((24 : Int32) * p1) + y4) (fun v46 => sp_ld lt 288 v46 (fun v47 => sp_bnd (fun (x48 : Int32) => sp_bnd (y4 + (1 : Int32)) (fun v50 => rec25 (x48, v50))) (fun k49 => if v47 = (-9 : Int32) then (sp_ld cl 288 v46 (fun v51 => Option.bind (f_X10_isSmall v51) (fun r52 => if r52 = 0 then (some ((-3 : Int32), sc, su)) else (sp_ld cl 288 v46 (fun v53 => Option.bind (f_X10_smallOf v53) (fun r54 => sp_bnd (y3 ||| ((1 : Int32) <<< (r54 &&& 31))) (fun v55 => k49 v55))))))) else (k49 y3))))))
theorem f_X10_cuts_L25_eq {rec25 : (Int32 × Int32) → Option (Int32 × (Nat → Int32) × (Nat → Int32))} {mn : Nat → Int32} {p1 : Int32} {k6 : Int32 → Option (Int32 × (Nat → Int32) × (Nat → Int32))} {lt : Nat → Int32} {cl : Nat → Int32} {sc : Nat → Int32} {su : Nat → Int32} {y3 : Int32} {y4 : Int32} : f_X10_cuts_L25 mn p1 k6 lt cl sc su rec25 (y3, y4) = (sp_ld mn 12 p1 (fun v45 => if v45 ≤ y4 then (k6 y3) else (sp_bnd (((24 : Int32) * p1) + y4) (fun v46 => sp_ld lt 288 v46 (fun v47 => sp_bnd (fun (x48 : Int32) => sp_bnd (y4 + (1 : Int32)) (fun v50 => rec25 (x48, v50))) (fun k49 => if v47 = (-9 : Int32) then (sp_ld cl 288 v46 (fun v51 => Option.bind (f_X10_isSmall v51) (fun r52 => if r52 = 0 then (some ((-3 : Int32), sc, su)) else (sp_ld cl 288 v46 (fun v53 => Option.bind (f_X10_smallOf v53) (fun r54 => sp_bnd (y3 ||| ((1 : Int32) <<< (r54 &&& 31))) (fun v55 => k49 v55))))))) else (k49 y3))))))) := rfl
def f_X10_cuts (p1 : Int32) (p2 : Int32) (pn : Int32) (mn : Nat → Int32) (cl : Nat → Int32) (lt : Nat → Int32) (sc : Nat → Int32) (su : Nat → Int32) : Option (Int32 × (Nat → Int32) × (Nat → Int32)) := Option.bind (f_X10_isProof p1 pn) (fun r1 => if r1 = 0 then (some ((-1 : Int32), sc, su)) else (Option.bind (f_X10_isSmall p2) (fun r2 => if r2 = 0 then (some ((-2 : Int32), sc, su)) else (sp_bnd (fun (x5 : Int32) => Option.bind (f_X10_laySmall sc su) (fun q9 => match q9 with | (c7, c8) => sp_bnd (fun (x11 : Int32) => if (x5 &&& x11) = 0 then (Option.bind (f_X10_oneCut x5 c8) (fun r13 => sp_bnd (r13 &&& (x5 ^^^ (-1 : Int32))) (fun v14 => if (v14 &&& x11) = 0 then (sp_bnd (fun (x18 : Int32) (x19 : Int32) => if x18 = 0 then (if x19 = 0 then (some ((-9 : Int32), c7, c8)) else (some ((3 : Int32), c7, c8))) else (some ((2 : Int32), c7, c8))) (fun k20 => sp_lp (f_X10_cuts_L186 k20 v14 x5 c8 x11) sp_F ((0 : Int32), (0 : Int32), (0 : Int32)))) else (some ((1 : Int32), c7, c8))))) else (some ((0 : Int32), c7, c8))) (fun k12 => sp_lp (f_X10_cuts_L107 k12 c7 p2) sp_F ((0 : Int32), (0 : Int32))))) (fun k6 => sp_lp (f_X10_cuts_L25 mn p1 k6 lt cl sc su) sp_F ((0 : Int32), (0 : Int32)))))))
def rmX10_cuts : Room := { frames := 4, cells := 0, slots := 0, locals := 92 }
set_option maxRecDepth 4000 in
theorem c_X10_cuts {l : Launch} {D : va_G} {q5 : Nat → ClassId} (a : Nat → Nat) (fa : Int32) (tr : Int32) (la : Nat → Int32) (sl : Nat → Int32) (ce : Nat → Int32) (pn : Int32) (mn : Nat → Int32) (cl : Nat → Int32) (le : Nat → Int32) (ri : Nat → Int32) (lt : Nat → Int32) (nm : Int32) (nc : Nat → Int32) (nl : Nat → Int32) (nr : Nat → Int32) (nt : Nat → Int32) (at9 : Int32) (en9 : Int32) (de : Nat → Int32) (mm : Int32) (ma : Nat → Int32) (ne : Nat → Int32) (us : Nat → Int32) (lk : Nat → Int32) (sd : Nat → Int32) (sf : Nat → Int32) (nu : Nat → Int32) (gt : Nat → Int64) (gl : Nat → Int32) (tb : Nat → Int64) (sc : Nat → Int32) (su : Nat → Int32) (p1 : Int32) (p2 : Int32) {r' : Int32} {sc' : Nat → Int32} {su' : Nat → Int32} (hf : f_X10_cuts p1 p2 pn mn cl lt sc su = some (r', sc', su')) : sp_Ci l yX10_cuts wsX10_cuts rmX10_cuts D q5 0 [.ref (a 0), .int p1, .int p2] (sw_M a q5 fa tr la sl ce pn mn cl le ri lt nm nc nl nr nt at9 en9 de mm ma ne us lk sd sf nu gt gl tb sc su) r' (sw_M a q5 fa tr la sl ce pn mn cl le ri lt nm nc nl nr nt at9 en9 de mm ma ne us lk sd sf nu gt gl tb sc' su') := by
  intro sz
  refine sp_of (cc := cX10_cuts) (maxL := 12) (ret := some .int) (own := RX10) (Qc := sp_Qi D r' (sw_M a q5 fa tr la sl ce pn mn cl le ri lt nm nc nl nr nt at9 en9 de mm ma ne us lk sd sf nu gt gl tb sc' su')) (by decide) rfl rfl (Nat.le_of_ble_eq_true rfl) ?_
  intro p e s m args below meth c A ls Q hQ S hr hlk hK hG hA hW hl
  have hx := S.1
  have hb := S.2.1
  unfold f_X10_cuts at hf
  have inX10 : ∀ w ∈ u_ws RX10 TX10 32, w ∈ wsX10_cuts := (fun _ h => List.mem_cons_of_mem _ (List.mem_append_right _ h))
  have lk1 := S.2.2.2.2 (Cond.fieldLink RX10 80 "ShortProofsModel" "smallClause" "[I") (List.mem_of_getElem? (i := 4) rfl)
  have lk2 := S.2.2.2.2 (Cond.fieldLink RX10 19 "ShortProofsModel" "many" "[I") (List.mem_of_getElem? (i := 1) rfl)
  have lk3 := S.2.2.2.2 (Cond.fieldLink RX10 31 "ShortProofsModel" "letters" "[I") (List.mem_of_getElem? (i := 2) rfl)
  have lk4 := S.2.2.2.2 (Cond.fieldLink RX10 22 "ShortProofsModel" "clauses" "[I") (List.mem_of_getElem? (i := 3) rfl)
  refine lv_aload_n hx hb dX10_cuts_0 rfl (lv_at hl 0 rfl) ?_
  refine lv_iload_n hx hb dX10_cuts_1 rfl (lv_at hl 1 rfl) ?_
  obtain ⟨r1, hc1, hf⟩ := sp_hc hf
  refine sp_callViP (rest := []) S hK hG hA hW (c_X10_isProof a fa tr la sl ce pn mn cl le ri lt nm nc nl nr nt at9 en9 de mm ma ne us lk sd sf nu gt gl tb sc su p1 hc1) (by decide) (cwV 1 S.2.2.2.2 gX10_cuts_X10_isProof rfl rfl rfl (by decide +kernel) (by decide)) 8 0 rfl rfl (sp_pn _) rfl (WS' := sw_M a q5 fa tr la sl ce pn mn cl le ri lt nm nc nl nr nt at9 en9 de mm ma ne us lk sd sf nu gt gl tb sc su) (sp_pn' _) rfl hl.1 (Nat.le_of_ble_eq_true rfl) dX10_cuts_2 ⟨Nat.zero_le _, Nat.zero_le _⟩ rfl (fun H locs hW => ?_)
  refine lv_if_ne (tgt := 10) hx hb dX10_cuts_5 (by decide) (fun hc => ?_) (fun hc => ?_)
  · have hf := sp_hf hf hc
    refine lv_iload_n hx hb dX10_cuts_10 rfl (lv_at hl 2 rfl) ?_
    obtain ⟨r2, hc2, hf⟩ := sp_hc hf
    refine sp_callSi (rest := []) S hK hG hA hW (c_X10_isSmall p2 hc2) (by decide) (va_cwS 1 S.2.2.2.2 gX10_cuts_X10_isSmall rfl rfl rfl (by decide +kernel) (by decide)) (isC := []) rfl rfl rfl (WS' := sw_M a q5 fa tr la sl ce pn mn cl le ri lt nm nc nl nr nt at9 en9 de mm ma ne us lk sd sf nu gt gl tb sc su) rfl rfl hl.1 (Nat.le_of_ble_eq_true rfl) dX10_cuts_11 ⟨Nat.zero_le _, Nat.zero_le _⟩ rfl (fun H locs hW => ?_)
    refine lv_if_ne (tgt := 20) hx hb dX10_cuts_14 (by decide) (fun hc => ?_) (fun hc => ?_)
    · have hf := sp_hf hf hc
      refine lv_iconst (v := 0) hx hb dX10_cuts_20 (by decide) ?_
      refine lv_istore_n (lv' := [(3, .int (0 : Int32)), (0, .ref (a 0)), (1, .int p1), (2, .int p2)]) hx hb dX10_cuts_21 rfl hl (by decide) rfl (fun ls hl => ?_)
      refine lv_iconst (v := 0) hx hb dX10_cuts_22 (by decide) ?_
      refine lv_istore (lv' := [(4, .int (0 : Int32)), (3, .int (0 : Int32)), (0, .ref (a 0)), (1, .int p1), (2, .int p2)]) hx hb dX10_cuts_23 hl (by decide) rfl (fun ls hl => ?_)
      obtain ⟨k6, ek6, hf⟩ := sp_hb hf
      have hj6 : ∀ (x5 : Int32) (H : Heap) (locs : List Loc) (ls : Array Slot), k6 x5 = some (r', sc', su') → sp_wd D A s.heap (sw_M a q5 fa tr la sl ce pn mn cl le ri lt nm nc nl nr nt at9 en9 de mm ma ne us lk sd sf nu gt gl tb sc su) H locs → lv_has ls 12 [(0, .ref (a 0)), (2, .int p2), (3, .int x5)] → W p l e rmX10_cuts s m args below meth c H locs 0 0 Q (F0 m 97 ls []) := by
        intro x5 H locs ls hf hW hl
        rw [ek6] at hf
        refine lv_aload_n hx hb dX10_cuts_97 rfl (lv_at hl 0 rfl) ?_
        obtain ⟨⟨c7, c8⟩, hc8, hf⟩ := sp_hc hf
        refine sp_callVvP (rest := []) S hK hG hA hW (c_X10_laySmall a fa tr la sl ce pn mn cl le ri lt nm nc nl nr nt at9 en9 de mm ma ne us lk sd sf nu gt gl tb sc su hc8) (by decide) (cwV 0 S.2.2.2.2 gX10_cuts_X10_laySmall rfl rfl rfl (by decide +kernel) (by decide)) 8 0 rfl rfl (sp_pn _) rfl (WS' := sw_M a q5 fa tr la sl ce pn mn cl le ri lt nm nc nl nr nt at9 en9 de mm ma ne us lk sd sf nu gt gl tb c7 c8) (sp_pn' _) rfl hl.1 (Nat.le_of_ble_eq_true rfl) dX10_cuts_98 ⟨Nat.zero_le _, Nat.zero_le _⟩ rfl (fun H locs hW => ?_)
        refine lv_iconst (v := 0) hx hb dX10_cuts_101 (by decide) ?_
        refine lv_istore (lv' := [(4, .int (0 : Int32)), (0, .ref (a 0)), (2, .int p2), (3, .int x5)]) hx hb dX10_cuts_102 hl (by decide) rfl (fun ls hl => ?_)
        refine lv_iconst (v := 0) hx hb dX10_cuts_104 (by decide) ?_
        refine lv_istore (lv' := [(5, .int (0 : Int32)), (4, .int (0 : Int32)), (0, .ref (a 0)), (2, .int p2), (3, .int x5)]) hx hb dX10_cuts_105 hl (by decide) rfl (fun ls hl => ?_)
        obtain ⟨k12, ek12, hf⟩ := sp_hb hf
        have hj12 : ∀ (x11 : Int32) (H : Heap) (locs : List Loc) (ls : Array Slot), k12 x11 = some (r', sc', su') → sp_wd D A s.heap (sw_M a q5 fa tr la sl ce pn mn cl le ri lt nm nc nl nr nt at9 en9 de mm ma ne us lk sd sf nu gt gl tb c7 c8) H locs → lv_has ls 12 [(0, .ref (a 0)), (3, .int x5), (4, .int x11)] → W p l e rmX10_cuts s m args below meth c H locs 0 0 Q (F0 m 147 ls []) := by
          intro x11 H locs ls hf hW hl
          rw [ek12] at hf
          refine lv_iload_n hx hb dX10_cuts_147 rfl (lv_at hl 1 rfl) ?_
          refine lv_iload hx hb dX10_cuts_148 (lv_at hl 2 rfl) ?_
          refine lv_iand hx hb dX10_cuts_150 ?_
          refine lv_if_eq (tgt := 156) hx hb dX10_cuts_151 (by decide) (fun hc => ?_) (fun hc => ?_)
          · have hf := sp_ht hf hc
            refine lv_aload_n hx hb dX10_cuts_156 rfl (lv_at hl 0 rfl) ?_
            refine lv_iload_n hx hb dX10_cuts_157 rfl (lv_at hl 1 rfl) ?_
            obtain ⟨r13, hc13, hf⟩ := sp_hc hf
            refine sp_callViP (rest := []) S hK hG hA hW (c_X10_oneCut a fa tr la sl ce pn mn cl le ri lt nm nc nl nr nt at9 en9 de mm ma ne us lk sd sf nu gt gl tb c7 c8 x5 hc13) (by decide) (cwV 1 S.2.2.2.2 gX10_cuts_X10_oneCut rfl rfl rfl (by decide +kernel) (by decide)) 8 0 rfl rfl (sp_pn _) rfl (WS' := sw_M a q5 fa tr la sl ce pn mn cl le ri lt nm nc nl nr nt at9 en9 de mm ma ne us lk sd sf nu gt gl tb c7 c8) (sp_pn' _) rfl hl.1 (Nat.le_of_ble_eq_true rfl) dX10_cuts_158 ⟨Nat.zero_le _, Nat.zero_le _⟩ rfl (fun H locs hW => ?_)
            refine lv_iload_n hx hb dX10_cuts_161 rfl (lv_at hl 1 rfl) ?_
            refine lv_iconst (v := (-1)) hx hb dX10_cuts_162 (by decide) ?_
            refine lv_ixor hx hb dX10_cuts_163 ?_
            refine lv_iand hx hb dX10_cuts_164 ?_
            obtain ⟨v14, ev14, hf⟩ := sp_hb hf
            refine sp_topi ev14 ?_
            refine lv_istore (lv' := [(5, .int v14), (0, .ref (a 0)), (3, .int x5), (4, .int x11)]) hx hb dX10_cuts_165 hl (by decide) rfl (fun ls hl => ?_)
            refine lv_iload hx hb dX10_cuts_167 (lv_at hl 0 rfl) ?_
            refine lv_iload hx hb dX10_cuts_169 (lv_at hl 3 rfl) ?_
            refine lv_iand hx hb dX10_cuts_171 ?_
            refine lv_if_eq (tgt := 177) hx hb dX10_cuts_172 (by decide) (fun hc => ?_) (fun hc => ?_)
            · have hf := sp_ht hf hc
              refine lv_iconst (v := 0) hx hb dX10_cuts_177 (by decide) ?_
              refine lv_istore (lv' := [(6, .int (0 : Int32)), (5, .int v14), (0, .ref (a 0)), (3, .int x5), (4, .int x11)]) hx hb dX10_cuts_178 hl (by decide) rfl (fun ls hl => ?_)
              refine lv_iconst (v := 0) hx hb dX10_cuts_180 (by decide) ?_
              refine lv_istore (lv' := [(7, .int (0 : Int32)), (6, .int (0 : Int32)), (5, .int v14), (0, .ref (a 0)), (3, .int x5), (4, .int x11)]) hx hb dX10_cuts_181 hl (by decide) rfl (fun ls hl => ?_)
              refine lv_iconst (v := 0) hx hb dX10_cuts_183 (by decide) ?_
              refine lv_istore (lv' := [(8, .int (0 : Int32)), (7, .int (0 : Int32)), (6, .int (0 : Int32)), (5, .int v14), (0, .ref (a 0)), (3, .int x5), (4, .int x11)]) hx hb dX10_cuts_184 hl (by decide) rfl (fun ls hl => ?_)
              obtain ⟨k20, ek20, hf⟩ := sp_hb hf
              have hj20 : ∀ (x18 : Int32) (x19 : Int32) (H : Heap) (locs : List Loc) (ls : Array Slot), k20 x18 x19 = some (r', sc', su') → sp_wd D A s.heap (sw_M a q5 fa tr la sl ce pn mn cl le ri lt nm nc nl nr nt at9 en9 de mm ma ne us lk sd sf nu gt gl tb c7 c8) H locs → lv_has ls 12 [(6, .int x18), (7, .int x19)] → W p l e rmX10_cuts s m args below meth c H locs 0 0 Q (F0 m 312 ls []) := by
                intro x18 x19 H locs ls hf hW hl
                rw [ek20] at hf
                refine lv_iload hx hb dX10_cuts_312 (lv_at hl 0 rfl) ?_
                refine lv_if_eq (tgt := 321) hx hb dX10_cuts_314 (by decide) (fun hc => ?_) (fun hc => ?_)
                · have hf := sp_ht hf hc
                  refine lv_iload hx hb dX10_cuts_321 (lv_at hl 1 rfl) ?_
                  refine lv_if_eq (tgt := 330) hx hb dX10_cuts_323 (by decide) (fun hc => ?_) (fun hc => ?_)
                  · have hf := sp_ht hf hc
                    refine lv_bipush (v := (-9)) hx hb dX10_cuts_330 (by decide) ?_
                    have q0 := Option.some.inj hf
                    obtain ⟨q1, z1⟩ := Prod.mk.inj q0
                    obtain ⟨q2, z2⟩ := Prod.mk.inj z1
                    subst q1
                    subst q2
                    subst z2
                    exact sp_iret S hr hlk hW hQ dX10_cuts_332
                  · have hf := sp_hf hf hc
                    refine lv_iconst (v := 3) hx hb dX10_cuts_326 (by decide) ?_
                    refine lv_goto (tgt := 332) hx hb dX10_cuts_327 (by decide) ?_
                    have q0 := Option.some.inj hf
                    obtain ⟨q1, z1⟩ := Prod.mk.inj q0
                    obtain ⟨q2, z2⟩ := Prod.mk.inj z1
                    subst q1
                    subst q2
                    subst z2
                    exact sp_iret S hr hlk hW hQ dX10_cuts_332
                · have hf := sp_hf hf hc
                  refine lv_iconst (v := 2) hx hb dX10_cuts_317 (by decide) ?_
                  refine lv_goto (tgt := 332) hx hb dX10_cuts_318 (by decide) ?_
                  have q0 := Option.some.inj hf
                  obtain ⟨q1, z1⟩ := Prod.mk.inj q0
                  obtain ⟨q2, z2⟩ := Prod.mk.inj z1
                  subst q1
                  subst q2
                  subst z2
                  exact sp_iret S hr hlk hW hQ dX10_cuts_332
              have hlp186 : ∀ (n9 : Nat) (y15 : Int32) (y16 : Int32) (y17 : Int32) (H : Heap) (locs : List Loc) (ls : Array Slot), sp_lp (f_X10_cuts_L186 k20 v14 x5 c8 x11) n9 (y15, y16, y17) = some (r', sc', su') → sp_wd D A s.heap (sw_M a q5 fa tr la sl ce pn mn cl le ri lt nm nc nl nr nt at9 en9 de mm ma ne us lk sd sf nu gt gl tb c7 c8) H locs → lv_has ls 12 [(0, .ref (a 0)), (3, .int x5), (4, .int x11), (5, .int v14), (6, .int y15), (7, .int y16), (8, .int y17)] → W p l e rmX10_cuts s m args below meth c H locs 0 0 Q (F0 m 186 ls []) := by
                intro n9
                induction n9 with
                | zero =>
                  intro y15 y16 y17 H locs ls hf hW hl
                  exact (sp_lp0 hf).elim
                | succ n9 ih186 =>
                  intro y15 y16 y17 H locs ls hf hW hl
                  have hf := sp_lpS hf
                  rw [f_X10_cuts_L186_eq] at hf
                  refine lv_iload hx hb dX10_cuts_186 (lv_at hl 6 rfl) ?_
                  refine lv_bipush (v := 27) hx hb dX10_cuts_188 (by decide) ?_
                  refine lv_icmp_ge (tgt := 312) hx hb dX10_cuts_190 (by decide) (fun hc => ?_) (fun hc => ?_)
                  · have hf := sp_ht hf hc
                    exact hj20 _ _ _ _ _ hf hW (lv_sub hl [4, 5] rfl)
                  · have hf := sp_hf hf hc
                    refine lv_iload hx hb dX10_cuts_193 (lv_at hl 3 rfl) ?_
                    refine lv_iload hx hb dX10_cuts_195 (lv_at hl 6 rfl) ?_
                    refine lv_ishr hx hb dX10_cuts_197 ?_
                    refine lv_iconst (v := 1) hx hb dX10_cuts_198 (by decide) ?_
                    refine lv_iand hx hb dX10_cuts_199 ?_
                    obtain ⟨k23, ek23, hf⟩ := sp_hb hf
                    have hj23 : ∀ (x21 : Int32) (x22 : Int32) (H : Heap) (locs : List Loc) (ls : Array Slot), k23 x21 x22 = some (r', sc', su') → sp_wd D A s.heap (sw_M a q5 fa tr la sl ce pn mn cl le ri lt nm nc nl nr nt at9 en9 de mm ma ne us lk sd sf nu gt gl tb c7 c8) H locs → lv_has ls 12 [(0, .ref (a 0)), (3, .int x5), (4, .int x11), (5, .int v14), (6, .int x21), (7, .int x22), (8, .int y17)] → W p l e rmX10_cuts s m args below meth c H locs 0 0 Q (F0 m 306 ls []) := by
                      intro x21 x22 H locs ls hf hW hl
                      rw [ek23] at hf
                      obtain ⟨v24, ev24, hf⟩ := sp_hb hf
                      refine lv_iinc (v := v24) (lv' := [(8, .int v24), (0, .ref (a 0)), (3, .int x5), (4, .int x11), (5, .int v14), (6, .int x21), (7, .int x22)]) hx hb dX10_cuts_306 hl (k := 6) rfl (by rw [ev24]; rfl) (by decide) rfl (fun ls hl => ?_)
                      refine lv_goto (tgt := 186) hx hb dX10_cuts_309 (by decide) ?_
                      exact ih186 _ _ _ _ _ _ hf hW (lv_sub hl [1, 2, 3, 4, 5, 6, 0] rfl)
                    refine lv_if_ne (tgt := 206) hx hb dX10_cuts_200 (by decide) (fun hc => ?_) (fun hc => ?_)
                    · have hf := sp_hf hf hc
                      refine lv_iload_n hx hb dX10_cuts_206 rfl (lv_at hl 1 rfl) ?_
                      refine lv_iconst (v := 1) hx hb dX10_cuts_207 (by decide) ?_
                      refine lv_iload hx hb dX10_cuts_208 (lv_at hl 6 rfl) ?_
                      refine lv_ishl hx hb dX10_cuts_210 ?_
                      refine lv_ior hx hb dX10_cuts_211 ?_
                      obtain ⟨v25, ev25, hf⟩ := sp_hb hf
                      refine sp_topi ev25 ?_
                      refine lv_istore (lv' := [(9, .int v25), (0, .ref (a 0)), (3, .int x5), (4, .int x11), (5, .int v14), (6, .int y15), (7, .int y16), (8, .int y17)]) hx hb dX10_cuts_212 hl (by decide) rfl (fun ls hl => ?_)
                      refine lv_aload_n hx hb dX10_cuts_214 rfl (lv_at hl 1 rfl) ?_
                      refine lv_iload hx hb dX10_cuts_215 (lv_at hl 0 rfl) ?_
                      obtain ⟨r26, hc26, hf⟩ := sp_hc hf
                      refine sp_callViP (rest := []) S hK hG hA hW (c_X10_oneCut a fa tr la sl ce pn mn cl le ri lt nm nc nl nr nt at9 en9 de mm ma ne us lk sd sf nu gt gl tb c7 c8 v25 hc26) (by decide) (cwV 1 S.2.2.2.2 gX10_cuts_X10_oneCut rfl rfl rfl (by decide +kernel) (by decide)) 8 0 rfl rfl (sp_pn _) rfl (WS' := sw_M a q5 fa tr la sl ce pn mn cl le ri lt nm nc nl nr nt at9 en9 de mm ma ne us lk sd sf nu gt gl tb c7 c8) (sp_pn' _) rfl hl.1 (Nat.le_of_ble_eq_true rfl) dX10_cuts_217 ⟨Nat.zero_le _, Nat.zero_le _⟩ rfl (fun H locs hW => ?_)
                      refine lv_iload hx hb dX10_cuts_220 (lv_at hl 0 rfl) ?_
                      refine lv_iconst (v := (-1)) hx hb dX10_cuts_222 (by decide) ?_
                      refine lv_ixor hx hb dX10_cuts_223 ?_
                      refine lv_iand hx hb dX10_cuts_224 ?_
                      obtain ⟨v27, ev27, hf⟩ := sp_hb hf
                      refine sp_topi ev27 ?_
                      refine lv_istore (lv' := [(10, .int v27), (9, .int v25), (0, .ref (a 0)), (3, .int x5), (4, .int x11), (5, .int v14), (6, .int y15), (7, .int y16), (8, .int y17)]) hx hb dX10_cuts_225 hl (by decide) rfl (fun ls hl => ?_)
                      refine lv_iload hx hb dX10_cuts_227 (lv_at hl 6 rfl) ?_
                      refine lv_iload hx hb dX10_cuts_229 (lv_at hl 0 rfl) ?_
                      refine lv_iload hx hb dX10_cuts_231 (lv_at hl 4 rfl) ?_
                      refine lv_iand hx hb dX10_cuts_233 ?_
                      obtain ⟨k29, ek29, hf⟩ := sp_hb hf
                      have hj29 : ∀ (x28 : Int32) (H : Heap) (locs : List Loc) (ls : Array Slot), k29 x28 = some (r', sc', su') → sp_wd D A s.heap (sw_M a q5 fa tr la sl ce pn mn cl le ri lt nm nc nl nr nt at9 en9 de mm ma ne us lk sd sf nu gt gl tb c7 c8) H locs → lv_has ls 12 [(0, .ref (a 0)), (3, .int x5), (4, .int x11), (5, .int v14), (7, .int y16), (8, .int y17), (9, .int v25), (10, .int v27)] → W p l e rmX10_cuts s m args below meth c H locs 0 0 Q (F0 m 242 ls [.int x28, .int y15]) := by
                        intro x28 H locs ls hf hW hl
                        rw [ek29] at hf
                        refine lv_ior hx hb dX10_cuts_242 ?_
                        obtain ⟨v30, ev30, hf⟩ := sp_hb hf
                        refine sp_topi ev30 ?_
                        refine lv_istore (lv' := [(6, .int v30), (0, .ref (a 0)), (3, .int x5), (4, .int x11), (5, .int v14), (7, .int y16), (8, .int y17), (9, .int v25), (10, .int v27)]) hx hb dX10_cuts_243 hl (by decide) rfl (fun ls hl => ?_)
                        refine lv_iconst (v := 0) hx hb dX10_cuts_245 (by decide) ?_
                        refine lv_istore (lv' := [(11, .int (0 : Int32)), (6, .int v30), (0, .ref (a 0)), (3, .int x5), (4, .int x11), (5, .int v14), (7, .int y16), (8, .int y17), (9, .int v25), (10, .int v27)]) hx hb dX10_cuts_246 hl (by decide) rfl (fun ls hl => ?_)
                        obtain ⟨k34, ek34, hf⟩ := sp_hb hf
                        have hj34 : ∀ (x33 : Int32) (H : Heap) (locs : List Loc) (ls : Array Slot), k34 x33 = some (r', sc', su') → sp_wd D A s.heap (sw_M a q5 fa tr la sl ce pn mn cl le ri lt nm nc nl nr nt at9 en9 de mm ma ne us lk sd sf nu gt gl tb c7 c8) H locs → lv_has ls 12 [(0, .ref (a 0)), (3, .int x5), (4, .int x11), (5, .int v14), (6, .int v30), (7, .int x33), (8, .int y17)] → W p l e rmX10_cuts s m args below meth c H locs 0 0 Q (F0 m 306 ls []) := by
                          intro x33 H locs ls hf hW hl
                          rw [ek34] at hf
                          exact hj23 _ _ _ _ _ hf hW (lv_sub hl [0, 1, 2, 3, 4, 5, 6] rfl)
                        have hlp248 : ∀ (n9 : Nat) (y31 : Int32) (y32 : Int32) (H : Heap) (locs : List Loc) (ls : Array Slot), sp_lp (f_X10_cuts_L248 k34 v30 v27 v25 c8 x11) n9 (y31, y32) = some (r', sc', su') → sp_wd D A s.heap (sw_M a q5 fa tr la sl ce pn mn cl le ri lt nm nc nl nr nt at9 en9 de mm ma ne us lk sd sf nu gt gl tb c7 c8) H locs → lv_has ls 12 [(0, .ref (a 0)), (3, .int x5), (4, .int x11), (5, .int v14), (6, .int v30), (7, .int y31), (8, .int y17), (9, .int v25), (10, .int v27), (11, .int y32)] → W p l e rmX10_cuts s m args below meth c H locs 0 0 Q (F0 m 248 ls []) := by
                          intro n9
                          induction n9 with
                          | zero =>
                            intro y31 y32 H locs ls hf hW hl
                            exact (sp_lp0 hf).elim
                          | succ n9 ih248 =>
                            intro y31 y32 H locs ls hf hW hl
                            have hf := sp_lpS hf
                            rw [f_X10_cuts_L248_eq] at hf
                            refine lv_iload hx hb dX10_cuts_248 (lv_at hl 9 rfl) ?_
                            refine lv_bipush (v := 27) hx hb dX10_cuts_250 (by decide) ?_
                            refine lv_icmp_ge (tgt := 306) hx hb dX10_cuts_252 (by decide) (fun hc => ?_) (fun hc => ?_)
                            · have hf := sp_ht hf hc
                              exact hj34 _ _ _ _ hf hW (lv_sub hl [0, 1, 2, 3, 4, 5, 6] rfl)
                            · have hf := sp_hf hf hc
                              refine lv_iload hx hb dX10_cuts_255 (lv_at hl 4 rfl) ?_
                              refine lv_if_ne (tgt := 306) hx hb dX10_cuts_257 (by decide) (fun hc => ?_) (fun hc => ?_)
                              · have hf := sp_hf hf hc
                                exact hj34 _ _ _ _ hf hW (lv_sub hl [0, 1, 2, 3, 4, 5, 6] rfl)
                              · have hf := sp_ht hf hc
                                refine lv_iload hx hb dX10_cuts_260 (lv_at hl 5 rfl) ?_
                                refine lv_if_ne (tgt := 306) hx hb dX10_cuts_262 (by decide) (fun hc => ?_) (fun hc => ?_)
                                · have hf := sp_hf hf hc
                                  exact hj34 _ _ _ _ hf hW (lv_sub hl [0, 1, 2, 3, 4, 5, 6] rfl)
                                · have hf := sp_ht hf hc
                                  refine lv_iload hx hb dX10_cuts_265 (lv_at hl 8 rfl) ?_
                                  refine lv_iload hx hb dX10_cuts_267 (lv_at hl 9 rfl) ?_
                                  refine lv_ishr hx hb dX10_cuts_269 ?_
                                  refine lv_iconst (v := 1) hx hb dX10_cuts_270 (by decide) ?_
                                  refine lv_iand hx hb dX10_cuts_271 ?_
                                  refine lv_iconst (v := 1) hx hb dX10_cuts_272 (by decide) ?_
                                  obtain ⟨k36, ek36, hf⟩ := sp_hb hf
                                  have hj36 : ∀ (x35 : Int32) (H : Heap) (locs : List Loc) (ls : Array Slot), k36 x35 = some (r', sc', su') → sp_wd D A s.heap (sw_M a q5 fa tr la sl ce pn mn cl le ri lt nm nc nl nr nt at9 en9 de mm ma ne us lk sd sf nu gt gl tb c7 c8) H locs → lv_has ls 12 [(0, .ref (a 0)), (3, .int x5), (4, .int x11), (5, .int v14), (6, .int v30), (8, .int y17), (9, .int v25), (10, .int v27), (11, .int y32)] → W p l e rmX10_cuts s m args below meth c H locs 0 0 Q (F0 m 298 ls [.int x35]) := by
                                    intro x35 H locs ls hf hW hl
                                    rw [ek36] at hf
                                    refine lv_istore (lv' := [(7, .int x35), (0, .ref (a 0)), (3, .int x5), (4, .int x11), (5, .int v14), (6, .int v30), (8, .int y17), (9, .int v25), (10, .int v27), (11, .int y32)]) hx hb dX10_cuts_298 hl (by decide) rfl (fun ls hl => ?_)
                                    obtain ⟨v37, ev37, hf⟩ := sp_hb hf
                                    refine lv_iinc (v := v37) (lv' := [(11, .int v37), (7, .int x35), (0, .ref (a 0)), (3, .int x5), (4, .int x11), (5, .int v14), (6, .int v30), (8, .int y17), (9, .int v25), (10, .int v27)]) hx hb dX10_cuts_300 hl (k := 9) rfl (by rw [ev37]; rfl) (by decide) rfl (fun ls hl => ?_)
                                    refine lv_goto (tgt := 248) hx hb dX10_cuts_303 (by decide) ?_
                                    exact ih248 _ _ _ _ _ hf hW (lv_sub hl [2, 3, 4, 5, 6, 1, 7, 8, 9, 0] rfl)
                                  refine lv_icmp_ne (tgt := 297) hx hb dX10_cuts_273 (by decide) (fun hc => ?_) (fun hc => ?_)
                                  · have hf := sp_hf hf hc
                                    refine lv_iconst (v := 0) hx hb dX10_cuts_297 (by decide) ?_
                                    exact hj36 _ _ _ _ hf hW (lv_sub hl [0, 1, 2, 3, 4, 6, 7, 8, 9] rfl)
                                  · have hf := sp_ht hf hc
                                    refine lv_aload_n hx hb dX10_cuts_276 rfl (lv_at hl 0 rfl) ?_
                                    refine lv_iload hx hb dX10_cuts_277 (lv_at hl 7 rfl) ?_
                                    refine lv_iconst (v := 1) hx hb dX10_cuts_279 (by decide) ?_
                                    refine lv_iload hx hb dX10_cuts_280 (lv_at hl 9 rfl) ?_
                                    refine lv_ishl hx hb dX10_cuts_282 ?_
                                    refine lv_ior hx hb dX10_cuts_283 ?_
                                    obtain ⟨r38, hc38, hf⟩ := sp_hc hf
                                    refine sp_callViP (rest := []) S hK hG hA hW (c_X10_oneCut a fa tr la sl ce pn mn cl le ri lt nm nc nl nr nt at9 en9 de mm ma ne us lk sd sf nu gt gl tb c7 c8 (v25 ||| ((1 : Int32) <<< (y32 &&& 31))) hc38) (by decide) (cwV 1 S.2.2.2.2 gX10_cuts_X10_oneCut rfl rfl rfl (by decide +kernel) (by decide)) 8 0 rfl rfl (sp_pn _) rfl (WS' := sw_M a q5 fa tr la sl ce pn mn cl le ri lt nm nc nl nr nt at9 en9 de mm ma ne us lk sd sf nu gt gl tb c7 c8) (sp_pn' _) rfl hl.1 (Nat.le_of_ble_eq_true rfl) dX10_cuts_284 ⟨Nat.zero_le _, Nat.zero_le _⟩ rfl (fun H locs hW => ?_)
                                    refine lv_iload hx hb dX10_cuts_287 (lv_at hl 2 rfl) ?_
                                    refine lv_iand hx hb dX10_cuts_289 ?_
                                    refine lv_if_eq (tgt := 297) hx hb dX10_cuts_290 (by decide) (fun hc => ?_) (fun hc => ?_)
                                    · have hf := sp_ht hf hc
                                      refine lv_iconst (v := 0) hx hb dX10_cuts_297 (by decide) ?_
                                      exact hj36 _ _ _ _ hf hW (lv_sub hl [0, 1, 2, 3, 4, 6, 7, 8, 9] rfl)
                                    · have hf := sp_hf hf hc
                                      refine lv_iconst (v := 1) hx hb dX10_cuts_293 (by decide) ?_
                                      refine lv_goto (tgt := 298) hx hb dX10_cuts_294 (by decide) ?_
                                      exact hj36 _ _ _ _ hf hW (lv_sub hl [0, 1, 2, 3, 4, 6, 7, 8, 9] rfl)
                        exact hlp248 _ _ _ _ _ _ hf hW (lv_sub hl [2, 3, 4, 5, 1, 6, 7, 8, 9, 0] rfl)
                      refine lv_if_eq (tgt := 241) hx hb dX10_cuts_234 (by decide) (fun hc => ?_) (fun hc => ?_)
                      · have hf := sp_ht hf hc
                        refine lv_iconst (v := 0) hx hb dX10_cuts_241 (by decide) ?_
                        exact hj29 _ _ _ _ hf hW (lv_sub hl [2, 3, 4, 5, 7, 8, 1, 0] rfl)
                      · have hf := sp_hf hf hc
                        refine lv_iconst (v := 1) hx hb dX10_cuts_237 (by decide) ?_
                        refine lv_goto (tgt := 242) hx hb dX10_cuts_238 (by decide) ?_
                        exact hj29 _ _ _ _ hf hW (lv_sub hl [2, 3, 4, 5, 7, 8, 1, 0] rfl)
                    · have hf := sp_ht hf hc
                      refine lv_goto (tgt := 306) hx hb dX10_cuts_203 (by decide) ?_
                      exact hj23 _ _ _ _ _ hf hW (lv_sub hl [0, 1, 2, 3, 4, 5, 6] rfl)
              exact hlp186 _ _ _ _ _ _ _ hf hW (lv_sub hl [4, 5, 6, 3, 2, 1, 0] rfl)
            · have hf := sp_hf hf hc
              refine lv_iconst (v := 1) hx hb dX10_cuts_175 (by decide) ?_
              have q0 := Option.some.inj hf
              obtain ⟨q1, z1⟩ := Prod.mk.inj q0
              obtain ⟨q2, z2⟩ := Prod.mk.inj z1
              subst q1
              subst q2
              subst z2
              exact sp_iret S hr hlk hW hQ dX10_cuts_176
          · have hf := sp_hf hf hc
            refine lv_iconst (v := 0) hx hb dX10_cuts_154 (by decide) ?_
            have q0 := Option.some.inj hf
            obtain ⟨q1, z1⟩ := Prod.mk.inj q0
            obtain ⟨q2, z2⟩ := Prod.mk.inj z1
            subst q1
            subst q2
            subst z2
            exact sp_iret S hr hlk hW hQ dX10_cuts_155
        have hlp107 : ∀ (n9 : Nat) (y9 : Int32) (y10 : Int32) (H : Heap) (locs : List Loc) (ls : Array Slot), sp_lp (f_X10_cuts_L107 k12 c7 p2) n9 (y9, y10) = some (r', sc', su') → sp_wd D A s.heap (sw_M a q5 fa tr la sl ce pn mn cl le ri lt nm nc nl nr nt at9 en9 de mm ma ne us lk sd sf nu gt gl tb c7 c8) H locs → lv_has ls 12 [(0, .ref (a 0)), (2, .int p2), (3, .int x5), (4, .int y9), (5, .int y10)] → W p l e rmX10_cuts s m args below meth c H locs 0 0 Q (F0 m 107 ls []) := by
          intro n9
          induction n9 with
          | zero =>
            intro y9 y10 H locs ls hf hW hl
            exact (sp_lp0 hf).elim
          | succ n9 ih107 =>
            intro y9 y10 H locs ls hf hW hl
            have hf := sp_lpS hf
            rw [f_X10_cuts_L107_eq] at hf
            refine lv_iload hx hb dX10_cuts_107 (lv_at hl 4 rfl) ?_
            refine lv_bipush (v := 27) hx hb dX10_cuts_109 (by decide) ?_
            refine lv_icmp_ge (tgt := 147) hx hb dX10_cuts_111 (by decide) (fun hc => ?_) (fun hc => ?_)
            · have hf := sp_ht hf hc
              exact hj12 _ _ _ _ hf hW (lv_sub hl [0, 2, 3] rfl)
            · have hf := sp_hf hf hc
              refine lv_iload hx hb dX10_cuts_114 (lv_at hl 3 rfl) ?_
              refine lv_aload_n hx hb dX10_cuts_116 rfl (lv_at hl 0 rfl) ?_
              refine sp_get S hK hW inX10 0 rfl rfl 30 (by decide) lk1 rfl dX10_cuts_117 ?_
              refine lv_iload hx hb dX10_cuts_120 (lv_at hl 4 rfl) ?_
              obtain ⟨hin, v39, ev39, hf⟩ := sp_hld hf
              refine sp_iald S hK hW 24 rfl hin ev39 dX10_cuts_122 ?_
              refine lv_iload_n hx hb dX10_cuts_123 rfl (lv_at hl 1 rfl) ?_
              obtain ⟨r40, hc40, hf⟩ := sp_hc hf
              refine sp_callSi (rest := [.int y9]) S hK hG hA hW (c_X10_isStronger v39 p2 hc40) (by decide) (va_cwS 2 S.2.2.2.2 gX10_cuts_X10_isStronger rfl rfl rfl (by decide +kernel) (by decide)) (isC := []) rfl rfl rfl (WS' := sw_M a q5 fa tr la sl ce pn mn cl le ri lt nm nc nl nr nt at9 en9 de mm ma ne us lk sd sf nu gt gl tb c7 c8) rfl rfl hl.1 (Nat.le_of_ble_eq_true rfl) dX10_cuts_124 ⟨Nat.zero_le _, Nat.zero_le _⟩ rfl (fun H locs hW => ?_)
              obtain ⟨k42, ek42, hf⟩ := sp_hb hf
              have hj42 : ∀ (x41 : Int32) (H : Heap) (locs : List Loc) (ls : Array Slot), k42 x41 = some (r', sc', su') → sp_wd D A s.heap (sw_M a q5 fa tr la sl ce pn mn cl le ri lt nm nc nl nr nt at9 en9 de mm ma ne us lk sd sf nu gt gl tb c7 c8) H locs → lv_has ls 12 [(0, .ref (a 0)), (2, .int p2), (3, .int x5), (5, .int y10)] → W p l e rmX10_cuts s m args below meth c H locs 0 0 Q (F0 m 138 ls [.int x41, .int y9]) := by
                intro x41 H locs ls hf hW hl
                rw [ek42] at hf
                refine lv_ior hx hb dX10_cuts_138 ?_
                obtain ⟨v43, ev43, hf⟩ := sp_hb hf
                refine sp_topi ev43 ?_
                refine lv_istore (lv' := [(4, .int v43), (0, .ref (a 0)), (2, .int p2), (3, .int x5), (5, .int y10)]) hx hb dX10_cuts_139 hl (by decide) rfl (fun ls hl => ?_)
                obtain ⟨v44, ev44, hf⟩ := sp_hb hf
                refine lv_iinc (v := v44) (lv' := [(5, .int v44), (4, .int v43), (0, .ref (a 0)), (2, .int p2), (3, .int x5)]) hx hb dX10_cuts_141 hl (k := 4) rfl (by rw [ev44]; rfl) (by decide) rfl (fun ls hl => ?_)
                refine lv_goto (tgt := 107) hx hb dX10_cuts_144 (by decide) ?_
                exact ih107 _ _ _ _ _ hf hW (lv_sub hl [2, 3, 4, 1, 0] rfl)
              refine lv_if_eq (tgt := 137) hx hb dX10_cuts_127 (by decide) (fun hc => ?_) (fun hc => ?_)
              · have hf := sp_ht hf hc
                refine lv_iconst (v := 0) hx hb dX10_cuts_137 (by decide) ?_
                exact hj42 _ _ _ _ hf hW (lv_sub hl [0, 1, 2, 4] rfl)
              · have hf := sp_hf hf hc
                refine lv_iconst (v := 1) hx hb dX10_cuts_130 (by decide) ?_
                refine lv_iload hx hb dX10_cuts_131 (lv_at hl 4 rfl) ?_
                refine lv_ishl hx hb dX10_cuts_133 ?_
                refine lv_goto (tgt := 138) hx hb dX10_cuts_134 (by decide) ?_
                exact hj42 _ _ _ _ hf hW (lv_sub hl [0, 1, 2, 4] rfl)
        exact hlp107 _ _ _ _ _ _ hf hW (lv_sub hl [2, 3, 4, 1, 0] rfl)
      have hlp25 : ∀ (n9 : Nat) (y3 : Int32) (y4 : Int32) (H : Heap) (locs : List Loc) (ls : Array Slot), sp_lp (f_X10_cuts_L25 mn p1 k6 lt cl sc su) n9 (y3, y4) = some (r', sc', su') → sp_wd D A s.heap (sw_M a q5 fa tr la sl ce pn mn cl le ri lt nm nc nl nr nt at9 en9 de mm ma ne us lk sd sf nu gt gl tb sc su) H locs → lv_has ls 12 [(0, .ref (a 0)), (1, .int p1), (2, .int p2), (3, .int y3), (4, .int y4)] → W p l e rmX10_cuts s m args below meth c H locs 0 0 Q (F0 m 25 ls []) := by
        intro n9
        induction n9 with
        | zero =>
          intro y3 y4 H locs ls hf hW hl
          exact (sp_lp0 hf).elim
        | succ n9 ih25 =>
          intro y3 y4 H locs ls hf hW hl
          have hf := sp_lpS hf
          rw [f_X10_cuts_L25_eq] at hf
          refine lv_iload hx hb dX10_cuts_25 (lv_at hl 4 rfl) ?_
          refine lv_aload_n hx hb dX10_cuts_27 rfl (lv_at hl 0 rfl) ?_
          refine sp_get S hK hW inX10 0 rfl rfl 6 (by decide) lk2 rfl dX10_cuts_28 ?_
          refine lv_iload_n hx hb dX10_cuts_31 rfl (lv_at hl 1 rfl) ?_
          obtain ⟨hin, v45, ev45, hf⟩ := sp_hld hf
          refine sp_iald S hK hW 4 rfl hin ev45 dX10_cuts_32 ?_
          refine lv_icmp_ge (tgt := 97) hx hb dX10_cuts_33 (by decide) (fun hc => ?_) (fun hc => ?_)
          · have hf := sp_ht hf hc
            exact hj6 _ _ _ _ hf hW (lv_sub hl [0, 2, 3] rfl)
          · have hf := sp_hf hf hc
            refine lv_bipush (v := 24) hx hb dX10_cuts_36 (by decide) ?_
            refine lv_iload_n hx hb dX10_cuts_38 rfl (lv_at hl 1 rfl) ?_
            refine lv_imul hx hb dX10_cuts_39 ?_
            refine lv_iload hx hb dX10_cuts_40 (lv_at hl 4 rfl) ?_
            refine lv_iadd hx hb dX10_cuts_42 ?_
            obtain ⟨v46, ev46, hf⟩ := sp_hb hf
            refine sp_topi ev46 ?_
            refine lv_istore (lv' := [(5, .int v46), (0, .ref (a 0)), (1, .int p1), (2, .int p2), (3, .int y3), (4, .int y4)]) hx hb dX10_cuts_43 hl (by decide) rfl (fun ls hl => ?_)
            refine lv_aload_n hx hb dX10_cuts_45 rfl (lv_at hl 1 rfl) ?_
            refine sp_get S hK hW inX10 0 rfl rfl 10 (by decide) lk3 rfl dX10_cuts_46 ?_
            refine lv_iload hx hb dX10_cuts_49 (lv_at hl 0 rfl) ?_
            obtain ⟨hin, v47, ev47, hf⟩ := sp_hld hf
            refine sp_iald S hK hW 8 rfl hin ev47 dX10_cuts_51 ?_
            refine lv_bipush (v := (-9)) hx hb dX10_cuts_52 (by decide) ?_
            obtain ⟨k49, ek49, hf⟩ := sp_hb hf
            have hj49 : ∀ (x48 : Int32) (H : Heap) (locs : List Loc) (ls : Array Slot), k49 x48 = some (r', sc', su') → sp_wd D A s.heap (sw_M a q5 fa tr la sl ce pn mn cl le ri lt nm nc nl nr nt at9 en9 de mm ma ne us lk sd sf nu gt gl tb sc su) H locs → lv_has ls 12 [(0, .ref (a 0)), (1, .int p1), (2, .int p2), (3, .int x48), (4, .int y4)] → W p l e rmX10_cuts s m args below meth c H locs 0 0 Q (F0 m 91 ls []) := by
              intro x48 H locs ls hf hW hl
              rw [ek49] at hf
              obtain ⟨v50, ev50, hf⟩ := sp_hb hf
              refine lv_iinc (v := v50) (lv' := [(4, .int v50), (0, .ref (a 0)), (1, .int p1), (2, .int p2), (3, .int x48)]) hx hb dX10_cuts_91 hl (k := 4) rfl (by rw [ev50]; rfl) (by decide) rfl (fun ls hl => ?_)
              refine lv_goto (tgt := 25) hx hb dX10_cuts_94 (by decide) ?_
              exact ih25 _ _ _ _ _ hf hW (lv_sub hl [1, 2, 3, 4, 0] rfl)
            refine lv_icmp_eq (tgt := 60) hx hb dX10_cuts_54 (by decide) (fun hc => ?_) (fun hc => ?_)
            · have hf := sp_ht hf hc
              refine lv_aload_n hx hb dX10_cuts_60 rfl (lv_at hl 1 rfl) ?_
              refine sp_get S hK hW inX10 0 rfl rfl 7 (by decide) lk4 rfl dX10_cuts_61 ?_
              refine lv_iload hx hb dX10_cuts_64 (lv_at hl 0 rfl) ?_
              obtain ⟨hin, v51, ev51, hf⟩ := sp_hld hf
              refine sp_iald S hK hW 5 rfl hin ev51 dX10_cuts_66 ?_
              obtain ⟨r52, hc52, hf⟩ := sp_hc hf
              refine sp_callSi (rest := []) S hK hG hA hW (c_X10_isSmall v51 hc52) (by decide) (va_cwS 1 S.2.2.2.2 gX10_cuts_X10_isSmall rfl rfl rfl (by decide +kernel) (by decide)) (isC := []) rfl rfl rfl (WS' := sw_M a q5 fa tr la sl ce pn mn cl le ri lt nm nc nl nr nt at9 en9 de mm ma ne us lk sd sf nu gt gl tb sc su) rfl rfl hl.1 (Nat.le_of_ble_eq_true rfl) dX10_cuts_67 ⟨Nat.zero_le _, Nat.zero_le _⟩ rfl (fun H locs hW => ?_)
              refine lv_if_ne (tgt := 76) hx hb dX10_cuts_70 (by decide) (fun hc => ?_) (fun hc => ?_)
              · have hf := sp_hf hf hc
                refine lv_iload_n hx hb dX10_cuts_76 rfl (lv_at hl 4 rfl) ?_
                refine lv_iconst (v := 1) hx hb dX10_cuts_77 (by decide) ?_
                refine lv_aload_n hx hb dX10_cuts_78 rfl (lv_at hl 1 rfl) ?_
                refine sp_get S hK hW inX10 0 rfl rfl 7 (by decide) lk4 rfl dX10_cuts_79 ?_
                refine lv_iload hx hb dX10_cuts_82 (lv_at hl 0 rfl) ?_
                obtain ⟨hin, v53, ev53, hf⟩ := sp_hld hf
                refine sp_iald S hK hW 5 rfl hin ev53 dX10_cuts_84 ?_
                obtain ⟨r54, hc54, hf⟩ := sp_hc hf
                refine sp_callSi (rest := [.int (1 : Int32), .int y3]) S hK hG hA hW (c_X10_smallOf v53 hc54) (by decide) (va_cwS 1 S.2.2.2.2 gX10_cuts_X10_smallOf rfl rfl rfl (by decide +kernel) (by decide)) (isC := []) rfl rfl rfl (WS' := sw_M a q5 fa tr la sl ce pn mn cl le ri lt nm nc nl nr nt at9 en9 de mm ma ne us lk sd sf nu gt gl tb sc su) rfl rfl hl.1 (Nat.le_of_ble_eq_true rfl) dX10_cuts_85 ⟨Nat.zero_le _, Nat.zero_le _⟩ rfl (fun H locs hW => ?_)
                refine lv_ishl hx hb dX10_cuts_88 ?_
                refine lv_ior hx hb dX10_cuts_89 ?_
                obtain ⟨v55, ev55, hf⟩ := sp_hb hf
                refine sp_topi ev55 ?_
                refine lv_istore_n (lv' := [(3, .int v55), (5, .int v46), (0, .ref (a 0)), (1, .int p1), (2, .int p2), (4, .int y4)]) hx hb dX10_cuts_90 rfl hl (by decide) rfl (fun ls hl => ?_)
                exact hj49 _ _ _ _ hf hW (lv_sub hl [2, 3, 4, 0, 5] rfl)
              · have hf := sp_ht hf hc
                refine lv_bipush (v := (-3)) hx hb dX10_cuts_73 (by decide) ?_
                have q0 := Option.some.inj hf
                obtain ⟨q1, z1⟩ := Prod.mk.inj q0
                obtain ⟨q2, z2⟩ := Prod.mk.inj z1
                subst q1
                subst q2
                subst z2
                exact sp_iret S hr hlk hW hQ dX10_cuts_75
            · have hf := sp_hf hf hc
              refine lv_goto (tgt := 91) hx hb dX10_cuts_57 (by decide) ?_
              exact hj49 _ _ _ _ hf hW (lv_sub hl [1, 2, 3, 4, 5] rfl)
      exact hlp25 _ _ _ _ _ _ hf hW (lv_sub hl [2, 3, 4, 1, 0] rfl)
    · have hf := sp_ht hf hc
      refine lv_bipush (v := (-2)) hx hb dX10_cuts_17 (by decide) ?_
      have q0 := Option.some.inj hf
      obtain ⟨q1, z1⟩ := Prod.mk.inj q0
      obtain ⟨q2, z2⟩ := Prod.mk.inj z1
      subst q1
      subst q2
      subst z2
      exact sp_iret S hr hlk hW hQ dX10_cuts_19
  · have hf := sp_ht hf hc
    refine lv_iconst (v := (-1)) hx hb dX10_cuts_8 (by decide) ?_
    have q0 := Option.some.inj hf
    obtain ⟨q1, z1⟩ := Prod.mk.inj q0
    obtain ⟨q2, z2⟩ := Prod.mk.inj z1
    subst q1
    subst q2
    subst z2
    exact sp_iret S hr hlk hW hQ dX10_cuts_9

def f_X10_units_L36 (mn : Nat → Int32) (p1 : Int32) (k11 : Int32 → Int32 → Option (Int32)) (lt : Nat → Int32) (cl : Nat → Int32) (rec36 : (Int32 × Int32 × Int32) → Option (Int32)) (s9 : Int32 × Int32 × Int32) : Option (Int32) := match s9 with
  | (y6, y7, y8) => sp_ld mn 12 p1 (fun v12 => if v12 ≤ y8 then (k11 y6 y7) else (sp_bnd (((24 : Int32) * p1) + y8) (fun v13 => sp_ld lt 288 v13 (fun v14 => sp_bnd (fun (x15 : Int32) (x16 : Int32) => sp_bnd (y8 + (1 : Int32)) (fun v18 => rec36 (x15, x16, v18))) (fun k17 => if v14 = (-9 : Int32) then (sp_ld cl 288 v13 (fun v19 => sp_bnd (v19 &&& (y6 ^^^ (-1 : Int32))) (fun v20 => if v20 = 0 then (some (1 : Int32)) else (sp_bnd (fun (x21 : Int32) => Option.bind (f_X10_bitsOf v20) (fun r23 => if r23 = (1 : Int32) then (if (y6 &&& x21) = 0 then (sp_bnd (y6 ||| x21) (fun v24 => k17 v24 (1 : Int32))) else (k17 y6 y7)) else (k17 y6 y7))) (fun k22 => if (64 : Int32) ≤ v20 then (k22 (v20 >>> ((6 : Int32) &&& 31))) else (k22 (v20 <<< ((6 : Int32) &&& 31)))))))) else (k17 y6 y7))))))
theorem f_X10_units_L36_eq {rec36 : (Int32 × Int32 × Int32) → Option (Int32)} {mn : Nat → Int32} {p1 : Int32} {k11 : Int32 → Int32 → Option (Int32)} {lt : Nat → Int32} {cl : Nat → Int32} {y6 : Int32} {y7 : Int32} {y8 : Int32} : f_X10_units_L36 mn p1 k11 lt cl rec36 (y6, y7, y8) = (sp_ld mn 12 p1 (fun v12 => if v12 ≤ y8 then (k11 y6 y7) else (sp_bnd (((24 : Int32) * p1) + y8) (fun v13 => sp_ld lt 288 v13 (fun v14 => sp_bnd (fun (x15 : Int32) (x16 : Int32) => sp_bnd (y8 + (1 : Int32)) (fun v18 => rec36 (x15, x16, v18))) (fun k17 => if v14 = (-9 : Int32) then (sp_ld cl 288 v13 (fun v19 => sp_bnd (v19 &&& (y6 ^^^ (-1 : Int32))) (fun v20 => if v20 = 0 then (some (1 : Int32)) else (sp_bnd (fun (x21 : Int32) => Option.bind (f_X10_bitsOf v20) (fun r23 => if r23 = (1 : Int32) then (if (y6 &&& x21) = 0 then (sp_bnd (y6 ||| x21) (fun v24 => k17 v24 (1 : Int32))) else (k17 y6 y7)) else (k17 y6 y7))) (fun k22 => if (64 : Int32) ≤ v20 then (k22 (v20 >>> ((6 : Int32) &&& 31))) else (k22 (v20 <<< ((6 : Int32) &&& 31)))))))) else (k17 y6 y7))))))) := rfl
def f_X10_units_L25 (k5 : Option (Int32)) (mn : Nat → Int32) (p1 : Int32) (lt : Nat → Int32) (cl : Nat → Int32) (rec25 : (Int32 × Int32) → Option (Int32)) (s9 : Int32 × Int32) : Option (Int32) := match s9 with
  | (y3, y4) => if y4 = 0 then k5 else (sp_bnd (fun (x9 : Int32) (x10 : Int32) => rec25 (x9, x10)) (fun k11 => sp_lp (f_X10_units_L36 mn p1 k11 lt cl) sp_F (y3, (0 : Int32), (0 : Int32))))
theorem f_X10_units_L25_eq {rec25 : (Int32 × Int32) → Option (Int32)} {k5 : Option (Int32)} {mn : Nat → Int32} {p1 : Int32} {lt : Nat → Int32} {cl : Nat → Int32} {y3 : Int32} {y4 : Int32} : f_X10_units_L25 k5 mn p1 lt cl rec25 (y3, y4) = (if y4 = 0 then k5 else (sp_bnd (fun (x9 : Int32) (x10 : Int32) => rec25 (x9, x10)) (fun k11 => sp_lp (f_X10_units_L36 mn p1 k11 lt cl) sp_F (y3, (0 : Int32), (0 : Int32))))) := rfl
def f_X10_units (p1 : Int32) (p2 : Int32) (pn : Int32) (mn : Nat → Int32) (cl : Nat → Int32) (lt : Nat → Int32) : Option (Int32) := Option.bind (f_X10_isProof p1 pn) (fun r1 => if r1 = 0 then (some (-1 : Int32)) else (Option.bind (f_X10_isClause p2) (fun r2 => if r2 = 0 then (some (-2 : Int32)) else (sp_bnd (some (0 : Int32)) (fun k5 => sp_lp (f_X10_units_L25 k5 mn p1 lt cl) sp_F (p2, (1 : Int32)))))))
def rmX10_units : Room := { frames := 2, cells := 0, slots := 0, locals := 42 }
set_option maxRecDepth 4000 in
theorem c_X10_units {l : Launch} {D : va_G} {q5 : Nat → ClassId} (a : Nat → Nat) (fa : Int32) (tr : Int32) (la : Nat → Int32) (sl : Nat → Int32) (ce : Nat → Int32) (pn : Int32) (mn : Nat → Int32) (cl : Nat → Int32) (le : Nat → Int32) (ri : Nat → Int32) (lt : Nat → Int32) (nm : Int32) (nc : Nat → Int32) (nl : Nat → Int32) (nr : Nat → Int32) (nt : Nat → Int32) (at9 : Int32) (en9 : Int32) (de : Nat → Int32) (mm : Int32) (ma : Nat → Int32) (ne : Nat → Int32) (us : Nat → Int32) (lk : Nat → Int32) (sd : Nat → Int32) (sf : Nat → Int32) (nu : Nat → Int32) (gt : Nat → Int64) (gl : Nat → Int32) (tb : Nat → Int64) (sc : Nat → Int32) (su : Nat → Int32) (p1 : Int32) (p2 : Int32) {r' : Int32} (hf : f_X10_units p1 p2 pn mn cl lt = some r') : sp_Ci l yX10_units wsX10_units rmX10_units D q5 0 [.ref (a 0), .int p1, .int p2] (sw_M a q5 fa tr la sl ce pn mn cl le ri lt nm nc nl nr nt at9 en9 de mm ma ne us lk sd sf nu gt gl tb sc su) r' (sw_M a q5 fa tr la sl ce pn mn cl le ri lt nm nc nl nr nt at9 en9 de mm ma ne us lk sd sf nu gt gl tb sc su) := by
  intro sz
  refine sp_of (cc := cX10_units) (maxL := 9) (ret := some .int) (own := RX10) (Qc := sp_Qi D r' (sw_M a q5 fa tr la sl ce pn mn cl le ri lt nm nc nl nr nt at9 en9 de mm ma ne us lk sd sf nu gt gl tb sc su)) (by decide) rfl rfl (Nat.le_of_ble_eq_true rfl) ?_
  intro p e s m args below meth c A ls Q hQ S hr hlk hK hG hA hW hl
  have hx := S.1
  have hb := S.2.1
  unfold f_X10_units at hf
  have inX10 : ∀ w ∈ u_ws RX10 TX10 32, w ∈ wsX10_units := (fun _ h => List.mem_cons_of_mem _ (List.mem_append_right _ h))
  have lk1 := S.2.2.2.2 (Cond.fieldLink RX10 19 "ShortProofsModel" "many" "[I") (List.mem_of_getElem? (i := 1) rfl)
  have lk2 := S.2.2.2.2 (Cond.fieldLink RX10 31 "ShortProofsModel" "letters" "[I") (List.mem_of_getElem? (i := 2) rfl)
  have lk3 := S.2.2.2.2 (Cond.fieldLink RX10 22 "ShortProofsModel" "clauses" "[I") (List.mem_of_getElem? (i := 3) rfl)
  refine lv_aload_n hx hb dX10_units_0 rfl (lv_at hl 0 rfl) ?_
  refine lv_iload_n hx hb dX10_units_1 rfl (lv_at hl 1 rfl) ?_
  obtain ⟨r1, hc1, hf⟩ := sp_hc hf
  refine sp_callViP (rest := []) S hK hG hA hW (c_X10_isProof a fa tr la sl ce pn mn cl le ri lt nm nc nl nr nt at9 en9 de mm ma ne us lk sd sf nu gt gl tb sc su p1 hc1) (by decide) (cwV 1 S.2.2.2.2 gX10_units_X10_isProof rfl rfl rfl (by decide +kernel) (by decide)) 8 0 rfl rfl (sp_pn _) rfl (WS' := sw_M a q5 fa tr la sl ce pn mn cl le ri lt nm nc nl nr nt at9 en9 de mm ma ne us lk sd sf nu gt gl tb sc su) (sp_pn' _) rfl hl.1 (Nat.le_of_ble_eq_true rfl) dX10_units_2 ⟨Nat.zero_le _, Nat.zero_le _⟩ rfl (fun H locs hW => ?_)
  refine lv_if_ne (tgt := 10) hx hb dX10_units_5 (by decide) (fun hc => ?_) (fun hc => ?_)
  · have hf := sp_hf hf hc
    refine lv_iload_n hx hb dX10_units_10 rfl (lv_at hl 2 rfl) ?_
    obtain ⟨r2, hc2, hf⟩ := sp_hc hf
    refine sp_callSi (rest := []) S hK hG hA hW (c_X10_isClause p2 hc2) (by decide) (va_cwS 1 S.2.2.2.2 gX10_units_X10_isClause rfl rfl rfl (by decide +kernel) (by decide)) (isC := []) rfl rfl rfl (WS' := sw_M a q5 fa tr la sl ce pn mn cl le ri lt nm nc nl nr nt at9 en9 de mm ma ne us lk sd sf nu gt gl tb sc su) rfl rfl hl.1 (Nat.le_of_ble_eq_true rfl) dX10_units_11 ⟨Nat.zero_le _, Nat.zero_le _⟩ rfl (fun H locs hW => ?_)
    refine lv_if_ne (tgt := 20) hx hb dX10_units_14 (by decide) (fun hc => ?_) (fun hc => ?_)
    · have hf := sp_hf hf hc
      refine lv_iload_n hx hb dX10_units_20 rfl (lv_at hl 2 rfl) ?_
      refine lv_istore_n (lv' := [(3, .int p2), (0, .ref (a 0)), (1, .int p1), (2, .int p2)]) hx hb dX10_units_21 rfl hl (by decide) rfl (fun ls hl => ?_)
      refine lv_iconst (v := 1) hx hb dX10_units_22 (by decide) ?_
      refine lv_istore (lv' := [(4, .int (1 : Int32)), (3, .int p2), (0, .ref (a 0)), (1, .int p1), (2, .int p2)]) hx hb dX10_units_23 hl (by decide) rfl (fun ls hl => ?_)
      obtain ⟨k5, ek5, hf⟩ := sp_hb hf
      have hj5 : ∀ (H : Heap) (locs : List Loc) (ls : Array Slot), k5 = some r' → sp_wd D A s.heap (sw_M a q5 fa tr la sl ce pn mn cl le ri lt nm nc nl nr nt at9 en9 de mm ma ne us lk sd sf nu gt gl tb sc su) H locs → lv_has ls 9 [] → W p l e rmX10_units s m args below meth c H locs 0 0 Q (F0 m 146 ls []) := by
        intro H locs ls hf hW hl
        rw [ek5] at hf
        refine lv_iconst (v := 0) hx hb dX10_units_146 (by decide) ?_
        have q0 := Option.some.inj hf
        subst q0
        exact sp_iret S hr hlk hW hQ dX10_units_147
      have hlp25 : ∀ (n9 : Nat) (y3 : Int32) (y4 : Int32) (H : Heap) (locs : List Loc) (ls : Array Slot), sp_lp (f_X10_units_L25 k5 mn p1 lt cl) n9 (y3, y4) = some r' → sp_wd D A s.heap (sw_M a q5 fa tr la sl ce pn mn cl le ri lt nm nc nl nr nt at9 en9 de mm ma ne us lk sd sf nu gt gl tb sc su) H locs → lv_has ls 9 [(0, .ref (a 0)), (1, .int p1), (3, .int y3), (4, .int y4)] → W p l e rmX10_units s m args below meth c H locs 0 0 Q (F0 m 25 ls []) := by
        intro n9
        induction n9 with
        | zero =>
          intro y3 y4 H locs ls hf hW hl
          exact (sp_lp0 hf).elim
        | succ n9 ih25 =>
          intro y3 y4 H locs ls hf hW hl
          have hf := sp_lpS hf
          rw [f_X10_units_L25_eq] at hf
          refine lv_iload hx hb dX10_units_25 (lv_at hl 3 rfl) ?_
          refine lv_if_eq (tgt := 146) hx hb dX10_units_27 (by decide) (fun hc => ?_) (fun hc => ?_)
          · have hf := sp_ht hf hc
            exact hj5 _ _ _ hf hW (lv_sub hl [] rfl)
          · have hf := sp_hf hf hc
            refine lv_iconst (v := 0) hx hb dX10_units_30 (by decide) ?_
            refine lv_istore (lv' := [(4, .int (0 : Int32)), (0, .ref (a 0)), (1, .int p1), (3, .int y3)]) hx hb dX10_units_31 hl (by decide) rfl (fun ls hl => ?_)
            refine lv_iconst (v := 0) hx hb dX10_units_33 (by decide) ?_
            refine lv_istore (lv' := [(5, .int (0 : Int32)), (4, .int (0 : Int32)), (0, .ref (a 0)), (1, .int p1), (3, .int y3)]) hx hb dX10_units_34 hl (by decide) rfl (fun ls hl => ?_)
            obtain ⟨k11, ek11, hf⟩ := sp_hb hf
            have hj11 : ∀ (x9 : Int32) (x10 : Int32) (H : Heap) (locs : List Loc) (ls : Array Slot), k11 x9 x10 = some r' → sp_wd D A s.heap (sw_M a q5 fa tr la sl ce pn mn cl le ri lt nm nc nl nr nt at9 en9 de mm ma ne us lk sd sf nu gt gl tb sc su) H locs → lv_has ls 9 [(0, .ref (a 0)), (1, .int p1), (3, .int x9), (4, .int x10)] → W p l e rmX10_units s m args below meth c H locs 0 0 Q (F0 m 143 ls []) := by
              intro x9 x10 H locs ls hf hW hl
              rw [ek11] at hf
              refine lv_goto (tgt := 25) hx hb dX10_units_143 (by decide) ?_
              exact ih25 _ _ _ _ _ hf hW (lv_sub hl [0, 1, 2, 3] rfl)
            have hlp36 : ∀ (n9 : Nat) (y6 : Int32) (y7 : Int32) (y8 : Int32) (H : Heap) (locs : List Loc) (ls : Array Slot), sp_lp (f_X10_units_L36 mn p1 k11 lt cl) n9 (y6, y7, y8) = some r' → sp_wd D A s.heap (sw_M a q5 fa tr la sl ce pn mn cl le ri lt nm nc nl nr nt at9 en9 de mm ma ne us lk sd sf nu gt gl tb sc su) H locs → lv_has ls 9 [(0, .ref (a 0)), (1, .int p1), (3, .int y6), (4, .int y7), (5, .int y8)] → W p l e rmX10_units s m args below meth c H locs 0 0 Q (F0 m 36 ls []) := by
              intro n9
              induction n9 with
              | zero =>
                intro y6 y7 y8 H locs ls hf hW hl
                exact (sp_lp0 hf).elim
              | succ n9 ih36 =>
                intro y6 y7 y8 H locs ls hf hW hl
                have hf := sp_lpS hf
                rw [f_X10_units_L36_eq] at hf
                refine lv_iload hx hb dX10_units_36 (lv_at hl 4 rfl) ?_
                refine lv_aload_n hx hb dX10_units_38 rfl (lv_at hl 0 rfl) ?_
                refine sp_get S hK hW inX10 0 rfl rfl 6 (by decide) lk1 rfl dX10_units_39 ?_
                refine lv_iload_n hx hb dX10_units_42 rfl (lv_at hl 1 rfl) ?_
                obtain ⟨hin, v12, ev12, hf⟩ := sp_hld hf
                refine sp_iald S hK hW 4 rfl hin ev12 dX10_units_43 ?_
                refine lv_icmp_ge (tgt := 143) hx hb dX10_units_44 (by decide) (fun hc => ?_) (fun hc => ?_)
                · have hf := sp_ht hf hc
                  exact hj11 _ _ _ _ _ hf hW (lv_sub hl [0, 1, 2, 3] rfl)
                · have hf := sp_hf hf hc
                  refine lv_bipush (v := 24) hx hb dX10_units_47 (by decide) ?_
                  refine lv_iload_n hx hb dX10_units_49 rfl (lv_at hl 1 rfl) ?_
                  refine lv_imul hx hb dX10_units_50 ?_
                  refine lv_iload hx hb dX10_units_51 (lv_at hl 4 rfl) ?_
                  refine lv_iadd hx hb dX10_units_53 ?_
                  obtain ⟨v13, ev13, hf⟩ := sp_hb hf
                  refine sp_topi ev13 ?_
                  refine lv_istore (lv' := [(6, .int v13), (0, .ref (a 0)), (1, .int p1), (3, .int y6), (4, .int y7), (5, .int y8)]) hx hb dX10_units_54 hl (by decide) rfl (fun ls hl => ?_)
                  refine lv_aload_n hx hb dX10_units_56 rfl (lv_at hl 1 rfl) ?_
                  refine sp_get S hK hW inX10 0 rfl rfl 10 (by decide) lk2 rfl dX10_units_57 ?_
                  refine lv_iload hx hb dX10_units_60 (lv_at hl 0 rfl) ?_
                  obtain ⟨hin, v14, ev14, hf⟩ := sp_hld hf
                  refine sp_iald S hK hW 8 rfl hin ev14 dX10_units_62 ?_
                  refine lv_bipush (v := (-9)) hx hb dX10_units_63 (by decide) ?_
                  obtain ⟨k17, ek17, hf⟩ := sp_hb hf
                  have hj17 : ∀ (x15 : Int32) (x16 : Int32) (H : Heap) (locs : List Loc) (ls : Array Slot), k17 x15 x16 = some r' → sp_wd D A s.heap (sw_M a q5 fa tr la sl ce pn mn cl le ri lt nm nc nl nr nt at9 en9 de mm ma ne us lk sd sf nu gt gl tb sc su) H locs → lv_has ls 9 [(0, .ref (a 0)), (1, .int p1), (3, .int x15), (4, .int x16), (5, .int y8)] → W p l e rmX10_units s m args below meth c H locs 0 0 Q (F0 m 137 ls []) := by
                    intro x15 x16 H locs ls hf hW hl
                    rw [ek17] at hf
                    obtain ⟨v18, ev18, hf⟩ := sp_hb hf
                    refine lv_iinc (v := v18) (lv' := [(5, .int v18), (0, .ref (a 0)), (1, .int p1), (3, .int x15), (4, .int x16)]) hx hb dX10_units_137 hl (k := 4) rfl (by rw [ev18]; rfl) (by decide) rfl (fun ls hl => ?_)
                    refine lv_goto (tgt := 36) hx hb dX10_units_140 (by decide) ?_
                    exact ih36 _ _ _ _ _ _ hf hW (lv_sub hl [1, 2, 3, 4, 0] rfl)
                  refine lv_icmp_eq (tgt := 71) hx hb dX10_units_65 (by decide) (fun hc => ?_) (fun hc => ?_)
                  · have hf := sp_ht hf hc
                    refine lv_aload_n hx hb dX10_units_71 rfl (lv_at hl 1 rfl) ?_
                    refine sp_get S hK hW inX10 0 rfl rfl 7 (by decide) lk3 rfl dX10_units_72 ?_
                    refine lv_iload hx hb dX10_units_75 (lv_at hl 0 rfl) ?_
                    obtain ⟨hin, v19, ev19, hf⟩ := sp_hld hf
                    refine sp_iald S hK hW 5 rfl hin ev19 dX10_units_77 ?_
                    refine lv_iload_n hx hb dX10_units_78 rfl (lv_at hl 3 rfl) ?_
                    refine lv_iconst (v := (-1)) hx hb dX10_units_79 (by decide) ?_
                    refine lv_ixor hx hb dX10_units_80 ?_
                    refine lv_iand hx hb dX10_units_81 ?_
                    obtain ⟨v20, ev20, hf⟩ := sp_hb hf
                    refine sp_topi ev20 ?_
                    refine lv_istore (lv' := [(7, .int v20), (6, .int v13), (0, .ref (a 0)), (1, .int p1), (3, .int y6), (4, .int y7), (5, .int y8)]) hx hb dX10_units_82 hl (by decide) rfl (fun ls hl => ?_)
                    refine lv_iload hx hb dX10_units_84 (lv_at hl 0 rfl) ?_
                    refine lv_if_ne (tgt := 91) hx hb dX10_units_86 (by decide) (fun hc => ?_) (fun hc => ?_)
                    · have hf := sp_hf hf hc
                      refine lv_iload hx hb dX10_units_91 (lv_at hl 0 rfl) ?_
                      refine lv_bipush (v := 64) hx hb dX10_units_93 (by decide) ?_
                      obtain ⟨k22, ek22, hf⟩ := sp_hb hf
                      have hj22 : ∀ (x21 : Int32) (H : Heap) (locs : List Loc) (ls : Array Slot), k22 x21 = some r' → sp_wd D A s.heap (sw_M a q5 fa tr la sl ce pn mn cl le ri lt nm nc nl nr nt at9 en9 de mm ma ne us lk sd sf nu gt gl tb sc su) H locs → lv_has ls 9 [(0, .ref (a 0)), (1, .int p1), (3, .int y6), (4, .int y7), (5, .int y8), (7, .int v20)] → W p l e rmX10_units s m args below meth c H locs 0 0 Q (F0 m 111 ls [.int x21]) := by
                        intro x21 H locs ls hf hW hl
                        rw [ek22] at hf
                        refine lv_istore (lv' := [(8, .int x21), (0, .ref (a 0)), (1, .int p1), (3, .int y6), (4, .int y7), (5, .int y8), (7, .int v20)]) hx hb dX10_units_111 hl (by decide) rfl (fun ls hl => ?_)
                        refine lv_iload hx hb dX10_units_113 (lv_at hl 6 rfl) ?_
                        obtain ⟨r23, hc23, hf⟩ := sp_hc hf
                        refine sp_callSi (rest := []) S hK hG hA hW (c_X10_bitsOf v20 hc23) (by decide) (va_cwS 1 S.2.2.2.2 gX10_units_X10_bitsOf rfl rfl rfl (by decide +kernel) (by decide)) (isC := []) rfl rfl rfl (WS' := sw_M a q5 fa tr la sl ce pn mn cl le ri lt nm nc nl nr nt at9 en9 de mm ma ne us lk sd sf nu gt gl tb sc su) rfl rfl hl.1 (Nat.le_of_ble_eq_true rfl) dX10_units_115 ⟨Nat.zero_le _, Nat.zero_le _⟩ rfl (fun H locs hW => ?_)
                        refine lv_iconst (v := 1) hx hb dX10_units_118 (by decide) ?_
                        refine lv_icmp_ne (tgt := 137) hx hb dX10_units_119 (by decide) (fun hc => ?_) (fun hc => ?_)
                        · have hf := sp_hf hf hc
                          exact hj17 _ _ _ _ _ hf hW (lv_sub hl [1, 2, 3, 4, 5] rfl)
                        · have hf := sp_ht hf hc
                          refine lv_iload_n hx hb dX10_units_122 rfl (lv_at hl 3 rfl) ?_
                          refine lv_iload hx hb dX10_units_123 (lv_at hl 0 rfl) ?_
                          refine lv_iand hx hb dX10_units_125 ?_
                          refine lv_if_ne (tgt := 137) hx hb dX10_units_126 (by decide) (fun hc => ?_) (fun hc => ?_)
                          · have hf := sp_hf hf hc
                            exact hj17 _ _ _ _ _ hf hW (lv_sub hl [1, 2, 3, 4, 5] rfl)
                          · have hf := sp_ht hf hc
                            refine lv_iload_n hx hb dX10_units_129 rfl (lv_at hl 3 rfl) ?_
                            refine lv_iload hx hb dX10_units_130 (lv_at hl 0 rfl) ?_
                            refine lv_ior hx hb dX10_units_132 ?_
                            obtain ⟨v24, ev24, hf⟩ := sp_hb hf
                            refine sp_topi ev24 ?_
                            refine lv_istore_n (lv' := [(3, .int v24), (8, .int x21), (0, .ref (a 0)), (1, .int p1), (4, .int y7), (5, .int y8), (7, .int v20)]) hx hb dX10_units_133 rfl hl (by decide) rfl (fun ls hl => ?_)
                            refine lv_iconst (v := 1) hx hb dX10_units_134 (by decide) ?_
                            refine lv_istore (lv' := [(4, .int (1 : Int32)), (3, .int v24), (8, .int x21), (0, .ref (a 0)), (1, .int p1), (5, .int y8), (7, .int v20)]) hx hb dX10_units_135 hl (by decide) rfl (fun ls hl => ?_)
                            exact hj17 _ _ _ _ _ hf hW (lv_sub hl [3, 4, 1, 0, 5] rfl)
                      refine lv_icmp_ge (tgt := 106) hx hb dX10_units_95 (by decide) (fun hc => ?_) (fun hc => ?_)
                      · have hf := sp_ht hf hc
                        refine lv_iload hx hb dX10_units_106 (lv_at hl 0 rfl) ?_
                        refine lv_bipush (v := 6) hx hb dX10_units_108 (by decide) ?_
                        refine lv_ishr hx hb dX10_units_110 ?_
                        exact hj22 _ _ _ _ hf hW (lv_sub hl [2, 3, 4, 5, 6, 0] rfl)
                      · have hf := sp_hf hf hc
                        refine lv_iload hx hb dX10_units_98 (lv_at hl 0 rfl) ?_
                        refine lv_bipush (v := 6) hx hb dX10_units_100 (by decide) ?_
                        refine lv_ishl hx hb dX10_units_102 ?_
                        refine lv_goto (tgt := 111) hx hb dX10_units_103 (by decide) ?_
                        exact hj22 _ _ _ _ hf hW (lv_sub hl [2, 3, 4, 5, 6, 0] rfl)
                    · have hf := sp_ht hf hc
                      refine lv_iconst (v := 1) hx hb dX10_units_89 (by decide) ?_
                      have q0 := Option.some.inj hf
                      subst q0
                      exact sp_iret S hr hlk hW hQ dX10_units_90
                  · have hf := sp_hf hf hc
                    refine lv_goto (tgt := 137) hx hb dX10_units_68 (by decide) ?_
                    exact hj17 _ _ _ _ _ hf hW (lv_sub hl [1, 2, 3, 4, 5] rfl)
            exact hlp36 _ _ _ _ _ _ _ hf hW (lv_sub hl [2, 3, 4, 1, 0] rfl)
      exact hlp25 _ _ _ _ _ _ hf hW (lv_sub hl [2, 3, 1, 0] rfl)
    · have hf := sp_ht hf hc
      refine lv_bipush (v := (-2)) hx hb dX10_units_17 (by decide) ?_
      have q0 := Option.some.inj hf
      subst q0
      exact sp_iret S hr hlk hW hQ dX10_units_19
  · have hf := sp_ht hf hc
    refine lv_iconst (v := (-1)) hx hb dX10_units_8 (by decide) ?_
    have q0 := Option.some.inj hf
    subst q0
    exact sp_iret S hr hlk hW hQ dX10_units_9
