def f_X6_keptOf_L73 (y6 : Int32) (k12 : Int32 → Option (Int32 × (Nat → Int32))) (c3 : Nat → Int32) (rec73 : (Int32 × Int32) → Option (Int32 × (Nat → Int32))) (s9 : Int32 × Int32) : Option (Int32 × (Nat → Int32)) := match s9 with
  | (y9, y10) => if y6 < y10 then (k12 y9) else (sp_ld c3 48 y10 (fun v15 => sp_bnd (fun (x16 : Int32) => sp_bnd (y10 + (1 : Int32)) (fun v18 => rec73 (x16, v18))) (fun k17 => if v15 < y6 then (k17 y9) else (sp_bnd (y9 + (1 : Int32)) (fun v19 => k17 v19)))))
theorem f_X6_keptOf_L73_eq {rec73 : (Int32 × Int32) → Option (Int32 × (Nat → Int32))} {y6 : Int32} {k12 : Int32 → Option (Int32 × (Nat → Int32))} {c3 : Nat → Int32} {y9 : Int32} {y10 : Int32} : f_X6_keptOf_L73 y6 k12 c3 rec73 (y9, y10) = (if y6 < y10 then (k12 y9) else (sp_ld c3 48 y10 (fun v15 => sp_bnd (fun (x16 : Int32) => sp_bnd (y10 + (1 : Int32)) (fun v18 => rec73 (x16, v18))) (fun k17 => if v15 < y6 then (k17 y9) else (sp_bnd (y9 + (1 : Int32)) (fun v19 => k17 v19)))))) := rfl
def f_X6_keptOf_L59 (ct2 : Int32) (k8 : Int32 → Option (Int32 × (Nat → Int32))) (c3 : Nat → Int32) (rec59 : (Int32 × Int32) → Option (Int32 × (Nat → Int32))) (s9 : Int32 × Int32) : Option (Int32 × (Nat → Int32)) := match s9 with
  | (y5, y6) => if ct2 ≤ y6 then (k8 y5) else (sp_bnd (fun (x11 : Int32) => sp_bnd (if y5 < x11 then x11 else y5) (fun v13 => sp_bnd (y6 + (1 : Int32)) (fun v14 => rec59 (v13, v14)))) (fun k12 => sp_lp (f_X6_keptOf_L73 y6 k12 c3) sp_F ((0 : Int32), (0 : Int32))))
theorem f_X6_keptOf_L59_eq {rec59 : (Int32 × Int32) → Option (Int32 × (Nat → Int32))} {ct2 : Int32} {k8 : Int32 → Option (Int32 × (Nat → Int32))} {c3 : Nat → Int32} {y5 : Int32} {y6 : Int32} : f_X6_keptOf_L59 ct2 k8 c3 rec59 (y5, y6) = (if ct2 ≤ y6 then (k8 y5) else (sp_bnd (fun (x11 : Int32) => sp_bnd (if y5 < x11 then x11 else y5) (fun v13 => sp_bnd (y6 + (1 : Int32)) (fun v14 => rec59 (v13, v14)))) (fun k12 => sp_lp (f_X6_keptOf_L73 y6 k12 c3) sp_F ((0 : Int32), (0 : Int32))))) := rfl
def f_X6_keptOf_L2 (ct2 : Int32) (k4 : (Nat → Int32) → Option (Int32 × (Nat → Int32))) (le2 : Nat → Int32) (ri2 : Nat → Int32) (rec2 : (Int32 × (Nat → Int32)) → Option (Int32 × (Nat → Int32))) (s9 : Int32 × (Nat → Int32)) : Option (Int32 × (Nat → Int32)) := match s9 with
  | (y1, c2) => if ct2 ≤ y1 then (k4 c2) else (sp_st c2 48 y1 y1 (fun c20 => Option.bind (f_X2_isGround y1 le2) (fun r21 => sp_bnd (fun (c22 : Nat → Int32) => sp_bnd (y1 + (1 : Int32)) (fun v24 => rec2 (v24, c22))) (fun k23 => if r21 = 0 then (sp_ld le2 48 y1 (fun v25 => sp_st c20 48 v25 y1 (fun c26 => sp_ld ri2 48 y1 (fun v27 => sp_st c26 48 v27 y1 (fun c28 => k23 c28))))) else (k23 c20)))))
theorem f_X6_keptOf_L2_eq {rec2 : (Int32 × (Nat → Int32)) → Option (Int32 × (Nat → Int32))} {ct2 : Int32} {k4 : (Nat → Int32) → Option (Int32 × (Nat → Int32))} {le2 : Nat → Int32} {ri2 : Nat → Int32} {y1 : Int32} {c2 : Nat → Int32} : f_X6_keptOf_L2 ct2 k4 le2 ri2 rec2 (y1, c2) = (if ct2 ≤ y1 then (k4 c2) else (sp_st c2 48 y1 y1 (fun c20 => Option.bind (f_X2_isGround y1 le2) (fun r21 => sp_bnd (fun (c22 : Nat → Int32) => sp_bnd (y1 + (1 : Int32)) (fun v24 => rec2 (v24, c22))) (fun k23 => if r21 = 0 then (sp_ld le2 48 y1 (fun v25 => sp_st c20 48 v25 y1 (fun c26 => sp_ld ri2 48 y1 (fun v27 => sp_st c26 48 v27 y1 (fun c28 => k23 c28))))) else (k23 c20)))))) := rfl
def f_X6_keptOf (lu : Nat → Int32) (le2 : Nat → Int32) (ri2 : Nat → Int32) (ct2 : Int32) : Option (Int32 × (Nat → Int32)) := sp_bnd (fun (c3 : Nat → Int32) => sp_bnd (fun (x7 : Int32) => some (x7, c3)) (fun k8 => sp_lp (f_X6_keptOf_L59 ct2 k8 c3) sp_F ((0 : Int32), (0 : Int32)))) (fun k4 => sp_lp (f_X6_keptOf_L2 ct2 k4 le2 ri2) sp_F ((0 : Int32), lu))
def rmX6_keptOf : Room := { frames := 1, cells := 0, slots := 0, locals := 21 }
set_option maxRecDepth 4000 in
theorem c_X6_keptOf {l : Launch} {D : va_G} {q5 : Nat → ClassId} (a : Nat → Nat) (d : Nat → Nat) (de : Nat → Int32) (lu : Nat → Int32) (cl2 : Nat → Int32) (le2 : Nat → Int32) (ri2 : Nat → Int32) (lt2 : Nat → Int32) (gr2 : Nat → Int32) (ct2 : Int32) (gc2 : Int32) {r' : Int32} {lu' : Nat → Int32} (hf : f_X6_keptOf lu le2 ri2 ct2 = some (r', lu')) : sp_Ci l yX6_keptOf wsX6_keptOf rmX6_keptOf D q5 0 [.ref (a 0), .ref (d 0)] (sw_Z a q5 de lu ++ (sw_P d q5 cl2 le2 ri2 lt2 gr2 ct2 gc2)) r' (sw_Z a q5 de lu' ++ (sw_P d q5 cl2 le2 ri2 lt2 gr2 ct2 gc2)) := by
  intro sz
  refine sp_of (cc := cX6_keptOf) (maxL := 6) (ret := some .int) (own := RX6) (Qc := sp_Qi D r' (sw_Z a q5 de lu' ++ (sw_P d q5 cl2 le2 ri2 lt2 gr2 ct2 gc2))) (by decide) rfl rfl (Nat.le_of_ble_eq_true rfl) ?_
  intro p e s m args below meth c A ls Q hQ S hr hlk hK hG hA hW hl
  have hx := S.1
  have hb := S.2.1
  unfold f_X6_keptOf at hf
  have inX2 : ∀ w ∈ u_ws RX2 TX2 7, w ∈ wsX6_keptOf := (fun _ h => List.mem_cons_of_mem _ (List.mem_append_left _ (List.mem_append_right _ h)))
  have inX6 : ∀ w ∈ u_ws RX6 TX6 2, w ∈ wsX6_keptOf := (fun _ h => List.mem_cons_of_mem _ (List.mem_append_right _ h))
  have lk1 := S.2.2.2.2 (Cond.fieldLink RX6 18 "ShortProofs$Proof" "count" "I") (List.mem_of_getElem? (i := 1) rfl)
  have lk2 := S.2.2.2.2 (Cond.methodLink RX6 33 Lib.Math.max.name) (List.mem_of_getElem? (i := 5) rfl)
  have lk3 := S.2.2.2.2 (Cond.static Lib.Math.max.name) (List.mem_of_getElem? (i := 6) rfl)
  have lk4 := S.2.2.2.2 (Cond.initialized "java/lang/Math") (List.mem_of_getElem? (i := 7) rfl)
  have lk5 := S.2.2.2.2 (Cond.code Lib.Math.max.name Lib.Math.max.code 2 (some .int)) (List.mem_of_getElem? (i := 8) rfl)
  have lk6 := S.2.2.2.2 (Cond.fieldLink RX6 15 "ShortProofs$Sizes" "lastUse" "[I") (List.mem_of_getElem? (i := 2) rfl)
  have lk7 := S.2.2.2.2 (Cond.fieldLink RX6 43 "ShortProofs$Proof" "lefts" "[I") (List.mem_of_getElem? (i := 3) rfl)
  have lk8 := S.2.2.2.2 (Cond.fieldLink RX6 46 "ShortProofs$Proof" "rights" "[I") (List.mem_of_getElem? (i := 4) rfl)
  refine lv_iconst (v := 0) hx hb dX6_keptOf_0 (by decide) ?_
  refine lv_istore_n (lv' := [(2, .int (0 : Int32)), (0, .ref (a 0)), (1, .ref (d 0))]) hx hb dX6_keptOf_1 rfl hl (by decide) rfl (fun ls hl => ?_)
  obtain ⟨k4, ek4, hf⟩ := sp_hb hf
  have hj4 : ∀ (c3 : Nat → Int32) (H : Heap) (locs : List Loc) (ls : Array Slot), k4 c3 = some (r', lu') → sp_wd D A s.heap (sw_Z a q5 de c3 ++ (sw_P d q5 cl2 le2 ri2 lt2 gr2 ct2 gc2)) H locs → lv_has ls 6 [(0, .ref (a 0)), (1, .ref (d 0))] → W p l e rmX6_keptOf s m args below meth c H locs 0 0 Q (F0 m 55 ls []) := by
    intro c3 H locs ls hf hW hl
    rw [ek4] at hf
    refine lv_iconst (v := 0) hx hb dX6_keptOf_55 (by decide) ?_
    refine lv_istore_n (lv' := [(2, .int (0 : Int32)), (0, .ref (a 0)), (1, .ref (d 0))]) hx hb dX6_keptOf_56 rfl hl (by decide) rfl (fun ls hl => ?_)
    refine lv_iconst (v := 0) hx hb dX6_keptOf_57 (by decide) ?_
    refine lv_istore_n (lv' := [(3, .int (0 : Int32)), (2, .int (0 : Int32)), (0, .ref (a 0)), (1, .ref (d 0))]) hx hb dX6_keptOf_58 rfl hl (by decide) rfl (fun ls hl => ?_)
    obtain ⟨k8, ek8, hf⟩ := sp_hb hf
    have hj8 : ∀ (x7 : Int32) (H : Heap) (locs : List Loc) (ls : Array Slot), k8 x7 = some (r', lu') → sp_wd D A s.heap (sw_Z a q5 de c3 ++ (sw_P d q5 cl2 le2 ri2 lt2 gr2 ct2 gc2)) H locs → lv_has ls 6 [(2, .int x7)] → W p l e rmX6_keptOf s m args below meth c H locs 0 0 Q (F0 m 112 ls []) := by
      intro x7 H locs ls hf hW hl
      rw [ek8] at hf
      refine lv_iload_n hx hb dX6_keptOf_112 rfl (lv_at hl 0 rfl) ?_
      cases hf
      exact sp_iret S hr hlk hW hQ dX6_keptOf_113
    have hlp59 : ∀ (n9 : Nat) (y5 : Int32) (y6 : Int32) (H : Heap) (locs : List Loc) (ls : Array Slot), sp_lp (f_X6_keptOf_L59 ct2 k8 c3) n9 (y5, y6) = some (r', lu') → sp_wd D A s.heap (sw_Z a q5 de c3 ++ (sw_P d q5 cl2 le2 ri2 lt2 gr2 ct2 gc2)) H locs → lv_has ls 6 [(0, .ref (a 0)), (1, .ref (d 0)), (2, .int y5), (3, .int y6)] → W p l e rmX6_keptOf s m args below meth c H locs 0 0 Q (F0 m 59 ls []) := by
      intro n9
      induction n9 with
      | zero =>
        intro y5 y6 H locs ls hf hW hl
        exact (sp_lp0 hf).elim
      | succ n9 ih59 =>
        intro y5 y6 H locs ls hf hW hl
        have hf := sp_lpS hf
        rw [f_X6_keptOf_L59_eq] at hf
        refine lv_iload_n hx hb dX6_keptOf_59 rfl (lv_at hl 3 rfl) ?_
        refine lv_aload_n hx hb dX6_keptOf_60 rfl (lv_at hl 1 rfl) ?_
        refine sp_get S hK hW inX2 3 rfl rfl 5 (by decide) lk1 rfl dX6_keptOf_61 ?_
        refine lv_icmp_ge (tgt := 112) hx hb dX6_keptOf_64 (by decide) (fun hc => ?_) (fun hc => ?_)
        · have hf := sp_ht hf hc
          exact hj8 _ _ _ _ hf hW (lv_sub hl [2] rfl)
        · have hf := sp_hf hf hc
          refine lv_iconst (v := 0) hx hb dX6_keptOf_67 (by decide) ?_
          refine lv_istore (lv' := [(4, .int (0 : Int32)), (0, .ref (a 0)), (1, .ref (d 0)), (2, .int y5), (3, .int y6)]) hx hb dX6_keptOf_68 hl (by decide) rfl (fun ls hl => ?_)
          refine lv_iconst (v := 0) hx hb dX6_keptOf_70 (by decide) ?_
          refine lv_istore (lv' := [(5, .int (0 : Int32)), (4, .int (0 : Int32)), (0, .ref (a 0)), (1, .ref (d 0)), (2, .int y5), (3, .int y6)]) hx hb dX6_keptOf_71 hl (by decide) rfl (fun ls hl => ?_)
          obtain ⟨k12, ek12, hf⟩ := sp_hb hf
          have hj12 : ∀ (x11 : Int32) (H : Heap) (locs : List Loc) (ls : Array Slot), k12 x11 = some (r', lu') → sp_wd D A s.heap (sw_Z a q5 de c3 ++ (sw_P d q5 cl2 le2 ri2 lt2 gr2 ct2 gc2)) H locs → lv_has ls 6 [(0, .ref (a 0)), (1, .ref (d 0)), (2, .int y5), (3, .int y6), (4, .int x11)] → W p l e rmX6_keptOf s m args below meth c H locs 0 0 Q (F0 m 99 ls []) := by
            intro x11 H locs ls hf hW hl
            rw [ek12] at hf
            refine lv_iload_n hx hb dX6_keptOf_99 rfl (lv_at hl 2 rfl) ?_
            refine lv_iload hx hb dX6_keptOf_100 (lv_at hl 4 rfl) ?_
            refine sp_mmax S hl.1 lk2 lk3 lk4 lk5 (by decide) (Nat.le_of_ble_eq_true rfl) (Nat.zero_le _) (Nat.zero_le _) dX6_keptOf_102 ?_
            obtain ⟨v13, ev13, hf⟩ := sp_hb hf
            refine sp_topi ev13 ?_
            refine lv_istore_n (lv' := [(2, .int v13), (0, .ref (a 0)), (1, .ref (d 0)), (3, .int y6), (4, .int x11)]) hx hb dX6_keptOf_105 rfl hl (by decide) rfl (fun ls hl => ?_)
            obtain ⟨v14, ev14, hf⟩ := sp_hb hf
            refine lv_iinc (v := v14) (lv' := [(3, .int v14), (2, .int v13), (0, .ref (a 0)), (1, .ref (d 0)), (4, .int x11)]) hx hb dX6_keptOf_106 hl (k := 3) rfl (by rw [ev14]; rfl) (by decide) rfl (fun ls hl => ?_)
            refine lv_goto (tgt := 59) hx hb dX6_keptOf_109 (by decide) ?_
            exact ih59 _ _ _ _ _ hf hW (lv_sub hl [2, 3, 1, 0] rfl)
          have hlp73 : ∀ (n9 : Nat) (y9 : Int32) (y10 : Int32) (H : Heap) (locs : List Loc) (ls : Array Slot), sp_lp (f_X6_keptOf_L73 y6 k12 c3) n9 (y9, y10) = some (r', lu') → sp_wd D A s.heap (sw_Z a q5 de c3 ++ (sw_P d q5 cl2 le2 ri2 lt2 gr2 ct2 gc2)) H locs → lv_has ls 6 [(0, .ref (a 0)), (1, .ref (d 0)), (2, .int y5), (3, .int y6), (4, .int y9), (5, .int y10)] → W p l e rmX6_keptOf s m args below meth c H locs 0 0 Q (F0 m 73 ls []) := by
            intro n9
            induction n9 with
            | zero =>
              intro y9 y10 H locs ls hf hW hl
              exact (sp_lp0 hf).elim
            | succ n9 ih73 =>
              intro y9 y10 H locs ls hf hW hl
              have hf := sp_lpS hf
              rw [f_X6_keptOf_L73_eq] at hf
              refine lv_iload hx hb dX6_keptOf_73 (lv_at hl 5 rfl) ?_
              refine lv_iload_n hx hb dX6_keptOf_75 rfl (lv_at hl 3 rfl) ?_
              refine lv_icmp_gt (tgt := 99) hx hb dX6_keptOf_76 (by decide) (fun hc => ?_) (fun hc => ?_)
              · have hf := sp_ht hf hc
                exact hj12 _ _ _ _ hf hW (lv_sub hl [0, 1, 2, 3, 4] rfl)
              · have hf := sp_hf hf hc
                refine lv_aload_n hx hb dX6_keptOf_79 rfl (lv_at hl 0 rfl) ?_
                refine sp_get S hK hW inX6 0 rfl rfl 1 (by decide) lk6 rfl dX6_keptOf_80 ?_
                refine lv_iload hx hb dX6_keptOf_83 (lv_at hl 5 rfl) ?_
                obtain ⟨hin, v15, ev15, hf⟩ := sp_hld hf
                refine sp_iald S hK hW 2 rfl hin ev15 dX6_keptOf_85 ?_
                refine lv_iload_n hx hb dX6_keptOf_86 rfl (lv_at hl 3 rfl) ?_
                obtain ⟨k17, ek17, hf⟩ := sp_hb hf
                have hj17 : ∀ (x16 : Int32) (H : Heap) (locs : List Loc) (ls : Array Slot), k17 x16 = some (r', lu') → sp_wd D A s.heap (sw_Z a q5 de c3 ++ (sw_P d q5 cl2 le2 ri2 lt2 gr2 ct2 gc2)) H locs → lv_has ls 6 [(0, .ref (a 0)), (1, .ref (d 0)), (2, .int y5), (3, .int y6), (4, .int x16), (5, .int y10)] → W p l e rmX6_keptOf s m args below meth c H locs 0 0 Q (F0 m 93 ls []) := by
                  intro x16 H locs ls hf hW hl
                  rw [ek17] at hf
                  obtain ⟨v18, ev18, hf⟩ := sp_hb hf
                  refine lv_iinc (v := v18) (lv' := [(5, .int v18), (0, .ref (a 0)), (1, .ref (d 0)), (2, .int y5), (3, .int y6), (4, .int x16)]) hx hb dX6_keptOf_93 hl (k := 5) rfl (by rw [ev18]; rfl) (by decide) rfl (fun ls hl => ?_)
                  refine lv_goto (tgt := 73) hx hb dX6_keptOf_96 (by decide) ?_
                  exact ih73 _ _ _ _ _ hf hW (lv_sub hl [1, 2, 3, 4, 5, 0] rfl)
                refine lv_icmp_lt (tgt := 93) hx hb dX6_keptOf_87 (by decide) (fun hc => ?_) (fun hc => ?_)
                · have hf := sp_ht hf hc
                  exact hj17 _ _ _ _ hf hW (lv_sub hl [0, 1, 2, 3, 4, 5] rfl)
                · have hf := sp_hf hf hc
                  obtain ⟨v19, ev19, hf⟩ := sp_hb hf
                  refine lv_iinc (v := v19) (lv' := [(4, .int v19), (0, .ref (a 0)), (1, .ref (d 0)), (2, .int y5), (3, .int y6), (5, .int y10)]) hx hb dX6_keptOf_90 hl (k := 4) rfl (by rw [ev19]; rfl) (by decide) rfl (fun ls hl => ?_)
                  exact hj17 _ _ _ _ hf hW (lv_sub hl [1, 2, 3, 4, 0, 5] rfl)
          exact hlp73 _ _ _ _ _ _ hf hW (lv_sub hl [2, 3, 4, 5, 1, 0] rfl)
    exact hlp59 _ _ _ _ _ _ hf hW (lv_sub hl [2, 3, 1, 0] rfl)
  have hlp2 : ∀ (n9 : Nat) (y1 : Int32) (c2 : Nat → Int32) (H : Heap) (locs : List Loc) (ls : Array Slot), sp_lp (f_X6_keptOf_L2 ct2 k4 le2 ri2) n9 (y1, c2) = some (r', lu') → sp_wd D A s.heap (sw_Z a q5 de c2 ++ (sw_P d q5 cl2 le2 ri2 lt2 gr2 ct2 gc2)) H locs → lv_has ls 6 [(0, .ref (a 0)), (1, .ref (d 0)), (2, .int y1)] → W p l e rmX6_keptOf s m args below meth c H locs 0 0 Q (F0 m 2 ls []) := by
    intro n9
    induction n9 with
    | zero =>
      intro y1 c2 H locs ls hf hW hl
      exact (sp_lp0 hf).elim
    | succ n9 ih2 =>
      intro y1 c2 H locs ls hf hW hl
      have hf := sp_lpS hf
      rw [f_X6_keptOf_L2_eq] at hf
      refine lv_iload_n hx hb dX6_keptOf_2 rfl (lv_at hl 2 rfl) ?_
      refine lv_aload_n hx hb dX6_keptOf_3 rfl (lv_at hl 1 rfl) ?_
      refine sp_get S hK hW inX2 3 rfl rfl 5 (by decide) lk1 rfl dX6_keptOf_4 ?_
      refine lv_icmp_ge (tgt := 55) hx hb dX6_keptOf_7 (by decide) (fun hc => ?_) (fun hc => ?_)
      · have hf := sp_ht hf hc
        exact hj4 _ _ _ _ hf hW (lv_sub hl [0, 1] rfl)
      · have hf := sp_hf hf hc
        refine lv_aload_n hx hb dX6_keptOf_10 rfl (lv_at hl 0 rfl) ?_
        refine sp_get S hK hW inX6 0 rfl rfl 1 (by decide) lk6 rfl dX6_keptOf_11 ?_
        refine lv_iload_n hx hb dX6_keptOf_14 rfl (lv_at hl 2 rfl) ?_
        refine lv_iload_n hx hb dX6_keptOf_15 rfl (lv_at hl 2 rfl) ?_
        obtain ⟨hin, c20, ec20, hf⟩ := sp_hst hf
        refine sp_iast S hK hW 2 rfl hin ec20 (ws' := sw_Z a q5 de c20 ++ (sw_P d q5 cl2 le2 ri2 lt2 gr2 ct2 gc2)) rfl dX6_keptOf_16 (fun H locs hW => ?_)
        refine lv_aload_n hx hb dX6_keptOf_17 rfl (lv_at hl 1 rfl) ?_
        refine lv_iload_n hx hb dX6_keptOf_18 rfl (lv_at hl 2 rfl) ?_
        obtain ⟨r21, hc21, hf⟩ := sp_hc hf
        refine sp_callViP (rest := []) S hK hG hA hW (c_X2_isGround d cl2 le2 ri2 lt2 gr2 ct2 gc2 y1 hc21) (by decide) (cwV 1 S.2.2.2.2 gX6_keptOf_X2_isGround rfl rfl rfl (by decide +kernel) (by decide)) 1 3 rfl rfl (sp_pq [sw_Z a q5 de c20, sw_P d q5 cl2 le2 ri2 lt2 gr2 ct2 gc2] [0, 1] [1] [0] (by decide)) rfl (WS' := sw_Z a q5 de c20 ++ (sw_P d q5 cl2 le2 ri2 lt2 gr2 ct2 gc2)) (sp_pq' [sw_Z a q5 de c20, sw_P d q5 cl2 le2 ri2 lt2 gr2 ct2 gc2] [0, 1] [1] [0] (by decide)) rfl hl.1 (Nat.le_of_ble_eq_true rfl) dX6_keptOf_19 ⟨Nat.zero_le _, Nat.zero_le _⟩ rfl (fun H locs hW => ?_)
        obtain ⟨k23, ek23, hf⟩ := sp_hb hf
        have hj23 : ∀ (c22 : Nat → Int32) (H : Heap) (locs : List Loc) (ls : Array Slot), k23 c22 = some (r', lu') → sp_wd D A s.heap (sw_Z a q5 de c22 ++ (sw_P d q5 cl2 le2 ri2 lt2 gr2 ct2 gc2)) H locs → lv_has ls 6 [(0, .ref (a 0)), (1, .ref (d 0)), (2, .int y1)] → W p l e rmX6_keptOf s m args below meth c H locs 0 0 Q (F0 m 49 ls []) := by
          intro c22 H locs ls hf hW hl
          rw [ek23] at hf
          obtain ⟨v24, ev24, hf⟩ := sp_hb hf
          refine lv_iinc (v := v24) (lv' := [(2, .int v24), (0, .ref (a 0)), (1, .ref (d 0))]) hx hb dX6_keptOf_49 hl (k := 2) rfl (by rw [ev24]; rfl) (by decide) rfl (fun ls hl => ?_)
          refine lv_goto (tgt := 2) hx hb dX6_keptOf_52 (by decide) ?_
          exact ih2 _ _ _ _ _ hf hW (lv_sub hl [1, 2, 0] rfl)
        refine lv_if_ne (tgt := 49) hx hb dX6_keptOf_22 (by decide) (fun hc => ?_) (fun hc => ?_)
        · have hf := sp_hf hf hc
          exact hj23 _ _ _ _ hf hW (lv_sub hl [0, 1, 2] rfl)
        · have hf := sp_ht hf hc
          refine lv_aload_n hx hb dX6_keptOf_25 rfl (lv_at hl 0 rfl) ?_
          refine sp_get S hK hW inX6 0 rfl rfl 1 (by decide) lk6 rfl dX6_keptOf_26 ?_
          refine lv_aload_n hx hb dX6_keptOf_29 rfl (lv_at hl 1 rfl) ?_
          refine sp_get S hK hW inX2 3 rfl rfl 1 (by decide) lk7 rfl dX6_keptOf_30 ?_
          refine lv_iload_n hx hb dX6_keptOf_33 rfl (lv_at hl 2 rfl) ?_
          obtain ⟨hin, v25, ev25, hf⟩ := sp_hld hf
          refine sp_iald S hK hW 5 rfl hin ev25 dX6_keptOf_34 ?_
          refine lv_iload_n hx hb dX6_keptOf_35 rfl (lv_at hl 2 rfl) ?_
          obtain ⟨hin, c26, ec26, hf⟩ := sp_hst hf
          refine sp_iast S hK hW 2 rfl hin ec26 (ws' := sw_Z a q5 de c26 ++ (sw_P d q5 cl2 le2 ri2 lt2 gr2 ct2 gc2)) rfl dX6_keptOf_36 (fun H locs hW => ?_)
          refine lv_aload_n hx hb dX6_keptOf_37 rfl (lv_at hl 0 rfl) ?_
          refine sp_get S hK hW inX6 0 rfl rfl 1 (by decide) lk6 rfl dX6_keptOf_38 ?_
          refine lv_aload_n hx hb dX6_keptOf_41 rfl (lv_at hl 1 rfl) ?_
          refine sp_get S hK hW inX2 3 rfl rfl 2 (by decide) lk8 rfl dX6_keptOf_42 ?_
          refine lv_iload_n hx hb dX6_keptOf_45 rfl (lv_at hl 2 rfl) ?_
          obtain ⟨hin, v27, ev27, hf⟩ := sp_hld hf
          refine sp_iald S hK hW 6 rfl hin ev27 dX6_keptOf_46 ?_
          refine lv_iload_n hx hb dX6_keptOf_47 rfl (lv_at hl 2 rfl) ?_
          obtain ⟨hin, c28, ec28, hf⟩ := sp_hst hf
          refine sp_iast S hK hW 2 rfl hin ec28 (ws' := sw_Z a q5 de c28 ++ (sw_P d q5 cl2 le2 ri2 lt2 gr2 ct2 gc2)) rfl dX6_keptOf_48 (fun H locs hW => ?_)
          exact hj23 _ _ _ _ hf hW (lv_sub hl [0, 1, 2] rfl)
  exact hlp2 _ _ _ _ _ _ hf hW (lv_sub hl [1, 2, 0] rfl)
