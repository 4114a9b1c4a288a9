def f_X1_linkTo_L2 (p2 : Int32) (k6 : (Nat → Int32) → (Nat → Int32) → Option ((Nat → Int32) × (Nat → Int32))) (li : Nat → Int32) (le2 : Nat → Int32) (ri2 : Nat → Int32) (rec2 : (Int32 × (Nat → Int32) × (Nat → Int32)) → Option ((Nat → Int32) × (Nat → Int32))) (s9 : Int32 × (Nat → Int32) × (Nat → Int32)) : Option ((Nat → Int32) × (Nat → Int32)) := match s9 with
  | (y1, c2, c3) => if p2 ≤ y1 then (k6 c2 c3) else (sp_ld li 12 p2 (fun v7 => sp_ld li 12 y1 (fun v8 => Option.bind (f_X2_isCutFrom v7 v8 le2 ri2) (fun r9 => sp_bnd (fun (c10 : Nat → Int32) (c11 : Nat → Int32) => sp_bnd (y1 + (1 : Int32)) (fun v13 => rec2 (v13, c10, c11))) (fun k12 => if r9 = 0 then (k12 c2 c3) else (sp_ld c2 12 p2 (fun v14 => sp_st c2 12 p2 (v14 ||| ((1 : Int32) <<< (y1 &&& 31))) (fun c15 => sp_ld c3 12 y1 (fun v16 => sp_st c3 12 y1 (v16 ||| ((1 : Int32) <<< (p2 &&& 31))) (fun c17 => k12 c15 c17))))))))))
theorem f_X1_linkTo_L2_eq {rec2 : (Int32 × (Nat → Int32) × (Nat → Int32)) → Option ((Nat → Int32) × (Nat → Int32))} {p2 : Int32} {k6 : (Nat → Int32) → (Nat → Int32) → Option ((Nat → Int32) × (Nat → Int32))} {li : Nat → Int32} {le2 : Nat → Int32} {ri2 : Nat → Int32} {y1 : Int32} {c2 : Nat → Int32} {c3 : Nat → Int32} : f_X1_linkTo_L2 p2 k6 li le2 ri2 rec2 (y1, c2, c3) = (if p2 ≤ y1 then (k6 c2 c3) else (sp_ld li 12 p2 (fun v7 => sp_ld li 12 y1 (fun v8 => Option.bind (f_X2_isCutFrom v7 v8 le2 ri2) (fun r9 => sp_bnd (fun (c10 : Nat → Int32) (c11 : Nat → Int32) => sp_bnd (y1 + (1 : Int32)) (fun v13 => rec2 (v13, c10, c11))) (fun k12 => if r9 = 0 then (k12 c2 c3) else (sp_ld c2 12 p2 (fun v14 => sp_st c2 12 p2 (v14 ||| ((1 : Int32) <<< (y1 &&& 31))) (fun c15 => sp_ld c3 12 y1 (fun v16 => sp_st c3 12 y1 (v16 ||| ((1 : Int32) <<< (p2 &&& 31))) (fun c17 => k12 c15 c17))))))))))) := rfl
def f_X1_linkTo (p2 : Int32) (li : Nat → Int32) (ne : Nat → Int32) (us : Nat → Int32) (le2 : Nat → Int32) (ri2 : Nat → Int32) : Option ((Nat → Int32) × (Nat → Int32)) := sp_bnd (fun (c4 : Nat → Int32) (c5 : Nat → Int32) => some (c4, c5)) (fun k6 => sp_lp (f_X1_linkTo_L2 p2 k6 li le2 ri2) sp_F ((0 : Int32), ne, us))
def rmX1_linkTo : Room := { frames := 2, cells := 0, slots := 0, locals := 43 }
set_option maxRecDepth 4000 in
theorem c_X1_linkTo {l : Launch} {D : va_G} {q5 : Nat → ClassId} (a : Nat → Nat) (d : Nat → Nat) (ro : Nat → Int32) (mn : Int32) (ls9 : Int32) (li : Nat → Int32) (ne : Nat → Int32) (us : Nat → Int32) (ah : Nat → Int32) (cl2 : Nat → Int32) (le2 : Nat → Int32) (ri2 : Nat → Int32) (lt2 : Nat → Int32) (gr2 : Nat → Int32) (ct2 : Int32) (gc2 : Int32) (p2 : Int32) {ne' : Nat → Int32} {us' : Nat → Int32} (hf : f_X1_linkTo p2 li ne us le2 ri2 = some (ne', us')) : sp_Cv l yX1_linkTo wsX1_linkTo rmX1_linkTo D q5 0 [.ref (a 0), .ref (d 0), .int p2] (sw_O a q5 ro mn ls9 li ne us ah ++ (sw_P d q5 cl2 le2 ri2 lt2 gr2 ct2 gc2)) (sw_O a q5 ro mn ls9 li ne' us' ah ++ (sw_P d q5 cl2 le2 ri2 lt2 gr2 ct2 gc2)) := by
  intro sz
  refine sp_of (cc := cX1_linkTo) (maxL := 4) (ret := none) (own := RX1) (Qc := sp_Qv D (sw_O a q5 ro mn ls9 li ne' us' ah ++ (sw_P d q5 cl2 le2 ri2 lt2 gr2 ct2 gc2))) (by decide) rfl rfl (Nat.le_of_ble_eq_true rfl) ?_
  intro p e s m args below meth c A ls Q hQ S hr hlk hK hG hA hW hl
  have hx := S.1
  have hb := S.2.1
  unfold f_X1_linkTo at hf
  have inX1 : ∀ w ∈ u_ws RX1 TX1 7, w ∈ wsX1_linkTo := (fun _ h => List.mem_cons_of_mem _ (List.mem_append_left _ (List.mem_append_right _ h)))
  have lk1 := S.2.2.2.2 (Cond.fieldLink RX1 15 "ShortProofs$Order" "lines" "[I") (List.mem_of_getElem? (i := 1) rfl)
  have lk2 := S.2.2.2.2 (Cond.fieldLink RX1 18 "ShortProofs$Order" "needs" "[I") (List.mem_of_getElem? (i := 2) rfl)
  have lk3 := S.2.2.2.2 (Cond.fieldLink RX1 21 "ShortProofs$Order" "uses" "[I") (List.mem_of_getElem? (i := 3) rfl)
  refine lv_iconst (v := 0) hx hb dX1_linkTo_0 (by decide) ?_
  refine lv_istore_n (lv' := [(3, .int (0 : Int32)), (0, .ref (a 0)), (1, .ref (d 0)), (2, .int p2)]) hx hb dX1_linkTo_1 rfl hl (by decide) rfl (fun ls hl => ?_)
  obtain ⟨k6, ek6, hf⟩ := sp_hb hf
  have hj6 : ∀ (c4 : Nat → Int32) (c5 : Nat → Int32) (H : Heap) (locs : List Loc) (ls : Array Slot), k6 c4 c5 = some (ne', us') → sp_wd D A s.heap (sw_O a q5 ro mn ls9 li c4 c5 ah ++ (sw_P d q5 cl2 le2 ri2 lt2 gr2 ct2 gc2)) H locs → lv_has ls 4 [] → W p l e rmX1_linkTo s m args below meth c H locs 0 0 Q (F0 m 56 ls []) := by
    intro c4 c5 H locs ls hf hW hl
    rw [ek6] at hf
    cases hf
    exact sp_vret S hr hlk hW hQ dX1_linkTo_56
  have hlp2 : ∀ (n9 : Nat) (y1 : Int32) (c2 : Nat → Int32) (c3 : Nat → Int32) (H : Heap) (locs : List Loc) (ls : Array Slot), sp_lp (f_X1_linkTo_L2 p2 k6 li le2 ri2) n9 (y1, c2, c3) = some (ne', us') → sp_wd D A s.heap (sw_O a q5 ro mn ls9 li c2 c3 ah ++ (sw_P d q5 cl2 le2 ri2 lt2 gr2 ct2 gc2)) H locs → lv_has ls 4 [(0, .ref (a 0)), (1, .ref (d 0)), (2, .int p2), (3, .int y1)] → W p l e rmX1_linkTo s m args below meth c H locs 0 0 Q (F0 m 2 ls []) := by
    intro n9
    induction n9 with
    | zero =>
      intro y1 c2 c3 H locs ls hf hW hl
      exact (sp_lp0 hf).elim
    | succ n9 ih2 =>
      intro y1 c2 c3 H locs ls hf hW hl
      have hf := sp_lpS hf
      rw [f_X1_linkTo_L2_eq] at hf
      refine lv_iload_n hx hb dX1_linkTo_2 rfl (lv_at hl 3 rfl) ?_
      refine lv_iload_n hx hb dX1_linkTo_3 rfl (lv_at hl 2 rfl) ?_
      refine lv_icmp_ge (tgt := 56) hx hb dX1_linkTo_4 (by decide) (fun hc => ?_) (fun hc => ?_)
      · have hf := sp_ht hf hc
        exact hj6 _ _ _ _ _ hf hW (lv_sub hl [] rfl)
      · have hf := sp_hf hf hc
        refine lv_aload_n hx hb dX1_linkTo_7 rfl (lv_at hl 1 rfl) ?_
        refine lv_aload_n hx hb dX1_linkTo_8 rfl (lv_at hl 0 rfl) ?_
        refine sp_get S hK hW inX1 0 rfl rfl 3 (by decide) lk1 rfl dX1_linkTo_9 ?_
        refine lv_iload_n hx hb dX1_linkTo_12 rfl (lv_at hl 2 rfl) ?_
        obtain ⟨hin, v7, ev7, hf⟩ := sp_hld hf
        refine sp_iald S hK hW 2 rfl hin ev7 dX1_linkTo_13 ?_
        refine lv_aload_n hx hb dX1_linkTo_14 rfl (lv_at hl 0 rfl) ?_
        refine sp_get S hK hW inX1 0 rfl rfl 3 (by decide) lk1 rfl dX1_linkTo_15 ?_
        refine lv_iload_n hx hb dX1_linkTo_18 rfl (lv_at hl 3 rfl) ?_
        obtain ⟨hin, v8, ev8, hf⟩ := sp_hld hf
        refine sp_iald S hK hW 2 rfl hin ev8 dX1_linkTo_19 ?_
        obtain ⟨r9, hc9, hf⟩ := sp_hc hf
        refine sp_callViP (rest := []) S hK hG hA hW (c_X2_isCutFrom d cl2 le2 ri2 lt2 gr2 ct2 gc2 v7 v8 hc9) (by decide) (cwV 2 S.2.2.2.2 gX1_linkTo_X2_isCutFrom rfl rfl rfl (by decide +kernel) (by decide)) 1 6 rfl rfl (sp_pq [sw_O a q5 ro mn ls9 li c2 c3 ah, sw_P d q5 cl2 le2 ri2 lt2 gr2 ct2 gc2] [0, 1] [1] [0] (by decide)) rfl (WS' := sw_O a q5 ro mn ls9 li c2 c3 ah ++ (sw_P d q5 cl2 le2 ri2 lt2 gr2 ct2 gc2)) (sp_pq' [sw_O a q5 ro mn ls9 li c2 c3 ah, sw_P d q5 cl2 le2 ri2 lt2 gr2 ct2 gc2] [0, 1] [1] [0] (by decide)) rfl hl.1 (Nat.le_of_ble_eq_true rfl) dX1_linkTo_20 ⟨Nat.zero_le _, Nat.zero_le _⟩ rfl (fun H locs hW => ?_)
        obtain ⟨k12, ek12, hf⟩ := sp_hb hf
        have hj12 : ∀ (c10 : Nat → Int32) (c11 : Nat → Int32) (H : Heap) (locs : List Loc) (ls : Array Slot), k12 c10 c11 = some (ne', us') → sp_wd D A s.heap (sw_O a q5 ro mn ls9 li c10 c11 ah ++ (sw_P d q5 cl2 le2 ri2 lt2 gr2 ct2 gc2)) H locs → lv_has ls 4 [(0, .ref (a 0)), (1, .ref (d 0)), (2, .int p2), (3, .int y1)] → W p l e rmX1_linkTo s m args below meth c H locs 0 0 Q (F0 m 50 ls []) := by
          intro c10 c11 H locs ls hf hW hl
          rw [ek12] at hf
          obtain ⟨v13, ev13, hf⟩ := sp_hb hf
          refine lv_iinc (v := v13) (lv' := [(3, .int v13), (0, .ref (a 0)), (1, .ref (d 0)), (2, .int p2)]) hx hb dX1_linkTo_50 hl (k := 3) rfl (by rw [ev13]; rfl) (by decide) rfl (fun ls hl => ?_)
          refine lv_goto (tgt := 2) hx hb dX1_linkTo_53 (by decide) ?_
          exact ih2 _ _ _ _ _ _ hf hW (lv_sub hl [1, 2, 3, 0] rfl)
        refine lv_if_eq (tgt := 50) hx hb dX1_linkTo_23 (by decide) (fun hc => ?_) (fun hc => ?_)
        · have hf := sp_ht hf hc
          exact hj12 _ _ _ _ _ hf hW (lv_sub hl [0, 1, 2, 3] rfl)
        · have hf := sp_hf hf hc
          refine lv_aload_n hx hb dX1_linkTo_26 rfl (lv_at hl 0 rfl) ?_
          refine sp_get S hK hW inX1 0 rfl rfl 4 (by decide) lk2 rfl dX1_linkTo_27 ?_
          refine lv_iload_n hx hb dX1_linkTo_30 rfl (lv_at hl 2 rfl) ?_
          refine lv_dup2_11 hx hb dX1_linkTo_31 rfl rfl ?_
          obtain ⟨hin, v14, ev14, hf⟩ := sp_hld hf
          refine sp_iald S hK hW 3 rfl hin ev14 dX1_linkTo_32 ?_
          refine lv_iconst (v := 1) hx hb dX1_linkTo_33 (by decide) ?_
          refine lv_iload_n hx hb dX1_linkTo_34 rfl (lv_at hl 3 rfl) ?_
          refine lv_ishl hx hb dX1_linkTo_35 ?_
          refine lv_ior hx hb dX1_linkTo_36 ?_
          obtain ⟨hin, c15, ec15, hf⟩ := sp_hst hf
          refine sp_iast S hK hW 3 rfl hin ec15 (ws' := sw_O a q5 ro mn ls9 li c15 c3 ah ++ (sw_P d q5 cl2 le2 ri2 lt2 gr2 ct2 gc2)) rfl dX1_linkTo_37 (fun H locs hW => ?_)
          refine lv_aload_n hx hb dX1_linkTo_38 rfl (lv_at hl 0 rfl) ?_
          refine sp_get S hK hW inX1 0 rfl rfl 5 (by decide) lk3 rfl dX1_linkTo_39 ?_
          refine lv_iload_n hx hb dX1_linkTo_42 rfl (lv_at hl 3 rfl) ?_
          refine lv_dup2_11 hx hb dX1_linkTo_43 rfl rfl ?_
          obtain ⟨hin, v16, ev16, hf⟩ := sp_hld hf
          refine sp_iald S hK hW 4 rfl hin ev16 dX1_linkTo_44 ?_
          refine lv_iconst (v := 1) hx hb dX1_linkTo_45 (by decide) ?_
          refine lv_iload_n hx hb dX1_linkTo_46 rfl (lv_at hl 2 rfl) ?_
          refine lv_ishl hx hb dX1_linkTo_47 ?_
          refine lv_ior hx hb dX1_linkTo_48 ?_
          obtain ⟨hin, c17, ec17, hf⟩ := sp_hst hf
          refine sp_iast S hK hW 4 rfl hin ec17 (ws' := sw_O a q5 ro mn ls9 li c15 c17 ah ++ (sw_P d q5 cl2 le2 ri2 lt2 gr2 ct2 gc2)) rfl dX1_linkTo_49 (fun H locs hW => ?_)
          exact hj12 _ _ _ _ _ hf hW (lv_sub hl [0, 1, 2, 3] rfl)
  exact hlp2 _ _ _ _ _ _ _ hf hW (lv_sub hl [1, 2, 3, 0] rfl)

def f_X1_number_L13 (ct2 : Int32) (k11 : Int32 → (Nat → Int32) → (Nat → Int32) → (Nat → Int32) → Option (Int32 × (Nat → Int32) × (Nat → Int32) × (Nat → Int32))) (r1 : Int64) (le2 : Nat → Int32) (ri2 : Nat → Int32) (rec13 : (Int32 × Int32 × (Nat → Int32) × (Nat → Int32) × (Nat → Int32)) → Option (Int32 × (Nat → Int32) × (Nat → Int32) × (Nat → Int32))) (s9 : Int32 × Int32 × (Nat → Int32) × (Nat → Int32) × (Nat → Int32)) : Option (Int32 × (Nat → Int32) × (Nat → Int32) × (Nat → Int32)) := match s9 with
  | (y2, c3, c4, c5, c6) => if ct2 ≤ y2 then (k11 c3 c4 c5 c6) else (Option.bind (f_X9_isIn y2 r1) (fun r12 => sp_bnd (fun (c13 : Int32) (c14 : Nat → Int32) (c15 : Nat → Int32) (c16 : Nat → Int32) => sp_bnd (y2 + (1 : Int32)) (fun v18 => rec13 (v18, c13, c14, c15, c16))) (fun k17 => if r12 = 0 then (k17 c3 c4 c5 c6) else (if (12 : Int32) ≤ c3 then (k17 c3 c4 c5 c6) else (sp_st c4 12 c3 y2 (fun c19 => sp_st c5 12 c3 (0 : Int32) (fun c20 => sp_st c6 12 c3 (0 : Int32) (fun c21 => Option.bind (f_X1_linkTo c3 c19 c20 c21 le2 ri2) (fun q9 => match q9 with | (c22, c23) => sp_bnd (c3 + (1 : Int32)) (fun v24 => k17 v24 c19 c22 c23))))))))))
theorem f_X1_number_L13_eq {rec13 : (Int32 × Int32 × (Nat → Int32) × (Nat → Int32) × (Nat → Int32)) → Option (Int32 × (Nat → Int32) × (Nat → Int32) × (Nat → Int32))} {ct2 : Int32} {k11 : Int32 → (Nat → Int32) → (Nat → Int32) → (Nat → Int32) → Option (Int32 × (Nat → Int32) × (Nat → Int32) × (Nat → Int32))} {r1 : Int64} {le2 : Nat → Int32} {ri2 : Nat → Int32} {y2 : Int32} {c3 : Int32} {c4 : Nat → Int32} {c5 : Nat → Int32} {c6 : Nat → Int32} : f_X1_number_L13 ct2 k11 r1 le2 ri2 rec13 (y2, c3, c4, c5, c6) = (if ct2 ≤ y2 then (k11 c3 c4 c5 c6) else (Option.bind (f_X9_isIn y2 r1) (fun r12 => sp_bnd (fun (c13 : Int32) (c14 : Nat → Int32) (c15 : Nat → Int32) (c16 : Nat → Int32) => sp_bnd (y2 + (1 : Int32)) (fun v18 => rec13 (v18, c13, c14, c15, c16))) (fun k17 => if r12 = 0 then (k17 c3 c4 c5 c6) else (if (12 : Int32) ≤ c3 then (k17 c3 c4 c5 c6) else (sp_st c4 12 c3 y2 (fun c19 => sp_st c5 12 c3 (0 : Int32) (fun c20 => sp_st c6 12 c3 (0 : Int32) (fun c21 => Option.bind (f_X1_linkTo c3 c19 c20 c21 le2 ri2) (fun q9 => match q9 with | (c22, c23) => sp_bnd (c3 + (1 : Int32)) (fun v24 => k17 v24 c19 c22 c23))))))))))) := rfl
def f_X1_number (li : Nat → Int32) (ne : Nat → Int32) (us : Nat → Int32) (le2 : Nat → Int32) (ri2 : Nat → Int32) (ct2 : Int32) : Option (Int32 × (Nat → Int32) × (Nat → Int32) × (Nat → Int32)) := Option.bind (f_X2_restSet le2 ri2 ct2) (fun r1 => sp_bnd (fun (c7 : Int32) (c8 : Nat → Int32) (c9 : Nat → Int32) (c10 : Nat → Int32) => some (c7, c8, c9, c10)) (fun k11 => sp_lp (f_X1_number_L13 ct2 k11 r1 le2 ri2) sp_F ((0 : Int32), (0 : Int32), li, ne, us)))
def rmX1_number : Room := { frames := 3, cells := 0, slots := 0, locals := 66 }
set_option maxRecDepth 4000 in
theorem c_X1_number {l : Launch} {D : va_G} {q5 : Nat → ClassId} (a : Nat → Nat) (d : Nat → Nat) (ro : Nat → Int32) (mn : Int32) (ls9 : Int32) (li : Nat → Int32) (ne : Nat → Int32) (us : Nat → Int32) (ah : Nat → Int32) (cl2 : Nat → Int32) (le2 : Nat → Int32) (ri2 : Nat → Int32) (lt2 : Nat → Int32) (gr2 : Nat → Int32) (ct2 : Int32) (gc2 : Int32) {mn' : Int32} {li' : Nat → Int32} {ne' : Nat → Int32} {us' : Nat → Int32} (hf : f_X1_number li ne us le2 ri2 ct2 = some (mn', li', ne', us')) : sp_Cv l yX1_number wsX1_number rmX1_number D q5 1 [.ref (a 0), .ref (d 0)] (sw_O a q5 ro mn ls9 li ne us ah ++ (sw_P d q5 cl2 le2 ri2 lt2 gr2 ct2 gc2)) (sw_O a q5 ro mn' ls9 li' ne' us' ah ++ (sw_P d q5 cl2 le2 ri2 lt2 gr2 ct2 gc2)) := by
  intro sz
  refine sp_of (cc := cX1_number) (maxL := 5) (ret := none) (own := RX1) (Qc := sp_Qv D (sw_O a q5 ro mn' ls9 li' ne' us' ah ++ (sw_P d q5 cl2 le2 ri2 lt2 gr2 ct2 gc2))) (by decide) rfl rfl (Nat.le_of_ble_eq_true rfl) ?_
  intro p e s m args below meth c A ls Q hQ S hr hlk hK hG hA hW hl
  have hx := S.1
  have hb := S.2.1
  unfold f_X1_number at hf
  have inX1 : ∀ w ∈ u_ws RX1 TX1 7, w ∈ wsX1_number := (fun _ h => List.mem_cons_of_mem _ (List.mem_append_left _ (List.mem_append_right _ h)))
  have inX2 : ∀ w ∈ u_ws RX2 TX2 7, w ∈ wsX1_number := (fun _ h => List.mem_cons_of_mem _ (List.mem_append_right _ h))
  have lk1 := S.2.2.2.2 (Cond.fieldLink RX1 32 "ShortProofs$Order" "many" "I") (List.mem_of_getElem? (i := 1) rfl)
  have lk2 := S.2.2.2.2 (Cond.fieldLink RX1 61 "ShortProofs$Proof" "count" "I") (List.mem_of_getElem? (i := 2) rfl)
  have lk3 := S.2.2.2.2 (Cond.static yX9_isIn) (List.mem_of_getElem? (i := 18) rfl)
  have lk4 := S.2.2.2.2 (Cond.initialized RX9) (List.mem_of_getElem? (i := 19) rfl)
  have lk5 := S.2.2.2.2 (Cond.fieldLink RX1 15 "ShortProofs$Order" "lines" "[I") (List.mem_of_getElem? (i := 3) rfl)
  have lk6 := S.2.2.2.2 (Cond.fieldLink RX1 18 "ShortProofs$Order" "needs" "[I") (List.mem_of_getElem? (i := 4) rfl)
  have lk7 := S.2.2.2.2 (Cond.fieldLink RX1 21 "ShortProofs$Order" "uses" "[I") (List.mem_of_getElem? (i := 5) rfl)
  refine lv_aload_n hx hb dX1_number_0 rfl (lv_at hl 1 rfl) ?_
  obtain ⟨r1, hc1, hf⟩ := sp_hc hf
  refine sp_callVlP (rest := []) S hK hG hA hW (c_X2_restSet d cl2 le2 ri2 lt2 gr2 ct2 gc2 hc1) (by decide) (cwV 0 S.2.2.2.2 gX1_number_X2_restSet rfl rfl rfl (by decide +kernel) (by decide)) 1 6 rfl rfl (sp_pq [sw_O a q5 ro mn ls9 li ne us ah, sw_P d q5 cl2 le2 ri2 lt2 gr2 ct2 gc2] [0, 1] [1] [0] (by decide)) rfl (WS' := sw_O a q5 ro mn ls9 li ne us ah ++ (sw_P d q5 cl2 le2 ri2 lt2 gr2 ct2 gc2)) (sp_pq' [sw_O a q5 ro mn ls9 li ne us ah, sw_P d q5 cl2 le2 ri2 lt2 gr2 ct2 gc2] [0, 1] [1] [0] (by decide)) rfl hl.1 (Nat.le_of_ble_eq_true rfl) dX1_number_1 ⟨Nat.zero_le _, Nat.zero_le _⟩ rfl (fun H locs hW => ?_)
  refine lv_lstore_n (lv' := [(2, .long r1), (0, .ref (a 0)), (1, .ref (d 0))]) hx hb dX1_number_4 rfl hl (by decide) rfl (fun ls hl => ?_)
  refine lv_aload_n hx hb dX1_number_5 rfl (lv_at hl 1 rfl) ?_
  refine lv_iconst (v := 0) hx hb dX1_number_6 (by decide) ?_
  refine sp_put S hK hW inX1 tyX1_ok nmX1 0 rfl rfl 1 (by decide) lk1 rfl rfl rfl (Nat.le_of_ble_eq_true rfl) (ws' := sw_O a q5 ro (0 : Int32) ls9 li ne us ah ++ (sw_P d q5 cl2 le2 ri2 lt2 gr2 ct2 gc2)) rfl dX1_number_7 (fun H locs hW => ?_)
  refine lv_iconst (v := 0) hx hb dX1_number_10 (by decide) ?_
  refine lv_istore (lv' := [(4, .int (0 : Int32)), (2, .long r1), (0, .ref (a 0)), (1, .ref (d 0))]) hx hb dX1_number_11 hl (by decide) rfl (fun ls hl => ?_)
  obtain ⟨k11, ek11, hf⟩ := sp_hb hf
  have hj11 : ∀ (c7 : Int32) (c8 : Nat → Int32) (c9 : Nat → Int32) (c10 : Nat → Int32) (H : Heap) (locs : List Loc) (ls : Array Slot), k11 c7 c8 c9 c10 = some (mn', li', ne', us') → sp_wd D A s.heap (sw_O a q5 ro c7 ls9 c8 c9 c10 ah ++ (sw_P d q5 cl2 le2 ri2 lt2 gr2 ct2 gc2)) H locs → lv_has ls 5 [] → W p l e rmX1_number s m args below meth c H locs 0 0 Q (F0 m 96 ls []) := by
    intro c7 c8 c9 c10 H locs ls hf hW hl
    rw [ek11] at hf
    cases hf
    exact sp_vret S hr hlk hW hQ dX1_number_96
  have hlp13 : ∀ (n9 : Nat) (y2 : Int32) (c3 : Int32) (c4 : Nat → Int32) (c5 : Nat → Int32) (c6 : Nat → Int32) (H : Heap) (locs : List Loc) (ls : Array Slot), sp_lp (f_X1_number_L13 ct2 k11 r1 le2 ri2) n9 (y2, c3, c4, c5, c6) = some (mn', li', ne', us') → sp_wd D A s.heap (sw_O a q5 ro c3 ls9 c4 c5 c6 ah ++ (sw_P d q5 cl2 le2 ri2 lt2 gr2 ct2 gc2)) H locs → lv_has ls 5 [(0, .ref (a 0)), (1, .ref (d 0)), (2, .long r1), (4, .int y2)] → W p l e rmX1_number s m args below meth c H locs 0 0 Q (F0 m 13 ls []) := by
    intro n9
    induction n9 with
    | zero =>
      intro y2 c3 c4 c5 c6 H locs ls hf hW hl
      exact (sp_lp0 hf).elim
    | succ n9 ih13 =>
      intro y2 c3 c4 c5 c6 H locs ls hf hW hl
      have hf := sp_lpS hf
      rw [f_X1_number_L13_eq] at hf
      refine lv_iload hx hb dX1_number_13 (lv_at hl 3 rfl) ?_
      refine lv_aload_n hx hb dX1_number_15 rfl (lv_at hl 1 rfl) ?_
      refine sp_get S hK hW inX2 6 rfl rfl 5 (by decide) lk2 rfl dX1_number_16 ?_
      refine lv_icmp_ge (tgt := 96) hx hb dX1_number_19 (by decide) (fun hc => ?_) (fun hc => ?_)
      · have hf := sp_ht hf hc
        exact hj11 _ _ _ _ _ _ _ hf hW (lv_sub hl [] rfl)
      · have hf := sp_hf hf hc
        refine lv_iload hx hb dX1_number_22 (lv_at hl 3 rfl) ?_
        refine lv_lload_n hx hb dX1_number_24 rfl (lv_at hl 2 rfl) ?_
        obtain ⟨r12, hc12, hf⟩ := sp_hc hf
        refine sp_callNi (rest := []) (host := RX9) S hK hG hA hW (c_X9_isIn y2 r1 hc12) (by decide) ⟨va_cnB 2 S.2.2.2.2 gX1_number_X9_isIn_n64 rfl rfl rfl (hG.1 (by decide) _ (List.mem_of_getElem? (i := 7) rfl)) lk4 (by decide +kernel) (by decide), lk3, trivial⟩ (isC := []) rfl rfl rfl (WS' := sw_O a q5 ro c3 ls9 c4 c5 c6 ah ++ (sw_P d q5 cl2 le2 ri2 lt2 gr2 ct2 gc2)) rfl rfl hl.1 (Nat.le_of_ble_eq_true rfl) dX1_number_25 ⟨Nat.zero_le _, Nat.zero_le _⟩ rfl (fun H locs hW => ?_)
        obtain ⟨k17, ek17, hf⟩ := sp_hb hf
        have hj17 : ∀ (c13 : Int32) (c14 : Nat → Int32) (c15 : Nat → Int32) (c16 : Nat → Int32) (H : Heap) (locs : List Loc) (ls : Array Slot), k17 c13 c14 c15 c16 = some (mn', li', ne', us') → sp_wd D A s.heap (sw_O a q5 ro c13 ls9 c14 c15 c16 ah ++ (sw_P d q5 cl2 le2 ri2 lt2 gr2 ct2 gc2)) H locs → lv_has ls 5 [(0, .ref (a 0)), (1, .ref (d 0)), (2, .long r1), (4, .int y2)] → W p l e rmX1_number s m args below meth c H locs 0 0 Q (F0 m 90 ls []) := by
          intro c13 c14 c15 c16 H locs ls hf hW hl
          rw [ek17] at hf
          obtain ⟨v18, ev18, hf⟩ := sp_hb hf
          refine lv_iinc (v := v18) (lv' := [(4, .int v18), (0, .ref (a 0)), (1, .ref (d 0)), (2, .long r1)]) hx hb dX1_number_90 hl (k := 3) rfl (by rw [ev18]; rfl) (by decide) rfl (fun ls hl => ?_)
          refine lv_goto (tgt := 13) hx hb dX1_number_93 (by decide) ?_
          exact ih13 _ _ _ _ _ _ _ _ hf hW (lv_sub hl [1, 2, 3, 0] rfl)
        refine lv_if_eq (tgt := 90) hx hb dX1_number_28 (by decide) (fun hc => ?_) (fun hc => ?_)
        · have hf := sp_ht hf hc
          exact hj17 _ _ _ _ _ _ _ hf hW (lv_sub hl [0, 1, 2, 3] rfl)
        · have hf := sp_hf hf hc
          refine lv_aload_n hx hb dX1_number_31 rfl (lv_at hl 0 rfl) ?_
          refine sp_get S hK hW inX1 0 rfl rfl 1 (by decide) lk1 rfl dX1_number_32 ?_
          refine lv_bipush (v := 12) hx hb dX1_number_35 (by decide) ?_
          refine lv_icmp_ge (tgt := 90) hx hb dX1_number_37 (by decide) (fun hc => ?_) (fun hc => ?_)
          · have hf := sp_ht hf hc
            exact hj17 _ _ _ _ _ _ _ hf hW (lv_sub hl [0, 1, 2, 3] rfl)
          · have hf := sp_hf hf hc
            refine lv_aload_n hx hb dX1_number_40 rfl (lv_at hl 0 rfl) ?_
            refine sp_get S hK hW inX1 0 rfl rfl 3 (by decide) lk5 rfl dX1_number_41 ?_
            refine lv_aload_n hx hb dX1_number_44 rfl (lv_at hl 0 rfl) ?_
            refine sp_get S hK hW inX1 0 rfl rfl 1 (by decide) lk1 rfl dX1_number_45 ?_
            refine lv_iload hx hb dX1_number_48 (lv_at hl 3 rfl) ?_
            obtain ⟨hin, c19, ec19, hf⟩ := sp_hst hf
            refine sp_iast S hK hW 2 rfl hin ec19 (ws' := sw_O a q5 ro c3 ls9 c19 c5 c6 ah ++ (sw_P d q5 cl2 le2 ri2 lt2 gr2 ct2 gc2)) rfl dX1_number_50 (fun H locs hW => ?_)
            refine lv_aload_n hx hb dX1_number_51 rfl (lv_at hl 0 rfl) ?_
            refine sp_get S hK hW inX1 0 rfl rfl 4 (by decide) lk6 rfl dX1_number_52 ?_
            refine lv_aload_n hx hb dX1_number_55 rfl (lv_at hl 0 rfl) ?_
            refine sp_get S hK hW inX1 0 rfl rfl 1 (by decide) lk1 rfl dX1_number_56 ?_
            refine lv_iconst (v := 0) hx hb dX1_number_59 (by decide) ?_
            obtain ⟨hin, c20, ec20, hf⟩ := sp_hst hf
            refine sp_iast S hK hW 3 rfl hin ec20 (ws' := sw_O a q5 ro c3 ls9 c19 c20 c6 ah ++ (sw_P d q5 cl2 le2 ri2 lt2 gr2 ct2 gc2)) rfl dX1_number_60 (fun H locs hW => ?_)
            refine lv_aload_n hx hb dX1_number_61 rfl (lv_at hl 0 rfl) ?_
            refine sp_get S hK hW inX1 0 rfl rfl 5 (by decide) lk7 rfl dX1_number_62 ?_
            refine lv_aload_n hx hb dX1_number_65 rfl (lv_at hl 0 rfl) ?_
            refine sp_get S hK hW inX1 0 rfl rfl 1 (by decide) lk1 rfl dX1_number_66 ?_
            refine lv_iconst (v := 0) hx hb dX1_number_69 (by decide) ?_
            obtain ⟨hin, c21, ec21, hf⟩ := sp_hst hf
            refine sp_iast S hK hW 4 rfl hin ec21 (ws' := sw_O a q5 ro c3 ls9 c19 c20 c21 ah ++ (sw_P d q5 cl2 le2 ri2 lt2 gr2 ct2 gc2)) rfl dX1_number_70 (fun H locs hW => ?_)
            refine lv_aload_n hx hb dX1_number_71 rfl (lv_at hl 0 rfl) ?_
            refine lv_aload_n hx hb dX1_number_72 rfl (lv_at hl 1 rfl) ?_
            refine lv_aload_n hx hb dX1_number_73 rfl (lv_at hl 0 rfl) ?_
            refine sp_get S hK hW inX1 0 rfl rfl 1 (by decide) lk1 rfl dX1_number_74 ?_
            obtain ⟨⟨c22, c23⟩, hc23, hf⟩ := sp_hc hf
            refine sp_callVvP (rest := []) S hK hG hA hW (c_X1_linkTo a d ro c3 ls9 c19 c20 c21 ah cl2 le2 ri2 lt2 gr2 ct2 gc2 c3 hc23) (by decide) (cwV 2 S.2.2.2.2 gX1_number_X1_linkTo rfl rfl rfl (by decide +kernel) (by decide)) 0 0 rfl rfl (sp_pn _) rfl (WS' := sw_O a q5 ro c3 ls9 c19 c22 c23 ah ++ (sw_P d q5 cl2 le2 ri2 lt2 gr2 ct2 gc2)) (sp_pn' _) rfl hl.1 (Nat.le_of_ble_eq_true rfl) dX1_number_77 ⟨Nat.zero_le _, Nat.zero_le _⟩ rfl (fun H locs hW => ?_)
            refine lv_aload_n hx hb dX1_number_80 rfl (lv_at hl 0 rfl) ?_
            refine lv_dup hx hb dX1_number_81 rfl ?_
            refine sp_get S hK hW inX1 0 rfl rfl 1 (by decide) lk1 rfl dX1_number_82 ?_
            refine lv_iconst (v := 1) hx hb dX1_number_85 (by decide) ?_
            refine lv_iadd hx hb dX1_number_86 ?_
            obtain ⟨v24, ev24, hf⟩ := sp_hb hf
            refine sp_topi ev24 ?_
            refine sp_put S hK hW inX1 tyX1_ok nmX1 0 rfl rfl 1 (by decide) lk1 rfl rfl rfl (Nat.le_of_ble_eq_true rfl) (ws' := sw_O a q5 ro v24 ls9 c19 c22 c23 ah ++ (sw_P d q5 cl2 le2 ri2 lt2 gr2 ct2 gc2)) rfl dX1_number_87 (fun H locs hW => ?_)
            exact hj17 _ _ _ _ _ _ _ hf hW (lv_sub hl [0, 1, 2, 3] rfl)
  exact hlp13 _ _ _ _ _ _ _ _ _ hf hW (lv_sub hl [2, 3, 1, 0] rfl)

def f_X1_keptOf_L4 (mn : Int32) (k4 : Int32 → Option (Int32)) (p1 : Int32) (us : Nat → Int32) (rec4 : (Int32 × Int32) → Option (Int32)) (s9 : Int32 × Int32) : Option (Int32) := match s9 with
  | (y1, y2) => if mn ≤ y2 then (k4 y1) else (sp_bnd (fun (x5 : Int32) => sp_bnd (y2 + (1 : Int32)) (fun v7 => rec4 (x5, v7))) (fun k6 => if ((p1 >>> (y2 &&& 31)) &&& (1 : Int32)) = 0 then (k6 y1) else (sp_ld us 12 y2 (fun v8 => if (v8 &&& (p1 ^^^ (-1 : Int32))) = 0 then (k6 y1) else (sp_bnd (y1 + (1 : Int32)) (fun v9 => k6 v9))))))
theorem f_X1_keptOf_L4_eq {rec4 : (Int32 × Int32) → Option (Int32)} {mn : Int32} {k4 : Int32 → Option (Int32)} {p1 : Int32} {us : Nat → Int32} {y1 : Int32} {y2 : Int32} : f_X1_keptOf_L4 mn k4 p1 us rec4 (y1, y2) = (if mn ≤ y2 then (k4 y1) else (sp_bnd (fun (x5 : Int32) => sp_bnd (y2 + (1 : Int32)) (fun v7 => rec4 (x5, v7))) (fun k6 => if ((p1 >>> (y2 &&& 31)) &&& (1 : Int32)) = 0 then (k6 y1) else (sp_ld us 12 y2 (fun v8 => if (v8 &&& (p1 ^^^ (-1 : Int32))) = 0 then (k6 y1) else (sp_bnd (y1 + (1 : Int32)) (fun v9 => k6 v9))))))) := rfl
def f_X1_keptOf (p1 : Int32) (mn : Int32) (us : Nat → Int32) : Option (Int32) := sp_bnd (fun (x3 : Int32) => some x3) (fun k4 => sp_lp (f_X1_keptOf_L4 mn k4 p1 us) sp_F ((0 : Int32), (0 : Int32)))
def rmX1_keptOf : Room := { frames := 0, cells := 0, slots := 0, locals := 0 }
set_option maxRecDepth 4000 in
theorem c_X1_keptOf {l : Launch} {D : va_G} {q5 : Nat → ClassId} (a : Nat → Nat) (ro : Nat → Int32) (mn : Int32) (ls9 : Int32) (li : Nat → Int32) (ne : Nat → Int32) (us : Nat → Int32) (ah : Nat → Int32) (p1 : Int32) {r' : Int32} (hf : f_X1_keptOf p1 mn us = some r') : sp_Ci l yX1_keptOf wsX1_keptOf rmX1_keptOf D q5 0 [.ref (a 0), .int p1] (sw_O a q5 ro mn ls9 li ne us ah) r' (sw_O a q5 ro mn ls9 li ne us ah) := by
  intro sz
  refine sp_of (cc := cX1_keptOf) (maxL := 4) (ret := some .int) (own := RX1) (Qc := sp_Qi D r' (sw_O a q5 ro mn ls9 li ne us ah)) (by decide) rfl rfl (Nat.le_of_ble_eq_true rfl) ?_
  intro p e s m args below meth c A ls Q hQ S hr hlk hK hG hA hW hl
  have hx := S.1
  have hb := S.2.1
  unfold f_X1_keptOf at hf
  have inX1 : ∀ w ∈ u_ws RX1 TX1 7, w ∈ wsX1_keptOf := (fun _ h => List.mem_cons_of_mem _ (List.mem_append_right _ h))
  have lk1 := S.2.2.2.2 (Cond.fieldLink RX1 32 "ShortProofs$Order" "many" "I") (List.mem_of_getElem? (i := 1) rfl)
  have lk2 := S.2.2.2.2 (Cond.fieldLink RX1 21 "ShortProofs$Order" "uses" "[I") (List.mem_of_getElem? (i := 2) rfl)
  refine lv_iconst (v := 0) hx hb dX1_keptOf_0 (by decide) ?_
  refine lv_istore_n (lv' := [(2, .int (0 : Int32)), (0, .ref (a 0)), (1, .int p1)]) hx hb dX1_keptOf_1 rfl hl (by decide) rfl (fun ls hl => ?_)
  refine lv_iconst (v := 0) hx hb dX1_keptOf_2 (by decide) ?_
  refine lv_istore_n (lv' := [(3, .int (0 : Int32)), (2, .int (0 : Int32)), (0, .ref (a 0)), (1, .int p1)]) hx hb dX1_keptOf_3 rfl hl (by decide) rfl (fun ls hl => ?_)
  obtain ⟨k4, ek4, hf⟩ := sp_hb hf
  have hj4 : ∀ (x3 : Int32) (H : Heap) (locs : List Loc) (ls : Array Slot), k4 x3 = some r' → sp_wd D A s.heap (sw_O a q5 ro mn ls9 li ne us ah) H locs → lv_has ls 4 [(2, .int x3)] → W p l e rmX1_keptOf s m args below meth c H locs 0 0 Q (F0 m 42 ls []) := by
    intro x3 H locs ls hf hW hl
    rw [ek4] at hf
    refine lv_iload_n hx hb dX1_keptOf_42 rfl (lv_at hl 0 rfl) ?_
    cases hf
    exact sp_iret S hr hlk hW hQ dX1_keptOf_43
  have hlp4 : ∀ (n9 : Nat) (y1 : Int32) (y2 : Int32) (H : Heap) (locs : List Loc) (ls : Array Slot), sp_lp (f_X1_keptOf_L4 mn k4 p1 us) n9 (y1, y2) = some r' → sp_wd D A s.heap (sw_O a q5 ro mn ls9 li ne us ah) H locs → lv_has ls 4 [(0, .ref (a 0)), (1, .int p1), (2, .int y1), (3, .int y2)] → W p l e rmX1_keptOf s m args below meth c H locs 0 0 Q (F0 m 4 ls []) := by
    intro n9
    induction n9 with
    | zero =>
      intro y1 y2 H locs ls hf hW hl
      exact (sp_lp0 hf).elim
    | succ n9 ih4 =>
      intro y1 y2 H locs ls hf hW hl
      have hf := sp_lpS hf
      rw [f_X1_keptOf_L4_eq] at hf
      refine lv_iload_n hx hb dX1_keptOf_4 rfl (lv_at hl 3 rfl) ?_
      refine lv_aload_n hx hb dX1_keptOf_5 rfl (lv_at hl 0 rfl) ?_
      refine sp_get S hK hW inX1 0 rfl rfl 1 (by decide) lk1 rfl dX1_keptOf_6 ?_
      refine lv_icmp_ge (tgt := 42) hx hb dX1_keptOf_9 (by decide) (fun hc => ?_) (fun hc => ?_)
      · have hf := sp_ht hf hc
        exact hj4 _ _ _ _ hf hW (lv_sub hl [2] rfl)
      · have hf := sp_hf hf hc
        refine lv_iload_n hx hb dX1_keptOf_12 rfl (lv_at hl 1 rfl) ?_
        refine lv_iload_n hx hb dX1_keptOf_13 rfl (lv_at hl 3 rfl) ?_
        refine lv_ishr hx hb dX1_keptOf_14 ?_
        refine lv_iconst (v := 1) hx hb dX1_keptOf_15 (by decide) ?_
        refine lv_iand hx hb dX1_keptOf_16 ?_
        obtain ⟨k6, ek6, hf⟩ := sp_hb hf
        have hj6 : ∀ (x5 : Int32) (H : Heap) (locs : List Loc) (ls : Array Slot), k6 x5 = some r' → sp_wd D A s.heap (sw_O a q5 ro mn ls9 li ne us ah) H locs → lv_has ls 4 [(0, .ref (a 0)), (1, .int p1), (2, .int x5), (3, .int y2)] → W p l e rmX1_keptOf s m args below meth c H locs 0 0 Q (F0 m 36 ls []) := by
          intro x5 H locs ls hf hW hl
          rw [ek6] at hf
          obtain ⟨v7, ev7, hf⟩ := sp_hb hf
          refine lv_iinc (v := v7) (lv' := [(3, .int v7), (0, .ref (a 0)), (1, .int p1), (2, .int x5)]) hx hb dX1_keptOf_36 hl (k := 3) rfl (by rw [ev7]; rfl) (by decide) rfl (fun ls hl => ?_)
          refine lv_goto (tgt := 4) hx hb dX1_keptOf_39 (by decide) ?_
          exact ih4 _ _ _ _ _ hf hW (lv_sub hl [1, 2, 3, 0] rfl)
        refine lv_if_eq (tgt := 36) hx hb dX1_keptOf_17 (by decide) (fun hc => ?_) (fun hc => ?_)
        · have hf := sp_ht hf hc
          exact hj6 _ _ _ _ hf hW (lv_sub hl [0, 1, 2, 3] rfl)
        · have hf := sp_hf hf hc
          refine lv_aload_n hx hb dX1_keptOf_20 rfl (lv_at hl 0 rfl) ?_
          refine sp_get S hK hW inX1 0 rfl rfl 5 (by decide) lk2 rfl dX1_keptOf_21 ?_
          refine lv_iload_n hx hb dX1_keptOf_24 rfl (lv_at hl 3 rfl) ?_
          obtain ⟨hin, v8, ev8, hf⟩ := sp_hld hf
          refine sp_iald S hK hW 4 rfl hin ev8 dX1_keptOf_25 ?_
          refine lv_iload_n hx hb dX1_keptOf_26 rfl (lv_at hl 1 rfl) ?_
          refine lv_iconst (v := (-1)) hx hb dX1_keptOf_27 (by decide) ?_
          refine lv_ixor hx hb dX1_keptOf_28 ?_
          refine lv_iand hx hb dX1_keptOf_29 ?_
          refine lv_if_eq (tgt := 36) hx hb dX1_keptOf_30 (by decide) (fun hc => ?_) (fun hc => ?_)
          · have hf := sp_ht hf hc
            exact hj6 _ _ _ _ hf hW (lv_sub hl [0, 1, 2, 3] rfl)
          · have hf := sp_hf hf hc
            obtain ⟨v9, ev9, hf⟩ := sp_hb hf
            refine lv_iinc (v := v9) (lv' := [(2, .int v9), (0, .ref (a 0)), (1, .int p1), (3, .int y2)]) hx hb dX1_keptOf_33 hl (k := 2) rfl (by rw [ev9]; rfl) (by decide) rfl (fun ls hl => ?_)
            exact hj6 _ _ _ _ hf hW (lv_sub hl [1, 2, 0, 3] rfl)
  exact hlp4 _ _ _ _ _ _ hf hW (lv_sub hl [2, 3, 1, 0] rfl)

def f_X1_mayCome (p1 : Int32) (p2 : Int32) (ne : Nat → Int32) : Option (Int32) := if ((p2 >>> (p1 &&& 31)) &&& (1 : Int32)) = 0 then (sp_ld ne 12 p1 (fun v1 => if (v1 &&& (p2 ^^^ (-1 : Int32))) = 0 then (some (1 : Int32)) else (some (0 : Int32)))) else (some (0 : Int32))
def rmX1_mayCome : Room := { frames := 0, cells := 0, slots := 0, locals := 0 }
set_option maxRecDepth 4000 in
theorem c_X1_mayCome {l : Launch} {D : va_G} {q5 : Nat → ClassId} (a : Nat → Nat) (ro : Nat → Int32) (mn : Int32) (ls9 : Int32) (li : Nat → Int32) (ne : Nat → Int32) (us : Nat → Int32) (ah : Nat → Int32) (p1 : Int32) (p2 : Int32) {r' : Int32} (hf : f_X1_mayCome p1 p2 ne = some r') : sp_Ci l yX1_mayCome wsX1_mayCome rmX1_mayCome D q5 0 [.ref (a 0), .int p1, .int p2] (sw_O a q5 ro mn ls9 li ne us ah) r' (sw_O a q5 ro mn ls9 li ne us ah) := by
  intro sz
  refine sp_of (cc := cX1_mayCome) (maxL := 3) (ret := some .boolean) (own := RX1) (Qc := sp_Qi D r' (sw_O a q5 ro mn ls9 li ne us ah)) (by decide) rfl rfl (Nat.le_of_ble_eq_true rfl) ?_
  intro p e s m args below meth c A ls Q hQ S hr hlk hK hG hA hW hl
  have hx := S.1
  have hb := S.2.1
  unfold f_X1_mayCome at hf
  have inX1 : ∀ w ∈ u_ws RX1 TX1 7, w ∈ wsX1_mayCome := (fun _ h => List.mem_cons_of_mem _ (List.mem_append_right _ h))
  have lk1 := S.2.2.2.2 (Cond.fieldLink RX1 18 "ShortProofs$Order" "needs" "[I") (List.mem_of_getElem? (i := 1) rfl)
  refine lv_iload_n hx hb dX1_mayCome_0 rfl (lv_at hl 2 rfl) ?_
  refine lv_iload_n hx hb dX1_mayCome_1 rfl (lv_at hl 1 rfl) ?_
  refine lv_ishr hx hb dX1_mayCome_2 ?_
  refine lv_iconst (v := 1) hx hb dX1_mayCome_3 (by decide) ?_
  refine lv_iand hx hb dX1_mayCome_4 ?_
  refine lv_if_ne (tgt := 25) hx hb dX1_mayCome_5 (by decide) (fun hc => ?_) (fun hc => ?_)
  · have hf := sp_hf hf hc
    refine lv_iconst (v := 0) hx hb dX1_mayCome_25 (by decide) ?_
    cases hf
    exact sp_zret S hr hlk hW rfl hQ dX1_mayCome_26
  · have hf := sp_ht hf hc
    refine lv_aload_n hx hb dX1_mayCome_8 rfl (lv_at hl 0 rfl) ?_
    refine sp_get S hK hW inX1 0 rfl rfl 4 (by decide) lk1 rfl dX1_mayCome_9 ?_
    refine lv_iload_n hx hb dX1_mayCome_12 rfl (lv_at hl 1 rfl) ?_
    obtain ⟨hin, v1, ev1, hf⟩ := sp_hld hf
    refine sp_iald S hK hW 3 rfl hin ev1 dX1_mayCome_13 ?_
    refine lv_iload_n hx hb dX1_mayCome_14 rfl (lv_at hl 2 rfl) ?_
    refine lv_iconst (v := (-1)) hx hb dX1_mayCome_15 (by decide) ?_
    refine lv_ixor hx hb dX1_mayCome_16 ?_
    refine lv_iand hx hb dX1_mayCome_17 ?_
    refine lv_if_ne (tgt := 25) hx hb dX1_mayCome_18 (by decide) (fun hc => ?_) (fun hc => ?_)
    · have hf := sp_hf hf hc
      refine lv_iconst (v := 0) hx hb dX1_mayCome_25 (by decide) ?_
      cases hf
      exact sp_zret S hr hlk hW rfl hQ dX1_mayCome_26
    · have hf := sp_ht hf hc
      refine lv_iconst (v := 1) hx hb dX1_mayCome_21 (by decide) ?_
      refine lv_goto (tgt := 26) hx hb dX1_mayCome_22 (by decide) ?_
      cases hf
      exact sp_zret S hr hlk hW rfl hQ dX1_mayCome_26

def f_X1_leastBehind_L5 (mn : Int32) (k4 : Int32 → Option (Int32)) (p1 : Int32) (ne : Nat → Int32) (ah : Nat → Int32) (rec5 : (Int32 × Int32) → Option (Int32)) (s9 : Int32 × Int32) : Option (Int32) := match s9 with
  | (y1, y2) => if mn ≤ y2 then (k4 y1) else (Option.bind (f_X1_mayCome y2 p1 ne) (fun r5 => sp_bnd (fun (x6 : Int32) => sp_bnd (y2 + (1 : Int32)) (fun v8 => rec5 (x6, v8))) (fun k7 => if r5 = 0 then (k7 y1) else (sp_ld ah 4096 (p1 ||| ((1 : Int32) <<< (y2 &&& 31))) (fun v9 => sp_bnd (if v9 < y1 then v9 else y1) (fun v10 => k7 v10))))))
theorem f_X1_leastBehind_L5_eq {rec5 : (Int32 × Int32) → Option (Int32)} {mn : Int32} {k4 : Int32 → Option (Int32)} {p1 : Int32} {ne : Nat → Int32} {ah : Nat → Int32} {y1 : Int32} {y2 : Int32} : f_X1_leastBehind_L5 mn k4 p1 ne ah rec5 (y1, y2) = (if mn ≤ y2 then (k4 y1) else (Option.bind (f_X1_mayCome y2 p1 ne) (fun r5 => sp_bnd (fun (x6 : Int32) => sp_bnd (y2 + (1 : Int32)) (fun v8 => rec5 (x6, v8))) (fun k7 => if r5 = 0 then (k7 y1) else (sp_ld ah 4096 (p1 ||| ((1 : Int32) <<< (y2 &&& 31))) (fun v9 => sp_bnd (if v9 < y1 then v9 else y1) (fun v10 => k7 v10))))))) := rfl
def f_X1_leastBehind (p1 : Int32) (mn : Int32) (ne : Nat → Int32) (ah : Nat → Int32) : Option (Int32) := sp_bnd (fun (x3 : Int32) => some x3) (fun k4 => sp_lp (f_X1_leastBehind_L5 mn k4 p1 ne ah) sp_F ((99 : Int32), (0 : Int32)))
def rmX1_leastBehind : Room := { frames := 1, cells := 0, slots := 0, locals := 22 }
set_option maxRecDepth 4000 in
theorem c_X1_leastBehind {l : Launch} {D : va_G} {q5 : Nat → ClassId} (a : Nat → Nat) (ro : Nat → Int32) (mn : Int32) (ls9 : Int32) (li : Nat → Int32) (ne : Nat → Int32) (us : Nat → Int32) (ah : Nat → Int32) (p1 : Int32) {r' : Int32} (hf : f_X1_leastBehind p1 mn ne ah = some r') : sp_Ci l yX1_leastBehind wsX1_leastBehind rmX1_leastBehind D q5 0 [.ref (a 0), .int p1] (sw_O a q5 ro mn ls9 li ne us ah) r' (sw_O a q5 ro mn ls9 li ne us ah) := by
  intro sz
  refine sp_of (cc := cX1_leastBehind) (maxL := 4) (ret := some .int) (own := RX1) (Qc := sp_Qi D r' (sw_O a q5 ro mn ls9 li ne us ah)) (by decide) rfl rfl (Nat.le_of_ble_eq_true rfl) ?_
  intro p e s m args below meth c A ls Q hQ S hr hlk hK hG hA hW hl
  have hx := S.1
  have hb := S.2.1
  unfold f_X1_leastBehind at hf
  have inX1 : ∀ w ∈ u_ws RX1 TX1 7, w ∈ wsX1_leastBehind := (fun _ h => List.mem_cons_of_mem _ (List.mem_append_right _ h))
  have lk1 := S.2.2.2.2 (Cond.fieldLink RX1 32 "ShortProofs$Order" "many" "I") (List.mem_of_getElem? (i := 1) rfl)
  have lk2 := S.2.2.2.2 (Cond.fieldLink RX1 24 "ShortProofs$Order" "ahead" "[B") (List.mem_of_getElem? (i := 2) rfl)
  have lk3 := S.2.2.2.2 (Cond.methodLink RX1 79 Lib.Math.min.name) (List.mem_of_getElem? (i := 3) rfl)
  have lk4 := S.2.2.2.2 (Cond.static Lib.Math.min.name) (List.mem_of_getElem? (i := 4) rfl)
  have lk5 := S.2.2.2.2 (Cond.initialized "java/lang/Math") (List.mem_of_getElem? (i := 5) rfl)
  have lk6 := S.2.2.2.2 (Cond.code Lib.Math.min.name Lib.Math.min.code 2 (some .int)) (List.mem_of_getElem? (i := 6) rfl)
  refine lv_bipush (v := 99) hx hb dX1_leastBehind_0 (by decide) ?_
  refine lv_istore_n (lv' := [(2, .int (99 : Int32)), (0, .ref (a 0)), (1, .int p1)]) hx hb dX1_leastBehind_2 rfl hl (by decide) rfl (fun ls hl => ?_)
  refine lv_iconst (v := 0) hx hb dX1_leastBehind_3 (by decide) ?_
  refine lv_istore_n (lv' := [(3, .int (0 : Int32)), (2, .int (99 : Int32)), (0, .ref (a 0)), (1, .int p1)]) hx hb dX1_leastBehind_4 rfl hl (by decide) rfl (fun ls hl => ?_)
  obtain ⟨k4, ek4, hf⟩ := sp_hb hf
  have hj4 : ∀ (x3 : Int32) (H : Heap) (locs : List Loc) (ls : Array Slot), k4 x3 = some r' → sp_wd D A s.heap (sw_O a q5 ro mn ls9 li ne us ah) H locs → lv_has ls 4 [(2, .int x3)] → W p l e rmX1_leastBehind s m args below meth c H locs 0 0 Q (F0 m 43 ls []) := by
    intro x3 H locs ls hf hW hl
    rw [ek4] at hf
    refine lv_iload_n hx hb dX1_leastBehind_43 rfl (lv_at hl 0 rfl) ?_
    cases hf
    exact sp_iret S hr hlk hW hQ dX1_leastBehind_44
  have hlp5 : ∀ (n9 : Nat) (y1 : Int32) (y2 : Int32) (H : Heap) (locs : List Loc) (ls : Array Slot), sp_lp (f_X1_leastBehind_L5 mn k4 p1 ne ah) n9 (y1, y2) = some r' → sp_wd D A s.heap (sw_O a q5 ro mn ls9 li ne us ah) H locs → lv_has ls 4 [(0, .ref (a 0)), (1, .int p1), (2, .int y1), (3, .int y2)] → W p l e rmX1_leastBehind s m args below meth c H locs 0 0 Q (F0 m 5 ls []) := by
    intro n9
    induction n9 with
    | zero =>
      intro y1 y2 H locs ls hf hW hl
      exact (sp_lp0 hf).elim
    | succ n9 ih5 =>
      intro y1 y2 H locs ls hf hW hl
      have hf := sp_lpS hf
      rw [f_X1_leastBehind_L5_eq] at hf
      refine lv_iload_n hx hb dX1_leastBehind_5 rfl (lv_at hl 3 rfl) ?_
      refine lv_aload_n hx hb dX1_leastBehind_6 rfl (lv_at hl 0 rfl) ?_
      refine sp_get S hK hW inX1 0 rfl rfl 1 (by decide) lk1 rfl dX1_leastBehind_7 ?_
      refine lv_icmp_ge (tgt := 43) hx hb dX1_leastBehind_10 (by decide) (fun hc => ?_) (fun hc => ?_)
      · have hf := sp_ht hf hc
        exact hj4 _ _ _ _ hf hW (lv_sub hl [2] rfl)
      · have hf := sp_hf hf hc
        refine lv_aload_n hx hb dX1_leastBehind_13 rfl (lv_at hl 0 rfl) ?_
        refine lv_iload_n hx hb dX1_leastBehind_14 rfl (lv_at hl 3 rfl) ?_
        refine lv_iload_n hx hb dX1_leastBehind_15 rfl (lv_at hl 1 rfl) ?_
        obtain ⟨r5, hc5, hf⟩ := sp_hc hf
        refine sp_callViP (rest := []) S hK hG hA hW (c_X1_mayCome a ro mn ls9 li ne us ah y2 p1 hc5) (by decide) (cwV 2 S.2.2.2.2 gX1_leastBehind_X1_mayCome rfl rfl rfl (by decide +kernel) (by decide)) 0 0 rfl rfl (sp_pn _) rfl (WS' := sw_O a q5 ro mn ls9 li ne us ah) (sp_pn' _) rfl hl.1 (Nat.le_of_ble_eq_true rfl) dX1_leastBehind_16 ⟨Nat.zero_le _, Nat.zero_le _⟩ rfl (fun H locs hW => ?_)
        obtain ⟨k7, ek7, hf⟩ := sp_hb hf
        have hj7 : ∀ (x6 : Int32) (H : Heap) (locs : List Loc) (ls : Array Slot), k7 x6 = some r' → sp_wd D A s.heap (sw_O a q5 ro mn ls9 li ne us ah) H locs → lv_has ls 4 [(0, .ref (a 0)), (1, .int p1), (2, .int x6), (3, .int y2)] → W p l e rmX1_leastBehind s m args below meth c H locs 0 0 Q (F0 m 37 ls []) := by
          intro x6 H locs ls hf hW hl
          rw [ek7] at hf
          obtain ⟨v8, ev8, hf⟩ := sp_hb hf
          refine lv_iinc (v := v8) (lv' := [(3, .int v8), (0, .ref (a 0)), (1, .int p1), (2, .int x6)]) hx hb dX1_leastBehind_37 hl (k := 3) rfl (by rw [ev8]; rfl) (by decide) rfl (fun ls hl => ?_)
          refine lv_goto (tgt := 5) hx hb dX1_leastBehind_40 (by decide) ?_
          exact ih5 _ _ _ _ _ hf hW (lv_sub hl [1, 2, 3, 0] rfl)
        refine lv_if_eq (tgt := 37) hx hb dX1_leastBehind_19 (by decide) (fun hc => ?_) (fun hc => ?_)
        · have hf := sp_ht hf hc
          exact hj7 _ _ _ _ hf hW (lv_sub hl [0, 1, 2, 3] rfl)
        · have hf := sp_hf hf hc
          refine lv_iload_n hx hb dX1_leastBehind_22 rfl (lv_at hl 2 rfl) ?_
          refine lv_aload_n hx hb dX1_leastBehind_23 rfl (lv_at hl 0 rfl) ?_
          refine sp_get S hK hW inX1 0 rfl rfl 6 (by decide) lk2 rfl dX1_leastBehind_24 ?_
          refine lv_iload_n hx hb dX1_leastBehind_27 rfl (lv_at hl 1 rfl) ?_
          refine lv_iconst (v := 1) hx hb dX1_leastBehind_28 (by decide) ?_
          refine lv_iload_n hx hb dX1_leastBehind_29 rfl (lv_at hl 3 rfl) ?_
          refine lv_ishl hx hb dX1_leastBehind_30 ?_
          refine lv_ior hx hb dX1_leastBehind_31 ?_
          obtain ⟨hin, v9, ev9, hf⟩ := sp_hld hf
          refine sp_bald S hK hW 5 rfl hin ev9 dX1_leastBehind_32 ?_
          refine sp_mmin S hl.1 lk3 lk4 lk5 lk6 (by decide) (Nat.le_of_ble_eq_true rfl) (Nat.zero_le _) (Nat.zero_le _) dX1_leastBehind_33 ?_
          obtain ⟨v10, ev10, hf⟩ := sp_hb hf
          refine sp_topi ev10 ?_
          refine lv_istore_n (lv' := [(2, .int v10), (0, .ref (a 0)), (1, .int p1), (3, .int y2)]) hx hb dX1_leastBehind_36 rfl hl (by decide) rfl (fun ls hl => ?_)
          exact hj7 _ _ _ _ hf hW (lv_sub hl [1, 2, 0, 3] rfl)
  exact hlp5 _ _ _ _ _ _ hf hW (lv_sub hl [2, 3, 1, 0] rfl)

def f_X1_firstOf_L2 (mn : Int32) (k2 : Option (Int32)) (p1 : Int32) (ne : Nat → Int32) (ah : Nat → Int32) (ls9 : Int32) (rec2 : (Int32) → Option (Int32)) (s9 : Int32) : Option (Int32) := match s9 with
  | y1 => if mn ≤ y1 then k2 else (Option.bind (f_X1_mayCome y1 p1 ne) (fun r3 => sp_bnd (sp_bnd (y1 + (1 : Int32)) (fun v5 => rec2 v5)) (fun k4 => if r3 = 0 then k4 else (sp_ld ah 4096 (p1 ||| ((1 : Int32) <<< (y1 &&& 31))) (fun v6 => if ls9 < v6 then k4 else (some y1))))))
theorem f_X1_firstOf_L2_eq {rec2 : (Int32) → Option (Int32)} {mn : Int32} {k2 : Option (Int32)} {p1 : Int32} {ne : Nat → Int32} {ah : Nat → Int32} {ls9 : Int32} {y1 : Int32} : f_X1_firstOf_L2 mn k2 p1 ne ah ls9 rec2 y1 = (if mn ≤ y1 then k2 else (Option.bind (f_X1_mayCome y1 p1 ne) (fun r3 => sp_bnd (sp_bnd (y1 + (1 : Int32)) (fun v5 => rec2 v5)) (fun k4 => if r3 = 0 then k4 else (sp_ld ah 4096 (p1 ||| ((1 : Int32) <<< (y1 &&& 31))) (fun v6 => if ls9 < v6 then k4 else (some y1))))))) := rfl
def f_X1_firstOf (p1 : Int32) (mn : Int32) (ls9 : Int32) (ne : Nat → Int32) (ah : Nat → Int32) : Option (Int32) := sp_bnd (some (0 : Int32)) (fun k2 => sp_lp (f_X1_firstOf_L2 mn k2 p1 ne ah ls9) sp_F (0 : Int32))
def rmX1_firstOf : Room := { frames := 1, cells := 0, slots := 0, locals := 22 }
set_option maxRecDepth 4000 in
theorem c_X1_firstOf {l : Launch} {D : va_G} {q5 : Nat → ClassId} (a : Nat → Nat) (ro : Nat → Int32) (mn : Int32) (ls9 : Int32) (li : Nat → Int32) (ne : Nat → Int32) (us : Nat → Int32) (ah : Nat → Int32) (p1 : Int32) {r' : Int32} (hf : f_X1_firstOf p1 mn ls9 ne ah = some r') : sp_Ci l yX1_firstOf wsX1_firstOf rmX1_firstOf D q5 0 [.ref (a 0), .int p1] (sw_O a q5 ro mn ls9 li ne us ah) r' (sw_O a q5 ro mn ls9 li ne us ah) := by
  intro sz
  refine sp_of (cc := cX1_firstOf) (maxL := 3) (ret := some .int) (own := RX1) (Qc := sp_Qi D r' (sw_O a q5 ro mn ls9 li ne us ah)) (by decide) rfl rfl (Nat.le_of_ble_eq_true rfl) ?_
  intro p e s m args below meth c A ls Q hQ S hr hlk hK hG hA hW hl
  have hx := S.1
  have hb := S.2.1
  unfold f_X1_firstOf at hf
  have inX1 : ∀ w ∈ u_ws RX1 TX1 7, w ∈ wsX1_firstOf := (fun _ h => List.mem_cons_of_mem _ (List.mem_append_right _ h))
  have lk1 := S.2.2.2.2 (Cond.fieldLink RX1 32 "ShortProofs$Order" "many" "I") (List.mem_of_getElem? (i := 1) rfl)
  have lk2 := S.2.2.2.2 (Cond.fieldLink RX1 24 "ShortProofs$Order" "ahead" "[B") (List.mem_of_getElem? (i := 2) rfl)
  have lk3 := S.2.2.2.2 (Cond.fieldLink RX1 49 "ShortProofs$Order" "least" "I") (List.mem_of_getElem? (i := 3) rfl)
  refine lv_iconst (v := 0) hx hb dX1_firstOf_0 (by decide) ?_
  refine lv_istore_n (lv' := [(2, .int (0 : Int32)), (0, .ref (a 0)), (1, .int p1)]) hx hb dX1_firstOf_1 rfl hl (by decide) rfl (fun ls hl => ?_)
  obtain ⟨k2, ek2, hf⟩ := sp_hb hf
  have hj2 : ∀ (H : Heap) (locs : List Loc) (ls : Array Slot), k2 = some r' → sp_wd D A s.heap (sw_O a q5 ro mn ls9 li ne us ah) H locs → lv_has ls 3 [] → W p l e rmX1_firstOf s m args below meth c H locs 0 0 Q (F0 m 44 ls []) := by
    intro H locs ls hf hW hl
    rw [ek2] at hf
    refine lv_iconst (v := 0) hx hb dX1_firstOf_44 (by decide) ?_
    cases hf
    exact sp_iret S hr hlk hW hQ dX1_firstOf_45
  have hlp2 : ∀ (n9 : Nat) (y1 : Int32) (H : Heap) (locs : List Loc) (ls : Array Slot), sp_lp (f_X1_firstOf_L2 mn k2 p1 ne ah ls9) n9 y1 = some r' → sp_wd D A s.heap (sw_O a q5 ro mn ls9 li ne us ah) H locs → lv_has ls 3 [(0, .ref (a 0)), (1, .int p1), (2, .int y1)] → W p l e rmX1_firstOf s m args below meth c H locs 0 0 Q (F0 m 2 ls []) := by
    intro n9
    induction n9 with
    | zero =>
      intro y1 H locs ls hf hW hl
      exact (sp_lp0 hf).elim
    | succ n9 ih2 =>
      intro y1 H locs ls hf hW hl
      have hf := sp_lpS hf
      rw [f_X1_firstOf_L2_eq] at hf
      refine lv_iload_n hx hb dX1_firstOf_2 rfl (lv_at hl 2 rfl) ?_
      refine lv_aload_n hx hb dX1_firstOf_3 rfl (lv_at hl 0 rfl) ?_
      refine sp_get S hK hW inX1 0 rfl rfl 1 (by decide) lk1 rfl dX1_firstOf_4 ?_
      refine lv_icmp_ge (tgt := 44) hx hb dX1_firstOf_7 (by decide) (fun hc => ?_) (fun hc => ?_)
      · have hf := sp_ht hf hc
        exact hj2 _ _ _ hf hW (lv_sub hl [] rfl)
      · have hf := sp_hf hf hc
        refine lv_aload_n hx hb dX1_firstOf_10 rfl (lv_at hl 0 rfl) ?_
        refine lv_iload_n hx hb dX1_firstOf_11 rfl (lv_at hl 2 rfl) ?_
        refine lv_iload_n hx hb dX1_firstOf_12 rfl (lv_at hl 1 rfl) ?_
        obtain ⟨r3, hc3, hf⟩ := sp_hc hf
        refine sp_callViP (rest := []) S hK hG hA hW (c_X1_mayCome a ro mn ls9 li ne us ah y1 p1 hc3) (by decide) (cwV 2 S.2.2.2.2 gX1_firstOf_X1_mayCome rfl rfl rfl (by decide +kernel) (by decide)) 0 0 rfl rfl (sp_pn _) rfl (WS' := sw_O a q5 ro mn ls9 li ne us ah) (sp_pn' _) rfl hl.1 (Nat.le_of_ble_eq_true rfl) dX1_firstOf_13 ⟨Nat.zero_le _, Nat.zero_le _⟩ rfl (fun H locs hW => ?_)
        obtain ⟨k4, ek4, hf⟩ := sp_hb hf
        have hj4 : ∀ (H : Heap) (locs : List Loc) (ls : Array Slot), k4 = some r' → sp_wd D A s.heap (sw_O a q5 ro mn ls9 li ne us ah) H locs → lv_has ls 3 [(0, .ref (a 0)), (1, .int p1), (2, .int y1)] → W p l e rmX1_firstOf s m args below meth c H locs 0 0 Q (F0 m 38 ls []) := by
          intro H locs ls hf hW hl
          rw [ek4] at hf
          obtain ⟨v5, ev5, hf⟩ := sp_hb hf
          refine lv_iinc (v := v5) (lv' := [(2, .int v5), (0, .ref (a 0)), (1, .int p1)]) hx hb dX1_firstOf_38 hl (k := 2) rfl (by rw [ev5]; rfl) (by decide) rfl (fun ls hl => ?_)
          refine lv_goto (tgt := 2) hx hb dX1_firstOf_41 (by decide) ?_
          exact ih2 _ _ _ _ hf hW (lv_sub hl [1, 2, 0] rfl)
        refine lv_if_eq (tgt := 38) hx hb dX1_firstOf_16 (by decide) (fun hc => ?_) (fun hc => ?_)
        · have hf := sp_ht hf hc
          exact hj4 _ _ _ hf hW (lv_sub hl [0, 1, 2] rfl)
        · have hf := sp_hf hf hc
          refine lv_aload_n hx hb dX1_firstOf_19 rfl (lv_at hl 0 rfl) ?_
          refine sp_get S hK hW inX1 0 rfl rfl 6 (by decide) lk2 rfl dX1_firstOf_20 ?_
          refine lv_iload_n hx hb dX1_firstOf_23 rfl (lv_at hl 1 rfl) ?_
          refine lv_iconst (v := 1) hx hb dX1_firstOf_24 (by decide) ?_
          refine lv_iload_n hx hb dX1_firstOf_25 rfl (lv_at hl 2 rfl) ?_
          refine lv_ishl hx hb dX1_firstOf_26 ?_
          refine lv_ior hx hb dX1_firstOf_27 ?_
          obtain ⟨hin, v6, ev6, hf⟩ := sp_hld hf
          refine sp_bald S hK hW 5 rfl hin ev6 dX1_firstOf_28 ?_
          refine lv_aload_n hx hb dX1_firstOf_29 rfl (lv_at hl 0 rfl) ?_
          refine sp_get S hK hW inX1 0 rfl rfl 2 (by decide) lk3 rfl dX1_firstOf_30 ?_
          refine lv_icmp_gt (tgt := 38) hx hb dX1_firstOf_33 (by decide) (fun hc => ?_) (fun hc => ?_)
          · have hf := sp_ht hf hc
            exact hj4 _ _ _ hf hW (lv_sub hl [0, 1, 2] rfl)
          · have hf := sp_hf hf hc
            refine lv_iload_n hx hb dX1_firstOf_36 rfl (lv_at hl 2 rfl) ?_
            cases hf
            exact sp_iret S hr hlk hW hQ dX1_firstOf_37
  exact hlp2 _ _ _ _ _ hf hW (lv_sub hl [1, 2, 0] rfl)

def f_X1_fillRow_L4 (mn : Int32) (k5 : (Nat → Int32) → Option ((Nat → Int32))) (ls9 : Int32) (ne : Nat → Int32) (ah : Nat → Int32) (li : Nat → Int32) (rec4 : (Int32 × Int32 × (Nat → Int32)) → Option ((Nat → Int32))) (s9 : Int32 × Int32 × (Nat → Int32)) : Option ((Nat → Int32)) := match s9 with
  | (y1, y2, c3) => if mn ≤ y2 then (k5 c3) else (Option.bind (f_X1_firstOf y1 mn ls9 ne ah) (fun r6 => sp_ld li 12 r6 (fun v7 => sp_st c3 12 y2 v7 (fun c8 => sp_bnd (y1 ||| ((1 : Int32) <<< (r6 &&& 31))) (fun v9 => sp_bnd (y2 + (1 : Int32)) (fun v10 => rec4 (v9, v10, c8)))))))
theorem f_X1_fillRow_L4_eq {rec4 : (Int32 × Int32 × (Nat → Int32)) → Option ((Nat → Int32))} {mn : Int32} {k5 : (Nat → Int32) → Option ((Nat → Int32))} {ls9 : Int32} {ne : Nat → Int32} {ah : Nat → Int32} {li : Nat → Int32} {y1 : Int32} {y2 : Int32} {c3 : Nat → Int32} : f_X1_fillRow_L4 mn k5 ls9 ne ah li rec4 (y1, y2, c3) = (if mn ≤ y2 then (k5 c3) else (Option.bind (f_X1_firstOf y1 mn ls9 ne ah) (fun r6 => sp_ld li 12 r6 (fun v7 => sp_st c3 12 y2 v7 (fun c8 => sp_bnd (y1 ||| ((1 : Int32) <<< (r6 &&& 31))) (fun v9 => sp_bnd (y2 + (1 : Int32)) (fun v10 => rec4 (v9, v10, c8)))))))) := rfl
def f_X1_fillRow (ro : Nat → Int32) (mn : Int32) (ls9 : Int32) (li : Nat → Int32) (ne : Nat → Int32) (ah : Nat → Int32) : Option ((Nat → Int32)) := sp_bnd (fun (c4 : Nat → Int32) => some c4) (fun k5 => sp_lp (f_X1_fillRow_L4 mn k5 ls9 ne ah li) sp_F ((0 : Int32), (0 : Int32), ro))
def rmX1_fillRow : Room := { frames := 2, cells := 0, slots := 0, locals := 44 }
set_option maxRecDepth 4000 in
theorem c_X1_fillRow {l : Launch} {D : va_G} {q5 : Nat → ClassId} (a : Nat → Nat) (ro : Nat → Int32) (mn : Int32) (ls9 : Int32) (li : Nat → Int32) (ne : Nat → Int32) (us : Nat → Int32) (ah : Nat → Int32) {ro' : Nat → Int32} (hf : f_X1_fillRow ro mn ls9 li ne ah = some ro') : sp_Cv l yX1_fillRow wsX1_fillRow rmX1_fillRow D q5 0 [.ref (a 0)] (sw_O a q5 ro mn ls9 li ne us ah) (sw_O a q5 ro' mn ls9 li ne us ah) := by
  intro sz
  refine sp_of (cc := cX1_fillRow) (maxL := 4) (ret := none) (own := RX1) (Qc := sp_Qv D (sw_O a q5 ro' mn ls9 li ne us ah)) (by decide) rfl rfl (Nat.le_of_ble_eq_true rfl) ?_
  intro p e s m args below meth c A ls Q hQ S hr hlk hK hG hA hW hl
  have hx := S.1
  have hb := S.2.1
  unfold f_X1_fillRow at hf
  have inX1 : ∀ w ∈ u_ws RX1 TX1 7, w ∈ wsX1_fillRow := (fun _ h => List.mem_cons_of_mem _ (List.mem_append_right _ h))
  have lk1 := S.2.2.2.2 (Cond.fieldLink RX1 32 "ShortProofs$Order" "many" "I") (List.mem_of_getElem? (i := 1) rfl)
  have lk2 := S.2.2.2.2 (Cond.fieldLink RX1 9 "ShortProofs$Order" "row" "[I") (List.mem_of_getElem? (i := 2) rfl)
  have lk3 := S.2.2.2.2 (Cond.fieldLink RX1 15 "ShortProofs$Order" "lines" "[I") (List.mem_of_getElem? (i := 3) rfl)
  refine lv_iconst (v := 0) hx hb dX1_fillRow_0 (by decide) ?_
  refine lv_istore_n (lv' := [(1, .int (0 : Int32)), (0, .ref (a 0))]) hx hb dX1_fillRow_1 rfl hl (by decide) rfl (fun ls hl => ?_)
  refine lv_iconst (v := 0) hx hb dX1_fillRow_2 (by decide) ?_
  refine lv_istore_n (lv' := [(2, .int (0 : Int32)), (1, .int (0 : Int32)), (0, .ref (a 0))]) hx hb dX1_fillRow_3 rfl hl (by decide) rfl (fun ls hl => ?_)
  obtain ⟨k5, ek5, hf⟩ := sp_hb hf
  have hj5 : ∀ (c4 : Nat → Int32) (H : Heap) (locs : List Loc) (ls : Array Slot), k5 c4 = some ro' → sp_wd D A s.heap (sw_O a q5 c4 mn ls9 li ne us ah) H locs → lv_has ls 4 [] → W p l e rmX1_fillRow s m args below meth c H locs 0 0 Q (F0 m 42 ls []) := by
    intro c4 H locs ls hf hW hl
    rw [ek5] at hf
    cases hf
    exact sp_vret S hr hlk hW hQ dX1_fillRow_42
  have hlp4 : ∀ (n9 : Nat) (y1 : Int32) (y2 : Int32) (c3 : Nat → Int32) (H : Heap) (locs : List Loc) (ls : Array Slot), sp_lp (f_X1_fillRow_L4 mn k5 ls9 ne ah li) n9 (y1, y2, c3) = some ro' → sp_wd D A s.heap (sw_O a q5 c3 mn ls9 li ne us ah) H locs → lv_has ls 4 [(0, .ref (a 0)), (1, .int y1), (2, .int y2)] → W p l e rmX1_fillRow s m args below meth c H locs 0 0 Q (F0 m 4 ls []) := by
    intro n9
    induction n9 with
    | zero =>
      intro y1 y2 c3 H locs ls hf hW hl
      exact (sp_lp0 hf).elim
    | succ n9 ih4 =>
      intro y1 y2 c3 H locs ls hf hW hl
      have hf := sp_lpS hf
      rw [f_X1_fillRow_L4_eq] at hf
      refine lv_iload_n hx hb dX1_fillRow_4 rfl (lv_at hl 2 rfl) ?_
      refine lv_aload_n hx hb dX1_fillRow_5 rfl (lv_at hl 0 rfl) ?_
      refine sp_get S hK hW inX1 0 rfl rfl 1 (by decide) lk1 rfl dX1_fillRow_6 ?_
      refine lv_icmp_ge (tgt := 42) hx hb dX1_fillRow_9 (by decide) (fun hc => ?_) (fun hc => ?_)
      · have hf := sp_ht hf hc
        exact hj5 _ _ _ _ hf hW (lv_sub hl [] rfl)
      · have hf := sp_hf hf hc
        refine lv_aload_n hx hb dX1_fillRow_12 rfl (lv_at hl 0 rfl) ?_
        refine lv_iload_n hx hb dX1_fillRow_13 rfl (lv_at hl 1 rfl) ?_
        obtain ⟨r6, hc6, hf⟩ := sp_hc hf
        refine sp_callViP (rest := []) S hK hG hA hW (c_X1_firstOf a c3 mn ls9 li ne us ah y1 hc6) (by decide) (cwV 1 S.2.2.2.2 gX1_fillRow_X1_firstOf rfl rfl rfl (by decide +kernel) (by decide)) 0 0 rfl rfl (sp_pn _) rfl (WS' := sw_O a q5 c3 mn ls9 li ne us ah) (sp_pn' _) rfl hl.1 (Nat.le_of_ble_eq_true rfl) dX1_fillRow_14 ⟨Nat.zero_le _, Nat.zero_le _⟩ rfl (fun H locs hW => ?_)
        refine lv_istore_n (lv' := [(3, .int r6), (0, .ref (a 0)), (1, .int y1), (2, .int y2)]) hx hb dX1_fillRow_17 rfl hl (by decide) rfl (fun ls hl => ?_)
        refine lv_aload_n hx hb dX1_fillRow_18 rfl (lv_at hl 1 rfl) ?_
        refine sp_get S hK hW inX1 0 rfl rfl 0 (by decide) lk2 rfl dX1_fillRow_19 ?_
        refine lv_iload_n hx hb dX1_fillRow_22 rfl (lv_at hl 3 rfl) ?_
        refine lv_aload_n hx hb dX1_fillRow_23 rfl (lv_at hl 1 rfl) ?_
        refine sp_get S hK hW inX1 0 rfl rfl 3 (by decide) lk3 rfl dX1_fillRow_24 ?_
        refine lv_iload_n hx hb dX1_fillRow_27 rfl (lv_at hl 0 rfl) ?_
        obtain ⟨hin, v7, ev7, hf⟩ := sp_hld hf
        refine sp_iald S hK hW 2 rfl hin ev7 dX1_fillRow_28 ?_
        obtain ⟨hin, c8, ec8, hf⟩ := sp_hst hf
        refine sp_iast S hK hW 1 rfl hin ec8 (ws' := sw_O a q5 c8 mn ls9 li ne us ah) rfl dX1_fillRow_29 (fun H locs hW => ?_)
        refine lv_iload_n hx hb dX1_fillRow_30 rfl (lv_at hl 2 rfl) ?_
        refine lv_iconst (v := 1) hx hb dX1_fillRow_31 (by decide) ?_
        refine lv_iload_n hx hb dX1_fillRow_32 rfl (lv_at hl 0 rfl) ?_
        refine lv_ishl hx hb dX1_fillRow_33 ?_
        refine lv_ior hx hb dX1_fillRow_34 ?_
        obtain ⟨v9, ev9, hf⟩ := sp_hb hf
        refine sp_topi ev9 ?_
        refine lv_istore_n (lv' := [(1, .int v9), (3, .int r6), (0, .ref (a 0)), (2, .int y2)]) hx hb dX1_fillRow_35 rfl hl (by decide) rfl (fun ls hl => ?_)
        obtain ⟨v10, ev10, hf⟩ := sp_hb hf
        refine lv_iinc (v := v10) (lv' := [(2, .int v10), (1, .int v9), (3, .int r6), (0, .ref (a 0))]) hx hb dX1_fillRow_36 hl (k := 3) rfl (by rw [ev10]; rfl) (by decide) rfl (fun ls hl => ?_)
        refine lv_goto (tgt := 4) hx hb dX1_fillRow_39 (by decide) ?_
        exact ih4 _ _ _ _ _ _ hf hW (lv_sub hl [3, 1, 0] rfl)
  exact hlp4 _ _ _ _ _ _ _ hf hW (lv_sub hl [2, 1, 0] rfl)

def f_X1_arrange_L25 (k11 : (Nat → Int32) → Option ((Nat → Int32) × Int32 × Int32 × (Nat → Int32) × (Nat → Int32) × (Nat → Int32) × (Nat → Int32))) (c1 : Int32) (c4 : Nat → Int32) (c3 : Nat → Int32) (rec25 : (Int32 × (Nat → Int32)) → Option ((Nat → Int32) × Int32 × Int32 × (Nat → Int32) × (Nat → Int32) × (Nat → Int32) × (Nat → Int32))) (s9 : Int32 × (Nat → Int32)) : Option ((Nat → Int32) × Int32 × Int32 × (Nat → Int32) × (Nat → Int32) × (Nat → Int32) × (Nat → Int32)) := match s9 with
  | (y8, c9) => if y8 < 0 then (k11 c9) else (Option.bind (f_X1_keptOf y8 c1 c4) (fun r14 => Option.bind (f_X1_leastBehind y8 c1 c3 c9) (fun r15 => sp_stB c9 4096 y8 ((if ((1 : Int32) + r14) < r15 then r15 else ((1 : Int32) + r14)).toInt8.toInt32) (fun c16 => sp_bnd (y8 + (-1 : Int32)) (fun v17 => rec25 (v17, c16))))))
theorem f_X1_arrange_L25_eq {rec25 : (Int32 × (Nat → Int32)) → Option ((Nat → Int32) × Int32 × Int32 × (Nat → Int32) × (Nat → Int32) × (Nat → Int32) × (Nat → Int32))} {k11 : (Nat → Int32) → Option ((Nat → Int32) × Int32 × Int32 × (Nat → Int32) × (Nat → Int32) × (Nat → Int32) × (Nat → Int32))} {c1 : Int32} {c4 : Nat → Int32} {c3 : Nat → Int32} {y8 : Int32} {c9 : Nat → Int32} : f_X1_arrange_L25 k11 c1 c4 c3 rec25 (y8, c9) = (if y8 < 0 then (k11 c9) else (Option.bind (f_X1_keptOf y8 c1 c4) (fun r14 => Option.bind (f_X1_leastBehind y8 c1 c3 c9) (fun r15 => sp_stB c9 4096 y8 ((if ((1 : Int32) + r14) < r15 then r15 else ((1 : Int32) + r14)).toInt8.toInt32) (fun c16 => sp_bnd (y8 + (-1 : Int32)) (fun v17 => rec25 (v17, c16))))))) := rfl
def f_X1_arrange (ro : Nat → Int32) (li : Nat → Int32) (ne : Nat → Int32) (us : Nat → Int32) (ah : Nat → Int32) (le2 : Nat → Int32) (ri2 : Nat → Int32) (ct2 : Int32) : Option ((Nat → Int32) × Int32 × Int32 × (Nat → Int32) × (Nat → Int32) × (Nat → Int32) × (Nat → Int32)) := Option.bind (f_X1_number li ne us le2 ri2 ct2) (fun q9 => match q9 with | (c1, c2, c3, c4) => sp_bnd (((1 : Int32) <<< (c1 &&& 31)) - (1 : Int32)) (fun v5 => sp_stB ah 4096 v5 (0 : Int32) (fun c6 => sp_bnd (v5 - (1 : Int32)) (fun v7 => sp_bnd (fun (c10 : Nat → Int32) => sp_ld c10 4096 (0 : Int32) (fun v12 => Option.bind (f_X1_fillRow ro c1 v12 c2 c3 c10) (fun c13 => some (c13, c1, v12, c2, c3, c4, c10)))) (fun k11 => sp_lp (f_X1_arrange_L25 k11 c1 c4 c3) sp_F (v7, c6))))))
def rmX1_arrange : Room := { frames := 4, cells := 0, slots := 0, locals := 90 }
set_option maxRecDepth 4000 in
theorem c_X1_arrange {l : Launch} {D : va_G} {q5 : Nat → ClassId} (a : Nat → Nat) (d : Nat → Nat) (ro : Nat → Int32) (mn : Int32) (ls9 : Int32) (li : Nat → Int32) (ne : Nat → Int32) (us : Nat → Int32) (ah : Nat → Int32) (cl2 : Nat → Int32) (le2 : Nat → Int32) (ri2 : Nat → Int32) (lt2 : Nat → Int32) (gr2 : Nat → Int32) (ct2 : Int32) (gc2 : Int32) {ro' : Nat → Int32} {mn' : Int32} {ls9' : Int32} {li' : Nat → Int32} {ne' : Nat → Int32} {us' : Nat → Int32} {ah' : Nat → Int32} (hf : f_X1_arrange ro li ne us ah le2 ri2 ct2 = some (ro', mn', ls9', li', ne', us', ah')) : sp_Cv l yX1_arrange wsX1_arrange rmX1_arrange D q5 1 [.ref (a 0), .ref (d 0)] (sw_O a q5 ro mn ls9 li ne us ah ++ (sw_P d q5 cl2 le2 ri2 lt2 gr2 ct2 gc2)) (sw_O a q5 ro' mn' ls9' li' ne' us' ah' ++ (sw_P d q5 cl2 le2 ri2 lt2 gr2 ct2 gc2)) := by
  intro sz
  refine sp_of (cc := cX1_arrange) (maxL := 4) (ret := none) (own := RX1) (Qc := sp_Qv D (sw_O a q5 ro' mn' ls9' li' ne' us' ah' ++ (sw_P d q5 cl2 le2 ri2 lt2 gr2 ct2 gc2))) (by decide) rfl rfl (Nat.le_of_ble_eq_true rfl) ?_
  intro p e s m args below meth c A ls Q hQ S hr hlk hK hG hA hW hl
  have hx := S.1
  have hb := S.2.1
  unfold f_X1_arrange at hf
  have inX1 : ∀ w ∈ u_ws RX1 TX1 7, w ∈ wsX1_arrange := (fun _ h => List.mem_cons_of_mem _ (List.mem_append_left _ (List.mem_append_right _ h)))
  have lk1 := S.2.2.2.2 (Cond.fieldLink RX1 32 "ShortProofs$Order" "many" "I") (List.mem_of_getElem? (i := 1) rfl)
  have lk2 := S.2.2.2.2 (Cond.fieldLink RX1 24 "ShortProofs$Order" "ahead" "[B") (List.mem_of_getElem? (i := 2) rfl)
  have lk3 := S.2.2.2.2 (Cond.fieldLink RX1 49 "ShortProofs$Order" "least" "I") (List.mem_of_getElem? (i := 7) rfl)
  have lk4 := S.2.2.2.2 (Cond.methodLink RX1 43 Lib.Math.max.name) (List.mem_of_getElem? (i := 3) rfl)
  have lk5 := S.2.2.2.2 (Cond.static Lib.Math.max.name) (List.mem_of_getElem? (i := 4) rfl)
  have lk6 := S.2.2.2.2 (Cond.initialized "java/lang/Math") (List.mem_of_getElem? (i := 5) rfl)
  have lk7 := S.2.2.2.2 (Cond.code Lib.Math.max.name Lib.Math.max.code 2 (some .int)) (List.mem_of_getElem? (i := 6) rfl)
  refine lv_aload_n hx hb dX1_arrange_0 rfl (lv_at hl 0 rfl) ?_
  refine lv_aload_n hx hb dX1_arrange_1 rfl (lv_at hl 1 rfl) ?_
  obtain ⟨⟨c1, c2, c3, c4⟩, hc4, hf⟩ := sp_hc hf
  refine sp_callVvP (rest := []) S hK hG hA hW (c_X1_number a d ro mn ls9 li ne us ah cl2 le2 ri2 lt2 gr2 ct2 gc2 hc4) (by decide) (cwV 1 S.2.2.2.2 gX1_arrange_X1_number rfl rfl rfl (by decide +kernel) (by decide)) 0 0 rfl rfl (sp_pn _) rfl (WS' := sw_O a q5 ro c1 ls9 c2 c3 c4 ah ++ (sw_P d q5 cl2 le2 ri2 lt2 gr2 ct2 gc2)) (sp_pn' _) rfl hl.1 (Nat.le_of_ble_eq_true rfl) dX1_arrange_2 ⟨Nat.zero_le _, Nat.zero_le _⟩ rfl (fun H locs hW => ?_)
  refine lv_iconst (v := 1) hx hb dX1_arrange_5 (by decide) ?_
  refine lv_aload_n hx hb dX1_arrange_6 rfl (lv_at hl 0 rfl) ?_
  refine sp_get S hK hW inX1 0 rfl rfl 1 (by decide) lk1 rfl dX1_arrange_7 ?_
  refine lv_ishl hx hb dX1_arrange_10 ?_
  refine lv_iconst (v := 1) hx hb dX1_arrange_11 (by decide) ?_
  refine lv_isub hx hb dX1_arrange_12 ?_
  obtain ⟨v5, ev5, hf⟩ := sp_hb hf
  refine sp_topi ev5 ?_
  refine lv_istore_n (lv' := [(2, .int v5), (0, .ref (a 0)), (1, .ref (d 0))]) hx hb dX1_arrange_13 rfl hl (by decide) rfl (fun ls hl => ?_)
  refine lv_aload_n hx hb dX1_arrange_14 rfl (lv_at hl 1 rfl) ?_
  refine sp_get S hK hW inX1 0 rfl rfl 6 (by decide) lk2 rfl dX1_arrange_15 ?_
  refine lv_iload_n hx hb dX1_arrange_18 rfl (lv_at hl 0 rfl) ?_
  refine lv_iconst (v := 0) hx hb dX1_arrange_19 (by decide) ?_
  obtain ⟨hin, c6, ec6, hf⟩ := sp_hstB hf
  refine sp_bast S hK hW 5 rfl hin ec6 (ws' := sw_O a q5 ro c1 ls9 c2 c3 c4 c6 ++ (sw_P d q5 cl2 le2 ri2 lt2 gr2 ct2 gc2)) rfl dX1_arrange_20 (fun H locs hW => ?_)
  refine lv_iload_n hx hb dX1_arrange_21 rfl (lv_at hl 0 rfl) ?_
  refine lv_iconst (v := 1) hx hb dX1_arrange_22 (by decide) ?_
  refine lv_isub hx hb dX1_arrange_23 ?_
  obtain ⟨v7, ev7, hf⟩ := sp_hb hf
  refine sp_topi ev7 ?_
  refine lv_istore_n (lv' := [(3, .int v7), (2, .int v5), (0, .ref (a 0)), (1, .ref (d 0))]) hx hb dX1_arrange_24 rfl hl (by decide) rfl (fun ls hl => ?_)
  obtain ⟨k11, ek11, hf⟩ := sp_hb hf
  have hj11 : ∀ (c10 : Nat → Int32) (H : Heap) (locs : List Loc) (ls : Array Slot), k11 c10 = some (ro', mn', ls9', li', ne', us', ah') → sp_wd D A s.heap (sw_O a q5 ro c1 ls9 c2 c3 c4 c10 ++ (sw_P d q5 cl2 le2 ri2 lt2 gr2 ct2 gc2)) H locs → lv_has ls 4 [(0, .ref (a 0))] → W p l e rmX1_arrange s m args below meth c H locs 0 0 Q (F0 m 57 ls []) := by
    intro c10 H locs ls hf hW hl
    rw [ek11] at hf
    refine lv_aload_n hx hb dX1_arrange_57 rfl (lv_at hl 0 rfl) ?_
    refine lv_aload_n hx hb dX1_arrange_58 rfl (lv_at hl 0 rfl) ?_
    refine sp_get S hK hW inX1 0 rfl rfl 6 (by decide) lk2 rfl dX1_arrange_59 ?_
    refine lv_iconst (v := 0) hx hb dX1_arrange_62 (by decide) ?_
    obtain ⟨hin, v12, ev12, hf⟩ := sp_hld hf
    refine sp_bald S hK hW 5 rfl hin ev12 dX1_arrange_63 ?_
    refine sp_put S hK hW inX1 tyX1_ok nmX1 0 rfl rfl 2 (by decide) lk3 rfl rfl rfl (Nat.le_of_ble_eq_true rfl) (ws' := sw_O a q5 ro c1 v12 c2 c3 c4 c10 ++ (sw_P d q5 cl2 le2 ri2 lt2 gr2 ct2 gc2)) rfl dX1_arrange_64 (fun H locs hW => ?_)
    refine lv_aload_n hx hb dX1_arrange_67 rfl (lv_at hl 0 rfl) ?_
    obtain ⟨c13, hc13, hf⟩ := sp_hc hf
    refine sp_callVvP (rest := []) S hK hG hA hW (c_X1_fillRow a ro c1 v12 c2 c3 c4 c10 hc13) (by decide) (cwV 0 S.2.2.2.2 gX1_arrange_X1_fillRow rfl rfl rfl (by decide +kernel) (by decide)) 0 0 rfl rfl (sp_pq [sw_O a q5 ro c1 v12 c2 c3 c4 c10, sw_P d q5 cl2 le2 ri2 lt2 gr2 ct2 gc2] [0, 1] [0] [1] (by decide)) rfl (WS' := sw_O a q5 c13 c1 v12 c2 c3 c4 c10 ++ (sw_P d q5 cl2 le2 ri2 lt2 gr2 ct2 gc2)) (sp_pq' [sw_O a q5 c13 c1 v12 c2 c3 c4 c10, sw_P d q5 cl2 le2 ri2 lt2 gr2 ct2 gc2] [0, 1] [0] [1] (by decide)) rfl hl.1 (Nat.le_of_ble_eq_true rfl) dX1_arrange_68 ⟨Nat.zero_le _, Nat.zero_le _⟩ rfl (fun H locs hW => ?_)
    cases hf
    exact sp_vret S hr hlk hW hQ dX1_arrange_71
  have hlp25 : ∀ (n9 : Nat) (y8 : Int32) (c9 : Nat → Int32) (H : Heap) (locs : List Loc) (ls : Array Slot), sp_lp (f_X1_arrange_L25 k11 c1 c4 c3) n9 (y8, c9) = some (ro', mn', ls9', li', ne', us', ah') → sp_wd D A s.heap (sw_O a q5 ro c1 ls9 c2 c3 c4 c9 ++ (sw_P d q5 cl2 le2 ri2 lt2 gr2 ct2 gc2)) H locs → lv_has ls 4 [(0, .ref (a 0)), (3, .int y8)] → W p l e rmX1_arrange s m args below meth c H locs 0 0 Q (F0 m 25 ls []) := by
    intro n9
    induction n9 with
    | zero =>
      intro y8 c9 H locs ls hf hW hl
      exact (sp_lp0 hf).elim
    | succ n9 ih25 =>
      intro y8 c9 H locs ls hf hW hl
      have hf := sp_lpS hf
      rw [f_X1_arrange_L25_eq] at hf
      refine lv_iload_n hx hb dX1_arrange_25 rfl (lv_at hl 1 rfl) ?_
      refine lv_if_lt (tgt := 57) hx hb dX1_arrange_26 (by decide) (fun hc => ?_) (fun hc => ?_)
      · have hf := sp_ht hf hc
        exact hj11 _ _ _ _ hf hW (lv_sub hl [0] rfl)
      · have hf := sp_hf hf hc
        refine lv_aload_n hx hb dX1_arrange_29 rfl (lv_at hl 0 rfl) ?_
        refine sp_get S hK hW inX1 0 rfl rfl 6 (by decide) lk2 rfl dX1_arrange_30 ?_
        refine lv_iload_n hx hb dX1_arrange_33 rfl (lv_at hl 1 rfl) ?_
        refine lv_iconst (v := 1) hx hb dX1_arrange_34 (by decide) ?_
        refine lv_aload_n hx hb dX1_arrange_35 rfl (lv_at hl 0 rfl) ?_
        refine lv_iload_n hx hb dX1_arrange_36 rfl (lv_at hl 1 rfl) ?_
        obtain ⟨r14, hc14, hf⟩ := sp_hc hf
        refine sp_callViP (rest := [.int (1 : Int32), .int y8, .ref (a 5)]) S hK hG hA hW (c_X1_keptOf a ro c1 ls9 c2 c3 c4 c9 y8 hc14) (by decide) (cwV 1 S.2.2.2.2 gX1_arrange_X1_keptOf rfl rfl rfl (by decide +kernel) (by decide)) 0 0 rfl rfl (sp_pq [sw_O a q5 ro c1 ls9 c2 c3 c4 c9, sw_P d q5 cl2 le2 ri2 lt2 gr2 ct2 gc2] [0, 1] [0] [1] (by decide)) rfl (WS' := sw_O a q5 ro c1 ls9 c2 c3 c4 c9 ++ (sw_P d q5 cl2 le2 ri2 lt2 gr2 ct2 gc2)) (sp_pq' [sw_O a q5 ro c1 ls9 c2 c3 c4 c9, sw_P d q5 cl2 le2 ri2 lt2 gr2 ct2 gc2] [0, 1] [0] [1] (by decide)) rfl hl.1 (Nat.le_of_ble_eq_true rfl) dX1_arrange_37 ⟨Nat.zero_le _, Nat.zero_le _⟩ rfl (fun H locs hW => ?_)
        refine lv_iadd hx hb dX1_arrange_40 ?_
        refine lv_aload_n hx hb dX1_arrange_41 rfl (lv_at hl 0 rfl) ?_
        refine lv_iload_n hx hb dX1_arrange_42 rfl (lv_at hl 1 rfl) ?_
        obtain ⟨r15, hc15, hf⟩ := sp_hc hf
        refine sp_callViP (rest := [.int ((1 : Int32) + r14), .int y8, .ref (a 5)]) S hK hG hA hW (c_X1_leastBehind a ro c1 ls9 c2 c3 c4 c9 y8 hc15) (by decide) (cwV 1 S.2.2.2.2 gX1_arrange_X1_leastBehind rfl rfl rfl (by decide +kernel) (by decide)) 0 0 rfl rfl (sp_pq [sw_O a q5 ro c1 ls9 c2 c3 c4 c9, sw_P d q5 cl2 le2 ri2 lt2 gr2 ct2 gc2] [0, 1] [0] [1] (by decide)) rfl (WS' := sw_O a q5 ro c1 ls9 c2 c3 c4 c9 ++ (sw_P d q5 cl2 le2 ri2 lt2 gr2 ct2 gc2)) (sp_pq' [sw_O a q5 ro c1 ls9 c2 c3 c4 c9, sw_P d q5 cl2 le2 ri2 lt2 gr2 ct2 gc2] [0, 1] [0] [1] (by decide)) rfl hl.1 (Nat.le_of_ble_eq_true rfl) dX1_arrange_43 ⟨Nat.zero_le _, Nat.zero_le _⟩ rfl (fun H locs hW => ?_)
        refine sp_mmax S hl.1 lk4 lk5 lk6 lk7 (by decide) (Nat.le_of_ble_eq_true rfl) (Nat.zero_le _) (Nat.zero_le _) dX1_arrange_46 ?_
        refine lv_i2b hx hb dX1_arrange_49 rfl ?_
        obtain ⟨hin, c16, ec16, hf⟩ := sp_hstB hf
        refine sp_bast S hK hW 5 rfl hin ec16 (ws' := sw_O a q5 ro c1 ls9 c2 c3 c4 c16 ++ (sw_P d q5 cl2 le2 ri2 lt2 gr2 ct2 gc2)) rfl dX1_arrange_50 (fun H locs hW => ?_)
        obtain ⟨v17, ev17, hf⟩ := sp_hb hf
        refine lv_iinc (v := v17) (lv' := [(3, .int v17), (0, .ref (a 0))]) hx hb dX1_arrange_51 hl (k := 1) rfl (by rw [ev17]; rfl) (by decide) rfl (fun ls hl => ?_)
        refine lv_goto (tgt := 25) hx hb dX1_arrange_54 (by decide) ?_
        exact ih25 _ _ _ _ _ hf hW (lv_sub hl [1, 0] rfl)
  exact hlp25 _ _ _ _ _ _ hf hW (lv_sub hl [2, 0] rfl)

def f_X6_signsOf_L4 (ct2 : Int32) (k4 : Int32 → Option (Int32)) (cl2 : Nat → Int32) (rec4 : (Int32 × Int32) → Option (Int32)) (s9 : Int32 × Int32) : Option (Int32) := match s9 with
  | (y1, y2) => if ct2 ≤ y2 then (k4 y1) else (sp_ld cl2 48 y2 (fun v5 => Option.bind (f_J6_bitCount_0f7a4 v5) (fun r6 => sp_bnd (y1 + r6) (fun v7 => sp_bnd (y2 + (1 : Int32)) (fun v8 => rec4 (v7, v8))))))
theorem f_X6_signsOf_L4_eq {rec4 : (Int32 × Int32) → Option (Int32)} {ct2 : Int32} {k4 : Int32 → Option (Int32)} {cl2 : Nat → Int32} {y1 : Int32} {y2 : Int32} : f_X6_signsOf_L4 ct2 k4 cl2 rec4 (y1, y2) = (if ct2 ≤ y2 then (k4 y1) else (sp_ld cl2 48 y2 (fun v5 => Option.bind (f_J6_bitCount_0f7a4 v5) (fun r6 => sp_bnd (y1 + r6) (fun v7 => sp_bnd (y2 + (1 : Int32)) (fun v8 => rec4 (v7, v8))))))) := rfl
def f_X6_signsOf (cl2 : Nat → Int32) (ct2 : Int32) : Option (Int32) := sp_bnd (fun (x3 : Int32) => some x3) (fun k4 => sp_lp (f_X6_signsOf_L4 ct2 k4 cl2) sp_F ((0 : Int32), (0 : Int32)))
def rmX6_signsOf : Room := { frames := 1, cells := 0, slots := 0, locals := 20 }
set_option maxRecDepth 4000 in
theorem c_X6_signsOf {l : Launch} {D : va_G} {q5 : Nat → ClassId} (d : Nat → Nat) (cl2 : Nat → Int32) (le2 : Nat → Int32) (ri2 : Nat → Int32) (lt2 : Nat → Int32) (gr2 : Nat → Int32) (ct2 : Int32) (gc2 : Int32) {r' : Int32} (hf : f_X6_signsOf cl2 ct2 = some r') : sp_Ci l yX6_signsOf wsX6_signsOf rmX6_signsOf D q5 0 [.ref (d 0)] (sw_P d q5 cl2 le2 ri2 lt2 gr2 ct2 gc2) r' (sw_P d q5 cl2 le2 ri2 lt2 gr2 ct2 gc2) := by
  intro sz
  refine sp_of (cc := cX6_signsOf) (maxL := 3) (ret := some .int) (own := RX6) (Qc := sp_Qi D r' (sw_P d q5 cl2 le2 ri2 lt2 gr2 ct2 gc2)) (by decide) rfl rfl (Nat.le_of_ble_eq_true rfl) ?_
  intro p e s m args below meth c A ls Q hQ S hr hlk hK hG hA hW hl
  have hx := S.1
  have hb := S.2.1
  unfold f_X6_signsOf at hf
  have inX2 : ∀ w ∈ u_ws RX2 TX2 7, w ∈ wsX6_signsOf := (fun _ h => List.mem_cons_of_mem _ (List.mem_append_right _ h))
  have lk1 := S.2.2.2.2 (Cond.fieldLink RX6 18 "ShortProofs$Proof" "count" "I") (List.mem_of_getElem? (i := 1) rfl)
  have lk2 := S.2.2.2.2 (Cond.fieldLink RX6 24 "ShortProofs$Proof" "clauses" "[I") (List.mem_of_getElem? (i := 2) rfl)
  refine lv_iconst (v := 0) hx hb dX6_signsOf_0 (by decide) ?_
  refine lv_istore_n (lv' := [(1, .int (0 : Int32)), (0, .ref (d 0))]) hx hb dX6_signsOf_1 rfl hl (by decide) rfl (fun ls hl => ?_)
  refine lv_iconst (v := 0) hx hb dX6_signsOf_2 (by decide) ?_
  refine lv_istore_n (lv' := [(2, .int (0 : Int32)), (1, .int (0 : Int32)), (0, .ref (d 0))]) hx hb dX6_signsOf_3 rfl hl (by decide) rfl (fun ls hl => ?_)
  obtain ⟨k4, ek4, hf⟩ := sp_hb hf
  have hj4 : ∀ (x3 : Int32) (H : Heap) (locs : List Loc) (ls : Array Slot), k4 x3 = some r' → sp_wd D A s.heap (sw_P d q5 cl2 le2 ri2 lt2 gr2 ct2 gc2) H locs → lv_has ls 3 [(1, .int x3)] → W p l e rmX6_signsOf s m args below meth c H locs 0 0 Q (F0 m 30 ls []) := by
    intro x3 H locs ls hf hW hl
    rw [ek4] at hf
    refine lv_iload_n hx hb dX6_signsOf_30 rfl (lv_at hl 0 rfl) ?_
    cases hf
    exact sp_iret S hr hlk hW hQ dX6_signsOf_31
  have hlp4 : ∀ (n9 : Nat) (y1 : Int32) (y2 : Int32) (H : Heap) (locs : List Loc) (ls : Array Slot), sp_lp (f_X6_signsOf_L4 ct2 k4 cl2) n9 (y1, y2) = some r' → sp_wd D A s.heap (sw_P d q5 cl2 le2 ri2 lt2 gr2 ct2 gc2) H locs → lv_has ls 3 [(0, .ref (d 0)), (1, .int y1), (2, .int y2)] → W p l e rmX6_signsOf s m args below meth c H locs 0 0 Q (F0 m 4 ls []) := by
    intro n9
    induction n9 with
    | zero =>
      intro y1 y2 H locs ls hf hW hl
      exact (sp_lp0 hf).elim
    | succ n9 ih4 =>
      intro y1 y2 H locs ls hf hW hl
      have hf := sp_lpS hf
      rw [f_X6_signsOf_L4_eq] at hf
      refine lv_iload_n hx hb dX6_signsOf_4 rfl (lv_at hl 2 rfl) ?_
      refine lv_aload_n hx hb dX6_signsOf_5 rfl (lv_at hl 0 rfl) ?_
      refine sp_get S hK hW inX2 0 rfl rfl 5 (by decide) lk1 rfl dX6_signsOf_6 ?_
      refine lv_icmp_ge (tgt := 30) hx hb dX6_signsOf_9 (by decide) (fun hc => ?_) (fun hc => ?_)
      · have hf := sp_ht hf hc
        exact hj4 _ _ _ _ hf hW (lv_sub hl [1] rfl)
      · have hf := sp_hf hf hc
        refine lv_iload_n hx hb dX6_signsOf_12 rfl (lv_at hl 1 rfl) ?_
        refine lv_aload_n hx hb dX6_signsOf_13 rfl (lv_at hl 0 rfl) ?_
        refine sp_get S hK hW inX2 0 rfl rfl 0 (by decide) lk2 rfl dX6_signsOf_14 ?_
        refine lv_iload_n hx hb dX6_signsOf_17 rfl (lv_at hl 2 rfl) ?_
        obtain ⟨hin, v5, ev5, hf⟩ := sp_hld hf
        refine sp_iald S hK hW 1 rfl hin ev5 dX6_signsOf_18 ?_
        obtain ⟨r6, hc6, hf⟩ := sp_hc hf
        refine sp_callSi (rest := [.int y1]) S hK hG hA hW (c_J6_bitCount_0f7a4 v5 hc6) (by decide) (va_cwS 1 S.2.2.2.2 gX6_signsOf_J6_bitCount_0f7a4 rfl rfl rfl (by decide +kernel) (by decide)) (isC := []) rfl rfl rfl (WS' := sw_P d q5 cl2 le2 ri2 lt2 gr2 ct2 gc2) rfl rfl hl.1 (Nat.le_of_ble_eq_true rfl) dX6_signsOf_19 ⟨Nat.zero_le _, Nat.zero_le _⟩ rfl (fun H locs hW => ?_)
        refine lv_iadd hx hb dX6_signsOf_22 ?_
        obtain ⟨v7, ev7, hf⟩ := sp_hb hf
        refine sp_topi ev7 ?_
        refine lv_istore_n (lv' := [(1, .int v7), (0, .ref (d 0)), (2, .int y2)]) hx hb dX6_signsOf_23 rfl hl (by decide) rfl (fun ls hl => ?_)
        obtain ⟨v8, ev8, hf⟩ := sp_hb hf
        refine lv_iinc (v := v8) (lv' := [(2, .int v8), (1, .int v7), (0, .ref (d 0))]) hx hb dX6_signsOf_24 hl (k := 2) rfl (by rw [ev8]; rfl) (by decide) rfl (fun ls hl => ?_)
        refine lv_goto (tgt := 4) hx hb dX6_signsOf_27 (by decide) ?_
        exact ih4 _ _ _ _ _ hf hW (lv_sub hl [2, 1, 0] rfl)
  exact hlp4 _ _ _ _ _ _ hf hW (lv_sub hl [2, 1, 0] rfl)

def f_X6_widestOf_L4 (ct2 : Int32) (k4 : Int32 → Option (Int32)) (cl2 : Nat → Int32) (rec4 : (Int32 × Int32) → Option (Int32)) (s9 : Int32 × Int32) : Option (Int32) := match s9 with
  | (y1, y2) => if ct2 ≤ y2 then (k4 y1) else (sp_ld cl2 48 y2 (fun v5 => Option.bind (f_J6_bitCount_0f7a4 v5) (fun r6 => sp_bnd (if y1 < r6 then r6 else y1) (fun v7 => sp_bnd (y2 + (1 : Int32)) (fun v8 => rec4 (v7, v8))))))
theorem f_X6_widestOf_L4_eq {rec4 : (Int32 × Int32) → Option (Int32)} {ct2 : Int32} {k4 : Int32 → Option (Int32)} {cl2 : Nat → Int32} {y1 : Int32} {y2 : Int32} : f_X6_widestOf_L4 ct2 k4 cl2 rec4 (y1, y2) = (if ct2 ≤ y2 then (k4 y1) else (sp_ld cl2 48 y2 (fun v5 => Option.bind (f_J6_bitCount_0f7a4 v5) (fun r6 => sp_bnd (if y1 < r6 then r6 else y1) (fun v7 => sp_bnd (y2 + (1 : Int32)) (fun v8 => rec4 (v7, v8))))))) := rfl
def f_X6_widestOf (cl2 : Nat → Int32) (ct2 : Int32) : Option (Int32) := sp_bnd (fun (x3 : Int32) => some x3) (fun k4 => sp_lp (f_X6_widestOf_L4 ct2 k4 cl2) sp_F ((0 : Int32), (0 : Int32)))
def rmX6_widestOf : Room := { frames := 1, cells := 0, slots := 0, locals := 21 }
set_option maxRecDepth 4000 in
theorem c_X6_widestOf {l : Launch} {D : va_G} {q5 : Nat → ClassId} (d : Nat → Nat) (cl2 : Nat → Int32) (le2 : Nat → Int32) (ri2 : Nat → Int32) (lt2 : Nat → Int32) (gr2 : Nat → Int32) (ct2 : Int32) (gc2 : Int32) {r' : Int32} (hf : f_X6_widestOf cl2 ct2 = some r') : sp_Ci l yX6_widestOf wsX6_widestOf rmX6_widestOf D q5 0 [.ref (d 0)] (sw_P d q5 cl2 le2 ri2 lt2 gr2 ct2 gc2) r' (sw_P d q5 cl2 le2 ri2 lt2 gr2 ct2 gc2) := by
  intro sz
  refine sp_of (cc := cX6_widestOf) (maxL := 3) (ret := some .int) (own := RX6) (Qc := sp_Qi D r' (sw_P d q5 cl2 le2 ri2 lt2 gr2 ct2 gc2)) (by decide) rfl rfl (Nat.le_of_ble_eq_true rfl) ?_
  intro p e s m args below meth c A ls Q hQ S hr hlk hK hG hA hW hl
  have hx := S.1
  have hb := S.2.1
  unfold f_X6_widestOf at hf
  have inX2 : ∀ w ∈ u_ws RX2 TX2 7, w ∈ wsX6_widestOf := (fun _ h => List.mem_cons_of_mem _ (List.mem_append_right _ h))
  have lk1 := S.2.2.2.2 (Cond.fieldLink RX6 18 "ShortProofs$Proof" "count" "I") (List.mem_of_getElem? (i := 1) rfl)
  have lk2 := S.2.2.2.2 (Cond.fieldLink RX6 24 "ShortProofs$Proof" "clauses" "[I") (List.mem_of_getElem? (i := 2) rfl)
  have lk3 := S.2.2.2.2 (Cond.methodLink RX6 33 Lib.Math.max.name) (List.mem_of_getElem? (i := 3) rfl)
  have lk4 := S.2.2.2.2 (Cond.static Lib.Math.max.name) (List.mem_of_getElem? (i := 4) rfl)
  have lk5 := S.2.2.2.2 (Cond.initialized "java/lang/Math") (List.mem_of_getElem? (i := 5) rfl)
  have lk6 := S.2.2.2.2 (Cond.code Lib.Math.max.name Lib.Math.max.code 2 (some .int)) (List.mem_of_getElem? (i := 6) rfl)
  refine lv_iconst (v := 0) hx hb dX6_widestOf_0 (by decide) ?_
  refine lv_istore_n (lv' := [(1, .int (0 : Int32)), (0, .ref (d 0))]) hx hb dX6_widestOf_1 rfl hl (by decide) rfl (fun ls hl => ?_)
  refine lv_iconst (v := 0) hx hb dX6_widestOf_2 (by decide) ?_
  refine lv_istore_n (lv' := [(2, .int (0 : Int32)), (1, .int (0 : Int32)), (0, .ref (d 0))]) hx hb dX6_widestOf_3 rfl hl (by decide) rfl (fun ls hl => ?_)
  obtain ⟨k4, ek4, hf⟩ := sp_hb hf
  have hj4 : ∀ (x3 : Int32) (H : Heap) (locs : List Loc) (ls : Array Slot), k4 x3 = some r' → sp_wd D A s.heap (sw_P d q5 cl2 le2 ri2 lt2 gr2 ct2 gc2) H locs → lv_has ls 3 [(1, .int x3)] → W p l e rmX6_widestOf s m args below meth c H locs 0 0 Q (F0 m 32 ls []) := by
    intro x3 H locs ls hf hW hl
    rw [ek4] at hf
    refine lv_iload_n hx hb dX6_widestOf_32 rfl (lv_at hl 0 rfl) ?_
    cases hf
    exact sp_iret S hr hlk hW hQ dX6_widestOf_33
  have hlp4 : ∀ (n9 : Nat) (y1 : Int32) (y2 : Int32) (H : Heap) (locs : List Loc) (ls : Array Slot), sp_lp (f_X6_widestOf_L4 ct2 k4 cl2) n9 (y1, y2) = some r' → sp_wd D A s.heap (sw_P d q5 cl2 le2 ri2 lt2 gr2 ct2 gc2) H locs → lv_has ls 3 [(0, .ref (d 0)), (1, .int y1), (2, .int y2)] → W p l e rmX6_widestOf s m args below meth c H locs 0 0 Q (F0 m 4 ls []) := by
    intro n9
    induction n9 with
    | zero =>
      intro y1 y2 H locs ls hf hW hl
      exact (sp_lp0 hf).elim
    | succ n9 ih4 =>
      intro y1 y2 H locs ls hf hW hl
      have hf := sp_lpS hf
      rw [f_X6_widestOf_L4_eq] at hf
      refine lv_iload_n hx hb dX6_widestOf_4 rfl (lv_at hl 2 rfl) ?_
      refine lv_aload_n hx hb dX6_widestOf_5 rfl (lv_at hl 0 rfl) ?_
      refine sp_get S hK hW inX2 0 rfl rfl 5 (by decide) lk1 rfl dX6_widestOf_6 ?_
      refine lv_icmp_ge (tgt := 32) hx hb dX6_widestOf_9 (by decide) (fun hc => ?_) (fun hc => ?_)
      · have hf := sp_ht hf hc
        exact hj4 _ _ _ _ hf hW (lv_sub hl [1] rfl)
      · have hf := sp_hf hf hc
        refine lv_iload_n hx hb dX6_widestOf_12 rfl (lv_at hl 1 rfl) ?_
        refine lv_aload_n hx hb dX6_widestOf_13 rfl (lv_at hl 0 rfl) ?_
        refine sp_get S hK hW inX2 0 rfl rfl 0 (by decide) lk2 rfl dX6_widestOf_14 ?_
        refine lv_iload_n hx hb dX6_widestOf_17 rfl (lv_at hl 2 rfl) ?_
        obtain ⟨hin, v5, ev5, hf⟩ := sp_hld hf
        refine sp_iald S hK hW 1 rfl hin ev5 dX6_widestOf_18 ?_
        obtain ⟨r6, hc6, hf⟩ := sp_hc hf
        refine sp_callSi (rest := [.int y1]) S hK hG hA hW (c_J6_bitCount_0f7a4 v5 hc6) (by decide) (va_cwS 1 S.2.2.2.2 gX6_widestOf_J6_bitCount_0f7a4 rfl rfl rfl (by decide +kernel) (by decide)) (isC := []) rfl rfl rfl (WS' := sw_P d q5 cl2 le2 ri2 lt2 gr2 ct2 gc2) rfl rfl hl.1 (Nat.le_of_ble_eq_true rfl) dX6_widestOf_19 ⟨Nat.zero_le _, Nat.zero_le _⟩ rfl (fun H locs hW => ?_)
        refine sp_mmax S hl.1 lk3 lk4 lk5 lk6 (by decide) (Nat.le_of_ble_eq_true rfl) (Nat.zero_le _) (Nat.zero_le _) dX6_widestOf_22 ?_
        obtain ⟨v7, ev7, hf⟩ := sp_hb hf
        refine sp_topi ev7 ?_
        refine lv_istore_n (lv' := [(1, .int v7), (0, .ref (d 0)), (2, .int y2)]) hx hb dX6_widestOf_25 rfl hl (by decide) rfl (fun ls hl => ?_)
        obtain ⟨v8, ev8, hf⟩ := sp_hb hf
        refine lv_iinc (v := v8) (lv' := [(2, .int v8), (1, .int v7), (0, .ref (d 0))]) hx hb dX6_widestOf_26 hl (k := 2) rfl (by rw [ev8]; rfl) (by decide) rfl (fun ls hl => ?_)
        refine lv_goto (tgt := 4) hx hb dX6_widestOf_29 (by decide) ?_
        exact ih4 _ _ _ _ _ hf hW (lv_sub hl [2, 1, 0] rfl)
  exact hlp4 _ _ _ _ _ _ hf hW (lv_sub hl [2, 1, 0] rfl)

def f_X6_deepOf_L2 (ct2 : Int32) (k4 : (Nat → Int32) → Option (Int32 × (Nat → Int32))) (le2 : Nat → Int32) (ri2 : Nat → Int32) (rec2 : (Int32 × (Nat → Int32)) → Option (Int32 × (Nat → Int32))) (s9 : Int32 × (Nat → Int32)) : Option (Int32 × (Nat → Int32)) := match s9 with
  | (y1, c2) => if ct2 ≤ y1 then (k4 c2) else (Option.bind (f_X2_isGround y1 le2) (fun r6 => sp_bnd (fun (x7 : Int32) => sp_st c2 48 y1 x7 (fun c9 => sp_bnd (y1 + (1 : Int32)) (fun v10 => rec2 (v10, c9)))) (fun k8 => if r6 = 0 then (sp_ld le2 48 y1 (fun v11 => sp_ld c2 48 v11 (fun v12 => sp_ld ri2 48 y1 (fun v13 => sp_ld c2 48 v13 (fun v14 => k8 ((1 : Int32) + (if v12 < v14 then v14 else v12))))))) else (k8 (0 : Int32)))))
theorem f_X6_deepOf_L2_eq {rec2 : (Int32 × (Nat → Int32)) → Option (Int32 × (Nat → Int32))} {ct2 : Int32} {k4 : (Nat → Int32) → Option (Int32 × (Nat → Int32))} {le2 : Nat → Int32} {ri2 : Nat → Int32} {y1 : Int32} {c2 : Nat → Int32} : f_X6_deepOf_L2 ct2 k4 le2 ri2 rec2 (y1, c2) = (if ct2 ≤ y1 then (k4 c2) else (Option.bind (f_X2_isGround y1 le2) (fun r6 => sp_bnd (fun (x7 : Int32) => sp_st c2 48 y1 x7 (fun c9 => sp_bnd (y1 + (1 : Int32)) (fun v10 => rec2 (v10, c9)))) (fun k8 => if r6 = 0 then (sp_ld le2 48 y1 (fun v11 => sp_ld c2 48 v11 (fun v12 => sp_ld ri2 48 y1 (fun v13 => sp_ld c2 48 v13 (fun v14 => k8 ((1 : Int32) + (if v12 < v14 then v14 else v12))))))) else (k8 (0 : Int32)))))) := rfl
def f_X6_deepOf (de : Nat → Int32) (le2 : Nat → Int32) (ri2 : Nat → Int32) (ct2 : Int32) : Option (Int32 × (Nat → Int32)) := sp_bnd (fun (c3 : Nat → Int32) => sp_ld c3 48 (ct2 - (1 : Int32)) (fun v5 => some (v5, c3))) (fun k4 => sp_lp (f_X6_deepOf_L2 ct2 k4 le2 ri2) sp_F ((0 : Int32), de))
def rmX6_deepOf : Room := { frames := 1, cells := 0, slots := 0, locals := 21 }
set_option maxRecDepth 4000 in
theorem c_X6_deepOf {l : Launch} {D : va_G} {q5 : Nat → ClassId} (a : Nat → Nat) (d : Nat → Nat) (de : Nat → Int32) (lu : Nat → Int32) (cl2 : Nat → Int32) (le2 : Nat → Int32) (ri2 : Nat → Int32) (lt2 : Nat → Int32) (gr2 : Nat → Int32) (ct2 : Int32) (gc2 : Int32) {r' : Int32} {de' : Nat → Int32} (hf : f_X6_deepOf de le2 ri2 ct2 = some (r', de')) : sp_Ci l yX6_deepOf wsX6_deepOf rmX6_deepOf D q5 0 [.ref (a 0), .ref (d 0)] (sw_Z a q5 de lu ++ (sw_P d q5 cl2 le2 ri2 lt2 gr2 ct2 gc2)) r' (sw_Z a q5 de' lu ++ (sw_P d q5 cl2 le2 ri2 lt2 gr2 ct2 gc2)) := by
  intro sz
  refine sp_of (cc := cX6_deepOf) (maxL := 3) (ret := some .int) (own := RX6) (Qc := sp_Qi D r' (sw_Z a q5 de' lu ++ (sw_P d q5 cl2 le2 ri2 lt2 gr2 ct2 gc2))) (by decide) rfl rfl (Nat.le_of_ble_eq_true rfl) ?_
  intro p e s m args below meth c A ls Q hQ S hr hlk hK hG hA hW hl
  have hx := S.1
  have hb := S.2.1
  unfold f_X6_deepOf at hf
  have inX2 : ∀ w ∈ u_ws RX2 TX2 7, w ∈ wsX6_deepOf := (fun _ h => List.mem_cons_of_mem _ (List.mem_append_left _ (List.mem_append_right _ h)))
  have inX6 : ∀ w ∈ u_ws RX6 TX6 2, w ∈ wsX6_deepOf := (fun _ h => List.mem_cons_of_mem _ (List.mem_append_right _ h))
  have lk1 := S.2.2.2.2 (Cond.fieldLink RX6 9 "ShortProofs$Sizes" "deep" "[I") (List.mem_of_getElem? (i := 2) rfl)
  have lk2 := S.2.2.2.2 (Cond.fieldLink RX6 18 "ShortProofs$Proof" "count" "I") (List.mem_of_getElem? (i := 1) rfl)
  have lk3 := S.2.2.2.2 (Cond.fieldLink RX6 43 "ShortProofs$Proof" "lefts" "[I") (List.mem_of_getElem? (i := 3) rfl)
  have lk4 := S.2.2.2.2 (Cond.fieldLink RX6 46 "ShortProofs$Proof" "rights" "[I") (List.mem_of_getElem? (i := 4) rfl)
  have lk5 := S.2.2.2.2 (Cond.methodLink RX6 33 Lib.Math.max.name) (List.mem_of_getElem? (i := 5) rfl)
  have lk6 := S.2.2.2.2 (Cond.static Lib.Math.max.name) (List.mem_of_getElem? (i := 6) rfl)
  have lk7 := S.2.2.2.2 (Cond.initialized "java/lang/Math") (List.mem_of_getElem? (i := 7) rfl)
  have lk8 := S.2.2.2.2 (Cond.code Lib.Math.max.name Lib.Math.max.code 2 (some .int)) (List.mem_of_getElem? (i := 8) rfl)
  refine lv_iconst (v := 0) hx hb dX6_deepOf_0 (by decide) ?_
  refine lv_istore_n (lv' := [(2, .int (0 : Int32)), (0, .ref (a 0)), (1, .ref (d 0))]) hx hb dX6_deepOf_1 rfl hl (by decide) rfl (fun ls hl => ?_)
  obtain ⟨k4, ek4, hf⟩ := sp_hb hf
  have hj4 : ∀ (c3 : Nat → Int32) (H : Heap) (locs : List Loc) (ls : Array Slot), k4 c3 = some (r', de') → sp_wd D A s.heap (sw_Z a q5 c3 lu ++ (sw_P d q5 cl2 le2 ri2 lt2 gr2 ct2 gc2)) H locs → lv_has ls 3 [(0, .ref (a 0)), (1, .ref (d 0))] → W p l e rmX6_deepOf s m args below meth c H locs 0 0 Q (F0 m 61 ls []) := by
    intro c3 H locs ls hf hW hl
    rw [ek4] at hf
    refine lv_aload_n hx hb dX6_deepOf_61 rfl (lv_at hl 0 rfl) ?_
    refine sp_get S hK hW inX6 0 rfl rfl 0 (by decide) lk1 rfl dX6_deepOf_62 ?_
    refine lv_aload_n hx hb dX6_deepOf_65 rfl (lv_at hl 1 rfl) ?_
    refine sp_get S hK hW inX2 3 rfl rfl 5 (by decide) lk2 rfl dX6_deepOf_66 ?_
    refine lv_iconst (v := 1) hx hb dX6_deepOf_69 (by decide) ?_
    refine lv_isub hx hb dX6_deepOf_70 ?_
    obtain ⟨hin, v5, ev5, hf⟩ := sp_hld hf
    refine sp_iald S hK hW 1 rfl hin ev5 dX6_deepOf_71 ?_
    cases hf
    exact sp_iret S hr hlk hW hQ dX6_deepOf_72
  have hlp2 : ∀ (n9 : Nat) (y1 : Int32) (c2 : Nat → Int32) (H : Heap) (locs : List Loc) (ls : Array Slot), sp_lp (f_X6_deepOf_L2 ct2 k4 le2 ri2) n9 (y1, c2) = some (r', de') → sp_wd D A s.heap (sw_Z a q5 c2 lu ++ (sw_P d q5 cl2 le2 ri2 lt2 gr2 ct2 gc2)) H locs → lv_has ls 3 [(0, .ref (a 0)), (1, .ref (d 0)), (2, .int y1)] → W p l e rmX6_deepOf s m args below meth c H locs 0 0 Q (F0 m 2 ls []) := by
    intro n9
    induction n9 with
    | zero =>
      intro y1 c2 H locs ls hf hW hl
      exact (sp_lp0 hf).elim
    | succ n9 ih2 =>
      intro y1 c2 H locs ls hf hW hl
      have hf := sp_lpS hf
      rw [f_X6_deepOf_L2_eq] at hf
      refine lv_iload_n hx hb dX6_deepOf_2 rfl (lv_at hl 2 rfl) ?_
      refine lv_aload_n hx hb dX6_deepOf_3 rfl (lv_at hl 1 rfl) ?_
      refine sp_get S hK hW inX2 3 rfl rfl 5 (by decide) lk2 rfl dX6_deepOf_4 ?_
      refine lv_icmp_ge (tgt := 61) hx hb dX6_deepOf_7 (by decide) (fun hc => ?_) (fun hc => ?_)
      · have hf := sp_ht hf hc
        exact hj4 _ _ _ _ hf hW (lv_sub hl [0, 1] rfl)
      · have hf := sp_hf hf hc
        refine lv_aload_n hx hb dX6_deepOf_10 rfl (lv_at hl 0 rfl) ?_
        refine sp_get S hK hW inX6 0 rfl rfl 0 (by decide) lk1 rfl dX6_deepOf_11 ?_
        refine lv_iload_n hx hb dX6_deepOf_14 rfl (lv_at hl 2 rfl) ?_
        refine lv_aload_n hx hb dX6_deepOf_15 rfl (lv_at hl 1 rfl) ?_
        refine lv_iload_n hx hb dX6_deepOf_16 rfl (lv_at hl 2 rfl) ?_
        obtain ⟨r6, hc6, hf⟩ := sp_hc hf
        refine sp_callViP (rest := [.int y1, .ref (a 1)]) S hK hG hA hW (c_X2_isGround d cl2 le2 ri2 lt2 gr2 ct2 gc2 y1 hc6) (by decide) (cwV 1 S.2.2.2.2 gX6_deepOf_X2_isGround rfl rfl rfl (by decide +kernel) (by decide)) 1 3 rfl rfl (sp_pq [sw_Z a q5 c2 lu, sw_P d q5 cl2 le2 ri2 lt2 gr2 ct2 gc2] [0, 1] [1] [0] (by decide)) rfl (WS' := sw_Z a q5 c2 lu ++ (sw_P d q5 cl2 le2 ri2 lt2 gr2 ct2 gc2)) (sp_pq' [sw_Z a q5 c2 lu, sw_P d q5 cl2 le2 ri2 lt2 gr2 ct2 gc2] [0, 1] [1] [0] (by decide)) rfl hl.1 (Nat.le_of_ble_eq_true rfl) dX6_deepOf_17 ⟨Nat.zero_le _, Nat.zero_le _⟩ rfl (fun H locs hW => ?_)
        obtain ⟨k8, ek8, hf⟩ := sp_hb hf
        have hj8 : ∀ (x7 : Int32) (H : Heap) (locs : List Loc) (ls : Array Slot), k8 x7 = some (r', de') → sp_wd D A s.heap (sw_Z a q5 c2 lu ++ (sw_P d q5 cl2 le2 ri2 lt2 gr2 ct2 gc2)) H locs → lv_has ls 3 [(0, .ref (a 0)), (1, .ref (d 0)), (2, .int y1)] → W p l e rmX6_deepOf s m args below meth c H locs 0 0 Q (F0 m 54 ls [.int x7, .int y1, .ref (a 1)]) := by
          intro x7 H locs ls hf hW hl
          rw [ek8] at hf
          obtain ⟨hin, c9, ec9, hf⟩ := sp_hst hf
          refine sp_iast S hK hW 1 rfl hin ec9 (ws' := sw_Z a q5 c9 lu ++ (sw_P d q5 cl2 le2 ri2 lt2 gr2 ct2 gc2)) rfl dX6_deepOf_54 (fun H locs hW => ?_)
          obtain ⟨v10, ev10, hf⟩ := sp_hb hf
          refine lv_iinc (v := v10) (lv' := [(2, .int v10), (0, .ref (a 0)), (1, .ref (d 0))]) hx hb dX6_deepOf_55 hl (k := 2) rfl (by rw [ev10]; rfl) (by decide) rfl (fun ls hl => ?_)
          refine lv_goto (tgt := 2) hx hb dX6_deepOf_58 (by decide) ?_
          exact ih2 _ _ _ _ _ hf hW (lv_sub hl [1, 2, 0] rfl)
        refine lv_if_eq (tgt := 27) hx hb dX6_deepOf_20 (by decide) (fun hc => ?_) (fun hc => ?_)
        · have hf := sp_ht hf hc
          refine lv_iconst (v := 1) hx hb dX6_deepOf_27 (by decide) ?_
          refine lv_aload_n hx hb dX6_deepOf_28 rfl (lv_at hl 0 rfl) ?_
          refine sp_get S hK hW inX6 0 rfl rfl 0 (by decide) lk1 rfl dX6_deepOf_29 ?_
          refine lv_aload_n hx hb dX6_deepOf_32 rfl (lv_at hl 1 rfl) ?_
          refine sp_get S hK hW inX2 3 rfl rfl 1 (by decide) lk3 rfl dX6_deepOf_33 ?_
          refine lv_iload_n hx hb dX6_deepOf_36 rfl (lv_at hl 2 rfl) ?_
          obtain ⟨hin, v11, ev11, hf⟩ := sp_hld hf
          refine sp_iald S hK hW 5 rfl hin ev11 dX6_deepOf_37 ?_
          obtain ⟨hin, v12, ev12, hf⟩ := sp_hld hf
          refine sp_iald S hK hW 1 rfl hin ev12 dX6_deepOf_38 ?_
          refine lv_aload_n hx hb dX6_deepOf_39 rfl (lv_at hl 0 rfl) ?_
          refine sp_get S hK hW inX6 0 rfl rfl 0 (by decide) lk1 rfl dX6_deepOf_40 ?_
          refine lv_aload_n hx hb dX6_deepOf_43 rfl (lv_at hl 1 rfl) ?_
          refine sp_get S hK hW inX2 3 rfl rfl 2 (by decide) lk4 rfl dX6_deepOf_44 ?_
          refine lv_iload_n hx hb dX6_deepOf_47 rfl (lv_at hl 2 rfl) ?_
          obtain ⟨hin, v13, ev13, hf⟩ := sp_hld hf
          refine sp_iald S hK hW 6 rfl hin ev13 dX6_deepOf_48 ?_
          obtain ⟨hin, v14, ev14, hf⟩ := sp_hld hf
          refine sp_iald S hK hW 1 rfl hin ev14 dX6_deepOf_49 ?_
          refine sp_mmax S hl.1 lk5 lk6 lk7 lk8 (by decide) (Nat.le_of_ble_eq_true rfl) (Nat.zero_le _) (Nat.zero_le _) dX6_deepOf_50 ?_
          refine lv_iadd hx hb dX6_deepOf_53 ?_
          exact hj8 _ _ _ _ hf hW (lv_sub hl [0, 1, 2] rfl)
        · have hf := sp_hf hf hc
          refine lv_iconst (v := 0) hx hb dX6_deepOf_23 (by decide) ?_
          refine lv_goto (tgt := 54) hx hb dX6_deepOf_24 (by decide) ?_
          exact hj8 _ _ _ _ hf hW (lv_sub hl [0, 1, 2] rfl)
  exact hlp2 _ _ _ _ _ _ hf hW (lv_sub hl [1, 2, 0] rfl)
