def f_X5_fillSafes_L52 (k12 : (Nat → Int32) → Option ((Nat → Int32))) (r2 : Int64) (le2 : Nat → Int32) (lt2 : Nat → Int32) (ri2 : Nat → Int32) (rec52 : (Int32 × (Nat → Int32)) → Option ((Nat → Int32))) (s9 : Int32 × (Nat → Int32)) : Option ((Nat → Int32)) := match s9 with
  | (y9, c10) => if y9 < 0 then (k12 c10) else (Option.bind (f_X9_isIn y9 r2) (fun r13 => sp_bnd (fun (c14 : Nat → Int32) => sp_bnd (y9 + (-1 : Int32)) (fun v16 => rec52 (v16, c14))) (fun k15 => if r13 = 0 then (k15 c10) else (Option.bind (f_X2_isGround y9 le2) (fun r17 => if r17 = 0 then (sp_ld le2 48 y9 (fun v18 => sp_ld c10 48 v18 (fun v19 => sp_ld c10 48 y9 (fun v20 => sp_ld lt2 48 y9 (fun v21 => Option.bind (f_X0_plain v21) (fun r22 => sp_st c10 48 v18 (v19 &&& (v20 ||| r22)) (fun c23 => sp_ld ri2 48 y9 (fun v24 => sp_ld c23 48 v24 (fun v25 => sp_ld c23 48 y9 (fun v26 => sp_ld lt2 48 y9 (fun v27 => Option.bind (f_X0_negated v27) (fun r28 => sp_st c23 48 v24 (v25 &&& (v26 ||| r28)) (fun c29 => k15 c29))))))))))))) else (k15 c10))))))
theorem f_X5_fillSafes_L52_eq {rec52 : (Int32 × (Nat → Int32)) → Option ((Nat → Int32))} {k12 : (Nat → Int32) → Option ((Nat → Int32))} {r2 : Int64} {le2 : Nat → Int32} {lt2 : Nat → Int32} {ri2 : Nat → Int32} {y9 : Int32} {c10 : Nat → Int32} : f_X5_fillSafes_L52 k12 r2 le2 lt2 ri2 rec52 (y9, c10) = (if y9 < 0 then (k12 c10) else (Option.bind (f_X9_isIn y9 r2) (fun r13 => sp_bnd (fun (c14 : Nat → Int32) => sp_bnd (y9 + (-1 : Int32)) (fun v16 => rec52 (v16, c14))) (fun k15 => if r13 = 0 then (k15 c10) else (Option.bind (f_X2_isGround y9 le2) (fun r17 => if r17 = 0 then (sp_ld le2 48 y9 (fun v18 => sp_ld c10 48 v18 (fun v19 => sp_ld c10 48 y9 (fun v20 => sp_ld lt2 48 y9 (fun v21 => Option.bind (f_X0_plain v21) (fun r22 => sp_st c10 48 v18 (v19 &&& (v20 ||| r22)) (fun c23 => sp_ld ri2 48 y9 (fun v24 => sp_ld c23 48 v24 (fun v25 => sp_ld c23 48 y9 (fun v26 => sp_ld lt2 48 y9 (fun v27 => Option.bind (f_X0_negated v27) (fun r28 => sp_st c23 48 v24 (v25 &&& (v26 ||| r28)) (fun c29 => k15 c29))))))))))))) else (k15 c10))))))) := rfl
def f_X5_fillSafes_L15 (v1 : Int32) (k6 : (Nat → Int32) → Option ((Nat → Int32))) (rec15 : (Int32 × (Nat → Int32)) → Option ((Nat → Int32))) (s9 : Int32 × (Nat → Int32)) : Option ((Nat → Int32)) := match s9 with
  | (y3, c4) => if v1 ≤ y3 then (k6 c4) else (sp_st c4 48 y3 (4095 : Int32) (fun c30 => sp_bnd (y3 + (1 : Int32)) (fun v31 => rec15 (v31, c30))))
theorem f_X5_fillSafes_L15_eq {rec15 : (Int32 × (Nat → Int32)) → Option ((Nat → Int32))} {v1 : Int32} {k6 : (Nat → Int32) → Option ((Nat → Int32))} {y3 : Int32} {c4 : Nat → Int32} : f_X5_fillSafes_L15 v1 k6 rec15 (y3, c4) = (if v1 ≤ y3 then (k6 c4) else (sp_st c4 48 y3 (4095 : Int32) (fun c30 => sp_bnd (y3 + (1 : Int32)) (fun v31 => rec15 (v31, c30))))) := rfl
def f_X5_fillSafes (sf : Nat → Int32) (cl2 : Nat → Int32) (le2 : Nat → Int32) (ri2 : Nat → Int32) (lt2 : Nat → Int32) (ct2 : Int32) : Option ((Nat → Int32)) := sp_bnd (ct2 - (1 : Int32)) (fun v1 => Option.bind (f_X2_restSet le2 ri2 ct2) (fun r2 => sp_bnd (fun (c5 : Nat → Int32) => sp_ld cl2 48 v1 (fun v7 => sp_st c5 48 v1 v7 (fun c8 => sp_bnd (fun (c11 : Nat → Int32) => some c11) (fun k12 => sp_lp (f_X5_fillSafes_L52 k12 r2 le2 lt2 ri2) sp_F (v1, c8))))) (fun k6 => sp_lp (f_X5_fillSafes_L15 v1 k6) sp_F ((0 : Int32), sf))))
def rmX5_fillSafes : Room := { frames := 3, cells := 0, slots := 0, locals := 66 }
set_option maxRecDepth 4000 in
theorem c_X5_fillSafes {l : Launch} {D : va_G} {q5 : Nat → ClassId} (a : Nat → Nat) (b : Nat → Nat) (d : Nat → Nat) (sd : Nat → Int32) (sf : Nat → Int32) (nu : Nat → Int32) (ut : Int64) (cl1 : Nat → Int32) (le1 : Nat → Int32) (ri1 : Nat → Int32) (lt1 : Nat → Int32) (gr1 : Nat → Int32) (ct1 : Int32) (gc1 : Int32) (cl2 : Nat → Int32) (le2 : Nat → Int32) (ri2 : Nat → Int32) (lt2 : Nat → Int32) (gr2 : Nat → Int32) (ct2 : Int32) (gc2 : Int32) {sf' : Nat → Int32} (hf : f_X5_fillSafes sf cl2 le2 ri2 lt2 ct2 = some sf') : sp_Cv l yX5_fillSafes wsX5_fillSafes rmX5_fillSafes D q5 1 [.ref (a 0), .ref (d 0)] (sw_T a (b 0) q5 sd sf nu ut ++ (sw_P b q5 cl1 le1 ri1 lt1 gr1 ct1 gc1 ++ (sw_P d q5 cl2 le2 ri2 lt2 gr2 ct2 gc2))) (sw_T a (b 0) q5 sd sf' nu ut ++ (sw_P b q5 cl1 le1 ri1 lt1 gr1 ct1 gc1 ++ (sw_P d q5 cl2 le2 ri2 lt2 gr2 ct2 gc2))) := by
  intro sz
  refine sp_of (cc := cX5_fillSafes) (maxL := 6) (ret := none) (own := RX5) (Qc := sp_Qv D (sw_T a (b 0) q5 sd sf' nu ut ++ (sw_P b q5 cl1 le1 ri1 lt1 gr1 ct1 gc1 ++ (sw_P d q5 cl2 le2 ri2 lt2 gr2 ct2 gc2)))) (by decide) rfl rfl (Nat.le_of_ble_eq_true rfl) ?_
  intro p e s m args below meth c A ls Q hQ S hr hlk hK hG hA hW hl
  have hx := S.1
  have hb := S.2.1
  unfold f_X5_fillSafes at hf
  have inX2 : ∀ w ∈ u_ws RX2 TX2 7, w ∈ wsX5_fillSafes := (fun _ h => List.mem_cons_of_mem _ (List.mem_append_left _ (List.mem_append_right _ h)))
  have inX5 : ∀ w ∈ u_ws RX5 TX5 5, w ∈ wsX5_fillSafes := (fun _ h => List.mem_cons_of_mem _ (List.mem_append_right _ h))
  have lk1 := S.2.2.2.2 (Cond.fieldLink RX5 47 "ShortProofs$Proof" "count" "I") (List.mem_of_getElem? (i := 1) rfl)
  have lk2 := S.2.2.2.2 (Cond.fieldLink RX5 22 "ShortProofs$Shortener" "safes" "[I") (List.mem_of_getElem? (i := 2) rfl)
  have lk3 := S.2.2.2.2 (Cond.fieldLink RX5 67 "ShortProofs$Proof" "clauses" "[I") (List.mem_of_getElem? (i := 3) rfl)
  have lk4 := S.2.2.2.2 (Cond.static yX9_isIn) (List.mem_of_getElem? (i := 19) rfl)
  have lk5 := S.2.2.2.2 (Cond.initialized RX9) (List.mem_of_getElem? (i := 20) rfl)
  have lk6 := S.2.2.2.2 (Cond.fieldLink RX5 78 "ShortProofs$Proof" "lefts" "[I") (List.mem_of_getElem? (i := 4) rfl)
  have lk7 := S.2.2.2.2 (Cond.fieldLink RX5 81 "ShortProofs$Proof" "letters" "[I") (List.mem_of_getElem? (i := 5) rfl)
  have lk8 := S.2.2.2.2 (Cond.fieldLink RX5 90 "ShortProofs$Proof" "rights" "[I") (List.mem_of_getElem? (i := 6) rfl)
  refine lv_aload_n hx hb dX5_fillSafes_0 rfl (lv_at hl 1 rfl) ?_
  refine sp_get S hK hW inX2 10 rfl rfl 5 (by decide) lk1 rfl dX5_fillSafes_1 ?_
  refine lv_iconst (v := 1) hx hb dX5_fillSafes_4 (by decide) ?_
  refine lv_isub hx hb dX5_fillSafes_5 ?_
  obtain ⟨v1, ev1, hf⟩ := sp_hb hf
  refine sp_topi ev1 ?_
  refine lv_istore_n (lv' := [(2, .int v1), (0, .ref (a 0)), (1, .ref (d 0))]) hx hb dX5_fillSafes_6 rfl hl (by decide) rfl (fun ls hl => ?_)
  refine lv_aload_n hx hb dX5_fillSafes_7 rfl (lv_at hl 2 rfl) ?_
  obtain ⟨r2, hc2, hf⟩ := sp_hc hf
  refine sp_callVlP (rest := []) S hK hG hA hW (c_X2_restSet d cl2 le2 ri2 lt2 gr2 ct2 gc2 hc2) (by decide) (cwV 0 S.2.2.2.2 gX5_fillSafes_X2_restSet rfl rfl rfl (by decide +kernel) (by decide)) 1 10 rfl rfl (sp_pq [sw_T a (b 0) q5 sd sf nu ut, sw_P b q5 cl1 le1 ri1 lt1 gr1 ct1 gc1, sw_P d q5 cl2 le2 ri2 lt2 gr2 ct2 gc2] [0, 1, 2] [2] [0, 1] (by decide)) rfl (WS' := sw_T a (b 0) q5 sd sf nu ut ++ (sw_P b q5 cl1 le1 ri1 lt1 gr1 ct1 gc1 ++ (sw_P d q5 cl2 le2 ri2 lt2 gr2 ct2 gc2))) (sp_pq' [sw_T a (b 0) q5 sd sf nu ut, sw_P b q5 cl1 le1 ri1 lt1 gr1 ct1 gc1, sw_P d q5 cl2 le2 ri2 lt2 gr2 ct2 gc2] [0, 1, 2] [2] [0, 1] (by decide)) rfl hl.1 (Nat.le_of_ble_eq_true rfl) dX5_fillSafes_8 ⟨Nat.zero_le _, Nat.zero_le _⟩ rfl (fun H locs hW => ?_)
  refine lv_lstore_n (lv' := [(3, .long r2), (2, .int v1), (0, .ref (a 0)), (1, .ref (d 0))]) hx hb dX5_fillSafes_11 rfl hl (by decide) rfl (fun ls hl => ?_)
  refine lv_iconst (v := 0) hx hb dX5_fillSafes_12 (by decide) ?_
  refine lv_istore (lv' := [(5, .int (0 : Int32)), (3, .long r2), (2, .int v1), (0, .ref (a 0)), (1, .ref (d 0))]) hx hb dX5_fillSafes_13 hl (by decide) rfl (fun ls hl => ?_)
  obtain ⟨k6, ek6, hf⟩ := sp_hb hf
  have hj6 : ∀ (c5 : Nat → Int32) (H : Heap) (locs : List Loc) (ls : Array Slot), k6 c5 = some sf' → sp_wd D A s.heap (sw_T a (b 0) q5 sd c5 nu ut ++ (sw_P b q5 cl1 le1 ri1 lt1 gr1 ct1 gc1 ++ (sw_P d q5 cl2 le2 ri2 lt2 gr2 ct2 gc2))) H locs → lv_has ls 6 [(0, .ref (a 0)), (1, .ref (d 0)), (2, .int v1), (3, .long r2)] → W p l e rmX5_fillSafes s m args below meth c H locs 0 0 Q (F0 m 37 ls []) := by
    intro c5 H locs ls hf hW hl
    rw [ek6] at hf
    refine lv_aload_n hx hb dX5_fillSafes_37 rfl (lv_at hl 0 rfl) ?_
    refine sp_get S hK hW inX5 0 rfl rfl 2 (by decide) lk2 rfl dX5_fillSafes_38 ?_
    refine lv_iload_n hx hb dX5_fillSafes_41 rfl (lv_at hl 2 rfl) ?_
    refine lv_aload_n hx hb dX5_fillSafes_42 rfl (lv_at hl 1 rfl) ?_
    refine sp_get S hK hW inX2 10 rfl rfl 0 (by decide) lk3 rfl dX5_fillSafes_43 ?_
    refine lv_iload_n hx hb dX5_fillSafes_46 rfl (lv_at hl 2 rfl) ?_
    obtain ⟨hin, v7, ev7, hf⟩ := sp_hld hf
    refine sp_iald S hK hW 11 rfl hin ev7 dX5_fillSafes_47 ?_
    obtain ⟨hin, c8, ec8, hf⟩ := sp_hst hf
    refine sp_iast S hK hW 2 rfl hin ec8 (ws' := sw_T a (b 0) q5 sd c8 nu ut ++ (sw_P b q5 cl1 le1 ri1 lt1 gr1 ct1 gc1 ++ (sw_P d q5 cl2 le2 ri2 lt2 gr2 ct2 gc2))) rfl dX5_fillSafes_48 (fun H locs hW => ?_)
    refine lv_iload_n hx hb dX5_fillSafes_49 rfl (lv_at hl 2 rfl) ?_
    refine lv_istore (lv' := [(5, .int v1), (0, .ref (a 0)), (1, .ref (d 0)), (2, .int v1), (3, .long r2)]) hx hb dX5_fillSafes_50 hl (by decide) rfl (fun ls hl => ?_)
    obtain ⟨k12, ek12, hf⟩ := sp_hb hf
    have hj12 : ∀ (c11 : Nat → Int32) (H : Heap) (locs : List Loc) (ls : Array Slot), k12 c11 = some sf' → sp_wd D A s.heap (sw_T a (b 0) q5 sd c11 nu ut ++ (sw_P b q5 cl1 le1 ri1 lt1 gr1 ct1 gc1 ++ (sw_P d q5 cl2 le2 ri2 lt2 gr2 ct2 gc2))) H locs → lv_has ls 6 [] → W p l e rmX5_fillSafes s m args below meth c H locs 0 0 Q (F0 m 147 ls []) := by
      intro c11 H locs ls hf hW hl
      rw [ek12] at hf
      cases hf
      exact sp_vret S hr hlk hW hQ dX5_fillSafes_147
    have hlp52 : ∀ (n9 : Nat) (y9 : Int32) (c10 : Nat → Int32) (H : Heap) (locs : List Loc) (ls : Array Slot), sp_lp (f_X5_fillSafes_L52 k12 r2 le2 lt2 ri2) n9 (y9, c10) = some sf' → sp_wd D A s.heap (sw_T a (b 0) q5 sd c10 nu ut ++ (sw_P b q5 cl1 le1 ri1 lt1 gr1 ct1 gc1 ++ (sw_P d q5 cl2 le2 ri2 lt2 gr2 ct2 gc2))) H locs → lv_has ls 6 [(0, .ref (a 0)), (1, .ref (d 0)), (3, .long r2), (5, .int y9)] → W p l e rmX5_fillSafes s m args below meth c H locs 0 0 Q (F0 m 52 ls []) := by
      intro n9
      induction n9 with
      | zero =>
        intro y9 c10 H locs ls hf hW hl
        exact (sp_lp0 hf).elim
      | succ n9 ih52 =>
        intro y9 c10 H locs ls hf hW hl
        have hf := sp_lpS hf
        rw [f_X5_fillSafes_L52_eq] at hf
        refine lv_iload hx hb dX5_fillSafes_52 (lv_at hl 3 rfl) ?_
        refine lv_if_lt (tgt := 147) hx hb dX5_fillSafes_54 (by decide) (fun hc => ?_) (fun hc => ?_)
        · have hf := sp_ht hf hc
          exact hj12 _ _ _ _ hf hW (lv_sub hl [] rfl)
        · have hf := sp_hf hf hc
          refine lv_iload hx hb dX5_fillSafes_57 (lv_at hl 3 rfl) ?_
          refine lv_lload_n hx hb dX5_fillSafes_59 rfl (lv_at hl 2 rfl) ?_
          obtain ⟨r13, hc13, hf⟩ := sp_hc hf
          refine sp_callNi (rest := []) (host := RX9) S hK hG hA hW (c_X9_isIn y9 r2 hc13) (by decide) ⟨va_cnB 2 S.2.2.2.2 gX5_fillSafes_X9_isIn_n70 rfl rfl rfl (hG.1 (by decide) _ (List.mem_of_getElem? (i := 11) rfl)) lk5 (by decide +kernel) (by decide), lk4, trivial⟩ (isC := []) rfl rfl rfl (WS' := sw_T a (b 0) q5 sd c10 nu ut ++ (sw_P b q5 cl1 le1 ri1 lt1 gr1 ct1 gc1 ++ (sw_P d q5 cl2 le2 ri2 lt2 gr2 ct2 gc2))) rfl rfl hl.1 (Nat.le_of_ble_eq_true rfl) dX5_fillSafes_60 ⟨Nat.zero_le _, Nat.zero_le _⟩ rfl (fun H locs hW => ?_)
          obtain ⟨k15, ek15, hf⟩ := sp_hb hf
          have hj15 : ∀ (c14 : Nat → Int32) (H : Heap) (locs : List Loc) (ls : Array Slot), k15 c14 = some sf' → sp_wd D A s.heap (sw_T a (b 0) q5 sd c14 nu ut ++ (sw_P b q5 cl1 le1 ri1 lt1 gr1 ct1 gc1 ++ (sw_P d q5 cl2 le2 ri2 lt2 gr2 ct2 gc2))) H locs → lv_has ls 6 [(0, .ref (a 0)), (1, .ref (d 0)), (3, .long r2), (5, .int y9)] → W p l e rmX5_fillSafes s m args below meth c H locs 0 0 Q (F0 m 141 ls []) := by
            intro c14 H locs ls hf hW hl
            rw [ek15] at hf
            obtain ⟨v16, ev16, hf⟩ := sp_hb hf
            refine lv_iinc (v := v16) (lv' := [(5, .int v16), (0, .ref (a 0)), (1, .ref (d 0)), (3, .long r2)]) hx hb dX5_fillSafes_141 hl (k := 3) rfl (by rw [ev16]; rfl) (by decide) rfl (fun ls hl => ?_)
            refine lv_goto (tgt := 52) hx hb dX5_fillSafes_144 (by decide) ?_
            exact ih52 _ _ _ _ _ hf hW (lv_sub hl [1, 2, 3, 0] rfl)
          refine lv_if_eq (tgt := 141) hx hb dX5_fillSafes_63 (by decide) (fun hc => ?_) (fun hc => ?_)
          · have hf := sp_ht hf hc
            exact hj15 _ _ _ _ hf hW (lv_sub hl [0, 1, 2, 3] rfl)
          · have hf := sp_hf hf hc
            refine lv_aload_n hx hb dX5_fillSafes_66 rfl (lv_at hl 1 rfl) ?_
            refine lv_iload hx hb dX5_fillSafes_67 (lv_at hl 3 rfl) ?_
            obtain ⟨r17, hc17, hf⟩ := sp_hc hf
            refine sp_callViP (rest := []) S hK hG hA hW (c_X2_isGround d cl2 le2 ri2 lt2 gr2 ct2 gc2 y9 hc17) (by decide) (cwV 1 S.2.2.2.2 gX5_fillSafes_X2_isGround rfl rfl rfl (by decide +kernel) (by decide)) 1 10 rfl rfl (sp_pq [sw_T a (b 0) q5 sd c10 nu ut, sw_P b q5 cl1 le1 ri1 lt1 gr1 ct1 gc1, sw_P d q5 cl2 le2 ri2 lt2 gr2 ct2 gc2] [0, 1, 2] [2] [0, 1] (by decide)) rfl (WS' := sw_T a (b 0) q5 sd c10 nu ut ++ (sw_P b q5 cl1 le1 ri1 lt1 gr1 ct1 gc1 ++ (sw_P d q5 cl2 le2 ri2 lt2 gr2 ct2 gc2))) (sp_pq' [sw_T a (b 0) q5 sd c10 nu ut, sw_P b q5 cl1 le1 ri1 lt1 gr1 ct1 gc1, sw_P d q5 cl2 le2 ri2 lt2 gr2 ct2 gc2] [0, 1, 2] [2] [0, 1] (by decide)) rfl hl.1 (Nat.le_of_ble_eq_true rfl) dX5_fillSafes_69 ⟨Nat.zero_le _, Nat.zero_le _⟩ rfl (fun H locs hW => ?_)
            refine lv_if_ne (tgt := 141) hx hb dX5_fillSafes_72 (by decide) (fun hc => ?_) (fun hc => ?_)
            · have hf := sp_hf hf hc
              exact hj15 _ _ _ _ hf hW (lv_sub hl [0, 1, 2, 3] rfl)
            · have hf := sp_ht hf hc
              refine lv_aload_n hx hb dX5_fillSafes_75 rfl (lv_at hl 0 rfl) ?_
              refine sp_get S hK hW inX5 0 rfl rfl 2 (by decide) lk2 rfl dX5_fillSafes_76 ?_
              refine lv_aload_n hx hb dX5_fillSafes_79 rfl (lv_at hl 1 rfl) ?_
              refine sp_get S hK hW inX2 10 rfl rfl 1 (by decide) lk6 rfl dX5_fillSafes_80 ?_
              refine lv_iload hx hb dX5_fillSafes_83 (lv_at hl 3 rfl) ?_
              obtain ⟨hin, v18, ev18, hf⟩ := sp_hld hf
              refine sp_iald S hK hW 12 rfl hin ev18 dX5_fillSafes_85 ?_
              refine lv_dup2_11 hx hb dX5_fillSafes_86 rfl rfl ?_
              obtain ⟨hin, v19, ev19, hf⟩ := sp_hld hf
              refine sp_iald S hK hW 2 rfl hin ev19 dX5_fillSafes_87 ?_
              refine lv_aload_n hx hb dX5_fillSafes_88 rfl (lv_at hl 0 rfl) ?_
              refine sp_get S hK hW inX5 0 rfl rfl 2 (by decide) lk2 rfl dX5_fillSafes_89 ?_
              refine lv_iload hx hb dX5_fillSafes_92 (lv_at hl 3 rfl) ?_
              obtain ⟨hin, v20, ev20, hf⟩ := sp_hld hf
              refine sp_iald S hK hW 2 rfl hin ev20 dX5_fillSafes_94 ?_
              refine lv_aload_n hx hb dX5_fillSafes_95 rfl (lv_at hl 1 rfl) ?_
              refine sp_get S hK hW inX2 10 rfl rfl 3 (by decide) lk7 rfl dX5_fillSafes_96 ?_
              refine lv_iload hx hb dX5_fillSafes_99 (lv_at hl 3 rfl) ?_
              obtain ⟨hin, v21, ev21, hf⟩ := sp_hld hf
              refine sp_iald S hK hW 14 rfl hin ev21 dX5_fillSafes_101 ?_
              obtain ⟨r22, hc22, hf⟩ := sp_hc hf
              refine sp_callSi (rest := [.int v20, .int v19, .int v18, .ref (a 2)]) S hK hG hA hW (c_X0_plain v21 hc22) (by decide) (va_cwS 1 S.2.2.2.2 gX5_fillSafes_X0_plain rfl rfl rfl (by decide +kernel) (by decide)) (isC := []) rfl rfl rfl (WS' := sw_T a (b 0) q5 sd c10 nu ut ++ (sw_P b q5 cl1 le1 ri1 lt1 gr1 ct1 gc1 ++ (sw_P d q5 cl2 le2 ri2 lt2 gr2 ct2 gc2))) rfl rfl hl.1 (Nat.le_of_ble_eq_true rfl) dX5_fillSafes_102 ⟨Nat.zero_le _, Nat.zero_le _⟩ rfl (fun H locs hW => ?_)
              refine lv_ior hx hb dX5_fillSafes_105 ?_
              refine lv_iand hx hb dX5_fillSafes_106 ?_
              obtain ⟨hin, c23, ec23, hf⟩ := sp_hst hf
              refine sp_iast S hK hW 2 rfl hin ec23 (ws' := sw_T a (b 0) q5 sd c23 nu ut ++ (sw_P b q5 cl1 le1 ri1 lt1 gr1 ct1 gc1 ++ (sw_P d q5 cl2 le2 ri2 lt2 gr2 ct2 gc2))) rfl dX5_fillSafes_107 (fun H locs hW => ?_)
              refine lv_aload_n hx hb dX5_fillSafes_108 rfl (lv_at hl 0 rfl) ?_
              refine sp_get S hK hW inX5 0 rfl rfl 2 (by decide) lk2 rfl dX5_fillSafes_109 ?_
              refine lv_aload_n hx hb dX5_fillSafes_112 rfl (lv_at hl 1 rfl) ?_
              refine sp_get S hK hW inX2 10 rfl rfl 2 (by decide) lk8 rfl dX5_fillSafes_113 ?_
              refine lv_iload hx hb dX5_fillSafes_116 (lv_at hl 3 rfl) ?_
              obtain ⟨hin, v24, ev24, hf⟩ := sp_hld hf
              refine sp_iald S hK hW 13 rfl hin ev24 dX5_fillSafes_118 ?_
              refine lv_dup2_11 hx hb dX5_fillSafes_119 rfl rfl ?_
              obtain ⟨hin, v25, ev25, hf⟩ := sp_hld hf
              refine sp_iald S hK hW 2 rfl hin ev25 dX5_fillSafes_120 ?_
              refine lv_aload_n hx hb dX5_fillSafes_121 rfl (lv_at hl 0 rfl) ?_
              refine sp_get S hK hW inX5 0 rfl rfl 2 (by decide) lk2 rfl dX5_fillSafes_122 ?_
              refine lv_iload hx hb dX5_fillSafes_125 (lv_at hl 3 rfl) ?_
              obtain ⟨hin, v26, ev26, hf⟩ := sp_hld hf
              refine sp_iald S hK hW 2 rfl hin ev26 dX5_fillSafes_127 ?_
              refine lv_aload_n hx hb dX5_fillSafes_128 rfl (lv_at hl 1 rfl) ?_
              refine sp_get S hK hW inX2 10 rfl rfl 3 (by decide) lk7 rfl dX5_fillSafes_129 ?_
              refine lv_iload hx hb dX5_fillSafes_132 (lv_at hl 3 rfl) ?_
              obtain ⟨hin, v27, ev27, hf⟩ := sp_hld hf
              refine sp_iald S hK hW 14 rfl hin ev27 dX5_fillSafes_134 ?_
              obtain ⟨r28, hc28, hf⟩ := sp_hc hf
              refine sp_callSi (rest := [.int v26, .int v25, .int v24, .ref (a 2)]) S hK hG hA hW (c_X0_negated v27 hc28) (by decide) (va_cwS 1 S.2.2.2.2 gX5_fillSafes_X0_negated rfl rfl rfl (by decide +kernel) (by decide)) (isC := []) rfl rfl rfl (WS' := sw_T a (b 0) q5 sd c23 nu ut ++ (sw_P b q5 cl1 le1 ri1 lt1 gr1 ct1 gc1 ++ (sw_P d q5 cl2 le2 ri2 lt2 gr2 ct2 gc2))) rfl rfl hl.1 (Nat.le_of_ble_eq_true rfl) dX5_fillSafes_135 ⟨Nat.zero_le _, Nat.zero_le _⟩ rfl (fun H locs hW => ?_)
              refine lv_ior hx hb dX5_fillSafes_138 ?_
              refine lv_iand hx hb dX5_fillSafes_139 ?_
              obtain ⟨hin, c29, ec29, hf⟩ := sp_hst hf
              refine sp_iast S hK hW 2 rfl hin ec29 (ws' := sw_T a (b 0) q5 sd c29 nu ut ++ (sw_P b q5 cl1 le1 ri1 lt1 gr1 ct1 gc1 ++ (sw_P d q5 cl2 le2 ri2 lt2 gr2 ct2 gc2))) rfl dX5_fillSafes_140 (fun H locs hW => ?_)
              exact hj15 _ _ _ _ hf hW (lv_sub hl [0, 1, 2, 3] rfl)
    exact hlp52 _ _ _ _ _ _ hf hW (lv_sub hl [1, 2, 4, 0] rfl)
  have hlp15 : ∀ (n9 : Nat) (y3 : Int32) (c4 : Nat → Int32) (H : Heap) (locs : List Loc) (ls : Array Slot), sp_lp (f_X5_fillSafes_L15 v1 k6) n9 (y3, c4) = some sf' → sp_wd D A s.heap (sw_T a (b 0) q5 sd c4 nu ut ++ (sw_P b q5 cl1 le1 ri1 lt1 gr1 ct1 gc1 ++ (sw_P d q5 cl2 le2 ri2 lt2 gr2 ct2 gc2))) H locs → lv_has ls 6 [(0, .ref (a 0)), (1, .ref (d 0)), (2, .int v1), (3, .long r2), (5, .int y3)] → W p l e rmX5_fillSafes s m args below meth c H locs 0 0 Q (F0 m 15 ls []) := by
    intro n9
    induction n9 with
    | zero =>
      intro y3 c4 H locs ls hf hW hl
      exact (sp_lp0 hf).elim
    | succ n9 ih15 =>
      intro y3 c4 H locs ls hf hW hl
      have hf := sp_lpS hf
      rw [f_X5_fillSafes_L15_eq] at hf
      refine lv_iload hx hb dX5_fillSafes_15 (lv_at hl 4 rfl) ?_
      refine lv_iload_n hx hb dX5_fillSafes_17 rfl (lv_at hl 2 rfl) ?_
      refine lv_icmp_ge (tgt := 37) hx hb dX5_fillSafes_18 (by decide) (fun hc => ?_) (fun hc => ?_)
      · have hf := sp_ht hf hc
        exact hj6 _ _ _ _ hf hW (lv_sub hl [0, 1, 2, 3] rfl)
      · have hf := sp_hf hf hc
        refine lv_aload_n hx hb dX5_fillSafes_21 rfl (lv_at hl 0 rfl) ?_
        refine sp_get S hK hW inX5 0 rfl rfl 2 (by decide) lk2 rfl dX5_fillSafes_22 ?_
        refine lv_iload hx hb dX5_fillSafes_25 (lv_at hl 4 rfl) ?_
        refine lv_sipush (v := 4095) hx hb dX5_fillSafes_27 (by decide) ?_
        obtain ⟨hin, c30, ec30, hf⟩ := sp_hst hf
        refine sp_iast S hK hW 2 rfl hin ec30 (ws' := sw_T a (b 0) q5 sd c30 nu ut ++ (sw_P b q5 cl1 le1 ri1 lt1 gr1 ct1 gc1 ++ (sw_P d q5 cl2 le2 ri2 lt2 gr2 ct2 gc2))) rfl dX5_fillSafes_30 (fun H locs hW => ?_)
        obtain ⟨v31, ev31, hf⟩ := sp_hb hf
        refine lv_iinc (v := v31) (lv' := [(5, .int v31), (0, .ref (a 0)), (1, .ref (d 0)), (2, .int v1), (3, .long r2)]) hx hb dX5_fillSafes_31 hl (k := 4) rfl (by rw [ev31]; rfl) (by decide) rfl (fun ls hl => ?_)
        refine lv_goto (tgt := 15) hx hb dX5_fillSafes_34 (by decide) ?_
        exact ih15 _ _ _ _ _ hf hW (lv_sub hl [1, 2, 3, 4, 0] rfl)
  exact hlp15 _ _ _ _ _ _ hf hW (lv_sub hl [3, 4, 2, 1, 0] rfl)

def f_X5_cutsFrom_L8 (ct2 : Int32) (k5 : Int32 → Option (Int32)) (p3 : Int64) (p2 : Int32) (le2 : Nat → Int32) (ri2 : Nat → Int32) (rec8 : (Int32 × Int32) → Option (Int32)) (s9 : Int32 × Int32) : Option (Int32) := match s9 with
  | (y2, y3) => if ct2 ≤ y3 then (k5 y2) else (Option.bind (f_X9_isIn y3 p3) (fun r6 => sp_bnd (fun (x7 : Int32) => sp_bnd (y3 + (1 : Int32)) (fun v9 => rec8 (x7, v9))) (fun k8 => if r6 = 0 then (k8 y2) else (Option.bind (f_X2_isCutFrom y3 p2 le2 ri2) (fun r10 => if r10 = 0 then (k8 y2) else (sp_bnd (y2 + (1 : Int32)) (fun v11 => k8 v11)))))))
theorem f_X5_cutsFrom_L8_eq {rec8 : (Int32 × Int32) → Option (Int32)} {ct2 : Int32} {k5 : Int32 → Option (Int32)} {p3 : Int64} {p2 : Int32} {le2 : Nat → Int32} {ri2 : Nat → Int32} {y2 : Int32} {y3 : Int32} : f_X5_cutsFrom_L8 ct2 k5 p3 p2 le2 ri2 rec8 (y2, y3) = (if ct2 ≤ y3 then (k5 y2) else (Option.bind (f_X9_isIn y3 p3) (fun r6 => sp_bnd (fun (x7 : Int32) => sp_bnd (y3 + (1 : Int32)) (fun v9 => rec8 (x7, v9))) (fun k8 => if r6 = 0 then (k8 y2) else (Option.bind (f_X2_isCutFrom y3 p2 le2 ri2) (fun r10 => if r10 = 0 then (k8 y2) else (sp_bnd (y2 + (1 : Int32)) (fun v11 => k8 v11)))))))) := rfl
def f_X5_cutsFrom (p2 : Int32) (p3 : Int64) (le2 : Nat → Int32) (ri2 : Nat → Int32) (ct2 : Int32) : Option (Int32) := sp_bnd (p2 + (1 : Int32)) (fun v1 => sp_bnd (fun (x4 : Int32) => some x4) (fun k5 => sp_lp (f_X5_cutsFrom_L8 ct2 k5 p3 p2 le2 ri2) sp_F ((0 : Int32), v1)))
def rmX5_cutsFrom : Room := { frames := 2, cells := 0, slots := 0, locals := 43 }
set_option maxRecDepth 4000 in
theorem c_X5_cutsFrom {l : Launch} {D : va_G} {q5 : Nat → ClassId} (d : Nat → Nat) (cl2 : Nat → Int32) (le2 : Nat → Int32) (ri2 : Nat → Int32) (lt2 : Nat → Int32) (gr2 : Nat → Int32) (ct2 : Int32) (gc2 : Int32) (p2 : Int32) (p3 : Int64) {r' : Int32} (hf : f_X5_cutsFrom p2 p3 le2 ri2 ct2 = some r') : sp_Ci l yX5_cutsFrom wsX5_cutsFrom rmX5_cutsFrom D q5 1 [.ref (d 0), .int p2, .long p3] (sw_P d q5 cl2 le2 ri2 lt2 gr2 ct2 gc2) r' (sw_P d q5 cl2 le2 ri2 lt2 gr2 ct2 gc2) := by
  intro sz
  refine sp_of (cc := cX5_cutsFrom) (maxL := 6) (ret := some .int) (own := RX5) (Qc := sp_Qi D r' (sw_P d q5 cl2 le2 ri2 lt2 gr2 ct2 gc2)) (by decide) rfl rfl (Nat.le_of_ble_eq_true rfl) ?_
  intro p e s m args below meth c A ls Q hQ S hr hlk hK hG hA hW hl
  have hx := S.1
  have hb := S.2.1
  unfold f_X5_cutsFrom at hf
  have inX2 : ∀ w ∈ u_ws RX2 TX2 7, w ∈ wsX5_cutsFrom := (fun _ h => List.mem_cons_of_mem _ (List.mem_append_right _ h))
  have lk1 := S.2.2.2.2 (Cond.fieldLink RX5 47 "ShortProofs$Proof" "count" "I") (List.mem_of_getElem? (i := 1) rfl)
  have lk2 := S.2.2.2.2 (Cond.static yX9_isIn) (List.mem_of_getElem? (i := 2) rfl)
  have lk3 := S.2.2.2.2 (Cond.initialized RX9) (List.mem_of_getElem? (i := 3) rfl)
  refine lv_iconst (v := 0) hx hb dX5_cutsFrom_0 (by decide) ?_
  refine lv_istore (lv' := [(4, .int (0 : Int32)), (0, .ref (d 0)), (1, .int p2), (2, .long p3)]) hx hb dX5_cutsFrom_1 hl (by decide) rfl (fun ls hl => ?_)
  refine lv_iload_n hx hb dX5_cutsFrom_3 rfl (lv_at hl 2 rfl) ?_
  refine lv_iconst (v := 1) hx hb dX5_cutsFrom_4 (by decide) ?_
  refine lv_iadd hx hb dX5_cutsFrom_5 ?_
  obtain ⟨v1, ev1, hf⟩ := sp_hb hf
  refine sp_topi ev1 ?_
  refine lv_istore (lv' := [(5, .int v1), (4, .int (0 : Int32)), (0, .ref (d 0)), (1, .int p2), (2, .long p3)]) hx hb dX5_cutsFrom_6 hl (by decide) rfl (fun ls hl => ?_)
  obtain ⟨k5, ek5, hf⟩ := sp_hb hf
  have hj5 : ∀ (x4 : Int32) (H : Heap) (locs : List Loc) (ls : Array Slot), k5 x4 = some r' → sp_wd D A s.heap (sw_P d q5 cl2 le2 ri2 lt2 gr2 ct2 gc2) H locs → lv_has ls 6 [(4, .int x4)] → W p l e rmX5_cutsFrom s m args below meth c H locs 0 0 Q (F0 m 45 ls []) := by
    intro x4 H locs ls hf hW hl
    rw [ek5] at hf
    refine lv_iload hx hb dX5_cutsFrom_45 (lv_at hl 0 rfl) ?_
    cases hf
    exact sp_iret S hr hlk hW hQ dX5_cutsFrom_47
  have hlp8 : ∀ (n9 : Nat) (y2 : Int32) (y3 : Int32) (H : Heap) (locs : List Loc) (ls : Array Slot), sp_lp (f_X5_cutsFrom_L8 ct2 k5 p3 p2 le2 ri2) n9 (y2, y3) = some r' → sp_wd D A s.heap (sw_P d q5 cl2 le2 ri2 lt2 gr2 ct2 gc2) H locs → lv_has ls 6 [(0, .ref (d 0)), (1, .int p2), (2, .long p3), (4, .int y2), (5, .int y3)] → W p l e rmX5_cutsFrom s m args below meth c H locs 0 0 Q (F0 m 8 ls []) := by
    intro n9
    induction n9 with
    | zero =>
      intro y2 y3 H locs ls hf hW hl
      exact (sp_lp0 hf).elim
    | succ n9 ih8 =>
      intro y2 y3 H locs ls hf hW hl
      have hf := sp_lpS hf
      rw [f_X5_cutsFrom_L8_eq] at hf
      refine lv_iload hx hb dX5_cutsFrom_8 (lv_at hl 4 rfl) ?_
      refine lv_aload_n hx hb dX5_cutsFrom_10 rfl (lv_at hl 0 rfl) ?_
      refine sp_get S hK hW inX2 0 rfl rfl 5 (by decide) lk1 rfl dX5_cutsFrom_11 ?_
      refine lv_icmp_ge (tgt := 45) hx hb dX5_cutsFrom_14 (by decide) (fun hc => ?_) (fun hc => ?_)
      · have hf := sp_ht hf hc
        exact hj5 _ _ _ _ hf hW (lv_sub hl [3] rfl)
      · have hf := sp_hf hf hc
        refine lv_iload hx hb dX5_cutsFrom_17 (lv_at hl 4 rfl) ?_
        refine lv_lload_n hx hb dX5_cutsFrom_19 rfl (lv_at hl 2 rfl) ?_
        obtain ⟨r6, hc6, hf⟩ := sp_hc hf
        refine sp_callNi (rest := []) (host := RX9) S hK hG hA hW (c_X9_isIn y3 p3 hc6) (by decide) ⟨va_cnB 2 S.2.2.2.2 gX5_cutsFrom_X9_isIn_n70 rfl rfl rfl (hG.1 (by decide) _ (List.mem_of_getElem? (i := 11) rfl)) lk3 (by decide +kernel) (by decide), lk2, trivial⟩ (isC := []) rfl rfl rfl (WS' := sw_P d q5 cl2 le2 ri2 lt2 gr2 ct2 gc2) rfl rfl hl.1 (Nat.le_of_ble_eq_true rfl) dX5_cutsFrom_20 ⟨Nat.zero_le _, Nat.zero_le _⟩ rfl (fun H locs hW => ?_)
        obtain ⟨k8, ek8, hf⟩ := sp_hb hf
        have hj8 : ∀ (x7 : Int32) (H : Heap) (locs : List Loc) (ls : Array Slot), k8 x7 = some r' → sp_wd D A s.heap (sw_P d q5 cl2 le2 ri2 lt2 gr2 ct2 gc2) H locs → lv_has ls 6 [(0, .ref (d 0)), (1, .int p2), (2, .long p3), (4, .int x7), (5, .int y3)] → W p l e rmX5_cutsFrom s m args below meth c H locs 0 0 Q (F0 m 39 ls []) := by
          intro x7 H locs ls hf hW hl
          rw [ek8] at hf
          obtain ⟨v9, ev9, hf⟩ := sp_hb hf
          refine lv_iinc (v := v9) (lv' := [(5, .int v9), (0, .ref (d 0)), (1, .int p2), (2, .long p3), (4, .int x7)]) hx hb dX5_cutsFrom_39 hl (k := 4) rfl (by rw [ev9]; rfl) (by decide) rfl (fun ls hl => ?_)
          refine lv_goto (tgt := 8) hx hb dX5_cutsFrom_42 (by decide) ?_
          exact ih8 _ _ _ _ _ hf hW (lv_sub hl [1, 2, 3, 4, 0] rfl)
        refine lv_if_eq (tgt := 39) hx hb dX5_cutsFrom_23 (by decide) (fun hc => ?_) (fun hc => ?_)
        · have hf := sp_ht hf hc
          exact hj8 _ _ _ _ hf hW (lv_sub hl [0, 1, 2, 3, 4] rfl)
        · have hf := sp_hf hf hc
          refine lv_aload_n hx hb dX5_cutsFrom_26 rfl (lv_at hl 0 rfl) ?_
          refine lv_iload hx hb dX5_cutsFrom_27 (lv_at hl 4 rfl) ?_
          refine lv_iload_n hx hb dX5_cutsFrom_29 rfl (lv_at hl 1 rfl) ?_
          obtain ⟨r10, hc10, hf⟩ := sp_hc hf
          refine sp_callViP (rest := []) S hK hG hA hW (c_X2_isCutFrom d cl2 le2 ri2 lt2 gr2 ct2 gc2 y3 p2 hc10) (by decide) (cwV 2 S.2.2.2.2 gX5_cutsFrom_X2_isCutFrom rfl rfl rfl (by decide +kernel) (by decide)) 1 0 rfl rfl (sp_pn _) rfl (WS' := sw_P d q5 cl2 le2 ri2 lt2 gr2 ct2 gc2) (sp_pn' _) rfl hl.1 (Nat.le_of_ble_eq_true rfl) dX5_cutsFrom_30 ⟨Nat.zero_le _, Nat.zero_le _⟩ rfl (fun H locs hW => ?_)
          refine lv_if_eq (tgt := 39) hx hb dX5_cutsFrom_33 (by decide) (fun hc => ?_) (fun hc => ?_)
          · have hf := sp_ht hf hc
            exact hj8 _ _ _ _ hf hW (lv_sub hl [0, 1, 2, 3, 4] rfl)
          · have hf := sp_hf hf hc
            obtain ⟨v11, ev11, hf⟩ := sp_hb hf
            refine lv_iinc (v := v11) (lv' := [(4, .int v11), (0, .ref (d 0)), (1, .int p2), (2, .long p3), (5, .int y3)]) hx hb dX5_cutsFrom_36 hl (k := 3) rfl (by rw [ev11]; rfl) (by decide) rfl (fun ls hl => ?_)
            exact hj8 _ _ _ _ hf hW (lv_sub hl [1, 2, 3, 0, 4] rfl)
  exact hlp8 _ _ _ _ _ _ hf hW (lv_sub hl [2, 3, 4, 1, 0] rfl)

def f_X5_unitsOf_L10 (ct2 : Int32) (k5 : Int64 → Option (Int64)) (r1 : Int64) (cl2 : Nat → Int32) (le2 : Nat → Int32) (ri2 : Nat → Int32) (rec10 : (Int64 × Int32) → Option (Int64)) (s9 : Int64 × Int32) : Option (Int64) := match s9 with
  | (y2, y3) => if (ct2 - (1 : Int32)) ≤ y3 then (k5 y2) else (Option.bind (f_X9_isIn y3 r1) (fun r6 => sp_bnd (fun (x7 : Int64) => sp_bnd (y3 + (1 : Int32)) (fun v9 => rec10 (x7, v9))) (fun k8 => if r6 = 0 then (k8 y2) else (sp_ld cl2 48 y3 (fun v10 => Option.bind (f_J6_bitCount_0f7a4 v10) (fun r11 => if r11 = (1 : Int32) then (Option.bind (f_X5_cutsFrom y3 r1 le2 ri2 ct2) (fun r12 => if r12 < (2 : Int32) then (k8 y2) else (sp_bnd (y2 ||| ((1 : Int64) <<< (y3.toInt64 &&& 63))) (fun v13 => k8 v13)))) else (k8 y2)))))))
theorem f_X5_unitsOf_L10_eq {rec10 : (Int64 × Int32) → Option (Int64)} {ct2 : Int32} {k5 : Int64 → Option (Int64)} {r1 : Int64} {cl2 : Nat → Int32} {le2 : Nat → Int32} {ri2 : Nat → Int32} {y2 : Int64} {y3 : Int32} : f_X5_unitsOf_L10 ct2 k5 r1 cl2 le2 ri2 rec10 (y2, y3) = (if (ct2 - (1 : Int32)) ≤ y3 then (k5 y2) else (Option.bind (f_X9_isIn y3 r1) (fun r6 => sp_bnd (fun (x7 : Int64) => sp_bnd (y3 + (1 : Int32)) (fun v9 => rec10 (x7, v9))) (fun k8 => if r6 = 0 then (k8 y2) else (sp_ld cl2 48 y3 (fun v10 => Option.bind (f_J6_bitCount_0f7a4 v10) (fun r11 => if r11 = (1 : Int32) then (Option.bind (f_X5_cutsFrom y3 r1 le2 ri2 ct2) (fun r12 => if r12 < (2 : Int32) then (k8 y2) else (sp_bnd (y2 ||| ((1 : Int64) <<< (y3.toInt64 &&& 63))) (fun v13 => k8 v13)))) else (k8 y2)))))))) := rfl
def f_X5_unitsOf (cl2 : Nat → Int32) (le2 : Nat → Int32) (ri2 : Nat → Int32) (ct2 : Int32) : Option (Int64) := Option.bind (f_X2_restSet le2 ri2 ct2) (fun r1 => sp_bnd (fun (x4 : Int64) => some x4) (fun k5 => sp_lp (f_X5_unitsOf_L10 ct2 k5 r1 cl2 le2 ri2) sp_F ((0 : Int64), (0 : Int32))))
def rmX5_unitsOf : Room := { frames := 3, cells := 0, slots := 0, locals := 68 }
set_option maxRecDepth 4000 in
theorem c_X5_unitsOf {l : Launch} {D : va_G} {q5 : Nat → ClassId} (d : Nat → Nat) (cl2 : Nat → Int32) (le2 : Nat → Int32) (ri2 : Nat → Int32) (lt2 : Nat → Int32) (gr2 : Nat → Int32) (ct2 : Int32) (gc2 : Int32) {r' : Int64} (hf : f_X5_unitsOf cl2 le2 ri2 ct2 = some r') : sp_Cl l yX5_unitsOf wsX5_unitsOf rmX5_unitsOf D q5 1 [.ref (d 0)] (sw_P d q5 cl2 le2 ri2 lt2 gr2 ct2 gc2) r' (sw_P d q5 cl2 le2 ri2 lt2 gr2 ct2 gc2) := by
  intro sz
  refine sp_of (cc := cX5_unitsOf) (maxL := 6) (ret := some .long) (own := RX5) (Qc := sp_Ql D r' (sw_P d q5 cl2 le2 ri2 lt2 gr2 ct2 gc2)) (by decide) rfl rfl (Nat.le_of_ble_eq_true rfl) ?_
  intro p e s m args below meth c A ls Q hQ S hr hlk hK hG hA hW hl
  have hx := S.1
  have hb := S.2.1
  unfold f_X5_unitsOf at hf
  have inX2 : ∀ w ∈ u_ws RX2 TX2 7, w ∈ wsX5_unitsOf := (fun _ h => List.mem_cons_of_mem _ (List.mem_append_right _ h))
  have lk1 := S.2.2.2.2 (Cond.fieldLink RX5 47 "ShortProofs$Proof" "count" "I") (List.mem_of_getElem? (i := 1) rfl)
  have lk2 := S.2.2.2.2 (Cond.static yX9_isIn) (List.mem_of_getElem? (i := 15) rfl)
  have lk3 := S.2.2.2.2 (Cond.initialized RX9) (List.mem_of_getElem? (i := 16) rfl)
  have lk4 := S.2.2.2.2 (Cond.fieldLink RX5 67 "ShortProofs$Proof" "clauses" "[I") (List.mem_of_getElem? (i := 2) rfl)
  refine lv_aload_n hx hb dX5_unitsOf_0 rfl (lv_at hl 0 rfl) ?_
  obtain ⟨r1, hc1, hf⟩ := sp_hc hf
  refine sp_callVlP (rest := []) S hK hG hA hW (c_X2_restSet d cl2 le2 ri2 lt2 gr2 ct2 gc2 hc1) (by decide) (cwV 0 S.2.2.2.2 gX5_unitsOf_X2_restSet rfl rfl rfl (by decide +kernel) (by decide)) 1 0 rfl rfl (sp_pn _) rfl (WS' := sw_P d q5 cl2 le2 ri2 lt2 gr2 ct2 gc2) (sp_pn' _) rfl hl.1 (Nat.le_of_ble_eq_true rfl) dX5_unitsOf_1 ⟨Nat.zero_le _, Nat.zero_le _⟩ rfl (fun H locs hW => ?_)
  refine lv_lstore_n (lv' := [(1, .long r1), (0, .ref (d 0))]) hx hb dX5_unitsOf_4 rfl hl (by decide) rfl (fun ls hl => ?_)
  refine lv_lconst (v := 0) hx hb dX5_unitsOf_5 (by decide) ?_
  refine lv_lstore_n (lv' := [(3, .long (0 : Int64)), (1, .long r1), (0, .ref (d 0))]) hx hb dX5_unitsOf_6 rfl hl (by decide) rfl (fun ls hl => ?_)
  refine lv_iconst (v := 0) hx hb dX5_unitsOf_7 (by decide) ?_
  refine lv_istore (lv' := [(5, .int (0 : Int32)), (3, .long (0 : Int64)), (1, .long r1), (0, .ref (d 0))]) hx hb dX5_unitsOf_8 hl (by decide) rfl (fun ls hl => ?_)
  obtain ⟨k5, ek5, hf⟩ := sp_hb hf
  have hj5 : ∀ (x4 : Int64) (H : Heap) (locs : List Loc) (ls : Array Slot), k5 x4 = some r' → sp_wd D A s.heap (sw_P d q5 cl2 le2 ri2 lt2 gr2 ct2 gc2) H locs → lv_has ls 6 [(3, .long x4)] → W p l e rmX5_unitsOf s m args below meth c H locs 0 0 Q (F0 m 68 ls []) := by
    intro x4 H locs ls hf hW hl
    rw [ek5] at hf
    refine lv_lload_n hx hb dX5_unitsOf_68 rfl (lv_at hl 0 rfl) ?_
    cases hf
    exact sp_lret S hr hlk hW hQ dX5_unitsOf_69
  have hlp10 : ∀ (n9 : Nat) (y2 : Int64) (y3 : Int32) (H : Heap) (locs : List Loc) (ls : Array Slot), sp_lp (f_X5_unitsOf_L10 ct2 k5 r1 cl2 le2 ri2) n9 (y2, y3) = some r' → sp_wd D A s.heap (sw_P d q5 cl2 le2 ri2 lt2 gr2 ct2 gc2) H locs → lv_has ls 6 [(0, .ref (d 0)), (1, .long r1), (3, .long y2), (5, .int y3)] → W p l e rmX5_unitsOf s m args below meth c H locs 0 0 Q (F0 m 10 ls []) := by
    intro n9
    induction n9 with
    | zero =>
      intro y2 y3 H locs ls hf hW hl
      exact (sp_lp0 hf).elim
    | succ n9 ih10 =>
      intro y2 y3 H locs ls hf hW hl
      have hf := sp_lpS hf
      rw [f_X5_unitsOf_L10_eq] at hf
      refine lv_iload hx hb dX5_unitsOf_10 (lv_at hl 3 rfl) ?_
      refine lv_aload_n hx hb dX5_unitsOf_12 rfl (lv_at hl 0 rfl) ?_
      refine sp_get S hK hW inX2 0 rfl rfl 5 (by decide) lk1 rfl dX5_unitsOf_13 ?_
      refine lv_iconst (v := 1) hx hb dX5_unitsOf_16 (by decide) ?_
      refine lv_isub hx hb dX5_unitsOf_17 ?_
      refine lv_icmp_ge (tgt := 68) hx hb dX5_unitsOf_18 (by decide) (fun hc => ?_) (fun hc => ?_)
      · have hf := sp_ht hf hc
        exact hj5 _ _ _ _ hf hW (lv_sub hl [2] rfl)
      · have hf := sp_hf hf hc
        refine lv_iload hx hb dX5_unitsOf_21 (lv_at hl 3 rfl) ?_
        refine lv_lload_n hx hb dX5_unitsOf_23 rfl (lv_at hl 1 rfl) ?_
        obtain ⟨r6, hc6, hf⟩ := sp_hc hf
        refine sp_callNi (rest := []) (host := RX9) S hK hG hA hW (c_X9_isIn y3 r1 hc6) (by decide) ⟨va_cnB 2 S.2.2.2.2 gX5_unitsOf_X9_isIn_n70 rfl rfl rfl (hG.1 (by decide) _ (List.mem_of_getElem? (i := 11) rfl)) lk3 (by decide +kernel) (by decide), lk2, trivial⟩ (isC := []) rfl rfl rfl (WS' := sw_P d q5 cl2 le2 ri2 lt2 gr2 ct2 gc2) rfl rfl hl.1 (Nat.le_of_ble_eq_true rfl) dX5_unitsOf_24 ⟨Nat.zero_le _, Nat.zero_le _⟩ rfl (fun H locs hW => ?_)
        obtain ⟨k8, ek8, hf⟩ := sp_hb hf
        have hj8 : ∀ (x7 : Int64) (H : Heap) (locs : List Loc) (ls : Array Slot), k8 x7 = some r' → sp_wd D A s.heap (sw_P d q5 cl2 le2 ri2 lt2 gr2 ct2 gc2) H locs → lv_has ls 6 [(0, .ref (d 0)), (1, .long r1), (3, .long x7), (5, .int y3)] → W p l e rmX5_unitsOf s m args below meth c H locs 0 0 Q (F0 m 62 ls []) := by
          intro x7 H locs ls hf hW hl
          rw [ek8] at hf
          obtain ⟨v9, ev9, hf⟩ := sp_hb hf
          refine lv_iinc (v := v9) (lv' := [(5, .int v9), (0, .ref (d 0)), (1, .long r1), (3, .long x7)]) hx hb dX5_unitsOf_62 hl (k := 3) rfl (by rw [ev9]; rfl) (by decide) rfl (fun ls hl => ?_)
          refine lv_goto (tgt := 10) hx hb dX5_unitsOf_65 (by decide) ?_
          exact ih10 _ _ _ _ _ hf hW (lv_sub hl [1, 2, 3, 0] rfl)
        refine lv_if_eq (tgt := 62) hx hb dX5_unitsOf_27 (by decide) (fun hc => ?_) (fun hc => ?_)
        · have hf := sp_ht hf hc
          exact hj8 _ _ _ _ hf hW (lv_sub hl [0, 1, 2, 3] rfl)
        · have hf := sp_hf hf hc
          refine lv_aload_n hx hb dX5_unitsOf_30 rfl (lv_at hl 0 rfl) ?_
          refine sp_get S hK hW inX2 0 rfl rfl 0 (by decide) lk4 rfl dX5_unitsOf_31 ?_
          refine lv_iload hx hb dX5_unitsOf_34 (lv_at hl 3 rfl) ?_
          obtain ⟨hin, v10, ev10, hf⟩ := sp_hld hf
          refine sp_iald S hK hW 1 rfl hin ev10 dX5_unitsOf_36 ?_
          obtain ⟨r11, hc11, hf⟩ := sp_hc hf
          refine sp_callSi (rest := []) S hK hG hA hW (c_J6_bitCount_0f7a4 v10 hc11) (by decide) (va_cwS 1 S.2.2.2.2 gX5_unitsOf_J6_bitCount_0f7a4 rfl rfl rfl (by decide +kernel) (by decide)) (isC := []) rfl rfl rfl (WS' := sw_P d q5 cl2 le2 ri2 lt2 gr2 ct2 gc2) rfl rfl hl.1 (Nat.le_of_ble_eq_true rfl) dX5_unitsOf_37 ⟨Nat.zero_le _, Nat.zero_le _⟩ rfl (fun H locs hW => ?_)
          refine lv_iconst (v := 1) hx hb dX5_unitsOf_40 (by decide) ?_
          refine lv_icmp_ne (tgt := 62) hx hb dX5_unitsOf_41 (by decide) (fun hc => ?_) (fun hc => ?_)
          · have hf := sp_hf hf hc
            exact hj8 _ _ _ _ hf hW (lv_sub hl [0, 1, 2, 3] rfl)
          · have hf := sp_ht hf hc
            refine lv_aload_n hx hb dX5_unitsOf_44 rfl (lv_at hl 0 rfl) ?_
            refine lv_iload hx hb dX5_unitsOf_45 (lv_at hl 3 rfl) ?_
            refine lv_lload_n hx hb dX5_unitsOf_47 rfl (lv_at hl 1 rfl) ?_
            obtain ⟨r12, hc12, hf⟩ := sp_hc hf
            refine sp_callSiP (rest := []) S hK hG hA hW (c_X5_cutsFrom d cl2 le2 ri2 lt2 gr2 ct2 gc2 y3 r1 hc12) (by decide) (va_cwS 3 S.2.2.2.2 gX5_unitsOf_X5_cutsFrom rfl rfl rfl (by decide +kernel) (by decide)) (sp_pn _) rfl (WS' := sw_P d q5 cl2 le2 ri2 lt2 gr2 ct2 gc2) (sp_pn' _) rfl hl.1 (Nat.le_of_ble_eq_true rfl) dX5_unitsOf_48 ⟨Nat.zero_le _, Nat.zero_le _⟩ rfl (fun H locs hW => ?_)
            refine lv_iconst (v := 2) hx hb dX5_unitsOf_51 (by decide) ?_
            refine lv_icmp_lt (tgt := 62) hx hb dX5_unitsOf_52 (by decide) (fun hc => ?_) (fun hc => ?_)
            · have hf := sp_ht hf hc
              exact hj8 _ _ _ _ hf hW (lv_sub hl [0, 1, 2, 3] rfl)
            · have hf := sp_hf hf hc
              refine lv_lload_n hx hb dX5_unitsOf_55 rfl (lv_at hl 2 rfl) ?_
              refine lv_lconst (v := 1) hx hb dX5_unitsOf_56 (by decide) ?_
              refine lv_iload hx hb dX5_unitsOf_57 (lv_at hl 3 rfl) ?_
              refine lv_lshl hx hb dX5_unitsOf_59 rfl ?_
              refine lv_lor hx hb dX5_unitsOf_60 ?_
              obtain ⟨v13, ev13, hf⟩ := sp_hb hf
              refine sp_topl ev13 ?_
              refine lv_lstore_n (lv' := [(3, .long v13), (0, .ref (d 0)), (1, .long r1), (5, .int y3)]) hx hb dX5_unitsOf_61 rfl hl (by decide) rfl (fun ls hl => ?_)
              exact hj8 _ _ _ _ hf hW (lv_sub hl [1, 2, 0, 3] rfl)
  exact hlp10 _ _ _ _ _ _ hf hW (lv_sub hl [3, 2, 1, 0] rfl)

def f_X5_placed (p1 : Int32) (p2 : Int32) (p3 : Int32) (p4 : Int32) (p5 : Int32) (cl1 : Nat → Int32) (le1 : Nat → Int32) (ri1 : Nat → Int32) (lt1 : Nat → Int32) (gr1 : Nat → Int32) (ct1 : Int32) (gc1 : Int32) : Option (Int32 × (Nat → Int32) × (Nat → Int32) × (Nat → Int32) × (Nat → Int32) × (Nat → Int32) × Int32 × Int32) := sp_bnd (fun (x1 : Int32) => if x1 = (-9 : Int32) then (Option.bind (f_X2_add p1 p2 p3 p4 cl1 le1 ri1 lt1 gr1 ct1 gc1) (fun q9 => match q9 with | (r3, c4, c5, c6, c7, c8, c9, c10) => some (r3, c4, c5, c6, c7, c8, c9, c10))) else (some (x1, cl1, le1, ri1, lt1, gr1, ct1, gc1))) (fun k2 => if p5 = (1 : Int32) then (Option.bind (f_X2_firstWith p1 ct1 cl1) (fun r12 => k2 r12)) else (if p5 = (2 : Int32) then (Option.bind (f_X2_firstPartOf p1 cl1 ct1) (fun r11 => k2 r11)) else (k2 (-9 : Int32))))
def rmX5_placed : Room := { frames := 1, cells := 0, slots := 0, locals := 24 }
set_option maxRecDepth 4000 in
theorem c_X5_placed {l : Launch} {D : va_G} {q5 : Nat → ClassId} (a : Nat → Nat) (b : Nat → Nat) (sd : Nat → Int32) (sf : Nat → Int32) (nu : Nat → Int32) (ut : Int64) (cl1 : Nat → Int32) (le1 : Nat → Int32) (ri1 : Nat → Int32) (lt1 : Nat → Int32) (gr1 : Nat → Int32) (ct1 : Int32) (gc1 : Int32) (p1 : Int32) (p2 : Int32) (p3 : Int32) (p4 : Int32) (p5 : Int32) {r' : Int32} {cl1' : Nat → Int32} {le1' : Nat → Int32} {ri1' : Nat → Int32} {lt1' : Nat → Int32} {gr1' : Nat → Int32} {ct1' : Int32} {gc1' : Int32} (hf : f_X5_placed p1 p2 p3 p4 p5 cl1 le1 ri1 lt1 gr1 ct1 gc1 = some (r', cl1', le1', ri1', lt1', gr1', ct1', gc1')) : sp_Ci l yX5_placed wsX5_placed rmX5_placed D q5 0 [.ref (a 0), .int p1, .int p2, .int p3, .int p4, .int p5] (sw_T a (b 0) q5 sd sf nu ut ++ (sw_P b q5 cl1 le1 ri1 lt1 gr1 ct1 gc1)) r' (sw_T a (b 0) q5 sd sf nu ut ++ (sw_P b q5 cl1' le1' ri1' lt1' gr1' ct1' gc1')) := by
  intro sz
  refine sp_of (cc := cX5_placed) (maxL := 7) (ret := some .int) (own := RX5) (Qc := sp_Qi D r' (sw_T a (b 0) q5 sd sf nu ut ++ (sw_P b q5 cl1' le1' ri1' lt1' gr1' ct1' gc1'))) (by decide) rfl rfl (Nat.le_of_ble_eq_true rfl) ?_
  intro p e s m args below meth c A ls Q hQ S hr hlk hK hG hA hW hl
  have hx := S.1
  have hb := S.2.1
  unfold f_X5_placed at hf
  have inX2 : ∀ w ∈ u_ws RX2 TX2 7, w ∈ wsX5_placed := (fun _ h => List.mem_cons_of_mem _ (List.mem_append_right _ h))
  have inX5 : ∀ w ∈ u_ws RX5 TX5 5, w ∈ wsX5_placed := (fun _ h => List.mem_cons_of_mem _ (List.mem_append_left _ (List.mem_append_right _ h)))
  have lk1 := S.2.2.2.2 (Cond.fieldLink RX5 12 "ShortProofs$Shortener" "draft" "LShortProofs$Proof;") (List.mem_of_getElem? (i := 1) rfl)
  have lk2 := S.2.2.2.2 (Cond.fieldLink RX5 47 "ShortProofs$Proof" "count" "I") (List.mem_of_getElem? (i := 2) rfl)
  refine lv_bipush (v := (-9)) hx hb dX5_placed_0 (by decide) ?_
  refine lv_istore (lv' := [(6, .int (-9 : Int32)), (0, .ref (a 0)), (1, .int p1), (2, .int p2), (3, .int p3), (4, .int p4), (5, .int p5)]) hx hb dX5_placed_2 hl (by decide) rfl (fun ls hl => ?_)
  refine lv_iload hx hb dX5_placed_4 (lv_at hl 6 rfl) ?_
  refine lv_iconst (v := 1) hx hb dX5_placed_6 (by decide) ?_
  obtain ⟨k2, ek2, hf⟩ := sp_hb hf
  have hj2 : ∀ (x1 : Int32) (H : Heap) (locs : List Loc) (ls : Array Slot), k2 x1 = some (r', cl1', le1', ri1', lt1', gr1', ct1', gc1') → sp_wd D A s.heap (sw_T a (b 0) q5 sd sf nu ut ++ (sw_P b q5 cl1 le1 ri1 lt1 gr1 ct1 gc1)) H locs → lv_has ls 7 [(0, .ref (a 0)), (1, .int p1), (2, .int p2), (3, .int p3), (4, .int p4), (6, .int x1)] → W p l e rmX5_placed s m args below meth c H locs 0 0 Q (F0 m 46 ls []) := by
    intro x1 H locs ls hf hW hl
    rw [ek2] at hf
    refine lv_iload hx hb dX5_placed_46 (lv_at hl 5 rfl) ?_
    refine lv_bipush (v := (-9)) hx hb dX5_placed_48 (by decide) ?_
    refine lv_icmp_ne (tgt := 68) hx hb dX5_placed_50 (by decide) (fun hc => ?_) (fun hc => ?_)
    · have hf := sp_hf hf hc
      refine lv_iload hx hb dX5_placed_68 (lv_at hl 5 rfl) ?_
      cases hf
      exact sp_iret S hr hlk hW hQ dX5_placed_70
    · have hf := sp_ht hf hc
      refine lv_aload_n hx hb dX5_placed_53 rfl (lv_at hl 0 rfl) ?_
      refine sp_get S hK hW inX5 0 rfl rfl 0 (by decide) lk1 rfl dX5_placed_54 ?_
      refine lv_iload_n hx hb dX5_placed_57 rfl (lv_at hl 1 rfl) ?_
      refine lv_iload_n hx hb dX5_placed_58 rfl (lv_at hl 2 rfl) ?_
      refine lv_iload_n hx hb dX5_placed_59 rfl (lv_at hl 3 rfl) ?_
      refine lv_iload hx hb dX5_placed_60 (lv_at hl 4 rfl) ?_
      obtain ⟨⟨r3, c4, c5, c6, c7, c8, c9, c10⟩, hc10, hf⟩ := sp_hc hf
      refine sp_callViP (rest := []) S hK hG hA hW (c_X2_add b cl1 le1 ri1 lt1 gr1 ct1 gc1 p1 p2 p3 p4 hc10) (by decide) (cwV 4 S.2.2.2.2 gX5_placed_X2_add rfl rfl rfl (by decide +kernel) (by decide)) 1 4 rfl rfl (sp_pq [sw_T a (b 0) q5 sd sf nu ut, sw_P b q5 cl1 le1 ri1 lt1 gr1 ct1 gc1] [0, 1] [1] [0] (by decide)) rfl (WS' := sw_T a (b 0) q5 sd sf nu ut ++ (sw_P b q5 c4 c5 c6 c7 c8 c9 c10)) (sp_pq' [sw_T a (b 0) q5 sd sf nu ut, sw_P b q5 c4 c5 c6 c7 c8 c9 c10] [0, 1] [1] [0] (by decide)) rfl hl.1 (Nat.le_of_ble_eq_true rfl) dX5_placed_62 ⟨Nat.zero_le _, Nat.zero_le _⟩ rfl (fun H locs hW => ?_)
      refine lv_goto (tgt := 70) hx hb dX5_placed_65 (by decide) ?_
      cases hf
      exact sp_iret S hr hlk hW hQ dX5_placed_70
  refine lv_icmp_ne (tgt := 30) hx hb dX5_placed_7 (by decide) (fun hc => ?_) (fun hc => ?_)
  · have hf := sp_hf hf hc
    refine lv_iload hx hb dX5_placed_30 (lv_at hl 6 rfl) ?_
    refine lv_iconst (v := 2) hx hb dX5_placed_32 (by decide) ?_
    refine lv_icmp_ne (tgt := 46) hx hb dX5_placed_33 (by decide) (fun hc => ?_) (fun hc => ?_)
    · have hf := sp_hf hf hc
      exact hj2 _ _ _ _ hf hW (lv_sub hl [1, 2, 3, 4, 5, 0] rfl)
    · have hf := sp_ht hf hc
      refine lv_aload_n hx hb dX5_placed_36 rfl (lv_at hl 1 rfl) ?_
      refine sp_get S hK hW inX5 0 rfl rfl 0 (by decide) lk1 rfl dX5_placed_37 ?_
      refine lv_iload_n hx hb dX5_placed_40 rfl (lv_at hl 2 rfl) ?_
      obtain ⟨r11, hc11, hf⟩ := sp_hc hf
      refine sp_callViP (rest := []) S hK hG hA hW (c_X2_firstPartOf b cl1 le1 ri1 lt1 gr1 ct1 gc1 p1 hc11) (by decide) (cwV 1 S.2.2.2.2 gX5_placed_X2_firstPartOf rfl rfl rfl (by decide +kernel) (by decide)) 1 4 rfl rfl (sp_pq [sw_T a (b 0) q5 sd sf nu ut, sw_P b q5 cl1 le1 ri1 lt1 gr1 ct1 gc1] [0, 1] [1] [0] (by decide)) rfl (WS' := sw_T a (b 0) q5 sd sf nu ut ++ (sw_P b q5 cl1 le1 ri1 lt1 gr1 ct1 gc1)) (sp_pq' [sw_T a (b 0) q5 sd sf nu ut, sw_P b q5 cl1 le1 ri1 lt1 gr1 ct1 gc1] [0, 1] [1] [0] (by decide)) rfl hl.1 (Nat.le_of_ble_eq_true rfl) dX5_placed_41 ⟨Nat.zero_le _, Nat.zero_le _⟩ rfl (fun H locs hW => ?_)
      refine lv_istore (lv' := [(6, .int r11), (0, .ref (a 0)), (1, .int p1), (2, .int p2), (3, .int p3), (4, .int p4), (5, .int p5)]) hx hb dX5_placed_44 hl (by decide) rfl (fun ls hl => ?_)
      exact hj2 _ _ _ _ hf hW (lv_sub hl [1, 2, 3, 4, 5, 0] rfl)
  · have hf := sp_ht hf hc
    refine lv_aload_n hx hb dX5_placed_10 rfl (lv_at hl 1 rfl) ?_
    refine sp_get S hK hW inX5 0 rfl rfl 0 (by decide) lk1 rfl dX5_placed_11 ?_
    refine lv_iload_n hx hb dX5_placed_14 rfl (lv_at hl 2 rfl) ?_
    refine lv_aload_n hx hb dX5_placed_15 rfl (lv_at hl 1 rfl) ?_
    refine sp_get S hK hW inX5 0 rfl rfl 0 (by decide) lk1 rfl dX5_placed_16 ?_
    refine sp_get S hK hW inX2 4 rfl rfl 5 (by decide) lk2 rfl dX5_placed_19 ?_
    obtain ⟨r12, hc12, hf⟩ := sp_hc hf
    refine sp_callViP (rest := []) S hK hG hA hW (c_X2_firstWith b cl1 le1 ri1 lt1 gr1 ct1 gc1 p1 ct1 hc12) (by decide) (cwV 2 S.2.2.2.2 gX5_placed_X2_firstWith rfl rfl rfl (by decide +kernel) (by decide)) 1 4 rfl rfl (sp_pq [sw_T a (b 0) q5 sd sf nu ut, sw_P b q5 cl1 le1 ri1 lt1 gr1 ct1 gc1] [0, 1] [1] [0] (by decide)) rfl (WS' := sw_T a (b 0) q5 sd sf nu ut ++ (sw_P b q5 cl1 le1 ri1 lt1 gr1 ct1 gc1)) (sp_pq' [sw_T a (b 0) q5 sd sf nu ut, sw_P b q5 cl1 le1 ri1 lt1 gr1 ct1 gc1] [0, 1] [1] [0] (by decide)) rfl hl.1 (Nat.le_of_ble_eq_true rfl) dX5_placed_22 ⟨Nat.zero_le _, Nat.zero_le _⟩ rfl (fun H locs hW => ?_)
    refine lv_istore (lv' := [(6, .int r12), (0, .ref (a 0)), (1, .int p1), (2, .int p2), (3, .int p3), (4, .int p4), (5, .int p5)]) hx hb dX5_placed_25 hl (by decide) rfl (fun ls hl => ?_)
    refine lv_goto (tgt := 46) hx hb dX5_placed_27 (by decide) ?_
    exact hj2 _ _ _ _ hf hW (lv_sub hl [1, 2, 3, 4, 5, 0] rfl)

def f_X5_cutAnew (p1 : Int32) (p2 : Int32) (p3 : Int32) (p4 : Int32) (cl1 : Nat → Int32) (le1 : Nat → Int32) (ri1 : Nat → Int32) (lt1 : Nat → Int32) (gr1 : Nat → Int32) (ct1 : Int32) (gc1 : Int32) : Option (Int32 × (Nat → Int32) × (Nat → Int32) × (Nat → Int32) × (Nat → Int32) × (Nat → Int32) × Int32 × Int32) := Option.bind (f_X0_plain p3) (fun r1 => sp_ld cl1 48 p1 (fun v2 => Option.bind (f_X0_isPart r1 v2) (fun r3 => if r3 = 0 then (some (p1, cl1, le1, ri1, lt1, gr1, ct1, gc1)) else (Option.bind (f_X0_negated p3) (fun r4 => sp_ld cl1 48 p2 (fun v5 => Option.bind (f_X0_isPart r4 v5) (fun r6 => if r6 = 0 then (some (p2, cl1, le1, ri1, lt1, gr1, ct1, gc1)) else (sp_ld cl1 48 p1 (fun v7 => sp_ld cl1 48 p2 (fun v8 => Option.bind (f_X0_cutOf v7 v8 p3) (fun r9 => if r9 = (-9 : Int32) then (some ((-3 : Int32), cl1, le1, ri1, lt1, gr1, ct1, gc1)) else (Option.bind (f_X5_placed r9 p1 p2 p3 p4 cl1 le1 ri1 lt1 gr1 ct1 gc1) (fun q9 => match q9 with | (r10, c11, c12, c13, c14, c15, c16, c17) => some (r10, c11, c12, c13, c14, c15, c16, c17))))))))))))))
def rmX5_cutAnew : Room := { frames := 2, cells := 0, slots := 0, locals := 50 }
set_option maxRecDepth 4000 in
theorem c_X5_cutAnew {l : Launch} {D : va_G} {q5 : Nat → ClassId} (a : Nat → Nat) (b : Nat → Nat) (sd : Nat → Int32) (sf : Nat → Int32) (nu : Nat → Int32) (ut : Int64) (cl1 : Nat → Int32) (le1 : Nat → Int32) (ri1 : Nat → Int32) (lt1 : Nat → Int32) (gr1 : Nat → Int32) (ct1 : Int32) (gc1 : Int32) (p1 : Int32) (p2 : Int32) (p3 : Int32) (p4 : Int32) {r' : Int32} {cl1' : Nat → Int32} {le1' : Nat → Int32} {ri1' : Nat → Int32} {lt1' : Nat → Int32} {gr1' : Nat → Int32} {ct1' : Int32} {gc1' : Int32} (hf : f_X5_cutAnew p1 p2 p3 p4 cl1 le1 ri1 lt1 gr1 ct1 gc1 = some (r', cl1', le1', ri1', lt1', gr1', ct1', gc1')) : sp_Ci l yX5_cutAnew wsX5_cutAnew rmX5_cutAnew D q5 0 [.ref (a 0), .int p1, .int p2, .int p3, .int p4] (sw_T a (b 0) q5 sd sf nu ut ++ (sw_P b q5 cl1 le1 ri1 lt1 gr1 ct1 gc1)) r' (sw_T a (b 0) q5 sd sf nu ut ++ (sw_P b q5 cl1' le1' ri1' lt1' gr1' ct1' gc1')) := by
  intro sz
  refine sp_of (cc := cX5_cutAnew) (maxL := 6) (ret := some .int) (own := RX5) (Qc := sp_Qi D r' (sw_T a (b 0) q5 sd sf nu ut ++ (sw_P b q5 cl1' le1' ri1' lt1' gr1' ct1' gc1'))) (by decide) rfl rfl (Nat.le_of_ble_eq_true rfl) ?_
  intro p e s m args below meth c A ls Q hQ S hr hlk hK hG hA hW hl
  have hx := S.1
  have hb := S.2.1
  unfold f_X5_cutAnew at hf
  have inX2 : ∀ w ∈ u_ws RX2 TX2 7, w ∈ wsX5_cutAnew := (fun _ h => List.mem_cons_of_mem _ (List.mem_append_right _ h))
  have inX5 : ∀ w ∈ u_ws RX5 TX5 5, w ∈ wsX5_cutAnew := (fun _ h => List.mem_cons_of_mem _ (List.mem_append_left _ (List.mem_append_right _ h)))
  have lk1 := S.2.2.2.2 (Cond.fieldLink RX5 12 "ShortProofs$Shortener" "draft" "LShortProofs$Proof;") (List.mem_of_getElem? (i := 1) rfl)
  have lk2 := S.2.2.2.2 (Cond.fieldLink RX5 67 "ShortProofs$Proof" "clauses" "[I") (List.mem_of_getElem? (i := 2) rfl)
  refine lv_iload_n hx hb dX5_cutAnew_0 rfl (lv_at hl 3 rfl) ?_
  obtain ⟨r1, hc1, hf⟩ := sp_hc hf
  refine sp_callSi (rest := []) S hK hG hA hW (c_X0_plain p3 hc1) (by decide) (va_cwS 1 S.2.2.2.2 gX5_cutAnew_X0_plain rfl rfl rfl (by decide +kernel) (by decide)) (isC := []) rfl rfl rfl (WS' := sw_T a (b 0) q5 sd sf nu ut ++ (sw_P b q5 cl1 le1 ri1 lt1 gr1 ct1 gc1)) rfl rfl hl.1 (Nat.le_of_ble_eq_true rfl) dX5_cutAnew_1 ⟨Nat.zero_le _, Nat.zero_le _⟩ rfl (fun H locs hW => ?_)
  refine lv_aload_n hx hb dX5_cutAnew_4 rfl (lv_at hl 0 rfl) ?_
  refine sp_get S hK hW inX5 0 rfl rfl 0 (by decide) lk1 rfl dX5_cutAnew_5 ?_
  refine sp_get S hK hW inX2 4 rfl rfl 0 (by decide) lk2 rfl dX5_cutAnew_8 ?_
  refine lv_iload_n hx hb dX5_cutAnew_11 rfl (lv_at hl 1 rfl) ?_
  obtain ⟨hin, v2, ev2, hf⟩ := sp_hld hf
  refine sp_iald S hK hW 5 rfl hin ev2 dX5_cutAnew_12 ?_
  obtain ⟨r3, hc3, hf⟩ := sp_hc hf
  refine sp_callSi (rest := []) S hK hG hA hW (c_X0_isPart r1 v2 hc3) (by decide) (va_cwS 2 S.2.2.2.2 gX5_cutAnew_X0_isPart rfl rfl rfl (by decide +kernel) (by decide)) (isC := []) rfl rfl rfl (WS' := sw_T a (b 0) q5 sd sf nu ut ++ (sw_P b q5 cl1 le1 ri1 lt1 gr1 ct1 gc1)) rfl rfl hl.1 (Nat.le_of_ble_eq_true rfl) dX5_cutAnew_13 ⟨Nat.zero_le _, Nat.zero_le _⟩ rfl (fun H locs hW => ?_)
  refine lv_if_ne (tgt := 21) hx hb dX5_cutAnew_16 (by decide) (fun hc => ?_) (fun hc => ?_)
  · have hf := sp_hf hf hc
    refine lv_iload_n hx hb dX5_cutAnew_21 rfl (lv_at hl 3 rfl) ?_
    obtain ⟨r4, hc4, hf⟩ := sp_hc hf
    refine sp_callSi (rest := []) S hK hG hA hW (c_X0_negated p3 hc4) (by decide) (va_cwS 1 S.2.2.2.2 gX5_cutAnew_X0_negated rfl rfl rfl (by decide +kernel) (by decide)) (isC := []) rfl rfl rfl (WS' := sw_T a (b 0) q5 sd sf nu ut ++ (sw_P b q5 cl1 le1 ri1 lt1 gr1 ct1 gc1)) rfl rfl hl.1 (Nat.le_of_ble_eq_true rfl) dX5_cutAnew_22 ⟨Nat.zero_le _, Nat.zero_le _⟩ rfl (fun H locs hW => ?_)
    refine lv_aload_n hx hb dX5_cutAnew_25 rfl (lv_at hl 0 rfl) ?_
    refine sp_get S hK hW inX5 0 rfl rfl 0 (by decide) lk1 rfl dX5_cutAnew_26 ?_
    refine sp_get S hK hW inX2 4 rfl rfl 0 (by decide) lk2 rfl dX5_cutAnew_29 ?_
    refine lv_iload_n hx hb dX5_cutAnew_32 rfl (lv_at hl 2 rfl) ?_
    obtain ⟨hin, v5, ev5, hf⟩ := sp_hld hf
    refine sp_iald S hK hW 5 rfl hin ev5 dX5_cutAnew_33 ?_
    obtain ⟨r6, hc6, hf⟩ := sp_hc hf
    refine sp_callSi (rest := []) S hK hG hA hW (c_X0_isPart r4 v5 hc6) (by decide) (va_cwS 2 S.2.2.2.2 gX5_cutAnew_X0_isPart rfl rfl rfl (by decide +kernel) (by decide)) (isC := []) rfl rfl rfl (WS' := sw_T a (b 0) q5 sd sf nu ut ++ (sw_P b q5 cl1 le1 ri1 lt1 gr1 ct1 gc1)) rfl rfl hl.1 (Nat.le_of_ble_eq_true rfl) dX5_cutAnew_34 ⟨Nat.zero_le _, Nat.zero_le _⟩ rfl (fun H locs hW => ?_)
    refine lv_if_ne (tgt := 42) hx hb dX5_cutAnew_37 (by decide) (fun hc => ?_) (fun hc => ?_)
    · have hf := sp_hf hf hc
      refine lv_aload_n hx hb dX5_cutAnew_42 rfl (lv_at hl 0 rfl) ?_
      refine sp_get S hK hW inX5 0 rfl rfl 0 (by decide) lk1 rfl dX5_cutAnew_43 ?_
      refine sp_get S hK hW inX2 4 rfl rfl 0 (by decide) lk2 rfl dX5_cutAnew_46 ?_
      refine lv_iload_n hx hb dX5_cutAnew_49 rfl (lv_at hl 1 rfl) ?_
      obtain ⟨hin, v7, ev7, hf⟩ := sp_hld hf
      refine sp_iald S hK hW 5 rfl hin ev7 dX5_cutAnew_50 ?_
      refine lv_aload_n hx hb dX5_cutAnew_51 rfl (lv_at hl 0 rfl) ?_
      refine sp_get S hK hW inX5 0 rfl rfl 0 (by decide) lk1 rfl dX5_cutAnew_52 ?_
      refine sp_get S hK hW inX2 4 rfl rfl 0 (by decide) lk2 rfl dX5_cutAnew_55 ?_
      refine lv_iload_n hx hb dX5_cutAnew_58 rfl (lv_at hl 2 rfl) ?_
      obtain ⟨hin, v8, ev8, hf⟩ := sp_hld hf
      refine sp_iald S hK hW 5 rfl hin ev8 dX5_cutAnew_59 ?_
      refine lv_iload_n hx hb dX5_cutAnew_60 rfl (lv_at hl 3 rfl) ?_
      obtain ⟨r9, hc9, hf⟩ := sp_hc hf
      refine sp_callSi (rest := []) S hK hG hA hW (c_X0_cutOf v7 v8 p3 hc9) (by decide) (va_cwS 3 S.2.2.2.2 gX5_cutAnew_X0_cutOf rfl rfl rfl (by decide +kernel) (by decide)) (isC := []) rfl rfl rfl (WS' := sw_T a (b 0) q5 sd sf nu ut ++ (sw_P b q5 cl1 le1 ri1 lt1 gr1 ct1 gc1)) rfl rfl hl.1 (Nat.le_of_ble_eq_true rfl) dX5_cutAnew_61 ⟨Nat.zero_le _, Nat.zero_le _⟩ rfl (fun H locs hW => ?_)
      refine lv_istore (lv' := [(5, .int r9), (0, .ref (a 0)), (1, .int p1), (2, .int p2), (3, .int p3), (4, .int p4)]) hx hb dX5_cutAnew_64 hl (by decide) rfl (fun ls hl => ?_)
      refine lv_iload hx hb dX5_cutAnew_66 (lv_at hl 0 rfl) ?_
      refine lv_bipush (v := (-9)) hx hb dX5_cutAnew_68 (by decide) ?_
      refine lv_icmp_ne (tgt := 78) hx hb dX5_cutAnew_70 (by decide) (fun hc => ?_) (fun hc => ?_)
      · have hf := sp_hf hf hc
        refine lv_aload_n hx hb dX5_cutAnew_78 rfl (lv_at hl 1 rfl) ?_
        refine lv_iload hx hb dX5_cutAnew_79 (lv_at hl 0 rfl) ?_
        refine lv_iload_n hx hb dX5_cutAnew_81 rfl (lv_at hl 2 rfl) ?_
        refine lv_iload_n hx hb dX5_cutAnew_82 rfl (lv_at hl 3 rfl) ?_
        refine lv_iload_n hx hb dX5_cutAnew_83 rfl (lv_at hl 4 rfl) ?_
        refine lv_iload hx hb dX5_cutAnew_84 (lv_at hl 5 rfl) ?_
        obtain ⟨⟨r10, c11, c12, c13, c14, c15, c16, c17⟩, hc17, hf⟩ := sp_hc hf
        refine sp_callViP (rest := []) S hK hG hA hW (c_X5_placed a b sd sf nu ut cl1 le1 ri1 lt1 gr1 ct1 gc1 r9 p1 p2 p3 p4 hc17) (by decide) (cwV 5 S.2.2.2.2 gX5_cutAnew_X5_placed rfl rfl rfl (by decide +kernel) (by decide)) 4 0 rfl rfl (sp_pn _) rfl (WS' := sw_T a (b 0) q5 sd sf nu ut ++ (sw_P b q5 c11 c12 c13 c14 c15 c16 c17)) (sp_pn' _) rfl hl.1 (Nat.le_of_ble_eq_true rfl) dX5_cutAnew_86 ⟨Nat.zero_le _, Nat.zero_le _⟩ rfl (fun H locs hW => ?_)
        cases hf
        exact sp_iret S hr hlk hW hQ dX5_cutAnew_89
      · have hf := sp_ht hf hc
        refine lv_bipush (v := (-3)) hx hb dX5_cutAnew_73 (by decide) ?_
        refine lv_goto (tgt := 89) hx hb dX5_cutAnew_75 (by decide) ?_
        cases hf
        exact sp_iret S hr hlk hW hQ dX5_cutAnew_89
    · have hf := sp_ht hf hc
      refine lv_iload_n hx hb dX5_cutAnew_40 rfl (lv_at hl 2 rfl) ?_
      cases hf
      exact sp_iret S hr hlk hW hQ dX5_cutAnew_41
  · have hf := sp_ht hf hc
    refine lv_iload_n hx hb dX5_cutAnew_19 rfl (lv_at hl 1 rfl) ?_
    cases hf
    exact sp_iret S hr hlk hW hQ dX5_cutAnew_20

def f_X5_standIn (p2 : Int32) (p3 : Int32) (sd : Nat → Int32) (sf : Nat → Int32) (ut : Int64) (cl1 : Nat → Int32) (le1 : Nat → Int32) (ri1 : Nat → Int32) (lt1 : Nat → Int32) (gr1 : Nat → Int32) (ct1 : Int32) (gc1 : Int32) (cl2 : Nat → Int32) (le2 : Nat → Int32) (ri2 : Nat → Int32) (lt2 : Nat → Int32) : Option (Int32 × (Nat → Int32) × (Nat → Int32) × (Nat → Int32) × (Nat → Int32) × (Nat → Int32) × Int32 × Int32) := Option.bind (f_X2_isGround p2 le2) (fun r1 => if r1 = 0 then (sp_ld le2 48 p2 (fun v2 => sp_ld sd 48 v2 (fun v3 => sp_ld ri2 48 p2 (fun v4 => sp_ld sd 48 v4 (fun v5 => sp_ld lt2 48 p2 (fun v6 => sp_bnd (sp_bnd (sp_bnd (sp_bnd (Option.bind (f_X5_cutAnew v3 v5 v6 p3 cl1 le1 ri1 lt1 gr1 ct1 gc1) (fun q9 => match q9 with | (r11, c12, c13, c14, c15, c16, c17, c18) => some (r11, c12, c13, c14, c15, c16, c17, c18))) (fun k10 => if p3 = (4 : Int32) then (sp_ld ri2 48 p2 (fun v19 => Option.bind (f_X9_isIn v19 ut) (fun r20 => if r20 = 0 then k10 else (some (v3, cl1, le1, ri1, lt1, gr1, ct1, gc1))))) else k10)) (fun k9 => if p3 = (4 : Int32) then (sp_ld le2 48 p2 (fun v21 => Option.bind (f_X9_isIn v21 ut) (fun r22 => if r22 = 0 then k9 else (some (v5, cl1, le1, ri1, lt1, gr1, ct1, gc1))))) else k9)) (fun k8 => if p3 = (3 : Int32) then (Option.bind (f_X0_negated v6) (fun r23 => sp_ld sf 48 p2 (fun v24 => Option.bind (f_X0_isPart r23 v24) (fun r25 => if r25 = 0 then k8 else (some (v5, cl1, le1, ri1, lt1, gr1, ct1, gc1)))))) else k8)) (fun k7 => if p3 = (3 : Int32) then (Option.bind (f_X0_plain v6) (fun r26 => sp_ld sf 48 p2 (fun v27 => Option.bind (f_X0_isPart r26 v27) (fun r28 => if r28 = 0 then k7 else (some (v3, cl1, le1, ri1, lt1, gr1, ct1, gc1)))))) else k7))))))) else (sp_ld cl2 48 p2 (fun v29 => Option.bind (f_X5_placed v29 (-9 : Int32) (-9 : Int32) (-9 : Int32) p3 cl1 le1 ri1 lt1 gr1 ct1 gc1) (fun q9 => match q9 with | (r30, c31, c32, c33, c34, c35, c36, c37) => some (r30, c31, c32, c33, c34, c35, c36, c37)))))
def rmX5_standIn : Room := { frames := 3, cells := 0, slots := 0, locals := 75 }
set_option maxRecDepth 4000 in
theorem c_X5_standIn {l : Launch} {D : va_G} {q5 : Nat → ClassId} (a : Nat → Nat) (b : Nat → Nat) (d : Nat → Nat) (sd : Nat → Int32) (sf : Nat → Int32) (nu : Nat → Int32) (ut : Int64) (cl1 : Nat → Int32) (le1 : Nat → Int32) (ri1 : Nat → Int32) (lt1 : Nat → Int32) (gr1 : Nat → Int32) (ct1 : Int32) (gc1 : Int32) (cl2 : Nat → Int32) (le2 : Nat → Int32) (ri2 : Nat → Int32) (lt2 : Nat → Int32) (gr2 : Nat → Int32) (ct2 : Int32) (gc2 : Int32) (p2 : Int32) (p3 : Int32) {r' : Int32} {cl1' : Nat → Int32} {le1' : Nat → Int32} {ri1' : Nat → Int32} {lt1' : Nat → Int32} {gr1' : Nat → Int32} {ct1' : Int32} {gc1' : Int32} (hf : f_X5_standIn p2 p3 sd sf ut cl1 le1 ri1 lt1 gr1 ct1 gc1 cl2 le2 ri2 lt2 = some (r', cl1', le1', ri1', lt1', gr1', ct1', gc1')) : sp_Ci l yX5_standIn wsX5_standIn rmX5_standIn D q5 1 [.ref (a 0), .ref (d 0), .int p2, .int p3] (sw_T a (b 0) q5 sd sf nu ut ++ (sw_P b q5 cl1 le1 ri1 lt1 gr1 ct1 gc1 ++ (sw_P d q5 cl2 le2 ri2 lt2 gr2 ct2 gc2))) r' (sw_T a (b 0) q5 sd sf nu ut ++ (sw_P b q5 cl1' le1' ri1' lt1' gr1' ct1' gc1' ++ (sw_P d q5 cl2 le2 ri2 lt2 gr2 ct2 gc2))) := by
  intro sz
  refine sp_of (cc := cX5_standIn) (maxL := 7) (ret := some .int) (own := RX5) (Qc := sp_Qi D r' (sw_T a (b 0) q5 sd sf nu ut ++ (sw_P b q5 cl1' le1' ri1' lt1' gr1' ct1' gc1' ++ (sw_P d q5 cl2 le2 ri2 lt2 gr2 ct2 gc2)))) (by decide) rfl rfl (Nat.le_of_ble_eq_true rfl) ?_
  intro p e s m args below meth c A ls Q hQ S hr hlk hK hG hA hW hl
  have hx := S.1
  have hb := S.2.1
  unfold f_X5_standIn at hf
  have inX2 : ∀ w ∈ u_ws RX2 TX2 7, w ∈ wsX5_standIn := (fun _ h => List.mem_cons_of_mem _ (List.mem_append_left _ (List.mem_append_right _ h)))
  have inX5 : ∀ w ∈ u_ws RX5 TX5 5, w ∈ wsX5_standIn := (fun _ h => List.mem_cons_of_mem _ (List.mem_append_right _ h))
  have lk1 := S.2.2.2.2 (Cond.fieldLink RX5 18 "ShortProofs$Shortener" "stands" "[I") (List.mem_of_getElem? (i := 2) rfl)
  have lk2 := S.2.2.2.2 (Cond.fieldLink RX5 78 "ShortProofs$Proof" "lefts" "[I") (List.mem_of_getElem? (i := 3) rfl)
  have lk3 := S.2.2.2.2 (Cond.fieldLink RX5 90 "ShortProofs$Proof" "rights" "[I") (List.mem_of_getElem? (i := 4) rfl)
  have lk4 := S.2.2.2.2 (Cond.fieldLink RX5 81 "ShortProofs$Proof" "letters" "[I") (List.mem_of_getElem? (i := 5) rfl)
  have lk5 := S.2.2.2.2 (Cond.fieldLink RX5 39 "ShortProofs$Shortener" "unitSet" "J") (List.mem_of_getElem? (i := 7) rfl)
  have lk6 := S.2.2.2.2 (Cond.static yX9_isIn) (List.mem_of_getElem? (i := 49) rfl)
  have lk7 := S.2.2.2.2 (Cond.initialized RX9) (List.mem_of_getElem? (i := 50) rfl)
  have lk8 := S.2.2.2.2 (Cond.fieldLink RX5 22 "ShortProofs$Shortener" "safes" "[I") (List.mem_of_getElem? (i := 6) rfl)
  have lk9 := S.2.2.2.2 (Cond.fieldLink RX5 67 "ShortProofs$Proof" "clauses" "[I") (List.mem_of_getElem? (i := 1) rfl)
  refine lv_aload_n hx hb dX5_standIn_0 rfl (lv_at hl 1 rfl) ?_
  refine lv_iload_n hx hb dX5_standIn_1 rfl (lv_at hl 2 rfl) ?_
  obtain ⟨r1, hc1, hf⟩ := sp_hc hf
  refine sp_callViP (rest := []) S hK hG hA hW (c_X2_isGround d cl2 le2 ri2 lt2 gr2 ct2 gc2 p2 hc1) (by decide) (cwV 1 S.2.2.2.2 gX5_standIn_X2_isGround rfl rfl rfl (by decide +kernel) (by decide)) 1 10 rfl rfl (sp_pq [sw_T a (b 0) q5 sd sf nu ut, sw_P b q5 cl1 le1 ri1 lt1 gr1 ct1 gc1, sw_P d q5 cl2 le2 ri2 lt2 gr2 ct2 gc2] [0, 1, 2] [2] [0, 1] (by decide)) rfl (WS' := sw_T a (b 0) q5 sd sf nu ut ++ (sw_P b q5 cl1 le1 ri1 lt1 gr1 ct1 gc1 ++ (sw_P d q5 cl2 le2 ri2 lt2 gr2 ct2 gc2))) (sp_pq' [sw_T a (b 0) q5 sd sf nu ut, sw_P b q5 cl1 le1 ri1 lt1 gr1 ct1 gc1, sw_P d q5 cl2 le2 ri2 lt2 gr2 ct2 gc2] [0, 1, 2] [2] [0, 1] (by decide)) rfl hl.1 (Nat.le_of_ble_eq_true rfl) dX5_standIn_2 ⟨Nat.zero_le _, Nat.zero_le _⟩ rfl (fun H locs hW => ?_)
  refine lv_if_eq (tgt := 26) hx hb dX5_standIn_5 (by decide) (fun hc => ?_) (fun hc => ?_)
  · have hf := sp_ht hf hc
    refine lv_aload_n hx hb dX5_standIn_26 rfl (lv_at hl 0 rfl) ?_
    refine sp_get S hK hW inX5 0 rfl rfl 1 (by decide) lk1 rfl dX5_standIn_27 ?_
    refine lv_aload_n hx hb dX5_standIn_30 rfl (lv_at hl 1 rfl) ?_
    refine sp_get S hK hW inX2 10 rfl rfl 1 (by decide) lk2 rfl dX5_standIn_31 ?_
    refine lv_iload_n hx hb dX5_standIn_34 rfl (lv_at hl 2 rfl) ?_
    obtain ⟨hin, v2, ev2, hf⟩ := sp_hld hf
    refine sp_iald S hK hW 12 rfl hin ev2 dX5_standIn_35 ?_
    obtain ⟨hin, v3, ev3, hf⟩ := sp_hld hf
    refine sp_iald S hK hW 1 rfl hin ev3 dX5_standIn_36 ?_
    refine lv_istore (lv' := [(4, .int v3), (0, .ref (a 0)), (1, .ref (d 0)), (2, .int p2), (3, .int p3)]) hx hb dX5_standIn_37 hl (by decide) rfl (fun ls hl => ?_)
    refine lv_aload_n hx hb dX5_standIn_39 rfl (lv_at hl 1 rfl) ?_
    refine sp_get S hK hW inX5 0 rfl rfl 1 (by decide) lk1 rfl dX5_standIn_40 ?_
    refine lv_aload_n hx hb dX5_standIn_43 rfl (lv_at hl 2 rfl) ?_
    refine sp_get S hK hW inX2 10 rfl rfl 2 (by decide) lk3 rfl dX5_standIn_44 ?_
    refine lv_iload_n hx hb dX5_standIn_47 rfl (lv_at hl 3 rfl) ?_
    obtain ⟨hin, v4, ev4, hf⟩ := sp_hld hf
    refine sp_iald S hK hW 13 rfl hin ev4 dX5_standIn_48 ?_
    obtain ⟨hin, v5, ev5, hf⟩ := sp_hld hf
    refine sp_iald S hK hW 1 rfl hin ev5 dX5_standIn_49 ?_
    refine lv_istore (lv' := [(5, .int v5), (4, .int v3), (0, .ref (a 0)), (1, .ref (d 0)), (2, .int p2), (3, .int p3)]) hx hb dX5_standIn_50 hl (by decide) rfl (fun ls hl => ?_)
    refine lv_aload_n hx hb dX5_standIn_52 rfl (lv_at hl 3 rfl) ?_
    refine sp_get S hK hW inX2 10 rfl rfl 3 (by decide) lk4 rfl dX5_standIn_53 ?_
    refine lv_iload_n hx hb dX5_standIn_56 rfl (lv_at hl 4 rfl) ?_
    obtain ⟨hin, v6, ev6, hf⟩ := sp_hld hf
    refine sp_iald S hK hW 14 rfl hin ev6 dX5_standIn_57 ?_
    refine lv_istore (lv' := [(6, .int v6), (5, .int v5), (4, .int v3), (0, .ref (a 0)), (1, .ref (d 0)), (2, .int p2), (3, .int p3)]) hx hb dX5_standIn_58 hl (by decide) rfl (fun ls hl => ?_)
    refine lv_iload_n hx hb dX5_standIn_60 rfl (lv_at hl 6 rfl) ?_
    refine lv_iconst (v := 3) hx hb dX5_standIn_61 (by decide) ?_
    obtain ⟨k7, ek7, hf⟩ := sp_hb hf
    have hj7 : ∀ (H : Heap) (locs : List Loc) (ls : Array Slot), k7 = some (r', cl1', le1', ri1', lt1', gr1', ct1', gc1') → sp_wd D A s.heap (sw_T a (b 0) q5 sd sf nu ut ++ (sw_P b q5 cl1 le1 ri1 lt1 gr1 ct1 gc1 ++ (sw_P d q5 cl2 le2 ri2 lt2 gr2 ct2 gc2))) H locs → lv_has ls 7 [(0, .ref (a 0)), (1, .ref (d 0)), (2, .int p2), (3, .int p3), (4, .int v3), (5, .int v5), (6, .int v6)] → W p l e rmX5_standIn s m args below meth c H locs 0 0 Q (F0 m 85 ls []) := by
      intro H locs ls hf hW hl
      rw [ek7] at hf
      refine lv_iload_n hx hb dX5_standIn_85 rfl (lv_at hl 3 rfl) ?_
      refine lv_iconst (v := 3) hx hb dX5_standIn_86 (by decide) ?_
      obtain ⟨k8, ek8, hf⟩ := sp_hb hf
      have hj8 : ∀ (H : Heap) (locs : List Loc) (ls : Array Slot), k8 = some (r', cl1', le1', ri1', lt1', gr1', ct1', gc1') → sp_wd D A s.heap (sw_T a (b 0) q5 sd sf nu ut ++ (sw_P b q5 cl1 le1 ri1 lt1 gr1 ct1 gc1 ++ (sw_P d q5 cl2 le2 ri2 lt2 gr2 ct2 gc2))) H locs → lv_has ls 7 [(0, .ref (a 0)), (1, .ref (d 0)), (2, .int p2), (3, .int p3), (4, .int v3), (5, .int v5), (6, .int v6)] → W p l e rmX5_standIn s m args below meth c H locs 0 0 Q (F0 m 110 ls []) := by
        intro H locs ls hf hW hl
        rw [ek8] at hf
        refine lv_iload_n hx hb dX5_standIn_110 rfl (lv_at hl 3 rfl) ?_
        refine lv_iconst (v := 4) hx hb dX5_standIn_111 (by decide) ?_
        obtain ⟨k9, ek9, hf⟩ := sp_hb hf
        have hj9 : ∀ (H : Heap) (locs : List Loc) (ls : Array Slot), k9 = some (r', cl1', le1', ri1', lt1', gr1', ct1', gc1') → sp_wd D A s.heap (sw_T a (b 0) q5 sd sf nu ut ++ (sw_P b q5 cl1 le1 ri1 lt1 gr1 ct1 gc1 ++ (sw_P d q5 cl2 le2 ri2 lt2 gr2 ct2 gc2))) H locs → lv_has ls 7 [(0, .ref (a 0)), (1, .ref (d 0)), (2, .int p2), (3, .int p3), (4, .int v3), (5, .int v5), (6, .int v6)] → W p l e rmX5_standIn s m args below meth c H locs 0 0 Q (F0 m 134 ls []) := by
          intro H locs ls hf hW hl
          rw [ek9] at hf
          refine lv_iload_n hx hb dX5_standIn_134 rfl (lv_at hl 3 rfl) ?_
          refine lv_iconst (v := 4) hx hb dX5_standIn_135 (by decide) ?_
          obtain ⟨k10, ek10, hf⟩ := sp_hb hf
          have hj10 : ∀ (H : Heap) (locs : List Loc) (ls : Array Slot), k10 = some (r', cl1', le1', ri1', lt1', gr1', ct1', gc1') → sp_wd D A s.heap (sw_T a (b 0) q5 sd sf nu ut ++ (sw_P b q5 cl1 le1 ri1 lt1 gr1 ct1 gc1 ++ (sw_P d q5 cl2 le2 ri2 lt2 gr2 ct2 gc2))) H locs → lv_has ls 7 [(0, .ref (a 0)), (3, .int p3), (4, .int v3), (5, .int v5), (6, .int v6)] → W p l e rmX5_standIn s m args below meth c H locs 0 0 Q (F0 m 158 ls []) := by
            intro H locs ls hf hW hl
            rw [ek10] at hf
            refine lv_aload_n hx hb dX5_standIn_158 rfl (lv_at hl 0 rfl) ?_
            refine lv_iload hx hb dX5_standIn_159 (lv_at hl 2 rfl) ?_
            refine lv_iload hx hb dX5_standIn_161 (lv_at hl 3 rfl) ?_
            refine lv_iload hx hb dX5_standIn_163 (lv_at hl 4 rfl) ?_
            refine lv_iload_n hx hb dX5_standIn_165 rfl (lv_at hl 1 rfl) ?_
            obtain ⟨⟨r11, c12, c13, c14, c15, c16, c17, c18⟩, hc18, hf⟩ := sp_hc hf
            refine sp_callViP (rest := []) S hK hG hA hW (c_X5_cutAnew a b sd sf nu ut cl1 le1 ri1 lt1 gr1 ct1 gc1 v3 v5 v6 p3 hc18) (by decide) (cwV 4 S.2.2.2.2 gX5_standIn_X5_cutAnew rfl rfl rfl (by decide +kernel) (by decide)) 4 0 rfl rfl (sp_pq [sw_T a (b 0) q5 sd sf nu ut, sw_P b q5 cl1 le1 ri1 lt1 gr1 ct1 gc1, sw_P d q5 cl2 le2 ri2 lt2 gr2 ct2 gc2] [0, 1, 2] [0, 1] [2] (by decide)) rfl (WS' := sw_T a (b 0) q5 sd sf nu ut ++ (sw_P b q5 c12 c13 c14 c15 c16 c17 c18 ++ (sw_P d q5 cl2 le2 ri2 lt2 gr2 ct2 gc2))) (sp_pq' [sw_T a (b 0) q5 sd sf nu ut, sw_P b q5 c12 c13 c14 c15 c16 c17 c18, sw_P d q5 cl2 le2 ri2 lt2 gr2 ct2 gc2] [0, 1, 2] [0, 1] [2] (by decide)) rfl hl.1 (Nat.le_of_ble_eq_true rfl) dX5_standIn_166 ⟨Nat.zero_le _, Nat.zero_le _⟩ rfl (fun H locs hW => ?_)
            cases hf
            exact sp_iret S hr hlk hW hQ dX5_standIn_169
          refine lv_icmp_ne (tgt := 158) hx hb dX5_standIn_136 (by decide) (fun hc => ?_) (fun hc => ?_)
          · have hf := sp_hf hf hc
            exact hj10 _ _ _ hf hW (lv_sub hl [0, 3, 4, 5, 6] rfl)
          · have hf := sp_ht hf hc
            refine lv_aload_n hx hb dX5_standIn_139 rfl (lv_at hl 1 rfl) ?_
            refine sp_get S hK hW inX2 10 rfl rfl 2 (by decide) lk3 rfl dX5_standIn_140 ?_
            refine lv_iload_n hx hb dX5_standIn_143 rfl (lv_at hl 2 rfl) ?_
            obtain ⟨hin, v19, ev19, hf⟩ := sp_hld hf
            refine sp_iald S hK hW 13 rfl hin ev19 dX5_standIn_144 ?_
            refine lv_aload_n hx hb dX5_standIn_145 rfl (lv_at hl 0 rfl) ?_
            refine sp_get S hK hW inX5 0 rfl rfl 4 (by decide) lk5 rfl dX5_standIn_146 ?_
            obtain ⟨r20, hc20, hf⟩ := sp_hc hf
            refine sp_callNi (rest := []) (host := RX9) S hK hG hA hW (c_X9_isIn v19 ut hc20) (by decide) ⟨va_cnB 2 S.2.2.2.2 gX5_standIn_X9_isIn_n70 rfl rfl rfl (hG.1 (by decide) _ (List.mem_of_getElem? (i := 11) rfl)) lk7 (by decide +kernel) (by decide), lk6, trivial⟩ (isC := []) rfl rfl rfl (WS' := sw_T a (b 0) q5 sd sf nu ut ++ (sw_P b q5 cl1 le1 ri1 lt1 gr1 ct1 gc1 ++ (sw_P d q5 cl2 le2 ri2 lt2 gr2 ct2 gc2))) rfl rfl hl.1 (Nat.le_of_ble_eq_true rfl) dX5_standIn_149 ⟨Nat.zero_le _, Nat.zero_le _⟩ rfl (fun H locs hW => ?_)
            refine lv_if_eq (tgt := 158) hx hb dX5_standIn_152 (by decide) (fun hc => ?_) (fun hc => ?_)
            · have hf := sp_ht hf hc
              exact hj10 _ _ _ hf hW (lv_sub hl [0, 3, 4, 5, 6] rfl)
            · have hf := sp_hf hf hc
              refine lv_iload hx hb dX5_standIn_155 (lv_at hl 4 rfl) ?_
              cases hf
              exact sp_iret S hr hlk hW hQ dX5_standIn_157
        refine lv_icmp_ne (tgt := 134) hx hb dX5_standIn_112 (by decide) (fun hc => ?_) (fun hc => ?_)
        · have hf := sp_hf hf hc
          exact hj9 _ _ _ hf hW (lv_sub hl [0, 1, 2, 3, 4, 5, 6] rfl)
        · have hf := sp_ht hf hc
          refine lv_aload_n hx hb dX5_standIn_115 rfl (lv_at hl 1 rfl) ?_
          refine sp_get S hK hW inX2 10 rfl rfl 1 (by decide) lk2 rfl dX5_standIn_116 ?_
          refine lv_iload_n hx hb dX5_standIn_119 rfl (lv_at hl 2 rfl) ?_
          obtain ⟨hin, v21, ev21, hf⟩ := sp_hld hf
          refine sp_iald S hK hW 12 rfl hin ev21 dX5_standIn_120 ?_
          refine lv_aload_n hx hb dX5_standIn_121 rfl (lv_at hl 0 rfl) ?_
          refine sp_get S hK hW inX5 0 rfl rfl 4 (by decide) lk5 rfl dX5_standIn_122 ?_
          obtain ⟨r22, hc22, hf⟩ := sp_hc hf
          refine sp_callNi (rest := []) (host := RX9) S hK hG hA hW (c_X9_isIn v21 ut hc22) (by decide) ⟨va_cnB 2 S.2.2.2.2 gX5_standIn_X9_isIn_n70 rfl rfl rfl (hG.1 (by decide) _ (List.mem_of_getElem? (i := 11) rfl)) lk7 (by decide +kernel) (by decide), lk6, trivial⟩ (isC := []) rfl rfl rfl (WS' := sw_T a (b 0) q5 sd sf nu ut ++ (sw_P b q5 cl1 le1 ri1 lt1 gr1 ct1 gc1 ++ (sw_P d q5 cl2 le2 ri2 lt2 gr2 ct2 gc2))) rfl rfl hl.1 (Nat.le_of_ble_eq_true rfl) dX5_standIn_125 ⟨Nat.zero_le _, Nat.zero_le _⟩ rfl (fun H locs hW => ?_)
          refine lv_if_eq (tgt := 134) hx hb dX5_standIn_128 (by decide) (fun hc => ?_) (fun hc => ?_)
          · have hf := sp_ht hf hc
            exact hj9 _ _ _ hf hW (lv_sub hl [0, 1, 2, 3, 4, 5, 6] rfl)
          · have hf := sp_hf hf hc
            refine lv_iload hx hb dX5_standIn_131 (lv_at hl 5 rfl) ?_
            cases hf
            exact sp_iret S hr hlk hW hQ dX5_standIn_133
      refine lv_icmp_ne (tgt := 110) hx hb dX5_standIn_87 (by decide) (fun hc => ?_) (fun hc => ?_)
      · have hf := sp_hf hf hc
        exact hj8 _ _ _ hf hW (lv_sub hl [0, 1, 2, 3, 4, 5, 6] rfl)
      · have hf := sp_ht hf hc
        refine lv_iload hx hb dX5_standIn_90 (lv_at hl 6 rfl) ?_
        obtain ⟨r23, hc23, hf⟩ := sp_hc hf
        refine sp_callSi (rest := []) S hK hG hA hW (c_X0_negated v6 hc23) (by decide) (va_cwS 1 S.2.2.2.2 gX5_standIn_X0_negated rfl rfl rfl (by decide +kernel) (by decide)) (isC := []) rfl rfl rfl (WS' := sw_T a (b 0) q5 sd sf nu ut ++ (sw_P b q5 cl1 le1 ri1 lt1 gr1 ct1 gc1 ++ (sw_P d q5 cl2 le2 ri2 lt2 gr2 ct2 gc2))) rfl rfl hl.1 (Nat.le_of_ble_eq_true rfl) dX5_standIn_92 ⟨Nat.zero_le _, Nat.zero_le _⟩ rfl (fun H locs hW => ?_)
        refine lv_aload_n hx hb dX5_standIn_95 rfl (lv_at hl 0 rfl) ?_
        refine sp_get S hK hW inX5 0 rfl rfl 2 (by decide) lk8 rfl dX5_standIn_96 ?_
        refine lv_iload_n hx hb dX5_standIn_99 rfl (lv_at hl 2 rfl) ?_
        obtain ⟨hin, v24, ev24, hf⟩ := sp_hld hf
        refine sp_iald S hK hW 2 rfl hin ev24 dX5_standIn_100 ?_
        obtain ⟨r25, hc25, hf⟩ := sp_hc hf
        refine sp_callSi (rest := []) S hK hG hA hW (c_X0_isPart r23 v24 hc25) (by decide) (va_cwS 2 S.2.2.2.2 gX5_standIn_X0_isPart rfl rfl rfl (by decide +kernel) (by decide)) (isC := []) rfl rfl rfl (WS' := sw_T a (b 0) q5 sd sf nu ut ++ (sw_P b q5 cl1 le1 ri1 lt1 gr1 ct1 gc1 ++ (sw_P d q5 cl2 le2 ri2 lt2 gr2 ct2 gc2))) rfl rfl hl.1 (Nat.le_of_ble_eq_true rfl) dX5_standIn_101 ⟨Nat.zero_le _, Nat.zero_le _⟩ rfl (fun H locs hW => ?_)
        refine lv_if_eq (tgt := 110) hx hb dX5_standIn_104 (by decide) (fun hc => ?_) (fun hc => ?_)
        · have hf := sp_ht hf hc
          exact hj8 _ _ _ hf hW (lv_sub hl [0, 1, 2, 3, 4, 5, 6] rfl)
        · have hf := sp_hf hf hc
          refine lv_iload hx hb dX5_standIn_107 (lv_at hl 5 rfl) ?_
          cases hf
          exact sp_iret S hr hlk hW hQ dX5_standIn_109
    refine lv_icmp_ne (tgt := 85) hx hb dX5_standIn_62 (by decide) (fun hc => ?_) (fun hc => ?_)
    · have hf := sp_hf hf hc
      exact hj7 _ _ _ hf hW (lv_sub hl [3, 4, 5, 6, 2, 1, 0] rfl)
    · have hf := sp_ht hf hc
      refine lv_iload hx hb dX5_standIn_65 (lv_at hl 0 rfl) ?_
      obtain ⟨r26, hc26, hf⟩ := sp_hc hf
      refine sp_callSi (rest := []) S hK hG hA hW (c_X0_plain v6 hc26) (by decide) (va_cwS 1 S.2.2.2.2 gX5_standIn_X0_plain rfl rfl rfl (by decide +kernel) (by decide)) (isC := []) rfl rfl rfl (WS' := sw_T a (b 0) q5 sd sf nu ut ++ (sw_P b q5 cl1 le1 ri1 lt1 gr1 ct1 gc1 ++ (sw_P d q5 cl2 le2 ri2 lt2 gr2 ct2 gc2))) rfl rfl hl.1 (Nat.le_of_ble_eq_true rfl) dX5_standIn_67 ⟨Nat.zero_le _, Nat.zero_le _⟩ rfl (fun H locs hW => ?_)
      refine lv_aload_n hx hb dX5_standIn_70 rfl (lv_at hl 3 rfl) ?_
      refine sp_get S hK hW inX5 0 rfl rfl 2 (by decide) lk8 rfl dX5_standIn_71 ?_
      refine lv_iload_n hx hb dX5_standIn_74 rfl (lv_at hl 5 rfl) ?_
      obtain ⟨hin, v27, ev27, hf⟩ := sp_hld hf
      refine sp_iald S hK hW 2 rfl hin ev27 dX5_standIn_75 ?_
      obtain ⟨r28, hc28, hf⟩ := sp_hc hf
      refine sp_callSi (rest := []) S hK hG hA hW (c_X0_isPart r26 v27 hc28) (by decide) (va_cwS 2 S.2.2.2.2 gX5_standIn_X0_isPart rfl rfl rfl (by decide +kernel) (by decide)) (isC := []) rfl rfl rfl (WS' := sw_T a (b 0) q5 sd sf nu ut ++ (sw_P b q5 cl1 le1 ri1 lt1 gr1 ct1 gc1 ++ (sw_P d q5 cl2 le2 ri2 lt2 gr2 ct2 gc2))) rfl rfl hl.1 (Nat.le_of_ble_eq_true rfl) dX5_standIn_76 ⟨Nat.zero_le _, Nat.zero_le _⟩ rfl (fun H locs hW => ?_)
      refine lv_if_eq (tgt := 85) hx hb dX5_standIn_79 (by decide) (fun hc => ?_) (fun hc => ?_)
      · have hf := sp_ht hf hc
        exact hj7 _ _ _ hf hW (lv_sub hl [3, 4, 5, 6, 2, 1, 0] rfl)
      · have hf := sp_hf hf hc
        refine lv_iload hx hb dX5_standIn_82 (lv_at hl 2 rfl) ?_
        cases hf
        exact sp_iret S hr hlk hW hQ dX5_standIn_84
  · have hf := sp_hf hf hc
    refine lv_aload_n hx hb dX5_standIn_8 rfl (lv_at hl 0 rfl) ?_
    refine lv_aload_n hx hb dX5_standIn_9 rfl (lv_at hl 1 rfl) ?_
    refine sp_get S hK hW inX2 10 rfl rfl 0 (by decide) lk9 rfl dX5_standIn_10 ?_
    refine lv_iload_n hx hb dX5_standIn_13 rfl (lv_at hl 2 rfl) ?_
    obtain ⟨hin, v29, ev29, hf⟩ := sp_hld hf
    refine sp_iald S hK hW 11 rfl hin ev29 dX5_standIn_14 ?_
    refine lv_bipush (v := (-9)) hx hb dX5_standIn_15 (by decide) ?_
    refine lv_bipush (v := (-9)) hx hb dX5_standIn_17 (by decide) ?_
    refine lv_bipush (v := (-9)) hx hb dX5_standIn_19 (by decide) ?_
    refine lv_iload_n hx hb dX5_standIn_21 rfl (lv_at hl 3 rfl) ?_
    obtain ⟨⟨r30, c31, c32, c33, c34, c35, c36, c37⟩, hc37, hf⟩ := sp_hc hf
    refine sp_callViP (rest := []) S hK hG hA hW (c_X5_placed a b sd sf nu ut cl1 le1 ri1 lt1 gr1 ct1 gc1 v29 (-9 : Int32) (-9 : Int32) (-9 : Int32) p3 hc37) (by decide) (cwV 5 S.2.2.2.2 gX5_standIn_X5_placed rfl rfl rfl (by decide +kernel) (by decide)) 4 0 rfl rfl (sp_pq [sw_T a (b 0) q5 sd sf nu ut, sw_P b q5 cl1 le1 ri1 lt1 gr1 ct1 gc1, sw_P d q5 cl2 le2 ri2 lt2 gr2 ct2 gc2] [0, 1, 2] [0, 1] [2] (by decide)) rfl (WS' := sw_T a (b 0) q5 sd sf nu ut ++ (sw_P b q5 c31 c32 c33 c34 c35 c36 c37 ++ (sw_P d q5 cl2 le2 ri2 lt2 gr2 ct2 gc2))) (sp_pq' [sw_T a (b 0) q5 sd sf nu ut, sw_P b q5 c31 c32 c33 c34 c35 c36 c37, sw_P d q5 cl2 le2 ri2 lt2 gr2 ct2 gc2] [0, 1, 2] [0, 1] [2] (by decide)) rfl hl.1 (Nat.le_of_ble_eq_true rfl) dX5_standIn_22 ⟨Nat.zero_le _, Nat.zero_le _⟩ rfl (fun H locs hW => ?_)
    cases hf
    exact sp_iret S hr hlk hW hQ dX5_standIn_25

def f_X5_goesThrough_L2 (ct2 : Int32) (k18 : (Nat → Int32) → (Nat → Int32) → (Nat → Int32) → (Nat → Int32) → (Nat → Int32) → (Nat → Int32) → Int32 → Int32 → Option (Int32 × (Nat → Int32) × (Nat → Int32) × (Nat → Int32) × (Nat → Int32) × (Nat → Int32) × (Nat → Int32) × Int32 × Int32)) (p2 : Int32) (sf : Nat → Int32) (ut : Int64) (cl2 : Nat → Int32) (le2 : Nat → Int32) (ri2 : Nat → Int32) (lt2 : Nat → Int32) (rec2 : (Int32 × (Nat → Int32) × (Nat → Int32) × (Nat → Int32) × (Nat → Int32) × (Nat → Int32) × (Nat → Int32) × Int32 × Int32) → Option (Int32 × (Nat → Int32) × (Nat → Int32) × (Nat → Int32) × (Nat → Int32) × (Nat → Int32) × (Nat → Int32) × Int32 × Int32)) (s9 : Int32 × (Nat → Int32) × (Nat → Int32) × (Nat → Int32) × (Nat → Int32) × (Nat → Int32) × (Nat → Int32) × Int32 × Int32) : Option (Int32 × (Nat → Int32) × (Nat → Int32) × (Nat → Int32) × (Nat → Int32) × (Nat → Int32) × (Nat → Int32) × Int32 × Int32) := match s9 with
  | (y1, c2, c3, c4, c5, c6, c7, c8, c9) => if ct2 ≤ y1 then (k18 c2 c3 c4 c5 c6 c7 c8 c9) else (Option.bind (f_X5_standIn y1 p2 c2 sf ut c3 c4 c5 c6 c7 c8 c9 cl2 le2 ri2 lt2) (fun q9 => match q9 with | (r19, c20, c21, c22, c23, c24, c25, c26) => sp_st c2 48 y1 r19 (fun c27 => sp_ld c27 48 y1 (fun v28 => if 0 ≤ v28 then (sp_bnd (y1 + (1 : Int32)) (fun v29 => rec2 (v29, c27, c20, c21, c22, c23, c24, c25, c26))) else (some ((0 : Int32), c27, c20, c21, c22, c23, c24, c25, c26))))))
theorem f_X5_goesThrough_L2_eq {rec2 : (Int32 × (Nat → Int32) × (Nat → Int32) × (Nat → Int32) × (Nat → Int32) × (Nat → Int32) × (Nat → Int32) × Int32 × Int32) → Option (Int32 × (Nat → Int32) × (Nat → Int32) × (Nat → Int32) × (Nat → Int32) × (Nat → Int32) × (Nat → Int32) × Int32 × Int32)} {ct2 : Int32} {k18 : (Nat → Int32) → (Nat → Int32) → (Nat → Int32) → (Nat → Int32) → (Nat → Int32) → (Nat → Int32) → Int32 → Int32 → Option (Int32 × (Nat → Int32) × (Nat → Int32) × (Nat → Int32) × (Nat → Int32) × (Nat → Int32) × (Nat → Int32) × Int32 × Int32)} {p2 : Int32} {sf : Nat → Int32} {ut : Int64} {cl2 : Nat → Int32} {le2 : Nat → Int32} {ri2 : Nat → Int32} {lt2 : Nat → Int32} {y1 : Int32} {c2 : Nat → Int32} {c3 : Nat → Int32} {c4 : Nat → Int32} {c5 : Nat → Int32} {c6 : Nat → Int32} {c7 : Nat → Int32} {c8 : Int32} {c9 : Int32} : f_X5_goesThrough_L2 ct2 k18 p2 sf ut cl2 le2 ri2 lt2 rec2 (y1, c2, c3, c4, c5, c6, c7, c8, c9) = (if ct2 ≤ y1 then (k18 c2 c3 c4 c5 c6 c7 c8 c9) else (Option.bind (f_X5_standIn y1 p2 c2 sf ut c3 c4 c5 c6 c7 c8 c9 cl2 le2 ri2 lt2) (fun q9 => match q9 with | (r19, c20, c21, c22, c23, c24, c25, c26) => sp_st c2 48 y1 r19 (fun c27 => sp_ld c27 48 y1 (fun v28 => if 0 ≤ v28 then (sp_bnd (y1 + (1 : Int32)) (fun v29 => rec2 (v29, c27, c20, c21, c22, c23, c24, c25, c26))) else (some ((0 : Int32), c27, c20, c21, c22, c23, c24, c25, c26))))))) := rfl
def f_X5_goesThrough (p2 : Int32) (sd : Nat → Int32) (sf : Nat → Int32) (ut : Int64) (cl1 : Nat → Int32) (le1 : Nat → Int32) (ri1 : Nat → Int32) (lt1 : Nat → Int32) (gr1 : Nat → Int32) (ct1 : Int32) (gc1 : Int32) (cl2 : Nat → Int32) (le2 : Nat → Int32) (ri2 : Nat → Int32) (lt2 : Nat → Int32) (ct2 : Int32) : Option (Int32 × (Nat → Int32) × (Nat → Int32) × (Nat → Int32) × (Nat → Int32) × (Nat → Int32) × (Nat → Int32) × Int32 × Int32) := sp_bnd (fun (c10 : Nat → Int32) (c11 : Nat → Int32) (c12 : Nat → Int32) (c13 : Nat → Int32) (c14 : Nat → Int32) (c15 : Nat → Int32) (c16 : Int32) (c17 : Int32) => some ((1 : Int32), c10, c11, c12, c13, c14, c15, c16, c17)) (fun k18 => sp_lp (f_X5_goesThrough_L2 ct2 k18 p2 sf ut cl2 le2 ri2 lt2) sp_F ((0 : Int32), sd, cl1, le1, ri1, lt1, gr1, ct1, gc1))
def rmX5_goesThrough : Room := { frames := 4, cells := 0, slots := 0, locals := 101 }
set_option maxRecDepth 4000 in
theorem c_X5_goesThrough {l : Launch} {D : va_G} {q5 : Nat → ClassId} (a : Nat → Nat) (b : Nat → Nat) (d : Nat → Nat) (sd : Nat → Int32) (sf : Nat → Int32) (nu : Nat → Int32) (ut : Int64) (cl1 : Nat → Int32) (le1 : Nat → Int32) (ri1 : Nat → Int32) (lt1 : Nat → Int32) (gr1 : Nat → Int32) (ct1 : Int32) (gc1 : Int32) (cl2 : Nat → Int32) (le2 : Nat → Int32) (ri2 : Nat → Int32) (lt2 : Nat → Int32) (gr2 : Nat → Int32) (ct2 : Int32) (gc2 : Int32) (p2 : Int32) {r' : Int32} {sd' : Nat → Int32} {cl1' : Nat → Int32} {le1' : Nat → Int32} {ri1' : Nat → Int32} {lt1' : Nat → Int32} {gr1' : Nat → Int32} {ct1' : Int32} {gc1' : Int32} (hf : f_X5_goesThrough p2 sd sf ut cl1 le1 ri1 lt1 gr1 ct1 gc1 cl2 le2 ri2 lt2 ct2 = some (r', sd', cl1', le1', ri1', lt1', gr1', ct1', gc1')) : sp_Ci l yX5_goesThrough wsX5_goesThrough rmX5_goesThrough D q5 1 [.ref (a 0), .ref (d 0), .int p2] (sw_T a (b 0) q5 sd sf nu ut ++ (sw_P b q5 cl1 le1 ri1 lt1 gr1 ct1 gc1 ++ (sw_P d q5 cl2 le2 ri2 lt2 gr2 ct2 gc2))) r' (sw_T a (b 0) q5 sd' sf nu ut ++ (sw_P b q5 cl1' le1' ri1' lt1' gr1' ct1' gc1' ++ (sw_P d q5 cl2 le2 ri2 lt2 gr2 ct2 gc2))) := by
  intro sz
  refine sp_of (cc := cX5_goesThrough) (maxL := 4) (ret := some .boolean) (own := RX5) (Qc := sp_Qi D r' (sw_T a (b 0) q5 sd' sf nu ut ++ (sw_P b q5 cl1' le1' ri1' lt1' gr1' ct1' gc1' ++ (sw_P d q5 cl2 le2 ri2 lt2 gr2 ct2 gc2)))) (by decide) rfl rfl (Nat.le_of_ble_eq_true rfl) ?_
  intro p e s m args below meth c A ls Q hQ S hr hlk hK hG hA hW hl
  have hx := S.1
  have hb := S.2.1
  unfold f_X5_goesThrough at hf
  have inX2 : ∀ w ∈ u_ws RX2 TX2 7, w ∈ wsX5_goesThrough := (fun _ h => List.mem_cons_of_mem _ (List.mem_append_left _ (List.mem_append_right _ h)))
  have inX5 : ∀ w ∈ u_ws RX5 TX5 5, w ∈ wsX5_goesThrough := (fun _ h => List.mem_cons_of_mem _ (List.mem_append_right _ h))
  have lk1 := S.2.2.2.2 (Cond.fieldLink RX5 47 "ShortProofs$Proof" "count" "I") (List.mem_of_getElem? (i := 1) rfl)
  have lk2 := S.2.2.2.2 (Cond.fieldLink RX5 18 "ShortProofs$Shortener" "stands" "[I") (List.mem_of_getElem? (i := 2) rfl)
  refine lv_iconst (v := 0) hx hb dX5_goesThrough_0 (by decide) ?_
  refine lv_istore_n (lv' := [(3, .int (0 : Int32)), (0, .ref (a 0)), (1, .ref (d 0)), (2, .int p2)]) hx hb dX5_goesThrough_1 rfl hl (by decide) rfl (fun ls hl => ?_)
  obtain ⟨k18, ek18, hf⟩ := sp_hb hf
  have hj18 : ∀ (c10 : Nat → Int32) (c11 : Nat → Int32) (c12 : Nat → Int32) (c13 : Nat → Int32) (c14 : Nat → Int32) (c15 : Nat → Int32) (c16 : Int32) (c17 : Int32) (H : Heap) (locs : List Loc) (ls : Array Slot), k18 c10 c11 c12 c13 c14 c15 c16 c17 = some (r', sd', cl1', le1', ri1', lt1', gr1', ct1', gc1') → sp_wd D A s.heap (sw_T a (b 0) q5 c10 sf nu ut ++ (sw_P b q5 c11 c12 c13 c14 c15 c16 c17 ++ (sw_P d q5 cl2 le2 ri2 lt2 gr2 ct2 gc2))) H locs → lv_has ls 4 [] → W p l e rmX5_goesThrough s m args below meth c H locs 0 0 Q (F0 m 40 ls []) := by
    intro c10 c11 c12 c13 c14 c15 c16 c17 H locs ls hf hW hl
    rw [ek18] at hf
    refine lv_iconst (v := 1) hx hb dX5_goesThrough_40 (by decide) ?_
    cases hf
    exact sp_zret S hr hlk hW rfl hQ dX5_goesThrough_41
  have hlp2 : ∀ (n9 : Nat) (y1 : Int32) (c2 : Nat → Int32) (c3 : Nat → Int32) (c4 : Nat → Int32) (c5 : Nat → Int32) (c6 : Nat → Int32) (c7 : Nat → Int32) (c8 : Int32) (c9 : Int32) (H : Heap) (locs : List Loc) (ls : Array Slot), sp_lp (f_X5_goesThrough_L2 ct2 k18 p2 sf ut cl2 le2 ri2 lt2) n9 (y1, c2, c3, c4, c5, c6, c7, c8, c9) = some (r', sd', cl1', le1', ri1', lt1', gr1', ct1', gc1') → sp_wd D A s.heap (sw_T a (b 0) q5 c2 sf nu ut ++ (sw_P b q5 c3 c4 c5 c6 c7 c8 c9 ++ (sw_P d q5 cl2 le2 ri2 lt2 gr2 ct2 gc2))) H locs → lv_has ls 4 [(0, .ref (a 0)), (1, .ref (d 0)), (2, .int p2), (3, .int y1)] → W p l e rmX5_goesThrough s m args below meth c H locs 0 0 Q (F0 m 2 ls []) := by
    intro n9
    induction n9 with
    | zero =>
      intro y1 c2 c3 c4 c5 c6 c7 c8 c9 H locs ls hf hW hl
      exact (sp_lp0 hf).elim
    | succ n9 ih2 =>
      intro y1 c2 c3 c4 c5 c6 c7 c8 c9 H locs ls hf hW hl
      have hf := sp_lpS hf
      rw [f_X5_goesThrough_L2_eq] at hf
      refine lv_iload_n hx hb dX5_goesThrough_2 rfl (lv_at hl 3 rfl) ?_
      refine lv_aload_n hx hb dX5_goesThrough_3 rfl (lv_at hl 1 rfl) ?_
      refine sp_get S hK hW inX2 10 rfl rfl 5 (by decide) lk1 rfl dX5_goesThrough_4 ?_
      refine lv_icmp_ge (tgt := 40) hx hb dX5_goesThrough_7 (by decide) (fun hc => ?_) (fun hc => ?_)
      · have hf := sp_ht hf hc
        exact hj18 _ _ _ _ _ _ _ _ _ _ _ hf hW (lv_sub hl [] rfl)
      · have hf := sp_hf hf hc
        refine lv_aload_n hx hb dX5_goesThrough_10 rfl (lv_at hl 0 rfl) ?_
        refine sp_get S hK hW inX5 0 rfl rfl 1 (by decide) lk2 rfl dX5_goesThrough_11 ?_
        refine lv_iload_n hx hb dX5_goesThrough_14 rfl (lv_at hl 3 rfl) ?_
        refine lv_aload_n hx hb dX5_goesThrough_15 rfl (lv_at hl 0 rfl) ?_
        refine lv_aload_n hx hb dX5_goesThrough_16 rfl (lv_at hl 1 rfl) ?_
        refine lv_iload_n hx hb dX5_goesThrough_17 rfl (lv_at hl 3 rfl) ?_
        refine lv_iload_n hx hb dX5_goesThrough_18 rfl (lv_at hl 2 rfl) ?_
        obtain ⟨⟨r19, c20, c21, c22, c23, c24, c25, c26⟩, hc26, hf⟩ := sp_hc hf
        refine sp_callViP (rest := [.int y1, .ref (a 1)]) S hK hG hA hW (c_X5_standIn a b d c2 sf nu ut c3 c4 c5 c6 c7 c8 c9 cl2 le2 ri2 lt2 gr2 ct2 gc2 y1 p2 hc26) (by decide) (cwV 3 S.2.2.2.2 gX5_goesThrough_X5_standIn rfl rfl rfl (by decide +kernel) (by decide)) 4 0 rfl rfl (sp_pn _) rfl (WS' := sw_T a (b 0) q5 c2 sf nu ut ++ (sw_P b q5 c20 c21 c22 c23 c24 c25 c26 ++ (sw_P d q5 cl2 le2 ri2 lt2 gr2 ct2 gc2))) (sp_pn' _) rfl hl.1 (Nat.le_of_ble_eq_true rfl) dX5_goesThrough_19 ⟨Nat.zero_le _, Nat.zero_le _⟩ rfl (fun H locs hW => ?_)
        obtain ⟨hin, c27, ec27, hf⟩ := sp_hst hf
        refine sp_iast S hK hW 1 rfl hin ec27 (ws' := sw_T a (b 0) q5 c27 sf nu ut ++ (sw_P b q5 c20 c21 c22 c23 c24 c25 c26 ++ (sw_P d q5 cl2 le2 ri2 lt2 gr2 ct2 gc2))) rfl dX5_goesThrough_22 (fun H locs hW => ?_)
        refine lv_aload_n hx hb dX5_goesThrough_23 rfl (lv_at hl 0 rfl) ?_
        refine sp_get S hK hW inX5 0 rfl rfl 1 (by decide) lk2 rfl dX5_goesThrough_24 ?_
        refine lv_iload_n hx hb dX5_goesThrough_27 rfl (lv_at hl 3 rfl) ?_
        obtain ⟨hin, v28, ev28, hf⟩ := sp_hld hf
        refine sp_iald S hK hW 1 rfl hin ev28 dX5_goesThrough_28 ?_
        refine lv_if_ge (tgt := 34) hx hb dX5_goesThrough_29 (by decide) (fun hc => ?_) (fun hc => ?_)
        · have hf := sp_ht hf hc
          obtain ⟨v29, ev29, hf⟩ := sp_hb hf
          refine lv_iinc (v := v29) (lv' := [(3, .int v29), (0, .ref (a 0)), (1, .ref (d 0)), (2, .int p2)]) hx hb dX5_goesThrough_34 hl (k := 3) rfl (by rw [ev29]; rfl) (by decide) rfl (fun ls hl => ?_)
          refine lv_goto (tgt := 2) hx hb dX5_goesThrough_37 (by decide) ?_
          exact ih2 _ _ _ _ _ _ _ _ _ _ _ _ hf hW (lv_sub hl [1, 2, 3, 0] rfl)
        · have hf := sp_hf hf hc
          refine lv_iconst (v := 0) hx hb dX5_goesThrough_32 (by decide) ?_
          cases hf
          exact sp_zret S hr hlk hW rfl hQ dX5_goesThrough_33
  exact hlp2 _ _ _ _ _ _ _ _ _ _ _ _ _ hf hW (lv_sub hl [1, 2, 3, 0] rfl)
