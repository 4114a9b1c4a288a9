def f_X5_cutUnit (p1 : Int32) (p2 : Int32) (p3 : Int32) (cl1 : Nat → Int32) (le1 : Nat → Int32) (ri1 : Nat → Int32) (lt1 : Nat → Int32) (gr1 : Nat → Int32) (ct1 : Int32) (gc1 : Int32) : Option (Int32 × (Nat → Int32) × (Nat → Int32) × (Nat → Int32) × (Nat → Int32) × (Nat → Int32) × Int32 × Int32) := sp_ld cl1 48 p2 (fun v1 => Option.bind (f_X0_isPart p3 v1) (fun r2 => if r2 = 0 then (some (p2, cl1, le1, ri1, lt1, gr1, ct1, gc1)) else (Option.bind (f_X0_others p3) (fun r3 => sp_ld cl1 48 p1 (fun v4 => Option.bind (f_X0_isPart r3 v4) (fun r5 => if r5 = 0 then (some (p1, cl1, le1, ri1, lt1, gr1, ct1, gc1)) else (Option.bind (f_X0_lettersOf p3) (fun r6 => Option.bind (f_J6_numberOfTrailingZeros_0f7a4 r6) (fun r7 => Option.bind (f_X0_plain r7) (fun r8 => sp_bnd (fun (x9 : Int32) => sp_bnd (fun (x11 : Int32) => sp_bnd (fun (x13 : Int32) => Option.bind (f_X5_cutAnew x11 x13 r7 (4 : Int32) cl1 le1 ri1 lt1 gr1 ct1 gc1) (fun q9 => match q9 with | (r15, c16, c17, c18, c19, c20, c21, c22) => some (r15, c16, c17, c18, c19, c20, c21, c22))) (fun k14 => if x9 = 0 then (k14 p2) else (k14 p1))) (fun k12 => if x9 = 0 then (k12 p1) else (k12 p2))) (fun k10 => if p3 = r8 then (k10 (1 : Int32)) else (k10 (0 : Int32)))))))))))))
def rmX5_cutUnit : Room := { frames := 3, cells := 0, slots := 0, locals := 75 }
set_option maxRecDepth 4000 in
theorem c_X5_cutUnit {l : Launch} {D : va_G} {q5 : Nat → ClassId} (a : Nat → Nat) (b : Nat → Nat) (sd : Nat → Int32) (sf : Nat → Int32) (nu : Nat → Int32) (ut : Int64) (cl1 : Nat → Int32) (le1 : Nat → Int32) (ri1 : Nat → Int32) (lt1 : Nat → Int32) (gr1 : Nat → Int32) (ct1 : Int32) (gc1 : Int32) (p1 : Int32) (p2 : Int32) (p3 : Int32) {r' : Int32} {cl1' : Nat → Int32} {le1' : Nat → Int32} {ri1' : Nat → Int32} {lt1' : Nat → Int32} {gr1' : Nat → Int32} {ct1' : Int32} {gc1' : Int32} (hf : f_X5_cutUnit p1 p2 p3 cl1 le1 ri1 lt1 gr1 ct1 gc1 = some (r', cl1', le1', ri1', lt1', gr1', ct1', gc1')) : sp_Ci l yX5_cutUnit wsX5_cutUnit rmX5_cutUnit D q5 0 [.ref (a 0), .int p1, .int p2, .int p3] (sw_T a (b 0) q5 sd sf nu ut ++ (sw_P b q5 cl1 le1 ri1 lt1 gr1 ct1 gc1)) r' (sw_T a (b 0) q5 sd sf nu ut ++ (sw_P b q5 cl1' le1' ri1' lt1' gr1' ct1' gc1')) := by
  intro sz
  refine sp_of (cc := cX5_cutUnit) (maxL := 6) (ret := some .int) (own := RX5) (Qc := sp_Qi D r' (sw_T a (b 0) q5 sd sf nu ut ++ (sw_P b q5 cl1' le1' ri1' lt1' gr1' ct1' gc1'))) (by decide) rfl rfl (Nat.le_of_ble_eq_true rfl) ?_
  intro p e s m args below meth c A ls Q hQ S hr hlk hK hG hA hW hl
  have hx := S.1
  have hb := S.2.1
  unfold f_X5_cutUnit at hf
  have inX2 : ∀ w ∈ u_ws RX2 TX2 7, w ∈ wsX5_cutUnit := (fun _ h => List.mem_cons_of_mem _ (List.mem_append_right _ h))
  have inX5 : ∀ w ∈ u_ws RX5 TX5 5, w ∈ wsX5_cutUnit := (fun _ h => List.mem_cons_of_mem _ (List.mem_append_left _ (List.mem_append_right _ h)))
  have lk1 := S.2.2.2.2 (Cond.fieldLink RX5 12 "ShortProofs$Shortener" "draft" "LShortProofs$Proof;") (List.mem_of_getElem? (i := 1) rfl)
  have lk2 := S.2.2.2.2 (Cond.fieldLink RX5 67 "ShortProofs$Proof" "clauses" "[I") (List.mem_of_getElem? (i := 2) rfl)
  refine lv_iload_n hx hb dX5_cutUnit_0 rfl (lv_at hl 3 rfl) ?_
  refine lv_aload_n hx hb dX5_cutUnit_1 rfl (lv_at hl 0 rfl) ?_
  refine sp_get S hK hW inX5 0 rfl rfl 0 (by decide) lk1 rfl dX5_cutUnit_2 ?_
  refine sp_get S hK hW inX2 4 rfl rfl 0 (by decide) lk2 rfl dX5_cutUnit_5 ?_
  refine lv_iload_n hx hb dX5_cutUnit_8 rfl (lv_at hl 2 rfl) ?_
  obtain ⟨hin, v1, ev1, hf⟩ := sp_hld hf
  refine sp_iald S hK hW 5 rfl hin ev1 dX5_cutUnit_9 ?_
  obtain ⟨r2, hc2, hf⟩ := sp_hc hf
  refine sp_callSi (rest := []) S hK hG hA hW (c_X0_isPart p3 v1 hc2) (by decide) (va_cwS 2 S.2.2.2.2 gX5_cutUnit_X0_isPart rfl rfl rfl (by decide +kernel) (by decide)) (isC := []) rfl rfl rfl (WS' := sw_T a (b 0) q5 sd sf nu ut ++ (sw_P b q5 cl1 le1 ri1 lt1 gr1 ct1 gc1)) rfl rfl hl.1 (Nat.le_of_ble_eq_true rfl) dX5_cutUnit_10 ⟨Nat.zero_le _, Nat.zero_le _⟩ rfl (fun H locs hW => ?_)
  refine lv_if_ne (tgt := 18) hx hb dX5_cutUnit_13 (by decide) (fun hc => ?_) (fun hc => ?_)
  · have hf := sp_hf hf hc
    refine lv_iload_n hx hb dX5_cutUnit_18 rfl (lv_at hl 3 rfl) ?_
    obtain ⟨r3, hc3, hf⟩ := sp_hc hf
    refine sp_callSi (rest := []) S hK hG hA hW (c_X0_others p3 hc3) (by decide) (va_cwS 1 S.2.2.2.2 gX5_cutUnit_X0_others rfl rfl rfl (by decide +kernel) (by decide)) (isC := []) rfl rfl rfl (WS' := sw_T a (b 0) q5 sd sf nu ut ++ (sw_P b q5 cl1 le1 ri1 lt1 gr1 ct1 gc1)) rfl rfl hl.1 (Nat.le_of_ble_eq_true rfl) dX5_cutUnit_19 ⟨Nat.zero_le _, Nat.zero_le _⟩ rfl (fun H locs hW => ?_)
    refine lv_aload_n hx hb dX5_cutUnit_22 rfl (lv_at hl 0 rfl) ?_
    refine sp_get S hK hW inX5 0 rfl rfl 0 (by decide) lk1 rfl dX5_cutUnit_23 ?_
    refine sp_get S hK hW inX2 4 rfl rfl 0 (by decide) lk2 rfl dX5_cutUnit_26 ?_
    refine lv_iload_n hx hb dX5_cutUnit_29 rfl (lv_at hl 1 rfl) ?_
    obtain ⟨hin, v4, ev4, hf⟩ := sp_hld hf
    refine sp_iald S hK hW 5 rfl hin ev4 dX5_cutUnit_30 ?_
    obtain ⟨r5, hc5, hf⟩ := sp_hc hf
    refine sp_callSi (rest := []) S hK hG hA hW (c_X0_isPart r3 v4 hc5) (by decide) (va_cwS 2 S.2.2.2.2 gX5_cutUnit_X0_isPart rfl rfl rfl (by decide +kernel) (by decide)) (isC := []) rfl rfl rfl (WS' := sw_T a (b 0) q5 sd sf nu ut ++ (sw_P b q5 cl1 le1 ri1 lt1 gr1 ct1 gc1)) rfl rfl hl.1 (Nat.le_of_ble_eq_true rfl) dX5_cutUnit_31 ⟨Nat.zero_le _, Nat.zero_le _⟩ rfl (fun H locs hW => ?_)
    refine lv_if_ne (tgt := 39) hx hb dX5_cutUnit_34 (by decide) (fun hc => ?_) (fun hc => ?_)
    · have hf := sp_hf hf hc
      refine lv_iload_n hx hb dX5_cutUnit_39 rfl (lv_at hl 3 rfl) ?_
      obtain ⟨r6, hc6, hf⟩ := sp_hc hf
      refine sp_callSi (rest := []) S hK hG hA hW (c_X0_lettersOf p3 hc6) (by decide) (va_cwS 1 S.2.2.2.2 gX5_cutUnit_X0_lettersOf rfl rfl rfl (by decide +kernel) (by decide)) (isC := []) rfl rfl rfl (WS' := sw_T a (b 0) q5 sd sf nu ut ++ (sw_P b q5 cl1 le1 ri1 lt1 gr1 ct1 gc1)) rfl rfl hl.1 (Nat.le_of_ble_eq_true rfl) dX5_cutUnit_40 ⟨Nat.zero_le _, Nat.zero_le _⟩ rfl (fun H locs hW => ?_)
      obtain ⟨r7, hc7, hf⟩ := sp_hc hf
      refine sp_callSi (rest := []) S hK hG hA hW (c_J6_numberOfTrailingZeros_0f7a4 r6 hc7) (by decide) (va_cwS 1 S.2.2.2.2 gX5_cutUnit_J6_numberOfTrailingZeros_0f7a4 rfl rfl rfl (by decide +kernel) (by decide)) (isC := []) rfl rfl rfl (WS' := sw_T a (b 0) q5 sd sf nu ut ++ (sw_P b q5 cl1 le1 ri1 lt1 gr1 ct1 gc1)) rfl rfl hl.1 (Nat.le_of_ble_eq_true rfl) dX5_cutUnit_43 ⟨Nat.zero_le _, Nat.zero_le _⟩ rfl (fun H locs hW => ?_)
      refine lv_istore (lv' := [(4, .int r7), (0, .ref (a 0)), (1, .int p1), (2, .int p2), (3, .int p3)]) hx hb dX5_cutUnit_46 hl (by decide) rfl (fun ls hl => ?_)
      refine lv_iload_n hx hb dX5_cutUnit_48 rfl (lv_at hl 4 rfl) ?_
      refine lv_iload hx hb dX5_cutUnit_49 (lv_at hl 0 rfl) ?_
      obtain ⟨r8, hc8, hf⟩ := sp_hc hf
      refine sp_callSi (rest := [.int p3]) S hK hG hA hW (c_X0_plain r7 hc8) (by decide) (va_cwS 1 S.2.2.2.2 gX5_cutUnit_X0_plain rfl rfl rfl (by decide +kernel) (by decide)) (isC := []) rfl rfl rfl (WS' := sw_T a (b 0) q5 sd sf nu ut ++ (sw_P b q5 cl1 le1 ri1 lt1 gr1 ct1 gc1)) rfl rfl hl.1 (Nat.le_of_ble_eq_true rfl) dX5_cutUnit_51 ⟨Nat.zero_le _, Nat.zero_le _⟩ rfl (fun H locs hW => ?_)
      obtain ⟨k10, ek10, hf⟩ := sp_hb hf
      have hj10 : ∀ (x9 : Int32) (H : Heap) (locs : List Loc) (ls : Array Slot), k10 x9 = some (r', cl1', le1', ri1', lt1', gr1', ct1', gc1') → sp_wd D A s.heap (sw_T a (b 0) q5 sd sf nu ut ++ (sw_P b q5 cl1 le1 ri1 lt1 gr1 ct1 gc1)) H locs → lv_has ls 6 [(0, .ref (a 0)), (1, .int p1), (2, .int p2), (4, .int r7)] → W p l e rmX5_cutUnit s m args below meth c H locs 0 0 Q (F0 m 62 ls [.int x9]) := by
        intro x9 H locs ls hf hW hl
        rw [ek10] at hf
        refine lv_istore (lv' := [(5, .int x9), (0, .ref (a 0)), (1, .int p1), (2, .int p2), (4, .int r7)]) hx hb dX5_cutUnit_62 hl (by decide) rfl (fun ls hl => ?_)
        refine lv_aload_n hx hb dX5_cutUnit_64 rfl (lv_at hl 1 rfl) ?_
        refine lv_iload hx hb dX5_cutUnit_65 (lv_at hl 0 rfl) ?_
        obtain ⟨k12, ek12, hf⟩ := sp_hb hf
        have hj12 : ∀ (x11 : Int32) (H : Heap) (locs : List Loc) (ls : Array Slot), k12 x11 = some (r', cl1', le1', ri1', lt1', gr1', ct1', gc1') → sp_wd D A s.heap (sw_T a (b 0) q5 sd sf nu ut ++ (sw_P b q5 cl1 le1 ri1 lt1 gr1 ct1 gc1)) H locs → lv_has ls 6 [(1, .int p1), (2, .int p2), (4, .int r7), (5, .int x9)] → W p l e rmX5_cutUnit s m args below meth c H locs 0 0 Q (F0 m 75 ls [.int x11, .ref (a 0)]) := by
          intro x11 H locs ls hf hW hl
          rw [ek12] at hf
          refine lv_iload hx hb dX5_cutUnit_75 (lv_at hl 3 rfl) ?_
          obtain ⟨k14, ek14, hf⟩ := sp_hb hf
          have hj14 : ∀ (x13 : Int32) (H : Heap) (locs : List Loc) (ls : Array Slot), k14 x13 = some (r', cl1', le1', ri1', lt1', gr1', ct1', gc1') → sp_wd D A s.heap (sw_T a (b 0) q5 sd sf nu ut ++ (sw_P b q5 cl1 le1 ri1 lt1 gr1 ct1 gc1)) H locs → lv_has ls 6 [(4, .int r7)] → W p l e rmX5_cutUnit s m args below meth c H locs 0 0 Q (F0 m 85 ls [.int x13, .int x11, .ref (a 0)]) := by
            intro x13 H locs ls hf hW hl
            rw [ek14] at hf
            refine lv_iload hx hb dX5_cutUnit_85 (lv_at hl 0 rfl) ?_
            refine lv_iconst (v := 4) hx hb dX5_cutUnit_87 (by decide) ?_
            obtain ⟨⟨r15, c16, c17, c18, c19, c20, c21, c22⟩, hc22, hf⟩ := sp_hc hf
            refine sp_callViP (rest := []) S hK hG hA hW (c_X5_cutAnew a b sd sf nu ut cl1 le1 ri1 lt1 gr1 ct1 gc1 x11 x13 r7 (4 : Int32) hc22) (by decide) (cwV 4 S.2.2.2.2 gX5_cutUnit_X5_cutAnew rfl rfl rfl (by decide +kernel) (by decide)) 4 0 rfl rfl (sp_pn _) rfl (WS' := sw_T a (b 0) q5 sd sf nu ut ++ (sw_P b q5 c16 c17 c18 c19 c20 c21 c22)) (sp_pn' _) rfl hl.1 (Nat.le_of_ble_eq_true rfl) dX5_cutUnit_88 ⟨Nat.zero_le _, Nat.zero_le _⟩ rfl (fun H locs hW => ?_)
            cases hf
            exact sp_iret S hr hlk hW hQ dX5_cutUnit_91
          refine lv_if_eq (tgt := 84) hx hb dX5_cutUnit_77 (by decide) (fun hc => ?_) (fun hc => ?_)
          · have hf := sp_ht hf hc
            refine lv_iload_n hx hb dX5_cutUnit_84 rfl (lv_at hl 1 rfl) ?_
            exact hj14 _ _ _ _ hf hW (lv_sub hl [2] rfl)
          · have hf := sp_hf hf hc
            refine lv_iload_n hx hb dX5_cutUnit_80 rfl (lv_at hl 0 rfl) ?_
            refine lv_goto (tgt := 85) hx hb dX5_cutUnit_81 (by decide) ?_
            exact hj14 _ _ _ _ hf hW (lv_sub hl [2] rfl)
        refine lv_if_eq (tgt := 74) hx hb dX5_cutUnit_67 (by decide) (fun hc => ?_) (fun hc => ?_)
        · have hf := sp_ht hf hc
          refine lv_iload_n hx hb dX5_cutUnit_74 rfl (lv_at hl 2 rfl) ?_
          exact hj12 _ _ _ _ hf hW (lv_sub hl [2, 3, 4, 0] rfl)
        · have hf := sp_hf hf hc
          refine lv_iload_n hx hb dX5_cutUnit_70 rfl (lv_at hl 3 rfl) ?_
          refine lv_goto (tgt := 75) hx hb dX5_cutUnit_71 (by decide) ?_
          exact hj12 _ _ _ _ hf hW (lv_sub hl [2, 3, 4, 0] rfl)
      refine lv_icmp_ne (tgt := 61) hx hb dX5_cutUnit_54 (by decide) (fun hc => ?_) (fun hc => ?_)
      · have hf := sp_hf hf hc
        refine lv_iconst (v := 0) hx hb dX5_cutUnit_61 (by decide) ?_
        exact hj10 _ _ _ _ hf hW (lv_sub hl [1, 2, 3, 0] rfl)
      · have hf := sp_ht hf hc
        refine lv_iconst (v := 1) hx hb dX5_cutUnit_57 (by decide) ?_
        refine lv_goto (tgt := 62) hx hb dX5_cutUnit_58 (by decide) ?_
        exact hj10 _ _ _ _ hf hW (lv_sub hl [1, 2, 3, 0] rfl)
    · have hf := sp_ht hf hc
      refine lv_iload_n hx hb dX5_cutUnit_37 rfl (lv_at hl 1 rfl) ?_
      cases hf
      exact sp_iret S hr hlk hW hQ dX5_cutUnit_38
  · have hf := sp_ht hf hc
    refine lv_iload_n hx hb dX5_cutUnit_16 rfl (lv_at hl 2 rfl) ?_
    cases hf
    exact sp_iret S hr hlk hW hQ dX5_cutUnit_17

def f_X5_cutUnits_L10 (k19 : Int32 → (Nat → Int32) → (Nat → Int32) → (Nat → Int32) → (Nat → Int32) → (Nat → Int32) → Int32 → Int32 → Option (Int32 × (Nat → Int32) × (Nat → Int32) × (Nat → Int32) × (Nat → Int32) × (Nat → Int32) × Int32 × Int32)) (ut : Int64) (sd : Nat → Int32) (cl2 : Nat → Int32) (rec10 : (Int32 × Int32 × (Nat → Int32) × (Nat → Int32) × (Nat → Int32) × (Nat → Int32) × (Nat → Int32) × Int32 × Int32) → Option (Int32 × (Nat → Int32) × (Nat → Int32) × (Nat → Int32) × (Nat → Int32) × (Nat → Int32) × Int32 × Int32)) (s9 : Int32 × Int32 × (Nat → Int32) × (Nat → Int32) × (Nat → Int32) × (Nat → Int32) × (Nat → Int32) × Int32 × Int32) : Option (Int32 × (Nat → Int32) × (Nat → Int32) × (Nat → Int32) × (Nat → Int32) × (Nat → Int32) × Int32 × Int32) := match s9 with
  | (y2, y3, c4, c5, c6, c7, c8, c9, c10) => if y3 < 0 then (k19 y2 c4 c5 c6 c7 c8 c9 c10) else (if y2 < 0 then (k19 y2 c4 c5 c6 c7 c8 c9 c10) else (Option.bind (f_X9_isIn y3 ut) (fun r20 => sp_bnd (fun (x21 : Int32) (c22 : Nat → Int32) (c23 : Nat → Int32) (c24 : Nat → Int32) (c25 : Nat → Int32) (c26 : Nat → Int32) (c27 : Int32) (c28 : Int32) => sp_bnd (y3 + (-1 : Int32)) (fun v30 => rec10 (x21, v30, c22, c23, c24, c25, c26, c27, c28))) (fun k29 => if r20 = 0 then (k29 y2 c4 c5 c6 c7 c8 c9 c10) else (sp_ld sd 48 y3 (fun v31 => sp_ld cl2 48 y3 (fun v32 => Option.bind (f_X5_cutUnit y2 v31 v32 c4 c5 c6 c7 c8 c9 c10) (fun q9 => match q9 with | (r33, c34, c35, c36, c37, c38, c39, c40) => k29 r33 c34 c35 c36 c37 c38 c39 c40))))))))
theorem f_X5_cutUnits_L10_eq {rec10 : (Int32 × Int32 × (Nat → Int32) × (Nat → Int32) × (Nat → Int32) × (Nat → Int32) × (Nat → Int32) × Int32 × Int32) → Option (Int32 × (Nat → Int32) × (Nat → Int32) × (Nat → Int32) × (Nat → Int32) × (Nat → Int32) × Int32 × Int32)} {k19 : Int32 → (Nat → Int32) → (Nat → Int32) → (Nat → Int32) → (Nat → Int32) → (Nat → Int32) → Int32 → Int32 → Option (Int32 × (Nat → Int32) × (Nat → Int32) × (Nat → Int32) × (Nat → Int32) × (Nat → Int32) × Int32 × Int32)} {ut : Int64} {sd : Nat → Int32} {cl2 : Nat → Int32} {y2 : Int32} {y3 : Int32} {c4 : Nat → Int32} {c5 : Nat → Int32} {c6 : Nat → Int32} {c7 : Nat → Int32} {c8 : Nat → Int32} {c9 : Int32} {c10 : Int32} : f_X5_cutUnits_L10 k19 ut sd cl2 rec10 (y2, y3, c4, c5, c6, c7, c8, c9, c10) = (if y3 < 0 then (k19 y2 c4 c5 c6 c7 c8 c9 c10) else (if y2 < 0 then (k19 y2 c4 c5 c6 c7 c8 c9 c10) else (Option.bind (f_X9_isIn y3 ut) (fun r20 => sp_bnd (fun (x21 : Int32) (c22 : Nat → Int32) (c23 : Nat → Int32) (c24 : Nat → Int32) (c25 : Nat → Int32) (c26 : Nat → Int32) (c27 : Int32) (c28 : Int32) => sp_bnd (y3 + (-1 : Int32)) (fun v30 => rec10 (x21, v30, c22, c23, c24, c25, c26, c27, c28))) (fun k29 => if r20 = 0 then (k29 y2 c4 c5 c6 c7 c8 c9 c10) else (sp_ld sd 48 y3 (fun v31 => sp_ld cl2 48 y3 (fun v32 => Option.bind (f_X5_cutUnit y2 v31 v32 c4 c5 c6 c7 c8 c9 c10) (fun q9 => match q9 with | (r33, c34, c35, c36, c37, c38, c39, c40) => k29 r33 c34 c35 c36 c37 c38 c39 c40))))))))) := rfl
def f_X5_cutUnits (p2 : Int32) (sd : Nat → Int32) (ut : Int64) (cl1 : Nat → Int32) (le1 : Nat → Int32) (ri1 : Nat → Int32) (lt1 : Nat → Int32) (gr1 : Nat → Int32) (ct1 : Int32) (gc1 : Int32) (cl2 : Nat → Int32) (ct2 : Int32) : Option (Int32 × (Nat → Int32) × (Nat → Int32) × (Nat → Int32) × (Nat → Int32) × (Nat → Int32) × Int32 × Int32) := sp_bnd (ct2 - (1 : Int32)) (fun v1 => sp_bnd (fun (x11 : Int32) (c12 : Nat → Int32) (c13 : Nat → Int32) (c14 : Nat → Int32) (c15 : Nat → Int32) (c16 : Nat → Int32) (c17 : Int32) (c18 : Int32) => some (x11, c12, c13, c14, c15, c16, c17, c18)) (fun k19 => sp_lp (f_X5_cutUnits_L10 k19 ut sd cl2) sp_F (p2, v1, cl1, le1, ri1, lt1, gr1, ct1, gc1)))
def rmX5_cutUnits : Room := { frames := 4, cells := 0, slots := 0, locals := 100 }
set_option maxRecDepth 4000 in
theorem c_X5_cutUnits {l : Launch} {D : va_G} {q5 : Nat → ClassId} (a : Nat → Nat) (b : Nat → Nat) (d : Nat → Nat) (sd : Nat → Int32) (sf : Nat → Int32) (nu : Nat → Int32) (ut : Int64) (cl1 : Nat → Int32) (le1 : Nat → Int32) (ri1 : Nat → Int32) (lt1 : Nat → Int32) (gr1 : Nat → Int32) (ct1 : Int32) (gc1 : Int32) (cl2 : Nat → Int32) (le2 : Nat → Int32) (ri2 : Nat → Int32) (lt2 : Nat → Int32) (gr2 : Nat → Int32) (ct2 : Int32) (gc2 : Int32) (p2 : Int32) {r' : Int32} {cl1' : Nat → Int32} {le1' : Nat → Int32} {ri1' : Nat → Int32} {lt1' : Nat → Int32} {gr1' : Nat → Int32} {ct1' : Int32} {gc1' : Int32} (hf : f_X5_cutUnits p2 sd ut cl1 le1 ri1 lt1 gr1 ct1 gc1 cl2 ct2 = some (r', cl1', le1', ri1', lt1', gr1', ct1', gc1')) : sp_Ci l yX5_cutUnits wsX5_cutUnits rmX5_cutUnits D q5 1 [.ref (a 0), .ref (d 0), .int p2] (sw_T a (b 0) q5 sd sf nu ut ++ (sw_P b q5 cl1 le1 ri1 lt1 gr1 ct1 gc1 ++ (sw_P d q5 cl2 le2 ri2 lt2 gr2 ct2 gc2))) r' (sw_T a (b 0) q5 sd sf nu ut ++ (sw_P b q5 cl1' le1' ri1' lt1' gr1' ct1' gc1' ++ (sw_P d q5 cl2 le2 ri2 lt2 gr2 ct2 gc2))) := by
  intro sz
  refine sp_of (cc := cX5_cutUnits) (maxL := 5) (ret := some .int) (own := RX5) (Qc := sp_Qi D r' (sw_T a (b 0) q5 sd sf nu ut ++ (sw_P b q5 cl1' le1' ri1' lt1' gr1' ct1' gc1' ++ (sw_P d q5 cl2 le2 ri2 lt2 gr2 ct2 gc2)))) (by decide) rfl rfl (Nat.le_of_ble_eq_true rfl) ?_
  intro p e s m args below meth c A ls Q hQ S hr hlk hK hG hA hW hl
  have hx := S.1
  have hb := S.2.1
  unfold f_X5_cutUnits at hf
  have inX2 : ∀ w ∈ u_ws RX2 TX2 7, w ∈ wsX5_cutUnits := (fun _ h => List.mem_cons_of_mem _ (List.mem_append_left _ (List.mem_append_right _ h)))
  have inX5 : ∀ w ∈ u_ws RX5 TX5 5, w ∈ wsX5_cutUnits := (fun _ h => List.mem_cons_of_mem _ (List.mem_append_right _ h))
  have lk1 := S.2.2.2.2 (Cond.fieldLink RX5 47 "ShortProofs$Proof" "count" "I") (List.mem_of_getElem? (i := 1) rfl)
  have lk2 := S.2.2.2.2 (Cond.fieldLink RX5 39 "ShortProofs$Shortener" "unitSet" "J") (List.mem_of_getElem? (i := 2) rfl)
  have lk3 := S.2.2.2.2 (Cond.static yX9_isIn) (List.mem_of_getElem? (i := 5) rfl)
  have lk4 := S.2.2.2.2 (Cond.initialized RX9) (List.mem_of_getElem? (i := 6) rfl)
  have lk5 := S.2.2.2.2 (Cond.fieldLink RX5 18 "ShortProofs$Shortener" "stands" "[I") (List.mem_of_getElem? (i := 3) rfl)
  have lk6 := S.2.2.2.2 (Cond.fieldLink RX5 67 "ShortProofs$Proof" "clauses" "[I") (List.mem_of_getElem? (i := 4) rfl)
  refine lv_iload_n hx hb dX5_cutUnits_0 rfl (lv_at hl 2 rfl) ?_
  refine lv_istore_n (lv' := [(3, .int p2), (0, .ref (a 0)), (1, .ref (d 0)), (2, .int p2)]) hx hb dX5_cutUnits_1 rfl hl (by decide) rfl (fun ls hl => ?_)
  refine lv_aload_n hx hb dX5_cutUnits_2 rfl (lv_at hl 2 rfl) ?_
  refine sp_get S hK hW inX2 10 rfl rfl 5 (by decide) lk1 rfl dX5_cutUnits_3 ?_
  refine lv_iconst (v := 1) hx hb dX5_cutUnits_6 (by decide) ?_
  refine lv_isub hx hb dX5_cutUnits_7 ?_
  obtain ⟨v1, ev1, hf⟩ := sp_hb hf
  refine sp_topi ev1 ?_
  refine lv_istore (lv' := [(4, .int v1), (3, .int p2), (0, .ref (a 0)), (1, .ref (d 0)), (2, .int p2)]) hx hb dX5_cutUnits_8 hl (by decide) rfl (fun ls hl => ?_)
  obtain ⟨k19, ek19, hf⟩ := sp_hb hf
  have hj19 : ∀ (x11 : Int32) (c12 : Nat → Int32) (c13 : Nat → Int32) (c14 : Nat → Int32) (c15 : Nat → Int32) (c16 : Nat → Int32) (c17 : Int32) (c18 : Int32) (H : Heap) (locs : List Loc) (ls : Array Slot), k19 x11 c12 c13 c14 c15 c16 c17 c18 = some (r', cl1', le1', ri1', lt1', gr1', ct1', gc1') → sp_wd D A s.heap (sw_T a (b 0) q5 sd sf nu ut ++ (sw_P b q5 c12 c13 c14 c15 c16 c17 c18 ++ (sw_P d q5 cl2 le2 ri2 lt2 gr2 ct2 gc2))) H locs → lv_has ls 5 [(3, .int x11)] → W p l e rmX5_cutUnits s m args below meth c H locs 0 0 Q (F0 m 57 ls []) := by
    intro x11 c12 c13 c14 c15 c16 c17 c18 H locs ls hf hW hl
    rw [ek19] at hf
    refine lv_iload_n hx hb dX5_cutUnits_57 rfl (lv_at hl 0 rfl) ?_
    cases hf
    exact sp_iret S hr hlk hW hQ dX5_cutUnits_58
  have hlp10 : ∀ (n9 : Nat) (y2 : Int32) (y3 : Int32) (c4 : Nat → Int32) (c5 : Nat → Int32) (c6 : Nat → Int32) (c7 : Nat → Int32) (c8 : Nat → Int32) (c9 : Int32) (c10 : Int32) (H : Heap) (locs : List Loc) (ls : Array Slot), sp_lp (f_X5_cutUnits_L10 k19 ut sd cl2) n9 (y2, y3, c4, c5, c6, c7, c8, c9, c10) = some (r', cl1', le1', ri1', lt1', gr1', ct1', gc1') → sp_wd D A s.heap (sw_T a (b 0) q5 sd sf nu ut ++ (sw_P b q5 c4 c5 c6 c7 c8 c9 c10 ++ (sw_P d q5 cl2 le2 ri2 lt2 gr2 ct2 gc2))) H locs → lv_has ls 5 [(0, .ref (a 0)), (1, .ref (d 0)), (3, .int y2), (4, .int y3)] → W p l e rmX5_cutUnits s m args below meth c H locs 0 0 Q (F0 m 10 ls []) := by
    intro n9
    induction n9 with
    | zero =>
      intro y2 y3 c4 c5 c6 c7 c8 c9 c10 H locs ls hf hW hl
      exact (sp_lp0 hf).elim
    | succ n9 ih10 =>
      intro y2 y3 c4 c5 c6 c7 c8 c9 c10 H locs ls hf hW hl
      have hf := sp_lpS hf
      rw [f_X5_cutUnits_L10_eq] at hf
      refine lv_iload hx hb dX5_cutUnits_10 (lv_at hl 3 rfl) ?_
      refine lv_if_lt (tgt := 57) hx hb dX5_cutUnits_12 (by decide) (fun hc => ?_) (fun hc => ?_)
      · have hf := sp_ht hf hc
        exact hj19 _ _ _ _ _ _ _ _ _ _ _ hf hW (lv_sub hl [2] rfl)
      · have hf := sp_hf hf hc
        refine lv_iload_n hx hb dX5_cutUnits_15 rfl (lv_at hl 2 rfl) ?_
        refine lv_if_lt (tgt := 57) hx hb dX5_cutUnits_16 (by decide) (fun hc => ?_) (fun hc => ?_)
        · have hf := sp_ht hf hc
          exact hj19 _ _ _ _ _ _ _ _ _ _ _ hf hW (lv_sub hl [2] rfl)
        · have hf := sp_hf hf hc
          refine lv_iload hx hb dX5_cutUnits_19 (lv_at hl 3 rfl) ?_
          refine lv_aload_n hx hb dX5_cutUnits_21 rfl (lv_at hl 0 rfl) ?_
          refine sp_get S hK hW inX5 0 rfl rfl 4 (by decide) lk2 rfl dX5_cutUnits_22 ?_
          obtain ⟨r20, hc20, hf⟩ := sp_hc hf
          refine sp_callNi (rest := []) (host := RX9) S hK hG hA hW (c_X9_isIn y3 ut hc20) (by decide) ⟨va_cnB 2 S.2.2.2.2 gX5_cutUnits_X9_isIn_n70 rfl rfl rfl (hG.1 (by decide) _ (List.mem_of_getElem? (i := 11) rfl)) lk4 (by decide +kernel) (by decide), lk3, trivial⟩ (isC := []) rfl rfl rfl (WS' := sw_T a (b 0) q5 sd sf nu ut ++ (sw_P b q5 c4 c5 c6 c7 c8 c9 c10 ++ (sw_P d q5 cl2 le2 ri2 lt2 gr2 ct2 gc2))) rfl rfl hl.1 (Nat.le_of_ble_eq_true rfl) dX5_cutUnits_25 ⟨Nat.zero_le _, Nat.zero_le _⟩ rfl (fun H locs hW => ?_)
          obtain ⟨k29, ek29, hf⟩ := sp_hb hf
          have hj29 : ∀ (x21 : Int32) (c22 : Nat → Int32) (c23 : Nat → Int32) (c24 : Nat → Int32) (c25 : Nat → Int32) (c26 : Nat → Int32) (c27 : Int32) (c28 : Int32) (H : Heap) (locs : List Loc) (ls : Array Slot), k29 x21 c22 c23 c24 c25 c26 c27 c28 = some (r', cl1', le1', ri1', lt1', gr1', ct1', gc1') → sp_wd D A s.heap (sw_T a (b 0) q5 sd sf nu ut ++ (sw_P b q5 c22 c23 c24 c25 c26 c27 c28 ++ (sw_P d q5 cl2 le2 ri2 lt2 gr2 ct2 gc2))) H locs → lv_has ls 5 [(0, .ref (a 0)), (1, .ref (d 0)), (3, .int x21), (4, .int y3)] → W p l e rmX5_cutUnits s m args below meth c H locs 0 0 Q (F0 m 51 ls []) := by
            intro x21 c22 c23 c24 c25 c26 c27 c28 H locs ls hf hW hl
            rw [ek29] at hf
            obtain ⟨v30, ev30, hf⟩ := sp_hb hf
            refine lv_iinc (v := v30) (lv' := [(4, .int v30), (0, .ref (a 0)), (1, .ref (d 0)), (3, .int x21)]) hx hb dX5_cutUnits_51 hl (k := 3) rfl (by rw [ev30]; rfl) (by decide) rfl (fun ls hl => ?_)
            refine lv_goto (tgt := 10) hx hb dX5_cutUnits_54 (by decide) ?_
            exact ih10 _ _ _ _ _ _ _ _ _ _ _ _ hf hW (lv_sub hl [1, 2, 3, 0] rfl)
          refine lv_if_eq (tgt := 51) hx hb dX5_cutUnits_28 (by decide) (fun hc => ?_) (fun hc => ?_)
          · have hf := sp_ht hf hc
            exact hj29 _ _ _ _ _ _ _ _ _ _ _ hf hW (lv_sub hl [0, 1, 2, 3] rfl)
          · have hf := sp_hf hf hc
            refine lv_aload_n hx hb dX5_cutUnits_31 rfl (lv_at hl 0 rfl) ?_
            refine lv_iload_n hx hb dX5_cutUnits_32 rfl (lv_at hl 2 rfl) ?_
            refine lv_aload_n hx hb dX5_cutUnits_33 rfl (lv_at hl 0 rfl) ?_
            refine sp_get S hK hW inX5 0 rfl rfl 1 (by decide) lk5 rfl dX5_cutUnits_34 ?_
            refine lv_iload hx hb dX5_cutUnits_37 (lv_at hl 3 rfl) ?_
            obtain ⟨hin, v31, ev31, hf⟩ := sp_hld hf
            refine sp_iald S hK hW 1 rfl hin ev31 dX5_cutUnits_39 ?_
            refine lv_aload_n hx hb dX5_cutUnits_40 rfl (lv_at hl 1 rfl) ?_
            refine sp_get S hK hW inX2 10 rfl rfl 0 (by decide) lk6 rfl dX5_cutUnits_41 ?_
            refine lv_iload hx hb dX5_cutUnits_44 (lv_at hl 3 rfl) ?_
            obtain ⟨hin, v32, ev32, hf⟩ := sp_hld hf
            refine sp_iald S hK hW 11 rfl hin ev32 dX5_cutUnits_46 ?_
            obtain ⟨⟨r33, c34, c35, c36, c37, c38, c39, c40⟩, hc40, hf⟩ := sp_hc hf
            refine sp_callViP (rest := []) S hK hG hA hW (c_X5_cutUnit a b sd sf nu ut c4 c5 c6 c7 c8 c9 c10 y2 v31 v32 hc40) (by decide) (cwV 3 S.2.2.2.2 gX5_cutUnits_X5_cutUnit rfl rfl rfl (by decide +kernel) (by decide)) 4 0 rfl rfl (sp_pq [sw_T a (b 0) q5 sd sf nu ut, sw_P b q5 c4 c5 c6 c7 c8 c9 c10, sw_P d q5 cl2 le2 ri2 lt2 gr2 ct2 gc2] [0, 1, 2] [0, 1] [2] (by decide)) rfl (WS' := sw_T a (b 0) q5 sd sf nu ut ++ (sw_P b q5 c34 c35 c36 c37 c38 c39 c40 ++ (sw_P d q5 cl2 le2 ri2 lt2 gr2 ct2 gc2))) (sp_pq' [sw_T a (b 0) q5 sd sf nu ut, sw_P b q5 c34 c35 c36 c37 c38 c39 c40, sw_P d q5 cl2 le2 ri2 lt2 gr2 ct2 gc2] [0, 1, 2] [0, 1] [2] (by decide)) rfl hl.1 (Nat.le_of_ble_eq_true rfl) dX5_cutUnits_47 ⟨Nat.zero_le _, Nat.zero_le _⟩ rfl (fun H locs hW => ?_)
            refine lv_istore_n (lv' := [(3, .int r33), (0, .ref (a 0)), (1, .ref (d 0)), (4, .int y3)]) hx hb dX5_cutUnits_50 rfl hl (by decide) rfl (fun ls hl => ?_)
            exact hj29 _ _ _ _ _ _ _ _ _ _ _ hf hW (lv_sub hl [1, 2, 0, 3] rfl)
  exact hlp10 _ _ _ _ _ _ _ _ _ _ _ _ _ hf hW (lv_sub hl [2, 3, 1, 0] rfl)

def f_X5_shortens (p2 : Int32) (sd : Nat → Int32) (sf : Nat → Int32) (nu : Nat → Int32) (cl1 : Nat → Int32) (le1 : Nat → Int32) (ri1 : Nat → Int32) (lt1 : Nat → Int32) (gr1 : Nat → Int32) (cl2 : Nat → Int32) (le2 : Nat → Int32) (ri2 : Nat → Int32) (lt2 : Nat → Int32) (ct2 : Int32) : Option (Int32 × (Nat → Int32) × (Nat → Int32) × (Nat → Int32) × Int64 × (Nat → Int32) × (Nat → Int32) × (Nat → Int32) × (Nat → Int32) × (Nat → Int32) × Int32 × Int32) := Option.bind (f_X2_clear) (fun q9 => match q9 with | (c1, c2) => Option.bind (f_X5_fillSafes sf cl2 le2 ri2 lt2 ct2) (fun c3 => Option.bind (f_X5_unitsOf cl2 le2 ri2 ct2) (fun r4 => Option.bind (f_X5_goesThrough p2 sd c3 r4 cl1 le1 ri1 lt1 gr1 c1 c2 cl2 le2 ri2 lt2 ct2) (fun q9 => match q9 with | (r5, c6, c7, c8, c9, c10, c11, c12, c13) => if r5 = 0 then (some ((0 : Int32), c6, c3, nu, r4, c7, c8, c9, c10, c11, c12, c13)) else (sp_ld c6 48 (ct2 - (1 : Int32)) (fun v14 => sp_bnd (fun (x15 : Int32) (c16 : Nat → Int32) (c17 : Nat → Int32) (c18 : Nat → Int32) (c19 : Nat → Int32) (c20 : Nat → Int32) (c21 : Int32) (c22 : Int32) => if 0 ≤ x15 then (Option.bind (f_X2_restSetOf x15 c17 c18) (fun r24 => Option.bind (f_X2_keepOnly r24 c16 c17 c18 c19 c20 c21 nu) (fun q9 => match q9 with | (c25, c26, c27, c28, c29, c30, c31, c32) => some ((1 : Int32), c6, c3, c32, r4, c25, c26, c27, c28, c29, c30, c31)))) else (some ((0 : Int32), c6, c3, nu, r4, c16, c17, c18, c19, c20, c21, c22))) (fun k23 => if p2 = (4 : Int32) then (Option.bind (f_X5_cutUnits v14 c6 r4 c7 c8 c9 c10 c11 c12 c13 cl2 ct2) (fun q9 => match q9 with | (r33, c34, c35, c36, c37, c38, c39, c40) => k23 r33 c34 c35 c36 c37 c38 c39 c40)) else (k23 v14 c7 c8 c9 c10 c11 c12 c13))))))))
def rmX5_shortens : Room := { frames := 5, cells := 0, slots := 0, locals := 124 }
set_option maxRecDepth 4000 in
theorem c_X5_shortens {l : Launch} {D : va_G} {q5 : Nat → ClassId} (a : Nat → Nat) (b : Nat → Nat) (d : Nat → Nat) (sd : Nat → Int32) (sf : Nat → Int32) (nu : Nat → Int32) (ut : Int64) (cl1 : Nat → Int32) (le1 : Nat → Int32) (ri1 : Nat → Int32) (lt1 : Nat → Int32) (gr1 : Nat → Int32) (ct1 : Int32) (gc1 : Int32) (cl2 : Nat → Int32) (le2 : Nat → Int32) (ri2 : Nat → Int32) (lt2 : Nat → Int32) (gr2 : Nat → Int32) (ct2 : Int32) (gc2 : Int32) (p2 : Int32) {r' : Int32} {sd' : Nat → Int32} {sf' : Nat → Int32} {nu' : Nat → Int32} {ut' : Int64} {cl1' : Nat → Int32} {le1' : Nat → Int32} {ri1' : Nat → Int32} {lt1' : Nat → Int32} {gr1' : Nat → Int32} {ct1' : Int32} {gc1' : Int32} (hf : f_X5_shortens p2 sd sf nu cl1 le1 ri1 lt1 gr1 cl2 le2 ri2 lt2 ct2 = some (r', sd', sf', nu', ut', cl1', le1', ri1', lt1', gr1', ct1', gc1')) : sp_Ci l yX5_shortens wsX5_shortens rmX5_shortens D q5 1 [.ref (a 0), .ref (d 0), .int p2] (sw_T a (b 0) q5 sd sf nu ut ++ (sw_P b q5 cl1 le1 ri1 lt1 gr1 ct1 gc1 ++ (sw_P d q5 cl2 le2 ri2 lt2 gr2 ct2 gc2))) r' (sw_T a (b 0) q5 sd' sf' nu' ut' ++ (sw_P b q5 cl1' le1' ri1' lt1' gr1' ct1' gc1' ++ (sw_P d q5 cl2 le2 ri2 lt2 gr2 ct2 gc2))) := by
  intro sz
  refine sp_of (cc := cX5_shortens) (maxL := 4) (ret := some .boolean) (own := RX5) (Qc := sp_Qi D r' (sw_T a (b 0) q5 sd' sf' nu' ut' ++ (sw_P b q5 cl1' le1' ri1' lt1' gr1' ct1' gc1' ++ (sw_P d q5 cl2 le2 ri2 lt2 gr2 ct2 gc2)))) (by decide) rfl rfl (Nat.le_of_ble_eq_true rfl) ?_
  intro p e s m args below meth c A ls Q hQ S hr hlk hK hG hA hW hl
  have hx := S.1
  have hb := S.2.1
  unfold f_X5_shortens at hf
  have inX2 : ∀ w ∈ u_ws RX2 TX2 7, w ∈ wsX5_shortens := (fun _ h => List.mem_cons_of_mem _ (List.mem_append_right _ h))
  have inX5 : ∀ w ∈ u_ws RX5 TX5 5, w ∈ wsX5_shortens := (fun _ h => List.mem_cons_of_mem _ (List.mem_append_left _ (List.mem_append_right _ h)))
  have lk1 := S.2.2.2.2 (Cond.fieldLink RX5 12 "ShortProofs$Shortener" "draft" "LShortProofs$Proof;") (List.mem_of_getElem? (i := 1) rfl)
  have lk2 := S.2.2.2.2 (Cond.fieldLink RX5 39 "ShortProofs$Shortener" "unitSet" "J") (List.mem_of_getElem? (i := 2) rfl)
  have lk3 := S.2.2.2.2 (Cond.fieldLink RX5 18 "ShortProofs$Shortener" "stands" "[I") (List.mem_of_getElem? (i := 3) rfl)
  have lk4 := S.2.2.2.2 (Cond.fieldLink RX5 47 "ShortProofs$Proof" "count" "I") (List.mem_of_getElem? (i := 4) rfl)
  have lk5 := S.2.2.2.2 (Cond.fieldLink RX5 25 "ShortProofs$Shortener" "numbers" "[I") (List.mem_of_getElem? (i := 5) rfl)
  refine lv_aload_n hx hb dX5_shortens_0 rfl (lv_at hl 0 rfl) ?_
  refine sp_get S hK hW inX5 0 rfl rfl 0 (by decide) lk1 rfl dX5_shortens_1 ?_
  obtain ⟨⟨c1, c2⟩, hc2, hf⟩ := sp_hc hf
  refine sp_callVvP (rest := []) S hK hG hA hW (c_X2_clear b cl1 le1 ri1 lt1 gr1 ct1 gc1 hc2) (by decide) (cwV 0 S.2.2.2.2 gX5_shortens_X2_clear rfl rfl rfl (by decide +kernel) (by decide)) 1 4 rfl rfl (sp_pq [sw_T a (b 0) q5 sd sf nu ut, sw_P b q5 cl1 le1 ri1 lt1 gr1 ct1 gc1, sw_P d q5 cl2 le2 ri2 lt2 gr2 ct2 gc2] [0, 1, 2] [1] [0, 2] (by decide)) rfl (WS' := sw_T a (b 0) q5 sd sf nu ut ++ (sw_P b q5 cl1 le1 ri1 lt1 gr1 c1 c2 ++ (sw_P d q5 cl2 le2 ri2 lt2 gr2 ct2 gc2))) (sp_pq' [sw_T a (b 0) q5 sd sf nu ut, sw_P b q5 cl1 le1 ri1 lt1 gr1 c1 c2, sw_P d q5 cl2 le2 ri2 lt2 gr2 ct2 gc2] [0, 1, 2] [1] [0, 2] (by decide)) rfl hl.1 (Nat.le_of_ble_eq_true rfl) dX5_shortens_4 ⟨Nat.zero_le _, Nat.zero_le _⟩ rfl (fun H locs hW => ?_)
  refine lv_aload_n hx hb dX5_shortens_7 rfl (lv_at hl 0 rfl) ?_
  refine lv_aload_n hx hb dX5_shortens_8 rfl (lv_at hl 1 rfl) ?_
  obtain ⟨c3, hc3, hf⟩ := sp_hc hf
  refine sp_callVvP (rest := []) S hK hG hA hW (c_X5_fillSafes a b d sd sf nu ut cl1 le1 ri1 lt1 gr1 c1 c2 cl2 le2 ri2 lt2 gr2 ct2 gc2 hc3) (by decide) (cwV 1 S.2.2.2.2 gX5_shortens_X5_fillSafes rfl rfl rfl (by decide +kernel) (by decide)) 4 0 rfl rfl (sp_pn _) rfl (WS' := sw_T a (b 0) q5 sd c3 nu ut ++ (sw_P b q5 cl1 le1 ri1 lt1 gr1 c1 c2 ++ (sw_P d q5 cl2 le2 ri2 lt2 gr2 ct2 gc2))) (sp_pn' _) rfl hl.1 (Nat.le_of_ble_eq_true rfl) dX5_shortens_9 ⟨Nat.zero_le _, Nat.zero_le _⟩ rfl (fun H locs hW => ?_)
  refine lv_aload_n hx hb dX5_shortens_12 rfl (lv_at hl 0 rfl) ?_
  refine lv_aload_n hx hb dX5_shortens_13 rfl (lv_at hl 1 rfl) ?_
  obtain ⟨r4, hc4, hf⟩ := sp_hc hf
  refine sp_callSlP (rest := [.ref (a 0)]) S hK hG hA hW (c_X5_unitsOf d cl2 le2 ri2 lt2 gr2 ct2 gc2 hc4) (by decide) (va_cwS 1 S.2.2.2.2 gX5_shortens_X5_unitsOf rfl rfl rfl (by decide +kernel) (by decide)) (sp_pq [sw_T a (b 0) q5 sd c3 nu ut, sw_P b q5 cl1 le1 ri1 lt1 gr1 c1 c2, sw_P d q5 cl2 le2 ri2 lt2 gr2 ct2 gc2] [0, 1, 2] [2] [0, 1] (by decide)) rfl (WS' := sw_T a (b 0) q5 sd c3 nu ut ++ (sw_P b q5 cl1 le1 ri1 lt1 gr1 c1 c2 ++ (sw_P d q5 cl2 le2 ri2 lt2 gr2 ct2 gc2))) (sp_pq' [sw_T a (b 0) q5 sd c3 nu ut, sw_P b q5 cl1 le1 ri1 lt1 gr1 c1 c2, sw_P d q5 cl2 le2 ri2 lt2 gr2 ct2 gc2] [0, 1, 2] [2] [0, 1] (by decide)) rfl hl.1 (Nat.le_of_ble_eq_true rfl) dX5_shortens_14 ⟨Nat.zero_le _, Nat.zero_le _⟩ rfl (fun H locs hW => ?_)
  refine sp_put S hK hW inX5 tyX5_ok nmX5 0 rfl rfl 4 (by decide) lk2 rfl rfl rfl (Nat.le_of_ble_eq_true rfl) (ws' := sw_T a (b 0) q5 sd c3 nu r4 ++ (sw_P b q5 cl1 le1 ri1 lt1 gr1 c1 c2 ++ (sw_P d q5 cl2 le2 ri2 lt2 gr2 ct2 gc2))) rfl dX5_shortens_17 (fun H locs hW => ?_)
  refine lv_aload_n hx hb dX5_shortens_20 rfl (lv_at hl 0 rfl) ?_
  refine lv_aload_n hx hb dX5_shortens_21 rfl (lv_at hl 1 rfl) ?_
  refine lv_iload_n hx hb dX5_shortens_22 rfl (lv_at hl 2 rfl) ?_
  obtain ⟨⟨r5, c6, c7, c8, c9, c10, c11, c12, c13⟩, hc13, hf⟩ := sp_hc hf
  refine sp_callViP (rest := []) S hK hG hA hW (c_X5_goesThrough a b d sd c3 nu r4 cl1 le1 ri1 lt1 gr1 c1 c2 cl2 le2 ri2 lt2 gr2 ct2 gc2 p2 hc13) (by decide) (cwV 2 S.2.2.2.2 gX5_shortens_X5_goesThrough rfl rfl rfl (by decide +kernel) (by decide)) 4 0 rfl rfl (sp_pn _) rfl (WS' := sw_T a (b 0) q5 c6 c3 nu r4 ++ (sw_P b q5 c7 c8 c9 c10 c11 c12 c13 ++ (sw_P d q5 cl2 le2 ri2 lt2 gr2 ct2 gc2))) (sp_pn' _) rfl hl.1 (Nat.le_of_ble_eq_true rfl) dX5_shortens_23 ⟨Nat.zero_le _, Nat.zero_le _⟩ rfl (fun H locs hW => ?_)
  refine lv_if_ne (tgt := 31) hx hb dX5_shortens_26 (by decide) (fun hc => ?_) (fun hc => ?_)
  · have hf := sp_hf hf hc
    refine lv_aload_n hx hb dX5_shortens_31 rfl (lv_at hl 0 rfl) ?_
    refine sp_get S hK hW inX5 0 rfl rfl 1 (by decide) lk3 rfl dX5_shortens_32 ?_
    refine lv_aload_n hx hb dX5_shortens_35 rfl (lv_at hl 1 rfl) ?_
    refine sp_get S hK hW inX2 10 rfl rfl 5 (by decide) lk4 rfl dX5_shortens_36 ?_
    refine lv_iconst (v := 1) hx hb dX5_shortens_39 (by decide) ?_
    refine lv_isub hx hb dX5_shortens_40 ?_
    obtain ⟨hin, v14, ev14, hf⟩ := sp_hld hf
    refine sp_iald S hK hW 1 rfl hin ev14 dX5_shortens_41 ?_
    refine lv_istore_n (lv' := [(3, .int v14), (0, .ref (a 0)), (1, .ref (d 0)), (2, .int p2)]) hx hb dX5_shortens_42 rfl hl (by decide) rfl (fun ls hl => ?_)
    refine lv_iload_n hx hb dX5_shortens_43 rfl (lv_at hl 3 rfl) ?_
    refine lv_iconst (v := 4) hx hb dX5_shortens_44 (by decide) ?_
    obtain ⟨k23, ek23, hf⟩ := sp_hb hf
    have hj23 : ∀ (x15 : Int32) (c16 : Nat → Int32) (c17 : Nat → Int32) (c18 : Nat → Int32) (c19 : Nat → Int32) (c20 : Nat → Int32) (c21 : Int32) (c22 : Int32) (H : Heap) (locs : List Loc) (ls : Array Slot), k23 x15 c16 c17 c18 c19 c20 c21 c22 = some (r', sd', sf', nu', ut', cl1', le1', ri1', lt1', gr1', ct1', gc1') → sp_wd D A s.heap (sw_T a (b 0) q5 c6 c3 nu r4 ++ (sw_P b q5 c16 c17 c18 c19 c20 c21 c22 ++ (sw_P d q5 cl2 le2 ri2 lt2 gr2 ct2 gc2))) H locs → lv_has ls 4 [(0, .ref (a 0)), (3, .int x15)] → W p l e rmX5_shortens s m args below meth c H locs 0 0 Q (F0 m 55 ls []) := by
      intro x15 c16 c17 c18 c19 c20 c21 c22 H locs ls hf hW hl
      rw [ek23] at hf
      refine lv_iload_n hx hb dX5_shortens_55 rfl (lv_at hl 1 rfl) ?_
      refine lv_if_ge (tgt := 61) hx hb dX5_shortens_56 (by decide) (fun hc => ?_) (fun hc => ?_)
      · have hf := sp_ht hf hc
        refine lv_aload_n hx hb dX5_shortens_61 rfl (lv_at hl 0 rfl) ?_
        refine sp_get S hK hW inX5 0 rfl rfl 0 (by decide) lk1 rfl dX5_shortens_62 ?_
        refine lv_aload_n hx hb dX5_shortens_65 rfl (lv_at hl 0 rfl) ?_
        refine sp_get S hK hW inX5 0 rfl rfl 0 (by decide) lk1 rfl dX5_shortens_66 ?_
        refine lv_iload_n hx hb dX5_shortens_69 rfl (lv_at hl 1 rfl) ?_
        obtain ⟨r24, hc24, hf⟩ := sp_hc hf
        refine sp_callVlP (rest := [.ref (b 0)]) S hK hG hA hW (c_X2_restSetOf b c16 c17 c18 c19 c20 c21 c22 x15 hc24) (by decide) (cwV 1 S.2.2.2.2 gX5_shortens_X2_restSetOf rfl rfl rfl (by decide +kernel) (by decide)) 1 4 rfl rfl (sp_pq [sw_T a (b 0) q5 c6 c3 nu r4, sw_P b q5 c16 c17 c18 c19 c20 c21 c22, sw_P d q5 cl2 le2 ri2 lt2 gr2 ct2 gc2] [0, 1, 2] [1] [0, 2] (by decide)) rfl (WS' := sw_T a (b 0) q5 c6 c3 nu r4 ++ (sw_P b q5 c16 c17 c18 c19 c20 c21 c22 ++ (sw_P d q5 cl2 le2 ri2 lt2 gr2 ct2 gc2))) (sp_pq' [sw_T a (b 0) q5 c6 c3 nu r4, sw_P b q5 c16 c17 c18 c19 c20 c21 c22, sw_P d q5 cl2 le2 ri2 lt2 gr2 ct2 gc2] [0, 1, 2] [1] [0, 2] (by decide)) rfl hl.1 (Nat.le_of_ble_eq_true rfl) dX5_shortens_70 ⟨Nat.zero_le _, Nat.zero_le _⟩ rfl (fun H locs hW => ?_)
        refine lv_aload_n hx hb dX5_shortens_73 rfl (lv_at hl 0 rfl) ?_
        refine sp_get S hK hW inX5 0 rfl rfl 3 (by decide) lk5 rfl dX5_shortens_74 ?_
        obtain ⟨⟨c25, c26, c27, c28, c29, c30, c31, c32⟩, hc32, hf⟩ := sp_hc hf
        refine sp_callVv (rest := []) S hK hG hA hW (c_X2_keepOnly b (a 3) c16 c17 c18 c19 c20 c21 c22 nu r24 hc32) (by decide) (cwV 2 S.2.2.2.2 gX5_shortens_X2_keepOnly rfl rfl rfl (by decide +kernel) (by decide)) 1 4 rfl rfl (isC := [4, 5, 6, 7, 8, 9, 3]) rfl rfl rfl (WS' := sw_T a (b 0) q5 c6 c3 c32 r4 ++ (sw_P b q5 c25 c26 c27 c28 c29 c30 c31 ++ (sw_P d q5 cl2 le2 ri2 lt2 gr2 ct2 gc2))) rfl rfl hl.1 (Nat.le_of_ble_eq_true rfl) dX5_shortens_77 ⟨Nat.zero_le _, Nat.zero_le _⟩ rfl (fun H locs hW => ?_)
        refine lv_iconst (v := 1) hx hb dX5_shortens_80 (by decide) ?_
        cases hf
        exact sp_zret S hr hlk hW rfl hQ dX5_shortens_81
      · have hf := sp_hf hf hc
        refine lv_iconst (v := 0) hx hb dX5_shortens_59 (by decide) ?_
        cases hf
        exact sp_zret S hr hlk hW rfl hQ dX5_shortens_60
    refine lv_icmp_ne (tgt := 55) hx hb dX5_shortens_45 (by decide) (fun hc => ?_) (fun hc => ?_)
    · have hf := sp_hf hf hc
      exact hj23 _ _ _ _ _ _ _ _ _ _ _ hf hW (lv_sub hl [1, 0] rfl)
    · have hf := sp_ht hf hc
      refine lv_aload_n hx hb dX5_shortens_48 rfl (lv_at hl 1 rfl) ?_
      refine lv_aload_n hx hb dX5_shortens_49 rfl (lv_at hl 2 rfl) ?_
      refine lv_iload_n hx hb dX5_shortens_50 rfl (lv_at hl 0 rfl) ?_
      obtain ⟨⟨r33, c34, c35, c36, c37, c38, c39, c40⟩, hc40, hf⟩ := sp_hc hf
      refine sp_callViP (rest := []) S hK hG hA hW (c_X5_cutUnits a b d c6 c3 nu r4 c7 c8 c9 c10 c11 c12 c13 cl2 le2 ri2 lt2 gr2 ct2 gc2 v14 hc40) (by decide) (cwV 2 S.2.2.2.2 gX5_shortens_X5_cutUnits rfl rfl rfl (by decide +kernel) (by decide)) 4 0 rfl rfl (sp_pn _) rfl (WS' := sw_T a (b 0) q5 c6 c3 nu r4 ++ (sw_P b q5 c34 c35 c36 c37 c38 c39 c40 ++ (sw_P d q5 cl2 le2 ri2 lt2 gr2 ct2 gc2))) (sp_pn' _) rfl hl.1 (Nat.le_of_ble_eq_true rfl) dX5_shortens_51 ⟨Nat.zero_le _, Nat.zero_le _⟩ rfl (fun H locs hW => ?_)
      refine lv_istore_n (lv' := [(3, .int r33), (0, .ref (a 0)), (1, .ref (d 0)), (2, .int p2)]) hx hb dX5_shortens_54 rfl hl (by decide) rfl (fun ls hl => ?_)
      exact hj23 _ _ _ _ _ _ _ _ _ _ _ hf hW (lv_sub hl [1, 0] rfl)
  · have hf := sp_ht hf hc
    refine lv_iconst (v := 0) hx hb dX5_shortens_29 (by decide) ?_
    cases hf
    exact sp_zret S hr hlk hW rfl hQ dX5_shortens_30

def f_X5_heaps (sd : Nat → Int32) (sf : Nat → Int32) (nu : Nat → Int32) (ut : Int64) (cl1 : Nat → Int32) (le1 : Nat → Int32) (ri1 : Nat → Int32) (lt1 : Nat → Int32) (gr1 : Nat → Int32) (cl2 : Nat → Int32) (le2 : Nat → Int32) (ri2 : Nat → Int32) (lt2 : Nat → Int32) (ct2 : Int32) (cl3 : Nat → Int32) (le3 : Nat → Int32) (ri3 : Nat → Int32) (lt3 : Nat → Int32) (ct3 : Int32) : Option (Int32 × (Nat → Int32) × (Nat → Int32) × (Nat → Int32) × (Nat → Int32) × (Nat → Int32) × (Nat → Int32) × (Nat → Int32) × Int32 × Int32) := Option.bind (f_X2_clear) (fun q9 => match q9 with | (c1, c2) => Option.bind (f_X5_goesThrough (1 : Int32) sd sf ut cl1 le1 ri1 lt1 gr1 c1 c2 cl2 le2 ri2 lt2 ct2) (fun q9 => match q9 with | (r3, c4, c5, c6, c7, c8, c9, c10, c11) => if r3 = 0 then (some ((0 : Int32), c4, nu, c5, c6, c7, c8, c9, c10, c11)) else (Option.bind (f_X5_goesThrough (1 : Int32) c4 sf ut c5 c6 c7 c8 c9 c10 c11 cl3 le3 ri3 lt3 ct3) (fun q9 => match q9 with | (r12, c13, c14, c15, c16, c17, c18, c19, c20) => if r12 = 0 then (some ((0 : Int32), c13, nu, c14, c15, c16, c17, c18, c19, c20)) else (sp_ld c13 48 (ct3 - (1 : Int32)) (fun v21 => Option.bind (f_X2_keepOnly (((1 : Int64) <<< ((v21 + (1 : Int32)).toInt64 &&& 63)) - (1 : Int64)) c14 c15 c16 c17 c18 c19 nu) (fun q9 => match q9 with | (c22, c23, c24, c25, c26, c27, c28, c29) => if (24 : Int32) < c27 then (some ((0 : Int32), c13, c29, c22, c23, c24, c25, c26, c27, c28)) else (some ((1 : Int32), c13, c29, c22, c23, c24, c25, c26, c27, c28)))))))))
def rmX5_heaps : Room := { frames := 5, cells := 0, slots := 0, locals := 124 }
set_option maxRecDepth 4000 in
theorem c_X5_heaps {l : Launch} {D : va_G} {q5 : Nat → ClassId} (a : Nat → Nat) (b : Nat → Nat) (d : Nat → Nat) (d3 : Nat → Nat) (sd : Nat → Int32) (sf : Nat → Int32) (nu : Nat → Int32) (ut : Int64) (cl1 : Nat → Int32) (le1 : Nat → Int32) (ri1 : Nat → Int32) (lt1 : Nat → Int32) (gr1 : Nat → Int32) (ct1 : Int32) (gc1 : Int32) (cl2 : Nat → Int32) (le2 : Nat → Int32) (ri2 : Nat → Int32) (lt2 : Nat → Int32) (gr2 : Nat → Int32) (ct2 : Int32) (gc2 : Int32) (cl3 : Nat → Int32) (le3 : Nat → Int32) (ri3 : Nat → Int32) (lt3 : Nat → Int32) (gr3 : Nat → Int32) (ct3 : Int32) (gc3 : Int32) {r' : Int32} {sd' : Nat → Int32} {nu' : Nat → Int32} {cl1' : Nat → Int32} {le1' : Nat → Int32} {ri1' : Nat → Int32} {lt1' : Nat → Int32} {gr1' : Nat → Int32} {ct1' : Int32} {gc1' : Int32} (hf : f_X5_heaps sd sf nu ut cl1 le1 ri1 lt1 gr1 cl2 le2 ri2 lt2 ct2 cl3 le3 ri3 lt3 ct3 = some (r', sd', nu', cl1', le1', ri1', lt1', gr1', ct1', gc1')) : sp_Ci l yX5_heaps wsX5_heaps rmX5_heaps D q5 1 [.ref (a 0), .ref (d 0), .ref (d3 0)] (sw_T a (b 0) q5 sd sf nu ut ++ (sw_P b q5 cl1 le1 ri1 lt1 gr1 ct1 gc1 ++ (sw_P d q5 cl2 le2 ri2 lt2 gr2 ct2 gc2 ++ (sw_P d3 q5 cl3 le3 ri3 lt3 gr3 ct3 gc3)))) r' (sw_T a (b 0) q5 sd' sf nu' ut ++ (sw_P b q5 cl1' le1' ri1' lt1' gr1' ct1' gc1' ++ (sw_P d q5 cl2 le2 ri2 lt2 gr2 ct2 gc2 ++ (sw_P d3 q5 cl3 le3 ri3 lt3 gr3 ct3 gc3)))) := by
  intro sz
  refine sp_of (cc := cX5_heaps) (maxL := 4) (ret := some .boolean) (own := RX5) (Qc := sp_Qi D r' (sw_T a (b 0) q5 sd' sf nu' ut ++ (sw_P b q5 cl1' le1' ri1' lt1' gr1' ct1' gc1' ++ (sw_P d q5 cl2 le2 ri2 lt2 gr2 ct2 gc2 ++ (sw_P d3 q5 cl3 le3 ri3 lt3 gr3 ct3 gc3))))) (by decide) rfl rfl (Nat.le_of_ble_eq_true rfl) ?_
  intro p e s m args below meth c A ls Q hQ S hr hlk hK hG hA hW hl
  have hx := S.1
  have hb := S.2.1
  unfold f_X5_heaps at hf
  have inX2 : ∀ w ∈ u_ws RX2 TX2 7, w ∈ wsX5_heaps := (fun _ h => List.mem_cons_of_mem _ (List.mem_append_right _ h))
  have inX5 : ∀ w ∈ u_ws RX5 TX5 5, w ∈ wsX5_heaps := (fun _ h => List.mem_cons_of_mem _ (List.mem_append_left _ (List.mem_append_right _ h)))
  have lk1 := S.2.2.2.2 (Cond.fieldLink RX5 12 "ShortProofs$Shortener" "draft" "LShortProofs$Proof;") (List.mem_of_getElem? (i := 1) rfl)
  have lk2 := S.2.2.2.2 (Cond.fieldLink RX5 18 "ShortProofs$Shortener" "stands" "[I") (List.mem_of_getElem? (i := 2) rfl)
  have lk3 := S.2.2.2.2 (Cond.fieldLink RX5 47 "ShortProofs$Proof" "count" "I") (List.mem_of_getElem? (i := 3) rfl)
  have lk4 := S.2.2.2.2 (Cond.fieldLink RX5 25 "ShortProofs$Shortener" "numbers" "[I") (List.mem_of_getElem? (i := 4) rfl)
  refine lv_aload_n hx hb dX5_heaps_0 rfl (lv_at hl 0 rfl) ?_
  refine sp_get S hK hW inX5 0 rfl rfl 0 (by decide) lk1 rfl dX5_heaps_1 ?_
  obtain ⟨⟨c1, c2⟩, hc2, hf⟩ := sp_hc hf
  refine sp_callVvP (rest := []) S hK hG hA hW (c_X2_clear b cl1 le1 ri1 lt1 gr1 ct1 gc1 hc2) (by decide) (cwV 0 S.2.2.2.2 gX5_heaps_X2_clear rfl rfl rfl (by decide +kernel) (by decide)) 1 4 rfl rfl (sp_pq [sw_T a (b 0) q5 sd sf nu ut, sw_P b q5 cl1 le1 ri1 lt1 gr1 ct1 gc1, sw_P d q5 cl2 le2 ri2 lt2 gr2 ct2 gc2, sw_P d3 q5 cl3 le3 ri3 lt3 gr3 ct3 gc3] [0, 1, 2, 3] [1] [0, 2, 3] (by decide)) rfl (WS' := sw_T a (b 0) q5 sd sf nu ut ++ (sw_P b q5 cl1 le1 ri1 lt1 gr1 c1 c2 ++ (sw_P d q5 cl2 le2 ri2 lt2 gr2 ct2 gc2 ++ (sw_P d3 q5 cl3 le3 ri3 lt3 gr3 ct3 gc3)))) (sp_pq' [sw_T a (b 0) q5 sd sf nu ut, sw_P b q5 cl1 le1 ri1 lt1 gr1 c1 c2, sw_P d q5 cl2 le2 ri2 lt2 gr2 ct2 gc2, sw_P d3 q5 cl3 le3 ri3 lt3 gr3 ct3 gc3] [0, 1, 2, 3] [1] [0, 2, 3] (by decide)) rfl hl.1 (Nat.le_of_ble_eq_true rfl) dX5_heaps_4 ⟨Nat.zero_le _, Nat.zero_le _⟩ rfl (fun H locs hW => ?_)
  refine lv_aload_n hx hb dX5_heaps_7 rfl (lv_at hl 0 rfl) ?_
  refine lv_aload_n hx hb dX5_heaps_8 rfl (lv_at hl 1 rfl) ?_
  refine lv_iconst (v := 1) hx hb dX5_heaps_9 (by decide) ?_
  obtain ⟨⟨r3, c4, c5, c6, c7, c8, c9, c10, c11⟩, hc11, hf⟩ := sp_hc hf
  refine sp_callViP (rest := []) S hK hG hA hW (c_X5_goesThrough a b d sd sf nu ut cl1 le1 ri1 lt1 gr1 c1 c2 cl2 le2 ri2 lt2 gr2 ct2 gc2 (1 : Int32) hc11) (by decide) (cwV 2 S.2.2.2.2 gX5_heaps_X5_goesThrough rfl rfl rfl (by decide +kernel) (by decide)) 4 0 rfl rfl (sp_pq [sw_T a (b 0) q5 sd sf nu ut, sw_P b q5 cl1 le1 ri1 lt1 gr1 c1 c2, sw_P d q5 cl2 le2 ri2 lt2 gr2 ct2 gc2, sw_P d3 q5 cl3 le3 ri3 lt3 gr3 ct3 gc3] [0, 1, 2, 3] [0, 1, 2] [3] (by decide)) rfl (WS' := sw_T a (b 0) q5 c4 sf nu ut ++ (sw_P b q5 c5 c6 c7 c8 c9 c10 c11 ++ (sw_P d q5 cl2 le2 ri2 lt2 gr2 ct2 gc2 ++ (sw_P d3 q5 cl3 le3 ri3 lt3 gr3 ct3 gc3)))) (sp_pq' [sw_T a (b 0) q5 c4 sf nu ut, sw_P b q5 c5 c6 c7 c8 c9 c10 c11, sw_P d q5 cl2 le2 ri2 lt2 gr2 ct2 gc2, sw_P d3 q5 cl3 le3 ri3 lt3 gr3 ct3 gc3] [0, 1, 2, 3] [0, 1, 2] [3] (by decide)) rfl hl.1 (Nat.le_of_ble_eq_true rfl) dX5_heaps_10 ⟨Nat.zero_le _, Nat.zero_le _⟩ rfl (fun H locs hW => ?_)
  refine lv_if_eq (tgt := 25) hx hb dX5_heaps_13 (by decide) (fun hc => ?_) (fun hc => ?_)
  · have hf := sp_ht hf hc
    refine lv_iconst (v := 0) hx hb dX5_heaps_25 (by decide) ?_
    cases hf
    exact sp_zret S hr hlk hW rfl hQ dX5_heaps_26
  · have hf := sp_hf hf hc
    refine lv_aload_n hx hb dX5_heaps_16 rfl (lv_at hl 0 rfl) ?_
    refine lv_aload_n hx hb dX5_heaps_17 rfl (lv_at hl 2 rfl) ?_
    refine lv_iconst (v := 1) hx hb dX5_heaps_18 (by decide) ?_
    obtain ⟨⟨r12, c13, c14, c15, c16, c17, c18, c19, c20⟩, hc20, hf⟩ := sp_hc hf
    refine sp_callViP (rest := []) S hK hG hA hW (c_X5_goesThrough a b d3 c4 sf nu ut c5 c6 c7 c8 c9 c10 c11 cl3 le3 ri3 lt3 gr3 ct3 gc3 (1 : Int32) hc20) (by decide) (cwV 2 S.2.2.2.2 gX5_heaps_X5_goesThrough rfl rfl rfl (by decide +kernel) (by decide)) 4 0 rfl rfl (sp_pq [sw_T a (b 0) q5 c4 sf nu ut, sw_P b q5 c5 c6 c7 c8 c9 c10 c11, sw_P d q5 cl2 le2 ri2 lt2 gr2 ct2 gc2, sw_P d3 q5 cl3 le3 ri3 lt3 gr3 ct3 gc3] [0, 1, 2, 3] [0, 1, 3] [2] (by decide)) rfl (WS' := sw_T a (b 0) q5 c13 sf nu ut ++ (sw_P b q5 c14 c15 c16 c17 c18 c19 c20 ++ (sw_P d q5 cl2 le2 ri2 lt2 gr2 ct2 gc2 ++ (sw_P d3 q5 cl3 le3 ri3 lt3 gr3 ct3 gc3)))) (sp_pq' [sw_T a (b 0) q5 c13 sf nu ut, sw_P b q5 c14 c15 c16 c17 c18 c19 c20, sw_P d q5 cl2 le2 ri2 lt2 gr2 ct2 gc2, sw_P d3 q5 cl3 le3 ri3 lt3 gr3 ct3 gc3] [0, 1, 2, 3] [0, 1, 3] [2] (by decide)) rfl hl.1 (Nat.le_of_ble_eq_true rfl) dX5_heaps_19 ⟨Nat.zero_le _, Nat.zero_le _⟩ rfl (fun H locs hW => ?_)
    refine lv_if_ne (tgt := 27) hx hb dX5_heaps_22 (by decide) (fun hc => ?_) (fun hc => ?_)
    · have hf := sp_hf hf hc
      refine lv_aload_n hx hb dX5_heaps_27 rfl (lv_at hl 0 rfl) ?_
      refine sp_get S hK hW inX5 0 rfl rfl 1 (by decide) lk2 rfl dX5_heaps_28 ?_
      refine lv_aload_n hx hb dX5_heaps_31 rfl (lv_at hl 2 rfl) ?_
      refine sp_get S hK hW inX2 16 rfl rfl 5 (by decide) lk3 rfl dX5_heaps_32 ?_
      refine lv_iconst (v := 1) hx hb dX5_heaps_35 (by decide) ?_
      refine lv_isub hx hb dX5_heaps_36 ?_
      obtain ⟨hin, v21, ev21, hf⟩ := sp_hld hf
      refine sp_iald S hK hW 1 rfl hin ev21 dX5_heaps_37 ?_
      refine lv_istore_n (lv' := [(3, .int v21), (0, .ref (a 0)), (1, .ref (d 0)), (2, .ref (d3 0))]) hx hb dX5_heaps_38 rfl hl (by decide) rfl (fun ls hl => ?_)
      refine lv_aload_n hx hb dX5_heaps_39 rfl (lv_at hl 1 rfl) ?_
      refine sp_get S hK hW inX5 0 rfl rfl 0 (by decide) lk1 rfl dX5_heaps_40 ?_
      refine lv_lconst (v := 1) hx hb dX5_heaps_43 (by decide) ?_
      refine lv_iload_n hx hb dX5_heaps_44 rfl (lv_at hl 0 rfl) ?_
      refine lv_iconst (v := 1) hx hb dX5_heaps_45 (by decide) ?_
      refine lv_iadd hx hb dX5_heaps_46 ?_
      refine lv_lshl hx hb dX5_heaps_47 rfl ?_
      refine lv_lconst (v := 1) hx hb dX5_heaps_48 (by decide) ?_
      refine lv_lsub hx hb dX5_heaps_49 ?_
      refine lv_aload_n hx hb dX5_heaps_50 rfl (lv_at hl 1 rfl) ?_
      refine sp_get S hK hW inX5 0 rfl rfl 3 (by decide) lk4 rfl dX5_heaps_51 ?_
      obtain ⟨⟨c22, c23, c24, c25, c26, c27, c28, c29⟩, hc29, hf⟩ := sp_hc hf
      refine sp_callVv (rest := []) S hK hG hA hW (c_X2_keepOnly b (a 3) c14 c15 c16 c17 c18 c19 c20 nu (((1 : Int64) <<< ((v21 + (1 : Int32)).toInt64 &&& 63)) - (1 : Int64)) hc29) (by decide) (cwV 2 S.2.2.2.2 gX5_heaps_X2_keepOnly rfl rfl rfl (by decide +kernel) (by decide)) 1 4 rfl rfl (isC := [4, 5, 6, 7, 8, 9, 3]) rfl rfl rfl (WS' := sw_T a (b 0) q5 c13 sf c29 ut ++ (sw_P b q5 c22 c23 c24 c25 c26 c27 c28 ++ (sw_P d q5 cl2 le2 ri2 lt2 gr2 ct2 gc2 ++ (sw_P d3 q5 cl3 le3 ri3 lt3 gr3 ct3 gc3)))) rfl rfl hl.1 (Nat.le_of_ble_eq_true rfl) dX5_heaps_54 ⟨Nat.zero_le _, Nat.zero_le _⟩ rfl (fun H locs hW => ?_)
      refine lv_aload_n hx hb dX5_heaps_57 rfl (lv_at hl 1 rfl) ?_
      refine sp_get S hK hW inX5 0 rfl rfl 0 (by decide) lk1 rfl dX5_heaps_58 ?_
      refine sp_get S hK hW inX2 4 rfl rfl 5 (by decide) lk3 rfl dX5_heaps_61 ?_
      refine lv_bipush (v := 24) hx hb dX5_heaps_64 (by decide) ?_
      refine lv_icmp_gt (tgt := 73) hx hb dX5_heaps_66 (by decide) (fun hc => ?_) (fun hc => ?_)
      · have hf := sp_ht hf hc
        refine lv_iconst (v := 0) hx hb dX5_heaps_73 (by decide) ?_
        cases hf
        exact sp_zret S hr hlk hW rfl hQ dX5_heaps_74
      · have hf := sp_hf hf hc
        refine lv_iconst (v := 1) hx hb dX5_heaps_69 (by decide) ?_
        refine lv_goto (tgt := 74) hx hb dX5_heaps_70 (by decide) ?_
        cases hf
        exact sp_zret S hr hlk hW rfl hQ dX5_heaps_74
    · have hf := sp_ht hf hc
      refine lv_iconst (v := 0) hx hb dX5_heaps_25 (by decide) ?_
      cases hf
      exact sp_zret S hr hlk hW rfl hQ dX5_heaps_26

def f_X5_heaps_al (sd : Nat → Int32) (sf : Nat → Int32) (nu : Nat → Int32) (ut : Int64) (cl1 : Nat → Int32) (le1 : Nat → Int32) (ri1 : Nat → Int32) (lt1 : Nat → Int32) (gr1 : Nat → Int32) (cl2 : Nat → Int32) (le2 : Nat → Int32) (ri2 : Nat → Int32) (lt2 : Nat → Int32) (ct2 : Int32) : Option (Int32 × (Nat → Int32) × (Nat → Int32) × (Nat → Int32) × (Nat → Int32) × (Nat → Int32) × (Nat → Int32) × (Nat → Int32) × Int32 × Int32) := Option.bind (f_X2_clear) (fun q9 => match q9 with | (c1, c2) => Option.bind (f_X5_goesThrough (1 : Int32) sd sf ut cl1 le1 ri1 lt1 gr1 c1 c2 cl2 le2 ri2 lt2 ct2) (fun q9 => match q9 with | (r3, c4, c5, c6, c7, c8, c9, c10, c11) => if r3 = 0 then (some ((0 : Int32), c4, nu, c5, c6, c7, c8, c9, c10, c11)) else (Option.bind (f_X5_goesThrough (1 : Int32) c4 sf ut c5 c6 c7 c8 c9 c10 c11 cl2 le2 ri2 lt2 ct2) (fun q9 => match q9 with | (r12, c13, c14, c15, c16, c17, c18, c19, c20) => if r12 = 0 then (some ((0 : Int32), c13, nu, c14, c15, c16, c17, c18, c19, c20)) else (sp_ld c13 48 (ct2 - (1 : Int32)) (fun v21 => Option.bind (f_X2_keepOnly (((1 : Int64) <<< ((v21 + (1 : Int32)).toInt64 &&& 63)) - (1 : Int64)) c14 c15 c16 c17 c18 c19 nu) (fun q9 => match q9 with | (c22, c23, c24, c25, c26, c27, c28, c29) => if (24 : Int32) < c27 then (some ((0 : Int32), c13, c29, c22, c23, c24, c25, c26, c27, c28)) else (some ((1 : Int32), c13, c29, c22, c23, c24, c25, c26, c27, c28)))))))))
def rmX5_heaps_al : Room := { frames := 5, cells := 0, slots := 0, locals := 124 }
set_option maxRecDepth 4000 in
theorem c_X5_heaps_al {l : Launch} {D : va_G} {q5 : Nat → ClassId} (a : Nat → Nat) (b : Nat → Nat) (d : Nat → Nat) (sd : Nat → Int32) (sf : Nat → Int32) (nu : Nat → Int32) (ut : Int64) (cl1 : Nat → Int32) (le1 : Nat → Int32) (ri1 : Nat → Int32) (lt1 : Nat → Int32) (gr1 : Nat → Int32) (ct1 : Int32) (gc1 : Int32) (cl2 : Nat → Int32) (le2 : Nat → Int32) (ri2 : Nat → Int32) (lt2 : Nat → Int32) (gr2 : Nat → Int32) (ct2 : Int32) (gc2 : Int32) {r' : Int32} {sd' : Nat → Int32} {nu' : Nat → Int32} {cl1' : Nat → Int32} {le1' : Nat → Int32} {ri1' : Nat → Int32} {lt1' : Nat → Int32} {gr1' : Nat → Int32} {ct1' : Int32} {gc1' : Int32} (hf : f_X5_heaps_al sd sf nu ut cl1 le1 ri1 lt1 gr1 cl2 le2 ri2 lt2 ct2 = some (r', sd', nu', cl1', le1', ri1', lt1', gr1', ct1', gc1')) : sp_Ci l yX5_heaps wsX5_heaps rmX5_heaps_al D q5 1 [.ref (a 0), .ref (d 0), .ref (d 0)] (sw_T a (b 0) q5 sd sf nu ut ++ (sw_P b q5 cl1 le1 ri1 lt1 gr1 ct1 gc1 ++ (sw_P d q5 cl2 le2 ri2 lt2 gr2 ct2 gc2))) r' (sw_T a (b 0) q5 sd' sf nu' ut ++ (sw_P b q5 cl1' le1' ri1' lt1' gr1' ct1' gc1' ++ (sw_P d q5 cl2 le2 ri2 lt2 gr2 ct2 gc2))) := by
  intro sz
  refine sp_of (cc := cX5_heaps) (maxL := 4) (ret := some .boolean) (own := RX5) (Qc := sp_Qi D r' (sw_T a (b 0) q5 sd' sf nu' ut ++ (sw_P b q5 cl1' le1' ri1' lt1' gr1' ct1' gc1' ++ (sw_P d q5 cl2 le2 ri2 lt2 gr2 ct2 gc2)))) (by decide) rfl rfl (Nat.le_of_ble_eq_true rfl) ?_
  intro p e s m args below meth c A ls Q hQ S hr hlk hK hG hA hW hl
  have hx := S.1
  have hb := S.2.1
  unfold f_X5_heaps_al at hf
  have inX2 : ∀ w ∈ u_ws RX2 TX2 7, w ∈ wsX5_heaps := (fun _ h => List.mem_cons_of_mem _ (List.mem_append_right _ h))
  have inX5 : ∀ w ∈ u_ws RX5 TX5 5, w ∈ wsX5_heaps := (fun _ h => List.mem_cons_of_mem _ (List.mem_append_left _ (List.mem_append_right _ h)))
  have lk1 := S.2.2.2.2 (Cond.fieldLink RX5 12 "ShortProofs$Shortener" "draft" "LShortProofs$Proof;") (List.mem_of_getElem? (i := 1) rfl)
  have lk2 := S.2.2.2.2 (Cond.fieldLink RX5 18 "ShortProofs$Shortener" "stands" "[I") (List.mem_of_getElem? (i := 2) rfl)
  have lk3 := S.2.2.2.2 (Cond.fieldLink RX5 47 "ShortProofs$Proof" "count" "I") (List.mem_of_getElem? (i := 3) rfl)
  have lk4 := S.2.2.2.2 (Cond.fieldLink RX5 25 "ShortProofs$Shortener" "numbers" "[I") (List.mem_of_getElem? (i := 4) rfl)
  refine lv_aload_n hx hb dX5_heaps_0 rfl (lv_at hl 0 rfl) ?_
  refine sp_get S hK hW inX5 0 rfl rfl 0 (by decide) lk1 rfl dX5_heaps_1 ?_
  obtain ⟨⟨c1, c2⟩, hc2, hf⟩ := sp_hc hf
  refine sp_callVvP (rest := []) S hK hG hA hW (c_X2_clear b cl1 le1 ri1 lt1 gr1 ct1 gc1 hc2) (by decide) (cwV 0 S.2.2.2.2 gX5_heaps_X2_clear rfl rfl rfl (by decide +kernel) (by decide)) 1 4 rfl rfl (sp_pq [sw_T a (b 0) q5 sd sf nu ut, sw_P b q5 cl1 le1 ri1 lt1 gr1 ct1 gc1, sw_P d q5 cl2 le2 ri2 lt2 gr2 ct2 gc2] [0, 1, 2] [1] [0, 2] (by decide)) rfl (WS' := sw_T a (b 0) q5 sd sf nu ut ++ (sw_P b q5 cl1 le1 ri1 lt1 gr1 c1 c2 ++ (sw_P d q5 cl2 le2 ri2 lt2 gr2 ct2 gc2))) (sp_pq' [sw_T a (b 0) q5 sd sf nu ut, sw_P b q5 cl1 le1 ri1 lt1 gr1 c1 c2, sw_P d q5 cl2 le2 ri2 lt2 gr2 ct2 gc2] [0, 1, 2] [1] [0, 2] (by decide)) rfl hl.1 (Nat.le_of_ble_eq_true rfl) dX5_heaps_4 ⟨Nat.zero_le _, Nat.zero_le _⟩ rfl (fun H locs hW => ?_)
  refine lv_aload_n hx hb dX5_heaps_7 rfl (lv_at hl 0 rfl) ?_
  refine lv_aload_n hx hb dX5_heaps_8 rfl (lv_at hl 1 rfl) ?_
  refine lv_iconst (v := 1) hx hb dX5_heaps_9 (by decide) ?_
  obtain ⟨⟨r3, c4, c5, c6, c7, c8, c9, c10, c11⟩, hc11, hf⟩ := sp_hc hf
  refine sp_callViP (rest := []) S hK hG hA hW (c_X5_goesThrough a b d sd sf nu ut cl1 le1 ri1 lt1 gr1 c1 c2 cl2 le2 ri2 lt2 gr2 ct2 gc2 (1 : Int32) hc11) (by decide) (cwV 2 S.2.2.2.2 gX5_heaps_X5_goesThrough rfl rfl rfl (by decide +kernel) (by decide)) 4 0 rfl rfl (sp_pn _) rfl (WS' := sw_T a (b 0) q5 c4 sf nu ut ++ (sw_P b q5 c5 c6 c7 c8 c9 c10 c11 ++ (sw_P d q5 cl2 le2 ri2 lt2 gr2 ct2 gc2))) (sp_pn' _) rfl hl.1 (Nat.le_of_ble_eq_true rfl) dX5_heaps_10 ⟨Nat.zero_le _, Nat.zero_le _⟩ rfl (fun H locs hW => ?_)
  refine lv_if_eq (tgt := 25) hx hb dX5_heaps_13 (by decide) (fun hc => ?_) (fun hc => ?_)
  · have hf := sp_ht hf hc
    refine lv_iconst (v := 0) hx hb dX5_heaps_25 (by decide) ?_
    cases hf
    exact sp_zret S hr hlk hW rfl hQ dX5_heaps_26
  · have hf := sp_hf hf hc
    refine lv_aload_n hx hb dX5_heaps_16 rfl (lv_at hl 0 rfl) ?_
    refine lv_aload_n hx hb dX5_heaps_17 rfl (lv_at hl 2 rfl) ?_
    refine lv_iconst (v := 1) hx hb dX5_heaps_18 (by decide) ?_
    obtain ⟨⟨r12, c13, c14, c15, c16, c17, c18, c19, c20⟩, hc20, hf⟩ := sp_hc hf
    refine sp_callViP (rest := []) S hK hG hA hW (c_X5_goesThrough a b d c4 sf nu ut c5 c6 c7 c8 c9 c10 c11 cl2 le2 ri2 lt2 gr2 ct2 gc2 (1 : Int32) hc20) (by decide) (cwV 2 S.2.2.2.2 gX5_heaps_X5_goesThrough rfl rfl rfl (by decide +kernel) (by decide)) 4 0 rfl rfl (sp_pn _) rfl (WS' := sw_T a (b 0) q5 c13 sf nu ut ++ (sw_P b q5 c14 c15 c16 c17 c18 c19 c20 ++ (sw_P d q5 cl2 le2 ri2 lt2 gr2 ct2 gc2))) (sp_pn' _) rfl hl.1 (Nat.le_of_ble_eq_true rfl) dX5_heaps_19 ⟨Nat.zero_le _, Nat.zero_le _⟩ rfl (fun H locs hW => ?_)
    refine lv_if_ne (tgt := 27) hx hb dX5_heaps_22 (by decide) (fun hc => ?_) (fun hc => ?_)
    · have hf := sp_hf hf hc
      refine lv_aload_n hx hb dX5_heaps_27 rfl (lv_at hl 0 rfl) ?_
      refine sp_get S hK hW inX5 0 rfl rfl 1 (by decide) lk2 rfl dX5_heaps_28 ?_
      refine lv_aload_n hx hb dX5_heaps_31 rfl (lv_at hl 2 rfl) ?_
      refine sp_get S hK hW inX2 10 rfl rfl 5 (by decide) lk3 rfl dX5_heaps_32 ?_
      refine lv_iconst (v := 1) hx hb dX5_heaps_35 (by decide) ?_
      refine lv_isub hx hb dX5_heaps_36 ?_
      obtain ⟨hin, v21, ev21, hf⟩ := sp_hld hf
      refine sp_iald S hK hW 1 rfl hin ev21 dX5_heaps_37 ?_
      refine lv_istore_n (lv' := [(3, .int v21), (0, .ref (a 0)), (1, .ref (d 0)), (2, .ref (d 0))]) hx hb dX5_heaps_38 rfl hl (by decide) rfl (fun ls hl => ?_)
      refine lv_aload_n hx hb dX5_heaps_39 rfl (lv_at hl 1 rfl) ?_
      refine sp_get S hK hW inX5 0 rfl rfl 0 (by decide) lk1 rfl dX5_heaps_40 ?_
      refine lv_lconst (v := 1) hx hb dX5_heaps_43 (by decide) ?_
      refine lv_iload_n hx hb dX5_heaps_44 rfl (lv_at hl 0 rfl) ?_
      refine lv_iconst (v := 1) hx hb dX5_heaps_45 (by decide) ?_
      refine lv_iadd hx hb dX5_heaps_46 ?_
      refine lv_lshl hx hb dX5_heaps_47 rfl ?_
      refine lv_lconst (v := 1) hx hb dX5_heaps_48 (by decide) ?_
      refine lv_lsub hx hb dX5_heaps_49 ?_
      refine lv_aload_n hx hb dX5_heaps_50 rfl (lv_at hl 1 rfl) ?_
      refine sp_get S hK hW inX5 0 rfl rfl 3 (by decide) lk4 rfl dX5_heaps_51 ?_
      obtain ⟨⟨c22, c23, c24, c25, c26, c27, c28, c29⟩, hc29, hf⟩ := sp_hc hf
      refine sp_callVv (rest := []) S hK hG hA hW (c_X2_keepOnly b (a 3) c14 c15 c16 c17 c18 c19 c20 nu (((1 : Int64) <<< ((v21 + (1 : Int32)).toInt64 &&& 63)) - (1 : Int64)) hc29) (by decide) (cwV 2 S.2.2.2.2 gX5_heaps_X2_keepOnly rfl rfl rfl (by decide +kernel) (by decide)) 1 4 rfl rfl (isC := [4, 5, 6, 7, 8, 9, 3]) rfl rfl rfl (WS' := sw_T a (b 0) q5 c13 sf c29 ut ++ (sw_P b q5 c22 c23 c24 c25 c26 c27 c28 ++ (sw_P d q5 cl2 le2 ri2 lt2 gr2 ct2 gc2))) rfl rfl hl.1 (Nat.le_of_ble_eq_true rfl) dX5_heaps_54 ⟨Nat.zero_le _, Nat.zero_le _⟩ rfl (fun H locs hW => ?_)
      refine lv_aload_n hx hb dX5_heaps_57 rfl (lv_at hl 1 rfl) ?_
      refine sp_get S hK hW inX5 0 rfl rfl 0 (by decide) lk1 rfl dX5_heaps_58 ?_
      refine sp_get S hK hW inX2 4 rfl rfl 5 (by decide) lk3 rfl dX5_heaps_61 ?_
      refine lv_bipush (v := 24) hx hb dX5_heaps_64 (by decide) ?_
      refine lv_icmp_gt (tgt := 73) hx hb dX5_heaps_66 (by decide) (fun hc => ?_) (fun hc => ?_)
      · have hf := sp_ht hf hc
        refine lv_iconst (v := 0) hx hb dX5_heaps_73 (by decide) ?_
        cases hf
        exact sp_zret S hr hlk hW rfl hQ dX5_heaps_74
      · have hf := sp_hf hf hc
        refine lv_iconst (v := 1) hx hb dX5_heaps_69 (by decide) ?_
        refine lv_goto (tgt := 74) hx hb dX5_heaps_70 (by decide) ?_
        cases hf
        exact sp_zret S hr hlk hW rfl hQ dX5_heaps_74
    · have hf := sp_ht hf hc
      refine lv_iconst (v := 0) hx hb dX5_heaps_25 (by decide) ?_
      cases hf
      exact sp_zret S hr hlk hW rfl hQ dX5_heaps_26

def f_X5_safeSigns (p2 : Int32) (sf : Nat → Int32) (cl2 : Nat → Int32) (le2 : Nat → Int32) (ri2 : Nat → Int32) (lt2 : Nat → Int32) (ct2 : Int32) : Option (Int32 × (Nat → Int32)) := Option.bind (f_X5_fillSafes sf cl2 le2 ri2 lt2 ct2) (fun c1 => sp_ld c1 48 p2 (fun v2 => some (v2, c1)))
def rmX5_safeSigns : Room := { frames := 4, cells := 0, slots := 0, locals := 91 }
set_option maxRecDepth 4000 in
theorem c_X5_safeSigns {l : Launch} {D : va_G} {q5 : Nat → ClassId} (a : Nat → Nat) (b : Nat → Nat) (d : Nat → Nat) (sd : Nat → Int32) (sf : Nat → Int32) (nu : Nat → Int32) (ut : Int64) (cl1 : Nat → Int32) (le1 : Nat → Int32) (ri1 : Nat → Int32) (lt1 : Nat → Int32) (gr1 : Nat → Int32) (ct1 : Int32) (gc1 : Int32) (cl2 : Nat → Int32) (le2 : Nat → Int32) (ri2 : Nat → Int32) (lt2 : Nat → Int32) (gr2 : Nat → Int32) (ct2 : Int32) (gc2 : Int32) (p2 : Int32) {r' : Int32} {sf' : Nat → Int32} (hf : f_X5_safeSigns p2 sf cl2 le2 ri2 lt2 ct2 = some (r', sf')) : sp_Ci l yX5_safeSigns wsX5_safeSigns rmX5_safeSigns D q5 1 [.ref (a 0), .ref (d 0), .int p2] (sw_T a (b 0) q5 sd sf nu ut ++ (sw_P b q5 cl1 le1 ri1 lt1 gr1 ct1 gc1 ++ (sw_P d q5 cl2 le2 ri2 lt2 gr2 ct2 gc2))) r' (sw_T a (b 0) q5 sd sf' nu ut ++ (sw_P b q5 cl1 le1 ri1 lt1 gr1 ct1 gc1 ++ (sw_P d q5 cl2 le2 ri2 lt2 gr2 ct2 gc2))) := by
  intro sz
  refine sp_of (cc := cX5_safeSigns) (maxL := 3) (ret := some .int) (own := RX5) (Qc := sp_Qi D r' (sw_T a (b 0) q5 sd sf' nu ut ++ (sw_P b q5 cl1 le1 ri1 lt1 gr1 ct1 gc1 ++ (sw_P d q5 cl2 le2 ri2 lt2 gr2 ct2 gc2)))) (by decide) rfl rfl (Nat.le_of_ble_eq_true rfl) ?_
  intro p e s m args below meth c A ls Q hQ S hr hlk hK hG hA hW hl
  have hx := S.1
  have hb := S.2.1
  unfold f_X5_safeSigns at hf
  have inX5 : ∀ w ∈ u_ws RX5 TX5 5, w ∈ wsX5_safeSigns := (fun _ h => List.mem_cons_of_mem _ (List.mem_append_left _ (List.mem_append_right _ h)))
  have lk1 := S.2.2.2.2 (Cond.fieldLink RX5 22 "ShortProofs$Shortener" "safes" "[I") (List.mem_of_getElem? (i := 1) rfl)
  refine lv_aload_n hx hb dX5_safeSigns_0 rfl (lv_at hl 0 rfl) ?_
  refine lv_aload_n hx hb dX5_safeSigns_1 rfl (lv_at hl 1 rfl) ?_
  obtain ⟨c1, hc1, hf⟩ := sp_hc hf
  refine sp_callVvP (rest := []) S hK hG hA hW (c_X5_fillSafes a b d sd sf nu ut cl1 le1 ri1 lt1 gr1 ct1 gc1 cl2 le2 ri2 lt2 gr2 ct2 gc2 hc1) (by decide) (cwV 1 S.2.2.2.2 gX5_safeSigns_X5_fillSafes rfl rfl rfl (by decide +kernel) (by decide)) 4 0 rfl rfl (sp_pn _) rfl (WS' := sw_T a (b 0) q5 sd c1 nu ut ++ (sw_P b q5 cl1 le1 ri1 lt1 gr1 ct1 gc1 ++ (sw_P d q5 cl2 le2 ri2 lt2 gr2 ct2 gc2))) (sp_pn' _) rfl hl.1 (Nat.le_of_ble_eq_true rfl) dX5_safeSigns_2 ⟨Nat.zero_le _, Nat.zero_le _⟩ rfl (fun H locs hW => ?_)
  refine lv_aload_n hx hb dX5_safeSigns_5 rfl (lv_at hl 0 rfl) ?_
  refine sp_get S hK hW inX5 0 rfl rfl 2 (by decide) lk1 rfl dX5_safeSigns_6 ?_
  refine lv_iload_n hx hb dX5_safeSigns_9 rfl (lv_at hl 2 rfl) ?_
  obtain ⟨hin, v2, ev2, hf⟩ := sp_hld hf
  refine sp_iald S hK hW 2 rfl hin ev2 dX5_safeSigns_10 ?_
  cases hf
  exact sp_iret S hr hlk hW hQ dX5_safeSigns_11
