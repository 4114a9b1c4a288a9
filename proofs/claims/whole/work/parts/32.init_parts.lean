def rmX2_init : Room := { frames := 1, cells := 5, slots := 240, locals := 20 }
set_option maxRecDepth 8000 in
theorem c_X2_init {l : Launch} {D : va_G} {q5 : Nat → ClassId} : sp_CI (σ := (Nat → Nat)) l yX2_init wsX2_init rmX2_init D q5 5 240 (.inr (1, [.null, .null, .null, .null, .null, .int 0, .int 0])) (fun b u => u 0 = b) (fun u => sw_P u q5 (fun _ => 0) (fun _ => 0) (fun _ => 0) (fun _ => 0) (fun _ => 0) 0 0) := by
  refine sp_ofI (cc := cX2_init) (maxL := 1) (own := RX2) (by decide) rfl rfl rfl (by decide) ?_
  intro b p e s m args below meth c A ls Q hQ S hr hlk hnm hK hG hAO hA hW hl
  have hx := S.1
  have hb := S.2.1
  have incX2 : ∀ w ∈ u_ws RX2 TX2 7, w ∈ wsX2_init := (fun _ h => List.mem_cons_of_mem _ (List.mem_append_right _ h))
  have lk1 := S.2.2.2.2 (Cond.methodLink RX2 3 objectInit) (List.mem_of_getElem? (i := 1) rfl)
  have lk2 := S.2.2.2.2 (Cond.instanceMethod objectInit) (List.mem_of_getElem? (i := 2) rfl)
  have lk3 := S.2.2.2.2 (Cond.code objectInit ⟨#[0xb1]⟩ 1 none) (List.mem_of_getElem? (i := 3) rfl)
  have lk4 := S.2.2.2.2 (Cond.arrayClass .int) (List.mem_of_getElem? (i := 4) rfl)
  have lk5 := S.2.2.2.2 (Cond.fieldLink RX2 9 "ShortProofs$Proof" "clauses" "[I") (List.mem_of_getElem? (i := 5) rfl)
  have lk6 := S.2.2.2.2 (Cond.fieldLink RX2 15 "ShortProofs$Proof" "lefts" "[I") (List.mem_of_getElem? (i := 6) rfl)
  have lk7 := S.2.2.2.2 (Cond.fieldLink RX2 18 "ShortProofs$Proof" "rights" "[I") (List.mem_of_getElem? (i := 7) rfl)
  have lk8 := S.2.2.2.2 (Cond.fieldLink RX2 21 "ShortProofs$Proof" "letters" "[I") (List.mem_of_getElem? (i := 8) rfl)
  have lk9 := S.2.2.2.2 (Cond.fieldLink RX2 24 "ShortProofs$Proof" "grounds" "[I") (List.mem_of_getElem? (i := 9) rfl)
  refine lv_aload_n hx hb dX2_init_0 rfl (lv_at hl 0 rfl) ?_
  refine sp_obj S hl.1 lk1 lk2 lk3 (Nat.le_of_ble_eq_true rfl) (Nat.le_of_ble_eq_true rfl) dX2_init_1 ?_
  refine lv_aload_n hx hb dX2_init_4 rfl (lv_at hl 0 rfl) ?_
  refine lv_bipush (v := 48) hx hb dX2_init_5 (by decide) ?_
  refine sp_newa (atype := .int) (ty := .int) S hK hW hA 0 rfl rfl sp_raI lk4 (N' := 48) (a0 := (48, .inl (fun _ => 0))) (sp_haI _) (by decide) (by decide) (by decide) (Nat.le_of_ble_eq_true rfl) (Nat.le_of_ble_eq_true rfl) dX2_init_7 (fun q7 H hW => ?_)
  have hW : sp_wd D A s.heap ([(b, .inr (1, [.null, .null, .null, .null, .null, .int 0, .int 0])), (q7, .inl (q5 0, 48, .inl (fun _ => 0)))]) H _ := hW
  refine sp_putI S hK hW hnm incX2 tyX2_ok nmX2 0 rfl rfl 0 (by decide) lk5 rfl rfl rfl rfl (Nat.le_of_ble_eq_true rfl) (ws' := [(b, .inr (1, [.ref q7, .null, .null, .null, .null, .int 0, .int 0])), (q7, .inl (q5 0, 48, .inl (fun _ => 0)))]) rfl dX2_init_9 (fun H locs hW => ?_)
  refine lv_aload_n hx hb dX2_init_12 rfl (lv_at hl 0 rfl) ?_
  refine lv_bipush (v := 48) hx hb dX2_init_13 (by decide) ?_
  refine sp_newa (atype := .int) (ty := .int) S hK hW hA 0 rfl rfl sp_raI lk4 (N' := 48) (a0 := (48, .inl (fun _ => 0))) (sp_haI _) (by decide) (by decide) (by decide) (Nat.le_of_ble_eq_true rfl) (Nat.le_of_ble_eq_true rfl) dX2_init_15 (fun q15 H hW => ?_)
  have hW : sp_wd D A s.heap ([(b, .inr (1, [.ref q7, .null, .null, .null, .null, .int 0, .int 0])), (q7, .inl (q5 0, 48, .inl (fun _ => 0))), (q15, .inl (q5 0, 48, .inl (fun _ => 0)))]) H _ := hW
  refine sp_putI S hK hW hnm incX2 tyX2_ok nmX2 0 rfl rfl 1 (by decide) lk6 rfl rfl rfl rfl (Nat.le_of_ble_eq_true rfl) (ws' := [(b, .inr (1, [.ref q7, .ref q15, .null, .null, .null, .int 0, .int 0])), (q7, .inl (q5 0, 48, .inl (fun _ => 0))), (q15, .inl (q5 0, 48, .inl (fun _ => 0)))]) rfl dX2_init_17 (fun H locs hW => ?_)
  refine lv_aload_n hx hb dX2_init_20 rfl (lv_at hl 0 rfl) ?_
  refine lv_bipush (v := 48) hx hb dX2_init_21 (by decide) ?_
  refine sp_newa (atype := .int) (ty := .int) S hK hW hA 0 rfl rfl sp_raI lk4 (N' := 48) (a0 := (48, .inl (fun _ => 0))) (sp_haI _) (by decide) (by decide) (by decide) (Nat.le_of_ble_eq_true rfl) (Nat.le_of_ble_eq_true rfl) dX2_init_23 (fun q23 H hW => ?_)
  have hW : sp_wd D A s.heap ([(b, .inr (1, [.ref q7, .ref q15, .null, .null, .null, .int 0, .int 0])), (q7, .inl (q5 0, 48, .inl (fun _ => 0))), (q15, .inl (q5 0, 48, .inl (fun _ => 0))), (q23, .inl (q5 0, 48, .inl (fun _ => 0)))]) H _ := hW
  refine sp_putI S hK hW hnm incX2 tyX2_ok nmX2 0 rfl rfl 2 (by decide) lk7 rfl rfl rfl rfl (Nat.le_of_ble_eq_true rfl) (ws' := [(b, .inr (1, [.ref q7, .ref q15, .ref q23, .null, .null, .int 0, .int 0])), (q7, .inl (q5 0, 48, .inl (fun _ => 0))), (q15, .inl (q5 0, 48, .inl (fun _ => 0))), (q23, .inl (q5 0, 48, .inl (fun _ => 0)))]) rfl dX2_init_25 (fun H locs hW => ?_)
  refine lv_aload_n hx hb dX2_init_28 rfl (lv_at hl 0 rfl) ?_
  refine lv_bipush (v := 48) hx hb dX2_init_29 (by decide) ?_
  refine sp_newa (atype := .int) (ty := .int) S hK hW hA 0 rfl rfl sp_raI lk4 (N' := 48) (a0 := (48, .inl (fun _ => 0))) (sp_haI _) (by decide) (by decide) (by decide) (Nat.le_of_ble_eq_true rfl) (Nat.le_of_ble_eq_true rfl) dX2_init_31 (fun q31 H hW => ?_)
  have hW : sp_wd D A s.heap ([(b, .inr (1, [.ref q7, .ref q15, .ref q23, .null, .null, .int 0, .int 0])), (q7, .inl (q5 0, 48, .inl (fun _ => 0))), (q15, .inl (q5 0, 48, .inl (fun _ => 0))), (q23, .inl (q5 0, 48, .inl (fun _ => 0))), (q31, .inl (q5 0, 48, .inl (fun _ => 0)))]) H _ := hW
  refine sp_putI S hK hW hnm incX2 tyX2_ok nmX2 0 rfl rfl 3 (by decide) lk8 rfl rfl rfl rfl (Nat.le_of_ble_eq_true rfl) (ws' := [(b, .inr (1, [.ref q7, .ref q15, .ref q23, .ref q31, .null, .int 0, .int 0])), (q7, .inl (q5 0, 48, .inl (fun _ => 0))), (q15, .inl (q5 0, 48, .inl (fun _ => 0))), (q23, .inl (q5 0, 48, .inl (fun _ => 0))), (q31, .inl (q5 0, 48, .inl (fun _ => 0)))]) rfl dX2_init_33 (fun H locs hW => ?_)
  refine lv_aload_n hx hb dX2_init_36 rfl (lv_at hl 0 rfl) ?_
  refine lv_bipush (v := 48) hx hb dX2_init_37 (by decide) ?_
  refine sp_newa (atype := .int) (ty := .int) S hK hW hA 0 rfl rfl sp_raI lk4 (N' := 48) (a0 := (48, .inl (fun _ => 0))) (sp_haI _) (by decide) (by decide) (by decide) (Nat.le_of_ble_eq_true rfl) (Nat.le_of_ble_eq_true rfl) dX2_init_39 (fun q39 H hW => ?_)
  have hW : sp_wd D A s.heap ([(b, .inr (1, [.ref q7, .ref q15, .ref q23, .ref q31, .null, .int 0, .int 0])), (q7, .inl (q5 0, 48, .inl (fun _ => 0))), (q15, .inl (q5 0, 48, .inl (fun _ => 0))), (q23, .inl (q5 0, 48, .inl (fun _ => 0))), (q31, .inl (q5 0, 48, .inl (fun _ => 0))), (q39, .inl (q5 0, 48, .inl (fun _ => 0)))]) H _ := hW
  refine sp_putI S hK hW hnm incX2 tyX2_ok nmX2 0 rfl rfl 4 (by decide) lk9 rfl rfl rfl rfl (Nat.le_of_ble_eq_true rfl) (ws' := [(b, .inr (1, [.ref q7, .ref q15, .ref q23, .ref q31, .ref q39, .int 0, .int 0])), (q7, .inl (q5 0, 48, .inl (fun _ => 0))), (q15, .inl (q5 0, 48, .inl (fun _ => 0))), (q23, .inl (q5 0, 48, .inl (fun _ => 0))), (q31, .inl (q5 0, 48, .inl (fun _ => 0))), (q39, .inl (q5 0, 48, .inl (fun _ => 0)))]) rfl dX2_init_41 (fun H locs hW => ?_)
  exact sp_endI (b := b) (cond := (fun b u => u 0 = b)) (post := (fun u => sw_P u q5 (fun _ => 0) (fun _ => 0) (fun _ => 0) (fun _ => 0) (fun _ => 0) 0 0)) S hr hlk hW (fun k => match k with | 0 => b | 1 => q7 | 2 => q15 | 3 => q23 | 4 => q31 | 5 => q39 | _ => 0) rfl rfl hQ dX2_init_44

def rmX4_init : Room := { frames := 1, cells := 1, slots := 60, locals := 20 }
set_option maxRecDepth 8000 in
theorem c_X4_init {l : Launch} {D : va_G} {q5 : Nat → ClassId} : sp_CI (σ := (Nat → Nat)) l yX4_init wsX4_init rmX4_init D q5 1 60 (.inr (3, [.null, .int 0, .int 0])) (fun b u => u 0 = b) (fun u => sw_S u q5 (fun _ => 0) (-1) 0) := by
  refine sp_ofI (cc := cX4_init) (maxL := 1) (own := RX4) (by decide) rfl rfl rfl (by decide) ?_
  intro b p e s m args below meth c A ls Q hQ S hr hlk hnm hK hG hAO hA hW hl
  have hx := S.1
  have hb := S.2.1
  have incX4 : ∀ w ∈ u_ws RX4 TX4 3, w ∈ wsX4_init := (fun _ h => List.mem_cons_of_mem _ (List.mem_append_right _ h))
  have lk1 := S.2.2.2.2 (Cond.methodLink RX4 3 objectInit) (List.mem_of_getElem? (i := 1) rfl)
  have lk2 := S.2.2.2.2 (Cond.instanceMethod objectInit) (List.mem_of_getElem? (i := 2) rfl)
  have lk3 := S.2.2.2.2 (Cond.code objectInit ⟨#[0xb1]⟩ 1 none) (List.mem_of_getElem? (i := 3) rfl)
  have lk4 := S.2.2.2.2 (Cond.arrayClass .int) (List.mem_of_getElem? (i := 4) rfl)
  have lk5 := S.2.2.2.2 (Cond.fieldLink RX4 9 "ShortProofs$Sheet" "cells" "[I") (List.mem_of_getElem? (i := 5) rfl)
  have lk6 := S.2.2.2.2 (Cond.fieldLink RX4 15 "ShortProofs$Sheet" "lane" "I") (List.mem_of_getElem? (i := 6) rfl)
  refine lv_aload_n hx hb dX4_init_0 rfl (lv_at hl 0 rfl) ?_
  refine sp_obj S hl.1 lk1 lk2 lk3 (Nat.le_of_ble_eq_true rfl) (Nat.le_of_ble_eq_true rfl) dX4_init_1 ?_
  refine lv_aload_n hx hb dX4_init_4 rfl (lv_at hl 0 rfl) ?_
  refine lv_bipush (v := 60) hx hb dX4_init_5 (by decide) ?_
  refine sp_newa (atype := .int) (ty := .int) S hK hW hA 0 rfl rfl sp_raI lk4 (N' := 60) (a0 := (60, .inl (fun _ => 0))) (sp_haI _) (by decide) (by decide) (by decide) (Nat.le_of_ble_eq_true rfl) (Nat.le_of_ble_eq_true rfl) dX4_init_7 (fun q7 H hW => ?_)
  have hW : sp_wd D A s.heap ([(b, .inr (3, [.null, .int 0, .int 0])), (q7, .inl (q5 0, 60, .inl (fun _ => 0)))]) H _ := hW
  refine sp_putI S hK hW hnm incX4 tyX4_ok nmX4 0 rfl rfl 0 (by decide) lk5 rfl rfl rfl rfl (Nat.le_of_ble_eq_true rfl) (ws' := [(b, .inr (3, [.ref q7, .int 0, .int 0])), (q7, .inl (q5 0, 60, .inl (fun _ => 0)))]) rfl dX4_init_9 (fun H locs hW => ?_)
  refine lv_aload_n hx hb dX4_init_12 rfl (lv_at hl 0 rfl) ?_
  refine lv_iconst (v := (-1)) hx hb dX4_init_13 (by decide) ?_
  refine sp_put S hK hW incX4 tyX4_ok nmX4 0 rfl rfl 1 (by decide) lk6 rfl rfl rfl (Nat.le_of_ble_eq_true rfl) (ws' := [(b, .inr (3, [.ref q7, .int (-1), .int 0])), (q7, .inl (q5 0, 60, .inl (fun _ => 0)))]) rfl dX4_init_14 (fun H locs hW => ?_)
  exact sp_endI (b := b) (cond := (fun b u => u 0 = b)) (post := (fun u => sw_S u q5 (fun _ => 0) (-1) 0)) S hr hlk hW (fun k => match k with | 0 => b | 1 => q7 | _ => 0) rfl rfl hQ dX4_init_17

def rmX6_init : Room := { frames := 1, cells := 2, slots := 96, locals := 20 }
set_option maxRecDepth 8000 in
theorem c_X6_init {l : Launch} {D : va_G} {q5 : Nat → ClassId} : sp_CI (σ := (Nat → Nat)) l yX6_init wsX6_init rmX6_init D q5 2 96 (.inr (5, [.null, .null])) (fun b u => u 0 = b) (fun u => sw_Z u q5 (fun _ => 0) (fun _ => 0)) := by
  refine sp_ofI (cc := cX6_init) (maxL := 1) (own := RX6) (by decide) rfl rfl rfl (by decide) ?_
  intro b p e s m args below meth c A ls Q hQ S hr hlk hnm hK hG hAO hA hW hl
  have hx := S.1
  have hb := S.2.1
  have incX6 : ∀ w ∈ u_ws RX6 TX6 2, w ∈ wsX6_init := (fun _ h => List.mem_cons_of_mem _ (List.mem_append_right _ h))
  have lk1 := S.2.2.2.2 (Cond.methodLink RX6 3 objectInit) (List.mem_of_getElem? (i := 1) rfl)
  have lk2 := S.2.2.2.2 (Cond.instanceMethod objectInit) (List.mem_of_getElem? (i := 2) rfl)
  have lk3 := S.2.2.2.2 (Cond.code objectInit ⟨#[0xb1]⟩ 1 none) (List.mem_of_getElem? (i := 3) rfl)
  have lk4 := S.2.2.2.2 (Cond.arrayClass .int) (List.mem_of_getElem? (i := 4) rfl)
  have lk5 := S.2.2.2.2 (Cond.fieldLink RX6 9 "ShortProofs$Sizes" "deep" "[I") (List.mem_of_getElem? (i := 5) rfl)
  have lk6 := S.2.2.2.2 (Cond.fieldLink RX6 15 "ShortProofs$Sizes" "lastUse" "[I") (List.mem_of_getElem? (i := 6) rfl)
  refine lv_aload_n hx hb dX6_init_0 rfl (lv_at hl 0 rfl) ?_
  refine sp_obj S hl.1 lk1 lk2 lk3 (Nat.le_of_ble_eq_true rfl) (Nat.le_of_ble_eq_true rfl) dX6_init_1 ?_
  refine lv_aload_n hx hb dX6_init_4 rfl (lv_at hl 0 rfl) ?_
  refine lv_bipush (v := 48) hx hb dX6_init_5 (by decide) ?_
  refine sp_newa (atype := .int) (ty := .int) S hK hW hA 0 rfl rfl sp_raI lk4 (N' := 48) (a0 := (48, .inl (fun _ => 0))) (sp_haI _) (by decide) (by decide) (by decide) (Nat.le_of_ble_eq_true rfl) (Nat.le_of_ble_eq_true rfl) dX6_init_7 (fun q7 H hW => ?_)
  have hW : sp_wd D A s.heap ([(b, .inr (5, [.null, .null])), (q7, .inl (q5 0, 48, .inl (fun _ => 0)))]) H _ := hW
  refine sp_putI S hK hW hnm incX6 tyX6_ok nmX6 0 rfl rfl 0 (by decide) lk5 rfl rfl rfl rfl (Nat.le_of_ble_eq_true rfl) (ws' := [(b, .inr (5, [.ref q7, .null])), (q7, .inl (q5 0, 48, .inl (fun _ => 0)))]) rfl dX6_init_9 (fun H locs hW => ?_)
  refine lv_aload_n hx hb dX6_init_12 rfl (lv_at hl 0 rfl) ?_
  refine lv_bipush (v := 48) hx hb dX6_init_13 (by decide) ?_
  refine sp_newa (atype := .int) (ty := .int) S hK hW hA 0 rfl rfl sp_raI lk4 (N' := 48) (a0 := (48, .inl (fun _ => 0))) (sp_haI _) (by decide) (by decide) (by decide) (Nat.le_of_ble_eq_true rfl) (Nat.le_of_ble_eq_true rfl) dX6_init_15 (fun q15 H hW => ?_)
  have hW : sp_wd D A s.heap ([(b, .inr (5, [.ref q7, .null])), (q7, .inl (q5 0, 48, .inl (fun _ => 0))), (q15, .inl (q5 0, 48, .inl (fun _ => 0)))]) H _ := hW
  refine sp_putI S hK hW hnm incX6 tyX6_ok nmX6 0 rfl rfl 1 (by decide) lk6 rfl rfl rfl rfl (Nat.le_of_ble_eq_true rfl) (ws' := [(b, .inr (5, [.ref q7, .ref q15])), (q7, .inl (q5 0, 48, .inl (fun _ => 0))), (q15, .inl (q5 0, 48, .inl (fun _ => 0)))]) rfl dX6_init_17 (fun H locs hW => ?_)
  exact sp_endI (b := b) (cond := (fun b u => u 0 = b)) (post := (fun u => sw_Z u q5 (fun _ => 0) (fun _ => 0))) S hr hlk hW (fun k => match k with | 0 => b | 1 => q7 | 2 => q15 | _ => 0) rfl rfl hQ dX6_init_20

def rmX1_init : Room := { frames := 1, cells := 5, slots := 4144, locals := 20 }
set_option maxRecDepth 8000 in
theorem c_X1_init {l : Launch} {D : va_G} {q5 : Nat → ClassId} : sp_CI (σ := (Nat → Nat)) l yX1_init wsX1_init rmX1_init D q5 5 4144 (.inr (0, [.null, .int 0, .int 0, .null, .null, .null, .null])) (fun b u => u 0 = b) (fun u => sw_O u q5 (fun _ => 0) 0 0 (fun _ => 0) (fun _ => 0) (fun _ => 0) (fun _ => 0)) := by
  refine sp_ofI (cc := cX1_init) (maxL := 1) (own := RX1) (by decide) rfl rfl rfl (by decide) ?_
  intro b p e s m args below meth c A ls Q hQ S hr hlk hnm hK hG hAO hA hW hl
  have hx := S.1
  have hb := S.2.1
  have incX1 : ∀ w ∈ u_ws RX1 TX1 7, w ∈ wsX1_init := (fun _ h => List.mem_cons_of_mem _ (List.mem_append_right _ h))
  have lk1 := S.2.2.2.2 (Cond.methodLink RX1 3 objectInit) (List.mem_of_getElem? (i := 1) rfl)
  have lk2 := S.2.2.2.2 (Cond.instanceMethod objectInit) (List.mem_of_getElem? (i := 2) rfl)
  have lk3 := S.2.2.2.2 (Cond.code objectInit ⟨#[0xb1]⟩ 1 none) (List.mem_of_getElem? (i := 3) rfl)
  have lk4 := S.2.2.2.2 (Cond.arrayClass .int) (List.mem_of_getElem? (i := 4) rfl)
  have lk5 := S.2.2.2.2 (Cond.fieldLink RX1 9 "ShortProofs$Order" "row" "[I") (List.mem_of_getElem? (i := 5) rfl)
  have lk6 := S.2.2.2.2 (Cond.fieldLink RX1 15 "ShortProofs$Order" "lines" "[I") (List.mem_of_getElem? (i := 6) rfl)
  have lk7 := S.2.2.2.2 (Cond.fieldLink RX1 18 "ShortProofs$Order" "needs" "[I") (List.mem_of_getElem? (i := 7) rfl)
  have lk8 := S.2.2.2.2 (Cond.fieldLink RX1 21 "ShortProofs$Order" "uses" "[I") (List.mem_of_getElem? (i := 8) rfl)
  have lk9 := S.2.2.2.2 (Cond.arrayClass .byte) (List.mem_of_getElem? (i := 9) rfl)
  have lk10 := S.2.2.2.2 (Cond.fieldLink RX1 24 "ShortProofs$Order" "ahead" "[B") (List.mem_of_getElem? (i := 10) rfl)
  refine lv_aload_n hx hb dX1_init_0 rfl (lv_at hl 0 rfl) ?_
  refine sp_obj S hl.1 lk1 lk2 lk3 (Nat.le_of_ble_eq_true rfl) (Nat.le_of_ble_eq_true rfl) dX1_init_1 ?_
  refine lv_aload_n hx hb dX1_init_4 rfl (lv_at hl 0 rfl) ?_
  refine lv_bipush (v := 12) hx hb dX1_init_5 (by decide) ?_
  refine sp_newa (atype := .int) (ty := .int) S hK hW hA 0 rfl rfl sp_raI lk4 (N' := 12) (a0 := (12, .inl (fun _ => 0))) (sp_haI _) (by decide) (by decide) (by decide) (Nat.le_of_ble_eq_true rfl) (Nat.le_of_ble_eq_true rfl) dX1_init_7 (fun q7 H hW => ?_)
  have hW : sp_wd D A s.heap ([(b, .inr (0, [.null, .int 0, .int 0, .null, .null, .null, .null])), (q7, .inl (q5 0, 12, .inl (fun _ => 0)))]) H _ := hW
  refine sp_putI S hK hW hnm incX1 tyX1_ok nmX1 0 rfl rfl 0 (by decide) lk5 rfl rfl rfl rfl (Nat.le_of_ble_eq_true rfl) (ws' := [(b, .inr (0, [.ref q7, .int 0, .int 0, .null, .null, .null, .null])), (q7, .inl (q5 0, 12, .inl (fun _ => 0)))]) rfl dX1_init_9 (fun H locs hW => ?_)
  refine lv_aload_n hx hb dX1_init_12 rfl (lv_at hl 0 rfl) ?_
  refine lv_bipush (v := 12) hx hb dX1_init_13 (by decide) ?_
  refine sp_newa (atype := .int) (ty := .int) S hK hW hA 0 rfl rfl sp_raI lk4 (N' := 12) (a0 := (12, .inl (fun _ => 0))) (sp_haI _) (by decide) (by decide) (by decide) (Nat.le_of_ble_eq_true rfl) (Nat.le_of_ble_eq_true rfl) dX1_init_15 (fun q15 H hW => ?_)
  have hW : sp_wd D A s.heap ([(b, .inr (0, [.ref q7, .int 0, .int 0, .null, .null, .null, .null])), (q7, .inl (q5 0, 12, .inl (fun _ => 0))), (q15, .inl (q5 0, 12, .inl (fun _ => 0)))]) H _ := hW
  refine sp_putI S hK hW hnm incX1 tyX1_ok nmX1 0 rfl rfl 3 (by decide) lk6 rfl rfl rfl rfl (Nat.le_of_ble_eq_true rfl) (ws' := [(b, .inr (0, [.ref q7, .int 0, .int 0, .ref q15, .null, .null, .null])), (q7, .inl (q5 0, 12, .inl (fun _ => 0))), (q15, .inl (q5 0, 12, .inl (fun _ => 0)))]) rfl dX1_init_17 (fun H locs hW => ?_)
  refine lv_aload_n hx hb dX1_init_20 rfl (lv_at hl 0 rfl) ?_
  refine lv_bipush (v := 12) hx hb dX1_init_21 (by decide) ?_
  refine sp_newa (atype := .int) (ty := .int) S hK hW hA 0 rfl rfl sp_raI lk4 (N' := 12) (a0 := (12, .inl (fun _ => 0))) (sp_haI _) (by decide) (by decide) (by decide) (Nat.le_of_ble_eq_true rfl) (Nat.le_of_ble_eq_true rfl) dX1_init_23 (fun q23 H hW => ?_)
  have hW : sp_wd D A s.heap ([(b, .inr (0, [.ref q7, .int 0, .int 0, .ref q15, .null, .null, .null])), (q7, .inl (q5 0, 12, .inl (fun _ => 0))), (q15, .inl (q5 0, 12, .inl (fun _ => 0))), (q23, .inl (q5 0, 12, .inl (fun _ => 0)))]) H _ := hW
  refine sp_putI S hK hW hnm incX1 tyX1_ok nmX1 0 rfl rfl 4 (by decide) lk7 rfl rfl rfl rfl (Nat.le_of_ble_eq_true rfl) (ws' := [(b, .inr (0, [.ref q7, .int 0, .int 0, .ref q15, .ref q23, .null, .null])), (q7, .inl (q5 0, 12, .inl (fun _ => 0))), (q15, .inl (q5 0, 12, .inl (fun _ => 0))), (q23, .inl (q5 0, 12, .inl (fun _ => 0)))]) rfl dX1_init_25 (fun H locs hW => ?_)
  refine lv_aload_n hx hb dX1_init_28 rfl (lv_at hl 0 rfl) ?_
  refine lv_bipush (v := 12) hx hb dX1_init_29 (by decide) ?_
  refine sp_newa (atype := .int) (ty := .int) S hK hW hA 0 rfl rfl sp_raI lk4 (N' := 12) (a0 := (12, .inl (fun _ => 0))) (sp_haI _) (by decide) (by decide) (by decide) (Nat.le_of_ble_eq_true rfl) (Nat.le_of_ble_eq_true rfl) dX1_init_31 (fun q31 H hW => ?_)
  have hW : sp_wd D A s.heap ([(b, .inr (0, [.ref q7, .int 0, .int 0, .ref q15, .ref q23, .null, .null])), (q7, .inl (q5 0, 12, .inl (fun _ => 0))), (q15, .inl (q5 0, 12, .inl (fun _ => 0))), (q23, .inl (q5 0, 12, .inl (fun _ => 0))), (q31, .inl (q5 0, 12, .inl (fun _ => 0)))]) H _ := hW
  refine sp_putI S hK hW hnm incX1 tyX1_ok nmX1 0 rfl rfl 5 (by decide) lk8 rfl rfl rfl rfl (Nat.le_of_ble_eq_true rfl) (ws' := [(b, .inr (0, [.ref q7, .int 0, .int 0, .ref q15, .ref q23, .ref q31, .null])), (q7, .inl (q5 0, 12, .inl (fun _ => 0))), (q15, .inl (q5 0, 12, .inl (fun _ => 0))), (q23, .inl (q5 0, 12, .inl (fun _ => 0))), (q31, .inl (q5 0, 12, .inl (fun _ => 0)))]) rfl dX1_init_33 (fun H locs hW => ?_)
  refine lv_aload_n hx hb dX1_init_36 rfl (lv_at hl 0 rfl) ?_
  refine lv_sipush (v := 4096) hx hb dX1_init_37 (by decide) ?_
  refine sp_newa (atype := .byte) (ty := .byte) S hK hW hA 2 rfl rfl sp_raB lk9 (N' := 4096) (a0 := (4096, .inl (fun _ => 0))) (sp_haB _) (by decide) (by decide) (by decide) (Nat.le_of_ble_eq_true rfl) (Nat.le_of_ble_eq_true rfl) dX1_init_40 (fun q40 H hW => ?_)
  have hW : sp_wd D A s.heap ([(b, .inr (0, [.ref q7, .int 0, .int 0, .ref q15, .ref q23, .ref q31, .null])), (q7, .inl (q5 0, 12, .inl (fun _ => 0))), (q15, .inl (q5 0, 12, .inl (fun _ => 0))), (q23, .inl (q5 0, 12, .inl (fun _ => 0))), (q31, .inl (q5 0, 12, .inl (fun _ => 0))), (q40, .inl (q5 2, 4096, .inl (fun _ => 0)))]) H _ := hW
  refine sp_putI S hK hW hnm incX1 tyX1_ok nmX1 0 rfl rfl 6 (by decide) lk10 rfl rfl rfl rfl (Nat.le_of_ble_eq_true rfl) (ws' := [(b, .inr (0, [.ref q7, .int 0, .int 0, .ref q15, .ref q23, .ref q31, .ref q40])), (q7, .inl (q5 0, 12, .inl (fun _ => 0))), (q15, .inl (q5 0, 12, .inl (fun _ => 0))), (q23, .inl (q5 0, 12, .inl (fun _ => 0))), (q31, .inl (q5 0, 12, .inl (fun _ => 0))), (q40, .inl (q5 2, 4096, .inl (fun _ => 0)))]) rfl dX1_init_42 (fun H locs hW => ?_)
  exact sp_endI (b := b) (cond := (fun b u => u 0 = b)) (post := (fun u => sw_O u q5 (fun _ => 0) 0 0 (fun _ => 0) (fun _ => 0) (fun _ => 0) (fun _ => 0))) S hr hlk hW (fun k => match k with | 0 => b | 1 => q7 | 2 => q15 | 3 => q23 | 4 => q31 | 5 => q40 | _ => 0) rfl rfl hQ dX1_init_45

def rmX8_init : Room := { frames := 1, cells := 2, slots := 1072, locals := 20 }
set_option maxRecDepth 8000 in
theorem c_X8_init {l : Launch} {D : va_G} {q5 : Nat → ClassId} : sp_CI (σ := (Nat → Nat)) l yX8_init wsX8_init rmX8_init D q5 2 1072 (.inr (6, [.null, .null])) (fun b u => u 0 = b) (fun u => sw_U u q5 (fun _ => 0) (fun _ => 0)) := by
  refine sp_ofI (cc := cX8_init) (maxL := 1) (own := RX8) (by decide) rfl rfl rfl (by decide) ?_
  intro b p e s m args below meth c A ls Q hQ S hr hlk hnm hK hG hAO hA hW hl
  have hx := S.1
  have hb := S.2.1
  have incX8 : ∀ w ∈ u_ws RX8 TX8 2, w ∈ wsX8_init := (fun _ h => List.mem_cons_of_mem _ (List.mem_append_right _ h))
  have lk1 := S.2.2.2.2 (Cond.methodLink RX8 3 objectInit) (List.mem_of_getElem? (i := 1) rfl)
  have lk2 := S.2.2.2.2 (Cond.instanceMethod objectInit) (List.mem_of_getElem? (i := 2) rfl)
  have lk3 := S.2.2.2.2 (Cond.code objectInit ⟨#[0xb1]⟩ 1 none) (List.mem_of_getElem? (i := 3) rfl)
  have lk4 := S.2.2.2.2 (Cond.arrayClass .long) (List.mem_of_getElem? (i := 4) rfl)
  have lk5 := S.2.2.2.2 (Cond.fieldLink RX8 9 "ShortProofs$Truths" "together" "[J") (List.mem_of_getElem? (i := 5) rfl)
  have lk6 := S.2.2.2.2 (Cond.fieldLink RX8 15 "ShortProofs$Truths" "between" "[J") (List.mem_of_getElem? (i := 6) rfl)
  refine lv_aload_n hx hb dX8_init_0 rfl (lv_at hl 0 rfl) ?_
  refine sp_obj S hl.1 lk1 lk2 lk3 (Nat.le_of_ble_eq_true rfl) (Nat.le_of_ble_eq_true rfl) dX8_init_1 ?_
  refine lv_aload_n hx hb dX8_init_4 rfl (lv_at hl 0 rfl) ?_
  refine lv_sipush (v := 1024) hx hb dX8_init_5 (by decide) ?_
  refine sp_newa (atype := .long) (ty := .long) S hK hW hA 1 rfl rfl sp_raL lk4 (N' := 1024) (a0 := (1024, .inr (.inl (fun _ => 0)))) (sp_haL _) (by decide) (by decide) (by decide) (Nat.le_of_ble_eq_true rfl) (Nat.le_of_ble_eq_true rfl) dX8_init_8 (fun q8 H hW => ?_)
  have hW : sp_wd D A s.heap ([(b, .inr (6, [.null, .null])), (q8, .inl (q5 1, 1024, .inr (.inl (fun _ => 0))))]) H _ := hW
  refine sp_putI S hK hW hnm incX8 tyX8_ok nmX8 0 rfl rfl 0 (by decide) lk5 rfl rfl rfl rfl (Nat.le_of_ble_eq_true rfl) (ws' := [(b, .inr (6, [.ref q8, .null])), (q8, .inl (q5 1, 1024, .inr (.inl (fun _ => 0))))]) rfl dX8_init_10 (fun H locs hW => ?_)
  refine lv_aload_n hx hb dX8_init_13 rfl (lv_at hl 0 rfl) ?_
  refine lv_bipush (v := 48) hx hb dX8_init_14 (by decide) ?_
  refine sp_newa (atype := .long) (ty := .long) S hK hW hA 1 rfl rfl sp_raL lk4 (N' := 48) (a0 := (48, .inr (.inl (fun _ => 0)))) (sp_haL _) (by decide) (by decide) (by decide) (Nat.le_of_ble_eq_true rfl) (Nat.le_of_ble_eq_true rfl) dX8_init_16 (fun q16 H hW => ?_)
  have hW : sp_wd D A s.heap ([(b, .inr (6, [.ref q8, .null])), (q8, .inl (q5 1, 1024, .inr (.inl (fun _ => 0)))), (q16, .inl (q5 1, 48, .inr (.inl (fun _ => 0))))]) H _ := hW
  refine sp_putI S hK hW hnm incX8 tyX8_ok nmX8 0 rfl rfl 1 (by decide) lk6 rfl rfl rfl rfl (Nat.le_of_ble_eq_true rfl) (ws' := [(b, .inr (6, [.ref q8, .ref q16])), (q8, .inl (q5 1, 1024, .inr (.inl (fun _ => 0)))), (q16, .inl (q5 1, 48, .inr (.inl (fun _ => 0))))]) rfl dX8_init_18 (fun H locs hW => ?_)
  exact sp_endI (b := b) (cond := (fun b u => u 0 = b)) (post := (fun u => sw_U u q5 (fun _ => 0) (fun _ => 0))) S hr hlk hW (fun k => match k with | 0 => b | 1 => q8 | 2 => q16 | _ => 0) rfl rfl hQ dX8_init_21

def rmX3_init : Room := { frames := 2, cells := 7, slots := 307, locals := 40 }
set_option maxRecDepth 8000 in
theorem c_X3_init {l : Launch} {D : va_G} {q5 : Nat → ClassId} : sp_CI (σ := ((Nat → Nat) × (Nat → Nat))) l yX3_init wsX3_init rmX3_init D q5 7 307 (.inr (2, [.null, .null, .int 0, .int 0])) (fun b u => u.1 0 = b) (fun u => sw_R u.1 (u.2 0) q5 (fun _ => 0) 0 0 ++ sw_P u.2 q5 (fun _ => 0) (fun _ => 0) (fun _ => 0) (fun _ => 0) (fun _ => 0) 0 0) := by
  refine sp_ofI (cc := cX3_init) (maxL := 1) (own := RX3) (by decide) rfl rfl rfl (by decide) ?_
  intro b p e s m args below meth c A ls Q hQ S hr hlk hnm hK hG hAO hA hW hl
  have hx := S.1
  have hb := S.2.1
  have incX3 : ∀ w ∈ u_ws RX3 TX3 4, w ∈ wsX3_init := (fun _ h => List.mem_cons_of_mem _ (List.mem_append_left _ (List.mem_append_right _ h)))
  have incX2 : ∀ w ∈ u_ws RX2 TX2 7, w ∈ wsX3_init := (fun _ h => List.mem_cons_of_mem _ (List.mem_append_right _ h))
  have lk1 := S.2.2.2.2 (Cond.methodLink RX3 3 objectInit) (List.mem_of_getElem? (i := 1) rfl)
  have lk2 := S.2.2.2.2 (Cond.instanceMethod objectInit) (List.mem_of_getElem? (i := 2) rfl)
  have lk3 := S.2.2.2.2 (Cond.code objectInit ⟨#[0xb1]⟩ 1 none) (List.mem_of_getElem? (i := 3) rfl)
  have lk4 := S.2.2.2.2 (Cond.arrayClass .int) (List.mem_of_getElem? (i := 4) rfl)
  have lk5 := S.2.2.2.2 (Cond.fieldLink RX3 9 "ShortProofs$Reader" "codes" "[I") (List.mem_of_getElem? (i := 5) rfl)
  have lk6 := S.2.2.2.2 (Cond.classLink RX3 15 RX2) (List.mem_of_getElem? (i := 6) rfl)
  have lk7 := S.2.2.2.2 (Cond.instantiable RX2 7) (List.mem_of_getElem? (i := 7) rfl)
  have lk8 := S.2.2.2.2 (Cond.initialized RX2) (List.mem_of_getElem? (i := 8) rfl)
  have lk9 := S.2.2.2.2 (Cond.instanceMethod yX2_init) (List.mem_of_getElem? (i := 10) rfl)
  have lk10 := S.2.2.2.2 (Cond.fieldLink RX3 18 "ShortProofs$Reader" "proof" "LShortProofs$Proof;") (List.mem_of_getElem? (i := 9) rfl)
  refine lv_aload_n hx hb dX3_init_0 rfl (lv_at hl 0 rfl) ?_
  refine sp_obj S hl.1 lk1 lk2 lk3 (Nat.le_of_ble_eq_true rfl) (Nat.le_of_ble_eq_true rfl) dX3_init_1 ?_
  refine lv_aload_n hx hb dX3_init_4 rfl (lv_at hl 0 rfl) ?_
  refine lv_bipush (v := 60) hx hb dX3_init_5 (by decide) ?_
  refine sp_newa (atype := .int) (ty := .int) S hK hW hA 0 rfl rfl sp_raI lk4 (N' := 60) (a0 := (60, .inl (fun _ => 0))) (sp_haI _) (by decide) (by decide) (by decide) (Nat.le_of_ble_eq_true rfl) (Nat.le_of_ble_eq_true rfl) dX3_init_7 (fun q7 H hW => ?_)
  have hW : sp_wd D A s.heap ([(b, .inr (2, [.null, .null, .int 0, .int 0])), (q7, .inl (q5 0, 60, .inl (fun _ => 0)))]) H _ := hW
  refine sp_putI S hK hW hnm incX3 tyX3_ok nmX3 0 rfl rfl 0 (by decide) lk5 rfl rfl rfl rfl (Nat.le_of_ble_eq_true rfl) (ws' := [(b, .inr (2, [.ref q7, .null, .int 0, .int 0])), (q7, .inl (q5 0, 60, .inl (fun _ => 0)))]) rfl dX3_init_9 (fun H locs hW => ?_)
  refine lv_aload_n hx hb dX3_init_12 rfl (lv_at hl 0 rfl) ?_
  refine sp_mkN (host := RX9) S hK hG hAO hA hW incX2 tyX2 tyX2_ok lk6 lk7 lk8 (ci := 1) rfl (fs := [.null, .null, .null, .null, .null, .int 0, .int 0]) (fun j hj => by rcases (show j = 0 ∨ j = 1 ∨ j = 2 ∨ j = 3 ∨ j = 4 ∨ j = 5 ∨ j = 6 by omega) with rfl | rfl | rfl | rfl | rfl | rfl | rfl <;> rfl) c_X2_init ⟨va_cnB 0 S.2.2.2.2 gX3_init_X2_init_n17 rfl rfl rfl (hG.1 (by decide) _ (List.mem_of_getElem? (i := 9) rfl)) lk8 (by decide +kernel) (by decide), rfl, lk9⟩ hl.1 (Nat.le_of_ble_eq_true rfl) (Nat.le_of_ble_eq_true rfl) (Nat.le_of_ble_eq_true rfl) dX3_init_13 dX3_init_16 dX3_init_17 (fun b13 v13 H locs hv hW => ?_)
  subst hv
  have hW : sp_wd D A s.heap ([(b, .inr (2, [.ref q7, .null, .int 0, .int 0])), (q7, .inl (q5 0, 60, .inl (fun _ => 0)))] ++ (sw_P v13 q5 (fun _ => 0) (fun _ => 0) (fun _ => 0) (fun _ => 0) (fun _ => 0) 0 0)) H _ := hW
  refine sp_putI S hK hW hnm incX3 tyX3_ok nmX3 0 rfl rfl 1 (by decide) lk10 rfl rfl rfl rfl (Nat.le_of_ble_eq_true rfl) (ws' := [(b, .inr (2, [.ref q7, .ref (v13 0), .int 0, .int 0])), (q7, .inl (q5 0, 60, .inl (fun _ => 0)))] ++ (sw_P v13 q5 (fun _ => 0) (fun _ => 0) (fun _ => 0) (fun _ => 0) (fun _ => 0) 0 0)) rfl dX3_init_20 (fun H locs hW => ?_)
  exact sp_endI (b := b) (cond := (fun b u => u.1 0 = b)) (post := (fun u => sw_R u.1 (u.2 0) q5 (fun _ => 0) 0 0 ++ sw_P u.2 q5 (fun _ => 0) (fun _ => 0) (fun _ => 0) (fun _ => 0) (fun _ => 0) 0 0)) S hr hlk hW ((fun k => match k with | 0 => b | 1 => q7 | _ => 0), v13) rfl rfl hQ dX3_init_23

def rmX5_init : Room := { frames := 2, cells := 9, slots := 391, locals := 40 }
set_option maxRecDepth 8000 in
theorem c_X5_init {l : Launch} {D : va_G} {q5 : Nat → ClassId} : sp_CI (σ := ((Nat → Nat) × (Nat → Nat))) l yX5_init wsX5_init rmX5_init D q5 9 391 (.inr (4, [.null, .null, .null, .null, .long 0])) (fun b u => u.1 0 = b) (fun u => sw_T u.1 (u.2 0) q5 (fun _ => 0) (fun _ => 0) (fun _ => 0) 0 ++ sw_P u.2 q5 (fun _ => 0) (fun _ => 0) (fun _ => 0) (fun _ => 0) (fun _ => 0) 0 0) := by
  refine sp_ofI (cc := cX5_init) (maxL := 1) (own := RX5) (by decide) rfl rfl rfl (by decide) ?_
  intro b p e s m args below meth c A ls Q hQ S hr hlk hnm hK hG hAO hA hW hl
  have hx := S.1
  have hb := S.2.1
  have incX5 : ∀ w ∈ u_ws RX5 TX5 5, w ∈ wsX5_init := (fun _ h => List.mem_cons_of_mem _ (List.mem_append_right _ h))
  have incX2 : ∀ w ∈ u_ws RX2 TX2 7, w ∈ wsX5_init := (fun _ h => List.mem_cons_of_mem _ (List.mem_append_left _ (List.mem_append_right _ h)))
  have lk1 := S.2.2.2.2 (Cond.methodLink RX5 3 objectInit) (List.mem_of_getElem? (i := 1) rfl)
  have lk2 := S.2.2.2.2 (Cond.instanceMethod objectInit) (List.mem_of_getElem? (i := 2) rfl)
  have lk3 := S.2.2.2.2 (Cond.code objectInit ⟨#[0xb1]⟩ 1 none) (List.mem_of_getElem? (i := 3) rfl)
  have lk4 := S.2.2.2.2 (Cond.classLink RX5 9 RX2) (List.mem_of_getElem? (i := 4) rfl)
  have lk5 := S.2.2.2.2 (Cond.instantiable RX2 7) (List.mem_of_getElem? (i := 5) rfl)
  have lk6 := S.2.2.2.2 (Cond.initialized RX2) (List.mem_of_getElem? (i := 6) rfl)
  have lk7 := S.2.2.2.2 (Cond.instanceMethod yX2_init) (List.mem_of_getElem? (i := 12) rfl)
  have lk8 := S.2.2.2.2 (Cond.fieldLink RX5 12 "ShortProofs$Shortener" "draft" "LShortProofs$Proof;") (List.mem_of_getElem? (i := 7) rfl)
  have lk9 := S.2.2.2.2 (Cond.arrayClass .int) (List.mem_of_getElem? (i := 8) rfl)
  have lk10 := S.2.2.2.2 (Cond.fieldLink RX5 18 "ShortProofs$Shortener" "stands" "[I") (List.mem_of_getElem? (i := 9) rfl)
  have lk11 := S.2.2.2.2 (Cond.fieldLink RX5 22 "ShortProofs$Shortener" "safes" "[I") (List.mem_of_getElem? (i := 10) rfl)
  have lk12 := S.2.2.2.2 (Cond.fieldLink RX5 25 "ShortProofs$Shortener" "numbers" "[I") (List.mem_of_getElem? (i := 11) rfl)
  refine lv_aload_n hx hb dX5_init_0 rfl (lv_at hl 0 rfl) ?_
  refine sp_obj S hl.1 lk1 lk2 lk3 (Nat.le_of_ble_eq_true rfl) (Nat.le_of_ble_eq_true rfl) dX5_init_1 ?_
  refine lv_aload_n hx hb dX5_init_4 rfl (lv_at hl 0 rfl) ?_
  refine sp_mkN (host := RX9) S hK hG hAO hA hW incX2 tyX2 tyX2_ok lk4 lk5 lk6 (ci := 1) rfl (fs := [.null, .null, .null, .null, .null, .int 0, .int 0]) (fun j hj => by rcases (show j = 0 ∨ j = 1 ∨ j = 2 ∨ j = 3 ∨ j = 4 ∨ j = 5 ∨ j = 6 by omega) with rfl | rfl | rfl | rfl | rfl | rfl | rfl <;> rfl) c_X2_init ⟨va_cnB 0 S.2.2.2.2 gX5_init_X2_init_n11 rfl rfl rfl (hG.1 (by decide) _ (List.mem_of_getElem? (i := 10) rfl)) lk6 (by decide +kernel) (by decide), rfl, lk7⟩ hl.1 (Nat.le_of_ble_eq_true rfl) (Nat.le_of_ble_eq_true rfl) (Nat.le_of_ble_eq_true rfl) dX5_init_5 dX5_init_8 dX5_init_9 (fun b5 v5 H locs hv hW => ?_)
  subst hv
  have hW : sp_wd D A s.heap ([(b, .inr (4, [.null, .null, .null, .null, .long 0]))] ++ (sw_P v5 q5 (fun _ => 0) (fun _ => 0) (fun _ => 0) (fun _ => 0) (fun _ => 0) 0 0)) H _ := hW
  refine sp_putI S hK hW hnm incX5 tyX5_ok nmX5 0 rfl rfl 0 (by decide) lk8 rfl rfl rfl rfl (Nat.le_of_ble_eq_true rfl) (ws' := [(b, .inr (4, [.ref (v5 0), .null, .null, .null, .long 0]))] ++ (sw_P v5 q5 (fun _ => 0) (fun _ => 0) (fun _ => 0) (fun _ => 0) (fun _ => 0) 0 0)) rfl dX5_init_12 (fun H locs hW => ?_)
  refine lv_aload_n hx hb dX5_init_15 rfl (lv_at hl 0 rfl) ?_
  refine lv_bipush (v := 48) hx hb dX5_init_16 (by decide) ?_
  refine sp_newa (atype := .int) (ty := .int) S hK hW hA 0 rfl rfl sp_raI lk9 (N' := 48) (a0 := (48, .inl (fun _ => 0))) (sp_haI _) (by decide) (by decide) (by decide) (Nat.le_of_ble_eq_true rfl) (Nat.le_of_ble_eq_true rfl) dX5_init_18 (fun q18 H hW => ?_)
  have hW : sp_wd D A s.heap ([(b, .inr (4, [.ref (v5 0), .null, .null, .null, .long 0]))] ++ (sw_P v5 q5 (fun _ => 0) (fun _ => 0) (fun _ => 0) (fun _ => 0) (fun _ => 0) 0 0 ++ ([(q18, .inl (q5 0, 48, .inl (fun _ => 0)))]))) H _ := hW
  refine sp_putI S hK hW hnm incX5 tyX5_ok nmX5 0 rfl rfl 1 (by decide) lk10 rfl rfl rfl rfl (Nat.le_of_ble_eq_true rfl) (ws' := [(b, .inr (4, [.ref (v5 0), .ref q18, .null, .null, .long 0]))] ++ (sw_P v5 q5 (fun _ => 0) (fun _ => 0) (fun _ => 0) (fun _ => 0) (fun _ => 0) 0 0 ++ ([(q18, .inl (q5 0, 48, .inl (fun _ => 0)))]))) rfl dX5_init_20 (fun H locs hW => ?_)
  refine lv_aload_n hx hb dX5_init_23 rfl (lv_at hl 0 rfl) ?_
  refine lv_bipush (v := 48) hx hb dX5_init_24 (by decide) ?_
  refine sp_newa (atype := .int) (ty := .int) S hK hW hA 0 rfl rfl sp_raI lk9 (N' := 48) (a0 := (48, .inl (fun _ => 0))) (sp_haI _) (by decide) (by decide) (by decide) (Nat.le_of_ble_eq_true rfl) (Nat.le_of_ble_eq_true rfl) dX5_init_26 (fun q26 H hW => ?_)
  have hW : sp_wd D A s.heap ([(b, .inr (4, [.ref (v5 0), .ref q18, .null, .null, .long 0]))] ++ (sw_P v5 q5 (fun _ => 0) (fun _ => 0) (fun _ => 0) (fun _ => 0) (fun _ => 0) 0 0 ++ ([(q18, .inl (q5 0, 48, .inl (fun _ => 0))), (q26, .inl (q5 0, 48, .inl (fun _ => 0)))]))) H _ := hW
  refine sp_putI S hK hW hnm incX5 tyX5_ok nmX5 0 rfl rfl 2 (by decide) lk11 rfl rfl rfl rfl (Nat.le_of_ble_eq_true rfl) (ws' := [(b, .inr (4, [.ref (v5 0), .ref q18, .ref q26, .null, .long 0]))] ++ (sw_P v5 q5 (fun _ => 0) (fun _ => 0) (fun _ => 0) (fun _ => 0) (fun _ => 0) 0 0 ++ ([(q18, .inl (q5 0, 48, .inl (fun _ => 0))), (q26, .inl (q5 0, 48, .inl (fun _ => 0)))]))) rfl dX5_init_28 (fun H locs hW => ?_)
  refine lv_aload_n hx hb dX5_init_31 rfl (lv_at hl 0 rfl) ?_
  refine lv_bipush (v := 48) hx hb dX5_init_32 (by decide) ?_
  refine sp_newa (atype := .int) (ty := .int) S hK hW hA 0 rfl rfl sp_raI lk9 (N' := 48) (a0 := (48, .inl (fun _ => 0))) (sp_haI _) (by decide) (by decide) (by decide) (Nat.le_of_ble_eq_true rfl) (Nat.le_of_ble_eq_true rfl) dX5_init_34 (fun q34 H hW => ?_)
  have hW : sp_wd D A s.heap ([(b, .inr (4, [.ref (v5 0), .ref q18, .ref q26, .null, .long 0]))] ++ (sw_P v5 q5 (fun _ => 0) (fun _ => 0) (fun _ => 0) (fun _ => 0) (fun _ => 0) 0 0 ++ ([(q18, .inl (q5 0, 48, .inl (fun _ => 0))), (q26, .inl (q5 0, 48, .inl (fun _ => 0))), (q34, .inl (q5 0, 48, .inl (fun _ => 0)))]))) H _ := hW
  refine sp_putI S hK hW hnm incX5 tyX5_ok nmX5 0 rfl rfl 3 (by decide) lk12 rfl rfl rfl rfl (Nat.le_of_ble_eq_true rfl) (ws' := [(b, .inr (4, [.ref (v5 0), .ref q18, .ref q26, .ref q34, .long 0]))] ++ (sw_P v5 q5 (fun _ => 0) (fun _ => 0) (fun _ => 0) (fun _ => 0) (fun _ => 0) 0 0 ++ ([(q18, .inl (q5 0, 48, .inl (fun _ => 0))), (q26, .inl (q5 0, 48, .inl (fun _ => 0))), (q34, .inl (q5 0, 48, .inl (fun _ => 0)))]))) rfl dX5_init_36 (fun H locs hW => ?_)
  have hW := hW.perm (sp_pq [[(b, .inr (4, [.ref (v5 0), .ref q18, .ref q26, .ref q34, .long 0]))], sw_P v5 q5 (fun _ => 0) (fun _ => 0) (fun _ => 0) (fun _ => 0) (fun _ => 0) 0 0, [(q18, .inl (q5 0, 48, .inl (fun _ => 0)))], [(q26, .inl (q5 0, 48, .inl (fun _ => 0)))], [(q34, .inl (q5 0, 48, .inl (fun _ => 0)))]] [0, 1, 2, 3, 4] [0, 2, 3, 4] [1] (by decide))
  exact sp_endI (b := b) (cond := (fun b u => u.1 0 = b)) (post := (fun u => sw_T u.1 (u.2 0) q5 (fun _ => 0) (fun _ => 0) (fun _ => 0) 0 ++ sw_P u.2 q5 (fun _ => 0) (fun _ => 0) (fun _ => 0) (fun _ => 0) (fun _ => 0) 0 0)) S hr hlk hW ((fun k => match k with | 0 => b | 1 => q18 | 2 => q26 | 3 => q34 | _ => 0), v5) rfl rfl hQ dX5_init_39
