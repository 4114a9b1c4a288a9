def f_X10_closeUp_L93 (p1 : Int32) (k22 : Int32 → (Nat → Int32) → (Nat → Int32) → (Nat → Int32) → (Nat → Int32) → (Nat → Int32) → Option (Int32 × (Nat → Int32) × (Nat → Int32) × (Nat → Int32) × (Nat → Int32) × (Nat → Int32))) (rec93 : (Int32 × Int32 × (Nat → Int32) × (Nat → Int32) × (Nat → Int32) × (Nat → Int32) × (Nat → Int32)) → Option (Int32 × (Nat → Int32) × (Nat → Int32) × (Nat → Int32) × (Nat → Int32) × (Nat → Int32))) (s9 : Int32 × Int32 × (Nat → Int32) × (Nat → Int32) × (Nat → Int32) × (Nat → Int32) × (Nat → Int32)) : Option (Int32 × (Nat → Int32) × (Nat → Int32) × (Nat → Int32) × (Nat → Int32) × (Nat → Int32)) := match s9 with
  | (y9, y10, c11, c12, c13, c14, c15) => if p1 < y10 then (k22 y9 c11 c12 c13 c14 c15) else (sp_ld c15 64 y10 (fun v23 => sp_bnd (fun (x24 : Int32) (c25 : Nat → Int32) (c26 : Nat → Int32) (c27 : Nat → Int32) (c28 : Nat → Int32) (c29 : Nat → Int32) => sp_bnd (y10 + (1 : Int32)) (fun v31 => rec93 (x24, v31, c25, c26, c27, c28, c29))) (fun k30 => if v23 = 0 then (k30 y9 c11 c12 c13 c14 c15) else (sp_ld c11 64 y10 (fun v32 => sp_st c11 64 y9 v32 (fun c33 => sp_ld c14 64 y10 (fun v34 => sp_st c14 64 y9 v34 (fun c35 => sp_ld c35 64 y10 (fun v36 => sp_bnd (fun (x37 : Int32) => sp_st c12 64 y9 x37 (fun c39 => sp_ld c35 64 y10 (fun v40 => sp_bnd (fun (x41 : Int32) => sp_st c13 64 y9 x41 (fun c43 => sp_st c15 64 y10 (y9 + (2 : Int32)) (fun c44 => sp_bnd (y9 + (1 : Int32)) (fun v45 => k30 v45 c33 c39 c43 c35 c44)))) (fun k42 => if v40 = (-9 : Int32) then (k42 (-9 : Int32)) else (sp_ld c13 64 y10 (fun v46 => sp_ld c15 64 v46 (fun v47 => k42 (v47 - (2 : Int32))))))))) (fun k38 => if v36 = (-9 : Int32) then (k38 (-9 : Int32)) else (sp_ld c12 64 y10 (fun v48 => sp_ld c15 64 v48 (fun v49 => k38 (v49 - (2 : Int32)))))))))))))))
theorem f_X10_closeUp_L93_eq {rec93 : (Int32 × Int32 × (Nat → Int32) × (Nat → Int32) × (Nat → Int32) × (Nat → Int32) × (Nat → Int32)) → Option (Int32 × (Nat → Int32) × (Nat → Int32) × (Nat → Int32) × (Nat → Int32) × (Nat → Int32))} {p1 : Int32} {k22 : Int32 → (Nat → Int32) → (Nat → Int32) → (Nat → Int32) → (Nat → Int32) → (Nat → Int32) → Option (Int32 × (Nat → Int32) × (Nat → Int32) × (Nat → Int32) × (Nat → Int32) × (Nat → Int32))} {y9 : Int32} {y10 : Int32} {c11 : Nat → Int32} {c12 : Nat → Int32} {c13 : Nat → Int32} {c14 : Nat → Int32} {c15 : Nat → Int32} : f_X10_closeUp_L93 p1 k22 rec93 (y9, y10, c11, c12, c13, c14, c15) = (if p1 < y10 then (k22 y9 c11 c12 c13 c14 c15) else (sp_ld c15 64 y10 (fun v23 => sp_bnd (fun (x24 : Int32) (c25 : Nat → Int32) (c26 : Nat → Int32) (c27 : Nat → Int32) (c28 : Nat → Int32) (c29 : Nat → Int32) => sp_bnd (y10 + (1 : Int32)) (fun v31 => rec93 (x24, v31, c25, c26, c27, c28, c29))) (fun k30 => if v23 = 0 then (k30 y9 c11 c12 c13 c14 c15) else (sp_ld c11 64 y10 (fun v32 => sp_st c11 64 y9 v32 (fun c33 => sp_ld c14 64 y10 (fun v34 => sp_st c14 64 y9 v34 (fun c35 => sp_ld c35 64 y10 (fun v36 => sp_bnd (fun (x37 : Int32) => sp_st c12 64 y9 x37 (fun c39 => sp_ld c35 64 y10 (fun v40 => sp_bnd (fun (x41 : Int32) => sp_st c13 64 y9 x41 (fun c43 => sp_st c15 64 y10 (y9 + (2 : Int32)) (fun c44 => sp_bnd (y9 + (1 : Int32)) (fun v45 => k30 v45 c33 c39 c43 c35 c44)))) (fun k42 => if v40 = (-9 : Int32) then (k42 (-9 : Int32)) else (sp_ld c13 64 y10 (fun v46 => sp_ld c15 64 v46 (fun v47 => k42 (v47 - (2 : Int32))))))))) (fun k38 => if v36 = (-9 : Int32) then (k38 (-9 : Int32)) else (sp_ld c12 64 y10 (fun v48 => sp_ld c15 64 v48 (fun v49 => k38 (v49 - (2 : Int32)))))))))))))))) := rfl
def f_X10_closeUp_L34 (k8 : (Nat → Int32) → Option (Int32 × (Nat → Int32) × (Nat → Int32) × (Nat → Int32) × (Nat → Int32) × (Nat → Int32))) (nt : Nat → Int32) (nl : Nat → Int32) (nr : Nat → Int32) (rec34 : (Int32 × (Nat → Int32)) → Option (Int32 × (Nat → Int32) × (Nat → Int32) × (Nat → Int32) × (Nat → Int32) × (Nat → Int32))) (s9 : Int32 × (Nat → Int32)) : Option (Int32 × (Nat → Int32) × (Nat → Int32) × (Nat → Int32) × (Nat → Int32) × (Nat → Int32)) := match s9 with
  | (y5, c6) => if y5 < 0 then (k8 c6) else (sp_ld c6 64 y5 (fun v50 => sp_bnd (fun (c51 : Nat → Int32) => sp_bnd (y5 + (-1 : Int32)) (fun v53 => rec34 (v53, c51))) (fun k52 => if v50 = (1 : Int32) then (sp_ld nt 64 y5 (fun v54 => if v54 = (-9 : Int32) then (k52 c6) else (sp_ld nl 64 y5 (fun v55 => sp_st c6 64 v55 (1 : Int32) (fun c56 => sp_ld nr 64 y5 (fun v57 => sp_st c56 64 v57 (1 : Int32) (fun c58 => k52 c58))))))) else (k52 c6))))
theorem f_X10_closeUp_L34_eq {rec34 : (Int32 × (Nat → Int32)) → Option (Int32 × (Nat → Int32) × (Nat → Int32) × (Nat → Int32) × (Nat → Int32) × (Nat → Int32))} {k8 : (Nat → Int32) → Option (Int32 × (Nat → Int32) × (Nat → Int32) × (Nat → Int32) × (Nat → Int32) × (Nat → Int32))} {nt : Nat → Int32} {nl : Nat → Int32} {nr : Nat → Int32} {y5 : Int32} {c6 : Nat → Int32} : f_X10_closeUp_L34 k8 nt nl nr rec34 (y5, c6) = (if y5 < 0 then (k8 c6) else (sp_ld c6 64 y5 (fun v50 => sp_bnd (fun (c51 : Nat → Int32) => sp_bnd (y5 + (-1 : Int32)) (fun v53 => rec34 (v53, c51))) (fun k52 => if v50 = (1 : Int32) then (sp_ld nt 64 y5 (fun v54 => if v54 = (-9 : Int32) then (k52 c6) else (sp_ld nl 64 y5 (fun v55 => sp_st c6 64 v55 (1 : Int32) (fun c56 => sp_ld nr 64 y5 (fun v57 => sp_st c56 64 v57 (1 : Int32) (fun c58 => k52 c58))))))) else (k52 c6))))) := rfl
def f_X10_closeUp_L2 (nm : Int32) (k4 : (Nat → Int32) → Option (Int32 × (Nat → Int32) × (Nat → Int32) × (Nat → Int32) × (Nat → Int32) × (Nat → Int32))) (p1 : Int32) (rec2 : (Int32 × (Nat → Int32)) → Option (Int32 × (Nat → Int32) × (Nat → Int32) × (Nat → Int32) × (Nat → Int32) × (Nat → Int32))) (s9 : Int32 × (Nat → Int32)) : Option (Int32 × (Nat → Int32) × (Nat → Int32) × (Nat → Int32) × (Nat → Int32) × (Nat → Int32)) := match s9 with
  | (y1, c2) => if nm ≤ y1 then (k4 c2) else (sp_bnd (fun (x59 : Int32) => sp_st c2 64 y1 x59 (fun c61 => sp_bnd (y1 + (1 : Int32)) (fun v62 => rec2 (v62, c61)))) (fun k60 => if y1 = p1 then (k60 (1 : Int32)) else (k60 (0 : Int32))))
theorem f_X10_closeUp_L2_eq {rec2 : (Int32 × (Nat → Int32)) → Option (Int32 × (Nat → Int32) × (Nat → Int32) × (Nat → Int32) × (Nat → Int32) × (Nat → Int32))} {nm : Int32} {k4 : (Nat → Int32) → Option (Int32 × (Nat → Int32) × (Nat → Int32) × (Nat → Int32) × (Nat → Int32) × (Nat → Int32))} {p1 : Int32} {y1 : Int32} {c2 : Nat → Int32} : f_X10_closeUp_L2 nm k4 p1 rec2 (y1, c2) = (if nm ≤ y1 then (k4 c2) else (sp_bnd (fun (x59 : Int32) => sp_st c2 64 y1 x59 (fun c61 => sp_bnd (y1 + (1 : Int32)) (fun v62 => rec2 (v62, c61)))) (fun k60 => if y1 = p1 then (k60 (1 : Int32)) else (k60 (0 : Int32))))) := rfl
def f_X10_closeUp (p1 : Int32) (nm : Int32) (nc : Nat → Int32) (nl : Nat → Int32) (nr : Nat → Int32) (nt : Nat → Int32) (nu : Nat → Int32) : Option (Int32 × (Nat → Int32) × (Nat → Int32) × (Nat → Int32) × (Nat → Int32) × (Nat → Int32)) := sp_bnd (fun (c3 : Nat → Int32) => sp_bnd (fun (c7 : Nat → Int32) => sp_bnd (fun (x16 : Int32) (c17 : Nat → Int32) (c18 : Nat → Int32) (c19 : Nat → Int32) (c20 : Nat → Int32) (c21 : Nat → Int32) => some (x16, c17, c18, c19, c20, c21)) (fun k22 => sp_lp (f_X10_closeUp_L93 p1 k22) sp_F ((0 : Int32), (0 : Int32), nc, nl, nr, nt, c7))) (fun k8 => sp_lp (f_X10_closeUp_L34 k8 nt nl nr) sp_F (p1, c3))) (fun k4 => sp_lp (f_X10_closeUp_L2 nm k4 p1) sp_F ((0 : Int32), nu))
def rmX10_closeUp : Room := { frames := 0, cells := 0, slots := 0, locals := 0 }
set_option maxRecDepth 4000 in
theorem c_X10_closeUp {l : Launch} {D : va_G} {q5 : Nat → ClassId} (a : Nat → Nat) (fa : Int32) (tr : Int32) (la : Nat → Int32) (sl : Nat → Int32) (ce : Nat → Int32) (pn : Int32) (mn : Nat → Int32) (cl : Nat → Int32) (le : Nat → Int32) (ri : Nat → Int32) (lt : Nat → Int32) (nm : Int32) (nc : Nat → Int32) (nl : Nat → Int32) (nr : Nat → Int32) (nt : Nat → Int32) (at9 : Int32) (en9 : Int32) (de : Nat → Int32) (mm : Int32) (ma : Nat → Int32) (ne : Nat → Int32) (us : Nat → Int32) (lk : Nat → Int32) (sd : Nat → Int32) (sf : Nat → Int32) (nu : Nat → Int32) (gt : Nat → Int64) (gl : Nat → Int32) (tb : Nat → Int64) (sc : Nat → Int32) (su : Nat → Int32) (p1 : Int32) {nm' : Int32} {nc' : Nat → Int32} {nl' : Nat → Int32} {nr' : Nat → Int32} {nt' : Nat → Int32} {nu' : Nat → Int32} (hf : f_X10_closeUp p1 nm nc nl nr nt nu = some (nm', nc', nl', nr', nt', nu')) : sp_Cv l yX10_closeUp wsX10_closeUp rmX10_closeUp D q5 0 [.ref (a 0), .int p1] (sw_M a q5 fa tr la sl ce pn mn cl le ri lt nm nc nl nr nt at9 en9 de mm ma ne us lk sd sf nu gt gl tb sc su) (sw_M a q5 fa tr la sl ce pn mn cl le ri lt nm' nc' nl' nr' nt' at9 en9 de mm ma ne us lk sd sf nu' gt gl tb sc su) := by
  intro sz
  refine sp_of (cc := cX10_closeUp) (maxL := 4) (ret := none) (own := RX10) (Qc := sp_Qv D (sw_M a q5 fa tr la sl ce pn mn cl le ri lt nm' nc' nl' nr' nt' at9 en9 de mm ma ne us lk sd sf nu' gt gl tb sc su)) (by decide) rfl rfl (Nat.le_of_ble_eq_true rfl) ?_
  intro p e s m args below meth c A ls Q hQ S hr hlk hK hG hA hW hl
  have hx := S.1
  have hb := S.2.1
  unfold f_X10_closeUp at hf
  have inX10 : ∀ w ∈ u_ws RX10 TX10 32, w ∈ wsX10_closeUp := (fun _ h => List.mem_cons_of_mem _ (List.mem_append_right _ h))
  have lk1 := S.2.2.2.2 (Cond.fieldLink RX10 114 "ShortProofsModel" "newMany" "I") (List.mem_of_getElem? (i := 1) rfl)
  have lk2 := S.2.2.2.2 (Cond.fieldLink RX10 67 "ShortProofsModel" "numbers" "[I") (List.mem_of_getElem? (i := 2) rfl)
  have lk3 := S.2.2.2.2 (Cond.fieldLink RX10 34 "ShortProofsModel" "newClause" "[I") (List.mem_of_getElem? (i := 6) rfl)
  have lk4 := S.2.2.2.2 (Cond.fieldLink RX10 43 "ShortProofsModel" "newLetter" "[I") (List.mem_of_getElem? (i := 3) rfl)
  have lk5 := S.2.2.2.2 (Cond.fieldLink RX10 37 "ShortProofsModel" "newLeft" "[I") (List.mem_of_getElem? (i := 4) rfl)
  have lk6 := S.2.2.2.2 (Cond.fieldLink RX10 40 "ShortProofsModel" "newRight" "[I") (List.mem_of_getElem? (i := 5) rfl)
  refine lv_iconst (v := 0) hx hb dX10_closeUp_0 (by decide) ?_
  refine lv_istore_n (lv' := [(2, .int (0 : Int32)), (0, .ref (a 0)), (1, .int p1)]) hx hb dX10_closeUp_1 rfl hl (by decide) rfl (fun ls hl => ?_)
  obtain ⟨k4, ek4, hf⟩ := sp_hb hf
  have hj4 : ∀ (c3 : Nat → Int32) (H : Heap) (locs : List Loc) (ls : Array Slot), k4 c3 = some (nm', nc', nl', nr', nt', nu') → sp_wd D A s.heap (sw_M a q5 fa tr la sl ce pn mn cl le ri lt nm nc nl nr nt at9 en9 de mm ma ne us lk sd sf c3 gt gl tb sc su) H locs → lv_has ls 4 [(0, .ref (a 0)), (1, .int p1)] → W p l e rmX10_closeUp s m args below meth c H locs 0 0 Q (F0 m 32 ls []) := by
    intro c3 H locs ls hf hW hl
    rw [ek4] at hf
    refine lv_iload_n hx hb dX10_closeUp_32 rfl (lv_at hl 1 rfl) ?_
    refine lv_istore_n (lv' := [(2, .int p1), (0, .ref (a 0)), (1, .int p1)]) hx hb dX10_closeUp_33 rfl hl (by decide) rfl (fun ls hl => ?_)
    obtain ⟨k8, ek8, hf⟩ := sp_hb hf
    have hj8 : ∀ (c7 : Nat → Int32) (H : Heap) (locs : List Loc) (ls : Array Slot), k8 c7 = some (nm', nc', nl', nr', nt', nu') → sp_wd D A s.heap (sw_M a q5 fa tr la sl ce pn mn cl le ri lt nm nc nl nr nt at9 en9 de mm ma ne us lk sd sf c7 gt gl tb sc su) H locs → lv_has ls 4 [(0, .ref (a 0)), (1, .int p1)] → W p l e rmX10_closeUp s m args below meth c H locs 0 0 Q (F0 m 89 ls []) := by
      intro c7 H locs ls hf hW hl
      rw [ek8] at hf
      refine lv_iconst (v := 0) hx hb dX10_closeUp_89 (by decide) ?_
      refine lv_istore_n (lv' := [(2, .int (0 : Int32)), (0, .ref (a 0)), (1, .int p1)]) hx hb dX10_closeUp_90 rfl hl (by decide) rfl (fun ls hl => ?_)
      refine lv_iconst (v := 0) hx hb dX10_closeUp_91 (by decide) ?_
      refine lv_istore_n (lv' := [(3, .int (0 : Int32)), (2, .int (0 : Int32)), (0, .ref (a 0)), (1, .int p1)]) hx hb dX10_closeUp_92 rfl hl (by decide) rfl (fun ls hl => ?_)
      obtain ⟨k22, ek22, hf⟩ := sp_hb hf
      have hj22 : ∀ (x16 : Int32) (c17 : Nat → Int32) (c18 : Nat → Int32) (c19 : Nat → Int32) (c20 : Nat → Int32) (c21 : Nat → Int32) (H : Heap) (locs : List Loc) (ls : Array Slot), k22 x16 c17 c18 c19 c20 c21 = some (nm', nc', nl', nr', nt', nu') → sp_wd D A s.heap (sw_M a q5 fa tr la sl ce pn mn cl le ri lt nm c17 c18 c19 c20 at9 en9 de mm ma ne us lk sd sf c21 gt gl tb sc su) H locs → lv_has ls 4 [(0, .ref (a 0)), (2, .int x16)] → W p l e rmX10_closeUp s m args below meth c H locs 0 0 Q (F0 m 222 ls []) := by
        intro x16 c17 c18 c19 c20 c21 H locs ls hf hW hl
        rw [ek22] at hf
        refine lv_aload_n hx hb dX10_closeUp_222 rfl (lv_at hl 0 rfl) ?_
        refine lv_iload_n hx hb dX10_closeUp_223 rfl (lv_at hl 1 rfl) ?_
        refine sp_put S hK hW inX10 tyX10_ok nmX10 0 rfl rfl 11 (by decide) lk1 rfl rfl rfl (Nat.le_of_ble_eq_true rfl) (ws' := sw_M a q5 fa tr la sl ce pn mn cl le ri lt x16 c17 c18 c19 c20 at9 en9 de mm ma ne us lk sd sf c21 gt gl tb sc su) rfl dX10_closeUp_224 (fun H locs hW => ?_)
        have q0 := Option.some.inj hf
        obtain ⟨q1, z1⟩ := Prod.mk.inj q0
        obtain ⟨q2, z2⟩ := Prod.mk.inj z1
        obtain ⟨q3, z3⟩ := Prod.mk.inj z2
        obtain ⟨q4, z4⟩ := Prod.mk.inj z3
        obtain ⟨q5, z5⟩ := Prod.mk.inj z4
        subst q1
        subst q2
        subst q3
        subst q4
        subst q5
        subst z5
        exact sp_vret S hr hlk hW hQ dX10_closeUp_227
      have hlp93 : ∀ (n9 : Nat) (y9 : Int32) (y10 : Int32) (c11 : Nat → Int32) (c12 : Nat → Int32) (c13 : Nat → Int32) (c14 : Nat → Int32) (c15 : Nat → Int32) (H : Heap) (locs : List Loc) (ls : Array Slot), sp_lp (f_X10_closeUp_L93 p1 k22) n9 (y9, y10, c11, c12, c13, c14, c15) = some (nm', nc', nl', nr', nt', nu') → sp_wd D A s.heap (sw_M a q5 fa tr la sl ce pn mn cl le ri lt nm c11 c12 c13 c14 at9 en9 de mm ma ne us lk sd sf c15 gt gl tb sc su) H locs → lv_has ls 4 [(0, .ref (a 0)), (1, .int p1), (2, .int y9), (3, .int y10)] → W p l e rmX10_closeUp s m args below meth c H locs 0 0 Q (F0 m 93 ls []) := by
        intro n9
        induction n9 with
        | zero =>
          intro y9 y10 c11 c12 c13 c14 c15 H locs ls hf hW hl
          exact (sp_lp0 hf).elim
        | succ n9 ih93 =>
          intro y9 y10 c11 c12 c13 c14 c15 H locs ls hf hW hl
          have hf := sp_lpS hf
          rw [f_X10_closeUp_L93_eq] at hf
          refine lv_iload_n hx hb dX10_closeUp_93 rfl (lv_at hl 3 rfl) ?_
          refine lv_iload_n hx hb dX10_closeUp_94 rfl (lv_at hl 1 rfl) ?_
          refine lv_icmp_gt (tgt := 222) hx hb dX10_closeUp_95 (by decide) (fun hc => ?_) (fun hc => ?_)
          · have hf := sp_ht hf hc
            exact hj22 _ _ _ _ _ _ _ _ _ hf hW (lv_sub hl [0, 2] rfl)
          · have hf := sp_hf hf hc
            refine lv_aload_n hx hb dX10_closeUp_98 rfl (lv_at hl 0 rfl) ?_
            refine sp_get S hK hW inX10 0 rfl rfl 26 (by decide) lk2 rfl dX10_closeUp_99 ?_
            refine lv_iload_n hx hb dX10_closeUp_102 rfl (lv_at hl 3 rfl) ?_
            obtain ⟨hin, v23, ev23, hf⟩ := sp_hld hf
            refine sp_iald S hK hW 20 rfl hin ev23 dX10_closeUp_103 ?_
            obtain ⟨k30, ek30, hf⟩ := sp_hb hf
            have hj30 : ∀ (x24 : Int32) (c25 : Nat → Int32) (c26 : Nat → Int32) (c27 : Nat → Int32) (c28 : Nat → Int32) (c29 : Nat → Int32) (H : Heap) (locs : List Loc) (ls : Array Slot), k30 x24 c25 c26 c27 c28 c29 = some (nm', nc', nl', nr', nt', nu') → sp_wd D A s.heap (sw_M a q5 fa tr la sl ce pn mn cl le ri lt nm c25 c26 c27 c28 at9 en9 de mm ma ne us lk sd sf c29 gt gl tb sc su) H locs → lv_has ls 4 [(0, .ref (a 0)), (1, .int p1), (2, .int x24), (3, .int y10)] → W p l e rmX10_closeUp s m args below meth c H locs 0 0 Q (F0 m 216 ls []) := by
              intro x24 c25 c26 c27 c28 c29 H locs ls hf hW hl
              rw [ek30] at hf
              obtain ⟨v31, ev31, hf⟩ := sp_hb hf
              refine lv_iinc (v := v31) (lv' := [(3, .int v31), (0, .ref (a 0)), (1, .int p1), (2, .int x24)]) hx hb dX10_closeUp_216 hl (k := 3) rfl (by rw [ev31]; rfl) (by decide) rfl (fun ls hl => ?_)
              refine lv_goto (tgt := 93) hx hb dX10_closeUp_219 (by decide) ?_
              exact ih93 _ _ _ _ _ _ _ _ _ _ hf hW (lv_sub hl [1, 2, 3, 0] rfl)
            refine lv_if_ne (tgt := 110) hx hb dX10_closeUp_104 (by decide) (fun hc => ?_) (fun hc => ?_)
            · have hf := sp_hf hf hc
              refine lv_aload_n hx hb dX10_closeUp_110 rfl (lv_at hl 0 rfl) ?_
              refine sp_get S hK hW inX10 0 rfl rfl 12 (by decide) lk3 rfl dX10_closeUp_111 ?_
              refine lv_iload_n hx hb dX10_closeUp_114 rfl (lv_at hl 2 rfl) ?_
              refine lv_aload_n hx hb dX10_closeUp_115 rfl (lv_at hl 0 rfl) ?_
              refine sp_get S hK hW inX10 0 rfl rfl 12 (by decide) lk3 rfl dX10_closeUp_116 ?_
              refine lv_iload_n hx hb dX10_closeUp_119 rfl (lv_at hl 3 rfl) ?_
              obtain ⟨hin, v32, ev32, hf⟩ := sp_hld hf
              refine sp_iald S hK hW 9 rfl hin ev32 dX10_closeUp_120 ?_
              obtain ⟨hin, c33, ec33, hf⟩ := sp_hst hf
              refine sp_iast S hK hW 9 rfl hin ec33 (ws' := sw_M a q5 fa tr la sl ce pn mn cl le ri lt nm c33 c12 c13 c14 at9 en9 de mm ma ne us lk sd sf c15 gt gl tb sc su) rfl dX10_closeUp_121 (fun H locs hW => ?_)
              refine lv_aload_n hx hb dX10_closeUp_122 rfl (lv_at hl 0 rfl) ?_
              refine sp_get S hK hW inX10 0 rfl rfl 15 (by decide) lk4 rfl dX10_closeUp_123 ?_
              refine lv_iload_n hx hb dX10_closeUp_126 rfl (lv_at hl 2 rfl) ?_
              refine lv_aload_n hx hb dX10_closeUp_127 rfl (lv_at hl 0 rfl) ?_
              refine sp_get S hK hW inX10 0 rfl rfl 15 (by decide) lk4 rfl dX10_closeUp_128 ?_
              refine lv_iload_n hx hb dX10_closeUp_131 rfl (lv_at hl 3 rfl) ?_
              obtain ⟨hin, v34, ev34, hf⟩ := sp_hld hf
              refine sp_iald S hK hW 12 rfl hin ev34 dX10_closeUp_132 ?_
              obtain ⟨hin, c35, ec35, hf⟩ := sp_hst hf
              refine sp_iast S hK hW 12 rfl hin ec35 (ws' := sw_M a q5 fa tr la sl ce pn mn cl le ri lt nm c33 c12 c13 c35 at9 en9 de mm ma ne us lk sd sf c15 gt gl tb sc su) rfl dX10_closeUp_133 (fun H locs hW => ?_)
              refine lv_aload_n hx hb dX10_closeUp_134 rfl (lv_at hl 0 rfl) ?_
              refine sp_get S hK hW inX10 0 rfl rfl 13 (by decide) lk5 rfl dX10_closeUp_135 ?_
              refine lv_iload_n hx hb dX10_closeUp_138 rfl (lv_at hl 2 rfl) ?_
              refine lv_aload_n hx hb dX10_closeUp_139 rfl (lv_at hl 0 rfl) ?_
              refine sp_get S hK hW inX10 0 rfl rfl 15 (by decide) lk4 rfl dX10_closeUp_140 ?_
              refine lv_iload_n hx hb dX10_closeUp_143 rfl (lv_at hl 3 rfl) ?_
              obtain ⟨hin, v36, ev36, hf⟩ := sp_hld hf
              refine sp_iald S hK hW 12 rfl hin ev36 dX10_closeUp_144 ?_
              refine lv_bipush (v := (-9)) hx hb dX10_closeUp_145 (by decide) ?_
              obtain ⟨k38, ek38, hf⟩ := sp_hb hf
              have hj38 : ∀ (x37 : Int32) (H : Heap) (locs : List Loc) (ls : Array Slot), k38 x37 = some (nm', nc', nl', nr', nt', nu') → sp_wd D A s.heap (sw_M a q5 fa tr la sl ce pn mn cl le ri lt nm c33 c12 c13 c35 at9 en9 de mm ma ne us lk sd sf c15 gt gl tb sc su) H locs → lv_has ls 4 [(0, .ref (a 0)), (1, .int p1), (2, .int y9), (3, .int y10)] → W p l e rmX10_closeUp s m args below meth c H locs 0 0 Q (F0 m 168 ls [.int x37, .int y9, .ref (a 10)]) := by
                intro x37 H locs ls hf hW hl
                rw [ek38] at hf
                obtain ⟨hin, c39, ec39, hf⟩ := sp_hst hf
                refine sp_iast S hK hW 10 rfl hin ec39 (ws' := sw_M a q5 fa tr la sl ce pn mn cl le ri lt nm c33 c39 c13 c35 at9 en9 de mm ma ne us lk sd sf c15 gt gl tb sc su) rfl dX10_closeUp_168 (fun H locs hW => ?_)
                refine lv_aload_n hx hb dX10_closeUp_169 rfl (lv_at hl 0 rfl) ?_
                refine sp_get S hK hW inX10 0 rfl rfl 14 (by decide) lk6 rfl dX10_closeUp_170 ?_
                refine lv_iload_n hx hb dX10_closeUp_173 rfl (lv_at hl 2 rfl) ?_
                refine lv_aload_n hx hb dX10_closeUp_174 rfl (lv_at hl 0 rfl) ?_
                refine sp_get S hK hW inX10 0 rfl rfl 15 (by decide) lk4 rfl dX10_closeUp_175 ?_
                refine lv_iload_n hx hb dX10_closeUp_178 rfl (lv_at hl 3 rfl) ?_
                obtain ⟨hin, v40, ev40, hf⟩ := sp_hld hf
                refine sp_iald S hK hW 12 rfl hin ev40 dX10_closeUp_179 ?_
                refine lv_bipush (v := (-9)) hx hb dX10_closeUp_180 (by decide) ?_
                obtain ⟨k42, ek42, hf⟩ := sp_hb hf
                have hj42 : ∀ (x41 : Int32) (H : Heap) (locs : List Loc) (ls : Array Slot), k42 x41 = some (nm', nc', nl', nr', nt', nu') → sp_wd D A s.heap (sw_M a q5 fa tr la sl ce pn mn cl le ri lt nm c33 c39 c13 c35 at9 en9 de mm ma ne us lk sd sf c15 gt gl tb sc su) H locs → lv_has ls 4 [(0, .ref (a 0)), (1, .int p1), (2, .int y9), (3, .int y10)] → W p l e rmX10_closeUp s m args below meth c H locs 0 0 Q (F0 m 203 ls [.int x41, .int y9, .ref (a 11)]) := by
                  intro x41 H locs ls hf hW hl
                  rw [ek42] at hf
                  obtain ⟨hin, c43, ec43, hf⟩ := sp_hst hf
                  refine sp_iast S hK hW 11 rfl hin ec43 (ws' := sw_M a q5 fa tr la sl ce pn mn cl le ri lt nm c33 c39 c43 c35 at9 en9 de mm ma ne us lk sd sf c15 gt gl tb sc su) rfl dX10_closeUp_203 (fun H locs hW => ?_)
                  refine lv_aload_n hx hb dX10_closeUp_204 rfl (lv_at hl 0 rfl) ?_
                  refine sp_get S hK hW inX10 0 rfl rfl 26 (by decide) lk2 rfl dX10_closeUp_205 ?_
                  refine lv_iload_n hx hb dX10_closeUp_208 rfl (lv_at hl 3 rfl) ?_
                  refine lv_iload_n hx hb dX10_closeUp_209 rfl (lv_at hl 2 rfl) ?_
                  refine lv_iconst (v := 2) hx hb dX10_closeUp_210 (by decide) ?_
                  refine lv_iadd hx hb dX10_closeUp_211 ?_
                  obtain ⟨hin, c44, ec44, hf⟩ := sp_hst hf
                  refine sp_iast S hK hW 20 rfl hin ec44 (ws' := sw_M a q5 fa tr la sl ce pn mn cl le ri lt nm c33 c39 c43 c35 at9 en9 de mm ma ne us lk sd sf c44 gt gl tb sc su) rfl dX10_closeUp_212 (fun H locs hW => ?_)
                  obtain ⟨v45, ev45, hf⟩ := sp_hb hf
                  refine lv_iinc (v := v45) (lv' := [(2, .int v45), (0, .ref (a 0)), (1, .int p1), (3, .int y10)]) hx hb dX10_closeUp_213 hl (k := 2) rfl (by rw [ev45]; rfl) (by decide) rfl (fun ls hl => ?_)
                  exact hj30 _ _ _ _ _ _ _ _ _ hf hW (lv_sub hl [1, 2, 0, 3] rfl)
                refine lv_icmp_ne (tgt := 190) hx hb dX10_closeUp_182 (by decide) (fun hc => ?_) (fun hc => ?_)
                · have hf := sp_hf hf hc
                  refine lv_aload_n hx hb dX10_closeUp_190 rfl (lv_at hl 0 rfl) ?_
                  refine sp_get S hK hW inX10 0 rfl rfl 26 (by decide) lk2 rfl dX10_closeUp_191 ?_
                  refine lv_aload_n hx hb dX10_closeUp_194 rfl (lv_at hl 0 rfl) ?_
                  refine sp_get S hK hW inX10 0 rfl rfl 14 (by decide) lk6 rfl dX10_closeUp_195 ?_
                  refine lv_iload_n hx hb dX10_closeUp_198 rfl (lv_at hl 3 rfl) ?_
                  obtain ⟨hin, v46, ev46, hf⟩ := sp_hld hf
                  refine sp_iald S hK hW 11 rfl hin ev46 dX10_closeUp_199 ?_
                  obtain ⟨hin, v47, ev47, hf⟩ := sp_hld hf
                  refine sp_iald S hK hW 20 rfl hin ev47 dX10_closeUp_200 ?_
                  refine lv_iconst (v := 2) hx hb dX10_closeUp_201 (by decide) ?_
                  refine lv_isub hx hb dX10_closeUp_202 ?_
                  exact hj42 _ _ _ _ hf hW (lv_sub hl [0, 1, 2, 3] rfl)
                · have hf := sp_ht hf hc
                  refine lv_bipush (v := (-9)) hx hb dX10_closeUp_185 (by decide) ?_
                  refine lv_goto (tgt := 203) hx hb dX10_closeUp_187 (by decide) ?_
                  exact hj42 _ _ _ _ hf hW (lv_sub hl [0, 1, 2, 3] rfl)
              refine lv_icmp_ne (tgt := 155) hx hb dX10_closeUp_147 (by decide) (fun hc => ?_) (fun hc => ?_)
              · have hf := sp_hf hf hc
                refine lv_aload_n hx hb dX10_closeUp_155 rfl (lv_at hl 0 rfl) ?_
                refine sp_get S hK hW inX10 0 rfl rfl 26 (by decide) lk2 rfl dX10_closeUp_156 ?_
                refine lv_aload_n hx hb dX10_closeUp_159 rfl (lv_at hl 0 rfl) ?_
                refine sp_get S hK hW inX10 0 rfl rfl 13 (by decide) lk5 rfl dX10_closeUp_160 ?_
                refine lv_iload_n hx hb dX10_closeUp_163 rfl (lv_at hl 3 rfl) ?_
                obtain ⟨hin, v48, ev48, hf⟩ := sp_hld hf
                refine sp_iald S hK hW 10 rfl hin ev48 dX10_closeUp_164 ?_
                obtain ⟨hin, v49, ev49, hf⟩ := sp_hld hf
                refine sp_iald S hK hW 20 rfl hin ev49 dX10_closeUp_165 ?_
                refine lv_iconst (v := 2) hx hb dX10_closeUp_166 (by decide) ?_
                refine lv_isub hx hb dX10_closeUp_167 ?_
                exact hj38 _ _ _ _ hf hW (lv_sub hl [0, 1, 2, 3] rfl)
              · have hf := sp_ht hf hc
                refine lv_bipush (v := (-9)) hx hb dX10_closeUp_150 (by decide) ?_
                refine lv_goto (tgt := 168) hx hb dX10_closeUp_152 (by decide) ?_
                exact hj38 _ _ _ _ hf hW (lv_sub hl [0, 1, 2, 3] rfl)
            · have hf := sp_ht hf hc
              refine lv_goto (tgt := 216) hx hb dX10_closeUp_107 (by decide) ?_
              exact hj30 _ _ _ _ _ _ _ _ _ hf hW (lv_sub hl [0, 1, 2, 3] rfl)
      exact hlp93 _ _ _ _ _ _ _ _ _ _ _ hf hW (lv_sub hl [2, 3, 1, 0] rfl)
    have hlp34 : ∀ (n9 : Nat) (y5 : Int32) (c6 : Nat → Int32) (H : Heap) (locs : List Loc) (ls : Array Slot), sp_lp (f_X10_closeUp_L34 k8 nt nl nr) n9 (y5, c6) = some (nm', nc', nl', nr', nt', nu') → sp_wd D A s.heap (sw_M a q5 fa tr la sl ce pn mn cl le ri lt nm nc nl nr nt at9 en9 de mm ma ne us lk sd sf c6 gt gl tb sc su) H locs → lv_has ls 4 [(0, .ref (a 0)), (1, .int p1), (2, .int y5)] → W p l e rmX10_closeUp s m args below meth c H locs 0 0 Q (F0 m 34 ls []) := by
      intro n9
      induction n9 with
      | zero =>
        intro y5 c6 H locs ls hf hW hl
        exact (sp_lp0 hf).elim
      | succ n9 ih34 =>
        intro y5 c6 H locs ls hf hW hl
        have hf := sp_lpS hf
        rw [f_X10_closeUp_L34_eq] at hf
        refine lv_iload_n hx hb dX10_closeUp_34 rfl (lv_at hl 2 rfl) ?_
        refine lv_if_lt (tgt := 89) hx hb dX10_closeUp_35 (by decide) (fun hc => ?_) (fun hc => ?_)
        · have hf := sp_ht hf hc
          exact hj8 _ _ _ _ hf hW (lv_sub hl [0, 1] rfl)
        · have hf := sp_hf hf hc
          refine lv_aload_n hx hb dX10_closeUp_38 rfl (lv_at hl 0 rfl) ?_
          refine sp_get S hK hW inX10 0 rfl rfl 26 (by decide) lk2 rfl dX10_closeUp_39 ?_
          refine lv_iload_n hx hb dX10_closeUp_42 rfl (lv_at hl 2 rfl) ?_
          obtain ⟨hin, v50, ev50, hf⟩ := sp_hld hf
          refine sp_iald S hK hW 20 rfl hin ev50 dX10_closeUp_43 ?_
          refine lv_iconst (v := 1) hx hb dX10_closeUp_44 (by decide) ?_
          obtain ⟨k52, ek52, hf⟩ := sp_hb hf
          have hj52 : ∀ (c51 : Nat → Int32) (H : Heap) (locs : List Loc) (ls : Array Slot), k52 c51 = some (nm', nc', nl', nr', nt', nu') → sp_wd D A s.heap (sw_M a q5 fa tr la sl ce pn mn cl le ri lt nm nc nl nr nt at9 en9 de mm ma ne us lk sd sf c51 gt gl tb sc su) H locs → lv_has ls 4 [(0, .ref (a 0)), (1, .int p1), (2, .int y5)] → W p l e rmX10_closeUp s m args below meth c H locs 0 0 Q (F0 m 83 ls []) := by
            intro c51 H locs ls hf hW hl
            rw [ek52] at hf
            obtain ⟨v53, ev53, hf⟩ := sp_hb hf
            refine lv_iinc (v := v53) (lv' := [(2, .int v53), (0, .ref (a 0)), (1, .int p1)]) hx hb dX10_closeUp_83 hl (k := 2) rfl (by rw [ev53]; rfl) (by decide) rfl (fun ls hl => ?_)
            refine lv_goto (tgt := 34) hx hb dX10_closeUp_86 (by decide) ?_
            exact ih34 _ _ _ _ _ hf hW (lv_sub hl [1, 2, 0] rfl)
          refine lv_icmp_ne (tgt := 83) hx hb dX10_closeUp_45 (by decide) (fun hc => ?_) (fun hc => ?_)
          · have hf := sp_hf hf hc
            exact hj52 _ _ _ _ hf hW (lv_sub hl [0, 1, 2] rfl)
          · have hf := sp_ht hf hc
            refine lv_aload_n hx hb dX10_closeUp_48 rfl (lv_at hl 0 rfl) ?_
            refine sp_get S hK hW inX10 0 rfl rfl 15 (by decide) lk4 rfl dX10_closeUp_49 ?_
            refine lv_iload_n hx hb dX10_closeUp_52 rfl (lv_at hl 2 rfl) ?_
            obtain ⟨hin, v54, ev54, hf⟩ := sp_hld hf
            refine sp_iald S hK hW 12 rfl hin ev54 dX10_closeUp_53 ?_
            refine lv_bipush (v := (-9)) hx hb dX10_closeUp_54 (by decide) ?_
            refine lv_icmp_eq (tgt := 83) hx hb dX10_closeUp_56 (by decide) (fun hc => ?_) (fun hc => ?_)
            · have hf := sp_ht hf hc
              exact hj52 _ _ _ _ hf hW (lv_sub hl [0, 1, 2] rfl)
            · have hf := sp_hf hf hc
              refine lv_aload_n hx hb dX10_closeUp_59 rfl (lv_at hl 0 rfl) ?_
              refine sp_get S hK hW inX10 0 rfl rfl 26 (by decide) lk2 rfl dX10_closeUp_60 ?_
              refine lv_aload_n hx hb dX10_closeUp_63 rfl (lv_at hl 0 rfl) ?_
              refine sp_get S hK hW inX10 0 rfl rfl 13 (by decide) lk5 rfl dX10_closeUp_64 ?_
              refine lv_iload_n hx hb dX10_closeUp_67 rfl (lv_at hl 2 rfl) ?_
              obtain ⟨hin, v55, ev55, hf⟩ := sp_hld hf
              refine sp_iald S hK hW 10 rfl hin ev55 dX10_closeUp_68 ?_
              refine lv_iconst (v := 1) hx hb dX10_closeUp_69 (by decide) ?_
              obtain ⟨hin, c56, ec56, hf⟩ := sp_hst hf
              refine sp_iast S hK hW 20 rfl hin ec56 (ws' := sw_M a q5 fa tr la sl ce pn mn cl le ri lt nm nc nl nr nt at9 en9 de mm ma ne us lk sd sf c56 gt gl tb sc su) rfl dX10_closeUp_70 (fun H locs hW => ?_)
              refine lv_aload_n hx hb dX10_closeUp_71 rfl (lv_at hl 0 rfl) ?_
              refine sp_get S hK hW inX10 0 rfl rfl 26 (by decide) lk2 rfl dX10_closeUp_72 ?_
              refine lv_aload_n hx hb dX10_closeUp_75 rfl (lv_at hl 0 rfl) ?_
              refine sp_get S hK hW inX10 0 rfl rfl 14 (by decide) lk6 rfl dX10_closeUp_76 ?_
              refine lv_iload_n hx hb dX10_closeUp_79 rfl (lv_at hl 2 rfl) ?_
              obtain ⟨hin, v57, ev57, hf⟩ := sp_hld hf
              refine sp_iald S hK hW 11 rfl hin ev57 dX10_closeUp_80 ?_
              refine lv_iconst (v := 1) hx hb dX10_closeUp_81 (by decide) ?_
              obtain ⟨hin, c58, ec58, hf⟩ := sp_hst hf
              refine sp_iast S hK hW 20 rfl hin ec58 (ws' := sw_M a q5 fa tr la sl ce pn mn cl le ri lt nm nc nl nr nt at9 en9 de mm ma ne us lk sd sf c58 gt gl tb sc su) rfl dX10_closeUp_82 (fun H locs hW => ?_)
              exact hj52 _ _ _ _ hf hW (lv_sub hl [0, 1, 2] rfl)
    exact hlp34 _ _ _ _ _ _ hf hW (lv_sub hl [1, 2, 0] rfl)
  have hlp2 : ∀ (n9 : Nat) (y1 : Int32) (c2 : Nat → Int32) (H : Heap) (locs : List Loc) (ls : Array Slot), sp_lp (f_X10_closeUp_L2 nm k4 p1) n9 (y1, c2) = some (nm', nc', nl', nr', nt', nu') → sp_wd D A s.heap (sw_M a q5 fa tr la sl ce pn mn cl le ri lt nm nc nl nr nt at9 en9 de mm ma ne us lk sd sf c2 gt gl tb sc su) H locs → lv_has ls 4 [(0, .ref (a 0)), (1, .int p1), (2, .int y1)] → W p l e rmX10_closeUp s m args below meth c H locs 0 0 Q (F0 m 2 ls []) := by
    intro n9
    induction n9 with
    | zero =>
      intro y1 c2 H locs ls hf hW hl
      exact (sp_lp0 hf).elim
    | succ n9 ih2 =>
      intro y1 c2 H locs ls hf hW hl
      have hf := sp_lpS hf
      rw [f_X10_closeUp_L2_eq] at hf
      refine lv_iload_n hx hb dX10_closeUp_2 rfl (lv_at hl 2 rfl) ?_
      refine lv_aload_n hx hb dX10_closeUp_3 rfl (lv_at hl 0 rfl) ?_
      refine sp_get S hK hW inX10 0 rfl rfl 11 (by decide) lk1 rfl dX10_closeUp_4 ?_
      refine lv_icmp_ge (tgt := 32) hx hb dX10_closeUp_7 (by decide) (fun hc => ?_) (fun hc => ?_)
      · have hf := sp_ht hf hc
        exact hj4 _ _ _ _ hf hW (lv_sub hl [0, 1] rfl)
      · have hf := sp_hf hf hc
        refine lv_aload_n hx hb dX10_closeUp_10 rfl (lv_at hl 0 rfl) ?_
        refine sp_get S hK hW inX10 0 rfl rfl 26 (by decide) lk2 rfl dX10_closeUp_11 ?_
        refine lv_iload_n hx hb dX10_closeUp_14 rfl (lv_at hl 2 rfl) ?_
        refine lv_iload_n hx hb dX10_closeUp_15 rfl (lv_at hl 2 rfl) ?_
        refine lv_iload_n hx hb dX10_closeUp_16 rfl (lv_at hl 1 rfl) ?_
        obtain ⟨k60, ek60, hf⟩ := sp_hb hf
        have hj60 : ∀ (x59 : Int32) (H : Heap) (locs : List Loc) (ls : Array Slot), k60 x59 = some (nm', nc', nl', nr', nt', nu') → sp_wd D A s.heap (sw_M a q5 fa tr la sl ce pn mn cl le ri lt nm nc nl nr nt at9 en9 de mm ma ne us lk sd sf c2 gt gl tb sc su) H locs → lv_has ls 4 [(0, .ref (a 0)), (1, .int p1), (2, .int y1)] → W p l e rmX10_closeUp s m args below meth c H locs 0 0 Q (F0 m 25 ls [.int x59, .int y1, .ref (a 20)]) := by
          intro x59 H locs ls hf hW hl
          rw [ek60] at hf
          obtain ⟨hin, c61, ec61, hf⟩ := sp_hst hf
          refine sp_iast S hK hW 20 rfl hin ec61 (ws' := sw_M a q5 fa tr la sl ce pn mn cl le ri lt nm nc nl nr nt at9 en9 de mm ma ne us lk sd sf c61 gt gl tb sc su) rfl dX10_closeUp_25 (fun H locs hW => ?_)
          obtain ⟨v62, ev62, hf⟩ := sp_hb hf
          refine lv_iinc (v := v62) (lv' := [(2, .int v62), (0, .ref (a 0)), (1, .int p1)]) hx hb dX10_closeUp_26 hl (k := 2) rfl (by rw [ev62]; rfl) (by decide) rfl (fun ls hl => ?_)
          refine lv_goto (tgt := 2) hx hb dX10_closeUp_29 (by decide) ?_
          exact ih2 _ _ _ _ _ hf hW (lv_sub hl [1, 2, 0] rfl)
        refine lv_icmp_ne (tgt := 24) hx hb dX10_closeUp_17 (by decide) (fun hc => ?_) (fun hc => ?_)
        · have hf := sp_hf hf hc
          refine lv_iconst (v := 0) hx hb dX10_closeUp_24 (by decide) ?_
          exact hj60 _ _ _ _ hf hW (lv_sub hl [0, 1, 2] rfl)
        · have hf := sp_ht hf hc
          refine lv_iconst (v := 1) hx hb dX10_closeUp_20 (by decide) ?_
          refine lv_goto (tgt := 25) hx hb dX10_closeUp_21 (by decide) ?_
          exact hj60 _ _ _ _ hf hW (lv_sub hl [0, 1, 2] rfl)
  exact hlp2 _ _ _ _ _ _ hf hW (lv_sub hl [1, 2, 0] rfl)

def f_X10_shorter_L42 (mn : Nat → Int32) (p1 : Int32) (k18 : Int32 → (Nat → Int32) → (Nat → Int32) → (Nat → Int32) → (Nat → Int32) → (Nat → Int32) → Option (Int32 × Int32 × (Nat → Int32) × (Nat → Int32) × (Nat → Int32) × (Nat → Int32) × (Nat → Int32) × Int32 × (Nat → Int32) × (Nat → Int32) × (Nat → Int32) × (Nat → Int32) × (Nat → Int32) × (Nat → Int32) × (Nat → Int32))) (p2 : Int32) (r3 : Int32) (cl : Nat → Int32) (le : Nat → Int32) (ri : Nat → Int32) (lt : Nat → Int32) (c4 : Nat → Int32) (pn : Int32) (nu : Nat → Int32) (rec42 : (Int32 × Int32 × (Nat → Int32) × (Nat → Int32) × (Nat → Int32) × (Nat → Int32) × (Nat → Int32)) → Option (Int32 × Int32 × (Nat → Int32) × (Nat → Int32) × (Nat → Int32) × (Nat → Int32) × (Nat → Int32) × Int32 × (Nat → Int32) × (Nat → Int32) × (Nat → Int32) × (Nat → Int32) × (Nat → Int32) × (Nat → Int32) × (Nat → Int32))) (s9 : Int32 × Int32 × (Nat → Int32) × (Nat → Int32) × (Nat → Int32) × (Nat → Int32) × (Nat → Int32)) : Option (Int32 × Int32 × (Nat → Int32) × (Nat → Int32) × (Nat → Int32) × (Nat → Int32) × (Nat → Int32) × Int32 × (Nat → Int32) × (Nat → Int32) × (Nat → Int32) × (Nat → Int32) × (Nat → Int32) × (Nat → Int32) × (Nat → Int32)) := match s9 with
  | (y5, c6, c7, c8, c9, c10, c11) => sp_ld mn 12 p1 (fun v47 => if v47 ≤ y5 then (k18 c6 c7 c8 c9 c10 c11) else (Option.bind (f_X10_standFor p1 y5 p2 r3 (0 : Int32) mn cl le ri lt c6 c7 c8 c9 c10 c11 c4) (fun q9 => match q9 with | (r48, c49, c50, c51, c52, c53) => sp_st c11 48 y5 r48 (fun c54 => sp_ld c54 48 y5 (fun v55 => if v55 = (-9 : Int32) then (some ((-3 : Int32), pn, mn, cl, le, ri, lt, c49, c50, c51, c52, c53, c54, c4, nu)) else (sp_bnd (y5 + (1 : Int32)) (fun v56 => rec42 (v56, c49, c50, c51, c52, c53, c54))))))))
theorem f_X10_shorter_L42_eq {rec42 : (Int32 × Int32 × (Nat → Int32) × (Nat → Int32) × (Nat → Int32) × (Nat → Int32) × (Nat → Int32)) → Option (Int32 × Int32 × (Nat → Int32) × (Nat → Int32) × (Nat → Int32) × (Nat → Int32) × (Nat → Int32) × Int32 × (Nat → Int32) × (Nat → Int32) × (Nat → Int32) × (Nat → Int32) × (Nat → Int32) × (Nat → Int32) × (Nat → Int32))} {mn : Nat → Int32} {p1 : Int32} {k18 : Int32 → (Nat → Int32) → (Nat → Int32) → (Nat → Int32) → (Nat → Int32) → (Nat → Int32) → Option (Int32 × Int32 × (Nat → Int32) × (Nat → Int32) × (Nat → Int32) × (Nat → Int32) × (Nat → Int32) × Int32 × (Nat → Int32) × (Nat → Int32) × (Nat → Int32) × (Nat → Int32) × (Nat → Int32) × (Nat → Int32) × (Nat → Int32))} {p2 : Int32} {r3 : Int32} {cl : Nat → Int32} {le : Nat → Int32} {ri : Nat → Int32} {lt : Nat → Int32} {c4 : Nat → Int32} {pn : Int32} {nu : Nat → Int32} {y5 : Int32} {c6 : Int32} {c7 : Nat → Int32} {c8 : Nat → Int32} {c9 : Nat → Int32} {c10 : Nat → Int32} {c11 : Nat → Int32} : f_X10_shorter_L42 mn p1 k18 p2 r3 cl le ri lt c4 pn nu rec42 (y5, c6, c7, c8, c9, c10, c11) = (sp_ld mn 12 p1 (fun v47 => if v47 ≤ y5 then (k18 c6 c7 c8 c9 c10 c11) else (Option.bind (f_X10_standFor p1 y5 p2 r3 (0 : Int32) mn cl le ri lt c6 c7 c8 c9 c10 c11 c4) (fun q9 => match q9 with | (r48, c49, c50, c51, c52, c53) => sp_st c11 48 y5 r48 (fun c54 => sp_ld c54 48 y5 (fun v55 => if v55 = (-9 : Int32) then (some ((-3 : Int32), pn, mn, cl, le, ri, lt, c49, c50, c51, c52, c53, c54, c4, nu)) else (sp_bnd (y5 + (1 : Int32)) (fun v56 => rec42 (v56, c49, c50, c51, c52, c53, c54))))))))) := rfl
def f_X10_shorter (p1 : Int32) (p2 : Int32) (pn : Int32) (mn : Nat → Int32) (cl : Nat → Int32) (le : Nat → Int32) (ri : Nat → Int32) (lt : Nat → Int32) (nm : Int32) (nc : Nat → Int32) (nl : Nat → Int32) (nr : Nat → Int32) (nt : Nat → Int32) (sd : Nat → Int32) (sf : Nat → Int32) (nu : Nat → Int32) : Option (Int32 × Int32 × (Nat → Int32) × (Nat → Int32) × (Nat → Int32) × (Nat → Int32) × (Nat → Int32) × Int32 × (Nat → Int32) × (Nat → Int32) × (Nat → Int32) × (Nat → Int32) × (Nat → Int32) × (Nat → Int32) × (Nat → Int32)) := Option.bind (f_X10_isProof p1 pn) (fun r1 => if r1 = 0 then (some ((-1 : Int32), pn, mn, cl, le, ri, lt, nm, nc, nl, nr, nt, sd, sf, nu)) else (Option.bind (f_X10_within p2 (0 : Int32) (4 : Int32)) (fun r2 => if r2 = 0 then (some ((-2 : Int32), pn, mn, cl, le, ri, lt, nm, nc, nl, nr, nt, sd, sf, nu)) else (Option.bind (f_X10_restsOf p1 mn le ri lt) (fun r3 => Option.bind (f_X10_laySafe p1 r3 mn cl le ri lt sf) (fun c4 => sp_bnd (fun (c12 : Int32) (c13 : Nat → Int32) (c14 : Nat → Int32) (c15 : Nat → Int32) (c16 : Nat → Int32) (c17 : Nat → Int32) => sp_bnd (fun (x19 : Int32) (c20 : Int32) (c21 : Nat → Int32) (c22 : Nat → Int32) (c23 : Nat → Int32) (c24 : Nat → Int32) => if x19 = (-9 : Int32) then (some ((-3 : Int32), pn, mn, cl, le, ri, lt, c20, c21, c22, c23, c24, c17, c4, nu)) else (Option.bind (f_X10_closeUp x19 c20 c21 c22 c23 c24 nu) (fun q9 => match q9 with | (c26, c27, c28, c29, c30, c31) => Option.bind (f_X10_comes pn mn cl le ri lt c26 c27 c28 c29 c30) (fun q9 => match q9 with | (r32, c33, c34, c35, c36, c37, c38) => some (r32, c33, c34, c35, c36, c37, c38, c26, c27, c28, c29, c30, c17, c4, c31))))) (fun k25 => if p2 = (4 : Int32) then (Option.bind (f_X10_cutUnits p1 r3 mn cl le ri lt c12 c13 c14 c15 c16 c17) (fun q9 => match q9 with | (r41, c42, c43, c44, c45, c46) => k25 r41 c42 c43 c44 c45 c46)) else (sp_ld mn 12 p1 (fun v39 => sp_ld c17 48 (v39 - (1 : Int32)) (fun v40 => k25 v40 c12 c13 c14 c15 c16))))) (fun k18 => sp_lp (f_X10_shorter_L42 mn p1 k18 p2 r3 cl le ri lt c4 pn nu) sp_F ((0 : Int32), (0 : Int32), nc, nl, nr, nt, sd))))))))
def rmX10_shorter : Room := { frames := 5, cells := 0, slots := 0, locals := 123 }
set_option maxRecDepth 4000 in
theorem c_X10_shorter {l : Launch} {D : va_G} {q5 : Nat → ClassId} (a : Nat → Nat) (fa : Int32) (tr : Int32) (la : Nat → Int32) (sl : Nat → Int32) (ce : Nat → Int32) (pn : Int32) (mn : Nat → Int32) (cl : Nat → Int32) (le : Nat → Int32) (ri : Nat → Int32) (lt : Nat → Int32) (nm : Int32) (nc : Nat → Int32) (nl : Nat → Int32) (nr : Nat → Int32) (nt : Nat → Int32) (at9 : Int32) (en9 : Int32) (de : Nat → Int32) (mm : Int32) (ma : Nat → Int32) (ne : Nat → Int32) (us : Nat → Int32) (lk : Nat → Int32) (sd : Nat → Int32) (sf : Nat → Int32) (nu : Nat → Int32) (gt : Nat → Int64) (gl : Nat → Int32) (tb : Nat → Int64) (sc : Nat → Int32) (su : Nat → Int32) (p1 : Int32) (p2 : Int32) {r' : Int32} {pn' : Int32} {mn' : Nat → Int32} {cl' : Nat → Int32} {le' : Nat → Int32} {ri' : Nat → Int32} {lt' : Nat → Int32} {nm' : Int32} {nc' : Nat → Int32} {nl' : Nat → Int32} {nr' : Nat → Int32} {nt' : Nat → Int32} {sd' : Nat → Int32} {sf' : Nat → Int32} {nu' : Nat → Int32} (hf : f_X10_shorter p1 p2 pn mn cl le ri lt nm nc nl nr nt sd sf nu = some (r', pn', mn', cl', le', ri', lt', nm', nc', nl', nr', nt', sd', sf', nu')) : sp_Ci l yX10_shorter wsX10_shorter rmX10_shorter D q5 0 [.ref (a 0), .int p1, .int p2] (sw_M a q5 fa tr la sl ce pn mn cl le ri lt nm nc nl nr nt at9 en9 de mm ma ne us lk sd sf nu gt gl tb sc su) r' (sw_M a q5 fa tr la sl ce pn' mn' cl' le' ri' lt' nm' nc' nl' nr' nt' at9 en9 de mm ma ne us lk sd' sf' nu' gt gl tb sc su) := by
  intro sz
  refine sp_of (cc := cX10_shorter) (maxL := 5) (ret := some .int) (own := RX10) (Qc := sp_Qi D r' (sw_M a q5 fa tr la sl ce pn' mn' cl' le' ri' lt' nm' nc' nl' nr' nt' at9 en9 de mm ma ne us lk sd' sf' nu' gt gl tb sc su)) (by decide) rfl rfl (Nat.le_of_ble_eq_true rfl) ?_
  intro p e s m args below meth c A ls Q hQ S hr hlk hK hG hA hW hl
  have hx := S.1
  have hb := S.2.1
  unfold f_X10_shorter at hf
  have inX10 : ∀ w ∈ u_ws RX10 TX10 32, w ∈ wsX10_shorter := (fun _ h => List.mem_cons_of_mem _ (List.mem_append_right _ h))
  have lk1 := S.2.2.2.2 (Cond.fieldLink RX10 114 "ShortProofsModel" "newMany" "I") (List.mem_of_getElem? (i := 1) rfl)
  have lk2 := S.2.2.2.2 (Cond.fieldLink RX10 61 "ShortProofsModel" "stands" "[I") (List.mem_of_getElem? (i := 3) rfl)
  have lk3 := S.2.2.2.2 (Cond.fieldLink RX10 19 "ShortProofsModel" "many" "[I") (List.mem_of_getElem? (i := 2) rfl)
  refine lv_aload_n hx hb dX10_shorter_0 rfl (lv_at hl 0 rfl) ?_
  refine lv_iload_n hx hb dX10_shorter_1 rfl (lv_at hl 1 rfl) ?_
  obtain ⟨r1, hc1, hf⟩ := sp_hc hf
  refine sp_callViP (rest := []) S hK hG hA hW (c_X10_isProof a fa tr la sl ce pn mn cl le ri lt nm nc nl nr nt at9 en9 de mm ma ne us lk sd sf nu gt gl tb sc su p1 hc1) (by decide) (cwV 1 S.2.2.2.2 gX10_shorter_X10_isProof rfl rfl rfl (by decide +kernel) (by decide)) 8 0 rfl rfl (sp_pn _) rfl (WS' := sw_M a q5 fa tr la sl ce pn mn cl le ri lt nm nc nl nr nt at9 en9 de mm ma ne us lk sd sf nu gt gl tb sc su) (sp_pn' _) rfl hl.1 (Nat.le_of_ble_eq_true rfl) dX10_shorter_2 ⟨Nat.zero_le _, Nat.zero_le _⟩ rfl (fun H locs hW => ?_)
  refine lv_if_ne (tgt := 10) hx hb dX10_shorter_5 (by decide) (fun hc => ?_) (fun hc => ?_)
  · have hf := sp_hf hf hc
    refine lv_iload_n hx hb dX10_shorter_10 rfl (lv_at hl 2 rfl) ?_
    refine lv_iconst (v := 0) hx hb dX10_shorter_11 (by decide) ?_
    refine lv_iconst (v := 4) hx hb dX10_shorter_12 (by decide) ?_
    obtain ⟨r2, hc2, hf⟩ := sp_hc hf
    refine sp_callSi (rest := []) S hK hG hA hW (c_X10_within p2 (0 : Int32) (4 : Int32) hc2) (by decide) (va_cwS 3 S.2.2.2.2 gX10_shorter_X10_within rfl rfl rfl (by decide +kernel) (by decide)) (isC := []) rfl rfl rfl (WS' := sw_M a q5 fa tr la sl ce pn mn cl le ri lt nm nc nl nr nt at9 en9 de mm ma ne us lk sd sf nu gt gl tb sc su) rfl rfl hl.1 (Nat.le_of_ble_eq_true rfl) dX10_shorter_13 ⟨Nat.zero_le _, Nat.zero_le _⟩ rfl (fun H locs hW => ?_)
    refine lv_if_ne (tgt := 22) hx hb dX10_shorter_16 (by decide) (fun hc => ?_) (fun hc => ?_)
    · have hf := sp_hf hf hc
      refine lv_aload_n hx hb dX10_shorter_22 rfl (lv_at hl 0 rfl) ?_
      refine lv_iload_n hx hb dX10_shorter_23 rfl (lv_at hl 1 rfl) ?_
      obtain ⟨r3, hc3, hf⟩ := sp_hc hf
      refine sp_callViP (rest := []) S hK hG hA hW (c_X10_restsOf a fa tr la sl ce pn mn cl le ri lt nm nc nl nr nt at9 en9 de mm ma ne us lk sd sf nu gt gl tb sc su p1 hc3) (by decide) (cwV 1 S.2.2.2.2 gX10_shorter_X10_restsOf rfl rfl rfl (by decide +kernel) (by decide)) 8 0 rfl rfl (sp_pn _) rfl (WS' := sw_M a q5 fa tr la sl ce pn mn cl le ri lt nm nc nl nr nt at9 en9 de mm ma ne us lk sd sf nu gt gl tb sc su) (sp_pn' _) rfl hl.1 (Nat.le_of_ble_eq_true rfl) dX10_shorter_24 ⟨Nat.zero_le _, Nat.zero_le _⟩ rfl (fun H locs hW => ?_)
      refine lv_istore_n (lv' := [(3, .int r3), (0, .ref (a 0)), (1, .int p1), (2, .int p2)]) hx hb dX10_shorter_27 rfl hl (by decide) rfl (fun ls hl => ?_)
      refine lv_aload_n hx hb dX10_shorter_28 rfl (lv_at hl 1 rfl) ?_
      refine lv_iload_n hx hb dX10_shorter_29 rfl (lv_at hl 2 rfl) ?_
      refine lv_iload_n hx hb dX10_shorter_30 rfl (lv_at hl 0 rfl) ?_
      obtain ⟨c4, hc4, hf⟩ := sp_hc hf
      refine sp_callVvP (rest := []) S hK hG hA hW (c_X10_laySafe a fa tr la sl ce pn mn cl le ri lt nm nc nl nr nt at9 en9 de mm ma ne us lk sd sf nu gt gl tb sc su p1 r3 hc4) (by decide) (cwV 2 S.2.2.2.2 gX10_shorter_X10_laySafe rfl rfl rfl (by decide +kernel) (by decide)) 8 0 rfl rfl (sp_pn _) rfl (WS' := sw_M a q5 fa tr la sl ce pn mn cl le ri lt nm nc nl nr nt at9 en9 de mm ma ne us lk sd c4 nu gt gl tb sc su) (sp_pn' _) rfl hl.1 (Nat.le_of_ble_eq_true rfl) dX10_shorter_31 ⟨Nat.zero_le _, Nat.zero_le _⟩ rfl (fun H locs hW => ?_)
      refine lv_aload_n hx hb dX10_shorter_34 rfl (lv_at hl 1 rfl) ?_
      refine lv_iconst (v := 0) hx hb dX10_shorter_35 (by decide) ?_
      refine sp_put S hK hW inX10 tyX10_ok nmX10 0 rfl rfl 11 (by decide) lk1 rfl rfl rfl (Nat.le_of_ble_eq_true rfl) (ws' := sw_M a q5 fa tr la sl ce pn mn cl le ri lt (0 : Int32) nc nl nr nt at9 en9 de mm ma ne us lk sd c4 nu gt gl tb sc su) rfl dX10_shorter_36 (fun H locs hW => ?_)
      refine lv_iconst (v := 0) hx hb dX10_shorter_39 (by decide) ?_
      refine lv_istore (lv' := [(4, .int (0 : Int32)), (3, .int r3), (0, .ref (a 0)), (1, .int p1), (2, .int p2)]) hx hb dX10_shorter_40 hl (by decide) rfl (fun ls hl => ?_)
      obtain ⟨k18, ek18, hf⟩ := sp_hb hf
      have hj18 : ∀ (c12 : Int32) (c13 : Nat → Int32) (c14 : Nat → Int32) (c15 : Nat → Int32) (c16 : Nat → Int32) (c17 : Nat → Int32) (H : Heap) (locs : List Loc) (ls : Array Slot), k18 c12 c13 c14 c15 c16 c17 = some (r', pn', mn', cl', le', ri', lt', nm', nc', nl', nr', nt', sd', sf', nu') → sp_wd D A s.heap (sw_M a q5 fa tr la sl ce pn mn cl le ri lt c12 c13 c14 c15 c16 at9 en9 de mm ma ne us lk c17 c4 nu gt gl tb sc su) H locs → lv_has ls 5 [(0, .ref (a 0)), (1, .int p1), (2, .int p2), (3, .int r3)] → W p l e rmX10_shorter s m args below meth c H locs 0 0 Q (F0 m 91 ls []) := by
        intro c12 c13 c14 c15 c16 c17 H locs ls hf hW hl
        rw [ek18] at hf
        refine lv_iload_n hx hb dX10_shorter_91 rfl (lv_at hl 2 rfl) ?_
        refine lv_iconst (v := 4) hx hb dX10_shorter_92 (by decide) ?_
        obtain ⟨k25, ek25, hf⟩ := sp_hb hf
        have hj25 : ∀ (x19 : Int32) (c20 : Int32) (c21 : Nat → Int32) (c22 : Nat → Int32) (c23 : Nat → Int32) (c24 : Nat → Int32) (H : Heap) (locs : List Loc) (ls : Array Slot), k25 x19 c20 c21 c22 c23 c24 = some (r', pn', mn', cl', le', ri', lt', nm', nc', nl', nr', nt', sd', sf', nu') → sp_wd D A s.heap (sw_M a q5 fa tr la sl ce pn mn cl le ri lt c20 c21 c22 c23 c24 at9 en9 de mm ma ne us lk c17 c4 nu gt gl tb sc su) H locs → lv_has ls 5 [(0, .ref (a 0))] → W p l e rmX10_shorter s m args below meth c H locs 0 0 Q (F0 m 118 ls [.int x19]) := by
          intro x19 c20 c21 c22 c23 c24 H locs ls hf hW hl
          rw [ek25] at hf
          refine lv_istore (lv' := [(4, .int x19), (0, .ref (a 0))]) hx hb dX10_shorter_118 hl (by decide) rfl (fun ls hl => ?_)
          refine lv_iload hx hb dX10_shorter_120 (lv_at hl 0 rfl) ?_
          refine lv_bipush (v := (-9)) hx hb dX10_shorter_122 (by decide) ?_
          refine lv_icmp_ne (tgt := 130) hx hb dX10_shorter_124 (by decide) (fun hc => ?_) (fun hc => ?_)
          · have hf := sp_hf hf hc
            refine lv_aload_n hx hb dX10_shorter_130 rfl (lv_at hl 1 rfl) ?_
            refine lv_iload hx hb dX10_shorter_131 (lv_at hl 0 rfl) ?_
            obtain ⟨⟨c26, c27, c28, c29, c30, c31⟩, hc31, hf⟩ := sp_hc hf
            refine sp_callVvP (rest := []) S hK hG hA hW (c_X10_closeUp a fa tr la sl ce pn mn cl le ri lt c20 c21 c22 c23 c24 at9 en9 de mm ma ne us lk c17 c4 nu gt gl tb sc su x19 hc31) (by decide) (cwV 1 S.2.2.2.2 gX10_shorter_X10_closeUp rfl rfl rfl (by decide +kernel) (by decide)) 8 0 rfl rfl (sp_pn _) rfl (WS' := sw_M a q5 fa tr la sl ce pn mn cl le ri lt c26 c27 c28 c29 c30 at9 en9 de mm ma ne us lk c17 c4 c31 gt gl tb sc su) (sp_pn' _) rfl hl.1 (Nat.le_of_ble_eq_true rfl) dX10_shorter_133 ⟨Nat.zero_le _, Nat.zero_le _⟩ rfl (fun H locs hW => ?_)
            refine lv_aload_n hx hb dX10_shorter_136 rfl (lv_at hl 1 rfl) ?_
            obtain ⟨⟨r32, c33, c34, c35, c36, c37, c38⟩, hc38, hf⟩ := sp_hc hf
            refine sp_callViP (rest := []) S hK hG hA hW (c_X10_comes a fa tr la sl ce pn mn cl le ri lt c26 c27 c28 c29 c30 at9 en9 de mm ma ne us lk c17 c4 c31 gt gl tb sc su hc38) (by decide) (cwV 0 S.2.2.2.2 gX10_shorter_X10_comes rfl rfl rfl (by decide +kernel) (by decide)) 8 0 rfl rfl (sp_pn _) rfl (WS' := sw_M a q5 fa tr la sl ce c33 c34 c35 c36 c37 c38 c26 c27 c28 c29 c30 at9 en9 de mm ma ne us lk c17 c4 c31 gt gl tb sc su) (sp_pn' _) rfl hl.1 (Nat.le_of_ble_eq_true rfl) dX10_shorter_137 ⟨Nat.zero_le _, Nat.zero_le _⟩ rfl (fun H locs hW => ?_)
            have q0 := Option.some.inj hf
            obtain ⟨q1, z1⟩ := Prod.mk.inj q0
            obtain ⟨q2, z2⟩ := Prod.mk.inj z1
            obtain ⟨q3, z3⟩ := Prod.mk.inj z2
            obtain ⟨q4, z4⟩ := Prod.mk.inj z3
            obtain ⟨q5, z5⟩ := Prod.mk.inj z4
            obtain ⟨q6, z6⟩ := Prod.mk.inj z5
            obtain ⟨q7, z7⟩ := Prod.mk.inj z6
            obtain ⟨q8, z8⟩ := Prod.mk.inj z7
            obtain ⟨q9, z9⟩ := Prod.mk.inj z8
            obtain ⟨q10, z10⟩ := Prod.mk.inj z9
            obtain ⟨q11, z11⟩ := Prod.mk.inj z10
            obtain ⟨q12, z12⟩ := Prod.mk.inj z11
            obtain ⟨q13, z13⟩ := Prod.mk.inj z12
            obtain ⟨q14, z14⟩ := Prod.mk.inj z13
            subst q1
            subst q2
            subst q3
            subst q4
            subst q5
            subst q6
            subst q7
            subst q8
            subst q9
            subst q10
            subst q11
            subst q12
            subst q13
            subst q14
            subst z14
            exact sp_iret S hr hlk hW hQ dX10_shorter_140
          · have hf := sp_ht hf hc
            refine lv_bipush (v := (-3)) hx hb dX10_shorter_127 (by decide) ?_
            have q0 := Option.some.inj hf
            obtain ⟨q1, z1⟩ := Prod.mk.inj q0
            obtain ⟨q2, z2⟩ := Prod.mk.inj z1
            obtain ⟨q3, z3⟩ := Prod.mk.inj z2
            obtain ⟨q4, z4⟩ := Prod.mk.inj z3
            obtain ⟨q5, z5⟩ := Prod.mk.inj z4
            obtain ⟨q6, z6⟩ := Prod.mk.inj z5
            obtain ⟨q7, z7⟩ := Prod.mk.inj z6
            obtain ⟨q8, z8⟩ := Prod.mk.inj z7
            obtain ⟨q9, z9⟩ := Prod.mk.inj z8
            obtain ⟨q10, z10⟩ := Prod.mk.inj z9
            obtain ⟨q11, z11⟩ := Prod.mk.inj z10
            obtain ⟨q12, z12⟩ := Prod.mk.inj z11
            obtain ⟨q13, z13⟩ := Prod.mk.inj z12
            obtain ⟨q14, z14⟩ := Prod.mk.inj z13
            subst q1
            subst q2
            subst q3
            subst q4
            subst q5
            subst q6
            subst q7
            subst q8
            subst q9
            subst q10
            subst q11
            subst q12
            subst q13
            subst q14
            subst z14
            exact sp_iret S hr hlk hW hQ dX10_shorter_129
        refine lv_icmp_ne (tgt := 105) hx hb dX10_shorter_93 (by decide) (fun hc => ?_) (fun hc => ?_)
        · have hf := sp_hf hf hc
          refine lv_aload_n hx hb dX10_shorter_105 rfl (lv_at hl 0 rfl) ?_
          refine sp_get S hK hW inX10 0 rfl rfl 24 (by decide) lk2 rfl dX10_shorter_106 ?_
          refine lv_aload_n hx hb dX10_shorter_109 rfl (lv_at hl 0 rfl) ?_
          refine sp_get S hK hW inX10 0 rfl rfl 6 (by decide) lk3 rfl dX10_shorter_110 ?_
          refine lv_iload_n hx hb dX10_shorter_113 rfl (lv_at hl 1 rfl) ?_
          obtain ⟨hin, v39, ev39, hf⟩ := sp_hld hf
          refine sp_iald S hK hW 4 rfl hin ev39 dX10_shorter_114 ?_
          refine lv_iconst (v := 1) hx hb dX10_shorter_115 (by decide) ?_
          refine lv_isub hx hb dX10_shorter_116 ?_
          obtain ⟨hin, v40, ev40, hf⟩ := sp_hld hf
          refine sp_iald S hK hW 18 rfl hin ev40 dX10_shorter_117 ?_
          exact hj25 _ _ _ _ _ _ _ _ _ hf hW (lv_sub hl [0] rfl)
        · have hf := sp_ht hf hc
          refine lv_aload_n hx hb dX10_shorter_96 rfl (lv_at hl 0 rfl) ?_
          refine lv_iload_n hx hb dX10_shorter_97 rfl (lv_at hl 1 rfl) ?_
          refine lv_iload_n hx hb dX10_shorter_98 rfl (lv_at hl 3 rfl) ?_
          obtain ⟨⟨r41, c42, c43, c44, c45, c46⟩, hc46, hf⟩ := sp_hc hf
          refine sp_callViP (rest := []) S hK hG hA hW (c_X10_cutUnits a fa tr la sl ce pn mn cl le ri lt c12 c13 c14 c15 c16 at9 en9 de mm ma ne us lk c17 c4 nu gt gl tb sc su p1 r3 hc46) (by decide) (cwV 2 S.2.2.2.2 gX10_shorter_X10_cutUnits rfl rfl rfl (by decide +kernel) (by decide)) 8 0 rfl rfl (sp_pn _) rfl (WS' := sw_M a q5 fa tr la sl ce pn mn cl le ri lt c42 c43 c44 c45 c46 at9 en9 de mm ma ne us lk c17 c4 nu gt gl tb sc su) (sp_pn' _) rfl hl.1 (Nat.le_of_ble_eq_true rfl) dX10_shorter_99 ⟨Nat.zero_le _, Nat.zero_le _⟩ rfl (fun H locs hW => ?_)
          refine lv_goto (tgt := 118) hx hb dX10_shorter_102 (by decide) ?_
          exact hj25 _ _ _ _ _ _ _ _ _ hf hW (lv_sub hl [0] rfl)
      have hlp42 : ∀ (n9 : Nat) (y5 : Int32) (c6 : Int32) (c7 : Nat → Int32) (c8 : Nat → Int32) (c9 : Nat → Int32) (c10 : Nat → Int32) (c11 : Nat → Int32) (H : Heap) (locs : List Loc) (ls : Array Slot), sp_lp (f_X10_shorter_L42 mn p1 k18 p2 r3 cl le ri lt c4 pn nu) n9 (y5, c6, c7, c8, c9, c10, c11) = some (r', pn', mn', cl', le', ri', lt', nm', nc', nl', nr', nt', sd', sf', nu') → sp_wd D A s.heap (sw_M a q5 fa tr la sl ce pn mn cl le ri lt c6 c7 c8 c9 c10 at9 en9 de mm ma ne us lk c11 c4 nu gt gl tb sc su) H locs → lv_has ls 5 [(0, .ref (a 0)), (1, .int p1), (2, .int p2), (3, .int r3), (4, .int y5)] → W p l e rmX10_shorter s m args below meth c H locs 0 0 Q (F0 m 42 ls []) := by
        intro n9
        induction n9 with
        | zero =>
          intro y5 c6 c7 c8 c9 c10 c11 H locs ls hf hW hl
          exact (sp_lp0 hf).elim
        | succ n9 ih42 =>
          intro y5 c6 c7 c8 c9 c10 c11 H locs ls hf hW hl
          have hf := sp_lpS hf
          rw [f_X10_shorter_L42_eq] at hf
          refine lv_iload hx hb dX10_shorter_42 (lv_at hl 4 rfl) ?_
          refine lv_aload_n hx hb dX10_shorter_44 rfl (lv_at hl 0 rfl) ?_
          refine sp_get S hK hW inX10 0 rfl rfl 6 (by decide) lk3 rfl dX10_shorter_45 ?_
          refine lv_iload_n hx hb dX10_shorter_48 rfl (lv_at hl 1 rfl) ?_
          obtain ⟨hin, v47, ev47, hf⟩ := sp_hld hf
          refine sp_iald S hK hW 4 rfl hin ev47 dX10_shorter_49 ?_
          refine lv_icmp_ge (tgt := 91) hx hb dX10_shorter_50 (by decide) (fun hc => ?_) (fun hc => ?_)
          · have hf := sp_ht hf hc
            exact hj18 _ _ _ _ _ _ _ _ _ hf hW (lv_sub hl [0, 1, 2, 3] rfl)
          · have hf := sp_hf hf hc
            refine lv_aload_n hx hb dX10_shorter_53 rfl (lv_at hl 0 rfl) ?_
            refine sp_get S hK hW inX10 0 rfl rfl 24 (by decide) lk2 rfl dX10_shorter_54 ?_
            refine lv_iload hx hb dX10_shorter_57 (lv_at hl 4 rfl) ?_
            refine lv_aload_n hx hb dX10_shorter_59 rfl (lv_at hl 0 rfl) ?_
            refine lv_iload_n hx hb dX10_shorter_60 rfl (lv_at hl 1 rfl) ?_
            refine lv_iload hx hb dX10_shorter_61 (lv_at hl 4 rfl) ?_
            refine lv_iload_n hx hb dX10_shorter_63 rfl (lv_at hl 2 rfl) ?_
            refine lv_iload_n hx hb dX10_shorter_64 rfl (lv_at hl 3 rfl) ?_
            refine lv_iconst (v := 0) hx hb dX10_shorter_65 (by decide) ?_
            obtain ⟨⟨r48, c49, c50, c51, c52, c53⟩, hc53, hf⟩ := sp_hc hf
            refine sp_callViP (rest := [.int y5, .ref (a 18)]) S hK hG hA hW (c_X10_standFor a fa tr la sl ce pn mn cl le ri lt c6 c7 c8 c9 c10 at9 en9 de mm ma ne us lk c11 c4 nu gt gl tb sc su p1 y5 p2 r3 (0 : Int32) hc53) (by decide) (cwV 5 S.2.2.2.2 gX10_shorter_X10_standFor rfl rfl rfl (by decide +kernel) (by decide)) 8 0 rfl rfl (sp_pn _) rfl (WS' := sw_M a q5 fa tr la sl ce pn mn cl le ri lt c49 c50 c51 c52 c53 at9 en9 de mm ma ne us lk c11 c4 nu gt gl tb sc su) (sp_pn' _) rfl hl.1 (Nat.le_of_ble_eq_true rfl) dX10_shorter_66 ⟨Nat.zero_le _, Nat.zero_le _⟩ rfl (fun H locs hW => ?_)
            obtain ⟨hin, c54, ec54, hf⟩ := sp_hst hf
            refine sp_iast S hK hW 18 rfl hin ec54 (ws' := sw_M a q5 fa tr la sl ce pn mn cl le ri lt c49 c50 c51 c52 c53 at9 en9 de mm ma ne us lk c54 c4 nu gt gl tb sc su) rfl dX10_shorter_69 (fun H locs hW => ?_)
            refine lv_aload_n hx hb dX10_shorter_70 rfl (lv_at hl 0 rfl) ?_
            refine sp_get S hK hW inX10 0 rfl rfl 24 (by decide) lk2 rfl dX10_shorter_71 ?_
            refine lv_iload hx hb dX10_shorter_74 (lv_at hl 4 rfl) ?_
            obtain ⟨hin, v55, ev55, hf⟩ := sp_hld hf
            refine sp_iald S hK hW 18 rfl hin ev55 dX10_shorter_76 ?_
            refine lv_bipush (v := (-9)) hx hb dX10_shorter_77 (by decide) ?_
            refine lv_icmp_ne (tgt := 85) hx hb dX10_shorter_79 (by decide) (fun hc => ?_) (fun hc => ?_)
            · have hf := sp_hf hf hc
              obtain ⟨v56, ev56, hf⟩ := sp_hb hf
              refine lv_iinc (v := v56) (lv' := [(4, .int v56), (0, .ref (a 0)), (1, .int p1), (2, .int p2), (3, .int r3)]) hx hb dX10_shorter_85 hl (k := 4) rfl (by rw [ev56]; rfl) (by decide) rfl (fun ls hl => ?_)
              refine lv_goto (tgt := 42) hx hb dX10_shorter_88 (by decide) ?_
              exact ih42 _ _ _ _ _ _ _ _ _ _ hf hW (lv_sub hl [1, 2, 3, 4, 0] rfl)
            · have hf := sp_ht hf hc
              refine lv_bipush (v := (-3)) hx hb dX10_shorter_82 (by decide) ?_
              have q0 := Option.some.inj hf
              obtain ⟨q1, z1⟩ := Prod.mk.inj q0
              obtain ⟨q2, z2⟩ := Prod.mk.inj z1
              obtain ⟨q3, z3⟩ := Prod.mk.inj z2
              obtain ⟨q4, z4⟩ := Prod.mk.inj z3
              obtain ⟨q5, z5⟩ := Prod.mk.inj z4
              obtain ⟨q6, z6⟩ := Prod.mk.inj z5
              obtain ⟨q7, z7⟩ := Prod.mk.inj z6
              obtain ⟨q8, z8⟩ := Prod.mk.inj z7
              obtain ⟨q9, z9⟩ := Prod.mk.inj z8
              obtain ⟨q10, z10⟩ := Prod.mk.inj z9
              obtain ⟨q11, z11⟩ := Prod.mk.inj z10
              obtain ⟨q12, z12⟩ := Prod.mk.inj z11
              obtain ⟨q13, z13⟩ := Prod.mk.inj z12
              obtain ⟨q14, z14⟩ := Prod.mk.inj z13
              subst q1
              subst q2
              subst q3
              subst q4
              subst q5
              subst q6
              subst q7
              subst q8
              subst q9
              subst q10
              subst q11
              subst q12
              subst q13
              subst q14
              subst z14
              exact sp_iret S hr hlk hW hQ dX10_shorter_84
      exact hlp42 _ _ _ _ _ _ _ _ _ _ _ hf hW (lv_sub hl [2, 3, 4, 1, 0] rfl)
    · have hf := sp_ht hf hc
      refine lv_bipush (v := (-2)) hx hb dX10_shorter_19 (by decide) ?_
      have q0 := Option.some.inj hf
      obtain ⟨q1, z1⟩ := Prod.mk.inj q0
      obtain ⟨q2, z2⟩ := Prod.mk.inj z1
      obtain ⟨q3, z3⟩ := Prod.mk.inj z2
      obtain ⟨q4, z4⟩ := Prod.mk.inj z3
      obtain ⟨q5, z5⟩ := Prod.mk.inj z4
      obtain ⟨q6, z6⟩ := Prod.mk.inj z5
      obtain ⟨q7, z7⟩ := Prod.mk.inj z6
      obtain ⟨q8, z8⟩ := Prod.mk.inj z7
      obtain ⟨q9, z9⟩ := Prod.mk.inj z8
      obtain ⟨q10, z10⟩ := Prod.mk.inj z9
      obtain ⟨q11, z11⟩ := Prod.mk.inj z10
      obtain ⟨q12, z12⟩ := Prod.mk.inj z11
      obtain ⟨q13, z13⟩ := Prod.mk.inj z12
      obtain ⟨q14, z14⟩ := Prod.mk.inj z13
      subst q1
      subst q2
      subst q3
      subst q4
      subst q5
      subst q6
      subst q7
      subst q8
      subst q9
      subst q10
      subst q11
      subst q12
      subst q13
      subst q14
      subst z14
      exact sp_iret S hr hlk hW hQ dX10_shorter_21
  · have hf := sp_ht hf hc
    refine lv_iconst (v := (-1)) hx hb dX10_shorter_8 (by decide) ?_
    have q0 := Option.some.inj hf
    obtain ⟨q1, z1⟩ := Prod.mk.inj q0
    obtain ⟨q2, z2⟩ := Prod.mk.inj z1
    obtain ⟨q3, z3⟩ := Prod.mk.inj z2
    obtain ⟨q4, z4⟩ := Prod.mk.inj z3
    obtain ⟨q5, z5⟩ := Prod.mk.inj z4
    obtain ⟨q6, z6⟩ := Prod.mk.inj z5
    obtain ⟨q7, z7⟩ := Prod.mk.inj z6
    obtain ⟨q8, z8⟩ := Prod.mk.inj z7
    obtain ⟨q9, z9⟩ := Prod.mk.inj z8
    obtain ⟨q10, z10⟩ := Prod.mk.inj z9
    obtain ⟨q11, z11⟩ := Prod.mk.inj z10
    obtain ⟨q12, z12⟩ := Prod.mk.inj z11
    obtain ⟨q13, z13⟩ := Prod.mk.inj z12
    obtain ⟨q14, z14⟩ := Prod.mk.inj z13
    subst q1
    subst q2
    subst q3
    subst q4
    subst q5
    subst q6
    subst q7
    subst q8
    subst q9
    subst q10
    subst q11
    subst q12
    subst q13
    subst q14
    subst z14
    exact sp_iret S hr hlk hW hQ dX10_shorter_9

def f_X10_twice_L30 (y3 : Int32) (k10 : Int32 → Option (Int32)) (cl : Nat → Int32) (p1 : Int32) (rec30 : (Int32 × Int32) → Option (Int32)) (s9 : Int32 × Int32) : Option (Int32) := match s9 with
  | (y7, y8) => if y3 ≤ y8 then (k10 y7) else (sp_ld cl 288 (((24 : Int32) * p1) + y8) (fun v15 => sp_ld cl 288 (((24 : Int32) * p1) + y3) (fun v16 => sp_bnd (fun (x17 : Int32) => sp_bnd (y7 ||| x17) (fun v19 => sp_bnd (y8 + (1 : Int32)) (fun v20 => rec30 (v19, v20)))) (fun k18 => if v15 = v16 then (k18 (1 : Int32)) else (k18 (0 : Int32))))))
theorem f_X10_twice_L30_eq {rec30 : (Int32 × Int32) → Option (Int32)} {y3 : Int32} {k10 : Int32 → Option (Int32)} {cl : Nat → Int32} {p1 : Int32} {y7 : Int32} {y8 : Int32} : f_X10_twice_L30 y3 k10 cl p1 rec30 (y7, y8) = (if y3 ≤ y8 then (k10 y7) else (sp_ld cl 288 (((24 : Int32) * p1) + y8) (fun v15 => sp_ld cl 288 (((24 : Int32) * p1) + y3) (fun v16 => sp_bnd (fun (x17 : Int32) => sp_bnd (y7 ||| x17) (fun v19 => sp_bnd (y8 + (1 : Int32)) (fun v20 => rec30 (v19, v20)))) (fun k18 => if v15 = v16 then (k18 (1 : Int32)) else (k18 (0 : Int32))))))) := rfl
def f_X10_twice_L14 (mn : Nat → Int32) (p1 : Int32) (k5 : Int32 → Option (Int32)) (cl : Nat → Int32) (rec14 : (Int32 × Int32) → Option (Int32)) (s9 : Int32 × Int32) : Option (Int32) := match s9 with
  | (y2, y3) => sp_ld mn 12 p1 (fun v6 => if v6 ≤ y3 then (k5 y2) else (sp_bnd (fun (x9 : Int32) => sp_bnd (fun (x11 : Int32) => sp_bnd (y2 + x11) (fun v13 => sp_bnd (y3 + (1 : Int32)) (fun v14 => rec14 (v13, v14)))) (fun k12 => if x9 = 0 then (k12 (0 : Int32)) else (k12 (1 : Int32)))) (fun k10 => sp_lp (f_X10_twice_L30 y3 k10 cl p1) sp_F ((0 : Int32), (0 : Int32)))))
theorem f_X10_twice_L14_eq {rec14 : (Int32 × Int32) → Option (Int32)} {mn : Nat → Int32} {p1 : Int32} {k5 : Int32 → Option (Int32)} {cl : Nat → Int32} {y2 : Int32} {y3 : Int32} : f_X10_twice_L14 mn p1 k5 cl rec14 (y2, y3) = (sp_ld mn 12 p1 (fun v6 => if v6 ≤ y3 then (k5 y2) else (sp_bnd (fun (x9 : Int32) => sp_bnd (fun (x11 : Int32) => sp_bnd (y2 + x11) (fun v13 => sp_bnd (y3 + (1 : Int32)) (fun v14 => rec14 (v13, v14)))) (fun k12 => if x9 = 0 then (k12 (0 : Int32)) else (k12 (1 : Int32)))) (fun k10 => sp_lp (f_X10_twice_L30 y3 k10 cl p1) sp_F ((0 : Int32), (0 : Int32)))))) := rfl
def f_X10_twice (p1 : Int32) (pn : Int32) (mn : Nat → Int32) (cl : Nat → Int32) : Option (Int32) := Option.bind (f_X10_isProof p1 pn) (fun r1 => if r1 = 0 then (some (-1 : Int32)) else (sp_bnd (fun (x4 : Int32) => some x4) (fun k5 => sp_lp (f_X10_twice_L14 mn p1 k5 cl) sp_F ((0 : Int32), (0 : Int32)))))
def rmX10_twice : Room := { frames := 1, cells := 0, slots := 0, locals := 21 }
set_option maxRecDepth 4000 in
theorem c_X10_twice {l : Launch} {D : va_G} {q5 : Nat → ClassId} (a : Nat → Nat) (fa : Int32) (tr : Int32) (la : Nat → Int32) (sl : Nat → Int32) (ce : Nat → Int32) (pn : Int32) (mn : Nat → Int32) (cl : Nat → Int32) (le : Nat → Int32) (ri : Nat → Int32) (lt : Nat → Int32) (nm : Int32) (nc : Nat → Int32) (nl : Nat → Int32) (nr : Nat → Int32) (nt : Nat → Int32) (at9 : Int32) (en9 : Int32) (de : Nat → Int32) (mm : Int32) (ma : Nat → Int32) (ne : Nat → Int32) (us : Nat → Int32) (lk : Nat → Int32) (sd : Nat → Int32) (sf : Nat → Int32) (nu : Nat → Int32) (gt : Nat → Int64) (gl : Nat → Int32) (tb : Nat → Int64) (sc : Nat → Int32) (su : Nat → Int32) (p1 : Int32) {r' : Int32} (hf : f_X10_twice p1 pn mn cl = some r') : sp_Ci l yX10_twice wsX10_twice rmX10_twice D q5 0 [.ref (a 0), .int p1] (sw_M a q5 fa tr la sl ce pn mn cl le ri lt nm nc nl nr nt at9 en9 de mm ma ne us lk sd sf nu gt gl tb sc su) r' (sw_M a q5 fa tr la sl ce pn mn cl le ri lt nm nc nl nr nt at9 en9 de mm ma ne us lk sd sf nu gt gl tb sc su) := by
  intro sz
  refine sp_of (cc := cX10_twice) (maxL := 6) (ret := some .int) (own := RX10) (Qc := sp_Qi D r' (sw_M a q5 fa tr la sl ce pn mn cl le ri lt nm nc nl nr nt at9 en9 de mm ma ne us lk sd sf nu gt gl tb sc su)) (by decide) rfl rfl (Nat.le_of_ble_eq_true rfl) ?_
  intro p e s m args below meth c A ls Q hQ S hr hlk hK hG hA hW hl
  have hx := S.1
  have hb := S.2.1
  unfold f_X10_twice at hf
  have inX10 : ∀ w ∈ u_ws RX10 TX10 32, w ∈ wsX10_twice := (fun _ h => List.mem_cons_of_mem _ (List.mem_append_right _ h))
  have lk1 := S.2.2.2.2 (Cond.fieldLink RX10 19 "ShortProofsModel" "many" "[I") (List.mem_of_getElem? (i := 1) rfl)
  have lk2 := S.2.2.2.2 (Cond.fieldLink RX10 22 "ShortProofsModel" "clauses" "[I") (List.mem_of_getElem? (i := 2) rfl)
  refine lv_aload_n hx hb dX10_twice_0 rfl (lv_at hl 0 rfl) ?_
  refine lv_iload_n hx hb dX10_twice_1 rfl (lv_at hl 1 rfl) ?_
  obtain ⟨r1, hc1, hf⟩ := sp_hc hf
  refine sp_callViP (rest := []) S hK hG hA hW (c_X10_isProof a fa tr la sl ce pn mn cl le ri lt nm nc nl nr nt at9 en9 de mm ma ne us lk sd sf nu gt gl tb sc su p1 hc1) (by decide) (cwV 1 S.2.2.2.2 gX10_twice_X10_isProof rfl rfl rfl (by decide +kernel) (by decide)) 8 0 rfl rfl (sp_pn _) rfl (WS' := sw_M a q5 fa tr la sl ce pn mn cl le ri lt nm nc nl nr nt at9 en9 de mm ma ne us lk sd sf nu gt gl tb sc su) (sp_pn' _) rfl hl.1 (Nat.le_of_ble_eq_true rfl) dX10_twice_2 ⟨Nat.zero_le _, Nat.zero_le _⟩ rfl (fun H locs hW => ?_)
  refine lv_if_ne (tgt := 10) hx hb dX10_twice_5 (by decide) (fun hc => ?_) (fun hc => ?_)
  · have hf := sp_hf hf hc
    refine lv_iconst (v := 0) hx hb dX10_twice_10 (by decide) ?_
    refine lv_istore_n (lv' := [(2, .int (0 : Int32)), (0, .ref (a 0)), (1, .int p1)]) hx hb dX10_twice_11 rfl hl (by decide) rfl (fun ls hl => ?_)
    refine lv_iconst (v := 0) hx hb dX10_twice_12 (by decide) ?_
    refine lv_istore_n (lv' := [(3, .int (0 : Int32)), (2, .int (0 : Int32)), (0, .ref (a 0)), (1, .int p1)]) hx hb dX10_twice_13 rfl hl (by decide) rfl (fun ls hl => ?_)
    obtain ⟨k5, ek5, hf⟩ := sp_hb hf
    have hj5 : ∀ (x4 : Int32) (H : Heap) (locs : List Loc) (ls : Array Slot), k5 x4 = some r' → sp_wd D A s.heap (sw_M a q5 fa tr la sl ce pn mn cl le ri lt nm nc nl nr nt at9 en9 de mm ma ne us lk sd sf nu gt gl tb sc su) H locs → lv_has ls 6 [(2, .int x4)] → W p l e rmX10_twice s m args below meth c H locs 0 0 Q (F0 m 97 ls []) := by
      intro x4 H locs ls hf hW hl
      rw [ek5] at hf
      refine lv_iload_n hx hb dX10_twice_97 rfl (lv_at hl 0 rfl) ?_
      have q0 := Option.some.inj hf
      subst q0
      exact sp_iret S hr hlk hW hQ dX10_twice_98
    have hlp14 : ∀ (n9 : Nat) (y2 : Int32) (y3 : Int32) (H : Heap) (locs : List Loc) (ls : Array Slot), sp_lp (f_X10_twice_L14 mn p1 k5 cl) n9 (y2, y3) = some r' → sp_wd D A s.heap (sw_M a q5 fa tr la sl ce pn mn cl le ri lt nm nc nl nr nt at9 en9 de mm ma ne us lk sd sf nu gt gl tb sc su) H locs → lv_has ls 6 [(0, .ref (a 0)), (1, .int p1), (2, .int y2), (3, .int y3)] → W p l e rmX10_twice s m args below meth c H locs 0 0 Q (F0 m 14 ls []) := by
      intro n9
      induction n9 with
      | zero =>
        intro y2 y3 H locs ls hf hW hl
        exact (sp_lp0 hf).elim
      | succ n9 ih14 =>
        intro y2 y3 H locs ls hf hW hl
        have hf := sp_lpS hf
        rw [f_X10_twice_L14_eq] at hf
        refine lv_iload_n hx hb dX10_twice_14 rfl (lv_at hl 3 rfl) ?_
        refine lv_aload_n hx hb dX10_twice_15 rfl (lv_at hl 0 rfl) ?_
        refine sp_get S hK hW inX10 0 rfl rfl 6 (by decide) lk1 rfl dX10_twice_16 ?_
        refine lv_iload_n hx hb dX10_twice_19 rfl (lv_at hl 1 rfl) ?_
        obtain ⟨hin, v6, ev6, hf⟩ := sp_hld hf
        refine sp_iald S hK hW 4 rfl hin ev6 dX10_twice_20 ?_
        refine lv_icmp_ge (tgt := 97) hx hb dX10_twice_21 (by decide) (fun hc => ?_) (fun hc => ?_)
        · have hf := sp_ht hf hc
          exact hj5 _ _ _ _ hf hW (lv_sub hl [2] rfl)
        · have hf := sp_hf hf hc
          refine lv_iconst (v := 0) hx hb dX10_twice_24 (by decide) ?_
          refine lv_istore (lv' := [(4, .int (0 : Int32)), (0, .ref (a 0)), (1, .int p1), (2, .int y2), (3, .int y3)]) hx hb dX10_twice_25 hl (by decide) rfl (fun ls hl => ?_)
          refine lv_iconst (v := 0) hx hb dX10_twice_27 (by decide) ?_
          refine lv_istore (lv' := [(5, .int (0 : Int32)), (4, .int (0 : Int32)), (0, .ref (a 0)), (1, .int p1), (2, .int y2), (3, .int y3)]) hx hb dX10_twice_28 hl (by decide) rfl (fun ls hl => ?_)
          obtain ⟨k10, ek10, hf⟩ := sp_hb hf
          have hj10 : ∀ (x9 : Int32) (H : Heap) (locs : List Loc) (ls : Array Slot), k10 x9 = some r' → sp_wd D A s.heap (sw_M a q5 fa tr la sl ce pn mn cl le ri lt nm nc nl nr nt at9 en9 de mm ma ne us lk sd sf nu gt gl tb sc su) H locs → lv_has ls 6 [(0, .ref (a 0)), (1, .int p1), (2, .int y2), (3, .int y3), (4, .int x9)] → W p l e rmX10_twice s m args below meth c H locs 0 0 Q (F0 m 78 ls []) := by
            intro x9 H locs ls hf hW hl
            rw [ek10] at hf
            refine lv_iload_n hx hb dX10_twice_78 rfl (lv_at hl 2 rfl) ?_
            refine lv_iload hx hb dX10_twice_79 (lv_at hl 4 rfl) ?_
            obtain ⟨k12, ek12, hf⟩ := sp_hb hf
            have hj12 : ∀ (x11 : Int32) (H : Heap) (locs : List Loc) (ls : Array Slot), k12 x11 = some r' → sp_wd D A s.heap (sw_M a q5 fa tr la sl ce pn mn cl le ri lt nm nc nl nr nt at9 en9 de mm ma ne us lk sd sf nu gt gl tb sc su) H locs → lv_has ls 6 [(0, .ref (a 0)), (1, .int p1), (3, .int y3)] → W p l e rmX10_twice s m args below meth c H locs 0 0 Q (F0 m 89 ls [.int x11, .int y2]) := by
              intro x11 H locs ls hf hW hl
              rw [ek12] at hf
              refine lv_iadd hx hb dX10_twice_89 ?_
              obtain ⟨v13, ev13, hf⟩ := sp_hb hf
              refine sp_topi ev13 ?_
              refine lv_istore_n (lv' := [(2, .int v13), (0, .ref (a 0)), (1, .int p1), (3, .int y3)]) hx hb dX10_twice_90 rfl hl (by decide) rfl (fun ls hl => ?_)
              obtain ⟨v14, ev14, hf⟩ := sp_hb hf
              refine lv_iinc (v := v14) (lv' := [(3, .int v14), (2, .int v13), (0, .ref (a 0)), (1, .int p1)]) hx hb dX10_twice_91 hl (k := 3) rfl (by rw [ev14]; rfl) (by decide) rfl (fun ls hl => ?_)
              refine lv_goto (tgt := 14) hx hb dX10_twice_94 (by decide) ?_
              exact ih14 _ _ _ _ _ hf hW (lv_sub hl [2, 3, 1, 0] rfl)
            refine lv_if_eq (tgt := 88) hx hb dX10_twice_81 (by decide) (fun hc => ?_) (fun hc => ?_)
            · have hf := sp_ht hf hc
              refine lv_iconst (v := 0) hx hb dX10_twice_88 (by decide) ?_
              exact hj12 _ _ _ _ hf hW (lv_sub hl [0, 1, 3] rfl)
            · have hf := sp_hf hf hc
              refine lv_iconst (v := 1) hx hb dX10_twice_84 (by decide) ?_
              refine lv_goto (tgt := 89) hx hb dX10_twice_85 (by decide) ?_
              exact hj12 _ _ _ _ hf hW (lv_sub hl [0, 1, 3] rfl)
          have hlp30 : ∀ (n9 : Nat) (y7 : Int32) (y8 : Int32) (H : Heap) (locs : List Loc) (ls : Array Slot), sp_lp (f_X10_twice_L30 y3 k10 cl p1) n9 (y7, y8) = some r' → sp_wd D A s.heap (sw_M a q5 fa tr la sl ce pn mn cl le ri lt nm nc nl nr nt at9 en9 de mm ma ne us lk sd sf nu gt gl tb sc su) H locs → lv_has ls 6 [(0, .ref (a 0)), (1, .int p1), (2, .int y2), (3, .int y3), (4, .int y7), (5, .int y8)] → W p l e rmX10_twice s m args below meth c H locs 0 0 Q (F0 m 30 ls []) := by
            intro n9
            induction n9 with
            | zero =>
              intro y7 y8 H locs ls hf hW hl
              exact (sp_lp0 hf).elim
            | succ n9 ih30 =>
              intro y7 y8 H locs ls hf hW hl
              have hf := sp_lpS hf
              rw [f_X10_twice_L30_eq] at hf
              refine lv_iload hx hb dX10_twice_30 (lv_at hl 5 rfl) ?_
              refine lv_iload_n hx hb dX10_twice_32 rfl (lv_at hl 3 rfl) ?_
              refine lv_icmp_ge (tgt := 78) hx hb dX10_twice_33 (by decide) (fun hc => ?_) (fun hc => ?_)
              · have hf := sp_ht hf hc
                exact hj10 _ _ _ _ hf hW (lv_sub hl [0, 1, 2, 3, 4] rfl)
              · have hf := sp_hf hf hc
                refine lv_iload hx hb dX10_twice_36 (lv_at hl 4 rfl) ?_
                refine lv_aload_n hx hb dX10_twice_38 rfl (lv_at hl 0 rfl) ?_
                refine sp_get S hK hW inX10 0 rfl rfl 7 (by decide) lk2 rfl dX10_twice_39 ?_
                refine lv_bipush (v := 24) hx hb dX10_twice_42 (by decide) ?_
                refine lv_iload_n hx hb dX10_twice_44 rfl (lv_at hl 1 rfl) ?_
                refine lv_imul hx hb dX10_twice_45 ?_
                refine lv_iload hx hb dX10_twice_46 (lv_at hl 5 rfl) ?_
                refine lv_iadd hx hb dX10_twice_48 ?_
                obtain ⟨hin, v15, ev15, hf⟩ := sp_hld hf
                refine sp_iald S hK hW 5 rfl hin ev15 dX10_twice_49 ?_
                refine lv_aload_n hx hb dX10_twice_50 rfl (lv_at hl 0 rfl) ?_
                refine sp_get S hK hW inX10 0 rfl rfl 7 (by decide) lk2 rfl dX10_twice_51 ?_
                refine lv_bipush (v := 24) hx hb dX10_twice_54 (by decide) ?_
                refine lv_iload_n hx hb dX10_twice_56 rfl (lv_at hl 1 rfl) ?_
                refine lv_imul hx hb dX10_twice_57 ?_
                refine lv_iload_n hx hb dX10_twice_58 rfl (lv_at hl 3 rfl) ?_
                refine lv_iadd hx hb dX10_twice_59 ?_
                obtain ⟨hin, v16, ev16, hf⟩ := sp_hld hf
                refine sp_iald S hK hW 5 rfl hin ev16 dX10_twice_60 ?_
                obtain ⟨k18, ek18, hf⟩ := sp_hb hf
                have hj18 : ∀ (x17 : Int32) (H : Heap) (locs : List Loc) (ls : Array Slot), k18 x17 = some r' → sp_wd D A s.heap (sw_M a q5 fa tr la sl ce pn mn cl le ri lt nm nc nl nr nt at9 en9 de mm ma ne us lk sd sf nu gt gl tb sc su) H locs → lv_has ls 6 [(0, .ref (a 0)), (1, .int p1), (2, .int y2), (3, .int y3), (5, .int y8)] → W p l e rmX10_twice s m args below meth c H locs 0 0 Q (F0 m 69 ls [.int x17, .int y7]) := by
                  intro x17 H locs ls hf hW hl
                  rw [ek18] at hf
                  refine lv_ior hx hb dX10_twice_69 ?_
                  obtain ⟨v19, ev19, hf⟩ := sp_hb hf
                  refine sp_topi ev19 ?_
                  refine lv_istore (lv' := [(4, .int v19), (0, .ref (a 0)), (1, .int p1), (2, .int y2), (3, .int y3), (5, .int y8)]) hx hb dX10_twice_70 hl (by decide) rfl (fun ls hl => ?_)
                  obtain ⟨v20, ev20, hf⟩ := sp_hb hf
                  refine lv_iinc (v := v20) (lv' := [(5, .int v20), (4, .int v19), (0, .ref (a 0)), (1, .int p1), (2, .int y2), (3, .int y3)]) hx hb dX10_twice_72 hl (k := 5) rfl (by rw [ev20]; rfl) (by decide) rfl (fun ls hl => ?_)
                  refine lv_goto (tgt := 30) hx hb dX10_twice_75 (by decide) ?_
                  exact ih30 _ _ _ _ _ hf hW (lv_sub hl [2, 3, 4, 5, 1, 0] rfl)
                refine lv_icmp_ne (tgt := 68) hx hb dX10_twice_61 (by decide) (fun hc => ?_) (fun hc => ?_)
                · have hf := sp_hf hf hc
                  refine lv_iconst (v := 0) hx hb dX10_twice_68 (by decide) ?_
                  exact hj18 _ _ _ _ hf hW (lv_sub hl [0, 1, 2, 3, 5] rfl)
                · have hf := sp_ht hf hc
                  refine lv_iconst (v := 1) hx hb dX10_twice_64 (by decide) ?_
                  refine lv_goto (tgt := 69) hx hb dX10_twice_65 (by decide) ?_
                  exact hj18 _ _ _ _ hf hW (lv_sub hl [0, 1, 2, 3, 5] rfl)
          exact hlp30 _ _ _ _ _ _ hf hW (lv_sub hl [2, 3, 4, 5, 1, 0] rfl)
    exact hlp14 _ _ _ _ _ _ hf hW (lv_sub hl [2, 3, 1, 0] rfl)
  · have hf := sp_ht hf hc
    refine lv_iconst (v := (-1)) hx hb dX10_twice_8 (by decide) ?_
    have q0 := Option.some.inj hf
    subst q0
    exact sp_iret S hr hlk hW hQ dX10_twice_9
