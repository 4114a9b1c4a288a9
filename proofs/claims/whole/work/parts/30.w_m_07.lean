def f_X10_heap_L58 (mn : Nat → Int32) (p2 : Int32) (k30 : Int32 → (Nat → Int32) → (Nat → Int32) → (Nat → Int32) → (Nat → Int32) → (Nat → Int32) → Option (Int32 × Int32 × (Nat → Int32) × (Nat → Int32) × (Nat → Int32) × (Nat → Int32) × (Nat → Int32) × Int32 × (Nat → Int32) × (Nat → Int32) × (Nat → Int32) × (Nat → Int32) × (Nat → Int32))) (cl : Nat → Int32) (le : Nat → Int32) (ri : Nat → Int32) (lt : Nat → Int32) (sf : Nat → Int32) (rec58 : (Int32 × Int32 × (Nat → Int32) × (Nat → Int32) × (Nat → Int32) × (Nat → Int32) × (Nat → Int32)) → Option (Int32 × Int32 × (Nat → Int32) × (Nat → Int32) × (Nat → Int32) × (Nat → Int32) × (Nat → Int32) × Int32 × (Nat → Int32) × (Nat → Int32) × (Nat → Int32) × (Nat → Int32) × (Nat → Int32))) (s9 : Int32 × Int32 × (Nat → Int32) × (Nat → Int32) × (Nat → Int32) × (Nat → Int32) × (Nat → Int32)) : Option (Int32 × Int32 × (Nat → Int32) × (Nat → Int32) × (Nat → Int32) × (Nat → Int32) × (Nat → Int32) × Int32 × (Nat → Int32) × (Nat → Int32) × (Nat → Int32) × (Nat → Int32) × (Nat → Int32)) := match s9 with
  | (y17, c18, c19, c20, c21, c22, c23) => sp_ld mn 12 p2 (fun v41 => if v41 ≤ y17 then (k30 c18 c19 c20 c21 c22 c23) else (Option.bind (f_X10_standFor p2 y17 (1 : Int32) (0 : Int32) (24 : Int32) mn cl le ri lt c18 c19 c20 c21 c22 c23 sf) (fun q9 => match q9 with | (r42, c43, c44, c45, c46, c47) => sp_st c23 48 ((24 : Int32) + y17) r42 (fun c48 => sp_bnd (y17 + (1 : Int32)) (fun v49 => rec58 (v49, c43, c44, c45, c46, c47, c48))))))
theorem f_X10_heap_L58_eq {rec58 : (Int32 × Int32 × (Nat → Int32) × (Nat → Int32) × (Nat → Int32) × (Nat → Int32) × (Nat → Int32)) → Option (Int32 × Int32 × (Nat → Int32) × (Nat → Int32) × (Nat → Int32) × (Nat → Int32) × (Nat → Int32) × Int32 × (Nat → Int32) × (Nat → Int32) × (Nat → Int32) × (Nat → Int32) × (Nat → Int32))} {mn : Nat → Int32} {p2 : Int32} {k30 : Int32 → (Nat → Int32) → (Nat → Int32) → (Nat → Int32) → (Nat → Int32) → (Nat → Int32) → Option (Int32 × Int32 × (Nat → Int32) × (Nat → Int32) × (Nat → Int32) × (Nat → Int32) × (Nat → Int32) × Int32 × (Nat → Int32) × (Nat → Int32) × (Nat → Int32) × (Nat → Int32) × (Nat → Int32))} {cl : Nat → Int32} {le : Nat → Int32} {ri : Nat → Int32} {lt : Nat → Int32} {sf : Nat → Int32} {y17 : Int32} {c18 : Int32} {c19 : Nat → Int32} {c20 : Nat → Int32} {c21 : Nat → Int32} {c22 : Nat → Int32} {c23 : Nat → Int32} : f_X10_heap_L58 mn p2 k30 cl le ri lt sf rec58 (y17, c18, c19, c20, c21, c22, c23) = (sp_ld mn 12 p2 (fun v41 => if v41 ≤ y17 then (k30 c18 c19 c20 c21 c22 c23) else (Option.bind (f_X10_standFor p2 y17 (1 : Int32) (0 : Int32) (24 : Int32) mn cl le ri lt c18 c19 c20 c21 c22 c23 sf) (fun q9 => match q9 with | (r42, c43, c44, c45, c46, c47) => sp_st c23 48 ((24 : Int32) + y17) r42 (fun c48 => sp_bnd (y17 + (1 : Int32)) (fun v49 => rec58 (v49, c43, c44, c45, c46, c47, c48))))))) := rfl
def f_X10_heap_L25 (mn : Nat → Int32) (p1 : Int32) (k16 : Int32 → (Nat → Int32) → (Nat → Int32) → (Nat → Int32) → (Nat → Int32) → (Nat → Int32) → Option (Int32 × Int32 × (Nat → Int32) × (Nat → Int32) × (Nat → Int32) × (Nat → Int32) × (Nat → Int32) × Int32 × (Nat → Int32) × (Nat → Int32) × (Nat → Int32) × (Nat → Int32) × (Nat → Int32))) (cl : Nat → Int32) (le : Nat → Int32) (ri : Nat → Int32) (lt : Nat → Int32) (sf : Nat → Int32) (rec25 : (Int32 × Int32 × (Nat → Int32) × (Nat → Int32) × (Nat → Int32) × (Nat → Int32) × (Nat → Int32)) → Option (Int32 × Int32 × (Nat → Int32) × (Nat → Int32) × (Nat → Int32) × (Nat → Int32) × (Nat → Int32) × Int32 × (Nat → Int32) × (Nat → Int32) × (Nat → Int32) × (Nat → Int32) × (Nat → Int32))) (s9 : Int32 × Int32 × (Nat → Int32) × (Nat → Int32) × (Nat → Int32) × (Nat → Int32) × (Nat → Int32)) : Option (Int32 × Int32 × (Nat → Int32) × (Nat → Int32) × (Nat → Int32) × (Nat → Int32) × (Nat → Int32) × Int32 × (Nat → Int32) × (Nat → Int32) × (Nat → Int32) × (Nat → Int32) × (Nat → Int32)) := match s9 with
  | (y3, c4, c5, c6, c7, c8, c9) => sp_ld mn 12 p1 (fun v50 => if v50 ≤ y3 then (k16 c4 c5 c6 c7 c8 c9) else (Option.bind (f_X10_standFor p1 y3 (1 : Int32) (0 : Int32) (0 : Int32) mn cl le ri lt c4 c5 c6 c7 c8 c9 sf) (fun q9 => match q9 with | (r51, c52, c53, c54, c55, c56) => sp_st c9 48 y3 r51 (fun c57 => sp_bnd (y3 + (1 : Int32)) (fun v58 => rec25 (v58, c52, c53, c54, c55, c56, c57))))))
theorem f_X10_heap_L25_eq {rec25 : (Int32 × Int32 × (Nat → Int32) × (Nat → Int32) × (Nat → Int32) × (Nat → Int32) × (Nat → Int32)) → Option (Int32 × Int32 × (Nat → Int32) × (Nat → Int32) × (Nat → Int32) × (Nat → Int32) × (Nat → Int32) × Int32 × (Nat → Int32) × (Nat → Int32) × (Nat → Int32) × (Nat → Int32) × (Nat → Int32))} {mn : Nat → Int32} {p1 : Int32} {k16 : Int32 → (Nat → Int32) → (Nat → Int32) → (Nat → Int32) → (Nat → Int32) → (Nat → Int32) → Option (Int32 × Int32 × (Nat → Int32) × (Nat → Int32) × (Nat → Int32) × (Nat → Int32) × (Nat → Int32) × Int32 × (Nat → Int32) × (Nat → Int32) × (Nat → Int32) × (Nat → Int32) × (Nat → Int32))} {cl : Nat → Int32} {le : Nat → Int32} {ri : Nat → Int32} {lt : Nat → Int32} {sf : Nat → Int32} {y3 : Int32} {c4 : Int32} {c5 : Nat → Int32} {c6 : Nat → Int32} {c7 : Nat → Int32} {c8 : Nat → Int32} {c9 : Nat → Int32} : f_X10_heap_L25 mn p1 k16 cl le ri lt sf rec25 (y3, c4, c5, c6, c7, c8, c9) = (sp_ld mn 12 p1 (fun v50 => if v50 ≤ y3 then (k16 c4 c5 c6 c7 c8 c9) else (Option.bind (f_X10_standFor p1 y3 (1 : Int32) (0 : Int32) (0 : Int32) mn cl le ri lt c4 c5 c6 c7 c8 c9 sf) (fun q9 => match q9 with | (r51, c52, c53, c54, c55, c56) => sp_st c9 48 y3 r51 (fun c57 => sp_bnd (y3 + (1 : Int32)) (fun v58 => rec25 (v58, c52, c53, c54, c55, c56, c57))))))) := rfl
def f_X10_heap (p1 : Int32) (p2 : Int32) (pn : Int32) (mn : Nat → Int32) (cl : Nat → Int32) (le : Nat → Int32) (ri : Nat → Int32) (lt : Nat → Int32) (nm : Int32) (nc : Nat → Int32) (nl : Nat → Int32) (nr : Nat → Int32) (nt : Nat → Int32) (sd : Nat → Int32) (sf : Nat → Int32) : Option (Int32 × Int32 × (Nat → Int32) × (Nat → Int32) × (Nat → Int32) × (Nat → Int32) × (Nat → Int32) × Int32 × (Nat → Int32) × (Nat → Int32) × (Nat → Int32) × (Nat → Int32) × (Nat → Int32)) := Option.bind (f_X10_isProof p1 pn) (fun r1 => if r1 = 0 then (some ((-1 : Int32), pn, mn, cl, le, ri, lt, nm, nc, nl, nr, nt, sd)) else (Option.bind (f_X10_isProof p2 pn) (fun r2 => if r2 = 0 then (some ((-1 : Int32), pn, mn, cl, le, ri, lt, nm, nc, nl, nr, nt, sd)) else (sp_bnd (fun (c10 : Int32) (c11 : Nat → Int32) (c12 : Nat → Int32) (c13 : Nat → Int32) (c14 : Nat → Int32) (c15 : Nat → Int32) => sp_bnd (fun (c24 : Int32) (c25 : Nat → Int32) (c26 : Nat → Int32) (c27 : Nat → Int32) (c28 : Nat → Int32) (c29 : Nat → Int32) => sp_ld mn 12 p2 (fun v31 => sp_ld c29 48 (((24 : Int32) + v31) - (1 : Int32)) (fun v32 => sp_bnd (v32 + (1 : Int32)) (fun v33 => if v33 ≤ (24 : Int32) then (Option.bind (f_X10_comes pn mn cl le ri lt v33 c25 c26 c27 c28) (fun q9 => match q9 with | (r34, c35, c36, c37, c38, c39, c40) => some (r34, c35, c36, c37, c38, c39, c40, v33, c25, c26, c27, c28, c29))) else (some ((-3 : Int32), pn, mn, cl, le, ri, lt, v33, c25, c26, c27, c28, c29)))))) (fun k30 => sp_lp (f_X10_heap_L58 mn p2 k30 cl le ri lt sf) sp_F ((0 : Int32), c10, c11, c12, c13, c14, c15))) (fun k16 => sp_lp (f_X10_heap_L25 mn p1 k16 cl le ri lt sf) sp_F ((0 : Int32), (0 : Int32), nc, nl, nr, nt, sd))))))
def rmX10_heap : Room := { frames := 5, cells := 0, slots := 0, locals := 123 }
set_option maxRecDepth 4000 in
theorem c_X10_heap {l : Launch} {D : va_G} {q5 : Nat → ClassId} (a : Nat → Nat) (fa : Int32) (tr : Int32) (la : Nat → Int32) (sl : Nat → Int32) (ce : Nat → Int32) (pn : Int32) (mn : Nat → Int32) (cl : Nat → Int32) (le : Nat → Int32) (ri : Nat → Int32) (lt : Nat → Int32) (nm : Int32) (nc : Nat → Int32) (nl : Nat → Int32) (nr : Nat → Int32) (nt : Nat → Int32) (at9 : Int32) (en9 : Int32) (de : Nat → Int32) (mm : Int32) (ma : Nat → Int32) (ne : Nat → Int32) (us : Nat → Int32) (lk : Nat → Int32) (sd : Nat → Int32) (sf : Nat → Int32) (nu : Nat → Int32) (gt : Nat → Int64) (gl : Nat → Int32) (tb : Nat → Int64) (sc : Nat → Int32) (su : Nat → Int32) (p1 : Int32) (p2 : Int32) {r' : Int32} {pn' : Int32} {mn' : Nat → Int32} {cl' : Nat → Int32} {le' : Nat → Int32} {ri' : Nat → Int32} {lt' : Nat → Int32} {nm' : Int32} {nc' : Nat → Int32} {nl' : Nat → Int32} {nr' : Nat → Int32} {nt' : Nat → Int32} {sd' : Nat → Int32} (hf : f_X10_heap p1 p2 pn mn cl le ri lt nm nc nl nr nt sd sf = some (r', pn', mn', cl', le', ri', lt', nm', nc', nl', nr', nt', sd')) : sp_Ci l yX10_heap wsX10_heap rmX10_heap D q5 0 [.ref (a 0), .int p1, .int p2] (sw_M a q5 fa tr la sl ce pn mn cl le ri lt nm nc nl nr nt at9 en9 de mm ma ne us lk sd sf nu gt gl tb sc su) r' (sw_M a q5 fa tr la sl ce pn' mn' cl' le' ri' lt' nm' nc' nl' nr' nt' at9 en9 de mm ma ne us lk sd' sf nu gt gl tb sc su) := by
  intro sz
  refine sp_of (cc := cX10_heap) (maxL := 4) (ret := some .int) (own := RX10) (Qc := sp_Qi D r' (sw_M a q5 fa tr la sl ce pn' mn' cl' le' ri' lt' nm' nc' nl' nr' nt' at9 en9 de mm ma ne us lk sd' sf nu gt gl tb sc su)) (by decide) rfl rfl (Nat.le_of_ble_eq_true rfl) ?_
  intro p e s m args below meth c A ls Q hQ S hr hlk hK hG hA hW hl
  have hx := S.1
  have hb := S.2.1
  unfold f_X10_heap at hf
  have inX10 : ∀ w ∈ u_ws RX10 TX10 32, w ∈ wsX10_heap := (fun _ h => List.mem_cons_of_mem _ (List.mem_append_right _ h))
  have lk1 := S.2.2.2.2 (Cond.fieldLink RX10 114 "ShortProofsModel" "newMany" "I") (List.mem_of_getElem? (i := 1) rfl)
  have lk2 := S.2.2.2.2 (Cond.fieldLink RX10 61 "ShortProofsModel" "stands" "[I") (List.mem_of_getElem? (i := 3) rfl)
  have lk3 := S.2.2.2.2 (Cond.fieldLink RX10 19 "ShortProofsModel" "many" "[I") (List.mem_of_getElem? (i := 2) rfl)
  refine lv_aload_n hx hb dX10_heap_0 rfl (lv_at hl 0 rfl) ?_
  refine lv_iload_n hx hb dX10_heap_1 rfl (lv_at hl 1 rfl) ?_
  obtain ⟨r1, hc1, hf⟩ := sp_hc hf
  refine sp_callViP (rest := []) S hK hG hA hW (c_X10_isProof a fa tr la sl ce pn mn cl le ri lt nm nc nl nr nt at9 en9 de mm ma ne us lk sd sf nu gt gl tb sc su p1 hc1) (by decide) (cwV 1 S.2.2.2.2 gX10_heap_X10_isProof rfl rfl rfl (by decide +kernel) (by decide)) 8 0 rfl rfl (sp_pn _) rfl (WS' := sw_M a q5 fa tr la sl ce pn mn cl le ri lt nm nc nl nr nt at9 en9 de mm ma ne us lk sd sf nu gt gl tb sc su) (sp_pn' _) rfl hl.1 (Nat.le_of_ble_eq_true rfl) dX10_heap_2 ⟨Nat.zero_le _, Nat.zero_le _⟩ rfl (fun H locs hW => ?_)
  refine lv_if_eq (tgt := 16) hx hb dX10_heap_5 (by decide) (fun hc => ?_) (fun hc => ?_)
  · have hf := sp_ht hf hc
    refine lv_iconst (v := (-1)) hx hb dX10_heap_16 (by decide) ?_
    have q0 := Option.some.inj hf
    obtain ⟨q1, z1⟩ := Prod.mk.inj q0
    obtain ⟨q2, z2⟩ := Prod.mk.inj z1
    obtain ⟨q3, z3⟩ := Prod.mk.inj z2
    obtain ⟨q4, z4⟩ := Prod.mk.inj z3
    obtain ⟨q5, z5⟩ := Prod.mk.inj z4
    obtain ⟨q6, z6⟩ := Prod.mk.inj z5
    obtain ⟨q7, z7⟩ := Prod.mk.inj z6
    obtain ⟨q8, z8⟩ := Prod.mk.inj z7
    obtain ⟨q9, z9⟩ := Prod.mk.inj z8
    obtain ⟨q10, z10⟩ := Prod.mk.inj z9
    obtain ⟨q11, z11⟩ := Prod.mk.inj z10
    obtain ⟨q12, z12⟩ := Prod.mk.inj z11
    subst q1
    subst q2
    subst q3
    subst q4
    subst q5
    subst q6
    subst q7
    subst q8
    subst q9
    subst q10
    subst q11
    subst q12
    subst z12
    exact sp_iret S hr hlk hW hQ dX10_heap_17
  · have hf := sp_hf hf hc
    refine lv_aload_n hx hb dX10_heap_8 rfl (lv_at hl 0 rfl) ?_
    refine lv_iload_n hx hb dX10_heap_9 rfl (lv_at hl 2 rfl) ?_
    obtain ⟨r2, hc2, hf⟩ := sp_hc hf
    refine sp_callViP (rest := []) S hK hG hA hW (c_X10_isProof a fa tr la sl ce pn mn cl le ri lt nm nc nl nr nt at9 en9 de mm ma ne us lk sd sf nu gt gl tb sc su p2 hc2) (by decide) (cwV 1 S.2.2.2.2 gX10_heap_X10_isProof rfl rfl rfl (by decide +kernel) (by decide)) 8 0 rfl rfl (sp_pn _) rfl (WS' := sw_M a q5 fa tr la sl ce pn mn cl le ri lt nm nc nl nr nt at9 en9 de mm ma ne us lk sd sf nu gt gl tb sc su) (sp_pn' _) rfl hl.1 (Nat.le_of_ble_eq_true rfl) dX10_heap_10 ⟨Nat.zero_le _, Nat.zero_le _⟩ rfl (fun H locs hW => ?_)
    refine lv_if_ne (tgt := 18) hx hb dX10_heap_13 (by decide) (fun hc => ?_) (fun hc => ?_)
    · have hf := sp_hf hf hc
      refine lv_aload_n hx hb dX10_heap_18 rfl (lv_at hl 0 rfl) ?_
      refine lv_iconst (v := 0) hx hb dX10_heap_19 (by decide) ?_
      refine sp_put S hK hW inX10 tyX10_ok nmX10 0 rfl rfl 11 (by decide) lk1 rfl rfl rfl (Nat.le_of_ble_eq_true rfl) (ws' := sw_M a q5 fa tr la sl ce pn mn cl le ri lt (0 : Int32) nc nl nr nt at9 en9 de mm ma ne us lk sd sf nu gt gl tb sc su) rfl dX10_heap_20 (fun H locs hW => ?_)
      refine lv_iconst (v := 0) hx hb dX10_heap_23 (by decide) ?_
      refine lv_istore_n (lv' := [(3, .int (0 : Int32)), (0, .ref (a 0)), (1, .int p1), (2, .int p2)]) hx hb dX10_heap_24 rfl hl (by decide) rfl (fun ls hl => ?_)
      obtain ⟨k16, ek16, hf⟩ := sp_hb hf
      have hj16 : ∀ (c10 : Int32) (c11 : Nat → Int32) (c12 : Nat → Int32) (c13 : Nat → Int32) (c14 : Nat → Int32) (c15 : Nat → Int32) (H : Heap) (locs : List Loc) (ls : Array Slot), k16 c10 c11 c12 c13 c14 c15 = some (r', pn', mn', cl', le', ri', lt', nm', nc', nl', nr', nt', sd') → sp_wd D A s.heap (sw_M a q5 fa tr la sl ce pn mn cl le ri lt c10 c11 c12 c13 c14 at9 en9 de mm ma ne us lk c15 sf nu gt gl tb sc su) H locs → lv_has ls 4 [(0, .ref (a 0)), (2, .int p2)] → W p l e rmX10_heap s m args below meth c H locs 0 0 Q (F0 m 56 ls []) := by
        intro c10 c11 c12 c13 c14 c15 H locs ls hf hW hl
        rw [ek16] at hf
        refine lv_iconst (v := 0) hx hb dX10_heap_56 (by decide) ?_
        refine lv_istore_n (lv' := [(3, .int (0 : Int32)), (0, .ref (a 0)), (2, .int p2)]) hx hb dX10_heap_57 rfl hl (by decide) rfl (fun ls hl => ?_)
        obtain ⟨k30, ek30, hf⟩ := sp_hb hf
        have hj30 : ∀ (c24 : Int32) (c25 : Nat → Int32) (c26 : Nat → Int32) (c27 : Nat → Int32) (c28 : Nat → Int32) (c29 : Nat → Int32) (H : Heap) (locs : List Loc) (ls : Array Slot), k30 c24 c25 c26 c27 c28 c29 = some (r', pn', mn', cl', le', ri', lt', nm', nc', nl', nr', nt', sd') → sp_wd D A s.heap (sw_M a q5 fa tr la sl ce pn mn cl le ri lt c24 c25 c26 c27 c28 at9 en9 de mm ma ne us lk c29 sf nu gt gl tb sc su) H locs → lv_has ls 4 [(0, .ref (a 0)), (2, .int p2)] → W p l e rmX10_heap s m args below meth c H locs 0 0 Q (F0 m 93 ls []) := by
          intro c24 c25 c26 c27 c28 c29 H locs ls hf hW hl
          rw [ek30] at hf
          refine lv_aload_n hx hb dX10_heap_93 rfl (lv_at hl 0 rfl) ?_
          refine lv_aload_n hx hb dX10_heap_94 rfl (lv_at hl 0 rfl) ?_
          refine sp_get S hK hW inX10 0 rfl rfl 24 (by decide) lk2 rfl dX10_heap_95 ?_
          refine lv_bipush (v := 24) hx hb dX10_heap_98 (by decide) ?_
          refine lv_aload_n hx hb dX10_heap_100 rfl (lv_at hl 0 rfl) ?_
          refine sp_get S hK hW inX10 0 rfl rfl 6 (by decide) lk3 rfl dX10_heap_101 ?_
          refine lv_iload_n hx hb dX10_heap_104 rfl (lv_at hl 1 rfl) ?_
          obtain ⟨hin, v31, ev31, hf⟩ := sp_hld hf
          refine sp_iald S hK hW 4 rfl hin ev31 dX10_heap_105 ?_
          refine lv_iadd hx hb dX10_heap_106 ?_
          refine lv_iconst (v := 1) hx hb dX10_heap_107 (by decide) ?_
          refine lv_isub hx hb dX10_heap_108 ?_
          obtain ⟨hin, v32, ev32, hf⟩ := sp_hld hf
          refine sp_iald S hK hW 18 rfl hin ev32 dX10_heap_109 ?_
          refine lv_iconst (v := 1) hx hb dX10_heap_110 (by decide) ?_
          refine lv_iadd hx hb dX10_heap_111 ?_
          obtain ⟨v33, ev33, hf⟩ := sp_hb hf
          refine sp_topi ev33 ?_
          refine sp_put S hK hW inX10 tyX10_ok nmX10 0 rfl rfl 11 (by decide) lk1 rfl rfl rfl (Nat.le_of_ble_eq_true rfl) (ws' := sw_M a q5 fa tr la sl ce pn mn cl le ri lt v33 c25 c26 c27 c28 at9 en9 de mm ma ne us lk c29 sf nu gt gl tb sc su) rfl dX10_heap_112 (fun H locs hW => ?_)
          refine lv_aload_n hx hb dX10_heap_115 rfl (lv_at hl 0 rfl) ?_
          refine sp_get S hK hW inX10 0 rfl rfl 11 (by decide) lk1 rfl dX10_heap_116 ?_
          refine lv_bipush (v := 24) hx hb dX10_heap_119 (by decide) ?_
          refine lv_icmp_le (tgt := 129) hx hb dX10_heap_121 (by decide) (fun hc => ?_) (fun hc => ?_)
          · have hf := sp_ht hf hc
            refine lv_aload_n hx hb dX10_heap_129 rfl (lv_at hl 0 rfl) ?_
            obtain ⟨⟨r34, c35, c36, c37, c38, c39, c40⟩, hc40, hf⟩ := sp_hc hf
            refine sp_callViP (rest := []) S hK hG hA hW (c_X10_comes a fa tr la sl ce pn mn cl le ri lt v33 c25 c26 c27 c28 at9 en9 de mm ma ne us lk c29 sf nu gt gl tb sc su hc40) (by decide) (cwV 0 S.2.2.2.2 gX10_heap_X10_comes rfl rfl rfl (by decide +kernel) (by decide)) 8 0 rfl rfl (sp_pn _) rfl (WS' := sw_M a q5 fa tr la sl ce c35 c36 c37 c38 c39 c40 v33 c25 c26 c27 c28 at9 en9 de mm ma ne us lk c29 sf nu gt gl tb sc su) (sp_pn' _) rfl hl.1 (Nat.le_of_ble_eq_true rfl) dX10_heap_130 ⟨Nat.zero_le _, Nat.zero_le _⟩ rfl (fun H locs hW => ?_)
            have q0 := Option.some.inj hf
            obtain ⟨q1, z1⟩ := Prod.mk.inj q0
            obtain ⟨q2, z2⟩ := Prod.mk.inj z1
            obtain ⟨q3, z3⟩ := Prod.mk.inj z2
            obtain ⟨q4, z4⟩ := Prod.mk.inj z3
            obtain ⟨q5, z5⟩ := Prod.mk.inj z4
            obtain ⟨q6, z6⟩ := Prod.mk.inj z5
            obtain ⟨q7, z7⟩ := Prod.mk.inj z6
            obtain ⟨q8, z8⟩ := Prod.mk.inj z7
            obtain ⟨q9, z9⟩ := Prod.mk.inj z8
            obtain ⟨q10, z10⟩ := Prod.mk.inj z9
            obtain ⟨q11, z11⟩ := Prod.mk.inj z10
            obtain ⟨q12, z12⟩ := Prod.mk.inj z11
            subst q1
            subst q2
            subst q3
            subst q4
            subst q5
            subst q6
            subst q7
            subst q8
            subst q9
            subst q10
            subst q11
            subst q12
            subst z12
            exact sp_iret S hr hlk hW hQ dX10_heap_133
          · have hf := sp_hf hf hc
            refine lv_bipush (v := (-3)) hx hb dX10_heap_124 (by decide) ?_
            refine lv_goto (tgt := 133) hx hb dX10_heap_126 (by decide) ?_
            have q0 := Option.some.inj hf
            obtain ⟨q1, z1⟩ := Prod.mk.inj q0
            obtain ⟨q2, z2⟩ := Prod.mk.inj z1
            obtain ⟨q3, z3⟩ := Prod.mk.inj z2
            obtain ⟨q4, z4⟩ := Prod.mk.inj z3
            obtain ⟨q5, z5⟩ := Prod.mk.inj z4
            obtain ⟨q6, z6⟩ := Prod.mk.inj z5
            obtain ⟨q7, z7⟩ := Prod.mk.inj z6
            obtain ⟨q8, z8⟩ := Prod.mk.inj z7
            obtain ⟨q9, z9⟩ := Prod.mk.inj z8
            obtain ⟨q10, z10⟩ := Prod.mk.inj z9
            obtain ⟨q11, z11⟩ := Prod.mk.inj z10
            obtain ⟨q12, z12⟩ := Prod.mk.inj z11
            subst q1
            subst q2
            subst q3
            subst q4
            subst q5
            subst q6
            subst q7
            subst q8
            subst q9
            subst q10
            subst q11
            subst q12
            subst z12
            exact sp_iret S hr hlk hW hQ dX10_heap_133
        have hlp58 : ∀ (n9 : Nat) (y17 : Int32) (c18 : Int32) (c19 : Nat → Int32) (c20 : Nat → Int32) (c21 : Nat → Int32) (c22 : Nat → Int32) (c23 : Nat → Int32) (H : Heap) (locs : List Loc) (ls : Array Slot), sp_lp (f_X10_heap_L58 mn p2 k30 cl le ri lt sf) n9 (y17, c18, c19, c20, c21, c22, c23) = some (r', pn', mn', cl', le', ri', lt', nm', nc', nl', nr', nt', sd') → sp_wd D A s.heap (sw_M a q5 fa tr la sl ce pn mn cl le ri lt c18 c19 c20 c21 c22 at9 en9 de mm ma ne us lk c23 sf nu gt gl tb sc su) H locs → lv_has ls 4 [(0, .ref (a 0)), (2, .int p2), (3, .int y17)] → W p l e rmX10_heap s m args below meth c H locs 0 0 Q (F0 m 58 ls []) := by
          intro n9
          induction n9 with
          | zero =>
            intro y17 c18 c19 c20 c21 c22 c23 H locs ls hf hW hl
            exact (sp_lp0 hf).elim
          | succ n9 ih58 =>
            intro y17 c18 c19 c20 c21 c22 c23 H locs ls hf hW hl
            have hf := sp_lpS hf
            rw [f_X10_heap_L58_eq] at hf
            refine lv_iload_n hx hb dX10_heap_58 rfl (lv_at hl 2 rfl) ?_
            refine lv_aload_n hx hb dX10_heap_59 rfl (lv_at hl 0 rfl) ?_
            refine sp_get S hK hW inX10 0 rfl rfl 6 (by decide) lk3 rfl dX10_heap_60 ?_
            refine lv_iload_n hx hb dX10_heap_63 rfl (lv_at hl 1 rfl) ?_
            obtain ⟨hin, v41, ev41, hf⟩ := sp_hld hf
            refine sp_iald S hK hW 4 rfl hin ev41 dX10_heap_64 ?_
            refine lv_icmp_ge (tgt := 93) hx hb dX10_heap_65 (by decide) (fun hc => ?_) (fun hc => ?_)
            · have hf := sp_ht hf hc
              exact hj30 _ _ _ _ _ _ _ _ _ hf hW (lv_sub hl [0, 1] rfl)
            · have hf := sp_hf hf hc
              refine lv_aload_n hx hb dX10_heap_68 rfl (lv_at hl 0 rfl) ?_
              refine sp_get S hK hW inX10 0 rfl rfl 24 (by decide) lk2 rfl dX10_heap_69 ?_
              refine lv_bipush (v := 24) hx hb dX10_heap_72 (by decide) ?_
              refine lv_iload_n hx hb dX10_heap_74 rfl (lv_at hl 2 rfl) ?_
              refine lv_iadd hx hb dX10_heap_75 ?_
              refine lv_aload_n hx hb dX10_heap_76 rfl (lv_at hl 0 rfl) ?_
              refine lv_iload_n hx hb dX10_heap_77 rfl (lv_at hl 1 rfl) ?_
              refine lv_iload_n hx hb dX10_heap_78 rfl (lv_at hl 2 rfl) ?_
              refine lv_iconst (v := 1) hx hb dX10_heap_79 (by decide) ?_
              refine lv_iconst (v := 0) hx hb dX10_heap_80 (by decide) ?_
              refine lv_bipush (v := 24) hx hb dX10_heap_81 (by decide) ?_
              obtain ⟨⟨r42, c43, c44, c45, c46, c47⟩, hc47, hf⟩ := sp_hc hf
              refine sp_callViP (rest := [.int ((24 : Int32) + y17), .ref (a 18)]) S hK hG hA hW (c_X10_standFor a fa tr la sl ce pn mn cl le ri lt c18 c19 c20 c21 c22 at9 en9 de mm ma ne us lk c23 sf nu gt gl tb sc su p2 y17 (1 : Int32) (0 : Int32) (24 : Int32) hc47) (by decide) (cwV 5 S.2.2.2.2 gX10_heap_X10_standFor rfl rfl rfl (by decide +kernel) (by decide)) 8 0 rfl rfl (sp_pn _) rfl (WS' := sw_M a q5 fa tr la sl ce pn mn cl le ri lt c43 c44 c45 c46 c47 at9 en9 de mm ma ne us lk c23 sf nu gt gl tb sc su) (sp_pn' _) rfl hl.1 (Nat.le_of_ble_eq_true rfl) dX10_heap_83 ⟨Nat.zero_le _, Nat.zero_le _⟩ rfl (fun H locs hW => ?_)
              obtain ⟨hin, c48, ec48, hf⟩ := sp_hst hf
              refine sp_iast S hK hW 18 rfl hin ec48 (ws' := sw_M a q5 fa tr la sl ce pn mn cl le ri lt c43 c44 c45 c46 c47 at9 en9 de mm ma ne us lk c48 sf nu gt gl tb sc su) rfl dX10_heap_86 (fun H locs hW => ?_)
              obtain ⟨v49, ev49, hf⟩ := sp_hb hf
              refine lv_iinc (v := v49) (lv' := [(3, .int v49), (0, .ref (a 0)), (2, .int p2)]) hx hb dX10_heap_87 hl (k := 2) rfl (by rw [ev49]; rfl) (by decide) rfl (fun ls hl => ?_)
              refine lv_goto (tgt := 58) hx hb dX10_heap_90 (by decide) ?_
              exact ih58 _ _ _ _ _ _ _ _ _ _ hf hW (lv_sub hl [1, 2, 0] rfl)
        exact hlp58 _ _ _ _ _ _ _ _ _ _ _ hf hW (lv_sub hl [1, 2, 0] rfl)
      have hlp25 : ∀ (n9 : Nat) (y3 : Int32) (c4 : Int32) (c5 : Nat → Int32) (c6 : Nat → Int32) (c7 : Nat → Int32) (c8 : Nat → Int32) (c9 : Nat → Int32) (H : Heap) (locs : List Loc) (ls : Array Slot), sp_lp (f_X10_heap_L25 mn p1 k16 cl le ri lt sf) n9 (y3, c4, c5, c6, c7, c8, c9) = some (r', pn', mn', cl', le', ri', lt', nm', nc', nl', nr', nt', sd') → sp_wd D A s.heap (sw_M a q5 fa tr la sl ce pn mn cl le ri lt c4 c5 c6 c7 c8 at9 en9 de mm ma ne us lk c9 sf nu gt gl tb sc su) H locs → lv_has ls 4 [(0, .ref (a 0)), (1, .int p1), (2, .int p2), (3, .int y3)] → W p l e rmX10_heap s m args below meth c H locs 0 0 Q (F0 m 25 ls []) := by
        intro n9
        induction n9 with
        | zero =>
          intro y3 c4 c5 c6 c7 c8 c9 H locs ls hf hW hl
          exact (sp_lp0 hf).elim
        | succ n9 ih25 =>
          intro y3 c4 c5 c6 c7 c8 c9 H locs ls hf hW hl
          have hf := sp_lpS hf
          rw [f_X10_heap_L25_eq] at hf
          refine lv_iload_n hx hb dX10_heap_25 rfl (lv_at hl 3 rfl) ?_
          refine lv_aload_n hx hb dX10_heap_26 rfl (lv_at hl 0 rfl) ?_
          refine sp_get S hK hW inX10 0 rfl rfl 6 (by decide) lk3 rfl dX10_heap_27 ?_
          refine lv_iload_n hx hb dX10_heap_30 rfl (lv_at hl 1 rfl) ?_
          obtain ⟨hin, v50, ev50, hf⟩ := sp_hld hf
          refine sp_iald S hK hW 4 rfl hin ev50 dX10_heap_31 ?_
          refine lv_icmp_ge (tgt := 56) hx hb dX10_heap_32 (by decide) (fun hc => ?_) (fun hc => ?_)
          · have hf := sp_ht hf hc
            exact hj16 _ _ _ _ _ _ _ _ _ hf hW (lv_sub hl [0, 2] rfl)
          · have hf := sp_hf hf hc
            refine lv_aload_n hx hb dX10_heap_35 rfl (lv_at hl 0 rfl) ?_
            refine sp_get S hK hW inX10 0 rfl rfl 24 (by decide) lk2 rfl dX10_heap_36 ?_
            refine lv_iload_n hx hb dX10_heap_39 rfl (lv_at hl 3 rfl) ?_
            refine lv_aload_n hx hb dX10_heap_40 rfl (lv_at hl 0 rfl) ?_
            refine lv_iload_n hx hb dX10_heap_41 rfl (lv_at hl 1 rfl) ?_
            refine lv_iload_n hx hb dX10_heap_42 rfl (lv_at hl 3 rfl) ?_
            refine lv_iconst (v := 1) hx hb dX10_heap_43 (by decide) ?_
            refine lv_iconst (v := 0) hx hb dX10_heap_44 (by decide) ?_
            refine lv_iconst (v := 0) hx hb dX10_heap_45 (by decide) ?_
            obtain ⟨⟨r51, c52, c53, c54, c55, c56⟩, hc56, hf⟩ := sp_hc hf
            refine sp_callViP (rest := [.int y3, .ref (a 18)]) S hK hG hA hW (c_X10_standFor a fa tr la sl ce pn mn cl le ri lt c4 c5 c6 c7 c8 at9 en9 de mm ma ne us lk c9 sf nu gt gl tb sc su p1 y3 (1 : Int32) (0 : Int32) (0 : Int32) hc56) (by decide) (cwV 5 S.2.2.2.2 gX10_heap_X10_standFor rfl rfl rfl (by decide +kernel) (by decide)) 8 0 rfl rfl (sp_pn _) rfl (WS' := sw_M a q5 fa tr la sl ce pn mn cl le ri lt c52 c53 c54 c55 c56 at9 en9 de mm ma ne us lk c9 sf nu gt gl tb sc su) (sp_pn' _) rfl hl.1 (Nat.le_of_ble_eq_true rfl) dX10_heap_46 ⟨Nat.zero_le _, Nat.zero_le _⟩ rfl (fun H locs hW => ?_)
            obtain ⟨hin, c57, ec57, hf⟩ := sp_hst hf
            refine sp_iast S hK hW 18 rfl hin ec57 (ws' := sw_M a q5 fa tr la sl ce pn mn cl le ri lt c52 c53 c54 c55 c56 at9 en9 de mm ma ne us lk c57 sf nu gt gl tb sc su) rfl dX10_heap_49 (fun H locs hW => ?_)
            obtain ⟨v58, ev58, hf⟩ := sp_hb hf
            refine lv_iinc (v := v58) (lv' := [(3, .int v58), (0, .ref (a 0)), (1, .int p1), (2, .int p2)]) hx hb dX10_heap_50 hl (k := 3) rfl (by rw [ev58]; rfl) (by decide) rfl (fun ls hl => ?_)
            refine lv_goto (tgt := 25) hx hb dX10_heap_53 (by decide) ?_
            exact ih25 _ _ _ _ _ _ _ _ _ _ hf hW (lv_sub hl [1, 2, 3, 0] rfl)
      exact hlp25 _ _ _ _ _ _ _ _ _ _ _ hf hW (lv_sub hl [1, 2, 3, 0] rfl)
    · have hf := sp_ht hf hc
      refine lv_iconst (v := (-1)) hx hb dX10_heap_16 (by decide) ?_
      have q0 := Option.some.inj hf
      obtain ⟨q1, z1⟩ := Prod.mk.inj q0
      obtain ⟨q2, z2⟩ := Prod.mk.inj z1
      obtain ⟨q3, z3⟩ := Prod.mk.inj z2
      obtain ⟨q4, z4⟩ := Prod.mk.inj z3
      obtain ⟨q5, z5⟩ := Prod.mk.inj z4
      obtain ⟨q6, z6⟩ := Prod.mk.inj z5
      obtain ⟨q7, z7⟩ := Prod.mk.inj z6
      obtain ⟨q8, z8⟩ := Prod.mk.inj z7
      obtain ⟨q9, z9⟩ := Prod.mk.inj z8
      obtain ⟨q10, z10⟩ := Prod.mk.inj z9
      obtain ⟨q11, z11⟩ := Prod.mk.inj z10
      obtain ⟨q12, z12⟩ := Prod.mk.inj z11
      subst q1
      subst q2
      subst q3
      subst q4
      subst q5
      subst q6
      subst q7
      subst q8
      subst q9
      subst q10
      subst q11
      subst q12
      subst z12
      exact sp_iret S hr hlk hW hQ dX10_heap_17

def f_X10_hasClause_L3 (p3 : Int32) (k2 : Option (Int32)) (cl : Nat → Int32) (p1 : Int32) (p2 : Int32) (rec3 : (Int32) → Option (Int32)) (s9 : Int32) : Option (Int32) := match s9 with
  | y1 => if p3 ≤ y1 then k2 else (sp_ld cl 288 (((24 : Int32) * p1) + y1) (fun v3 => if v3 = p2 then (some (1 : Int32)) else (sp_bnd (y1 + (1 : Int32)) (fun v4 => rec3 v4))))
theorem f_X10_hasClause_L3_eq {rec3 : (Int32) → Option (Int32)} {p3 : Int32} {k2 : Option (Int32)} {cl : Nat → Int32} {p1 : Int32} {p2 : Int32} {y1 : Int32} : f_X10_hasClause_L3 p3 k2 cl p1 p2 rec3 y1 = (if p3 ≤ y1 then k2 else (sp_ld cl 288 (((24 : Int32) * p1) + y1) (fun v3 => if v3 = p2 then (some (1 : Int32)) else (sp_bnd (y1 + (1 : Int32)) (fun v4 => rec3 v4))))) := rfl
def f_X10_hasClause (p1 : Int32) (p2 : Int32) (p3 : Int32) (cl : Nat → Int32) : Option (Int32) := sp_bnd (some (0 : Int32)) (fun k2 => sp_lp (f_X10_hasClause_L3 p3 k2 cl p1 p2) sp_F (0 : Int32))
def rmX10_hasClause : Room := { frames := 0, cells := 0, slots := 0, locals := 0 }
set_option maxRecDepth 4000 in
theorem c_X10_hasClause {l : Launch} {D : va_G} {q5 : Nat → ClassId} (a : Nat → Nat) (fa : Int32) (tr : Int32) (la : Nat → Int32) (sl : Nat → Int32) (ce : Nat → Int32) (pn : Int32) (mn : Nat → Int32) (cl : Nat → Int32) (le : Nat → Int32) (ri : Nat → Int32) (lt : Nat → Int32) (nm : Int32) (nc : Nat → Int32) (nl : Nat → Int32) (nr : Nat → Int32) (nt : Nat → Int32) (at9 : Int32) (en9 : Int32) (de : Nat → Int32) (mm : Int32) (ma : Nat → Int32) (ne : Nat → Int32) (us : Nat → Int32) (lk : Nat → Int32) (sd : Nat → Int32) (sf : Nat → Int32) (nu : Nat → Int32) (gt : Nat → Int64) (gl : Nat → Int32) (tb : Nat → Int64) (sc : Nat → Int32) (su : Nat → Int32) (p1 : Int32) (p2 : Int32) (p3 : Int32) {r' : Int32} (hf : f_X10_hasClause p1 p2 p3 cl = some r') : sp_Ci l yX10_hasClause wsX10_hasClause rmX10_hasClause D q5 0 [.ref (a 0), .int p1, .int p2, .int p3] (sw_M a q5 fa tr la sl ce pn mn cl le ri lt nm nc nl nr nt at9 en9 de mm ma ne us lk sd sf nu gt gl tb sc su) r' (sw_M a q5 fa tr la sl ce pn mn cl le ri lt nm nc nl nr nt at9 en9 de mm ma ne us lk sd sf nu gt gl tb sc su) := by
  intro sz
  refine sp_of (cc := cX10_hasClause) (maxL := 5) (ret := some .boolean) (own := RX10) (Qc := sp_Qi D r' (sw_M a q5 fa tr la sl ce pn mn cl le ri lt nm nc nl nr nt at9 en9 de mm ma ne us lk sd sf nu gt gl tb sc su)) (by decide) rfl rfl (Nat.le_of_ble_eq_true rfl) ?_
  intro p e s m args below meth c A ls Q hQ S hr hlk hK hG hA hW hl
  have hx := S.1
  have hb := S.2.1
  unfold f_X10_hasClause at hf
  have inX10 : ∀ w ∈ u_ws RX10 TX10 32, w ∈ wsX10_hasClause := (fun _ h => List.mem_cons_of_mem _ (List.mem_append_right _ h))
  have lk1 := S.2.2.2.2 (Cond.fieldLink RX10 22 "ShortProofsModel" "clauses" "[I") (List.mem_of_getElem? (i := 1) rfl)
  refine lv_iconst (v := 0) hx hb dX10_hasClause_0 (by decide) ?_
  refine lv_istore (lv' := [(4, .int (0 : Int32)), (0, .ref (a 0)), (1, .int p1), (2, .int p2), (3, .int p3)]) hx hb dX10_hasClause_1 hl (by decide) rfl (fun ls hl => ?_)
  obtain ⟨k2, ek2, hf⟩ := sp_hb hf
  have hj2 : ∀ (H : Heap) (locs : List Loc) (ls : Array Slot), k2 = some r' → sp_wd D A s.heap (sw_M a q5 fa tr la sl ce pn mn cl le ri lt nm nc nl nr nt at9 en9 de mm ma ne us lk sd sf nu gt gl tb sc su) H locs → lv_has ls 5 [] → W p l e rmX10_hasClause s m args below meth c H locs 0 0 Q (F0 m 33 ls []) := by
    intro H locs ls hf hW hl
    rw [ek2] at hf
    refine lv_iconst (v := 0) hx hb dX10_hasClause_33 (by decide) ?_
    have q0 := Option.some.inj hf
    subst q0
    exact sp_zret S hr hlk hW rfl hQ dX10_hasClause_34
  have hlp3 : ∀ (n9 : Nat) (y1 : Int32) (H : Heap) (locs : List Loc) (ls : Array Slot), sp_lp (f_X10_hasClause_L3 p3 k2 cl p1 p2) n9 y1 = some r' → sp_wd D A s.heap (sw_M a q5 fa tr la sl ce pn mn cl le ri lt nm nc nl nr nt at9 en9 de mm ma ne us lk sd sf nu gt gl tb sc su) H locs → lv_has ls 5 [(0, .ref (a 0)), (1, .int p1), (2, .int p2), (3, .int p3), (4, .int y1)] → W p l e rmX10_hasClause s m args below meth c H locs 0 0 Q (F0 m 3 ls []) := by
    intro n9
    induction n9 with
    | zero =>
      intro y1 H locs ls hf hW hl
      exact (sp_lp0 hf).elim
    | succ n9 ih3 =>
      intro y1 H locs ls hf hW hl
      have hf := sp_lpS hf
      rw [f_X10_hasClause_L3_eq] at hf
      refine lv_iload hx hb dX10_hasClause_3 (lv_at hl 4 rfl) ?_
      refine lv_iload_n hx hb dX10_hasClause_5 rfl (lv_at hl 3 rfl) ?_
      refine lv_icmp_ge (tgt := 33) hx hb dX10_hasClause_6 (by decide) (fun hc => ?_) (fun hc => ?_)
      · have hf := sp_ht hf hc
        exact hj2 _ _ _ hf hW (lv_sub hl [] rfl)
      · have hf := sp_hf hf hc
        refine lv_aload_n hx hb dX10_hasClause_9 rfl (lv_at hl 0 rfl) ?_
        refine sp_get S hK hW inX10 0 rfl rfl 7 (by decide) lk1 rfl dX10_hasClause_10 ?_
        refine lv_bipush (v := 24) hx hb dX10_hasClause_13 (by decide) ?_
        refine lv_iload_n hx hb dX10_hasClause_15 rfl (lv_at hl 1 rfl) ?_
        refine lv_imul hx hb dX10_hasClause_16 ?_
        refine lv_iload hx hb dX10_hasClause_17 (lv_at hl 4 rfl) ?_
        refine lv_iadd hx hb dX10_hasClause_19 ?_
        obtain ⟨hin, v3, ev3, hf⟩ := sp_hld hf
        refine sp_iald S hK hW 5 rfl hin ev3 dX10_hasClause_20 ?_
        refine lv_iload_n hx hb dX10_hasClause_21 rfl (lv_at hl 2 rfl) ?_
        refine lv_icmp_ne (tgt := 27) hx hb dX10_hasClause_22 (by decide) (fun hc => ?_) (fun hc => ?_)
        · have hf := sp_hf hf hc
          obtain ⟨v4, ev4, hf⟩ := sp_hb hf
          refine lv_iinc (v := v4) (lv' := [(4, .int v4), (0, .ref (a 0)), (1, .int p1), (2, .int p2), (3, .int p3)]) hx hb dX10_hasClause_27 hl (k := 4) rfl (by rw [ev4]; rfl) (by decide) rfl (fun ls hl => ?_)
          refine lv_goto (tgt := 3) hx hb dX10_hasClause_30 (by decide) ?_
          exact ih3 _ _ _ _ hf hW (lv_sub hl [1, 2, 3, 4, 0] rfl)
        · have hf := sp_ht hf hc
          refine lv_iconst (v := 1) hx hb dX10_hasClause_25 (by decide) ?_
          have q0 := Option.some.inj hf
          subst q0
          exact sp_zret S hr hlk hW rfl hQ dX10_hasClause_26
  exact hlp3 _ _ _ _ _ hf hW (lv_sub hl [1, 2, 3, 4, 0] rfl)

def f_X10_shared_L23 (mn : Nat → Int32) (p1 : Int32) (k6 : Int32 → Option (Int32)) (cl : Nat → Int32) (p2 : Int32) (rec23 : (Int32 × Int32) → Option (Int32)) (s9 : Int32 × Int32) : Option (Int32) := match s9 with
  | (y3, y4) => sp_ld mn 12 p1 (fun v7 => if v7 ≤ y4 then (k6 y3) else (sp_ld cl 288 (((24 : Int32) * p1) + y4) (fun v8 => Option.bind (f_X10_hasClause p1 v8 y4 cl) (fun r9 => sp_bnd (fun (x10 : Int32) => sp_bnd (y3 + x10) (fun v12 => sp_bnd (y4 + (1 : Int32)) (fun v13 => rec23 (v12, v13)))) (fun k11 => if r9 = 0 then (sp_ld mn 12 p2 (fun v14 => Option.bind (f_X10_hasClause p2 v8 v14 cl) (fun r15 => if r15 = 0 then (k11 (0 : Int32)) else (k11 (1 : Int32))))) else (k11 (0 : Int32)))))))
theorem f_X10_shared_L23_eq {rec23 : (Int32 × Int32) → Option (Int32)} {mn : Nat → Int32} {p1 : Int32} {k6 : Int32 → Option (Int32)} {cl : Nat → Int32} {p2 : Int32} {y3 : Int32} {y4 : Int32} : f_X10_shared_L23 mn p1 k6 cl p2 rec23 (y3, y4) = (sp_ld mn 12 p1 (fun v7 => if v7 ≤ y4 then (k6 y3) else (sp_ld cl 288 (((24 : Int32) * p1) + y4) (fun v8 => Option.bind (f_X10_hasClause p1 v8 y4 cl) (fun r9 => sp_bnd (fun (x10 : Int32) => sp_bnd (y3 + x10) (fun v12 => sp_bnd (y4 + (1 : Int32)) (fun v13 => rec23 (v12, v13)))) (fun k11 => if r9 = 0 then (sp_ld mn 12 p2 (fun v14 => Option.bind (f_X10_hasClause p2 v8 v14 cl) (fun r15 => if r15 = 0 then (k11 (0 : Int32)) else (k11 (1 : Int32))))) else (k11 (0 : Int32)))))))) := rfl
def f_X10_shared (p1 : Int32) (p2 : Int32) (pn : Int32) (mn : Nat → Int32) (cl : Nat → Int32) : Option (Int32) := Option.bind (f_X10_isProof p1 pn) (fun r1 => if r1 = 0 then (some (-1 : Int32)) else (Option.bind (f_X10_isProof p2 pn) (fun r2 => if r2 = 0 then (some (-1 : Int32)) else (sp_bnd (fun (x5 : Int32) => some x5) (fun k6 => sp_lp (f_X10_shared_L23 mn p1 k6 cl p2) sp_F ((0 : Int32), (0 : Int32)))))))
def rmX10_shared : Room := { frames := 1, cells := 0, slots := 0, locals := 24 }
set_option maxRecDepth 4000 in
theorem c_X10_shared {l : Launch} {D : va_G} {q5 : Nat → ClassId} (a : Nat → Nat) (fa : Int32) (tr : Int32) (la : Nat → Int32) (sl : Nat → Int32) (ce : Nat → Int32) (pn : Int32) (mn : Nat → Int32) (cl : Nat → Int32) (le : Nat → Int32) (ri : Nat → Int32) (lt : Nat → Int32) (nm : Int32) (nc : Nat → Int32) (nl : Nat → Int32) (nr : Nat → Int32) (nt : Nat → Int32) (at9 : Int32) (en9 : Int32) (de : Nat → Int32) (mm : Int32) (ma : Nat → Int32) (ne : Nat → Int32) (us : Nat → Int32) (lk : Nat → Int32) (sd : Nat → Int32) (sf : Nat → Int32) (nu : Nat → Int32) (gt : Nat → Int64) (gl : Nat → Int32) (tb : Nat → Int64) (sc : Nat → Int32) (su : Nat → Int32) (p1 : Int32) (p2 : Int32) {r' : Int32} (hf : f_X10_shared p1 p2 pn mn cl = some r') : sp_Ci l yX10_shared wsX10_shared rmX10_shared D q5 0 [.ref (a 0), .int p1, .int p2] (sw_M a q5 fa tr la sl ce pn mn cl le ri lt nm nc nl nr nt at9 en9 de mm ma ne us lk sd sf nu gt gl tb sc su) r' (sw_M a q5 fa tr la sl ce pn mn cl le ri lt nm nc nl nr nt at9 en9 de mm ma ne us lk sd sf nu gt gl tb sc su) := by
  intro sz
  refine sp_of (cc := cX10_shared) (maxL := 6) (ret := some .int) (own := RX10) (Qc := sp_Qi D r' (sw_M a q5 fa tr la sl ce pn mn cl le ri lt nm nc nl nr nt at9 en9 de mm ma ne us lk sd sf nu gt gl tb sc su)) (by decide) rfl rfl (Nat.le_of_ble_eq_true rfl) ?_
  intro p e s m args below meth c A ls Q hQ S hr hlk hK hG hA hW hl
  have hx := S.1
  have hb := S.2.1
  unfold f_X10_shared at hf
  have inX10 : ∀ w ∈ u_ws RX10 TX10 32, w ∈ wsX10_shared := (fun _ h => List.mem_cons_of_mem _ (List.mem_append_right _ h))
  have lk1 := S.2.2.2.2 (Cond.fieldLink RX10 19 "ShortProofsModel" "many" "[I") (List.mem_of_getElem? (i := 1) rfl)
  have lk2 := S.2.2.2.2 (Cond.fieldLink RX10 22 "ShortProofsModel" "clauses" "[I") (List.mem_of_getElem? (i := 2) rfl)
  refine lv_aload_n hx hb dX10_shared_0 rfl (lv_at hl 0 rfl) ?_
  refine lv_iload_n hx hb dX10_shared_1 rfl (lv_at hl 1 rfl) ?_
  obtain ⟨r1, hc1, hf⟩ := sp_hc hf
  refine sp_callViP (rest := []) S hK hG hA hW (c_X10_isProof a fa tr la sl ce pn mn cl le ri lt nm nc nl nr nt at9 en9 de mm ma ne us lk sd sf nu gt gl tb sc su p1 hc1) (by decide) (cwV 1 S.2.2.2.2 gX10_shared_X10_isProof rfl rfl rfl (by decide +kernel) (by decide)) 8 0 rfl rfl (sp_pn _) rfl (WS' := sw_M a q5 fa tr la sl ce pn mn cl le ri lt nm nc nl nr nt at9 en9 de mm ma ne us lk sd sf nu gt gl tb sc su) (sp_pn' _) rfl hl.1 (Nat.le_of_ble_eq_true rfl) dX10_shared_2 ⟨Nat.zero_le _, Nat.zero_le _⟩ rfl (fun H locs hW => ?_)
  refine lv_if_eq (tgt := 16) hx hb dX10_shared_5 (by decide) (fun hc => ?_) (fun hc => ?_)
  · have hf := sp_ht hf hc
    refine lv_iconst (v := (-1)) hx hb dX10_shared_16 (by decide) ?_
    have q0 := Option.some.inj hf
    subst q0
    exact sp_iret S hr hlk hW hQ dX10_shared_17
  · have hf := sp_hf hf hc
    refine lv_aload_n hx hb dX10_shared_8 rfl (lv_at hl 0 rfl) ?_
    refine lv_iload_n hx hb dX10_shared_9 rfl (lv_at hl 2 rfl) ?_
    obtain ⟨r2, hc2, hf⟩ := sp_hc hf
    refine sp_callViP (rest := []) S hK hG hA hW (c_X10_isProof a fa tr la sl ce pn mn cl le ri lt nm nc nl nr nt at9 en9 de mm ma ne us lk sd sf nu gt gl tb sc su p2 hc2) (by decide) (cwV 1 S.2.2.2.2 gX10_shared_X10_isProof rfl rfl rfl (by decide +kernel) (by decide)) 8 0 rfl rfl (sp_pn _) rfl (WS' := sw_M a q5 fa tr la sl ce pn mn cl le ri lt nm nc nl nr nt at9 en9 de mm ma ne us lk sd sf nu gt gl tb sc su) (sp_pn' _) rfl hl.1 (Nat.le_of_ble_eq_true rfl) dX10_shared_10 ⟨Nat.zero_le _, Nat.zero_le _⟩ rfl (fun H locs hW => ?_)
    refine lv_if_ne (tgt := 18) hx hb dX10_shared_13 (by decide) (fun hc => ?_) (fun hc => ?_)
    · have hf := sp_hf hf hc
      refine lv_iconst (v := 0) hx hb dX10_shared_18 (by decide) ?_
      refine lv_istore_n (lv' := [(3, .int (0 : Int32)), (0, .ref (a 0)), (1, .int p1), (2, .int p2)]) hx hb dX10_shared_19 rfl hl (by decide) rfl (fun ls hl => ?_)
      refine lv_iconst (v := 0) hx hb dX10_shared_20 (by decide) ?_
      refine lv_istore (lv' := [(4, .int (0 : Int32)), (3, .int (0 : Int32)), (0, .ref (a 0)), (1, .int p1), (2, .int p2)]) hx hb dX10_shared_21 hl (by decide) rfl (fun ls hl => ?_)
      obtain ⟨k6, ek6, hf⟩ := sp_hb hf
      have hj6 : ∀ (x5 : Int32) (H : Heap) (locs : List Loc) (ls : Array Slot), k6 x5 = some r' → sp_wd D A s.heap (sw_M a q5 fa tr la sl ce pn mn cl le ri lt nm nc nl nr nt at9 en9 de mm ma ne us lk sd sf nu gt gl tb sc su) H locs → lv_has ls 6 [(3, .int x5)] → W p l e rmX10_shared s m args below meth c H locs 0 0 Q (F0 m 90 ls []) := by
        intro x5 H locs ls hf hW hl
        rw [ek6] at hf
        refine lv_iload_n hx hb dX10_shared_90 rfl (lv_at hl 0 rfl) ?_
        have q0 := Option.some.inj hf
        subst q0
        exact sp_iret S hr hlk hW hQ dX10_shared_91
      have hlp23 : ∀ (n9 : Nat) (y3 : Int32) (y4 : Int32) (H : Heap) (locs : List Loc) (ls : Array Slot), sp_lp (f_X10_shared_L23 mn p1 k6 cl p2) n9 (y3, y4) = some r' → sp_wd D A s.heap (sw_M a q5 fa tr la sl ce pn mn cl le ri lt nm nc nl nr nt at9 en9 de mm ma ne us lk sd sf nu gt gl tb sc su) H locs → lv_has ls 6 [(0, .ref (a 0)), (1, .int p1), (2, .int p2), (3, .int y3), (4, .int y4)] → W p l e rmX10_shared s m args below meth c H locs 0 0 Q (F0 m 23 ls []) := by
        intro n9
        induction n9 with
        | zero =>
          intro y3 y4 H locs ls hf hW hl
          exact (sp_lp0 hf).elim
        | succ n9 ih23 =>
          intro y3 y4 H locs ls hf hW hl
          have hf := sp_lpS hf
          rw [f_X10_shared_L23_eq] at hf
          refine lv_iload hx hb dX10_shared_23 (lv_at hl 4 rfl) ?_
          refine lv_aload_n hx hb dX10_shared_25 rfl (lv_at hl 0 rfl) ?_
          refine sp_get S hK hW inX10 0 rfl rfl 6 (by decide) lk1 rfl dX10_shared_26 ?_
          refine lv_iload_n hx hb dX10_shared_29 rfl (lv_at hl 1 rfl) ?_
          obtain ⟨hin, v7, ev7, hf⟩ := sp_hld hf
          refine sp_iald S hK hW 4 rfl hin ev7 dX10_shared_30 ?_
          refine lv_icmp_ge (tgt := 90) hx hb dX10_shared_31 (by decide) (fun hc => ?_) (fun hc => ?_)
          · have hf := sp_ht hf hc
            exact hj6 _ _ _ _ hf hW (lv_sub hl [3] rfl)
          · have hf := sp_hf hf hc
            refine lv_aload_n hx hb dX10_shared_34 rfl (lv_at hl 0 rfl) ?_
            refine sp_get S hK hW inX10 0 rfl rfl 7 (by decide) lk2 rfl dX10_shared_35 ?_
            refine lv_bipush (v := 24) hx hb dX10_shared_38 (by decide) ?_
            refine lv_iload_n hx hb dX10_shared_40 rfl (lv_at hl 1 rfl) ?_
            refine lv_imul hx hb dX10_shared_41 ?_
            refine lv_iload hx hb dX10_shared_42 (lv_at hl 4 rfl) ?_
            refine lv_iadd hx hb dX10_shared_44 ?_
            obtain ⟨hin, v8, ev8, hf⟩ := sp_hld hf
            refine sp_iald S hK hW 5 rfl hin ev8 dX10_shared_45 ?_
            refine lv_istore (lv' := [(5, .int v8), (0, .ref (a 0)), (1, .int p1), (2, .int p2), (3, .int y3), (4, .int y4)]) hx hb dX10_shared_46 hl (by decide) rfl (fun ls hl => ?_)
            refine lv_iload_n hx hb dX10_shared_48 rfl (lv_at hl 4 rfl) ?_
            refine lv_aload_n hx hb dX10_shared_49 rfl (lv_at hl 1 rfl) ?_
            refine lv_iload_n hx hb dX10_shared_50 rfl (lv_at hl 2 rfl) ?_
            refine lv_iload hx hb dX10_shared_51 (lv_at hl 0 rfl) ?_
            refine lv_iload hx hb dX10_shared_53 (lv_at hl 5 rfl) ?_
            obtain ⟨r9, hc9, hf⟩ := sp_hc hf
            refine sp_callViP (rest := [.int y3]) S hK hG hA hW (c_X10_hasClause a fa tr la sl ce pn mn cl le ri lt nm nc nl nr nt at9 en9 de mm ma ne us lk sd sf nu gt gl tb sc su p1 v8 y4 hc9) (by decide) (cwV 3 S.2.2.2.2 gX10_shared_X10_hasClause rfl rfl rfl (by decide +kernel) (by decide)) 8 0 rfl rfl (sp_pn _) rfl (WS' := sw_M a q5 fa tr la sl ce pn mn cl le ri lt nm nc nl nr nt at9 en9 de mm ma ne us lk sd sf nu gt gl tb sc su) (sp_pn' _) rfl hl.1 (Nat.le_of_ble_eq_true rfl) dX10_shared_55 ⟨Nat.zero_le _, Nat.zero_le _⟩ rfl (fun H locs hW => ?_)
            obtain ⟨k11, ek11, hf⟩ := sp_hb hf
            have hj11 : ∀ (x10 : Int32) (H : Heap) (locs : List Loc) (ls : Array Slot), k11 x10 = some r' → sp_wd D A s.heap (sw_M a q5 fa tr la sl ce pn mn cl le ri lt nm nc nl nr nt at9 en9 de mm ma ne us lk sd sf nu gt gl tb sc su) H locs → lv_has ls 6 [(0, .ref (a 0)), (1, .int p1), (2, .int p2), (4, .int y4)] → W p l e rmX10_shared s m args below meth c H locs 0 0 Q (F0 m 82 ls [.int x10, .int y3]) := by
              intro x10 H locs ls hf hW hl
              rw [ek11] at hf
              refine lv_iadd hx hb dX10_shared_82 ?_
              obtain ⟨v12, ev12, hf⟩ := sp_hb hf
              refine sp_topi ev12 ?_
              refine lv_istore_n (lv' := [(3, .int v12), (0, .ref (a 0)), (1, .int p1), (2, .int p2), (4, .int y4)]) hx hb dX10_shared_83 rfl hl (by decide) rfl (fun ls hl => ?_)
              obtain ⟨v13, ev13, hf⟩ := sp_hb hf
              refine lv_iinc (v := v13) (lv' := [(4, .int v13), (3, .int v12), (0, .ref (a 0)), (1, .int p1), (2, .int p2)]) hx hb dX10_shared_84 hl (k := 4) rfl (by rw [ev13]; rfl) (by decide) rfl (fun ls hl => ?_)
              refine lv_goto (tgt := 23) hx hb dX10_shared_87 (by decide) ?_
              exact ih23 _ _ _ _ _ hf hW (lv_sub hl [2, 3, 4, 1, 0] rfl)
            refine lv_if_ne (tgt := 81) hx hb dX10_shared_58 (by decide) (fun hc => ?_) (fun hc => ?_)
            · have hf := sp_hf hf hc
              refine lv_iconst (v := 0) hx hb dX10_shared_81 (by decide) ?_
              exact hj11 _ _ _ _ hf hW (lv_sub hl [1, 2, 3, 5] rfl)
            · have hf := sp_ht hf hc
              refine lv_aload_n hx hb dX10_shared_61 rfl (lv_at hl 1 rfl) ?_
              refine lv_iload_n hx hb dX10_shared_62 rfl (lv_at hl 3 rfl) ?_
              refine lv_iload hx hb dX10_shared_63 (lv_at hl 0 rfl) ?_
              refine lv_aload_n hx hb dX10_shared_65 rfl (lv_at hl 1 rfl) ?_
              refine sp_get S hK hW inX10 0 rfl rfl 6 (by decide) lk1 rfl dX10_shared_66 ?_
              refine lv_iload_n hx hb dX10_shared_69 rfl (lv_at hl 3 rfl) ?_
              obtain ⟨hin, v14, ev14, hf⟩ := sp_hld hf
              refine sp_iald S hK hW 4 rfl hin ev14 dX10_shared_70 ?_
              obtain ⟨r15, hc15, hf⟩ := sp_hc hf
              refine sp_callViP (rest := [.int y3]) S hK hG hA hW (c_X10_hasClause a fa tr la sl ce pn mn cl le ri lt nm nc nl nr nt at9 en9 de mm ma ne us lk sd sf nu gt gl tb sc su p2 v8 v14 hc15) (by decide) (cwV 3 S.2.2.2.2 gX10_shared_X10_hasClause rfl rfl rfl (by decide +kernel) (by decide)) 8 0 rfl rfl (sp_pn _) rfl (WS' := sw_M a q5 fa tr la sl ce pn mn cl le ri lt nm nc nl nr nt at9 en9 de mm ma ne us lk sd sf nu gt gl tb sc su) (sp_pn' _) rfl hl.1 (Nat.le_of_ble_eq_true rfl) dX10_shared_71 ⟨Nat.zero_le _, Nat.zero_le _⟩ rfl (fun H locs hW => ?_)
              refine lv_if_eq (tgt := 81) hx hb dX10_shared_74 (by decide) (fun hc => ?_) (fun hc => ?_)
              · have hf := sp_ht hf hc
                refine lv_iconst (v := 0) hx hb dX10_shared_81 (by decide) ?_
                exact hj11 _ _ _ _ hf hW (lv_sub hl [1, 2, 3, 5] rfl)
              · have hf := sp_hf hf hc
                refine lv_iconst (v := 1) hx hb dX10_shared_77 (by decide) ?_
                refine lv_goto (tgt := 82) hx hb dX10_shared_78 (by decide) ?_
                exact hj11 _ _ _ _ hf hW (lv_sub hl [1, 2, 3, 5] rfl)
      exact hlp23 _ _ _ _ _ _ hf hW (lv_sub hl [2, 3, 4, 1, 0] rfl)
    · have hf := sp_ht hf hc
      refine lv_iconst (v := (-1)) hx hb dX10_shared_16 (by decide) ?_
      have q0 := Option.some.inj hf
      subst q0
      exact sp_iret S hr hlk hW hQ dX10_shared_17

def f_X10_isTrueIn (p1 : Int32) (p2 : Int32) : Option (Int32) := if (p1 &&& p2) = 0 then (if ((p1 >>> ((6 : Int32) &&& 31)) &&& (p2 ^^^ (-1 : Int32))) = 0 then (some (0 : Int32)) else (some (1 : Int32))) else (some (1 : Int32))
def rmX10_isTrueIn : Room := { frames := 0, cells := 0, slots := 0, locals := 0 }
set_option maxRecDepth 4000 in
theorem c_X10_isTrueIn {l : Launch} {D : va_G} {q5 : Nat → ClassId} (p1 : Int32) (p2 : Int32) {r' : Int32} (hf : f_X10_isTrueIn p1 p2 = some r') : sp_Ci l yX10_isTrueIn wsX10_isTrueIn rmX10_isTrueIn D q5 0 [.int p1, .int p2] ([]) r' ([]) := by
  intro sz
  refine sp_of (cc := cX10_isTrueIn) (maxL := 2) (ret := some .boolean) (own := RX10) (Qc := sp_Qi D r' ([])) (by decide) rfl rfl (Nat.le_of_ble_eq_true rfl) ?_
  intro p e s m args below meth c A ls Q hQ S hr hlk hK hG hA hW hl
  have hx := S.1
  have hb := S.2.1
  unfold f_X10_isTrueIn at hf
  refine lv_iload_n hx hb dX10_isTrueIn_0 rfl (lv_at hl 0 rfl) ?_
  refine lv_iload_n hx hb dX10_isTrueIn_1 rfl (lv_at hl 1 rfl) ?_
  refine lv_iand hx hb dX10_isTrueIn_2 ?_
  refine lv_if_ne (tgt := 17) hx hb dX10_isTrueIn_3 (by decide) (fun hc => ?_) (fun hc => ?_)
  · have hf := sp_hf hf hc
    refine lv_iconst (v := 1) hx hb dX10_isTrueIn_17 (by decide) ?_
    refine lv_goto (tgt := 22) hx hb dX10_isTrueIn_18 (by decide) ?_
    have q0 := Option.some.inj hf
    subst q0
    exact sp_zret S hr hlk hW rfl hQ dX10_isTrueIn_22
  · have hf := sp_ht hf hc
    refine lv_iload_n hx hb dX10_isTrueIn_6 rfl (lv_at hl 0 rfl) ?_
    refine lv_bipush (v := 6) hx hb dX10_isTrueIn_7 (by decide) ?_
    refine lv_ishr hx hb dX10_isTrueIn_9 ?_
    refine lv_iload_n hx hb dX10_isTrueIn_10 rfl (lv_at hl 1 rfl) ?_
    refine lv_iconst (v := (-1)) hx hb dX10_isTrueIn_11 (by decide) ?_
    refine lv_ixor hx hb dX10_isTrueIn_12 ?_
    refine lv_iand hx hb dX10_isTrueIn_13 ?_
    refine lv_if_eq (tgt := 21) hx hb dX10_isTrueIn_14 (by decide) (fun hc => ?_) (fun hc => ?_)
    · have hf := sp_ht hf hc
      refine lv_iconst (v := 0) hx hb dX10_isTrueIn_21 (by decide) ?_
      have q0 := Option.some.inj hf
      subst q0
      exact sp_zret S hr hlk hW rfl hQ dX10_isTrueIn_22
    · have hf := sp_hf hf hc
      refine lv_iconst (v := 1) hx hb dX10_isTrueIn_17 (by decide) ?_
      refine lv_goto (tgt := 22) hx hb dX10_isTrueIn_18 (by decide) ?_
      have q0 := Option.some.inj hf
      subst q0
      exact sp_zret S hr hlk hW rfl hQ dX10_isTrueIn_22

def f_X10_truthsOf_L4 (k4 : Int64 → Option (Int64)) (p1 : Int32) (rec4 : (Int64 × Int32) → Option (Int64)) (s9 : Int64 × Int32) : Option (Int64) := match s9 with
  | (y1, y2) => if (64 : Int32) ≤ y2 then (k4 y1) else (Option.bind (f_X10_isTrueIn p1 y2) (fun r5 => sp_bnd (fun (x6 : Int64) => sp_bnd (y1 ||| x6) (fun v8 => sp_bnd (y2 + (1 : Int32)) (fun v9 => rec4 (v8, v9)))) (fun k7 => if r5 = 0 then (k7 (0 : Int64)) else (k7 ((1 : Int64) <<< (y2.toInt64 &&& 63))))))
theorem f_X10_truthsOf_L4_eq {rec4 : (Int64 × Int32) → Option (Int64)} {k4 : Int64 → Option (Int64)} {p1 : Int32} {y1 : Int64} {y2 : Int32} : f_X10_truthsOf_L4 k4 p1 rec4 (y1, y2) = (if (64 : Int32) ≤ y2 then (k4 y1) else (Option.bind (f_X10_isTrueIn p1 y2) (fun r5 => sp_bnd (fun (x6 : Int64) => sp_bnd (y1 ||| x6) (fun v8 => sp_bnd (y2 + (1 : Int32)) (fun v9 => rec4 (v8, v9)))) (fun k7 => if r5 = 0 then (k7 (0 : Int64)) else (k7 ((1 : Int64) <<< (y2.toInt64 &&& 63))))))) := rfl
def f_X10_truthsOf (p1 : Int32) : Option (Int64) := sp_bnd (fun (x3 : Int64) => some x3) (fun k4 => sp_lp (f_X10_truthsOf_L4 k4 p1) sp_F ((0 : Int64), (0 : Int32)))
def rmX10_truthsOf : Room := { frames := 1, cells := 0, slots := 0, locals := 21 }
set_option maxRecDepth 4000 in
theorem c_X10_truthsOf {l : Launch} {D : va_G} {q5 : Nat → ClassId} (p1 : Int32) {r' : Int64} (hf : f_X10_truthsOf p1 = some r') : sp_Cl l yX10_truthsOf wsX10_truthsOf rmX10_truthsOf D q5 0 [.int p1] ([]) r' ([]) := by
  intro sz
  refine sp_of (cc := cX10_truthsOf) (maxL := 4) (ret := some .long) (own := RX10) (Qc := sp_Ql D r' ([])) (by decide) rfl rfl (Nat.le_of_ble_eq_true rfl) ?_
  intro p e s m args below meth c A ls Q hQ S hr hlk hK hG hA hW hl
  have hx := S.1
  have hb := S.2.1
  unfold f_X10_truthsOf at hf
  refine lv_lconst (v := 0) hx hb dX10_truthsOf_0 (by decide) ?_
  refine lv_lstore_n (lv' := [(1, .long (0 : Int64)), (0, .int p1)]) hx hb dX10_truthsOf_1 rfl hl (by decide) rfl (fun ls hl => ?_)
  refine lv_iconst (v := 0) hx hb dX10_truthsOf_2 (by decide) ?_
  refine lv_istore_n (lv' := [(3, .int (0 : Int32)), (1, .long (0 : Int64)), (0, .int p1)]) hx hb dX10_truthsOf_3 rfl hl (by decide) rfl (fun ls hl => ?_)
  obtain ⟨k4, ek4, hf⟩ := sp_hb hf
  have hj4 : ∀ (x3 : Int64) (H : Heap) (locs : List Loc) (ls : Array Slot), k4 x3 = some r' → sp_wd D A s.heap ([]) H locs → lv_has ls 4 [(1, .long x3)] → W p l e rmX10_truthsOf s m args below meth c H locs 0 0 Q (F0 m 34 ls []) := by
    intro x3 H locs ls hf hW hl
    rw [ek4] at hf
    refine lv_lload_n hx hb dX10_truthsOf_34 rfl (lv_at hl 0 rfl) ?_
    have q0 := Option.some.inj hf
    subst q0
    exact sp_lret S hr hlk hW hQ dX10_truthsOf_35
  have hlp4 : ∀ (n9 : Nat) (y1 : Int64) (y2 : Int32) (H : Heap) (locs : List Loc) (ls : Array Slot), sp_lp (f_X10_truthsOf_L4 k4 p1) n9 (y1, y2) = some r' → sp_wd D A s.heap ([]) H locs → lv_has ls 4 [(0, .int p1), (1, .long y1), (3, .int y2)] → W p l e rmX10_truthsOf s m args below meth c H locs 0 0 Q (F0 m 4 ls []) := by
    intro n9
    induction n9 with
    | zero =>
      intro y1 y2 H locs ls hf hW hl
      exact (sp_lp0 hf).elim
    | succ n9 ih4 =>
      intro y1 y2 H locs ls hf hW hl
      have hf := sp_lpS hf
      rw [f_X10_truthsOf_L4_eq] at hf
      refine lv_iload_n hx hb dX10_truthsOf_4 rfl (lv_at hl 2 rfl) ?_
      refine lv_bipush (v := 64) hx hb dX10_truthsOf_5 (by decide) ?_
      refine lv_icmp_ge (tgt := 34) hx hb dX10_truthsOf_7 (by decide) (fun hc => ?_) (fun hc => ?_)
      · have hf := sp_ht hf hc
        exact hj4 _ _ _ _ hf hW (lv_sub hl [1] rfl)
      · have hf := sp_hf hf hc
        refine lv_lload_n hx hb dX10_truthsOf_10 rfl (lv_at hl 1 rfl) ?_
        refine lv_iload_n hx hb dX10_truthsOf_11 rfl (lv_at hl 0 rfl) ?_
        refine lv_iload_n hx hb dX10_truthsOf_12 rfl (lv_at hl 2 rfl) ?_
        obtain ⟨r5, hc5, hf⟩ := sp_hc hf
        refine sp_callSi (rest := [.long y1]) S hK hG hA hW (c_X10_isTrueIn p1 y2 hc5) (by decide) (va_cwS 2 S.2.2.2.2 gX10_truthsOf_X10_isTrueIn rfl rfl rfl (by decide +kernel) (by decide)) (isC := []) rfl rfl rfl (WS' := []) rfl rfl hl.1 (Nat.le_of_ble_eq_true rfl) dX10_truthsOf_13 ⟨Nat.zero_le _, Nat.zero_le _⟩ rfl (fun H locs hW => ?_)
        obtain ⟨k7, ek7, hf⟩ := sp_hb hf
        have hj7 : ∀ (x6 : Int64) (H : Heap) (locs : List Loc) (ls : Array Slot), k7 x6 = some r' → sp_wd D A s.heap ([]) H locs → lv_has ls 4 [(0, .int p1), (3, .int y2)] → W p l e rmX10_truthsOf s m args below meth c H locs 0 0 Q (F0 m 26 ls [.long x6, .long y1]) := by
          intro x6 H locs ls hf hW hl
          rw [ek7] at hf
          refine lv_lor hx hb dX10_truthsOf_26 ?_
          obtain ⟨v8, ev8, hf⟩ := sp_hb hf
          refine sp_topl ev8 ?_
          refine lv_lstore_n (lv' := [(1, .long v8), (0, .int p1), (3, .int y2)]) hx hb dX10_truthsOf_27 rfl hl (by decide) rfl (fun ls hl => ?_)
          obtain ⟨v9, ev9, hf⟩ := sp_hb hf
          refine lv_iinc (v := v9) (lv' := [(3, .int v9), (1, .long v8), (0, .int p1)]) hx hb dX10_truthsOf_28 hl (k := 2) rfl (by rw [ev9]; rfl) (by decide) rfl (fun ls hl => ?_)
          refine lv_goto (tgt := 4) hx hb dX10_truthsOf_31 (by decide) ?_
          exact ih4 _ _ _ _ _ hf hW (lv_sub hl [2, 1, 0] rfl)
        refine lv_if_eq (tgt := 25) hx hb dX10_truthsOf_16 (by decide) (fun hc => ?_) (fun hc => ?_)
        · have hf := sp_ht hf hc
          refine lv_lconst (v := 0) hx hb dX10_truthsOf_25 (by decide) ?_
          exact hj7 _ _ _ _ hf hW (lv_sub hl [0, 2] rfl)
        · have hf := sp_hf hf hc
          refine lv_lconst (v := 1) hx hb dX10_truthsOf_19 (by decide) ?_
          refine lv_iload_n hx hb dX10_truthsOf_20 rfl (lv_at hl 2 rfl) ?_
          refine lv_lshl hx hb dX10_truthsOf_21 rfl ?_
          refine lv_goto (tgt := 26) hx hb dX10_truthsOf_22 (by decide) ?_
          exact hj7 _ _ _ _ hf hW (lv_sub hl [0, 2] rfl)
  exact hlp4 _ _ _ _ _ _ hf hW (lv_sub hl [2, 1, 0] rfl)

def f_X10_layGrounds_L4 (mn : Nat → Int32) (p1 : Int32) (k7 : (Nat → Int64) → (Nat → Int32) → Option ((Nat → Int64) × (Nat → Int32))) (lt : Nat → Int32) (cl : Nat → Int32) (rec4 : (Int32 × Int32 × (Nat → Int64) × (Nat → Int32)) → Option ((Nat → Int64) × (Nat → Int32))) (s9 : Int32 × Int32 × (Nat → Int64) × (Nat → Int32)) : Option ((Nat → Int64) × (Nat → Int32)) := match s9 with
  | (y1, y2, c3, c4) => sp_ld mn 12 p1 (fun v8 => if v8 ≤ y2 then (k7 c3 c4) else (sp_bnd (((24 : Int32) * p1) + y2) (fun v9 => sp_ld lt 288 v9 (fun v10 => sp_bnd (fun (x11 : Int32) (c12 : Nat → Int64) (c13 : Nat → Int32) => sp_bnd (y2 + (1 : Int32)) (fun v15 => rec4 (x11, v15, c12, c13))) (fun k14 => if v10 = (-9 : Int32) then (sp_ld cl 288 v9 (fun v16 => Option.bind (f_X10_truthsOf v16) (fun r17 => sp_stL c3 24 y1 r17 (fun c18 => sp_ld cl 288 v9 (fun v19 => sp_ld cl 288 v9 (fun v20 => sp_st c4 24 y1 ((v19 ||| (v20 >>> ((6 : Int32) &&& 31))) &&& (63 : Int32)) (fun c21 => sp_bnd (y1 + (1 : Int32)) (fun v22 => k14 v22 c18 c21)))))))) else (k14 y1 c3 c4))))))
theorem f_X10_layGrounds_L4_eq {rec4 : (Int32 × Int32 × (Nat → Int64) × (Nat → Int32)) → Option ((Nat → Int64) × (Nat → Int32))} {mn : Nat → Int32} {p1 : Int32} {k7 : (Nat → Int64) → (Nat → Int32) → Option ((Nat → Int64) × (Nat → Int32))} {lt : Nat → Int32} {cl : Nat → Int32} {y1 : Int32} {y2 : Int32} {c3 : Nat → Int64} {c4 : Nat → Int32} : f_X10_layGrounds_L4 mn p1 k7 lt cl rec4 (y1, y2, c3, c4) = (sp_ld mn 12 p1 (fun v8 => if v8 ≤ y2 then (k7 c3 c4) else (sp_bnd (((24 : Int32) * p1) + y2) (fun v9 => sp_ld lt 288 v9 (fun v10 => sp_bnd (fun (x11 : Int32) (c12 : Nat → Int64) (c13 : Nat → Int32) => sp_bnd (y2 + (1 : Int32)) (fun v15 => rec4 (x11, v15, c12, c13))) (fun k14 => if v10 = (-9 : Int32) then (sp_ld cl 288 v9 (fun v16 => Option.bind (f_X10_truthsOf v16) (fun r17 => sp_stL c3 24 y1 r17 (fun c18 => sp_ld cl 288 v9 (fun v19 => sp_ld cl 288 v9 (fun v20 => sp_st c4 24 y1 ((v19 ||| (v20 >>> ((6 : Int32) &&& 31))) &&& (63 : Int32)) (fun c21 => sp_bnd (y1 + (1 : Int32)) (fun v22 => k14 v22 c18 c21)))))))) else (k14 y1 c3 c4))))))) := rfl
def f_X10_layGrounds (p1 : Int32) (mn : Nat → Int32) (cl : Nat → Int32) (lt : Nat → Int32) (gt : Nat → Int64) (gl : Nat → Int32) : Option ((Nat → Int64) × (Nat → Int32)) := sp_bnd (fun (c5 : Nat → Int64) (c6 : Nat → Int32) => some (c5, c6)) (fun k7 => sp_lp (f_X10_layGrounds_L4 mn p1 k7 lt cl) sp_F ((0 : Int32), (0 : Int32), gt, gl))
def rmX10_layGrounds : Room := { frames := 2, cells := 0, slots := 0, locals := 44 }
set_option maxRecDepth 4000 in
theorem c_X10_layGrounds {l : Launch} {D : va_G} {q5 : Nat → ClassId} (a : Nat → Nat) (fa : Int32) (tr : Int32) (la : Nat → Int32) (sl : Nat → Int32) (ce : Nat → Int32) (pn : Int32) (mn : Nat → Int32) (cl : Nat → Int32) (le : Nat → Int32) (ri : Nat → Int32) (lt : Nat → Int32) (nm : Int32) (nc : Nat → Int32) (nl : Nat → Int32) (nr : Nat → Int32) (nt : Nat → Int32) (at9 : Int32) (en9 : Int32) (de : Nat → Int32) (mm : Int32) (ma : Nat → Int32) (ne : Nat → Int32) (us : Nat → Int32) (lk : Nat → Int32) (sd : Nat → Int32) (sf : Nat → Int32) (nu : Nat → Int32) (gt : Nat → Int64) (gl : Nat → Int32) (tb : Nat → Int64) (sc : Nat → Int32) (su : Nat → Int32) (p1 : Int32) {gt' : Nat → Int64} {gl' : Nat → Int32} (hf : f_X10_layGrounds p1 mn cl lt gt gl = some (gt', gl')) : sp_Cv l yX10_layGrounds wsX10_layGrounds rmX10_layGrounds D q5 0 [.ref (a 0), .int p1] (sw_M a q5 fa tr la sl ce pn mn cl le ri lt nm nc nl nr nt at9 en9 de mm ma ne us lk sd sf nu gt gl tb sc su) (sw_M a q5 fa tr la sl ce pn mn cl le ri lt nm nc nl nr nt at9 en9 de mm ma ne us lk sd sf nu gt' gl' tb sc su) := by
  intro sz
  refine sp_of (cc := cX10_layGrounds) (maxL := 5) (ret := none) (own := RX10) (Qc := sp_Qv D (sw_M a q5 fa tr la sl ce pn mn cl le ri lt nm nc nl nr nt at9 en9 de mm ma ne us lk sd sf nu gt' gl' tb sc su)) (by decide) rfl rfl (Nat.le_of_ble_eq_true rfl) ?_
  intro p e s m args below meth c A ls Q hQ S hr hlk hK hG hA hW hl
  have hx := S.1
  have hb := S.2.1
  unfold f_X10_layGrounds at hf
  have inX10 : ∀ w ∈ u_ws RX10 TX10 32, w ∈ wsX10_layGrounds := (fun _ h => List.mem_cons_of_mem _ (List.mem_append_right _ h))
  have lk1 := S.2.2.2.2 (Cond.fieldLink RX10 19 "ShortProofsModel" "many" "[I") (List.mem_of_getElem? (i := 1) rfl)
  have lk2 := S.2.2.2.2 (Cond.fieldLink RX10 31 "ShortProofsModel" "letters" "[I") (List.mem_of_getElem? (i := 2) rfl)
  have lk3 := S.2.2.2.2 (Cond.fieldLink RX10 70 "ShortProofsModel" "groundTruths" "[J") (List.mem_of_getElem? (i := 3) rfl)
  have lk4 := S.2.2.2.2 (Cond.fieldLink RX10 22 "ShortProofsModel" "clauses" "[I") (List.mem_of_getElem? (i := 4) rfl)
  have lk5 := S.2.2.2.2 (Cond.fieldLink RX10 74 "ShortProofsModel" "groundLetters" "[I") (List.mem_of_getElem? (i := 5) rfl)
  refine lv_iconst (v := 0) hx hb dX10_layGrounds_0 (by decide) ?_
  refine lv_istore_n (lv' := [(2, .int (0 : Int32)), (0, .ref (a 0)), (1, .int p1)]) hx hb dX10_layGrounds_1 rfl hl (by decide) rfl (fun ls hl => ?_)
  refine lv_iconst (v := 0) hx hb dX10_layGrounds_2 (by decide) ?_
  refine lv_istore_n (lv' := [(3, .int (0 : Int32)), (2, .int (0 : Int32)), (0, .ref (a 0)), (1, .int p1)]) hx hb dX10_layGrounds_3 rfl hl (by decide) rfl (fun ls hl => ?_)
  obtain ⟨k7, ek7, hf⟩ := sp_hb hf
  have hj7 : ∀ (c5 : Nat → Int64) (c6 : Nat → Int32) (H : Heap) (locs : List Loc) (ls : Array Slot), k7 c5 c6 = some (gt', gl') → sp_wd D A s.heap (sw_M a q5 fa tr la sl ce pn mn cl le ri lt nm nc nl nr nt at9 en9 de mm ma ne us lk sd sf nu c5 c6 tb sc su) H locs → lv_has ls 5 [] → W p l e rmX10_layGrounds s m args below meth c H locs 0 0 Q (F0 m 86 ls []) := by
    intro c5 c6 H locs ls hf hW hl
    rw [ek7] at hf
    have q0 := Option.some.inj hf
    obtain ⟨q1, z1⟩ := Prod.mk.inj q0
    subst q1
    subst z1
    exact sp_vret S hr hlk hW hQ dX10_layGrounds_86
  have hlp4 : ∀ (n9 : Nat) (y1 : Int32) (y2 : Int32) (c3 : Nat → Int64) (c4 : Nat → Int32) (H : Heap) (locs : List Loc) (ls : Array Slot), sp_lp (f_X10_layGrounds_L4 mn p1 k7 lt cl) n9 (y1, y2, c3, c4) = some (gt', gl') → sp_wd D A s.heap (sw_M a q5 fa tr la sl ce pn mn cl le ri lt nm nc nl nr nt at9 en9 de mm ma ne us lk sd sf nu c3 c4 tb sc su) H locs → lv_has ls 5 [(0, .ref (a 0)), (1, .int p1), (2, .int y1), (3, .int y2)] → W p l e rmX10_layGrounds s m args below meth c H locs 0 0 Q (F0 m 4 ls []) := by
    intro n9
    induction n9 with
    | zero =>
      intro y1 y2 c3 c4 H locs ls hf hW hl
      exact (sp_lp0 hf).elim
    | succ n9 ih4 =>
      intro y1 y2 c3 c4 H locs ls hf hW hl
      have hf := sp_lpS hf
      rw [f_X10_layGrounds_L4_eq] at hf
      refine lv_iload_n hx hb dX10_layGrounds_4 rfl (lv_at hl 3 rfl) ?_
      refine lv_aload_n hx hb dX10_layGrounds_5 rfl (lv_at hl 0 rfl) ?_
      refine sp_get S hK hW inX10 0 rfl rfl 6 (by decide) lk1 rfl dX10_layGrounds_6 ?_
      refine lv_iload_n hx hb dX10_layGrounds_9 rfl (lv_at hl 1 rfl) ?_
      obtain ⟨hin, v8, ev8, hf⟩ := sp_hld hf
      refine sp_iald S hK hW 4 rfl hin ev8 dX10_layGrounds_10 ?_
      refine lv_icmp_ge (tgt := 86) hx hb dX10_layGrounds_11 (by decide) (fun hc => ?_) (fun hc => ?_)
      · have hf := sp_ht hf hc
        exact hj7 _ _ _ _ _ hf hW (lv_sub hl [] rfl)
      · have hf := sp_hf hf hc
        refine lv_bipush (v := 24) hx hb dX10_layGrounds_14 (by decide) ?_
        refine lv_iload_n hx hb dX10_layGrounds_16 rfl (lv_at hl 1 rfl) ?_
        refine lv_imul hx hb dX10_layGrounds_17 ?_
        refine lv_iload_n hx hb dX10_layGrounds_18 rfl (lv_at hl 3 rfl) ?_
        refine lv_iadd hx hb dX10_layGrounds_19 ?_
        obtain ⟨v9, ev9, hf⟩ := sp_hb hf
        refine sp_topi ev9 ?_
        refine lv_istore (lv' := [(4, .int v9), (0, .ref (a 0)), (1, .int p1), (2, .int y1), (3, .int y2)]) hx hb dX10_layGrounds_20 hl (by decide) rfl (fun ls hl => ?_)
        refine lv_aload_n hx hb dX10_layGrounds_22 rfl (lv_at hl 1 rfl) ?_
        refine sp_get S hK hW inX10 0 rfl rfl 10 (by decide) lk2 rfl dX10_layGrounds_23 ?_
        refine lv_iload hx hb dX10_layGrounds_26 (lv_at hl 0 rfl) ?_
        obtain ⟨hin, v10, ev10, hf⟩ := sp_hld hf
        refine sp_iald S hK hW 8 rfl hin ev10 dX10_layGrounds_28 ?_
        refine lv_bipush (v := (-9)) hx hb dX10_layGrounds_29 (by decide) ?_
        obtain ⟨k14, ek14, hf⟩ := sp_hb hf
        have hj14 : ∀ (x11 : Int32) (c12 : Nat → Int64) (c13 : Nat → Int32) (H : Heap) (locs : List Loc) (ls : Array Slot), k14 x11 c12 c13 = some (gt', gl') → sp_wd D A s.heap (sw_M a q5 fa tr la sl ce pn mn cl le ri lt nm nc nl nr nt at9 en9 de mm ma ne us lk sd sf nu c12 c13 tb sc su) H locs → lv_has ls 5 [(0, .ref (a 0)), (1, .int p1), (2, .int x11), (3, .int y2)] → W p l e rmX10_layGrounds s m args below meth c H locs 0 0 Q (F0 m 80 ls []) := by
          intro x11 c12 c13 H locs ls hf hW hl
          rw [ek14] at hf
          obtain ⟨v15, ev15, hf⟩ := sp_hb hf
          refine lv_iinc (v := v15) (lv' := [(3, .int v15), (0, .ref (a 0)), (1, .int p1), (2, .int x11)]) hx hb dX10_layGrounds_80 hl (k := 3) rfl (by rw [ev15]; rfl) (by decide) rfl (fun ls hl => ?_)
          refine lv_goto (tgt := 4) hx hb dX10_layGrounds_83 (by decide) ?_
          exact ih4 _ _ _ _ _ _ _ hf hW (lv_sub hl [1, 2, 3, 0] rfl)
        refine lv_icmp_ne (tgt := 80) hx hb dX10_layGrounds_31 (by decide) (fun hc => ?_) (fun hc => ?_)
        · have hf := sp_hf hf hc
          exact hj14 _ _ _ _ _ _ hf hW (lv_sub hl [1, 2, 3, 4] rfl)
        · have hf := sp_ht hf hc
          refine lv_aload_n hx hb dX10_layGrounds_34 rfl (lv_at hl 1 rfl) ?_
          refine sp_get S hK hW inX10 0 rfl rfl 27 (by decide) lk3 rfl dX10_layGrounds_35 ?_
          refine lv_iload_n hx hb dX10_layGrounds_38 rfl (lv_at hl 3 rfl) ?_
          refine lv_aload_n hx hb dX10_layGrounds_39 rfl (lv_at hl 1 rfl) ?_
          refine sp_get S hK hW inX10 0 rfl rfl 7 (by decide) lk4 rfl dX10_layGrounds_40 ?_
          refine lv_iload hx hb dX10_layGrounds_43 (lv_at hl 0 rfl) ?_
          obtain ⟨hin, v16, ev16, hf⟩ := sp_hld hf
          refine sp_iald S hK hW 5 rfl hin ev16 dX10_layGrounds_45 ?_
          obtain ⟨r17, hc17, hf⟩ := sp_hc hf
          refine sp_callSl (rest := [.int y1, .ref (a 21)]) S hK hG hA hW (c_X10_truthsOf v16 hc17) (by decide) (va_cwS 1 S.2.2.2.2 gX10_layGrounds_X10_truthsOf rfl rfl rfl (by decide +kernel) (by decide)) (isC := []) rfl rfl rfl (WS' := sw_M a q5 fa tr la sl ce pn mn cl le ri lt nm nc nl nr nt at9 en9 de mm ma ne us lk sd sf nu c3 c4 tb sc su) rfl rfl hl.1 (Nat.le_of_ble_eq_true rfl) dX10_layGrounds_46 ⟨Nat.zero_le _, Nat.zero_le _⟩ rfl (fun H locs hW => ?_)
          obtain ⟨hin, c18, ec18, hf⟩ := sp_hstL hf
          refine sp_last S hK hW 21 rfl hin ec18 (ws' := sw_M a q5 fa tr la sl ce pn mn cl le ri lt nm nc nl nr nt at9 en9 de mm ma ne us lk sd sf nu c18 c4 tb sc su) rfl dX10_layGrounds_49 (fun H locs hW => ?_)
          refine lv_aload_n hx hb dX10_layGrounds_50 rfl (lv_at hl 1 rfl) ?_
          refine sp_get S hK hW inX10 0 rfl rfl 28 (by decide) lk5 rfl dX10_layGrounds_51 ?_
          refine lv_iload_n hx hb dX10_layGrounds_54 rfl (lv_at hl 3 rfl) ?_
          refine lv_aload_n hx hb dX10_layGrounds_55 rfl (lv_at hl 1 rfl) ?_
          refine sp_get S hK hW inX10 0 rfl rfl 7 (by decide) lk4 rfl dX10_layGrounds_56 ?_
          refine lv_iload hx hb dX10_layGrounds_59 (lv_at hl 0 rfl) ?_
          obtain ⟨hin, v19, ev19, hf⟩ := sp_hld hf
          refine sp_iald S hK hW 5 rfl hin ev19 dX10_layGrounds_61 ?_
          refine lv_aload_n hx hb dX10_layGrounds_62 rfl (lv_at hl 1 rfl) ?_
          refine sp_get S hK hW inX10 0 rfl rfl 7 (by decide) lk4 rfl dX10_layGrounds_63 ?_
          refine lv_iload hx hb dX10_layGrounds_66 (lv_at hl 0 rfl) ?_
          obtain ⟨hin, v20, ev20, hf⟩ := sp_hld hf
          refine sp_iald S hK hW 5 rfl hin ev20 dX10_layGrounds_68 ?_
          refine lv_bipush (v := 6) hx hb dX10_layGrounds_69 (by decide) ?_
          refine lv_ishr hx hb dX10_layGrounds_71 ?_
          refine lv_ior hx hb dX10_layGrounds_72 ?_
          refine lv_bipush (v := 63) hx hb dX10_layGrounds_73 (by decide) ?_
          refine lv_iand hx hb dX10_layGrounds_75 ?_
          obtain ⟨hin, c21, ec21, hf⟩ := sp_hst hf
          refine sp_iast S hK hW 22 rfl hin ec21 (ws' := sw_M a q5 fa tr la sl ce pn mn cl le ri lt nm nc nl nr nt at9 en9 de mm ma ne us lk sd sf nu c18 c21 tb sc su) rfl dX10_layGrounds_76 (fun H locs hW => ?_)
          obtain ⟨v22, ev22, hf⟩ := sp_hb hf
          refine lv_iinc (v := v22) (lv' := [(2, .int v22), (4, .int v9), (0, .ref (a 0)), (1, .int p1), (3, .int y2)]) hx hb dX10_layGrounds_77 hl (k := 3) rfl (by rw [ev22]; rfl) (by decide) rfl (fun ls hl => ?_)
          exact hj14 _ _ _ _ _ _ hf hW (lv_sub hl [2, 3, 0, 4] rfl)
  exact hlp4 _ _ _ _ _ _ _ _ hf hW (lv_sub hl [2, 3, 1, 0] rfl)

def f_X10_allTrue_L7 (p2 : Int32) (k4 : Int64 → Option (Int64)) (p1 : Int32) (gt : Nat → Int64) (rec7 : (Int64 × Int32) → Option (Int64)) (s9 : Int64 × Int32) : Option (Int64) := match s9 with
  | (y1, y2) => if p2 ≤ y2 then (k4 y1) else (sp_bnd (fun (x5 : Int64) => sp_bnd (y1 &&& x5) (fun v7 => sp_bnd (y2 + (1 : Int32)) (fun v8 => rec7 (v7, v8)))) (fun k6 => if ((p1 >>> (y2 &&& 31)) &&& (1 : Int32)) = (1 : Int32) then (sp_ld gt 24 y2 (fun v9 => k6 v9)) else (k6 (-1 : Int64))))
theorem f_X10_allTrue_L7_eq {rec7 : (Int64 × Int32) → Option (Int64)} {p2 : Int32} {k4 : Int64 → Option (Int64)} {p1 : Int32} {gt : Nat → Int64} {y1 : Int64} {y2 : Int32} : f_X10_allTrue_L7 p2 k4 p1 gt rec7 (y1, y2) = (if p2 ≤ y2 then (k4 y1) else (sp_bnd (fun (x5 : Int64) => sp_bnd (y1 &&& x5) (fun v7 => sp_bnd (y2 + (1 : Int32)) (fun v8 => rec7 (v7, v8)))) (fun k6 => if ((p1 >>> (y2 &&& 31)) &&& (1 : Int32)) = (1 : Int32) then (sp_ld gt 24 y2 (fun v9 => k6 v9)) else (k6 (-1 : Int64))))) := rfl
def f_X10_allTrue (p1 : Int32) (p2 : Int32) (gt : Nat → Int64) : Option (Int64) := sp_bnd (fun (x3 : Int64) => some x3) (fun k4 => sp_lp (f_X10_allTrue_L7 p2 k4 p1 gt) sp_F ((-1 : Int64), (0 : Int32)))
def rmX10_allTrue : Room := { frames := 0, cells := 0, slots := 0, locals := 0 }
set_option maxRecDepth 4000 in
theorem c_X10_allTrue {l : Launch} {D : va_G} {q5 : Nat → ClassId} (a : Nat → Nat) (fa : Int32) (tr : Int32) (la : Nat → Int32) (sl : Nat → Int32) (ce : Nat → Int32) (pn : Int32) (mn : Nat → Int32) (cl : Nat → Int32) (le : Nat → Int32) (ri : Nat → Int32) (lt : Nat → Int32) (nm : Int32) (nc : Nat → Int32) (nl : Nat → Int32) (nr : Nat → Int32) (nt : Nat → Int32) (at9 : Int32) (en9 : Int32) (de : Nat → Int32) (mm : Int32) (ma : Nat → Int32) (ne : Nat → Int32) (us : Nat → Int32) (lk : Nat → Int32) (sd : Nat → Int32) (sf : Nat → Int32) (nu : Nat → Int32) (gt : Nat → Int64) (gl : Nat → Int32) (tb : Nat → Int64) (sc : Nat → Int32) (su : Nat → Int32) (p1 : Int32) (p2 : Int32) {r' : Int64} (hf : f_X10_allTrue p1 p2 gt = some r') : sp_Cl l yX10_allTrue wsX10_allTrue rmX10_allTrue D q5 0 [.ref (a 0), .int p1, .int p2] (sw_M a q5 fa tr la sl ce pn mn cl le ri lt nm nc nl nr nt at9 en9 de mm ma ne us lk sd sf nu gt gl tb sc su) r' (sw_M a q5 fa tr la sl ce pn mn cl le ri lt nm nc nl nr nt at9 en9 de mm ma ne us lk sd sf nu gt gl tb sc su) := by
  intro sz
  refine sp_of (cc := cX10_allTrue) (maxL := 6) (ret := some .long) (own := RX10) (Qc := sp_Ql D r' (sw_M a q5 fa tr la sl ce pn mn cl le ri lt nm nc nl nr nt at9 en9 de mm ma ne us lk sd sf nu gt gl tb sc su)) (by decide) rfl rfl (Nat.le_of_ble_eq_true rfl) ?_
  intro p e s m args below meth c A ls Q hQ S hr hlk hK hG hA hW hl
  have hx := S.1
  have hb := S.2.1
  unfold f_X10_allTrue at hf
  have inX10 : ∀ w ∈ u_ws RX10 TX10 32, w ∈ wsX10_allTrue := (fun _ h => List.mem_cons_of_mem _ (List.mem_append_right _ h))
  have lk1 := S.2.2.2.2 (Cond.constantLong RX10 249 (-1)) (List.mem_of_getElem? (i := 1) rfl)
  have lk2 := S.2.2.2.2 (Cond.fieldLink RX10 70 "ShortProofsModel" "groundTruths" "[J") (List.mem_of_getElem? (i := 2) rfl)
  refine lv_ldc2 hx hb S.2.2.2.1 lk1 dX10_allTrue_0 ?_
  refine lv_lstore_n (lv' := [(3, .long (-1 : Int64)), (0, .ref (a 0)), (1, .int p1), (2, .int p2)]) hx hb dX10_allTrue_3 rfl hl (by decide) rfl (fun ls hl => ?_)
  refine lv_iconst (v := 0) hx hb dX10_allTrue_4 (by decide) ?_
  refine lv_istore (lv' := [(5, .int (0 : Int32)), (3, .long (-1 : Int64)), (0, .ref (a 0)), (1, .int p1), (2, .int p2)]) hx hb dX10_allTrue_5 hl (by decide) rfl (fun ls hl => ?_)
  obtain ⟨k4, ek4, hf⟩ := sp_hb hf
  have hj4 : ∀ (x3 : Int64) (H : Heap) (locs : List Loc) (ls : Array Slot), k4 x3 = some r' → sp_wd D A s.heap (sw_M a q5 fa tr la sl ce pn mn cl le ri lt nm nc nl nr nt at9 en9 de mm ma ne us lk sd sf nu gt gl tb sc su) H locs → lv_has ls 6 [(3, .long x3)] → W p l e rmX10_allTrue s m args below meth c H locs 0 0 Q (F0 m 45 ls []) := by
    intro x3 H locs ls hf hW hl
    rw [ek4] at hf
    refine lv_lload_n hx hb dX10_allTrue_45 rfl (lv_at hl 0 rfl) ?_
    have q0 := Option.some.inj hf
    subst q0
    exact sp_lret S hr hlk hW hQ dX10_allTrue_46
  have hlp7 : ∀ (n9 : Nat) (y1 : Int64) (y2 : Int32) (H : Heap) (locs : List Loc) (ls : Array Slot), sp_lp (f_X10_allTrue_L7 p2 k4 p1 gt) n9 (y1, y2) = some r' → sp_wd D A s.heap (sw_M a q5 fa tr la sl ce pn mn cl le ri lt nm nc nl nr nt at9 en9 de mm ma ne us lk sd sf nu gt gl tb sc su) H locs → lv_has ls 6 [(0, .ref (a 0)), (1, .int p1), (2, .int p2), (3, .long y1), (5, .int y2)] → W p l e rmX10_allTrue s m args below meth c H locs 0 0 Q (F0 m 7 ls []) := by
    intro n9
    induction n9 with
    | zero =>
      intro y1 y2 H locs ls hf hW hl
      exact (sp_lp0 hf).elim
    | succ n9 ih7 =>
      intro y1 y2 H locs ls hf hW hl
      have hf := sp_lpS hf
      rw [f_X10_allTrue_L7_eq] at hf
      refine lv_iload hx hb dX10_allTrue_7 (lv_at hl 4 rfl) ?_
      refine lv_iload_n hx hb dX10_allTrue_9 rfl (lv_at hl 2 rfl) ?_
      refine lv_icmp_ge (tgt := 45) hx hb dX10_allTrue_10 (by decide) (fun hc => ?_) (fun hc => ?_)
      · have hf := sp_ht hf hc
        exact hj4 _ _ _ _ hf hW (lv_sub hl [3] rfl)
      · have hf := sp_hf hf hc
        refine lv_lload_n hx hb dX10_allTrue_13 rfl (lv_at hl 3 rfl) ?_
        refine lv_iload_n hx hb dX10_allTrue_14 rfl (lv_at hl 1 rfl) ?_
        refine lv_iload hx hb dX10_allTrue_15 (lv_at hl 4 rfl) ?_
        refine lv_ishr hx hb dX10_allTrue_17 ?_
        refine lv_iconst (v := 1) hx hb dX10_allTrue_18 (by decide) ?_
        refine lv_iand hx hb dX10_allTrue_19 ?_
        refine lv_iconst (v := 1) hx hb dX10_allTrue_20 (by decide) ?_
        obtain ⟨k6, ek6, hf⟩ := sp_hb hf
        have hj6 : ∀ (x5 : Int64) (H : Heap) (locs : List Loc) (ls : Array Slot), k6 x5 = some r' → sp_wd D A s.heap (sw_M a q5 fa tr la sl ce pn mn cl le ri lt nm nc nl nr nt at9 en9 de mm ma ne us lk sd sf nu gt gl tb sc su) H locs → lv_has ls 6 [(0, .ref (a 0)), (1, .int p1), (2, .int p2), (5, .int y2)] → W p l e rmX10_allTrue s m args below meth c H locs 0 0 Q (F0 m 37 ls [.long x5, .long y1]) := by
          intro x5 H locs ls hf hW hl
          rw [ek6] at hf
          refine lv_land hx hb dX10_allTrue_37 ?_
          obtain ⟨v7, ev7, hf⟩ := sp_hb hf
          refine sp_topl ev7 ?_
          refine lv_lstore_n (lv' := [(3, .long v7), (0, .ref (a 0)), (1, .int p1), (2, .int p2), (5, .int y2)]) hx hb dX10_allTrue_38 rfl hl (by decide) rfl (fun ls hl => ?_)
          obtain ⟨v8, ev8, hf⟩ := sp_hb hf
          refine lv_iinc (v := v8) (lv' := [(5, .int v8), (3, .long v7), (0, .ref (a 0)), (1, .int p1), (2, .int p2)]) hx hb dX10_allTrue_39 hl (k := 4) rfl (by rw [ev8]; rfl) (by decide) rfl (fun ls hl => ?_)
          refine lv_goto (tgt := 7) hx hb dX10_allTrue_42 (by decide) ?_
          exact ih7 _ _ _ _ _ hf hW (lv_sub hl [2, 3, 4, 1, 0] rfl)
        refine lv_icmp_ne (tgt := 34) hx hb dX10_allTrue_21 (by decide) (fun hc => ?_) (fun hc => ?_)
        · have hf := sp_hf hf hc
          refine lv_ldc2 hx hb S.2.2.2.1 lk1 dX10_allTrue_34 ?_
          exact hj6 _ _ _ _ hf hW (lv_sub hl [0, 1, 2, 4] rfl)
        · have hf := sp_ht hf hc
          refine lv_aload_n hx hb dX10_allTrue_24 rfl (lv_at hl 0 rfl) ?_
          refine sp_get S hK hW inX10 0 rfl rfl 27 (by decide) lk2 rfl dX10_allTrue_25 ?_
          refine lv_iload hx hb dX10_allTrue_28 (lv_at hl 4 rfl) ?_
          obtain ⟨hin, v9, ev9, hf⟩ := sp_hld hf
          refine sp_lald S hK hW 21 rfl hin ev9 dX10_allTrue_30 ?_
          refine lv_goto (tgt := 37) hx hb dX10_allTrue_31 (by decide) ?_
          exact hj6 _ _ _ _ hf hW (lv_sub hl [0, 1, 2, 4] rfl)
  exact hlp7 _ _ _ _ _ _ hf hW (lv_sub hl [2, 3, 4, 1, 0] rfl)

def f_X10_isBare_L15 (p2 : Int32) (k3 : Option (Int32)) (p1 : Int32) (gt : Nat → Int64) (rec15 : (Int32) → Option (Int32)) (s9 : Int32) : Option (Int32) := match s9 with
  | y2 => if p2 ≤ y2 then k3 else (sp_bnd (sp_bnd (y2 + (1 : Int32)) (fun v5 => rec15 v5)) (fun k4 => if ((p1 >>> (y2 &&& 31)) &&& (1 : Int32)) = (1 : Int32) then (Option.bind (f_X10_allTrue (p1 &&& (((1 : Int32) <<< (y2 &&& 31)) ^^^ (-1 : Int32))) p2 gt) (fun r6 => if (lg_cmp r6 (0 : Int64)) = 0 then (some (0 : Int32)) else k4)) else k4))
theorem f_X10_isBare_L15_eq {rec15 : (Int32) → Option (Int32)} {p2 : Int32} {k3 : Option (Int32)} {p1 : Int32} {gt : Nat → Int64} {y2 : Int32} : f_X10_isBare_L15 p2 k3 p1 gt rec15 y2 = (if p2 ≤ y2 then k3 else (sp_bnd (sp_bnd (y2 + (1 : Int32)) (fun v5 => rec15 v5)) (fun k4 => if ((p1 >>> (y2 &&& 31)) &&& (1 : Int32)) = (1 : Int32) then (Option.bind (f_X10_allTrue (p1 &&& (((1 : Int32) <<< (y2 &&& 31)) ^^^ (-1 : Int32))) p2 gt) (fun r6 => if (lg_cmp r6 (0 : Int64)) = 0 then (some (0 : Int32)) else k4)) else k4))) := rfl
def f_X10_isBare (p1 : Int32) (p2 : Int32) (gt : Nat → Int64) : Option (Int32) := Option.bind (f_X10_allTrue p1 p2 gt) (fun r1 => if (lg_cmp r1 (0 : Int64)) = 0 then (sp_bnd (some (1 : Int32)) (fun k3 => sp_lp (f_X10_isBare_L15 p2 k3 p1 gt) sp_F (0 : Int32))) else (some (0 : Int32)))
def rmX10_isBare : Room := { frames := 1, cells := 0, slots := 0, locals := 25 }
set_option maxRecDepth 4000 in
theorem c_X10_isBare {l : Launch} {D : va_G} {q5 : Nat → ClassId} (a : Nat → Nat) (fa : Int32) (tr : Int32) (la : Nat → Int32) (sl : Nat → Int32) (ce : Nat → Int32) (pn : Int32) (mn : Nat → Int32) (cl : Nat → Int32) (le : Nat → Int32) (ri : Nat → Int32) (lt : Nat → Int32) (nm : Int32) (nc : Nat → Int32) (nl : Nat → Int32) (nr : Nat → Int32) (nt : Nat → Int32) (at9 : Int32) (en9 : Int32) (de : Nat → Int32) (mm : Int32) (ma : Nat → Int32) (ne : Nat → Int32) (us : Nat → Int32) (lk : Nat → Int32) (sd : Nat → Int32) (sf : Nat → Int32) (nu : Nat → Int32) (gt : Nat → Int64) (gl : Nat → Int32) (tb : Nat → Int64) (sc : Nat → Int32) (su : Nat → Int32) (p1 : Int32) (p2 : Int32) {r' : Int32} (hf : f_X10_isBare p1 p2 gt = some r') : sp_Ci l yX10_isBare wsX10_isBare rmX10_isBare D q5 0 [.ref (a 0), .int p1, .int p2] (sw_M a q5 fa tr la sl ce pn mn cl le ri lt nm nc nl nr nt at9 en9 de mm ma ne us lk sd sf nu gt gl tb sc su) r' (sw_M a q5 fa tr la sl ce pn mn cl le ri lt nm nc nl nr nt at9 en9 de mm ma ne us lk sd sf nu gt gl tb sc su) := by
  intro sz
  refine sp_of (cc := cX10_isBare) (maxL := 4) (ret := some .boolean) (own := RX10) (Qc := sp_Qi D r' (sw_M a q5 fa tr la sl ce pn mn cl le ri lt nm nc nl nr nt at9 en9 de mm ma ne us lk sd sf nu gt gl tb sc su)) (by decide) rfl rfl (Nat.le_of_ble_eq_true rfl) ?_
  intro p e s m args below meth c A ls Q hQ S hr hlk hK hG hA hW hl
  have hx := S.1
  have hb := S.2.1
  unfold f_X10_isBare at hf
  refine lv_aload_n hx hb dX10_isBare_0 rfl (lv_at hl 0 rfl) ?_
  refine lv_iload_n hx hb dX10_isBare_1 rfl (lv_at hl 1 rfl) ?_
  refine lv_iload_n hx hb dX10_isBare_2 rfl (lv_at hl 2 rfl) ?_
  obtain ⟨r1, hc1, hf⟩ := sp_hc hf
  refine sp_callVlP (rest := []) S hK hG hA hW (c_X10_allTrue a fa tr la sl ce pn mn cl le ri lt nm nc nl nr nt at9 en9 de mm ma ne us lk sd sf nu gt gl tb sc su p1 p2 hc1) (by decide) (cwV 2 S.2.2.2.2 gX10_isBare_X10_allTrue rfl rfl rfl (by decide +kernel) (by decide)) 8 0 rfl rfl (sp_pn _) rfl (WS' := sw_M a q5 fa tr la sl ce pn mn cl le ri lt nm nc nl nr nt at9 en9 de mm ma ne us lk sd sf nu gt gl tb sc su) (sp_pn' _) rfl hl.1 (Nat.le_of_ble_eq_true rfl) dX10_isBare_3 ⟨Nat.zero_le _, Nat.zero_le _⟩ rfl (fun H locs hW => ?_)
  refine lv_lconst (v := 0) hx hb dX10_isBare_6 (by decide) ?_
  refine W.lcmp hx hb dX10_isBare_7 ?_
  refine lv_if_eq (tgt := 13) hx hb dX10_isBare_8 (by decide) (fun hc => ?_) (fun hc => ?_)
  · have hf := sp_ht hf hc
    refine lv_iconst (v := 0) hx hb dX10_isBare_13 (by decide) ?_
    refine lv_istore_n (lv' := [(3, .int (0 : Int32)), (0, .ref (a 0)), (1, .int p1), (2, .int p2)]) hx hb dX10_isBare_14 rfl hl (by decide) rfl (fun ls hl => ?_)
    obtain ⟨k3, ek3, hf⟩ := sp_hb hf
    have hj3 : ∀ (H : Heap) (locs : List Loc) (ls : Array Slot), k3 = some r' → sp_wd D A s.heap (sw_M a q5 fa tr la sl ce pn mn cl le ri lt nm nc nl nr nt at9 en9 de mm ma ne us lk sd sf nu gt gl tb sc su) H locs → lv_has ls 4 [] → W p l e rmX10_isBare s m args below meth c H locs 0 0 Q (F0 m 54 ls []) := by
      intro H locs ls hf hW hl
      rw [ek3] at hf
      refine lv_iconst (v := 1) hx hb dX10_isBare_54 (by decide) ?_
      have q0 := Option.some.inj hf
      subst q0
      exact sp_zret S hr hlk hW rfl hQ dX10_isBare_55
    have hlp15 : ∀ (n9 : Nat) (y2 : Int32) (H : Heap) (locs : List Loc) (ls : Array Slot), sp_lp (f_X10_isBare_L15 p2 k3 p1 gt) n9 y2 = some r' → sp_wd D A s.heap (sw_M a q5 fa tr la sl ce pn mn cl le ri lt nm nc nl nr nt at9 en9 de mm ma ne us lk sd sf nu gt gl tb sc su) H locs → lv_has ls 4 [(0, .ref (a 0)), (1, .int p1), (2, .int p2), (3, .int y2)] → W p l e rmX10_isBare s m args below meth c H locs 0 0 Q (F0 m 15 ls []) := by
      intro n9
      induction n9 with
      | zero =>
        intro y2 H locs ls hf hW hl
        exact (sp_lp0 hf).elim
      | succ n9 ih15 =>
        intro y2 H locs ls hf hW hl
        have hf := sp_lpS hf
        rw [f_X10_isBare_L15_eq] at hf
        refine lv_iload_n hx hb dX10_isBare_15 rfl (lv_at hl 3 rfl) ?_
        refine lv_iload_n hx hb dX10_isBare_16 rfl (lv_at hl 2 rfl) ?_
        refine lv_icmp_ge (tgt := 54) hx hb dX10_isBare_17 (by decide) (fun hc => ?_) (fun hc => ?_)
        · have hf := sp_ht hf hc
          exact hj3 _ _ _ hf hW (lv_sub hl [] rfl)
        · have hf := sp_hf hf hc
          refine lv_iload_n hx hb dX10_isBare_20 rfl (lv_at hl 1 rfl) ?_
          refine lv_iload_n hx hb dX10_isBare_21 rfl (lv_at hl 3 rfl) ?_
          refine lv_ishr hx hb dX10_isBare_22 ?_
          refine lv_iconst (v := 1) hx hb dX10_isBare_23 (by decide) ?_
          refine lv_iand hx hb dX10_isBare_24 ?_
          refine lv_iconst (v := 1) hx hb dX10_isBare_25 (by decide) ?_
          obtain ⟨k4, ek4, hf⟩ := sp_hb hf
          have hj4 : ∀ (H : Heap) (locs : List Loc) (ls : Array Slot), k4 = some r' → sp_wd D A s.heap (sw_M a q5 fa tr la sl ce pn mn cl le ri lt nm nc nl nr nt at9 en9 de mm ma ne us lk sd sf nu gt gl tb sc su) H locs → lv_has ls 4 [(0, .ref (a 0)), (1, .int p1), (2, .int p2), (3, .int y2)] → W p l e rmX10_isBare s m args below meth c H locs 0 0 Q (F0 m 48 ls []) := by
            intro H locs ls hf hW hl
            rw [ek4] at hf
            obtain ⟨v5, ev5, hf⟩ := sp_hb hf
            refine lv_iinc (v := v5) (lv' := [(3, .int v5), (0, .ref (a 0)), (1, .int p1), (2, .int p2)]) hx hb dX10_isBare_48 hl (k := 3) rfl (by rw [ev5]; rfl) (by decide) rfl (fun ls hl => ?_)
            refine lv_goto (tgt := 15) hx hb dX10_isBare_51 (by decide) ?_
            exact ih15 _ _ _ _ hf hW (lv_sub hl [1, 2, 3, 0] rfl)
          refine lv_icmp_ne (tgt := 48) hx hb dX10_isBare_26 (by decide) (fun hc => ?_) (fun hc => ?_)
          · have hf := sp_hf hf hc
            exact hj4 _ _ _ hf hW (lv_sub hl [0, 1, 2, 3] rfl)
          · have hf := sp_ht hf hc
            refine lv_aload_n hx hb dX10_isBare_29 rfl (lv_at hl 0 rfl) ?_
            refine lv_iload_n hx hb dX10_isBare_30 rfl (lv_at hl 1 rfl) ?_
            refine lv_iconst (v := 1) hx hb dX10_isBare_31 (by decide) ?_
            refine lv_iload_n hx hb dX10_isBare_32 rfl (lv_at hl 3 rfl) ?_
            refine lv_ishl hx hb dX10_isBare_33 ?_
            refine lv_iconst (v := (-1)) hx hb dX10_isBare_34 (by decide) ?_
            refine lv_ixor hx hb dX10_isBare_35 ?_
            refine lv_iand hx hb dX10_isBare_36 ?_
            refine lv_iload_n hx hb dX10_isBare_37 rfl (lv_at hl 2 rfl) ?_
            obtain ⟨r6, hc6, hf⟩ := sp_hc hf
            refine sp_callVlP (rest := []) S hK hG hA hW (c_X10_allTrue a fa tr la sl ce pn mn cl le ri lt nm nc nl nr nt at9 en9 de mm ma ne us lk sd sf nu gt gl tb sc su (p1 &&& (((1 : Int32) <<< (y2 &&& 31)) ^^^ (-1 : Int32))) p2 hc6) (by decide) (cwV 2 S.2.2.2.2 gX10_isBare_X10_allTrue rfl rfl rfl (by decide +kernel) (by decide)) 8 0 rfl rfl (sp_pn _) rfl (WS' := sw_M a q5 fa tr la sl ce pn mn cl le ri lt nm nc nl nr nt at9 en9 de mm ma ne us lk sd sf nu gt gl tb sc su) (sp_pn' _) rfl hl.1 (Nat.le_of_ble_eq_true rfl) dX10_isBare_38 ⟨Nat.zero_le _, Nat.zero_le _⟩ rfl (fun H locs hW => ?_)
            refine lv_lconst (v := 0) hx hb dX10_isBare_41 (by decide) ?_
            refine W.lcmp hx hb dX10_isBare_42 ?_
            refine lv_if_ne (tgt := 48) hx hb dX10_isBare_43 (by decide) (fun hc => ?_) (fun hc => ?_)
            · have hf := sp_hf hf hc
              exact hj4 _ _ _ hf hW (lv_sub hl [0, 1, 2, 3] rfl)
            · have hf := sp_ht hf hc
              refine lv_iconst (v := 0) hx hb dX10_isBare_46 (by decide) ?_
              have q0 := Option.some.inj hf
              subst q0
              exact sp_zret S hr hlk hW rfl hQ dX10_isBare_47
    exact hlp15 _ _ _ _ _ hf hW (lv_sub hl [1, 2, 3, 0] rfl)
  · have hf := sp_hf hf hc
    refine lv_iconst (v := 0) hx hb dX10_isBare_11 (by decide) ?_
    have q0 := Option.some.inj hf
    subst q0
    exact sp_zret S hr hlk hW rfl hQ dX10_isBare_12
