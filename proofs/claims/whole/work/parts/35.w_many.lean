theorem sp_PG_mem (q5 : Nat → ClassId) (n : Nat) (u : Nat → Nat → Nat) (x : Nat → sp_PrT) {j : Nat} (hj : j < n) : (u j 0, .inr (1, [.ref (u j 1), .ref (u j 2), .ref (u j 3), .ref (u j 4), .ref (u j 5), .int (x j).2.2.2.2.2.1, .int (x j).2.2.2.2.2.2])) ∈ sp_PG q5 n u x := by
  unfold sp_PG
  exact List.mem_flatMap.mpr ⟨j, List.mem_range.mpr hj, List.mem_cons_self⟩
def f_X9_many_L21 (pn : Int32) (k4 : Int32 → Option (Int32)) (ct : Nat → Int32) (rec21 : (Int32 × Int32) → Option (Int32)) (s9 : Int32 × Int32) : Option (Int32) := match s9 with
  | (y1, y2) => if pn ≤ y2 then (k4 y1) else (sp_ld ct 12 y2 (fun v4 => sp_bnd (y1 + v4) (fun v5 => sp_bnd (y2 + (1 : Int32)) (fun v6 => rec21 (v5, v6)))))
theorem f_X9_many_L21_eq {rec21 : (Int32 × Int32) → Option (Int32)} {pn : Int32} {k4 : Int32 → Option (Int32)} {ct : Nat → Int32} {y1 : Int32} {y2 : Int32} : f_X9_many_L21 pn k4 ct rec21 (y1, y2) = (if pn ≤ y2 then (k4 y1) else (sp_ld ct 12 y2 (fun v4 => sp_bnd (y1 + v4) (fun v5 => sp_bnd (y2 + (1 : Int32)) (fun v6 => rec21 (v5, v6)))))) := rfl
def f_X9_many (p1 : Int32) (pn : Int32) (ct : Nat → Int32) : Option (Int32) := if p1 = 0 then (some pn) else (if p1 = (1 : Int32) then (sp_bnd (fun (x3 : Int32) => some x3) (fun k4 => sp_lp (f_X9_many_L21 pn k4 ct) sp_F ((0 : Int32), (0 : Int32)))) else (some (-2 : Int32)))
def rmX9_many : Room := { frames := 0, cells := 0, slots := 0, locals := 0 }
set_option maxRecDepth 4000 in
theorem c_X9_many {l : Launch} {D : va_G} {q5 : Nat → ClassId} (a : Nat → Nat) (pA : Nat) (uP : Nat → Nat → Nat) (n_sh : Nat) (n_rd : Nat) (n_sz : Nat) (n_or : Nat) (n_st : Nat) (n_tb : Nat) (pn : Int32) (od : Int32) (fa : Int32) (tr : Int32) (pa : Nat → Option Nat) (xP : Nat → sp_PrT) (p1 : Int32) (hpa : ∀ k, k < 12 → pa k = some (uP k 0)) {r' : Int32} (hf : f_X9_many p1 pn (fun k => (xP k).2.2.2.2.2.1) = some r') : sp_Ci l yX9_many wsX9_many rmX9_many D q5 0 [.ref (a 0), .int p1] (sw_X a pA n_sh n_rd n_sz n_or n_st n_tb q5 pn od fa tr ++ (sw_XP pA q5 pa ++ sp_PG q5 12 uP xP)) r' (sw_X a pA n_sh n_rd n_sz n_or n_st n_tb q5 pn od fa tr ++ (sw_XP pA q5 pa ++ sp_PG q5 12 uP xP)) := by
  intro sz
  refine sp_of (cc := cX9_many) (maxL := 4) (ret := some .int) (own := RX9) (Qc := sp_Qi D r' (sw_X a pA n_sh n_rd n_sz n_or n_st n_tb q5 pn od fa tr ++ (sw_XP pA q5 pa ++ sp_PG q5 12 uP xP))) (by decide) rfl rfl (Nat.le_of_ble_eq_true rfl) ?_
  intro p e s m args below meth c A ls Q hQ S hr hlk hK hG hA hW hl
  have hx := S.1
  have hb := S.2.1
  unfold f_X9_many at hf
  have inX2 : ∀ w ∈ u_ws RX2 TX2 7, w ∈ wsX9_many := (fun _ h => List.mem_cons_of_mem _ (List.mem_append_right _ h))
  have inX9 : ∀ w ∈ u_ws RX9 TX9 11, w ∈ wsX9_many := (fun _ h => List.mem_cons_of_mem _ (List.mem_append_left _ (List.mem_append_right _ h)))
  have lk1 := S.2.2.2.2 (Cond.fieldLink RX9 298 "ShortProofs" "proofCount" "I") (List.mem_of_getElem? (i := 1) rfl)
  have lk2 := S.2.2.2.2 (Cond.fieldLink RX9 13 "ShortProofs" "proofs" "[LShortProofs$Proof;") (List.mem_of_getElem? (i := 2) rfl)
  have lk3 := S.2.2.2.2 (Cond.fieldLink RX9 126 "ShortProofs$Proof" "count" "I") (List.mem_of_getElem? (i := 3) rfl)
  refine lv_iload_n hx hb dX9_many_0 rfl (lv_at hl 1 rfl) ?_
  refine lv_if_ne (tgt := 9) hx hb dX9_many_1 (by decide) (fun hc => ?_) (fun hc => ?_)
  · have hf := sp_hf hf hc
    refine lv_iload_n hx hb dX9_many_9 rfl (lv_at hl 1 rfl) ?_
    refine lv_iconst (v := 1) hx hb dX9_many_10 (by decide) ?_
    refine lv_icmp_eq (tgt := 17) hx hb dX9_many_11 (by decide) (fun hc => ?_) (fun hc => ?_)
    · have hf := sp_ht hf hc
      refine lv_iconst (v := 0) hx hb dX9_many_17 (by decide) ?_
      refine lv_istore_n (lv' := [(2, .int (0 : Int32)), (0, .ref (a 0)), (1, .int p1)]) hx hb dX9_many_18 rfl hl (by decide) rfl (fun ls hl => ?_)
      refine lv_iconst (v := 0) hx hb dX9_many_19 (by decide) ?_
      refine lv_istore_n (lv' := [(3, .int (0 : Int32)), (2, .int (0 : Int32)), (0, .ref (a 0)), (1, .int p1)]) hx hb dX9_many_20 rfl hl (by decide) rfl (fun ls hl => ?_)
      obtain ⟨k4, ek4, hf⟩ := sp_hb hf
      have hj4 : ∀ (x3 : Int32) (H : Heap) (locs : List Loc) (ls : Array Slot), k4 x3 = some r' → sp_wd D A s.heap (sw_X a pA n_sh n_rd n_sz n_or n_st n_tb q5 pn od fa tr ++ (sw_XP pA q5 pa ++ sp_PG q5 12 uP xP)) H locs → lv_has ls 4 [(2, .int x3)] → W p l e rmX9_many s m args below meth c H locs 0 0 Q (F0 m 47 ls []) := by
        intro x3 H locs ls hf hW hl
        rw [ek4] at hf
        refine lv_iload_n hx hb dX9_many_47 rfl (lv_at hl 0 rfl) ?_
        have q0 := Option.some.inj hf
        subst q0
        exact sp_iret S hr hlk hW hQ dX9_many_48
      have hlp21 : ∀ (n9 : Nat) (y1 : Int32) (y2 : Int32) (H : Heap) (locs : List Loc) (ls : Array Slot), sp_lp (f_X9_many_L21 pn k4 (fun k => (xP k).2.2.2.2.2.1)) n9 (y1, y2) = some r' → sp_wd D A s.heap (sw_X a pA n_sh n_rd n_sz n_or n_st n_tb q5 pn od fa tr ++ (sw_XP pA q5 pa ++ sp_PG q5 12 uP xP)) H locs → lv_has ls 4 [(0, .ref (a 0)), (2, .int y1), (3, .int y2)] → W p l e rmX9_many s m args below meth c H locs 0 0 Q (F0 m 21 ls []) := by
        intro n9
        induction n9 with
        | zero =>
          intro y1 y2 H locs ls hf hW hl
          exact (sp_lp0 hf).elim
        | succ n9 ih21 =>
          intro y1 y2 H locs ls hf hW hl
          have hf := sp_lpS hf
          rw [f_X9_many_L21_eq] at hf
          refine lv_iload_n hx hb dX9_many_21 rfl (lv_at hl 2 rfl) ?_
          refine lv_aload_n hx hb dX9_many_22 rfl (lv_at hl 0 rfl) ?_
          refine sp_get S hK hW inX9 0 rfl rfl 7 (by decide) lk1 rfl dX9_many_23 ?_
          refine lv_icmp_ge (tgt := 47) hx hb dX9_many_26 (by decide) (fun hc => ?_) (fun hc => ?_)
          · have hf := sp_ht hf hc
            exact hj4 _ _ _ _ hf hW (lv_sub hl [1] rfl)
          · have hf := sp_hf hf hc
            refine lv_iload_n hx hb dX9_many_29 rfl (lv_at hl 1 rfl) ?_
            refine lv_aload_n hx hb dX9_many_30 rfl (lv_at hl 0 rfl) ?_
            refine sp_get S hK hW inX9 0 rfl rfl 0 (by decide) lk2 rfl dX9_many_31 ?_
            refine lv_iload_n hx hb dX9_many_34 rfl (lv_at hl 2 rfl) ?_
            obtain ⟨hin, v4, ev4, hf⟩ := sp_hld hf
            have hlt : y2.toNatClampNeg < 12 := Nat.not_le.mp fun q => hin (Or.inr q)
            refine sp_aldq S hK hW 1 3 rfl rfl hin (hpa _ hlt) dX9_many_35 ?_
            obtain ⟨qk, hqk⟩ := sp_in_app (w1 := sw_X a pA n_sh n_rd n_sz n_or n_st n_tb q5 pn od fa tr) (List.mem_append_right (sw_XP pA q5 pa) (sp_PG_mem q5 12 uP xP hlt))
            refine sp_get S hK hW inX2 qk hqk rfl 5 (by decide) lk3 rfl dX9_many_36 ?_
            refine sp_topi ev4 ?_
            refine lv_iadd hx hb dX9_many_39 ?_
            obtain ⟨v5, ev5, hf⟩ := sp_hb hf
            refine sp_topi ev5 ?_
            refine lv_istore_n (lv' := [(2, .int v5), (0, .ref (a 0)), (3, .int y2)]) hx hb dX9_many_40 rfl hl (by decide) rfl (fun ls hl => ?_)
            obtain ⟨v6, ev6, hf⟩ := sp_hb hf
            refine lv_iinc (v := v6) (lv' := [(3, .int v6), (2, .int v5), (0, .ref (a 0))]) hx hb dX9_many_41 hl (k := 2) rfl (by rw [ev6]; rfl) (by decide) rfl (fun ls hl => ?_)
            refine lv_goto (tgt := 21) hx hb dX9_many_44 (by decide) ?_
            exact ih21 _ _ _ _ _ hf hW (lv_sub hl [2, 1, 0] rfl)
      exact hlp21 _ _ _ _ _ _ hf hW (lv_sub hl [2, 1, 0] rfl)
    · have hf := sp_hf hf hc
      refine lv_bipush (v := (-2)) hx hb dX9_many_14 (by decide) ?_
      have q0 := Option.some.inj hf
      subst q0
      exact sp_iret S hr hlk hW hQ dX9_many_16
  · have hf := sp_ht hf hc
    refine lv_aload_n hx hb dX9_many_4 rfl (lv_at hl 0 rfl) ?_
    refine sp_get S hK hW inX9 0 rfl rfl 7 (by decide) lk1 rfl dX9_many_5 ?_
    have q0 := Option.some.inj hf
    subst q0
    exact sp_iret S hr hlk hW hQ dX9_many_8
