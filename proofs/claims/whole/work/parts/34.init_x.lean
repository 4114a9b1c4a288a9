abbrev sp_PrT : Type := (Nat → Int32) × (Nat → Int32) × (Nat → Int32) × (Nat → Int32) × (Nat → Int32) × Int32 × Int32
def sp_pr (a : Nat → Nat) (q5 : Nat → ClassId) (x : sp_PrT) : va_W := sw_P a q5 x.1 x.2.1 x.2.2.1 x.2.2.2.1 x.2.2.2.2.1 x.2.2.2.2.2.1 x.2.2.2.2.2.2
abbrev sp_ShT : Type := (Nat → Int32) × Int32 × Int32
def sp_sh (a : Nat → Nat) (q5 : Nat → ClassId) (x : sp_ShT) : va_W := sw_S a q5 x.1 x.2.1 x.2.2
/-- the first n proofs, sheets -/
def sp_PG (q5 : Nat → ClassId) (n : Nat) (u : Nat → Nat → Nat) (x : Nat → sp_PrT) : va_W := (List.range n).flatMap (fun k => sp_pr (u k) q5 (x k))
def sp_SG (q5 : Nat → ClassId) (n : Nat) (u : Nat → Nat → Nat) (x : Nat → sp_ShT) : va_W := (List.range n).flatMap (fun k => sp_sh (u k) q5 (x k))
def sp_pr0 : sp_PrT := (fun _ => 0, fun _ => 0, fun _ => 0, fun _ => 0, fun _ => 0, 0, 0)
def sp_sh0 : sp_ShT := (fun _ => 0, -1, 0)
theorem sp_fm {α : Type} (F G : Nat → List α) : ∀ n : Nat, (∀ k, k < n → F k = G k) → (List.range n).flatMap F = (List.range n).flatMap G
  | 0, _ => rfl
  | n + 1, h => by
    rw [List.range_succ, List.flatMap_append, List.flatMap_append, sp_fm F G n (fun k hk => h k (by omega))]
    simp [h n (by omega)]
theorem sp_PG_succ (q5 : Nat → ClassId) (i : Nat) (u : Nat → Nat → Nat) (v : Nat → Nat) : sp_PG q5 (i + 1) (fun k => if k = i then v else u k) (fun _ => sp_pr0) = sp_PG q5 i u (fun _ => sp_pr0) ++ sp_pr v q5 sp_pr0 := by
  unfold sp_PG
  rw [List.range_succ, List.flatMap_append, sp_fm _ (fun k => sp_pr (u k) q5 sp_pr0) i (fun k hk => by show sp_pr (if k = i then v else u k) q5 sp_pr0 = _; rw [if_neg (by omega)])]
  simp
theorem sp_SG_succ (q5 : Nat → ClassId) (i : Nat) (u : Nat → Nat → Nat) (v : Nat → Nat) : sp_SG q5 (i + 1) (fun k => if k = i then v else u k) (fun _ => sp_sh0) = sp_SG q5 i u (fun _ => sp_sh0) ++ sp_sh v q5 sp_sh0 := by
  unfold sp_SG
  rw [List.range_succ, List.flatMap_append, sp_fm _ (fun k => sp_sh (u k) q5 sp_sh0) i (fun k hk => by show sp_sh (if k = i then v else u k) q5 sp_sh0 = _; rw [if_neg (by omega)])]
  simp
theorem sp_in_app {w1 w2 : va_W} {q : Nat × va_E} (h : q ∈ w2) : ∃ k : Nat, (w1 ++ w2)[k]? = some q := List.mem_iff_getElem?.mp (List.mem_append_right _ h)
/-- counters -/
theorem sp_i_lt {i n : Nat} (hi : i < 1000000) (hn : n < 1000000) : Int32.ofNat i < Int32.ofNat n ↔ i < n := Int32.ofNat_lt_ofNat (by omega) (by omega)
theorem sp_i_le {i n : Nat} (hi : i < 1000000) (hn : n < 1000000) : Int32.ofNat i ≤ Int32.ofNat n ↔ i ≤ n := Int32.ofNat_le_ofNat (by omega) (by omega)
theorem sp_i_nat {i : Nat} (hi : i < 1000000) : (Int32.ofNat i).toNatClampNeg = i := Int32.toNatClampNeg_ofNat_of_lt (by omega)
theorem sp_i_nn {i : Nat} (hi : i < 1000000) : ¬ Int32.ofNat i < 0 := by
  have := (sp_i_le (i := 0) (n := i) (by omega) hi).mpr (Nat.zero_le _)
  exact Int32.not_lt.mpr this
theorem sp_i_in {i n : Nat} (hi : i < n) (hn : n < 1000000) : vp_in (Int32.ofNat i) n := by
  unfold vp_in
  rw [sp_i_nat (by omega)]
  rintro (h | h)
  · exact sp_i_nn (by omega) h
  · omega
theorem sp_i_succ (i : Nat) : Int32.ofNat i + 1 = Int32.ofNat (i + 1) := by rw [Int32.ofNat_add]; rfl
section SPX
variable {p : Program} {l : Launch} {e : Env} {R : Room} {s : State} {m : MethodId} {args : Array Value} {below : List Frame} {meth : Method} {c : Code} {H : Heap} {locs : List Loc} {cells slots : Nat} {Q : State → Prop} {cc : ByteArray} {nL : Nat} {Ts : List Cond} {own : String} {pc : Nat} {ls : Array Slot} {rest : List Value} {D : va_G} {A : Nat → Prop} {q5 : Nat → ClassId} {a : Nat} {ws : va_W}
theorem sp_astq (S : CallFix p m c cc nL s args Ts own) (hK : va_K D vwCl (sp_ty q5) s) (hW : sp_wd D A s.heap ws H locs) (q0 t0 qk ci : Nat) {cA : ClassId} {r : vw_C} {n v : Nat} {vs : List Value} {f : Nat → Option Nat} (ha : ws[q0]? = some (a, .inl (cA, n, .inr (.inr (.inr (.inr f)))))) (ht : (sp_ty q5)[t0]? = some (cA, .object r.1)) (hv : ws[qk]? = some (v, .inr (ci, vs))) (hc : vwCl[ci]? = some r) {i : Int32} (hin : vp_in i n) {ws' : va_W} (hws : ws.set q0 (a, .inl (cA, n, .inr (.inr (.inr (.inr (va_up f i.toNatClampNeg (some v))))))) = ws') (hdg : decode cc pc = .ok (.aastore, 1))
    (kk : ∀ (H1 : Heap) (locs1 : List Loc), sp_wd D A s.heap ws' H1 locs1 → W p l e R s m args below meth c H1 locs1 cells slots Q (F0 m (pc + 1) ls rest)) : W p l e R s m args below meth c H locs cells slots Q (F0 m pc ls (.ref v :: .int i :: .ref a :: rest)) := by
  subst hws
  exact va_astq S.1 S.2.1 hK hW.1 hW.2.1 hW.2.2 q0 t0 qk ci ha ht hv hc hin hdg (fun H1 locs1 h1 h2 h3 => kk H1 locs1 ⟨h1, h2, h3⟩)
end SPX
abbrev sp_XT : Type := (Nat → Nat) × Nat × Nat × (Nat → Option Nat) × (Nat → Option Nat) × (Nat → Nat → Nat) × (Nat → Nat → Nat) × (Nat → Nat → Nat)
def sp_XW0 (q5 : Nat → ClassId) (a : Nat → Nat) (qP qS : Nat) (pa sa : Nat → Option Nat) (uP uS v : Nat → Nat → Nat) : va_W := ((((((sw_X a qP qS (v 0 0) (v 2 0) (v 3 0) (v 4 0) (v 6 0) q5 0 (-1) 0 0 ++ (sw_XP qP q5 pa ++ sw_XS qS q5 sa)) ++ sp_PG q5 12 uP (fun _ => sp_pr0)) ++ sp_SG q5 4 uS (fun _ => sp_sh0)) ++ (sw_R (v 0) (v 1 0) q5 (fun _ => 0) 0 0 ++ sw_P (v 1) q5 (fun _ => 0) (fun _ => 0) (fun _ => 0) (fun _ => 0) (fun _ => 0) 0 0)) ++ sw_Z (v 2) q5 (fun _ => 0) (fun _ => 0)) ++ sw_O (v 3) q5 (fun _ => 0) 0 0 (fun _ => 0) (fun _ => 0) (fun _ => 0) (fun _ => 0)) ++ (sw_T (v 4) (v 5 0) q5 (fun _ => 0) (fun _ => 0) (fun _ => 0) 0 ++ sw_P (v 5) q5 (fun _ => 0) (fun _ => 0) (fun _ => 0) (fun _ => 0) (fun _ => 0) 0 0) ++ sw_U (v 6) q5 (fun _ => 0) (fun _ => 0)
def sp_XC (b : Nat) (u : sp_XT) : Prop := u.1 0 = b ∧ (∀ k, k < 12 → u.2.2.2.1 k = some (u.2.2.2.2.2.1 k 0)) ∧ (∀ k, k < 4 → u.2.2.2.2.1 k = some (u.2.2.2.2.2.2.1 k 0))
def rmX9_init : Room := { frames := 4, cells := 112, slots := 9262, locals := 100 }
set_option maxHeartbeats 16000000 in
set_option maxRecDepth 8000 in
theorem c_X9_init {l : Launch} {D : va_G} {q5 : Nat → ClassId} : sp_CI (σ := sp_XT) l yX9_init wsX9_init rmX9_init D q5 112 9262 (.inr (7, [.null, .null, .null, .null, .null, .null, .null, .int 0, .int 0, .int 0, .int 0])) sp_XC (fun u => sp_XW0 q5 u.1 u.2.1 u.2.2.1 u.2.2.2.1 u.2.2.2.2.1 u.2.2.2.2.2.1 u.2.2.2.2.2.2.1 u.2.2.2.2.2.2.2) := by
  refine sp_ofI (cc := cX9_init) (maxL := 2) (own := RX9) (by decide) rfl rfl rfl (by decide) ?_
  intro b p e s m args below meth c A ls Q hQ S hr hlk hnm hK hG hAO hA hW hl
  have hx := S.1
  have hb := S.2.1
  have incX9 : ∀ w ∈ u_ws RX9 TX9 11, w ∈ wsX9_init := (fun _ h => List.mem_cons_of_mem _ (List.mem_append_left _ (List.mem_append_left _ (List.mem_append_left _ (List.mem_append_left _ (List.mem_append_left _ (List.mem_append_left _ (List.mem_append_left _ (List.mem_append_right _ h)))))))))
  have incX2 : ∀ w ∈ u_ws RX2 TX2 7, w ∈ wsX9_init := (fun _ h => List.mem_cons_of_mem _ (List.mem_append_left _ (List.mem_append_left _ (List.mem_append_left _ (List.mem_append_left _ (List.mem_append_left _ (List.mem_append_left _ (List.mem_append_right _ h))))))))
  have incX4 : ∀ w ∈ u_ws RX4 TX4 3, w ∈ wsX9_init := (fun _ h => List.mem_cons_of_mem _ (List.mem_append_left _ (List.mem_append_left _ (List.mem_append_left _ (List.mem_append_left _ (List.mem_append_left _ (List.mem_append_right _ h)))))))
  have incX3 : ∀ w ∈ u_ws RX3 TX3 4, w ∈ wsX9_init := (fun _ h => List.mem_cons_of_mem _ (List.mem_append_left _ (List.mem_append_left _ (List.mem_append_left _ (List.mem_append_left _ (List.mem_append_right _ h))))))
  have incX6 : ∀ w ∈ u_ws RX6 TX6 2, w ∈ wsX9_init := (fun _ h => List.mem_cons_of_mem _ (List.mem_append_left _ (List.mem_append_left _ (List.mem_append_left _ (List.mem_append_right _ h)))))
  have incX1 : ∀ w ∈ u_ws RX1 TX1 7, w ∈ wsX9_init := (fun _ h => List.mem_cons_of_mem _ (List.mem_append_left _ (List.mem_append_left _ (List.mem_append_right _ h))))
  have incX5 : ∀ w ∈ u_ws RX5 TX5 5, w ∈ wsX9_init := (fun _ h => List.mem_cons_of_mem _ (List.mem_append_left _ (List.mem_append_right _ h)))
  have incX8 : ∀ w ∈ u_ws RX8 TX8 2, w ∈ wsX9_init := (fun _ h => List.mem_cons_of_mem _ (List.mem_append_right _ h))
  refine lv_aload_n hx hb dX9_init_0 rfl (lv_at hl 0 rfl) ?_
  refine sp_obj S hl.1 (S.2.2.2.2 (Cond.methodLink RX9 5 objectInit) (List.mem_of_getElem? (i := 1) rfl)) (S.2.2.2.2 (Cond.instanceMethod objectInit) (List.mem_of_getElem? (i := 2) rfl)) (S.2.2.2.2 (Cond.code objectInit ⟨#[0xb1]⟩ 1 none) (List.mem_of_getElem? (i := 3) rfl)) (Nat.le_of_ble_eq_true rfl) (Nat.le_of_ble_eq_true rfl) dX9_init_1 ?_
  refine lv_aload_n hx hb dX9_init_4 rfl (lv_at hl 0 rfl) ?_
  refine lv_bipush (v := 12) hx hb dX9_init_5 (by decide) ?_
  refine sp_newq S hK hW hA 3 rfl (S.2.2.2.2 (Cond.classLink RX9 11 RX2) (List.mem_of_getElem? (i := 4) rfl)) hAO.1 (N' := 12) (by decide) (by decide) (by decide) (Nat.le_of_ble_eq_true rfl) (Nat.le_of_ble_eq_true rfl) dX9_init_7 (fun qP H hW => ?_)
  refine sp_putI S hK hW hnm incX9 tyX9_ok nmX9 0 rfl rfl 0 (by decide) (S.2.2.2.2 (Cond.fieldLink RX9 13 "ShortProofs" "proofs" "[LShortProofs$Proof;") (List.mem_of_getElem? (i := 5) rfl)) rfl rfl rfl rfl (Nat.le_of_ble_eq_true rfl) (ws' := [(b, .inr (7, [.ref qP, .null, .null, .null, .null, .null, .null, .int 0, .int 0, .int 0, .int 0])), (qP, .inl (q5 3, 12, .inr (.inr (.inr (.inr (fun _ => none))))))]) rfl dX9_init_10 (fun H locs hW => ?_)
  refine lv_iconst (v := 0) hx hb dX9_init_13 (by decide) ?_
  refine lv_istore_n (lv' := [(1, .int 0), (0, .ref b)]) hx hb dX9_init_14 rfl hl (by decide) rfl (fun ls hl => ?_)
  have h40 : ∀ (pa : Nat → Option Nat) (u : Nat → Nat → Nat) (H : Heap) (locs : List Loc) (ls : Array Slot), (∀ k, k < 12 → pa k = some (u k 0)) → sp_wd D A s.heap ([(b, .inr (7, [.ref qP, .null, .null, .null, .null, .null, .null, .int 0, .int 0, .int 0, .int 0])), (qP, .inl (q5 3, 12, .inr (.inr (.inr (.inr pa)))))] ++ sp_PG q5 12 u (fun _ => sp_pr0)) H locs → lv_has ls 2 [(0, .ref b)] → W p l e rmX9_init s m args below meth c H locs 73 2976 Q (F0 m 40 ls []) := by
    intro pa uP H locs ls hpa hW hl
    refine lv_aload_n hx hb dX9_init_40 rfl (lv_at hl 0 rfl) ?_
    refine lv_iconst (v := 4) hx hb dX9_init_41 (by decide) ?_
    refine sp_newq S hK hW hA 4 rfl (S.2.2.2.2 (Cond.classLink RX9 18 RX4) (List.mem_of_getElem? (i := 8) rfl)) hAO.2 (N' := 4) (by decide) (by decide) (by decide) (Nat.le_of_ble_eq_true rfl) (Nat.le_of_ble_eq_true rfl) dX9_init_42 (fun qS H hW => ?_)
    have hW := hW.perm (ws' := [(b, .inr (7, [.ref qP, .null, .null, .null, .null, .null, .null, .int 0, .int 0, .int 0, .int 0])), (qP, .inl (q5 3, 12, .inr (.inr (.inr (.inr pa))))), (qS, .inl (q5 4, 4, .inr (.inr (.inr (.inr (fun _ => none))))))] ++ sp_PG q5 12 uP (fun _ => sp_pr0)) (by rw [List.append_assoc]; exact List.perm_append_comm.append_left _)
    refine sp_putI S hK hW hnm incX9 tyX9_ok nmX9 0 rfl rfl 1 (by decide) (S.2.2.2.2 (Cond.fieldLink RX9 20 "ShortProofs" "sheets" "[LShortProofs$Sheet;") (List.mem_of_getElem? (i := 9) rfl)) rfl rfl rfl rfl (Nat.le_of_ble_eq_true rfl) (ws' := [(b, .inr (7, [.ref qP, .ref qS, .null, .null, .null, .null, .null, .int 0, .int 0, .int 0, .int 0])), (qP, .inl (q5 3, 12, .inr (.inr (.inr (.inr pa))))), (qS, .inl (q5 4, 4, .inr (.inr (.inr (.inr (fun _ => none))))))] ++ sp_PG q5 12 uP (fun _ => sp_pr0)) rfl dX9_init_45 (fun H locs hW => ?_)
    refine lv_iconst (v := 0) hx hb dX9_init_48 (by decide) ?_
    refine lv_istore_n (lv' := [(1, .int 0), (0, .ref b)]) hx hb dX9_init_49 rfl hl (by decide) rfl (fun ls hl => ?_)
    have h74 : ∀ (sa : Nat → Option Nat) (u : Nat → Nat → Nat) (H : Heap) (locs : List Loc) (ls : Array Slot), (∀ k, k < 4 → sa k = some (u k 0)) → sp_wd D A s.heap (([(b, .inr (7, [.ref qP, .ref qS, .null, .null, .null, .null, .null, .int 0, .int 0, .int 0, .int 0])), (qP, .inl (q5 3, 12, .inr (.inr (.inr (.inr pa))))), (qS, .inl (q5 4, 4, .inr (.inr (.inr (.inr sa)))))] ++ sp_PG q5 12 uP (fun _ => sp_pr0)) ++ sp_SG q5 4 u (fun _ => sp_sh0)) H locs → lv_has ls 2 [(0, .ref b)] → W p l e rmX9_init s m args below meth c H locs 82 3232 Q (F0 m 74 ls []) := by
      intro sa uS H locs ls hsa hW hl
      refine lv_aload_n hx hb dX9_init_74 rfl (lv_at hl 0 rfl) ?_
      refine sp_mkN (host := RX9) S hK hG hAO hA hW incX3 tyX3 tyX3_ok (S.2.2.2.2 (Cond.classLink RX9 25 RX3) (List.mem_of_getElem? (i := 12) rfl)) (S.2.2.2.2 (Cond.instantiable RX3 4) (List.mem_of_getElem? (i := 13) rfl)) (S.2.2.2.2 (Cond.initialized RX3) (List.mem_of_getElem? (i := 14) rfl)) (ci := 2) rfl (fs := [.null, .null, .int 0, .int 0]) (fun j hj => by rcases (show j = 0 ∨ j = 1 ∨ j = 2 ∨ j = 3 by omega) with rfl | rfl | rfl | rfl <;> rfl) c_X3_init ⟨va_cnB 0 S.2.2.2.2 gX9_init_X3_init_n27 rfl rfl rfl (hG.1 (by decide) _ (List.mem_of_getElem? (i := 2) rfl)) (S.2.2.2.2 (Cond.initialized RX3) (List.mem_of_getElem? (i := 14) rfl)) (by decide +kernel) (by decide), rfl, S.2.2.2.2 (Cond.instanceMethod yX3_init) (List.mem_of_getElem? (i := 47) rfl)⟩ hl.1 (Nat.le_of_ble_eq_true rfl) (Nat.le_of_ble_eq_true rfl) (Nat.le_of_ble_eq_true rfl) dX9_init_75 dX9_init_78 dX9_init_79 (fun b75 uR H locs hv hW => ?_)
      subst hv
      refine sp_putI S hK hW hnm incX9 tyX9_ok nmX9 0 rfl rfl 2 (by decide) (S.2.2.2.2 (Cond.fieldLink RX9 28 "ShortProofs" "reader" "LShortProofs$Reader;") (List.mem_of_getElem? (i := 15) rfl)) rfl rfl rfl rfl (Nat.le_of_ble_eq_true rfl) (ws' := (([(b, .inr (7, [.ref qP, .ref qS, .ref (uR.1 0), .null, .null, .null, .null, .int 0, .int 0, .int 0, .int 0])), (qP, .inl (q5 3, 12, .inr (.inr (.inr (.inr pa))))), (qS, .inl (q5 4, 4, .inr (.inr (.inr (.inr sa)))))] ++ sp_PG q5 12 uP (fun _ => sp_pr0)) ++ sp_SG q5 4 uS (fun _ => sp_sh0)) ++ (sw_R uR.1 (uR.2 0) q5 (fun _ => 0) 0 0 ++ sw_P uR.2 q5 (fun _ => 0) (fun _ => 0) (fun _ => 0) (fun _ => 0) (fun _ => 0) 0 0)) rfl dX9_init_82 (fun H locs hW => ?_)
      refine lv_aload_n hx hb dX9_init_85 rfl (lv_at hl 0 rfl) ?_
      refine sp_mkN (host := RX9) S hK hG hAO hA hW incX6 tyX6 tyX6_ok (S.2.2.2.2 (Cond.classLink RX9 32 RX6) (List.mem_of_getElem? (i := 16) rfl)) (S.2.2.2.2 (Cond.instantiable RX6 2) (List.mem_of_getElem? (i := 17) rfl)) (S.2.2.2.2 (Cond.initialized RX6) (List.mem_of_getElem? (i := 18) rfl)) (ci := 5) rfl (fs := [.null, .null]) (fun j hj => by rcases (show j = 0 ∨ j = 1 by omega) with rfl | rfl <;> rfl) c_X6_init ⟨va_cnB 0 S.2.2.2.2 gX9_init_X6_init_n34 rfl rfl rfl (hG.1 (by decide) _ (List.mem_of_getElem? (i := 3) rfl)) (S.2.2.2.2 (Cond.initialized RX6) (List.mem_of_getElem? (i := 18) rfl)) (by decide +kernel) (by decide), rfl, S.2.2.2.2 (Cond.instanceMethod yX6_init) (List.mem_of_getElem? (i := 53) rfl)⟩ hl.1 (Nat.le_of_ble_eq_true rfl) (Nat.le_of_ble_eq_true rfl) (Nat.le_of_ble_eq_true rfl) dX9_init_86 dX9_init_89 dX9_init_90 (fun b86 uZ H locs hv hW => ?_)
      subst hv
      refine sp_putI S hK hW hnm incX9 tyX9_ok nmX9 0 rfl rfl 3 (by decide) (S.2.2.2.2 (Cond.fieldLink RX9 35 "ShortProofs" "sizes" "LShortProofs$Sizes;") (List.mem_of_getElem? (i := 19) rfl)) rfl rfl rfl rfl (Nat.le_of_ble_eq_true rfl) (ws' := ((([(b, .inr (7, [.ref qP, .ref qS, .ref (uR.1 0), .ref (uZ 0), .null, .null, .null, .int 0, .int 0, .int 0, .int 0])), (qP, .inl (q5 3, 12, .inr (.inr (.inr (.inr pa))))), (qS, .inl (q5 4, 4, .inr (.inr (.inr (.inr sa)))))] ++ sp_PG q5 12 uP (fun _ => sp_pr0)) ++ sp_SG q5 4 uS (fun _ => sp_sh0)) ++ (sw_R uR.1 (uR.2 0) q5 (fun _ => 0) 0 0 ++ sw_P uR.2 q5 (fun _ => 0) (fun _ => 0) (fun _ => 0) (fun _ => 0) (fun _ => 0) 0 0)) ++ (sw_Z uZ q5 (fun _ => 0) (fun _ => 0))) rfl dX9_init_93 (fun H locs hW => ?_)
      refine lv_aload_n hx hb dX9_init_96 rfl (lv_at hl 0 rfl) ?_
      refine sp_mkN (host := RX9) S hK hG hAO hA hW incX1 tyX1 tyX1_ok (S.2.2.2.2 (Cond.classLink RX9 39 RX1) (List.mem_of_getElem? (i := 20) rfl)) (S.2.2.2.2 (Cond.instantiable RX1 7) (List.mem_of_getElem? (i := 21) rfl)) (S.2.2.2.2 (Cond.initialized RX1) (List.mem_of_getElem? (i := 22) rfl)) (ci := 0) rfl (fs := [.null, .int 0, .int 0, .null, .null, .null, .null]) (fun j hj => by rcases (show j = 0 ∨ j = 1 ∨ j = 2 ∨ j = 3 ∨ j = 4 ∨ j = 5 ∨ j = 6 by omega) with rfl | rfl | rfl | rfl | rfl | rfl | rfl <;> rfl) c_X1_init ⟨va_cnB 0 S.2.2.2.2 gX9_init_X1_init_n41 rfl rfl rfl (hG.1 (by decide) _ (List.mem_of_getElem? (i := 4) rfl)) (S.2.2.2.2 (Cond.initialized RX1) (List.mem_of_getElem? (i := 22) rfl)) (by decide +kernel) (by decide), rfl, S.2.2.2.2 (Cond.instanceMethod yX1_init) (List.mem_of_getElem? (i := 58) rfl)⟩ hl.1 (Nat.le_of_ble_eq_true rfl) (Nat.le_of_ble_eq_true rfl) (Nat.le_of_ble_eq_true rfl) dX9_init_97 dX9_init_100 dX9_init_101 (fun b97 uO H locs hv hW => ?_)
      subst hv
      refine sp_putI S hK hW hnm incX9 tyX9_ok nmX9 0 rfl rfl 4 (by decide) (S.2.2.2.2 (Cond.fieldLink RX9 42 "ShortProofs" "order" "LShortProofs$Order;") (List.mem_of_getElem? (i := 23) rfl)) rfl rfl rfl rfl (Nat.le_of_ble_eq_true rfl) (ws' := (((([(b, .inr (7, [.ref qP, .ref qS, .ref (uR.1 0), .ref (uZ 0), .ref (uO 0), .null, .null, .int 0, .int 0, .int 0, .int 0])), (qP, .inl (q5 3, 12, .inr (.inr (.inr (.inr pa))))), (qS, .inl (q5 4, 4, .inr (.inr (.inr (.inr sa)))))] ++ sp_PG q5 12 uP (fun _ => sp_pr0)) ++ sp_SG q5 4 uS (fun _ => sp_sh0)) ++ (sw_R uR.1 (uR.2 0) q5 (fun _ => 0) 0 0 ++ sw_P uR.2 q5 (fun _ => 0) (fun _ => 0) (fun _ => 0) (fun _ => 0) (fun _ => 0) 0 0)) ++ (sw_Z uZ q5 (fun _ => 0) (fun _ => 0))) ++ (sw_O uO q5 (fun _ => 0) 0 0 (fun _ => 0) (fun _ => 0) (fun _ => 0) (fun _ => 0))) rfl dX9_init_104 (fun H locs hW => ?_)
      refine lv_aload_n hx hb dX9_init_107 rfl (lv_at hl 0 rfl) ?_
      refine sp_mkN (host := RX9) S hK hG hAO hA hW incX5 tyX5 tyX5_ok (S.2.2.2.2 (Cond.classLink RX9 46 RX5) (List.mem_of_getElem? (i := 24) rfl)) (S.2.2.2.2 (Cond.instantiable RX5 5) (List.mem_of_getElem? (i := 25) rfl)) (S.2.2.2.2 (Cond.initialized RX5) (List.mem_of_getElem? (i := 26) rfl)) (ci := 4) rfl (fs := [.null, .null, .null, .null, .long 0]) (fun j hj => by rcases (show j = 0 ∨ j = 1 ∨ j = 2 ∨ j = 3 ∨ j = 4 by omega) with rfl | rfl | rfl | rfl | rfl <;> rfl) c_X5_init ⟨va_cnB 0 S.2.2.2.2 gX9_init_X5_init_n48 rfl rfl rfl (hG.1 (by decide) _ (List.mem_of_getElem? (i := 5) rfl)) (S.2.2.2.2 (Cond.initialized RX5) (List.mem_of_getElem? (i := 26) rfl)) (by decide +kernel) (by decide), rfl, S.2.2.2.2 (Cond.instanceMethod yX5_init) (List.mem_of_getElem? (i := 67) rfl)⟩ hl.1 (Nat.le_of_ble_eq_true rfl) (Nat.le_of_ble_eq_true rfl) (Nat.le_of_ble_eq_true rfl) dX9_init_108 dX9_init_111 dX9_init_112 (fun b108 uT H locs hv hW => ?_)
      subst hv
      refine sp_putI S hK hW hnm incX9 tyX9_ok nmX9 0 rfl rfl 5 (by decide) (S.2.2.2.2 (Cond.fieldLink RX9 49 "ShortProofs" "shortener" "LShortProofs$Shortener;") (List.mem_of_getElem? (i := 27) rfl)) rfl rfl rfl rfl (Nat.le_of_ble_eq_true rfl) (ws' := ((((([(b, .inr (7, [.ref qP, .ref qS, .ref (uR.1 0), .ref (uZ 0), .ref (uO 0), .ref (uT.1 0), .null, .int 0, .int 0, .int 0, .int 0])), (qP, .inl (q5 3, 12, .inr (.inr (.inr (.inr pa))))), (qS, .inl (q5 4, 4, .inr (.inr (.inr (.inr sa)))))] ++ sp_PG q5 12 uP (fun _ => sp_pr0)) ++ sp_SG q5 4 uS (fun _ => sp_sh0)) ++ (sw_R uR.1 (uR.2 0) q5 (fun _ => 0) 0 0 ++ sw_P uR.2 q5 (fun _ => 0) (fun _ => 0) (fun _ => 0) (fun _ => 0) (fun _ => 0) 0 0)) ++ (sw_Z uZ q5 (fun _ => 0) (fun _ => 0))) ++ (sw_O uO q5 (fun _ => 0) 0 0 (fun _ => 0) (fun _ => 0) (fun _ => 0) (fun _ => 0))) ++ (sw_T uT.1 (uT.2 0) q5 (fun _ => 0) (fun _ => 0) (fun _ => 0) 0 ++ sw_P uT.2 q5 (fun _ => 0) (fun _ => 0) (fun _ => 0) (fun _ => 0) (fun _ => 0) 0 0)) rfl dX9_init_115 (fun H locs hW => ?_)
      refine lv_aload_n hx hb dX9_init_118 rfl (lv_at hl 0 rfl) ?_
      refine sp_mkN (host := RX9) S hK hG hAO hA hW incX8 tyX8 tyX8_ok (S.2.2.2.2 (Cond.classLink RX9 53 RX8) (List.mem_of_getElem? (i := 28) rfl)) (S.2.2.2.2 (Cond.instantiable RX8 2) (List.mem_of_getElem? (i := 29) rfl)) (S.2.2.2.2 (Cond.initialized RX8) (List.mem_of_getElem? (i := 30) rfl)) (ci := 6) rfl (fs := [.null, .null]) (fun j hj => by rcases (show j = 0 ∨ j = 1 by omega) with rfl | rfl <;> rfl) c_X8_init ⟨va_cnB 0 S.2.2.2.2 gX9_init_X8_init_n55 rfl rfl rfl (hG.1 (by decide) _ (List.mem_of_getElem? (i := 6) rfl)) (S.2.2.2.2 (Cond.initialized RX8) (List.mem_of_getElem? (i := 30) rfl)) (by decide +kernel) (by decide), rfl, S.2.2.2.2 (Cond.instanceMethod yX8_init) (List.mem_of_getElem? (i := 75) rfl)⟩ hl.1 (Nat.le_of_ble_eq_true rfl) (Nat.le_of_ble_eq_true rfl) (Nat.le_of_ble_eq_true rfl) dX9_init_119 dX9_init_122 dX9_init_123 (fun b119 uU H locs hv hW => ?_)
      subst hv
      refine sp_putI S hK hW hnm incX9 tyX9_ok nmX9 0 rfl rfl 6 (by decide) (S.2.2.2.2 (Cond.fieldLink RX9 56 "ShortProofs" "tables" "LShortProofs$Truths;") (List.mem_of_getElem? (i := 31) rfl)) rfl rfl rfl rfl (Nat.le_of_ble_eq_true rfl) (ws' := (((((([(b, .inr (7, [.ref qP, .ref qS, .ref (uR.1 0), .ref (uZ 0), .ref (uO 0), .ref (uT.1 0), .ref (uU 0), .int 0, .int 0, .int 0, .int 0])), (qP, .inl (q5 3, 12, .inr (.inr (.inr (.inr pa))))), (qS, .inl (q5 4, 4, .inr (.inr (.inr (.inr sa)))))] ++ sp_PG q5 12 uP (fun _ => sp_pr0)) ++ sp_SG q5 4 uS (fun _ => sp_sh0)) ++ (sw_R uR.1 (uR.2 0) q5 (fun _ => 0) 0 0 ++ sw_P uR.2 q5 (fun _ => 0) (fun _ => 0) (fun _ => 0) (fun _ => 0) (fun _ => 0) 0 0)) ++ (sw_Z uZ q5 (fun _ => 0) (fun _ => 0))) ++ (sw_O uO q5 (fun _ => 0) 0 0 (fun _ => 0) (fun _ => 0) (fun _ => 0) (fun _ => 0))) ++ (sw_T uT.1 (uT.2 0) q5 (fun _ => 0) (fun _ => 0) (fun _ => 0) 0 ++ sw_P uT.2 q5 (fun _ => 0) (fun _ => 0) (fun _ => 0) (fun _ => 0) (fun _ => 0) 0 0)) ++ (sw_U uU q5 (fun _ => 0) (fun _ => 0))) rfl dX9_init_126 (fun H locs hW => ?_)
      refine lv_aload_n hx hb dX9_init_129 rfl (lv_at hl 0 rfl) ?_
      refine lv_iconst (v := (-1)) hx hb dX9_init_130 (by decide) ?_
      refine sp_put S hK hW incX9 tyX9_ok nmX9 0 rfl rfl 8 (by decide) (S.2.2.2.2 (Cond.fieldLink RX9 60 "ShortProofs" "ordered" "I") (List.mem_of_getElem? (i := 32) rfl)) rfl rfl rfl (Nat.le_of_ble_eq_true rfl) (ws' := (((((([(b, .inr (7, [.ref qP, .ref qS, .ref (uR.1 0), .ref (uZ 0), .ref (uO 0), .ref (uT.1 0), .ref (uU 0), .int 0, .int (-1), .int 0, .int 0])), (qP, .inl (q5 3, 12, .inr (.inr (.inr (.inr pa))))), (qS, .inl (q5 4, 4, .inr (.inr (.inr (.inr sa)))))] ++ sp_PG q5 12 uP (fun _ => sp_pr0)) ++ sp_SG q5 4 uS (fun _ => sp_sh0)) ++ (sw_R uR.1 (uR.2 0) q5 (fun _ => 0) 0 0 ++ sw_P uR.2 q5 (fun _ => 0) (fun _ => 0) (fun _ => 0) (fun _ => 0) (fun _ => 0) 0 0)) ++ (sw_Z uZ q5 (fun _ => 0) (fun _ => 0))) ++ (sw_O uO q5 (fun _ => 0) 0 0 (fun _ => 0) (fun _ => 0) (fun _ => 0) (fun _ => 0))) ++ (sw_T uT.1 (uT.2 0) q5 (fun _ => 0) (fun _ => 0) (fun _ => 0) 0 ++ sw_P uT.2 q5 (fun _ => 0) (fun _ => 0) (fun _ => 0) (fun _ => 0) (fun _ => 0) 0 0)) ++ (sw_U uU q5 (fun _ => 0) (fun _ => 0))) rfl dX9_init_131 (fun H locs hW => ?_)
      exact sp_endI (b := b) (cond := sp_XC) (post := (fun u => sp_XW0 q5 u.1 u.2.1 u.2.2.1 u.2.2.2.1 u.2.2.2.2.1 u.2.2.2.2.2.1 u.2.2.2.2.2.2.1 u.2.2.2.2.2.2.2)) S hr hlk hW ((fun _ => b), qP, qS, pa, sa, uP, uS, (fun k => match k with | 0 => uR.1 | 1 => uR.2 | 2 => uZ | 3 => uO | 4 => uT.1 | 5 => uT.2 | _ => uU)) ⟨rfl, hpa, hsa⟩ rfl hQ dX9_init_134
    have hlp : ∀ (n i : Nat), i + n = 4 → ∀ (sa : Nat → Option Nat) (u : Nat → Nat → Nat) (H : Heap) (locs : List Loc) (ls : Array Slot), (∀ k, k < i → sa k = some (u k 0)) → sp_wd D A s.heap (([(b, .inr (7, [.ref qP, .ref qS, .null, .null, .null, .null, .null, .int 0, .int 0, .int 0, .int 0])), (qP, .inl (q5 3, 12, .inr (.inr (.inr (.inr pa))))), (qS, .inl (q5 4, 4, .inr (.inr (.inr (.inr sa)))))] ++ sp_PG q5 12 uP (fun _ => sp_pr0)) ++ sp_SG q5 i u (fun _ => sp_sh0)) H locs → lv_has ls 2 [(1, .int (Int32.ofNat i)), (0, .ref b)] → W p l e rmX9_init s m args below meth c H locs (74 + 2 * i) (2980 + 63 * i) Q (F0 m 50 ls []) := by
      intro n
      induction n with
      | zero =>
        intro i hi sa u H locs ls hsa hW hl
        obtain rfl : i = 4 := by omega
        refine lv_iload_n hx hb dX9_init_50 rfl (lv_at hl 0 rfl) ?_
        refine lv_iconst (v := 4) hx hb dX9_init_51 (by decide) ?_
        refine lv_icmp_ge (tgt := 74) hx hb dX9_init_52 (by decide) (fun hc => ?_) (fun hc => absurd (by decide) hc)
        exact h74 sa u _ _ _ hsa hW (lv_sub hl [1] rfl)
      | succ n ih =>
        intro i hi sa u H locs ls hsa hW hl
        refine lv_iload_n hx hb dX9_init_50 rfl (lv_at hl 0 rfl) ?_
        refine lv_iconst (v := 4) hx hb dX9_init_51 (by decide) ?_
        refine lv_icmp_ge (tgt := 74) hx hb dX9_init_52 (by decide) (fun hc => absurd ((sp_i_le (n := i) (i := 4) (by omega) (by omega)).mp hc) (by omega)) (fun hc => ?_)
        refine lv_aload_n hx hb dX9_init_55 rfl (lv_at hl 1 rfl) ?_
        refine sp_get S hK hW incX9 0 rfl rfl 1 (by decide) (S.2.2.2.2 (Cond.fieldLink RX9 20 "ShortProofs" "sheets" "[LShortProofs$Sheet;") (List.mem_of_getElem? (i := 9) rfl)) rfl dX9_init_56 ?_
        refine lv_iload_n hx hb dX9_init_59 rfl (lv_at hl 0 rfl) ?_
        refine sp_mkN (host := RX9) S hK hG hAO hA hW incX4 tyX4 tyX4_ok (S.2.2.2.2 (Cond.classLink RX9 18 RX4) (List.mem_of_getElem? (i := 8) rfl)) (S.2.2.2.2 (Cond.instantiable RX4 3) (List.mem_of_getElem? (i := 10) rfl)) (S.2.2.2.2 (Cond.initialized RX4) (List.mem_of_getElem? (i := 11) rfl)) (ci := 3) rfl (fs := [.null, .int 0, .int 0]) (fun j hj => by rcases (show j = 0 ∨ j = 1 ∨ j = 2 by omega) with rfl | rfl | rfl <;> rfl) c_X4_init ⟨va_cnB 0 S.2.2.2.2 gX9_init_X4_init_n24 rfl rfl rfl (hG.1 (by decide) _ (List.mem_of_getElem? (i := 1) rfl)) (S.2.2.2.2 (Cond.initialized RX4) (List.mem_of_getElem? (i := 11) rfl)) (by decide +kernel) (by decide), rfl, S.2.2.2.2 (Cond.instanceMethod yX4_init) (List.mem_of_getElem? (i := 42) rfl)⟩ hl.1 (Nat.le_of_ble_eq_true rfl) (by show _ ≤ 112; omega) (by show _ ≤ 9262; omega) dX9_init_60 dX9_init_63 dX9_init_64 (fun b9 v H locs hv hW => ?_)
        subst hv
        obtain ⟨qk, hqk⟩ := sp_in_app (w1 := ([(b, .inr (7, [.ref qP, .ref qS, .null, .null, .null, .null, .null, .int 0, .int 0, .int 0, .int 0])), (qP, .inl (q5 3, 12, .inr (.inr (.inr (.inr pa))))), (qS, .inl (q5 4, 4, .inr (.inr (.inr (.inr sa)))))] ++ sp_PG q5 12 uP (fun _ => sp_pr0)) ++ sp_SG q5 i u (fun _ => sp_sh0)) (w2 := sw_S v q5 (fun _ => 0) (-1) 0) (q := (v 0, .inr (3, [.ref (v 1), .int (-1), .int 0]))) List.mem_cons_self
        refine sp_astq S hK hW 2 4 qk 3 rfl rfl hqk rfl (sp_i_in (by omega) (by omega)) (ws' := (([(b, .inr (7, [.ref qP, .ref qS, .null, .null, .null, .null, .null, .int 0, .int 0, .int 0, .int 0])), (qP, .inl (q5 3, 12, .inr (.inr (.inr (.inr pa))))), (qS, .inl (q5 4, 4, .inr (.inr (.inr (.inr (va_up sa (Int32.ofNat i).toNatClampNeg (some (v 0))))))))] ++ sp_PG q5 12 uP (fun _ => sp_pr0)) ++ sp_SG q5 i u (fun _ => sp_sh0)) ++ sp_sh v q5 sp_sh0) rfl dX9_init_67 (fun H locs hW => ?_)
        refine lv_iinc (v := Int32.ofNat (i + 1)) (lv' := [(1, .int (Int32.ofNat (i + 1))), (0, .ref b)]) hx hb dX9_init_68 hl (k := 0) rfl (sp_i_succ i) (by decide) rfl (fun ls hl => ?_)
        refine lv_goto (tgt := 50) hx hb dX9_init_71 (by decide) ?_
        refine W.widen (k := 74 + 2 * (i + 1)) (n := 2980 + 63 * (i + 1)) (by omega) (by omega) ?_
        refine ih (i + 1) (by omega) _ (fun k => if k = i then v else u k) _ _ _ (fun k hk => ?_) (by rw [sp_SG_succ, ← List.append_assoc]; exact hW) hl
        rw [sp_i_nat (by omega)]
        by_cases hki : k = i
        · subst hki; simp [va_up]
        · rw [va_up_ne _ _ hki, if_neg hki]; exact hsa k (by omega)
    exact hlp 4 0 rfl _ (fun _ _ => 0) _ _ _ (fun k hk => absurd hk (Nat.not_lt_zero k)) (by show sp_wd D A s.heap (_ ++ []) _ _; rw [List.append_nil]; exact hW) hl
  have hlp : ∀ (n i : Nat), i + n = 12 → ∀ (pa : Nat → Option Nat) (u : Nat → Nat → Nat) (H : Heap) (locs : List Loc) (ls : Array Slot), (∀ k, k < i → pa k = some (u k 0)) → sp_wd D A s.heap ([(b, .inr (7, [.ref qP, .null, .null, .null, .null, .null, .null, .int 0, .int 0, .int 0, .int 0])), (qP, .inl (q5 3, 12, .inr (.inr (.inr (.inr pa)))))] ++ sp_PG q5 i u (fun _ => sp_pr0)) H locs → lv_has ls 2 [(1, .int (Int32.ofNat i)), (0, .ref b)] → W p l e rmX9_init s m args below meth c H locs (1 + 6 * i) (12 + 247 * i) Q (F0 m 15 ls []) := by
    intro n
    induction n with
    | zero =>
      intro i hi pa u H locs ls hpa hW hl
      obtain rfl : i = 12 := by omega
      refine lv_iload_n hx hb dX9_init_15 rfl (lv_at hl 0 rfl) ?_
      refine lv_bipush (v := 12) hx hb dX9_init_16 (by decide) ?_
      refine lv_icmp_ge (tgt := 40) hx hb dX9_init_18 (by decide) (fun hc => ?_) (fun hc => absurd (by decide) hc)
      exact h40 pa u _ _ _ hpa hW (lv_sub hl [1] rfl)
    | succ n ih =>
      intro i hi pa u H locs ls hpa hW hl
      refine lv_iload_n hx hb dX9_init_15 rfl (lv_at hl 0 rfl) ?_
      refine lv_bipush (v := 12) hx hb dX9_init_16 (by decide) ?_
      refine lv_icmp_ge (tgt := 40) hx hb dX9_init_18 (by decide) (fun hc => absurd ((sp_i_le (n := i) (i := 12) (by omega) (by omega)).mp hc) (by omega)) (fun hc => ?_)
      refine lv_aload_n hx hb dX9_init_21 rfl (lv_at hl 1 rfl) ?_
      refine sp_get S hK hW incX9 0 rfl rfl 0 (by decide) (S.2.2.2.2 (Cond.fieldLink RX9 13 "ShortProofs" "proofs" "[LShortProofs$Proof;") (List.mem_of_getElem? (i := 5) rfl)) rfl dX9_init_22 ?_
      refine lv_iload_n hx hb dX9_init_25 rfl (lv_at hl 0 rfl) ?_
      refine sp_mkN (host := RX9) S hK hG hAO hA hW incX2 tyX2 tyX2_ok (S.2.2.2.2 (Cond.classLink RX9 11 RX2) (List.mem_of_getElem? (i := 4) rfl)) (S.2.2.2.2 (Cond.instantiable RX2 7) (List.mem_of_getElem? (i := 6) rfl)) (S.2.2.2.2 (Cond.initialized RX2) (List.mem_of_getElem? (i := 7) rfl)) (ci := 1) rfl (fs := [.null, .null, .null, .null, .null, .int 0, .int 0]) (fun j hj => by rcases (show j = 0 ∨ j = 1 ∨ j = 2 ∨ j = 3 ∨ j = 4 ∨ j = 5 ∨ j = 6 by omega) with rfl | rfl | rfl | rfl | rfl | rfl | rfl <;> rfl) c_X2_init ⟨va_cnB 0 S.2.2.2.2 gX9_init_X2_init_n17 rfl rfl rfl (hG.1 (by decide) _ (List.mem_of_getElem? (i := 0) rfl)) (S.2.2.2.2 (Cond.initialized RX2) (List.mem_of_getElem? (i := 7) rfl)) (by decide +kernel) (by decide), rfl, S.2.2.2.2 (Cond.instanceMethod yX2_init) (List.mem_of_getElem? (i := 33) rfl)⟩ hl.1 (Nat.le_of_ble_eq_true rfl) (by show _ ≤ 112; omega) (by show _ ≤ 9262; omega) dX9_init_26 dX9_init_29 dX9_init_30 (fun b9 v H locs hv hW => ?_)
      subst hv
      obtain ⟨qk, hqk⟩ := sp_in_app (w1 := [(b, .inr (7, [.ref qP, .null, .null, .null, .null, .null, .null, .int 0, .int 0, .int 0, .int 0])), (qP, .inl (q5 3, 12, .inr (.inr (.inr (.inr pa)))))] ++ sp_PG q5 i u (fun _ => sp_pr0)) (w2 := sw_P v q5 (fun _ => 0) (fun _ => 0) (fun _ => 0) (fun _ => 0) (fun _ => 0) 0 0) (q := (v 0, .inr (1, [.ref (v 1), .ref (v 2), .ref (v 3), .ref (v 4), .ref (v 5), .int 0, .int 0]))) List.mem_cons_self
      refine sp_astq S hK hW 1 3 qk 1 rfl rfl hqk rfl (sp_i_in (by omega) (by omega)) (ws' := ([(b, .inr (7, [.ref qP, .null, .null, .null, .null, .null, .null, .int 0, .int 0, .int 0, .int 0])), (qP, .inl (q5 3, 12, .inr (.inr (.inr (.inr (va_up pa (Int32.ofNat i).toNatClampNeg (some (v 0))))))))] ++ sp_PG q5 i u (fun _ => sp_pr0)) ++ sp_pr v q5 sp_pr0) rfl dX9_init_33 (fun H locs hW => ?_)
      refine lv_iinc (v := Int32.ofNat (i + 1)) (lv' := [(1, .int (Int32.ofNat (i + 1))), (0, .ref b)]) hx hb dX9_init_34 hl (k := 0) rfl (sp_i_succ i) (by decide) rfl (fun ls hl => ?_)
      refine lv_goto (tgt := 15) hx hb dX9_init_37 (by decide) ?_
      refine W.widen (k := 1 + 6 * (i + 1)) (n := 12 + 247 * (i + 1)) (by omega) (by omega) ?_
      refine ih (i + 1) (by omega) _ (fun k => if k = i then v else u k) _ _ _ (fun k hk => ?_) (by rw [sp_PG_succ, ← List.append_assoc]; exact hW) hl
      rw [sp_i_nat (by omega)]
      by_cases hki : k = i
      · subst hki; simp [va_up]
      · rw [va_up_ne _ _ hki, if_neg hki]; exact hpa k (by omega)
  exact hlp 12 0 rfl _ (fun _ _ => 0) _ _ _ (fun k hk => absurd hk (Nat.not_lt_zero k)) (by show sp_wd D A s.heap (_ ++ []) _ _; rw [List.append_nil]; exact hW) hl
