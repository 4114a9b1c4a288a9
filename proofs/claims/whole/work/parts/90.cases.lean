abbrev sp_ctx (p : Program) (s : State) (m : MethodId) (meth : Method) (c : Code) (D : va_G) (q5 : Nat → ClassId) (A : Nat → Prop) (b L : Nat) (xs : Nat → Int32) (u : sp_XT) : Prop := CallFix p m c cL_law 4 s #[Value.ref b] lw_tbl RL ∧ va_K D vwCl (sp_ty q5) s ∧ sp_GG 2 A s s.heap ∧ (∀ q : Nat, s.heap.size ≤ q → A q) ∧ va_X b L xs s s.heap ∧ b < s.heap.size ∧ ¬ A b ∧ sp_XC (u.1 0) u ∧ L ≤ 3072
section SPA
variable {p : Program} {l : Launch} {e : Env} {s : State} {m : MethodId} {below : List Frame} {meth : Method} {c : Code} {H : Heap} {locs : List Loc} {Q : State → Prop} {pc : Nat} {ls : Array Slot} {rest : List Value} {D : va_G} {A : Nat → Prop} {q5 : Nat → ClassId} {b L : Nat} {xs : Nat → Int32} {u : sp_XT} {WS : va_W} {lv : List (Nat × Value)} {i : Nat}
theorem sp_arg (C : sp_ctx p s m meth c D q5 A b L xs u) (hW : sp_wd D A s.heap WS H locs) (h0 : ls[0]? = some (.val (.ref b))) (h3 : ls[3]? = some (.val (.int (Int32.ofNat i)))) (hi : i + 6 ≤ L) (k : Nat) (hk : k < 6) {z : Int} (hz : Int32.ofInt z = Int32.ofNat k) (d1 : decode cL_law pc = .ok (.aload_n 0, 1)) (d2 : decode cL_law (pc + 1) = .ok (.iload_n 3, 1)) (d3 : decode cL_law (pc + 2) = .ok (.iconst z, 1)) (d4 : decode cL_law (pc + 3) = .ok (.iadd, 1)) (d5 : decode cL_law (pc + 4) = .ok (.iaload, 1))
    (kk : W p l e room_1 s m #[Value.ref b] below meth c H locs 139 16093 Q (F0 m (pc + 5) ls (.int (xs (i + k)) :: rest))) : W p l e room_1 s m #[Value.ref b] below meth c H locs 139 16093 Q (F0 m pc ls rest) := by
  obtain ⟨S, hK, hG, hA, hX, hbl, hbA, hu, hL⟩ := C
  refine lv_aload_n S.1 S.2.1 d1 rfl h0 ?_
  refine lv_iload_n S.1 S.2.1 d2 rfl h3 ?_
  refine lv_iconst (v := Int32.ofNat k) S.1 S.2.1 d3 hz ?_
  refine lv_iadd S.1 S.2.1 d4 ?_
  rw [← Int32.ofNat_add]
  refine va_sld S.1 S.2.1 hX hbl hbA hW.2.2 (sp_i_in (by omega) (by omega)) d5 ?_
  rw [sp_i_nat (by omega)]
  exact kk
theorem sp_cmp_self (r : Int64) : lg_cmp r r = 0 := by simp [lg_cmp]
end SPA
theorem lo_text {p : Program} {l : Launch} {e : Env} {s : State} {m : MethodId} {below : List Frame} {meth : Method} {c : Code} {H : Heap} {locs : List Loc} {Q : State → Prop} {ls : Array Slot} {D : va_G} {A : Nat → Prop} {q5 : Nat → ClassId} {b L : Nat} {xs : Nat → Int32} {u : sp_XT} {w : Nat → Nat} {i : Nat} {x : sp_XS} {y : sp_MS} (C : sp_ctx p s m meth c D q5 A b L xs u) (hi : i + 6 ≤ L) (hR : sp_Rel x y) (hW : sp_wd D A s.heap (sp_XW q5 u x ++ sp_MW q5 w y) H locs) (hl : lv_has ls 4 [(3, .int (Int32.ofNat i)), (0, .ref b), (1, .ref (u.1 0)), (2, .ref (w 0))])
    (kk : ∀ (x' : sp_XS) (y' : sp_MS) (H : Heap) (locs : List Loc), sp_Rel x' y' → sp_wd D A s.heap (sp_XW q5 u x' ++ sp_MW q5 w y') H locs → W p l e room_1 s m #[Value.ref b] below meth c H locs 139 16093 Q (F0 m 1211 ls [])) : W p l e room_1 s m #[Value.ref b] below meth c H locs 139 16093 Q (F0 m 168 ls []) := by
  obtain ⟨r, x', y', hx, hy, hR'⟩ := op_text hR (xs (i + 1)) (xs (i + 2)) (xs (i + 3)) (xs (i + 4))
  obtain ⟨S, hK, hG, hA, hX, hbl, hbA, hu, hL⟩ := id C
  obtain ⟨rmx, x1, x2, x3, x4, hx⟩ := lx_text (l := l) (D := D) (q5 := q5) (u := u) hu (MM := sp_MW q5 w y) (xs (i + 1)) (xs (i + 2)) (xs (i + 3)) (xs (i + 4)) hx
  obtain ⟨rmy, y1, y2, y3, y4, hy⟩ := lm_text (l := l) (D := D) (q5 := q5) (w := w) (XX := sp_XW q5 u x') (xs (i + 1)) (xs (i + 2)) (xs (i + 3)) (xs (i + 4)) hy
  refine lv_aload_n S.1 S.2.1 dL_law_168 rfl (lv_at hl 2 rfl) ?_
  refine sp_arg C hW (lv_at hl 1 rfl) (lv_at hl 0 rfl) hi 1 (by decide) rfl dL_law_169 dL_law_170 dL_law_171 dL_law_172 dL_law_173 ?_
  refine sp_arg C hW (lv_at hl 1 rfl) (lv_at hl 0 rfl) hi 2 (by decide) rfl dL_law_174 dL_law_175 dL_law_176 dL_law_177 dL_law_178 ?_
  refine sp_arg C hW (lv_at hl 1 rfl) (lv_at hl 0 rfl) hi 3 (by decide) rfl dL_law_179 dL_law_180 dL_law_181 dL_law_182 dL_law_183 ?_
  refine sp_arg C hW (lv_at hl 1 rfl) (lv_at hl 0 rfl) hi 4 (by decide) rfl dL_law_184 dL_law_185 dL_law_186 dL_law_187 dL_law_188 ?_
  refine sp_callLi (rest := []) S hK hG hA hW hx (cwV 4 (fun w hw => S.2.2.2.2 w (inv_X9_text w hw)) gov_X9_text rfl x1 x2 (by decide +kernel) ⟨Nat.le_trans (Nat.succ_le_succ x3) (by decide), Nat.le_trans (Nat.add_le_add_left x4 _) (by decide)⟩) 7 0 rfl rfl rfl hl.1 (Nat.le_of_ble_eq_true rfl) dL_law_189 ⟨by decide, by decide⟩ rfl (fun H locs hW => ?_)
  refine lv_aload_n S.1 S.2.1 dL_law_192 rfl (lv_at hl 3 rfl) ?_
  refine sp_arg C hW (lv_at hl 1 rfl) (lv_at hl 0 rfl) hi 1 (by decide) rfl dL_law_193 dL_law_194 dL_law_195 dL_law_196 dL_law_197 ?_
  refine sp_arg C hW (lv_at hl 1 rfl) (lv_at hl 0 rfl) hi 2 (by decide) rfl dL_law_198 dL_law_199 dL_law_200 dL_law_201 dL_law_202 ?_
  refine sp_arg C hW (lv_at hl 1 rfl) (lv_at hl 0 rfl) hi 3 (by decide) rfl dL_law_203 dL_law_204 dL_law_205 dL_law_206 dL_law_207 ?_
  refine sp_arg C hW (lv_at hl 1 rfl) (lv_at hl 0 rfl) hi 4 (by decide) rfl dL_law_208 dL_law_209 dL_law_210 dL_law_211 dL_law_212 ?_
  obtain ⟨km, hkm⟩ := sp_in_app (w1 := sp_XW q5 u x') (w2 := sp_MW q5 w y) (q := (w 0, .inr (8, [.int y.1, .int y.2.1, .ref (w 1), .ref (w 2), .ref (w 3), .int y.2.2.2.2.2.1, .ref (w 4), .ref (w 5), .ref (w 6), .ref (w 7), .ref (w 8), .int y.2.2.2.2.2.2.2.2.2.2.2.1, .ref (w 9), .ref (w 10), .ref (w 11), .ref (w 12), .int y.2.2.2.2.2.2.2.2.2.2.2.2.2.2.2.2.1, .int y.2.2.2.2.2.2.2.2.2.2.2.2.2.2.2.2.2.1, .ref (w 13), .int y.2.2.2.2.2.2.2.2.2.2.2.2.2.2.2.2.2.2.2.1, .ref (w 14), .ref (w 15), .ref (w 16), .ref (w 17), .ref (w 18), .ref (w 19), .ref (w 20), .ref (w 21), .ref (w 22), .ref (w 23), .ref (w 24), .ref (w 25)]))) List.mem_cons_self
  refine sp_callLi (rest := [.int r]) S hK hG hA hW hy (cwV 4 (fun w hw => S.2.2.2.2 w (inv_X10_text w hw)) gov_X10_text rfl y1 y2 (by decide +kernel) ⟨Nat.le_trans (Nat.succ_le_succ y3) (by decide), Nat.le_trans (Nat.add_le_add_left y4 _) (by decide)⟩) 8 km rfl hkm rfl hl.1 (Nat.le_of_ble_eq_true rfl) dL_law_213 ⟨by decide, by decide⟩ rfl (fun H locs hW => ?_)
  exact lv_icmp_eq (tgt := 1211) S.1 S.2.1 dL_law_216 (by decide) (fun _ => kk x' y' _ _ hR' hW) (fun hc => absurd rfl hc)

theorem lo_line {p : Program} {l : Launch} {e : Env} {s : State} {m : MethodId} {below : List Frame} {meth : Method} {c : Code} {H : Heap} {locs : List Loc} {Q : State → Prop} {ls : Array Slot} {D : va_G} {A : Nat → Prop} {q5 : Nat → ClassId} {b L : Nat} {xs : Nat → Int32} {u : sp_XT} {w : Nat → Nat} {i : Nat} {x : sp_XS} {y : sp_MS} (C : sp_ctx p s m meth c D q5 A b L xs u) (hi : i + 6 ≤ L) (hR : sp_Rel x y) (hW : sp_wd D A s.heap (sp_XW q5 u x ++ sp_MW q5 w y) H locs) (hl : lv_has ls 4 [(3, .int (Int32.ofNat i)), (0, .ref b), (1, .ref (u.1 0)), (2, .ref (w 0))])
    (kk : ∀ (x' : sp_XS) (y' : sp_MS) (H : Heap) (locs : List Loc), sp_Rel x' y' → sp_wd D A s.heap (sp_XW q5 u x' ++ sp_MW q5 w y') H locs → W p l e room_1 s m #[Value.ref b] below meth c H locs 139 16093 Q (F0 m 1211 ls [])) : W p l e room_1 s m #[Value.ref b] below meth c H locs 139 16093 Q (F0 m 221 ls []) := by
  obtain ⟨r, x', y', hx, hy, hR'⟩ := op_line hR (xs (i + 1)) (xs (i + 2)) (xs (i + 3))
  obtain ⟨S, hK, hG, hA, hX, hbl, hbA, hu, hL⟩ := id C
  obtain ⟨rmx, x1, x2, x3, x4, hx⟩ := lx_line (l := l) (D := D) (q5 := q5) (u := u) hu (MM := sp_MW q5 w y) (xs (i + 1)) (xs (i + 2)) (xs (i + 3)) hx
  obtain ⟨rmy, y1, y2, y3, y4, hy⟩ := lm_line (l := l) (D := D) (q5 := q5) (w := w) (XX := sp_XW q5 u x') (xs (i + 1)) (xs (i + 2)) (xs (i + 3)) hy
  refine lv_aload_n S.1 S.2.1 dL_law_221 rfl (lv_at hl 2 rfl) ?_
  refine sp_arg C hW (lv_at hl 1 rfl) (lv_at hl 0 rfl) hi 1 (by decide) rfl dL_law_222 dL_law_223 dL_law_224 dL_law_225 dL_law_226 ?_
  refine sp_arg C hW (lv_at hl 1 rfl) (lv_at hl 0 rfl) hi 2 (by decide) rfl dL_law_227 dL_law_228 dL_law_229 dL_law_230 dL_law_231 ?_
  refine sp_arg C hW (lv_at hl 1 rfl) (lv_at hl 0 rfl) hi 3 (by decide) rfl dL_law_232 dL_law_233 dL_law_234 dL_law_235 dL_law_236 ?_
  refine sp_callLi (rest := []) S hK hG hA hW hx (cwV 3 (fun w hw => S.2.2.2.2 w (inv_X9_line w hw)) gov_X9_line rfl x1 x2 (by decide +kernel) ⟨Nat.le_trans (Nat.succ_le_succ x3) (by decide), Nat.le_trans (Nat.add_le_add_left x4 _) (by decide)⟩) 7 0 rfl rfl rfl hl.1 (Nat.le_of_ble_eq_true rfl) dL_law_237 ⟨by decide, by decide⟩ rfl (fun H locs hW => ?_)
  refine lv_aload_n S.1 S.2.1 dL_law_240 rfl (lv_at hl 3 rfl) ?_
  refine sp_arg C hW (lv_at hl 1 rfl) (lv_at hl 0 rfl) hi 1 (by decide) rfl dL_law_241 dL_law_242 dL_law_243 dL_law_244 dL_law_245 ?_
  refine sp_arg C hW (lv_at hl 1 rfl) (lv_at hl 0 rfl) hi 2 (by decide) rfl dL_law_246 dL_law_247 dL_law_248 dL_law_249 dL_law_250 ?_
  refine sp_arg C hW (lv_at hl 1 rfl) (lv_at hl 0 rfl) hi 3 (by decide) rfl dL_law_251 dL_law_252 dL_law_253 dL_law_254 dL_law_255 ?_
  obtain ⟨km, hkm⟩ := sp_in_app (w1 := sp_XW q5 u x') (w2 := sp_MW q5 w y) (q := (w 0, .inr (8, [.int y.1, .int y.2.1, .ref (w 1), .ref (w 2), .ref (w 3), .int y.2.2.2.2.2.1, .ref (w 4), .ref (w 5), .ref (w 6), .ref (w 7), .ref (w 8), .int y.2.2.2.2.2.2.2.2.2.2.2.1, .ref (w 9), .ref (w 10), .ref (w 11), .ref (w 12), .int y.2.2.2.2.2.2.2.2.2.2.2.2.2.2.2.2.1, .int y.2.2.2.2.2.2.2.2.2.2.2.2.2.2.2.2.2.1, .ref (w 13), .int y.2.2.2.2.2.2.2.2.2.2.2.2.2.2.2.2.2.2.2.1, .ref (w 14), .ref (w 15), .ref (w 16), .ref (w 17), .ref (w 18), .ref (w 19), .ref (w 20), .ref (w 21), .ref (w 22), .ref (w 23), .ref (w 24), .ref (w 25)]))) List.mem_cons_self
  refine sp_callLi (rest := [.int r]) S hK hG hA hW hy (cwV 3 (fun w hw => S.2.2.2.2 w (inv_X10_line w hw)) gov_X10_line rfl y1 y2 (by decide +kernel) ⟨Nat.le_trans (Nat.succ_le_succ y3) (by decide), Nat.le_trans (Nat.add_le_add_left y4 _) (by decide)⟩) 8 km rfl hkm rfl hl.1 (Nat.le_of_ble_eq_true rfl) dL_law_256 ⟨by decide, by decide⟩ rfl (fun H locs hW => ?_)
  exact lv_icmp_eq (tgt := 1211) S.1 S.2.1 dL_law_259 (by decide) (fun _ => kk x' y' _ _ hR' hW) (fun hc => absurd rfl hc)

theorem lo_size {p : Program} {l : Launch} {e : Env} {s : State} {m : MethodId} {below : List Frame} {meth : Method} {c : Code} {H : Heap} {locs : List Loc} {Q : State → Prop} {ls : Array Slot} {D : va_G} {A : Nat → Prop} {q5 : Nat → ClassId} {b L : Nat} {xs : Nat → Int32} {u : sp_XT} {w : Nat → Nat} {i : Nat} {x : sp_XS} {y : sp_MS} (C : sp_ctx p s m meth c D q5 A b L xs u) (hi : i + 6 ≤ L) (hR : sp_Rel x y) (hW : sp_wd D A s.heap (sp_XW q5 u x ++ sp_MW q5 w y) H locs) (hl : lv_has ls 4 [(3, .int (Int32.ofNat i)), (0, .ref b), (1, .ref (u.1 0)), (2, .ref (w 0))])
    (kk : ∀ (x' : sp_XS) (y' : sp_MS) (H : Heap) (locs : List Loc), sp_Rel x' y' → sp_wd D A s.heap (sp_XW q5 u x' ++ sp_MW q5 w y') H locs → W p l e room_1 s m #[Value.ref b] below meth c H locs 139 16093 Q (F0 m 1211 ls [])) : W p l e room_1 s m #[Value.ref b] below meth c H locs 139 16093 Q (F0 m 264 ls []) := by
  obtain ⟨r, x', y', hx, hy, hR'⟩ := op_size hR (xs (i + 1)) (xs (i + 2))
  obtain ⟨S, hK, hG, hA, hX, hbl, hbA, hu, hL⟩ := id C
  obtain ⟨rmx, x1, x2, x3, x4, hx⟩ := lx_size (l := l) (D := D) (q5 := q5) (u := u) hu (MM := sp_MW q5 w y) (xs (i + 1)) (xs (i + 2)) hx
  obtain ⟨rmy, y1, y2, y3, y4, hy⟩ := lm_size (l := l) (D := D) (q5 := q5) (w := w) (XX := sp_XW q5 u x') (xs (i + 1)) (xs (i + 2)) hy
  refine lv_aload_n S.1 S.2.1 dL_law_264 rfl (lv_at hl 2 rfl) ?_
  refine sp_arg C hW (lv_at hl 1 rfl) (lv_at hl 0 rfl) hi 1 (by decide) rfl dL_law_265 dL_law_266 dL_law_267 dL_law_268 dL_law_269 ?_
  refine sp_arg C hW (lv_at hl 1 rfl) (lv_at hl 0 rfl) hi 2 (by decide) rfl dL_law_270 dL_law_271 dL_law_272 dL_law_273 dL_law_274 ?_
  refine sp_callLi (rest := []) S hK hG hA hW hx (cwV 2 (fun w hw => S.2.2.2.2 w (inv_X9_size w hw)) gov_X9_size rfl x1 x2 (by decide +kernel) ⟨Nat.le_trans (Nat.succ_le_succ x3) (by decide), Nat.le_trans (Nat.add_le_add_left x4 _) (by decide)⟩) 7 0 rfl rfl rfl hl.1 (Nat.le_of_ble_eq_true rfl) dL_law_275 ⟨by decide, by decide⟩ rfl (fun H locs hW => ?_)
  refine lv_aload_n S.1 S.2.1 dL_law_278 rfl (lv_at hl 3 rfl) ?_
  refine sp_arg C hW (lv_at hl 1 rfl) (lv_at hl 0 rfl) hi 1 (by decide) rfl dL_law_279 dL_law_280 dL_law_281 dL_law_282 dL_law_283 ?_
  refine sp_arg C hW (lv_at hl 1 rfl) (lv_at hl 0 rfl) hi 2 (by decide) rfl dL_law_284 dL_law_285 dL_law_286 dL_law_287 dL_law_288 ?_
  obtain ⟨km, hkm⟩ := sp_in_app (w1 := sp_XW q5 u x') (w2 := sp_MW q5 w y) (q := (w 0, .inr (8, [.int y.1, .int y.2.1, .ref (w 1), .ref (w 2), .ref (w 3), .int y.2.2.2.2.2.1, .ref (w 4), .ref (w 5), .ref (w 6), .ref (w 7), .ref (w 8), .int y.2.2.2.2.2.2.2.2.2.2.2.1, .ref (w 9), .ref (w 10), .ref (w 11), .ref (w 12), .int y.2.2.2.2.2.2.2.2.2.2.2.2.2.2.2.2.1, .int y.2.2.2.2.2.2.2.2.2.2.2.2.2.2.2.2.2.1, .ref (w 13), .int y.2.2.2.2.2.2.2.2.2.2.2.2.2.2.2.2.2.2.2.1, .ref (w 14), .ref (w 15), .ref (w 16), .ref (w 17), .ref (w 18), .ref (w 19), .ref (w 20), .ref (w 21), .ref (w 22), .ref (w 23), .ref (w 24), .ref (w 25)]))) List.mem_cons_self
  refine sp_callLi (rest := [.int r]) S hK hG hA hW hy (cwV 2 (fun w hw => S.2.2.2.2 w (inv_X10_size w hw)) gov_X10_size rfl y1 y2 (by decide +kernel) ⟨Nat.le_trans (Nat.succ_le_succ y3) (by decide), Nat.le_trans (Nat.add_le_add_left y4 _) (by decide)⟩) 8 km rfl hkm rfl hl.1 (Nat.le_of_ble_eq_true rfl) dL_law_289 ⟨by decide, by decide⟩ rfl (fun H locs hW => ?_)
  exact lv_icmp_eq (tgt := 1211) S.1 S.2.1 dL_law_292 (by decide) (fun _ => kk x' y' _ _ hR' hW) (fun hc => absurd rfl hc)

theorem lo_rests {p : Program} {l : Launch} {e : Env} {s : State} {m : MethodId} {below : List Frame} {meth : Method} {c : Code} {H : Heap} {locs : List Loc} {Q : State → Prop} {ls : Array Slot} {D : va_G} {A : Nat → Prop} {q5 : Nat → ClassId} {b L : Nat} {xs : Nat → Int32} {u : sp_XT} {w : Nat → Nat} {i : Nat} {x : sp_XS} {y : sp_MS} (C : sp_ctx p s m meth c D q5 A b L xs u) (hi : i + 6 ≤ L) (hR : sp_Rel x y) (hW : sp_wd D A s.heap (sp_XW q5 u x ++ sp_MW q5 w y) H locs) (hl : lv_has ls 4 [(3, .int (Int32.ofNat i)), (0, .ref b), (1, .ref (u.1 0)), (2, .ref (w 0))])
    (kk : ∀ (x' : sp_XS) (y' : sp_MS) (H : Heap) (locs : List Loc), sp_Rel x' y' → sp_wd D A s.heap (sp_XW q5 u x' ++ sp_MW q5 w y') H locs → W p l e room_1 s m #[Value.ref b] below meth c H locs 139 16093 Q (F0 m 1211 ls [])) : W p l e room_1 s m #[Value.ref b] below meth c H locs 139 16093 Q (F0 m 297 ls []) := by
  obtain ⟨r, x', y', hx, hy, hR'⟩ := op_rests hR (xs (i + 1))
  obtain ⟨S, hK, hG, hA, hX, hbl, hbA, hu, hL⟩ := id C
  obtain ⟨rmx, x1, x2, x3, x4, hx⟩ := lx_rests (l := l) (D := D) (q5 := q5) (u := u) hu (MM := sp_MW q5 w y) (xs (i + 1)) hx
  obtain ⟨rmy, y1, y2, y3, y4, hy⟩ := lm_rests (l := l) (D := D) (q5 := q5) (w := w) (XX := sp_XW q5 u x') (xs (i + 1)) hy
  refine lv_aload_n S.1 S.2.1 dL_law_297 rfl (lv_at hl 2 rfl) ?_
  refine sp_arg C hW (lv_at hl 1 rfl) (lv_at hl 0 rfl) hi 1 (by decide) rfl dL_law_298 dL_law_299 dL_law_300 dL_law_301 dL_law_302 ?_
  refine sp_callLi (rest := []) S hK hG hA hW hx (cwV 1 (fun w hw => S.2.2.2.2 w (inv_X9_rests w hw)) gov_X9_rests rfl x1 x2 (by decide +kernel) ⟨Nat.le_trans (Nat.succ_le_succ x3) (by decide), Nat.le_trans (Nat.add_le_add_left x4 _) (by decide)⟩) 7 0 rfl rfl rfl hl.1 (Nat.le_of_ble_eq_true rfl) dL_law_303 ⟨by decide, by decide⟩ rfl (fun H locs hW => ?_)
  refine lv_aload_n S.1 S.2.1 dL_law_306 rfl (lv_at hl 3 rfl) ?_
  refine sp_arg C hW (lv_at hl 1 rfl) (lv_at hl 0 rfl) hi 1 (by decide) rfl dL_law_307 dL_law_308 dL_law_309 dL_law_310 dL_law_311 ?_
  obtain ⟨km, hkm⟩ := sp_in_app (w1 := sp_XW q5 u x') (w2 := sp_MW q5 w y) (q := (w 0, .inr (8, [.int y.1, .int y.2.1, .ref (w 1), .ref (w 2), .ref (w 3), .int y.2.2.2.2.2.1, .ref (w 4), .ref (w 5), .ref (w 6), .ref (w 7), .ref (w 8), .int y.2.2.2.2.2.2.2.2.2.2.2.1, .ref (w 9), .ref (w 10), .ref (w 11), .ref (w 12), .int y.2.2.2.2.2.2.2.2.2.2.2.2.2.2.2.2.1, .int y.2.2.2.2.2.2.2.2.2.2.2.2.2.2.2.2.2.1, .ref (w 13), .int y.2.2.2.2.2.2.2.2.2.2.2.2.2.2.2.2.2.2.2.1, .ref (w 14), .ref (w 15), .ref (w 16), .ref (w 17), .ref (w 18), .ref (w 19), .ref (w 20), .ref (w 21), .ref (w 22), .ref (w 23), .ref (w 24), .ref (w 25)]))) List.mem_cons_self
  refine sp_callLi (rest := [.int r]) S hK hG hA hW hy (cwV 1 (fun w hw => S.2.2.2.2 w (inv_X10_rests w hw)) gov_X10_rests rfl y1 y2 (by decide +kernel) ⟨Nat.le_trans (Nat.succ_le_succ y3) (by decide), Nat.le_trans (Nat.add_le_add_left y4 _) (by decide)⟩) 8 km rfl hkm rfl hl.1 (Nat.le_of_ble_eq_true rfl) dL_law_312 ⟨by decide, by decide⟩ rfl (fun H locs hW => ?_)
  exact lv_icmp_eq (tgt := 1211) S.1 S.2.1 dL_law_315 (by decide) (fun _ => kk x' y' _ _ hR' hW) (fun hc => absurd rfl hc)

theorem lo_truly {p : Program} {l : Launch} {e : Env} {s : State} {m : MethodId} {below : List Frame} {meth : Method} {c : Code} {H : Heap} {locs : List Loc} {Q : State → Prop} {ls : Array Slot} {D : va_G} {A : Nat → Prop} {q5 : Nat → ClassId} {b L : Nat} {xs : Nat → Int32} {u : sp_XT} {w : Nat → Nat} {i : Nat} {x : sp_XS} {y : sp_MS} (C : sp_ctx p s m meth c D q5 A b L xs u) (hi : i + 6 ≤ L) (hR : sp_Rel x y) (hW : sp_wd D A s.heap (sp_XW q5 u x ++ sp_MW q5 w y) H locs) (hl : lv_has ls 4 [(3, .int (Int32.ofNat i)), (0, .ref b), (1, .ref (u.1 0)), (2, .ref (w 0))])
    (kk : ∀ (x' : sp_XS) (y' : sp_MS) (H : Heap) (locs : List Loc), sp_Rel x' y' → sp_wd D A s.heap (sp_XW q5 u x' ++ sp_MW q5 w y') H locs → W p l e room_1 s m #[Value.ref b] below meth c H locs 139 16093 Q (F0 m 1211 ls [])) : W p l e room_1 s m #[Value.ref b] below meth c H locs 139 16093 Q (F0 m 320 ls []) := by
  obtain ⟨r, x', y', hx, hy, hR'⟩ := op_truly hR (xs (i + 1))
  obtain ⟨S, hK, hG, hA, hX, hbl, hbA, hu, hL⟩ := id C
  obtain ⟨rmx, x1, x2, x3, x4, hx⟩ := lx_truly (l := l) (D := D) (q5 := q5) (u := u) hu (MM := sp_MW q5 w y) (xs (i + 1)) hx
  obtain ⟨rmy, y1, y2, y3, y4, hy⟩ := lm_truly (l := l) (D := D) (q5 := q5) (w := w) (XX := sp_XW q5 u x') (xs (i + 1)) hy
  refine lv_aload_n S.1 S.2.1 dL_law_320 rfl (lv_at hl 2 rfl) ?_
  refine sp_arg C hW (lv_at hl 1 rfl) (lv_at hl 0 rfl) hi 1 (by decide) rfl dL_law_321 dL_law_322 dL_law_323 dL_law_324 dL_law_325 ?_
  refine sp_callLi (rest := []) S hK hG hA hW hx (cwV 1 (fun w hw => S.2.2.2.2 w (inv_X9_truly w hw)) gov_X9_truly rfl x1 x2 (by decide +kernel) ⟨Nat.le_trans (Nat.succ_le_succ x3) (by decide), Nat.le_trans (Nat.add_le_add_left x4 _) (by decide)⟩) 7 0 rfl rfl rfl hl.1 (Nat.le_of_ble_eq_true rfl) dL_law_326 ⟨by decide, by decide⟩ rfl (fun H locs hW => ?_)
  refine lv_aload_n S.1 S.2.1 dL_law_329 rfl (lv_at hl 3 rfl) ?_
  refine sp_arg C hW (lv_at hl 1 rfl) (lv_at hl 0 rfl) hi 1 (by decide) rfl dL_law_330 dL_law_331 dL_law_332 dL_law_333 dL_law_334 ?_
  obtain ⟨km, hkm⟩ := sp_in_app (w1 := sp_XW q5 u x') (w2 := sp_MW q5 w y) (q := (w 0, .inr (8, [.int y.1, .int y.2.1, .ref (w 1), .ref (w 2), .ref (w 3), .int y.2.2.2.2.2.1, .ref (w 4), .ref (w 5), .ref (w 6), .ref (w 7), .ref (w 8), .int y.2.2.2.2.2.2.2.2.2.2.2.1, .ref (w 9), .ref (w 10), .ref (w 11), .ref (w 12), .int y.2.2.2.2.2.2.2.2.2.2.2.2.2.2.2.2.1, .int y.2.2.2.2.2.2.2.2.2.2.2.2.2.2.2.2.2.1, .ref (w 13), .int y.2.2.2.2.2.2.2.2.2.2.2.2.2.2.2.2.2.2.2.1, .ref (w 14), .ref (w 15), .ref (w 16), .ref (w 17), .ref (w 18), .ref (w 19), .ref (w 20), .ref (w 21), .ref (w 22), .ref (w 23), .ref (w 24), .ref (w 25)]))) List.mem_cons_self
  refine sp_callLi (rest := [.int r]) S hK hG hA hW hy (cwV 1 (fun w hw => S.2.2.2.2 w (inv_X10_truly w hw)) gov_X10_truly rfl y1 y2 (by decide +kernel) ⟨Nat.le_trans (Nat.succ_le_succ y3) (by decide), Nat.le_trans (Nat.add_le_add_left y4 _) (by decide)⟩) 8 km rfl hkm rfl hl.1 (Nat.le_of_ble_eq_true rfl) dL_law_335 ⟨by decide, by decide⟩ rfl (fun H locs hW => ?_)
  exact lv_icmp_eq (tgt := 1211) S.1 S.2.1 dL_law_338 (by decide) (fun _ => kk x' y' _ _ hR' hW) (fun hc => absurd rfl hc)

theorem lo_fewest {p : Program} {l : Launch} {e : Env} {s : State} {m : MethodId} {below : List Frame} {meth : Method} {c : Code} {H : Heap} {locs : List Loc} {Q : State → Prop} {ls : Array Slot} {D : va_G} {A : Nat → Prop} {q5 : Nat → ClassId} {b L : Nat} {xs : Nat → Int32} {u : sp_XT} {w : Nat → Nat} {i : Nat} {x : sp_XS} {y : sp_MS} (C : sp_ctx p s m meth c D q5 A b L xs u) (hi : i + 6 ≤ L) (hR : sp_Rel x y) (hW : sp_wd D A s.heap (sp_XW q5 u x ++ sp_MW q5 w y) H locs) (hl : lv_has ls 4 [(3, .int (Int32.ofNat i)), (0, .ref b), (1, .ref (u.1 0)), (2, .ref (w 0))])
    (kk : ∀ (x' : sp_XS) (y' : sp_MS) (H : Heap) (locs : List Loc), sp_Rel x' y' → sp_wd D A s.heap (sp_XW q5 u x' ++ sp_MW q5 w y') H locs → W p l e room_1 s m #[Value.ref b] below meth c H locs 139 16093 Q (F0 m 1211 ls [])) : W p l e room_1 s m #[Value.ref b] below meth c H locs 139 16093 Q (F0 m 343 ls []) := by
  obtain ⟨r, x', y', hx, hy, hR'⟩ := op_fewest hR (xs (i + 1)) (xs (i + 2))
  obtain ⟨S, hK, hG, hA, hX, hbl, hbA, hu, hL⟩ := id C
  obtain ⟨rmx, x1, x2, x3, x4, hx⟩ := lx_fewest (l := l) (D := D) (q5 := q5) (u := u) hu (MM := sp_MW q5 w y) (xs (i + 1)) (xs (i + 2)) hx
  obtain ⟨rmy, y1, y2, y3, y4, hy⟩ := lm_fewest (l := l) (D := D) (q5 := q5) (w := w) (XX := sp_XW q5 u x') (xs (i + 1)) (xs (i + 2)) hy
  refine lv_aload_n S.1 S.2.1 dL_law_343 rfl (lv_at hl 2 rfl) ?_
  refine sp_arg C hW (lv_at hl 1 rfl) (lv_at hl 0 rfl) hi 1 (by decide) rfl dL_law_344 dL_law_345 dL_law_346 dL_law_347 dL_law_348 ?_
  refine sp_arg C hW (lv_at hl 1 rfl) (lv_at hl 0 rfl) hi 2 (by decide) rfl dL_law_349 dL_law_350 dL_law_351 dL_law_352 dL_law_353 ?_
  refine sp_callLi (rest := []) S hK hG hA hW hx (cwV 2 (fun w hw => S.2.2.2.2 w (inv_X9_fewest w hw)) gov_X9_fewest rfl x1 x2 (by decide +kernel) ⟨Nat.le_trans (Nat.succ_le_succ x3) (by decide), Nat.le_trans (Nat.add_le_add_left x4 _) (by decide)⟩) 7 0 rfl rfl rfl hl.1 (Nat.le_of_ble_eq_true rfl) dL_law_354 ⟨by decide, by decide⟩ rfl (fun H locs hW => ?_)
  refine lv_aload_n S.1 S.2.1 dL_law_357 rfl (lv_at hl 3 rfl) ?_
  refine sp_arg C hW (lv_at hl 1 rfl) (lv_at hl 0 rfl) hi 1 (by decide) rfl dL_law_358 dL_law_359 dL_law_360 dL_law_361 dL_law_362 ?_
  refine sp_arg C hW (lv_at hl 1 rfl) (lv_at hl 0 rfl) hi 2 (by decide) rfl dL_law_363 dL_law_364 dL_law_365 dL_law_366 dL_law_367 ?_
  obtain ⟨km, hkm⟩ := sp_in_app (w1 := sp_XW q5 u x') (w2 := sp_MW q5 w y) (q := (w 0, .inr (8, [.int y.1, .int y.2.1, .ref (w 1), .ref (w 2), .ref (w 3), .int y.2.2.2.2.2.1, .ref (w 4), .ref (w 5), .ref (w 6), .ref (w 7), .ref (w 8), .int y.2.2.2.2.2.2.2.2.2.2.2.1, .ref (w 9), .ref (w 10), .ref (w 11), .ref (w 12), .int y.2.2.2.2.2.2.2.2.2.2.2.2.2.2.2.2.1, .int y.2.2.2.2.2.2.2.2.2.2.2.2.2.2.2.2.2.1, .ref (w 13), .int y.2.2.2.2.2.2.2.2.2.2.2.2.2.2.2.2.2.2.2.1, .ref (w 14), .ref (w 15), .ref (w 16), .ref (w 17), .ref (w 18), .ref (w 19), .ref (w 20), .ref (w 21), .ref (w 22), .ref (w 23), .ref (w 24), .ref (w 25)]))) List.mem_cons_self
  refine sp_callLi (rest := [.int r]) S hK hG hA hW hy (cwV 2 (fun w hw => S.2.2.2.2 w (inv_X10_fewest w hw)) gov_X10_fewest rfl y1 y2 (by decide +kernel) ⟨Nat.le_trans (Nat.succ_le_succ y3) (by decide), Nat.le_trans (Nat.add_le_add_left y4 _) (by decide)⟩) 8 km rfl hkm rfl hl.1 (Nat.le_of_ble_eq_true rfl) dL_law_368 ⟨by decide, by decide⟩ rfl (fun H locs hW => ?_)
  exact lv_icmp_eq (tgt := 1211) S.1 S.2.1 dL_law_371 (by decide) (fun _ => kk x' y' _ _ hR' hW) (fun hc => absurd rfl hc)

theorem lo_shorter {p : Program} {l : Launch} {e : Env} {s : State} {m : MethodId} {below : List Frame} {meth : Method} {c : Code} {H : Heap} {locs : List Loc} {Q : State → Prop} {ls : Array Slot} {D : va_G} {A : Nat → Prop} {q5 : Nat → ClassId} {b L : Nat} {xs : Nat → Int32} {u : sp_XT} {w : Nat → Nat} {i : Nat} {x : sp_XS} {y : sp_MS} (C : sp_ctx p s m meth c D q5 A b L xs u) (hi : i + 6 ≤ L) (hR : sp_Rel x y) (hW : sp_wd D A s.heap (sp_XW q5 u x ++ sp_MW q5 w y) H locs) (hl : lv_has ls 4 [(3, .int (Int32.ofNat i)), (0, .ref b), (1, .ref (u.1 0)), (2, .ref (w 0))])
    (kk : ∀ (x' : sp_XS) (y' : sp_MS) (H : Heap) (locs : List Loc), sp_Rel x' y' → sp_wd D A s.heap (sp_XW q5 u x' ++ sp_MW q5 w y') H locs → W p l e room_1 s m #[Value.ref b] below meth c H locs 139 16093 Q (F0 m 1211 ls [])) : W p l e room_1 s m #[Value.ref b] below meth c H locs 139 16093 Q (F0 m 376 ls []) := by
  obtain ⟨r, x', y', hx, hy, hR'⟩ := op_shorter hR (xs (i + 1)) (xs (i + 2))
  obtain ⟨S, hK, hG, hA, hX, hbl, hbA, hu, hL⟩ := id C
  obtain ⟨rmx, x1, x2, x3, x4, hx⟩ := lx_shorter (l := l) (D := D) (q5 := q5) (u := u) hu (MM := sp_MW q5 w y) (xs (i + 1)) (xs (i + 2)) hx
  obtain ⟨rmy, y1, y2, y3, y4, hy⟩ := lm_shorter (l := l) (D := D) (q5 := q5) (w := w) (XX := sp_XW q5 u x') (xs (i + 1)) (xs (i + 2)) hy
  refine lv_aload_n S.1 S.2.1 dL_law_376 rfl (lv_at hl 2 rfl) ?_
  refine sp_arg C hW (lv_at hl 1 rfl) (lv_at hl 0 rfl) hi 1 (by decide) rfl dL_law_377 dL_law_378 dL_law_379 dL_law_380 dL_law_381 ?_
  refine sp_arg C hW (lv_at hl 1 rfl) (lv_at hl 0 rfl) hi 2 (by decide) rfl dL_law_382 dL_law_383 dL_law_384 dL_law_385 dL_law_386 ?_
  refine sp_callLi (rest := []) S hK hG hA hW hx (cwV 2 (fun w hw => S.2.2.2.2 w (inv_X9_shorter w hw)) gov_X9_shorter rfl x1 x2 (by decide +kernel) ⟨Nat.le_trans (Nat.succ_le_succ x3) (by decide), Nat.le_trans (Nat.add_le_add_left x4 _) (by decide)⟩) 7 0 rfl rfl rfl hl.1 (Nat.le_of_ble_eq_true rfl) dL_law_387 ⟨by decide, by decide⟩ rfl (fun H locs hW => ?_)
  refine lv_aload_n S.1 S.2.1 dL_law_390 rfl (lv_at hl 3 rfl) ?_
  refine sp_arg C hW (lv_at hl 1 rfl) (lv_at hl 0 rfl) hi 1 (by decide) rfl dL_law_391 dL_law_392 dL_law_393 dL_law_394 dL_law_395 ?_
  refine sp_arg C hW (lv_at hl 1 rfl) (lv_at hl 0 rfl) hi 2 (by decide) rfl dL_law_396 dL_law_397 dL_law_398 dL_law_399 dL_law_400 ?_
  obtain ⟨km, hkm⟩ := sp_in_app (w1 := sp_XW q5 u x') (w2 := sp_MW q5 w y) (q := (w 0, .inr (8, [.int y.1, .int y.2.1, .ref (w 1), .ref (w 2), .ref (w 3), .int y.2.2.2.2.2.1, .ref (w 4), .ref (w 5), .ref (w 6), .ref (w 7), .ref (w 8), .int y.2.2.2.2.2.2.2.2.2.2.2.1, .ref (w 9), .ref (w 10), .ref (w 11), .ref (w 12), .int y.2.2.2.2.2.2.2.2.2.2.2.2.2.2.2.2.1, .int y.2.2.2.2.2.2.2.2.2.2.2.2.2.2.2.2.2.1, .ref (w 13), .int y.2.2.2.2.2.2.2.2.2.2.2.2.2.2.2.2.2.2.2.1, .ref (w 14), .ref (w 15), .ref (w 16), .ref (w 17), .ref (w 18), .ref (w 19), .ref (w 20), .ref (w 21), .ref (w 22), .ref (w 23), .ref (w 24), .ref (w 25)]))) List.mem_cons_self
  refine sp_callLi (rest := [.int r]) S hK hG hA hW hy (cwV 2 (fun w hw => S.2.2.2.2 w (inv_X10_shorter w hw)) gov_X10_shorter rfl y1 y2 (by decide +kernel) ⟨Nat.le_trans (Nat.succ_le_succ y3) (by decide), Nat.le_trans (Nat.add_le_add_left y4 _) (by decide)⟩) 8 km rfl hkm rfl hl.1 (Nat.le_of_ble_eq_true rfl) dL_law_401 ⟨by decide, by decide⟩ rfl (fun H locs hW => ?_)
  exact lv_icmp_eq (tgt := 1211) S.1 S.2.1 dL_law_404 (by decide) (fun _ => kk x' y' _ _ hR' hW) (fun hc => absurd rfl hc)

theorem lo_safe {p : Program} {l : Launch} {e : Env} {s : State} {m : MethodId} {below : List Frame} {meth : Method} {c : Code} {H : Heap} {locs : List Loc} {Q : State → Prop} {ls : Array Slot} {D : va_G} {A : Nat → Prop} {q5 : Nat → ClassId} {b L : Nat} {xs : Nat → Int32} {u : sp_XT} {w : Nat → Nat} {i : Nat} {x : sp_XS} {y : sp_MS} (C : sp_ctx p s m meth c D q5 A b L xs u) (hi : i + 6 ≤ L) (hR : sp_Rel x y) (hW : sp_wd D A s.heap (sp_XW q5 u x ++ sp_MW q5 w y) H locs) (hl : lv_has ls 4 [(3, .int (Int32.ofNat i)), (0, .ref b), (1, .ref (u.1 0)), (2, .ref (w 0))])
    (kk : ∀ (x' : sp_XS) (y' : sp_MS) (H : Heap) (locs : List Loc), sp_Rel x' y' → sp_wd D A s.heap (sp_XW q5 u x' ++ sp_MW q5 w y') H locs → W p l e room_1 s m #[Value.ref b] below meth c H locs 139 16093 Q (F0 m 1211 ls [])) : W p l e room_1 s m #[Value.ref b] below meth c H locs 139 16093 Q (F0 m 409 ls []) := by
  obtain ⟨r, x', y', hx, hy, hR'⟩ := op_safe hR (xs (i + 1)) (xs (i + 2))
  obtain ⟨S, hK, hG, hA, hX, hbl, hbA, hu, hL⟩ := id C
  obtain ⟨rmx, x1, x2, x3, x4, hx⟩ := lx_safe (l := l) (D := D) (q5 := q5) (u := u) hu (MM := sp_MW q5 w y) (xs (i + 1)) (xs (i + 2)) hx
  obtain ⟨rmy, y1, y2, y3, y4, hy⟩ := lm_safe (l := l) (D := D) (q5 := q5) (w := w) (XX := sp_XW q5 u x') (xs (i + 1)) (xs (i + 2)) hy
  refine lv_aload_n S.1 S.2.1 dL_law_409 rfl (lv_at hl 2 rfl) ?_
  refine sp_arg C hW (lv_at hl 1 rfl) (lv_at hl 0 rfl) hi 1 (by decide) rfl dL_law_410 dL_law_411 dL_law_412 dL_law_413 dL_law_414 ?_
  refine sp_arg C hW (lv_at hl 1 rfl) (lv_at hl 0 rfl) hi 2 (by decide) rfl dL_law_415 dL_law_416 dL_law_417 dL_law_418 dL_law_419 ?_
  refine sp_callLi (rest := []) S hK hG hA hW hx (cwV 2 (fun w hw => S.2.2.2.2 w (inv_X9_safe w hw)) gov_X9_safe rfl x1 x2 (by decide +kernel) ⟨Nat.le_trans (Nat.succ_le_succ x3) (by decide), Nat.le_trans (Nat.add_le_add_left x4 _) (by decide)⟩) 7 0 rfl rfl rfl hl.1 (Nat.le_of_ble_eq_true rfl) dL_law_420 ⟨by decide, by decide⟩ rfl (fun H locs hW => ?_)
  refine lv_aload_n S.1 S.2.1 dL_law_423 rfl (lv_at hl 3 rfl) ?_
  refine sp_arg C hW (lv_at hl 1 rfl) (lv_at hl 0 rfl) hi 1 (by decide) rfl dL_law_424 dL_law_425 dL_law_426 dL_law_427 dL_law_428 ?_
  refine sp_arg C hW (lv_at hl 1 rfl) (lv_at hl 0 rfl) hi 2 (by decide) rfl dL_law_429 dL_law_430 dL_law_431 dL_law_432 dL_law_433 ?_
  obtain ⟨km, hkm⟩ := sp_in_app (w1 := sp_XW q5 u x') (w2 := sp_MW q5 w y) (q := (w 0, .inr (8, [.int y.1, .int y.2.1, .ref (w 1), .ref (w 2), .ref (w 3), .int y.2.2.2.2.2.1, .ref (w 4), .ref (w 5), .ref (w 6), .ref (w 7), .ref (w 8), .int y.2.2.2.2.2.2.2.2.2.2.2.1, .ref (w 9), .ref (w 10), .ref (w 11), .ref (w 12), .int y.2.2.2.2.2.2.2.2.2.2.2.2.2.2.2.2.1, .int y.2.2.2.2.2.2.2.2.2.2.2.2.2.2.2.2.2.1, .ref (w 13), .int y.2.2.2.2.2.2.2.2.2.2.2.2.2.2.2.2.2.2.2.1, .ref (w 14), .ref (w 15), .ref (w 16), .ref (w 17), .ref (w 18), .ref (w 19), .ref (w 20), .ref (w 21), .ref (w 22), .ref (w 23), .ref (w 24), .ref (w 25)]))) List.mem_cons_self
  refine sp_callLi (rest := [.int r]) S hK hG hA hW hy (cwV 2 (fun w hw => S.2.2.2.2 w (inv_X10_safe w hw)) gov_X10_safe rfl y1 y2 (by decide +kernel) ⟨Nat.le_trans (Nat.succ_le_succ y3) (by decide), Nat.le_trans (Nat.add_le_add_left y4 _) (by decide)⟩) 8 km rfl hkm rfl hl.1 (Nat.le_of_ble_eq_true rfl) dL_law_434 ⟨by decide, by decide⟩ rfl (fun H locs hW => ?_)
  exact lv_icmp_eq (tgt := 1211) S.1 S.2.1 dL_law_437 (by decide) (fun _ => kk x' y' _ _ hR' hW) (fun hc => absurd rfl hc)

theorem lo_twice {p : Program} {l : Launch} {e : Env} {s : State} {m : MethodId} {below : List Frame} {meth : Method} {c : Code} {H : Heap} {locs : List Loc} {Q : State → Prop} {ls : Array Slot} {D : va_G} {A : Nat → Prop} {q5 : Nat → ClassId} {b L : Nat} {xs : Nat → Int32} {u : sp_XT} {w : Nat → Nat} {i : Nat} {x : sp_XS} {y : sp_MS} (C : sp_ctx p s m meth c D q5 A b L xs u) (hi : i + 6 ≤ L) (hR : sp_Rel x y) (hW : sp_wd D A s.heap (sp_XW q5 u x ++ sp_MW q5 w y) H locs) (hl : lv_has ls 4 [(3, .int (Int32.ofNat i)), (0, .ref b), (1, .ref (u.1 0)), (2, .ref (w 0))])
    (kk : ∀ (x' : sp_XS) (y' : sp_MS) (H : Heap) (locs : List Loc), sp_Rel x' y' → sp_wd D A s.heap (sp_XW q5 u x' ++ sp_MW q5 w y') H locs → W p l e room_1 s m #[Value.ref b] below meth c H locs 139 16093 Q (F0 m 1211 ls [])) : W p l e room_1 s m #[Value.ref b] below meth c H locs 139 16093 Q (F0 m 442 ls []) := by
  obtain ⟨r, x', y', hx, hy, hR'⟩ := op_twice hR (xs (i + 1))
  obtain ⟨S, hK, hG, hA, hX, hbl, hbA, hu, hL⟩ := id C
  obtain ⟨rmx, x1, x2, x3, x4, hx⟩ := lx_twice (l := l) (D := D) (q5 := q5) (u := u) hu (MM := sp_MW q5 w y) (xs (i + 1)) hx
  obtain ⟨rmy, y1, y2, y3, y4, hy⟩ := lm_twice (l := l) (D := D) (q5 := q5) (w := w) (XX := sp_XW q5 u x') (xs (i + 1)) hy
  refine lv_aload_n S.1 S.2.1 dL_law_442 rfl (lv_at hl 2 rfl) ?_
  refine sp_arg C hW (lv_at hl 1 rfl) (lv_at hl 0 rfl) hi 1 (by decide) rfl dL_law_443 dL_law_444 dL_law_445 dL_law_446 dL_law_447 ?_
  refine sp_callLi (rest := []) S hK hG hA hW hx (cwV 1 (fun w hw => S.2.2.2.2 w (inv_X9_twice w hw)) gov_X9_twice rfl x1 x2 (by decide +kernel) ⟨Nat.le_trans (Nat.succ_le_succ x3) (by decide), Nat.le_trans (Nat.add_le_add_left x4 _) (by decide)⟩) 7 0 rfl rfl rfl hl.1 (Nat.le_of_ble_eq_true rfl) dL_law_448 ⟨by decide, by decide⟩ rfl (fun H locs hW => ?_)
  refine lv_aload_n S.1 S.2.1 dL_law_451 rfl (lv_at hl 3 rfl) ?_
  refine sp_arg C hW (lv_at hl 1 rfl) (lv_at hl 0 rfl) hi 1 (by decide) rfl dL_law_452 dL_law_453 dL_law_454 dL_law_455 dL_law_456 ?_
  obtain ⟨km, hkm⟩ := sp_in_app (w1 := sp_XW q5 u x') (w2 := sp_MW q5 w y) (q := (w 0, .inr (8, [.int y.1, .int y.2.1, .ref (w 1), .ref (w 2), .ref (w 3), .int y.2.2.2.2.2.1, .ref (w 4), .ref (w 5), .ref (w 6), .ref (w 7), .ref (w 8), .int y.2.2.2.2.2.2.2.2.2.2.2.1, .ref (w 9), .ref (w 10), .ref (w 11), .ref (w 12), .int y.2.2.2.2.2.2.2.2.2.2.2.2.2.2.2.2.1, .int y.2.2.2.2.2.2.2.2.2.2.2.2.2.2.2.2.2.1, .ref (w 13), .int y.2.2.2.2.2.2.2.2.2.2.2.2.2.2.2.2.2.2.2.1, .ref (w 14), .ref (w 15), .ref (w 16), .ref (w 17), .ref (w 18), .ref (w 19), .ref (w 20), .ref (w 21), .ref (w 22), .ref (w 23), .ref (w 24), .ref (w 25)]))) List.mem_cons_self
  refine sp_callLi (rest := [.int r]) S hK hG hA hW hy (cwV 1 (fun w hw => S.2.2.2.2 w (inv_X10_twice w hw)) gov_X10_twice rfl y1 y2 (by decide +kernel) ⟨Nat.le_trans (Nat.succ_le_succ y3) (by decide), Nat.le_trans (Nat.add_le_add_left y4 _) (by decide)⟩) 8 km rfl hkm rfl hl.1 (Nat.le_of_ble_eq_true rfl) dL_law_457 ⟨by decide, by decide⟩ rfl (fun H locs hW => ?_)
  exact lv_icmp_eq (tgt := 1211) S.1 S.2.1 dL_law_460 (by decide) (fun _ => kk x' y' _ _ hR' hW) (fun hc => absurd rfl hc)

theorem lo_heap {p : Program} {l : Launch} {e : Env} {s : State} {m : MethodId} {below : List Frame} {meth : Method} {c : Code} {H : Heap} {locs : List Loc} {Q : State → Prop} {ls : Array Slot} {D : va_G} {A : Nat → Prop} {q5 : Nat → ClassId} {b L : Nat} {xs : Nat → Int32} {u : sp_XT} {w : Nat → Nat} {i : Nat} {x : sp_XS} {y : sp_MS} (C : sp_ctx p s m meth c D q5 A b L xs u) (hi : i + 6 ≤ L) (hR : sp_Rel x y) (hW : sp_wd D A s.heap (sp_XW q5 u x ++ sp_MW q5 w y) H locs) (hl : lv_has ls 4 [(3, .int (Int32.ofNat i)), (0, .ref b), (1, .ref (u.1 0)), (2, .ref (w 0))])
    (kk : ∀ (x' : sp_XS) (y' : sp_MS) (H : Heap) (locs : List Loc), sp_Rel x' y' → sp_wd D A s.heap (sp_XW q5 u x' ++ sp_MW q5 w y') H locs → W p l e room_1 s m #[Value.ref b] below meth c H locs 139 16093 Q (F0 m 1211 ls [])) : W p l e room_1 s m #[Value.ref b] below meth c H locs 139 16093 Q (F0 m 465 ls []) := by
  obtain ⟨r, x', y', hx, hy, hR'⟩ := op_heap hR (xs (i + 1)) (xs (i + 2))
  obtain ⟨S, hK, hG, hA, hX, hbl, hbA, hu, hL⟩ := id C
  obtain ⟨rmx, x1, x2, x3, x4, hx⟩ := lx_heap (l := l) (D := D) (q5 := q5) (u := u) hu (MM := sp_MW q5 w y) (xs (i + 1)) (xs (i + 2)) hx
  obtain ⟨rmy, y1, y2, y3, y4, hy⟩ := lm_heap (l := l) (D := D) (q5 := q5) (w := w) (XX := sp_XW q5 u x') (xs (i + 1)) (xs (i + 2)) hy
  refine lv_aload_n S.1 S.2.1 dL_law_465 rfl (lv_at hl 2 rfl) ?_
  refine sp_arg C hW (lv_at hl 1 rfl) (lv_at hl 0 rfl) hi 1 (by decide) rfl dL_law_466 dL_law_467 dL_law_468 dL_law_469 dL_law_470 ?_
  refine sp_arg C hW (lv_at hl 1 rfl) (lv_at hl 0 rfl) hi 2 (by decide) rfl dL_law_471 dL_law_472 dL_law_473 dL_law_474 dL_law_475 ?_
  refine sp_callLi (rest := []) S hK hG hA hW hx (cwV 2 (fun w hw => S.2.2.2.2 w (inv_X9_heap w hw)) gov_X9_heap rfl x1 x2 (by decide +kernel) ⟨Nat.le_trans (Nat.succ_le_succ x3) (by decide), Nat.le_trans (Nat.add_le_add_left x4 _) (by decide)⟩) 7 0 rfl rfl rfl hl.1 (Nat.le_of_ble_eq_true rfl) dL_law_476 ⟨by decide, by decide⟩ rfl (fun H locs hW => ?_)
  refine lv_aload_n S.1 S.2.1 dL_law_479 rfl (lv_at hl 3 rfl) ?_
  refine sp_arg C hW (lv_at hl 1 rfl) (lv_at hl 0 rfl) hi 1 (by decide) rfl dL_law_480 dL_law_481 dL_law_482 dL_law_483 dL_law_484 ?_
  refine sp_arg C hW (lv_at hl 1 rfl) (lv_at hl 0 rfl) hi 2 (by decide) rfl dL_law_485 dL_law_486 dL_law_487 dL_law_488 dL_law_489 ?_
  obtain ⟨km, hkm⟩ := sp_in_app (w1 := sp_XW q5 u x') (w2 := sp_MW q5 w y) (q := (w 0, .inr (8, [.int y.1, .int y.2.1, .ref (w 1), .ref (w 2), .ref (w 3), .int y.2.2.2.2.2.1, .ref (w 4), .ref (w 5), .ref (w 6), .ref (w 7), .ref (w 8), .int y.2.2.2.2.2.2.2.2.2.2.2.1, .ref (w 9), .ref (w 10), .ref (w 11), .ref (w 12), .int y.2.2.2.2.2.2.2.2.2.2.2.2.2.2.2.2.1, .int y.2.2.2.2.2.2.2.2.2.2.2.2.2.2.2.2.2.1, .ref (w 13), .int y.2.2.2.2.2.2.2.2.2.2.2.2.2.2.2.2.2.2.2.1, .ref (w 14), .ref (w 15), .ref (w 16), .ref (w 17), .ref (w 18), .ref (w 19), .ref (w 20), .ref (w 21), .ref (w 22), .ref (w 23), .ref (w 24), .ref (w 25)]))) List.mem_cons_self
  refine sp_callLi (rest := [.int r]) S hK hG hA hW hy (cwV 2 (fun w hw => S.2.2.2.2 w (inv_X10_heap w hw)) gov_X10_heap rfl y1 y2 (by decide +kernel) ⟨Nat.le_trans (Nat.succ_le_succ y3) (by decide), Nat.le_trans (Nat.add_le_add_left y4 _) (by decide)⟩) 8 km rfl hkm rfl hl.1 (Nat.le_of_ble_eq_true rfl) dL_law_490 ⟨by decide, by decide⟩ rfl (fun H locs hW => ?_)
  exact lv_icmp_eq (tgt := 1211) S.1 S.2.1 dL_law_493 (by decide) (fun _ => kk x' y' _ _ hR' hW) (fun hc => absurd rfl hc)

theorem lo_shared {p : Program} {l : Launch} {e : Env} {s : State} {m : MethodId} {below : List Frame} {meth : Method} {c : Code} {H : Heap} {locs : List Loc} {Q : State → Prop} {ls : Array Slot} {D : va_G} {A : Nat → Prop} {q5 : Nat → ClassId} {b L : Nat} {xs : Nat → Int32} {u : sp_XT} {w : Nat → Nat} {i : Nat} {x : sp_XS} {y : sp_MS} (C : sp_ctx p s m meth c D q5 A b L xs u) (hi : i + 6 ≤ L) (hR : sp_Rel x y) (hW : sp_wd D A s.heap (sp_XW q5 u x ++ sp_MW q5 w y) H locs) (hl : lv_has ls 4 [(3, .int (Int32.ofNat i)), (0, .ref b), (1, .ref (u.1 0)), (2, .ref (w 0))])
    (kk : ∀ (x' : sp_XS) (y' : sp_MS) (H : Heap) (locs : List Loc), sp_Rel x' y' → sp_wd D A s.heap (sp_XW q5 u x' ++ sp_MW q5 w y') H locs → W p l e room_1 s m #[Value.ref b] below meth c H locs 139 16093 Q (F0 m 1211 ls [])) : W p l e room_1 s m #[Value.ref b] below meth c H locs 139 16093 Q (F0 m 498 ls []) := by
  obtain ⟨r, x', y', hx, hy, hR'⟩ := op_shared hR (xs (i + 1)) (xs (i + 2))
  obtain ⟨S, hK, hG, hA, hX, hbl, hbA, hu, hL⟩ := id C
  obtain ⟨rmx, x1, x2, x3, x4, hx⟩ := lx_shared (l := l) (D := D) (q5 := q5) (u := u) hu (MM := sp_MW q5 w y) (xs (i + 1)) (xs (i + 2)) hx
  obtain ⟨rmy, y1, y2, y3, y4, hy⟩ := lm_shared (l := l) (D := D) (q5 := q5) (w := w) (XX := sp_XW q5 u x') (xs (i + 1)) (xs (i + 2)) hy
  refine lv_aload_n S.1 S.2.1 dL_law_498 rfl (lv_at hl 2 rfl) ?_
  refine sp_arg C hW (lv_at hl 1 rfl) (lv_at hl 0 rfl) hi 1 (by decide) rfl dL_law_499 dL_law_500 dL_law_501 dL_law_502 dL_law_503 ?_
  refine sp_arg C hW (lv_at hl 1 rfl) (lv_at hl 0 rfl) hi 2 (by decide) rfl dL_law_504 dL_law_505 dL_law_506 dL_law_507 dL_law_508 ?_
  refine sp_callLi (rest := []) S hK hG hA hW hx (cwV 2 (fun w hw => S.2.2.2.2 w (inv_X9_shared w hw)) gov_X9_shared rfl x1 x2 (by decide +kernel) ⟨Nat.le_trans (Nat.succ_le_succ x3) (by decide), Nat.le_trans (Nat.add_le_add_left x4 _) (by decide)⟩) 7 0 rfl rfl rfl hl.1 (Nat.le_of_ble_eq_true rfl) dL_law_509 ⟨by decide, by decide⟩ rfl (fun H locs hW => ?_)
  refine lv_aload_n S.1 S.2.1 dL_law_512 rfl (lv_at hl 3 rfl) ?_
  refine sp_arg C hW (lv_at hl 1 rfl) (lv_at hl 0 rfl) hi 1 (by decide) rfl dL_law_513 dL_law_514 dL_law_515 dL_law_516 dL_law_517 ?_
  refine sp_arg C hW (lv_at hl 1 rfl) (lv_at hl 0 rfl) hi 2 (by decide) rfl dL_law_518 dL_law_519 dL_law_520 dL_law_521 dL_law_522 ?_
  obtain ⟨km, hkm⟩ := sp_in_app (w1 := sp_XW q5 u x') (w2 := sp_MW q5 w y) (q := (w 0, .inr (8, [.int y.1, .int y.2.1, .ref (w 1), .ref (w 2), .ref (w 3), .int y.2.2.2.2.2.1, .ref (w 4), .ref (w 5), .ref (w 6), .ref (w 7), .ref (w 8), .int y.2.2.2.2.2.2.2.2.2.2.2.1, .ref (w 9), .ref (w 10), .ref (w 11), .ref (w 12), .int y.2.2.2.2.2.2.2.2.2.2.2.2.2.2.2.2.1, .int y.2.2.2.2.2.2.2.2.2.2.2.2.2.2.2.2.2.1, .ref (w 13), .int y.2.2.2.2.2.2.2.2.2.2.2.2.2.2.2.2.2.2.2.1, .ref (w 14), .ref (w 15), .ref (w 16), .ref (w 17), .ref (w 18), .ref (w 19), .ref (w 20), .ref (w 21), .ref (w 22), .ref (w 23), .ref (w 24), .ref (w 25)]))) List.mem_cons_self
  refine sp_callLi (rest := [.int r]) S hK hG hA hW hy (cwV 2 (fun w hw => S.2.2.2.2 w (inv_X10_shared w hw)) gov_X10_shared rfl y1 y2 (by decide +kernel) ⟨Nat.le_trans (Nat.succ_le_succ y3) (by decide), Nat.le_trans (Nat.add_le_add_left y4 _) (by decide)⟩) 8 km rfl hkm rfl hl.1 (Nat.le_of_ble_eq_true rfl) dL_law_523 ⟨by decide, by decide⟩ rfl (fun H locs hW => ?_)
  exact lv_icmp_eq (tgt := 1211) S.1 S.2.1 dL_law_526 (by decide) (fun _ => kk x' y' _ _ hR' hW) (fun hc => absurd rfl hc)

theorem lo_core {p : Program} {l : Launch} {e : Env} {s : State} {m : MethodId} {below : List Frame} {meth : Method} {c : Code} {H : Heap} {locs : List Loc} {Q : State → Prop} {ls : Array Slot} {D : va_G} {A : Nat → Prop} {q5 : Nat → ClassId} {b L : Nat} {xs : Nat → Int32} {u : sp_XT} {w : Nat → Nat} {i : Nat} {x : sp_XS} {y : sp_MS} (C : sp_ctx p s m meth c D q5 A b L xs u) (hi : i + 6 ≤ L) (hR : sp_Rel x y) (hW : sp_wd D A s.heap (sp_XW q5 u x ++ sp_MW q5 w y) H locs) (hl : lv_has ls 4 [(3, .int (Int32.ofNat i)), (0, .ref b), (1, .ref (u.1 0)), (2, .ref (w 0))])
    (kk : ∀ (x' : sp_XS) (y' : sp_MS) (H : Heap) (locs : List Loc), sp_Rel x' y' → sp_wd D A s.heap (sp_XW q5 u x' ++ sp_MW q5 w y') H locs → W p l e room_1 s m #[Value.ref b] below meth c H locs 139 16093 Q (F0 m 1211 ls [])) : W p l e room_1 s m #[Value.ref b] below meth c H locs 139 16093 Q (F0 m 531 ls []) := by
  obtain ⟨r, x', y', hx, hy, hR'⟩ := op_core hR (xs (i + 1)) (xs (i + 2)) (xs (i + 3))
  obtain ⟨S, hK, hG, hA, hX, hbl, hbA, hu, hL⟩ := id C
  obtain ⟨rmx, x1, x2, x3, x4, hx⟩ := lx_core (l := l) (D := D) (q5 := q5) (u := u) hu (MM := sp_MW q5 w y) (xs (i + 1)) (xs (i + 2)) (xs (i + 3)) hx
  obtain ⟨rmy, y1, y2, y3, y4, hy⟩ := lm_core (l := l) (D := D) (q5 := q5) (w := w) (XX := sp_XW q5 u x') (xs (i + 1)) (xs (i + 2)) (xs (i + 3)) hy
  refine lv_aload_n S.1 S.2.1 dL_law_531 rfl (lv_at hl 2 rfl) ?_
  refine sp_arg C hW (lv_at hl 1 rfl) (lv_at hl 0 rfl) hi 1 (by decide) rfl dL_law_532 dL_law_533 dL_law_534 dL_law_535 dL_law_536 ?_
  refine sp_arg C hW (lv_at hl 1 rfl) (lv_at hl 0 rfl) hi 2 (by decide) rfl dL_law_537 dL_law_538 dL_law_539 dL_law_540 dL_law_541 ?_
  refine sp_arg C hW (lv_at hl 1 rfl) (lv_at hl 0 rfl) hi 3 (by decide) rfl dL_law_542 dL_law_543 dL_law_544 dL_law_545 dL_law_546 ?_
  refine sp_callLi (rest := []) S hK hG hA hW hx (cwV 3 (fun w hw => S.2.2.2.2 w (inv_X9_core w hw)) gov_X9_core rfl x1 x2 (by decide +kernel) ⟨Nat.le_trans (Nat.succ_le_succ x3) (by decide), Nat.le_trans (Nat.add_le_add_left x4 _) (by decide)⟩) 7 0 rfl rfl rfl hl.1 (Nat.le_of_ble_eq_true rfl) dL_law_547 ⟨by decide, by decide⟩ rfl (fun H locs hW => ?_)
  refine lv_aload_n S.1 S.2.1 dL_law_550 rfl (lv_at hl 3 rfl) ?_
  refine sp_arg C hW (lv_at hl 1 rfl) (lv_at hl 0 rfl) hi 1 (by decide) rfl dL_law_551 dL_law_552 dL_law_553 dL_law_554 dL_law_555 ?_
  refine sp_arg C hW (lv_at hl 1 rfl) (lv_at hl 0 rfl) hi 2 (by decide) rfl dL_law_556 dL_law_557 dL_law_558 dL_law_559 dL_law_560 ?_
  refine sp_arg C hW (lv_at hl 1 rfl) (lv_at hl 0 rfl) hi 3 (by decide) rfl dL_law_561 dL_law_562 dL_law_563 dL_law_564 dL_law_565 ?_
  obtain ⟨km, hkm⟩ := sp_in_app (w1 := sp_XW q5 u x') (w2 := sp_MW q5 w y) (q := (w 0, .inr (8, [.int y.1, .int y.2.1, .ref (w 1), .ref (w 2), .ref (w 3), .int y.2.2.2.2.2.1, .ref (w 4), .ref (w 5), .ref (w 6), .ref (w 7), .ref (w 8), .int y.2.2.2.2.2.2.2.2.2.2.2.1, .ref (w 9), .ref (w 10), .ref (w 11), .ref (w 12), .int y.2.2.2.2.2.2.2.2.2.2.2.2.2.2.2.2.1, .int y.2.2.2.2.2.2.2.2.2.2.2.2.2.2.2.2.2.1, .ref (w 13), .int y.2.2.2.2.2.2.2.2.2.2.2.2.2.2.2.2.2.2.2.1, .ref (w 14), .ref (w 15), .ref (w 16), .ref (w 17), .ref (w 18), .ref (w 19), .ref (w 20), .ref (w 21), .ref (w 22), .ref (w 23), .ref (w 24), .ref (w 25)]))) List.mem_cons_self
  refine sp_callLi (rest := [.int r]) S hK hG hA hW hy (cwV 3 (fun w hw => S.2.2.2.2 w (inv_X10_core w hw)) gov_X10_core rfl y1 y2 (by decide +kernel) ⟨Nat.le_trans (Nat.succ_le_succ y3) (by decide), Nat.le_trans (Nat.add_le_add_left y4 _) (by decide)⟩) 8 km rfl hkm rfl hl.1 (Nat.le_of_ble_eq_true rfl) dL_law_566 ⟨by decide, by decide⟩ rfl (fun H locs hW => ?_)
  exact lv_icmp_eq (tgt := 1211) S.1 S.2.1 dL_law_569 (by decide) (fun _ => kk x' y' _ _ hR' hW) (fun hc => absurd rfl hc)

theorem lo_middle {p : Program} {l : Launch} {e : Env} {s : State} {m : MethodId} {below : List Frame} {meth : Method} {c : Code} {H : Heap} {locs : List Loc} {Q : State → Prop} {ls : Array Slot} {D : va_G} {A : Nat → Prop} {q5 : Nat → ClassId} {b L : Nat} {xs : Nat → Int32} {u : sp_XT} {w : Nat → Nat} {i : Nat} {x : sp_XS} {y : sp_MS} (C : sp_ctx p s m meth c D q5 A b L xs u) (hi : i + 6 ≤ L) (hR : sp_Rel x y) (hW : sp_wd D A s.heap (sp_XW q5 u x ++ sp_MW q5 w y) H locs) (hl : lv_has ls 4 [(3, .int (Int32.ofNat i)), (0, .ref b), (1, .ref (u.1 0)), (2, .ref (w 0))])
    (kk : ∀ (x' : sp_XS) (y' : sp_MS) (H : Heap) (locs : List Loc), sp_Rel x' y' → sp_wd D A s.heap (sp_XW q5 u x' ++ sp_MW q5 w y') H locs → W p l e room_1 s m #[Value.ref b] below meth c H locs 139 16093 Q (F0 m 1211 ls [])) : W p l e room_1 s m #[Value.ref b] below meth c H locs 139 16093 Q (F0 m 574 ls []) := by
  obtain ⟨r, x', y', hx, hy, hR'⟩ := op_middle hR (xs (i + 1)) (xs (i + 2)) (xs (i + 3))
  obtain ⟨S, hK, hG, hA, hX, hbl, hbA, hu, hL⟩ := id C
  obtain ⟨rmx, x1, x2, x3, x4, hx⟩ := lx_middle (l := l) (D := D) (q5 := q5) (u := u) hu (MM := sp_MW q5 w y) (xs (i + 1)) (xs (i + 2)) (xs (i + 3)) hx
  obtain ⟨rmy, y1, y2, y3, y4, hy⟩ := lm_middle (l := l) (D := D) (q5 := q5) (w := w) (XX := sp_XW q5 u x') (xs (i + 1)) (xs (i + 2)) (xs (i + 3)) hy
  refine lv_aload_n S.1 S.2.1 dL_law_574 rfl (lv_at hl 2 rfl) ?_
  refine sp_arg C hW (lv_at hl 1 rfl) (lv_at hl 0 rfl) hi 1 (by decide) rfl dL_law_575 dL_law_576 dL_law_577 dL_law_578 dL_law_579 ?_
  refine sp_arg C hW (lv_at hl 1 rfl) (lv_at hl 0 rfl) hi 2 (by decide) rfl dL_law_580 dL_law_581 dL_law_582 dL_law_583 dL_law_584 ?_
  refine sp_arg C hW (lv_at hl 1 rfl) (lv_at hl 0 rfl) hi 3 (by decide) rfl dL_law_585 dL_law_586 dL_law_587 dL_law_588 dL_law_589 ?_
  refine sp_callLl (rest := []) S hK hG hA hW hx (cwV 3 (fun w hw => S.2.2.2.2 w (inv_X9_middle w hw)) gov_X9_middle rfl x1 x2 (by decide +kernel) ⟨Nat.le_trans (Nat.succ_le_succ x3) (by decide), Nat.le_trans (Nat.add_le_add_left x4 _) (by decide)⟩) 7 0 rfl rfl rfl hl.1 (Nat.le_of_ble_eq_true rfl) dL_law_590 ⟨by decide, by decide⟩ rfl (fun H locs hW => ?_)
  refine lv_aload_n S.1 S.2.1 dL_law_593 rfl (lv_at hl 3 rfl) ?_
  refine sp_arg C hW (lv_at hl 1 rfl) (lv_at hl 0 rfl) hi 1 (by decide) rfl dL_law_594 dL_law_595 dL_law_596 dL_law_597 dL_law_598 ?_
  refine sp_arg C hW (lv_at hl 1 rfl) (lv_at hl 0 rfl) hi 2 (by decide) rfl dL_law_599 dL_law_600 dL_law_601 dL_law_602 dL_law_603 ?_
  refine sp_arg C hW (lv_at hl 1 rfl) (lv_at hl 0 rfl) hi 3 (by decide) rfl dL_law_604 dL_law_605 dL_law_606 dL_law_607 dL_law_608 ?_
  obtain ⟨km, hkm⟩ := sp_in_app (w1 := sp_XW q5 u x') (w2 := sp_MW q5 w y) (q := (w 0, .inr (8, [.int y.1, .int y.2.1, .ref (w 1), .ref (w 2), .ref (w 3), .int y.2.2.2.2.2.1, .ref (w 4), .ref (w 5), .ref (w 6), .ref (w 7), .ref (w 8), .int y.2.2.2.2.2.2.2.2.2.2.2.1, .ref (w 9), .ref (w 10), .ref (w 11), .ref (w 12), .int y.2.2.2.2.2.2.2.2.2.2.2.2.2.2.2.2.1, .int y.2.2.2.2.2.2.2.2.2.2.2.2.2.2.2.2.2.1, .ref (w 13), .int y.2.2.2.2.2.2.2.2.2.2.2.2.2.2.2.2.2.2.2.1, .ref (w 14), .ref (w 15), .ref (w 16), .ref (w 17), .ref (w 18), .ref (w 19), .ref (w 20), .ref (w 21), .ref (w 22), .ref (w 23), .ref (w 24), .ref (w 25)]))) List.mem_cons_self
  refine sp_callLl (rest := [.long r]) S hK hG hA hW hy (cwV 3 (fun w hw => S.2.2.2.2 w (inv_X10_middle w hw)) gov_X10_middle rfl y1 y2 (by decide +kernel) ⟨Nat.le_trans (Nat.succ_le_succ y3) (by decide), Nat.le_trans (Nat.add_le_add_left y4 _) (by decide)⟩) 8 km rfl hkm rfl hl.1 (Nat.le_of_ble_eq_true rfl) dL_law_609 ⟨by decide, by decide⟩ rfl (fun H locs hW => ?_)
  refine W.lcmp S.1 S.2.1 dL_law_612 ?_
  exact lv_if_eq (tgt := 1211) S.1 S.2.1 dL_law_613 (by decide) (fun _ => kk x' y' _ _ hR' hW) (fun hc => absurd (sp_cmp_self r) hc)

theorem lo_truths {p : Program} {l : Launch} {e : Env} {s : State} {m : MethodId} {below : List Frame} {meth : Method} {c : Code} {H : Heap} {locs : List Loc} {Q : State → Prop} {ls : Array Slot} {D : va_G} {A : Nat → Prop} {q5 : Nat → ClassId} {b L : Nat} {xs : Nat → Int32} {u : sp_XT} {w : Nat → Nat} {i : Nat} {x : sp_XS} {y : sp_MS} (C : sp_ctx p s m meth c D q5 A b L xs u) (hi : i + 6 ≤ L) (hR : sp_Rel x y) (hW : sp_wd D A s.heap (sp_XW q5 u x ++ sp_MW q5 w y) H locs) (hl : lv_has ls 4 [(3, .int (Int32.ofNat i)), (0, .ref b), (1, .ref (u.1 0)), (2, .ref (w 0))])
    (kk : ∀ (x' : sp_XS) (y' : sp_MS) (H : Heap) (locs : List Loc), sp_Rel x' y' → sp_wd D A s.heap (sp_XW q5 u x' ++ sp_MW q5 w y') H locs → W p l e room_1 s m #[Value.ref b] below meth c H locs 139 16093 Q (F0 m 1211 ls [])) : W p l e room_1 s m #[Value.ref b] below meth c H locs 139 16093 Q (F0 m 618 ls []) := by
  obtain ⟨r, x', y', hx, hy, hR'⟩ := op_truths hR (xs (i + 1)) (xs (i + 2)) (xs (i + 3))
  obtain ⟨S, hK, hG, hA, hX, hbl, hbA, hu, hL⟩ := id C
  obtain ⟨rmx, x1, x2, x3, x4, hx⟩ := lx_truths (l := l) (D := D) (q5 := q5) (u := u) hu (MM := sp_MW q5 w y) (xs (i + 1)) (xs (i + 2)) (xs (i + 3)) hx
  obtain ⟨rmy, y1, y2, y3, y4, hy⟩ := lm_truths (l := l) (D := D) (q5 := q5) (w := w) (XX := sp_XW q5 u x') (xs (i + 1)) (xs (i + 2)) (xs (i + 3)) hy
  refine lv_aload_n S.1 S.2.1 dL_law_618 rfl (lv_at hl 2 rfl) ?_
  refine sp_arg C hW (lv_at hl 1 rfl) (lv_at hl 0 rfl) hi 1 (by decide) rfl dL_law_619 dL_law_620 dL_law_621 dL_law_622 dL_law_623 ?_
  refine sp_arg C hW (lv_at hl 1 rfl) (lv_at hl 0 rfl) hi 2 (by decide) rfl dL_law_624 dL_law_625 dL_law_626 dL_law_627 dL_law_628 ?_
  refine sp_arg C hW (lv_at hl 1 rfl) (lv_at hl 0 rfl) hi 3 (by decide) rfl dL_law_629 dL_law_630 dL_law_631 dL_law_632 dL_law_633 ?_
  refine sp_callLl (rest := []) S hK hG hA hW hx (cwV 3 (fun w hw => S.2.2.2.2 w (inv_X9_truths w hw)) gov_X9_truths rfl x1 x2 (by decide +kernel) ⟨Nat.le_trans (Nat.succ_le_succ x3) (by decide), Nat.le_trans (Nat.add_le_add_left x4 _) (by decide)⟩) 7 0 rfl rfl rfl hl.1 (Nat.le_of_ble_eq_true rfl) dL_law_634 ⟨by decide, by decide⟩ rfl (fun H locs hW => ?_)
  refine lv_aload_n S.1 S.2.1 dL_law_637 rfl (lv_at hl 3 rfl) ?_
  refine sp_arg C hW (lv_at hl 1 rfl) (lv_at hl 0 rfl) hi 1 (by decide) rfl dL_law_638 dL_law_639 dL_law_640 dL_law_641 dL_law_642 ?_
  refine sp_arg C hW (lv_at hl 1 rfl) (lv_at hl 0 rfl) hi 2 (by decide) rfl dL_law_643 dL_law_644 dL_law_645 dL_law_646 dL_law_647 ?_
  refine sp_arg C hW (lv_at hl 1 rfl) (lv_at hl 0 rfl) hi 3 (by decide) rfl dL_law_648 dL_law_649 dL_law_650 dL_law_651 dL_law_652 ?_
  obtain ⟨km, hkm⟩ := sp_in_app (w1 := sp_XW q5 u x') (w2 := sp_MW q5 w y) (q := (w 0, .inr (8, [.int y.1, .int y.2.1, .ref (w 1), .ref (w 2), .ref (w 3), .int y.2.2.2.2.2.1, .ref (w 4), .ref (w 5), .ref (w 6), .ref (w 7), .ref (w 8), .int y.2.2.2.2.2.2.2.2.2.2.2.1, .ref (w 9), .ref (w 10), .ref (w 11), .ref (w 12), .int y.2.2.2.2.2.2.2.2.2.2.2.2.2.2.2.2.1, .int y.2.2.2.2.2.2.2.2.2.2.2.2.2.2.2.2.2.1, .ref (w 13), .int y.2.2.2.2.2.2.2.2.2.2.2.2.2.2.2.2.2.2.2.1, .ref (w 14), .ref (w 15), .ref (w 16), .ref (w 17), .ref (w 18), .ref (w 19), .ref (w 20), .ref (w 21), .ref (w 22), .ref (w 23), .ref (w 24), .ref (w 25)]))) List.mem_cons_self
  refine sp_callLl (rest := [.long r]) S hK hG hA hW hy (cwV 3 (fun w hw => S.2.2.2.2 w (inv_X10_truths w hw)) gov_X10_truths rfl y1 y2 (by decide +kernel) ⟨Nat.le_trans (Nat.succ_le_succ y3) (by decide), Nat.le_trans (Nat.add_le_add_left y4 _) (by decide)⟩) 8 km rfl hkm rfl hl.1 (Nat.le_of_ble_eq_true rfl) dL_law_653 ⟨by decide, by decide⟩ rfl (fun H locs hW => ?_)
  refine W.lcmp S.1 S.2.1 dL_law_656 ?_
  exact lv_if_eq (tgt := 1211) S.1 S.2.1 dL_law_657 (by decide) (fun _ => kk x' y' _ _ hR' hW) (fun hc => absurd (sp_cmp_self r) hc)

theorem lo_cuts {p : Program} {l : Launch} {e : Env} {s : State} {m : MethodId} {below : List Frame} {meth : Method} {c : Code} {H : Heap} {locs : List Loc} {Q : State → Prop} {ls : Array Slot} {D : va_G} {A : Nat → Prop} {q5 : Nat → ClassId} {b L : Nat} {xs : Nat → Int32} {u : sp_XT} {w : Nat → Nat} {i : Nat} {x : sp_XS} {y : sp_MS} (C : sp_ctx p s m meth c D q5 A b L xs u) (hi : i + 6 ≤ L) (hR : sp_Rel x y) (hW : sp_wd D A s.heap (sp_XW q5 u x ++ sp_MW q5 w y) H locs) (hl : lv_has ls 4 [(3, .int (Int32.ofNat i)), (0, .ref b), (1, .ref (u.1 0)), (2, .ref (w 0))])
    (kk : ∀ (x' : sp_XS) (y' : sp_MS) (H : Heap) (locs : List Loc), sp_Rel x' y' → sp_wd D A s.heap (sp_XW q5 u x' ++ sp_MW q5 w y') H locs → W p l e room_1 s m #[Value.ref b] below meth c H locs 139 16093 Q (F0 m 1211 ls [])) : W p l e room_1 s m #[Value.ref b] below meth c H locs 139 16093 Q (F0 m 662 ls []) := by
  obtain ⟨r, x', y', hx, hy, hR'⟩ := op_cuts hR (xs (i + 1)) (xs (i + 2))
  obtain ⟨S, hK, hG, hA, hX, hbl, hbA, hu, hL⟩ := id C
  obtain ⟨rmx, x1, x2, x3, x4, hx⟩ := lx_cuts (l := l) (D := D) (q5 := q5) (u := u) hu (MM := sp_MW q5 w y) (xs (i + 1)) (xs (i + 2)) hx
  obtain ⟨rmy, y1, y2, y3, y4, hy⟩ := lm_cuts (l := l) (D := D) (q5 := q5) (w := w) (XX := sp_XW q5 u x') (xs (i + 1)) (xs (i + 2)) hy
  refine lv_aload_n S.1 S.2.1 dL_law_662 rfl (lv_at hl 2 rfl) ?_
  refine sp_arg C hW (lv_at hl 1 rfl) (lv_at hl 0 rfl) hi 1 (by decide) rfl dL_law_663 dL_law_664 dL_law_665 dL_law_666 dL_law_667 ?_
  refine sp_arg C hW (lv_at hl 1 rfl) (lv_at hl 0 rfl) hi 2 (by decide) rfl dL_law_668 dL_law_669 dL_law_670 dL_law_671 dL_law_672 ?_
  refine sp_callLi (rest := []) S hK hG hA hW hx (cwV 2 (fun w hw => S.2.2.2.2 w (inv_X9_cuts w hw)) gov_X9_cuts rfl x1 x2 (by decide +kernel) ⟨Nat.le_trans (Nat.succ_le_succ x3) (by decide), Nat.le_trans (Nat.add_le_add_left x4 _) (by decide)⟩) 7 0 rfl rfl rfl hl.1 (Nat.le_of_ble_eq_true rfl) dL_law_673 ⟨by decide, by decide⟩ rfl (fun H locs hW => ?_)
  refine lv_aload_n S.1 S.2.1 dL_law_676 rfl (lv_at hl 3 rfl) ?_
  refine sp_arg C hW (lv_at hl 1 rfl) (lv_at hl 0 rfl) hi 1 (by decide) rfl dL_law_677 dL_law_678 dL_law_679 dL_law_680 dL_law_681 ?_
  refine sp_arg C hW (lv_at hl 1 rfl) (lv_at hl 0 rfl) hi 2 (by decide) rfl dL_law_682 dL_law_683 dL_law_684 dL_law_685 dL_law_686 ?_
  obtain ⟨km, hkm⟩ := sp_in_app (w1 := sp_XW q5 u x') (w2 := sp_MW q5 w y) (q := (w 0, .inr (8, [.int y.1, .int y.2.1, .ref (w 1), .ref (w 2), .ref (w 3), .int y.2.2.2.2.2.1, .ref (w 4), .ref (w 5), .ref (w 6), .ref (w 7), .ref (w 8), .int y.2.2.2.2.2.2.2.2.2.2.2.1, .ref (w 9), .ref (w 10), .ref (w 11), .ref (w 12), .int y.2.2.2.2.2.2.2.2.2.2.2.2.2.2.2.2.1, .int y.2.2.2.2.2.2.2.2.2.2.2.2.2.2.2.2.2.1, .ref (w 13), .int y.2.2.2.2.2.2.2.2.2.2.2.2.2.2.2.2.2.2.2.1, .ref (w 14), .ref (w 15), .ref (w 16), .ref (w 17), .ref (w 18), .ref (w 19), .ref (w 20), .ref (w 21), .ref (w 22), .ref (w 23), .ref (w 24), .ref (w 25)]))) List.mem_cons_self
  refine sp_callLi (rest := [.int r]) S hK hG hA hW hy (cwV 2 (fun w hw => S.2.2.2.2 w (inv_X10_cuts w hw)) gov_X10_cuts rfl y1 y2 (by decide +kernel) ⟨Nat.le_trans (Nat.succ_le_succ y3) (by decide), Nat.le_trans (Nat.add_le_add_left y4 _) (by decide)⟩) 8 km rfl hkm rfl hl.1 (Nat.le_of_ble_eq_true rfl) dL_law_687 ⟨by decide, by decide⟩ rfl (fun H locs hW => ?_)
  exact lv_icmp_eq (tgt := 1211) S.1 S.2.1 dL_law_690 (by decide) (fun _ => kk x' y' _ _ hR' hW) (fun hc => absurd rfl hc)

theorem lo_units {p : Program} {l : Launch} {e : Env} {s : State} {m : MethodId} {below : List Frame} {meth : Method} {c : Code} {H : Heap} {locs : List Loc} {Q : State → Prop} {ls : Array Slot} {D : va_G} {A : Nat → Prop} {q5 : Nat → ClassId} {b L : Nat} {xs : Nat → Int32} {u : sp_XT} {w : Nat → Nat} {i : Nat} {x : sp_XS} {y : sp_MS} (C : sp_ctx p s m meth c D q5 A b L xs u) (hi : i + 6 ≤ L) (hR : sp_Rel x y) (hW : sp_wd D A s.heap (sp_XW q5 u x ++ sp_MW q5 w y) H locs) (hl : lv_has ls 4 [(3, .int (Int32.ofNat i)), (0, .ref b), (1, .ref (u.1 0)), (2, .ref (w 0))])
    (kk : ∀ (x' : sp_XS) (y' : sp_MS) (H : Heap) (locs : List Loc), sp_Rel x' y' → sp_wd D A s.heap (sp_XW q5 u x' ++ sp_MW q5 w y') H locs → W p l e room_1 s m #[Value.ref b] below meth c H locs 139 16093 Q (F0 m 1211 ls [])) : W p l e room_1 s m #[Value.ref b] below meth c H locs 139 16093 Q (F0 m 695 ls []) := by
  obtain ⟨r, x', y', hx, hy, hR'⟩ := op_units hR (xs (i + 1)) (xs (i + 2))
  obtain ⟨S, hK, hG, hA, hX, hbl, hbA, hu, hL⟩ := id C
  obtain ⟨rmx, x1, x2, x3, x4, hx⟩ := lx_units (l := l) (D := D) (q5 := q5) (u := u) hu (MM := sp_MW q5 w y) (xs (i + 1)) (xs (i + 2)) hx
  obtain ⟨rmy, y1, y2, y3, y4, hy⟩ := lm_units (l := l) (D := D) (q5 := q5) (w := w) (XX := sp_XW q5 u x') (xs (i + 1)) (xs (i + 2)) hy
  refine lv_aload_n S.1 S.2.1 dL_law_695 rfl (lv_at hl 2 rfl) ?_
  refine sp_arg C hW (lv_at hl 1 rfl) (lv_at hl 0 rfl) hi 1 (by decide) rfl dL_law_696 dL_law_697 dL_law_698 dL_law_699 dL_law_700 ?_
  refine sp_arg C hW (lv_at hl 1 rfl) (lv_at hl 0 rfl) hi 2 (by decide) rfl dL_law_701 dL_law_702 dL_law_703 dL_law_704 dL_law_705 ?_
  refine sp_callLi (rest := []) S hK hG hA hW hx (cwV 2 (fun w hw => S.2.2.2.2 w (inv_X9_units w hw)) gov_X9_units rfl x1 x2 (by decide +kernel) ⟨Nat.le_trans (Nat.succ_le_succ x3) (by decide), Nat.le_trans (Nat.add_le_add_left x4 _) (by decide)⟩) 7 0 rfl rfl rfl hl.1 (Nat.le_of_ble_eq_true rfl) dL_law_706 ⟨by decide, by decide⟩ rfl (fun H locs hW => ?_)
  refine lv_aload_n S.1 S.2.1 dL_law_709 rfl (lv_at hl 3 rfl) ?_
  refine sp_arg C hW (lv_at hl 1 rfl) (lv_at hl 0 rfl) hi 1 (by decide) rfl dL_law_710 dL_law_711 dL_law_712 dL_law_713 dL_law_714 ?_
  refine sp_arg C hW (lv_at hl 1 rfl) (lv_at hl 0 rfl) hi 2 (by decide) rfl dL_law_715 dL_law_716 dL_law_717 dL_law_718 dL_law_719 ?_
  obtain ⟨km, hkm⟩ := sp_in_app (w1 := sp_XW q5 u x') (w2 := sp_MW q5 w y) (q := (w 0, .inr (8, [.int y.1, .int y.2.1, .ref (w 1), .ref (w 2), .ref (w 3), .int y.2.2.2.2.2.1, .ref (w 4), .ref (w 5), .ref (w 6), .ref (w 7), .ref (w 8), .int y.2.2.2.2.2.2.2.2.2.2.2.1, .ref (w 9), .ref (w 10), .ref (w 11), .ref (w 12), .int y.2.2.2.2.2.2.2.2.2.2.2.2.2.2.2.2.1, .int y.2.2.2.2.2.2.2.2.2.2.2.2.2.2.2.2.2.1, .ref (w 13), .int y.2.2.2.2.2.2.2.2.2.2.2.2.2.2.2.2.2.2.2.1, .ref (w 14), .ref (w 15), .ref (w 16), .ref (w 17), .ref (w 18), .ref (w 19), .ref (w 20), .ref (w 21), .ref (w 22), .ref (w 23), .ref (w 24), .ref (w 25)]))) List.mem_cons_self
  refine sp_callLi (rest := [.int r]) S hK hG hA hW hy (cwV 2 (fun w hw => S.2.2.2.2 w (inv_X10_units w hw)) gov_X10_units rfl y1 y2 (by decide +kernel) ⟨Nat.le_trans (Nat.succ_le_succ y3) (by decide), Nat.le_trans (Nat.add_le_add_left y4 _) (by decide)⟩) 8 km rfl hkm rfl hl.1 (Nat.le_of_ble_eq_true rfl) dL_law_720 ⟨by decide, by decide⟩ rfl (fun H locs hW => ?_)
  exact lv_icmp_eq (tgt := 1211) S.1 S.2.1 dL_law_723 (by decide) (fun _ => kk x' y' _ _ hR' hW) (fun hc => absurd rfl hc)

theorem lo_follows {p : Program} {l : Launch} {e : Env} {s : State} {m : MethodId} {below : List Frame} {meth : Method} {c : Code} {H : Heap} {locs : List Loc} {Q : State → Prop} {ls : Array Slot} {D : va_G} {A : Nat → Prop} {q5 : Nat → ClassId} {b L : Nat} {xs : Nat → Int32} {u : sp_XT} {w : Nat → Nat} {i : Nat} {x : sp_XS} {y : sp_MS} (C : sp_ctx p s m meth c D q5 A b L xs u) (hi : i + 6 ≤ L) (hR : sp_Rel x y) (hW : sp_wd D A s.heap (sp_XW q5 u x ++ sp_MW q5 w y) H locs) (hl : lv_has ls 4 [(3, .int (Int32.ofNat i)), (0, .ref b), (1, .ref (u.1 0)), (2, .ref (w 0))])
    (kk : ∀ (x' : sp_XS) (y' : sp_MS) (H : Heap) (locs : List Loc), sp_Rel x' y' → sp_wd D A s.heap (sp_XW q5 u x' ++ sp_MW q5 w y') H locs → W p l e room_1 s m #[Value.ref b] below meth c H locs 139 16093 Q (F0 m 1211 ls [])) : W p l e room_1 s m #[Value.ref b] below meth c H locs 139 16093 Q (F0 m 728 ls []) := by
  obtain ⟨r, x', y', hx, hy, hR'⟩ := op_follows hR (xs (i + 1)) (xs (i + 2))
  obtain ⟨S, hK, hG, hA, hX, hbl, hbA, hu, hL⟩ := id C
  obtain ⟨rmx, x1, x2, x3, x4, hx⟩ := lx_follows (l := l) (D := D) (q5 := q5) (u := u) hu (MM := sp_MW q5 w y) (xs (i + 1)) (xs (i + 2)) hx
  obtain ⟨rmy, y1, y2, y3, y4, hy⟩ := lm_follows (l := l) (D := D) (q5 := q5) (w := w) (XX := sp_XW q5 u x') (xs (i + 1)) (xs (i + 2)) hy
  refine lv_aload_n S.1 S.2.1 dL_law_728 rfl (lv_at hl 2 rfl) ?_
  refine sp_arg C hW (lv_at hl 1 rfl) (lv_at hl 0 rfl) hi 1 (by decide) rfl dL_law_729 dL_law_730 dL_law_731 dL_law_732 dL_law_733 ?_
  refine sp_arg C hW (lv_at hl 1 rfl) (lv_at hl 0 rfl) hi 2 (by decide) rfl dL_law_734 dL_law_735 dL_law_736 dL_law_737 dL_law_738 ?_
  refine sp_callLi (rest := []) S hK hG hA hW hx (cwV 2 (fun w hw => S.2.2.2.2 w (inv_X9_follows w hw)) gov_X9_follows rfl x1 x2 (by decide +kernel) ⟨Nat.le_trans (Nat.succ_le_succ x3) (by decide), Nat.le_trans (Nat.add_le_add_left x4 _) (by decide)⟩) 7 0 rfl rfl rfl hl.1 (Nat.le_of_ble_eq_true rfl) dL_law_739 ⟨by decide, by decide⟩ rfl (fun H locs hW => ?_)
  refine lv_aload_n S.1 S.2.1 dL_law_742 rfl (lv_at hl 3 rfl) ?_
  refine sp_arg C hW (lv_at hl 1 rfl) (lv_at hl 0 rfl) hi 1 (by decide) rfl dL_law_743 dL_law_744 dL_law_745 dL_law_746 dL_law_747 ?_
  refine sp_arg C hW (lv_at hl 1 rfl) (lv_at hl 0 rfl) hi 2 (by decide) rfl dL_law_748 dL_law_749 dL_law_750 dL_law_751 dL_law_752 ?_
  obtain ⟨km, hkm⟩ := sp_in_app (w1 := sp_XW q5 u x') (w2 := sp_MW q5 w y) (q := (w 0, .inr (8, [.int y.1, .int y.2.1, .ref (w 1), .ref (w 2), .ref (w 3), .int y.2.2.2.2.2.1, .ref (w 4), .ref (w 5), .ref (w 6), .ref (w 7), .ref (w 8), .int y.2.2.2.2.2.2.2.2.2.2.2.1, .ref (w 9), .ref (w 10), .ref (w 11), .ref (w 12), .int y.2.2.2.2.2.2.2.2.2.2.2.2.2.2.2.2.1, .int y.2.2.2.2.2.2.2.2.2.2.2.2.2.2.2.2.2.1, .ref (w 13), .int y.2.2.2.2.2.2.2.2.2.2.2.2.2.2.2.2.2.2.2.1, .ref (w 14), .ref (w 15), .ref (w 16), .ref (w 17), .ref (w 18), .ref (w 19), .ref (w 20), .ref (w 21), .ref (w 22), .ref (w 23), .ref (w 24), .ref (w 25)]))) List.mem_cons_self
  refine sp_callLi (rest := [.int r]) S hK hG hA hW hy (cwV 2 (fun w hw => S.2.2.2.2 w (inv_X10_follows w hw)) gov_X10_follows rfl y1 y2 (by decide +kernel) ⟨Nat.le_trans (Nat.succ_le_succ y3) (by decide), Nat.le_trans (Nat.add_le_add_left y4 _) (by decide)⟩) 8 km rfl hkm rfl hl.1 (Nat.le_of_ble_eq_true rfl) dL_law_753 ⟨by decide, by decide⟩ rfl (fun H locs hW => ?_)
  exact lv_icmp_eq (tgt := 1211) S.1 S.2.1 dL_law_756 (by decide) (fun _ => kk x' y' _ _ hR' hW) (fun hc => absurd rfl hc)

theorem lo_cut {p : Program} {l : Launch} {e : Env} {s : State} {m : MethodId} {below : List Frame} {meth : Method} {c : Code} {H : Heap} {locs : List Loc} {Q : State → Prop} {ls : Array Slot} {D : va_G} {A : Nat → Prop} {q5 : Nat → ClassId} {b L : Nat} {xs : Nat → Int32} {u : sp_XT} {w : Nat → Nat} {i : Nat} {x : sp_XS} {y : sp_MS} (C : sp_ctx p s m meth c D q5 A b L xs u) (hi : i + 6 ≤ L) (hR : sp_Rel x y) (hW : sp_wd D A s.heap (sp_XW q5 u x ++ sp_MW q5 w y) H locs) (hl : lv_has ls 4 [(3, .int (Int32.ofNat i)), (0, .ref b), (1, .ref (u.1 0)), (2, .ref (w 0))])
    (kk : ∀ (x' : sp_XS) (y' : sp_MS) (H : Heap) (locs : List Loc), sp_Rel x' y' → sp_wd D A s.heap (sp_XW q5 u x' ++ sp_MW q5 w y') H locs → W p l e room_1 s m #[Value.ref b] below meth c H locs 139 16093 Q (F0 m 1211 ls [])) : W p l e room_1 s m #[Value.ref b] below meth c H locs 139 16093 Q (F0 m 761 ls []) := by
  obtain ⟨r, x', y', hx, hy, hR'⟩ := op_cut hR (xs (i + 1)) (xs (i + 2)) (xs (i + 3))
  obtain ⟨S, hK, hG, hA, hX, hbl, hbA, hu, hL⟩ := id C
  obtain ⟨rmx, x1, x2, x3, x4, hx⟩ := lx_cut (l := l) (D := D) (q5 := q5) (u := u) hu (MM := sp_MW q5 w y) (xs (i + 1)) (xs (i + 2)) (xs (i + 3)) hx
  obtain ⟨rmy, y1, y2, y3, y4, hy⟩ := lm_cut (l := l) (D := D) (q5 := q5) (w := w) (XX := sp_XW q5 u x') (xs (i + 1)) (xs (i + 2)) (xs (i + 3)) hy
  refine lv_aload_n S.1 S.2.1 dL_law_761 rfl (lv_at hl 2 rfl) ?_
  refine sp_arg C hW (lv_at hl 1 rfl) (lv_at hl 0 rfl) hi 1 (by decide) rfl dL_law_762 dL_law_763 dL_law_764 dL_law_765 dL_law_766 ?_
  refine sp_arg C hW (lv_at hl 1 rfl) (lv_at hl 0 rfl) hi 2 (by decide) rfl dL_law_767 dL_law_768 dL_law_769 dL_law_770 dL_law_771 ?_
  refine sp_arg C hW (lv_at hl 1 rfl) (lv_at hl 0 rfl) hi 3 (by decide) rfl dL_law_772 dL_law_773 dL_law_774 dL_law_775 dL_law_776 ?_
  refine sp_callLi (rest := []) S hK hG hA hW hx (cwV 3 (fun w hw => S.2.2.2.2 w (inv_X9_cut w hw)) gov_X9_cut rfl x1 x2 (by decide +kernel) ⟨Nat.le_trans (Nat.succ_le_succ x3) (by decide), Nat.le_trans (Nat.add_le_add_left x4 _) (by decide)⟩) 7 0 rfl rfl rfl hl.1 (Nat.le_of_ble_eq_true rfl) dL_law_777 ⟨by decide, by decide⟩ rfl (fun H locs hW => ?_)
  refine lv_aload_n S.1 S.2.1 dL_law_780 rfl (lv_at hl 3 rfl) ?_
  refine sp_arg C hW (lv_at hl 1 rfl) (lv_at hl 0 rfl) hi 1 (by decide) rfl dL_law_781 dL_law_782 dL_law_783 dL_law_784 dL_law_785 ?_
  refine sp_arg C hW (lv_at hl 1 rfl) (lv_at hl 0 rfl) hi 2 (by decide) rfl dL_law_786 dL_law_787 dL_law_788 dL_law_789 dL_law_790 ?_
  refine sp_arg C hW (lv_at hl 1 rfl) (lv_at hl 0 rfl) hi 3 (by decide) rfl dL_law_791 dL_law_792 dL_law_793 dL_law_794 dL_law_795 ?_
  obtain ⟨km, hkm⟩ := sp_in_app (w1 := sp_XW q5 u x') (w2 := sp_MW q5 w y) (q := (w 0, .inr (8, [.int y.1, .int y.2.1, .ref (w 1), .ref (w 2), .ref (w 3), .int y.2.2.2.2.2.1, .ref (w 4), .ref (w 5), .ref (w 6), .ref (w 7), .ref (w 8), .int y.2.2.2.2.2.2.2.2.2.2.2.1, .ref (w 9), .ref (w 10), .ref (w 11), .ref (w 12), .int y.2.2.2.2.2.2.2.2.2.2.2.2.2.2.2.2.1, .int y.2.2.2.2.2.2.2.2.2.2.2.2.2.2.2.2.2.1, .ref (w 13), .int y.2.2.2.2.2.2.2.2.2.2.2.2.2.2.2.2.2.2.2.1, .ref (w 14), .ref (w 15), .ref (w 16), .ref (w 17), .ref (w 18), .ref (w 19), .ref (w 20), .ref (w 21), .ref (w 22), .ref (w 23), .ref (w 24), .ref (w 25)]))) List.mem_cons_self
  refine sp_callLi (rest := [.int r]) S hK hG hA hW hy (cwV 3 (fun w hw => S.2.2.2.2 w (inv_X10_cut w hw)) gov_X10_cut rfl y1 y2 (by decide +kernel) ⟨Nat.le_trans (Nat.succ_le_succ y3) (by decide), Nat.le_trans (Nat.add_le_add_left y4 _) (by decide)⟩) 8 km rfl hkm rfl hl.1 (Nat.le_of_ble_eq_true rfl) dL_law_796 ⟨by decide, by decide⟩ rfl (fun H locs hW => ?_)
  exact lv_icmp_eq (tgt := 1211) S.1 S.2.1 dL_law_799 (by decide) (fun _ => kk x' y' _ _ hR' hW) (fun hc => absurd rfl hc)

theorem lo_stronger {p : Program} {l : Launch} {e : Env} {s : State} {m : MethodId} {below : List Frame} {meth : Method} {c : Code} {H : Heap} {locs : List Loc} {Q : State → Prop} {ls : Array Slot} {D : va_G} {A : Nat → Prop} {q5 : Nat → ClassId} {b L : Nat} {xs : Nat → Int32} {u : sp_XT} {w : Nat → Nat} {i : Nat} {x : sp_XS} {y : sp_MS} (C : sp_ctx p s m meth c D q5 A b L xs u) (hi : i + 6 ≤ L) (hR : sp_Rel x y) (hW : sp_wd D A s.heap (sp_XW q5 u x ++ sp_MW q5 w y) H locs) (hl : lv_has ls 4 [(3, .int (Int32.ofNat i)), (0, .ref b), (1, .ref (u.1 0)), (2, .ref (w 0))])
    (kk : ∀ (x' : sp_XS) (y' : sp_MS) (H : Heap) (locs : List Loc), sp_Rel x' y' → sp_wd D A s.heap (sp_XW q5 u x' ++ sp_MW q5 w y') H locs → W p l e room_1 s m #[Value.ref b] below meth c H locs 139 16093 Q (F0 m 1211 ls [])) : W p l e room_1 s m #[Value.ref b] below meth c H locs 139 16093 Q (F0 m 804 ls []) := by
  obtain ⟨r, x', y', hx, hy, hR'⟩ := op_stronger hR (xs (i + 1)) (xs (i + 2))
  obtain ⟨S, hK, hG, hA, hX, hbl, hbA, hu, hL⟩ := id C
  obtain ⟨rmx, x1, x2, x3, x4, hx⟩ := lx_stronger (l := l) (D := D) (q5 := q5) (u := u) hu (MM := sp_MW q5 w y) (xs (i + 1)) (xs (i + 2)) hx
  obtain ⟨rmy, y1, y2, y3, y4, hy⟩ := lm_stronger (l := l) (D := D) (q5 := q5) (w := w) (XX := sp_XW q5 u x') (xs (i + 1)) (xs (i + 2)) hy
  refine lv_aload_n S.1 S.2.1 dL_law_804 rfl (lv_at hl 2 rfl) ?_
  refine sp_arg C hW (lv_at hl 1 rfl) (lv_at hl 0 rfl) hi 1 (by decide) rfl dL_law_805 dL_law_806 dL_law_807 dL_law_808 dL_law_809 ?_
  refine sp_arg C hW (lv_at hl 1 rfl) (lv_at hl 0 rfl) hi 2 (by decide) rfl dL_law_810 dL_law_811 dL_law_812 dL_law_813 dL_law_814 ?_
  refine sp_callLi (rest := []) S hK hG hA hW hx (cwV 2 (fun w hw => S.2.2.2.2 w (inv_X9_stronger w hw)) gov_X9_stronger rfl x1 x2 (by decide +kernel) ⟨Nat.le_trans (Nat.succ_le_succ x3) (by decide), Nat.le_trans (Nat.add_le_add_left x4 _) (by decide)⟩) 7 0 rfl rfl rfl hl.1 (Nat.le_of_ble_eq_true rfl) dL_law_815 ⟨by decide, by decide⟩ rfl (fun H locs hW => ?_)
  refine lv_aload_n S.1 S.2.1 dL_law_818 rfl (lv_at hl 3 rfl) ?_
  refine sp_arg C hW (lv_at hl 1 rfl) (lv_at hl 0 rfl) hi 1 (by decide) rfl dL_law_819 dL_law_820 dL_law_821 dL_law_822 dL_law_823 ?_
  refine sp_arg C hW (lv_at hl 1 rfl) (lv_at hl 0 rfl) hi 2 (by decide) rfl dL_law_824 dL_law_825 dL_law_826 dL_law_827 dL_law_828 ?_
  obtain ⟨km, hkm⟩ := sp_in_app (w1 := sp_XW q5 u x') (w2 := sp_MW q5 w y) (q := (w 0, .inr (8, [.int y.1, .int y.2.1, .ref (w 1), .ref (w 2), .ref (w 3), .int y.2.2.2.2.2.1, .ref (w 4), .ref (w 5), .ref (w 6), .ref (w 7), .ref (w 8), .int y.2.2.2.2.2.2.2.2.2.2.2.1, .ref (w 9), .ref (w 10), .ref (w 11), .ref (w 12), .int y.2.2.2.2.2.2.2.2.2.2.2.2.2.2.2.2.1, .int y.2.2.2.2.2.2.2.2.2.2.2.2.2.2.2.2.2.1, .ref (w 13), .int y.2.2.2.2.2.2.2.2.2.2.2.2.2.2.2.2.2.2.2.1, .ref (w 14), .ref (w 15), .ref (w 16), .ref (w 17), .ref (w 18), .ref (w 19), .ref (w 20), .ref (w 21), .ref (w 22), .ref (w 23), .ref (w 24), .ref (w 25)]))) List.mem_cons_self
  refine sp_callLi (rest := [.int r]) S hK hG hA hW hy (cwV 2 (fun w hw => S.2.2.2.2 w (inv_X10_stronger w hw)) gov_X10_stronger rfl y1 y2 (by decide +kernel) ⟨Nat.le_trans (Nat.succ_le_succ y3) (by decide), Nat.le_trans (Nat.add_le_add_left y4 _) (by decide)⟩) 8 km rfl hkm rfl hl.1 (Nat.le_of_ble_eq_true rfl) dL_law_829 ⟨by decide, by decide⟩ rfl (fun H locs hW => ?_)
  exact lv_icmp_eq (tgt := 1211) S.1 S.2.1 dL_law_832 (by decide) (fun _ => kk x' y' _ _ hR' hW) (fun hc => absurd rfl hc)

theorem lo_sheet {p : Program} {l : Launch} {e : Env} {s : State} {m : MethodId} {below : List Frame} {meth : Method} {c : Code} {H : Heap} {locs : List Loc} {Q : State → Prop} {ls : Array Slot} {D : va_G} {A : Nat → Prop} {q5 : Nat → ClassId} {b L : Nat} {xs : Nat → Int32} {u : sp_XT} {w : Nat → Nat} {i : Nat} {x : sp_XS} {y : sp_MS} (C : sp_ctx p s m meth c D q5 A b L xs u) (hi : i + 6 ≤ L) (hR : sp_Rel x y) (hW : sp_wd D A s.heap (sp_XW q5 u x ++ sp_MW q5 w y) H locs) (hl : lv_has ls 4 [(3, .int (Int32.ofNat i)), (0, .ref b), (1, .ref (u.1 0)), (2, .ref (w 0))])
    (kk : ∀ (x' : sp_XS) (y' : sp_MS) (H : Heap) (locs : List Loc), sp_Rel x' y' → sp_wd D A s.heap (sp_XW q5 u x' ++ sp_MW q5 w y') H locs → W p l e room_1 s m #[Value.ref b] below meth c H locs 139 16093 Q (F0 m 1211 ls [])) : W p l e room_1 s m #[Value.ref b] below meth c H locs 139 16093 Q (F0 m 837 ls []) := by
  obtain ⟨r, x', y', hx, hy, hR'⟩ := op_sheet hR (xs (i + 1)) (xs (i + 2)) (xs (i + 3))
  obtain ⟨S, hK, hG, hA, hX, hbl, hbA, hu, hL⟩ := id C
  obtain ⟨rmx, x1, x2, x3, x4, hx⟩ := lx_sheet (l := l) (D := D) (q5 := q5) (u := u) hu (MM := sp_MW q5 w y) (xs (i + 1)) (xs (i + 2)) (xs (i + 3)) hx
  obtain ⟨rmy, y1, y2, y3, y4, hy⟩ := lm_sheet (l := l) (D := D) (q5 := q5) (w := w) (XX := sp_XW q5 u x') (xs (i + 1)) (xs (i + 2)) (xs (i + 3)) hy
  refine lv_aload_n S.1 S.2.1 dL_law_837 rfl (lv_at hl 2 rfl) ?_
  refine sp_arg C hW (lv_at hl 1 rfl) (lv_at hl 0 rfl) hi 1 (by decide) rfl dL_law_838 dL_law_839 dL_law_840 dL_law_841 dL_law_842 ?_
  refine sp_arg C hW (lv_at hl 1 rfl) (lv_at hl 0 rfl) hi 2 (by decide) rfl dL_law_843 dL_law_844 dL_law_845 dL_law_846 dL_law_847 ?_
  refine sp_arg C hW (lv_at hl 1 rfl) (lv_at hl 0 rfl) hi 3 (by decide) rfl dL_law_848 dL_law_849 dL_law_850 dL_law_851 dL_law_852 ?_
  refine sp_callLi (rest := []) S hK hG hA hW hx (cwV 3 (fun w hw => S.2.2.2.2 w (inv_X9_sheet w hw)) gov_X9_sheet rfl x1 x2 (by decide +kernel) ⟨Nat.le_trans (Nat.succ_le_succ x3) (by decide), Nat.le_trans (Nat.add_le_add_left x4 _) (by decide)⟩) 7 0 rfl rfl rfl hl.1 (Nat.le_of_ble_eq_true rfl) dL_law_853 ⟨by decide, by decide⟩ rfl (fun H locs hW => ?_)
  refine lv_aload_n S.1 S.2.1 dL_law_856 rfl (lv_at hl 3 rfl) ?_
  refine sp_arg C hW (lv_at hl 1 rfl) (lv_at hl 0 rfl) hi 1 (by decide) rfl dL_law_857 dL_law_858 dL_law_859 dL_law_860 dL_law_861 ?_
  refine sp_arg C hW (lv_at hl 1 rfl) (lv_at hl 0 rfl) hi 2 (by decide) rfl dL_law_862 dL_law_863 dL_law_864 dL_law_865 dL_law_866 ?_
  refine sp_arg C hW (lv_at hl 1 rfl) (lv_at hl 0 rfl) hi 3 (by decide) rfl dL_law_867 dL_law_868 dL_law_869 dL_law_870 dL_law_871 ?_
  obtain ⟨km, hkm⟩ := sp_in_app (w1 := sp_XW q5 u x') (w2 := sp_MW q5 w y) (q := (w 0, .inr (8, [.int y.1, .int y.2.1, .ref (w 1), .ref (w 2), .ref (w 3), .int y.2.2.2.2.2.1, .ref (w 4), .ref (w 5), .ref (w 6), .ref (w 7), .ref (w 8), .int y.2.2.2.2.2.2.2.2.2.2.2.1, .ref (w 9), .ref (w 10), .ref (w 11), .ref (w 12), .int y.2.2.2.2.2.2.2.2.2.2.2.2.2.2.2.2.1, .int y.2.2.2.2.2.2.2.2.2.2.2.2.2.2.2.2.2.1, .ref (w 13), .int y.2.2.2.2.2.2.2.2.2.2.2.2.2.2.2.2.2.2.2.1, .ref (w 14), .ref (w 15), .ref (w 16), .ref (w 17), .ref (w 18), .ref (w 19), .ref (w 20), .ref (w 21), .ref (w 22), .ref (w 23), .ref (w 24), .ref (w 25)]))) List.mem_cons_self
  refine sp_callLi (rest := [.int r]) S hK hG hA hW hy (cwV 3 (fun w hw => S.2.2.2.2 w (inv_X10_sheet w hw)) gov_X10_sheet rfl y1 y2 (by decide +kernel) ⟨Nat.le_trans (Nat.succ_le_succ y3) (by decide), Nat.le_trans (Nat.add_le_add_left y4 _) (by decide)⟩) 8 km rfl hkm rfl hl.1 (Nat.le_of_ble_eq_true rfl) dL_law_872 ⟨by decide, by decide⟩ rfl (fun H locs hW => ?_)
  exact lv_icmp_eq (tgt := 1211) S.1 S.2.1 dL_law_875 (by decide) (fun _ => kk x' y' _ _ hR' hW) (fun hc => absurd rfl hc)

theorem lo_lose {p : Program} {l : Launch} {e : Env} {s : State} {m : MethodId} {below : List Frame} {meth : Method} {c : Code} {H : Heap} {locs : List Loc} {Q : State → Prop} {ls : Array Slot} {D : va_G} {A : Nat → Prop} {q5 : Nat → ClassId} {b L : Nat} {xs : Nat → Int32} {u : sp_XT} {w : Nat → Nat} {i : Nat} {x : sp_XS} {y : sp_MS} (C : sp_ctx p s m meth c D q5 A b L xs u) (hi : i + 6 ≤ L) (hR : sp_Rel x y) (hW : sp_wd D A s.heap (sp_XW q5 u x ++ sp_MW q5 w y) H locs) (hl : lv_has ls 4 [(3, .int (Int32.ofNat i)), (0, .ref b), (1, .ref (u.1 0)), (2, .ref (w 0))])
    (kk : ∀ (x' : sp_XS) (y' : sp_MS) (H : Heap) (locs : List Loc), sp_Rel x' y' → sp_wd D A s.heap (sp_XW q5 u x' ++ sp_MW q5 w y') H locs → W p l e room_1 s m #[Value.ref b] below meth c H locs 139 16093 Q (F0 m 1211 ls [])) : W p l e room_1 s m #[Value.ref b] below meth c H locs 139 16093 Q (F0 m 880 ls []) := by
  obtain ⟨r, x', y', hx, hy, hR'⟩ := op_lose hR (xs (i + 1))
  obtain ⟨S, hK, hG, hA, hX, hbl, hbA, hu, hL⟩ := id C
  obtain ⟨rmx, x1, x2, x3, x4, hx⟩ := lx_lose (l := l) (D := D) (q5 := q5) (u := u) hu (MM := sp_MW q5 w y) (xs (i + 1)) hx
  obtain ⟨rmy, y1, y2, y3, y4, hy⟩ := lm_lose (l := l) (D := D) (q5 := q5) (w := w) (XX := sp_XW q5 u x') (xs (i + 1)) hy
  refine lv_aload_n S.1 S.2.1 dL_law_880 rfl (lv_at hl 2 rfl) ?_
  refine sp_arg C hW (lv_at hl 1 rfl) (lv_at hl 0 rfl) hi 1 (by decide) rfl dL_law_881 dL_law_882 dL_law_883 dL_law_884 dL_law_885 ?_
  refine sp_callLi (rest := []) S hK hG hA hW hx (cwV 1 (fun w hw => S.2.2.2.2 w (inv_X9_lose w hw)) gov_X9_lose rfl x1 x2 (by decide +kernel) ⟨Nat.le_trans (Nat.succ_le_succ x3) (by decide), Nat.le_trans (Nat.add_le_add_left x4 _) (by decide)⟩) 7 0 rfl rfl rfl hl.1 (Nat.le_of_ble_eq_true rfl) dL_law_886 ⟨by decide, by decide⟩ rfl (fun H locs hW => ?_)
  refine lv_aload_n S.1 S.2.1 dL_law_889 rfl (lv_at hl 3 rfl) ?_
  refine sp_arg C hW (lv_at hl 1 rfl) (lv_at hl 0 rfl) hi 1 (by decide) rfl dL_law_890 dL_law_891 dL_law_892 dL_law_893 dL_law_894 ?_
  obtain ⟨km, hkm⟩ := sp_in_app (w1 := sp_XW q5 u x') (w2 := sp_MW q5 w y) (q := (w 0, .inr (8, [.int y.1, .int y.2.1, .ref (w 1), .ref (w 2), .ref (w 3), .int y.2.2.2.2.2.1, .ref (w 4), .ref (w 5), .ref (w 6), .ref (w 7), .ref (w 8), .int y.2.2.2.2.2.2.2.2.2.2.2.1, .ref (w 9), .ref (w 10), .ref (w 11), .ref (w 12), .int y.2.2.2.2.2.2.2.2.2.2.2.2.2.2.2.2.1, .int y.2.2.2.2.2.2.2.2.2.2.2.2.2.2.2.2.2.1, .ref (w 13), .int y.2.2.2.2.2.2.2.2.2.2.2.2.2.2.2.2.2.2.2.1, .ref (w 14), .ref (w 15), .ref (w 16), .ref (w 17), .ref (w 18), .ref (w 19), .ref (w 20), .ref (w 21), .ref (w 22), .ref (w 23), .ref (w 24), .ref (w 25)]))) List.mem_cons_self
  refine sp_callLi (rest := [.int r]) S hK hG hA hW hy (cwV 1 (fun w hw => S.2.2.2.2 w (inv_X10_lose w hw)) gov_X10_lose rfl y1 y2 (by decide +kernel) ⟨Nat.le_trans (Nat.succ_le_succ y3) (by decide), Nat.le_trans (Nat.add_le_add_left y4 _) (by decide)⟩) 8 km rfl hkm rfl hl.1 (Nat.le_of_ble_eq_true rfl) dL_law_895 ⟨by decide, by decide⟩ rfl (fun H locs hW => ?_)
  exact lv_icmp_eq (tgt := 1211) S.1 S.2.1 dL_law_898 (by decide) (fun _ => kk x' y' _ _ hR' hW) (fun hc => absurd rfl hc)

theorem lo_put {p : Program} {l : Launch} {e : Env} {s : State} {m : MethodId} {below : List Frame} {meth : Method} {c : Code} {H : Heap} {locs : List Loc} {Q : State → Prop} {ls : Array Slot} {D : va_G} {A : Nat → Prop} {q5 : Nat → ClassId} {b L : Nat} {xs : Nat → Int32} {u : sp_XT} {w : Nat → Nat} {i : Nat} {x : sp_XS} {y : sp_MS} (C : sp_ctx p s m meth c D q5 A b L xs u) (hi : i + 6 ≤ L) (hR : sp_Rel x y) (hW : sp_wd D A s.heap (sp_XW q5 u x ++ sp_MW q5 w y) H locs) (hl : lv_has ls 4 [(3, .int (Int32.ofNat i)), (0, .ref b), (1, .ref (u.1 0)), (2, .ref (w 0))])
    (kk : ∀ (x' : sp_XS) (y' : sp_MS) (H : Heap) (locs : List Loc), sp_Rel x' y' → sp_wd D A s.heap (sp_XW q5 u x' ++ sp_MW q5 w y') H locs → W p l e room_1 s m #[Value.ref b] below meth c H locs 139 16093 Q (F0 m 1211 ls [])) : W p l e room_1 s m #[Value.ref b] below meth c H locs 139 16093 Q (F0 m 903 ls []) := by
  obtain ⟨r, x', y', hx, hy, hR'⟩ := op_put hR (xs (i + 1)) (xs (i + 2)) (xs (i + 3))
  obtain ⟨S, hK, hG, hA, hX, hbl, hbA, hu, hL⟩ := id C
  obtain ⟨rmx, x1, x2, x3, x4, hx⟩ := lx_put (l := l) (D := D) (q5 := q5) (u := u) hu (MM := sp_MW q5 w y) (xs (i + 1)) (xs (i + 2)) (xs (i + 3)) hx
  obtain ⟨rmy, y1, y2, y3, y4, hy⟩ := lm_put (l := l) (D := D) (q5 := q5) (w := w) (XX := sp_XW q5 u x') (xs (i + 1)) (xs (i + 2)) (xs (i + 3)) hy
  refine lv_aload_n S.1 S.2.1 dL_law_903 rfl (lv_at hl 2 rfl) ?_
  refine sp_arg C hW (lv_at hl 1 rfl) (lv_at hl 0 rfl) hi 1 (by decide) rfl dL_law_904 dL_law_905 dL_law_906 dL_law_907 dL_law_908 ?_
  refine sp_arg C hW (lv_at hl 1 rfl) (lv_at hl 0 rfl) hi 2 (by decide) rfl dL_law_909 dL_law_910 dL_law_911 dL_law_912 dL_law_913 ?_
  refine sp_arg C hW (lv_at hl 1 rfl) (lv_at hl 0 rfl) hi 3 (by decide) rfl dL_law_914 dL_law_915 dL_law_916 dL_law_917 dL_law_918 ?_
  refine sp_callLi (rest := []) S hK hG hA hW hx (cwV 3 (fun w hw => S.2.2.2.2 w (inv_X9_put w hw)) gov_X9_put rfl x1 x2 (by decide +kernel) ⟨Nat.le_trans (Nat.succ_le_succ x3) (by decide), Nat.le_trans (Nat.add_le_add_left x4 _) (by decide)⟩) 7 0 rfl rfl rfl hl.1 (Nat.le_of_ble_eq_true rfl) dL_law_919 ⟨by decide, by decide⟩ rfl (fun H locs hW => ?_)
  refine lv_aload_n S.1 S.2.1 dL_law_922 rfl (lv_at hl 3 rfl) ?_
  refine sp_arg C hW (lv_at hl 1 rfl) (lv_at hl 0 rfl) hi 1 (by decide) rfl dL_law_923 dL_law_924 dL_law_925 dL_law_926 dL_law_927 ?_
  refine sp_arg C hW (lv_at hl 1 rfl) (lv_at hl 0 rfl) hi 2 (by decide) rfl dL_law_928 dL_law_929 dL_law_930 dL_law_931 dL_law_932 ?_
  refine sp_arg C hW (lv_at hl 1 rfl) (lv_at hl 0 rfl) hi 3 (by decide) rfl dL_law_933 dL_law_934 dL_law_935 dL_law_936 dL_law_937 ?_
  obtain ⟨km, hkm⟩ := sp_in_app (w1 := sp_XW q5 u x') (w2 := sp_MW q5 w y) (q := (w 0, .inr (8, [.int y.1, .int y.2.1, .ref (w 1), .ref (w 2), .ref (w 3), .int y.2.2.2.2.2.1, .ref (w 4), .ref (w 5), .ref (w 6), .ref (w 7), .ref (w 8), .int y.2.2.2.2.2.2.2.2.2.2.2.1, .ref (w 9), .ref (w 10), .ref (w 11), .ref (w 12), .int y.2.2.2.2.2.2.2.2.2.2.2.2.2.2.2.2.1, .int y.2.2.2.2.2.2.2.2.2.2.2.2.2.2.2.2.2.1, .ref (w 13), .int y.2.2.2.2.2.2.2.2.2.2.2.2.2.2.2.2.2.2.2.1, .ref (w 14), .ref (w 15), .ref (w 16), .ref (w 17), .ref (w 18), .ref (w 19), .ref (w 20), .ref (w 21), .ref (w 22), .ref (w 23), .ref (w 24), .ref (w 25)]))) List.mem_cons_self
  refine sp_callLi (rest := [.int r]) S hK hG hA hW hy (cwV 3 (fun w hw => S.2.2.2.2 w (inv_X10_put w hw)) gov_X10_put rfl y1 y2 (by decide +kernel) ⟨Nat.le_trans (Nat.succ_le_succ y3) (by decide), Nat.le_trans (Nat.add_le_add_left y4 _) (by decide)⟩) 8 km rfl hkm rfl hl.1 (Nat.le_of_ble_eq_true rfl) dL_law_938 ⟨by decide, by decide⟩ rfl (fun H locs hW => ?_)
  exact lv_icmp_eq (tgt := 1211) S.1 S.2.1 dL_law_941 (by decide) (fun _ => kk x' y' _ _ hR' hW) (fun hc => absurd rfl hc)

theorem lo_cell {p : Program} {l : Launch} {e : Env} {s : State} {m : MethodId} {below : List Frame} {meth : Method} {c : Code} {H : Heap} {locs : List Loc} {Q : State → Prop} {ls : Array Slot} {D : va_G} {A : Nat → Prop} {q5 : Nat → ClassId} {b L : Nat} {xs : Nat → Int32} {u : sp_XT} {w : Nat → Nat} {i : Nat} {x : sp_XS} {y : sp_MS} (C : sp_ctx p s m meth c D q5 A b L xs u) (hi : i + 6 ≤ L) (hR : sp_Rel x y) (hW : sp_wd D A s.heap (sp_XW q5 u x ++ sp_MW q5 w y) H locs) (hl : lv_has ls 4 [(3, .int (Int32.ofNat i)), (0, .ref b), (1, .ref (u.1 0)), (2, .ref (w 0))])
    (kk : ∀ (x' : sp_XS) (y' : sp_MS) (H : Heap) (locs : List Loc), sp_Rel x' y' → sp_wd D A s.heap (sp_XW q5 u x' ++ sp_MW q5 w y') H locs → W p l e room_1 s m #[Value.ref b] below meth c H locs 139 16093 Q (F0 m 1211 ls [])) : W p l e room_1 s m #[Value.ref b] below meth c H locs 139 16093 Q (F0 m 946 ls []) := by
  obtain ⟨r, x', y', hx, hy, hR'⟩ := op_cell hR (xs (i + 1)) (xs (i + 2)) (xs (i + 3))
  obtain ⟨S, hK, hG, hA, hX, hbl, hbA, hu, hL⟩ := id C
  obtain ⟨rmx, x1, x2, x3, x4, hx⟩ := lx_cell (l := l) (D := D) (q5 := q5) (u := u) hu (MM := sp_MW q5 w y) (xs (i + 1)) (xs (i + 2)) (xs (i + 3)) hx
  obtain ⟨rmy, y1, y2, y3, y4, hy⟩ := lm_cell (l := l) (D := D) (q5 := q5) (w := w) (XX := sp_XW q5 u x') (xs (i + 1)) (xs (i + 2)) (xs (i + 3)) hy
  refine lv_aload_n S.1 S.2.1 dL_law_946 rfl (lv_at hl 2 rfl) ?_
  refine sp_arg C hW (lv_at hl 1 rfl) (lv_at hl 0 rfl) hi 1 (by decide) rfl dL_law_947 dL_law_948 dL_law_949 dL_law_950 dL_law_951 ?_
  refine sp_arg C hW (lv_at hl 1 rfl) (lv_at hl 0 rfl) hi 2 (by decide) rfl dL_law_952 dL_law_953 dL_law_954 dL_law_955 dL_law_956 ?_
  refine sp_arg C hW (lv_at hl 1 rfl) (lv_at hl 0 rfl) hi 3 (by decide) rfl dL_law_957 dL_law_958 dL_law_959 dL_law_960 dL_law_961 ?_
  refine sp_callLl (rest := []) S hK hG hA hW hx (cwV 3 (fun w hw => S.2.2.2.2 w (inv_X9_cell w hw)) gov_X9_cell rfl x1 x2 (by decide +kernel) ⟨Nat.le_trans (Nat.succ_le_succ x3) (by decide), Nat.le_trans (Nat.add_le_add_left x4 _) (by decide)⟩) 7 0 rfl rfl rfl hl.1 (Nat.le_of_ble_eq_true rfl) dL_law_962 ⟨by decide, by decide⟩ rfl (fun H locs hW => ?_)
  refine lv_aload_n S.1 S.2.1 dL_law_965 rfl (lv_at hl 3 rfl) ?_
  refine sp_arg C hW (lv_at hl 1 rfl) (lv_at hl 0 rfl) hi 1 (by decide) rfl dL_law_966 dL_law_967 dL_law_968 dL_law_969 dL_law_970 ?_
  refine sp_arg C hW (lv_at hl 1 rfl) (lv_at hl 0 rfl) hi 2 (by decide) rfl dL_law_971 dL_law_972 dL_law_973 dL_law_974 dL_law_975 ?_
  refine sp_arg C hW (lv_at hl 1 rfl) (lv_at hl 0 rfl) hi 3 (by decide) rfl dL_law_976 dL_law_977 dL_law_978 dL_law_979 dL_law_980 ?_
  obtain ⟨km, hkm⟩ := sp_in_app (w1 := sp_XW q5 u x') (w2 := sp_MW q5 w y) (q := (w 0, .inr (8, [.int y.1, .int y.2.1, .ref (w 1), .ref (w 2), .ref (w 3), .int y.2.2.2.2.2.1, .ref (w 4), .ref (w 5), .ref (w 6), .ref (w 7), .ref (w 8), .int y.2.2.2.2.2.2.2.2.2.2.2.1, .ref (w 9), .ref (w 10), .ref (w 11), .ref (w 12), .int y.2.2.2.2.2.2.2.2.2.2.2.2.2.2.2.2.1, .int y.2.2.2.2.2.2.2.2.2.2.2.2.2.2.2.2.2.1, .ref (w 13), .int y.2.2.2.2.2.2.2.2.2.2.2.2.2.2.2.2.2.2.2.1, .ref (w 14), .ref (w 15), .ref (w 16), .ref (w 17), .ref (w 18), .ref (w 19), .ref (w 20), .ref (w 21), .ref (w 22), .ref (w 23), .ref (w 24), .ref (w 25)]))) List.mem_cons_self
  refine sp_callLl (rest := [.long r]) S hK hG hA hW hy (cwV 3 (fun w hw => S.2.2.2.2 w (inv_X10_cell w hw)) gov_X10_cell rfl y1 y2 (by decide +kernel) ⟨Nat.le_trans (Nat.succ_le_succ y3) (by decide), Nat.le_trans (Nat.add_le_add_left y4 _) (by decide)⟩) 8 km rfl hkm rfl hl.1 (Nat.le_of_ble_eq_true rfl) dL_law_981 ⟨by decide, by decide⟩ rfl (fun H locs hW => ?_)
  refine W.lcmp S.1 S.2.1 dL_law_984 ?_
  exact lv_if_eq (tgt := 1211) S.1 S.2.1 dL_law_985 (by decide) (fun _ => kk x' y' _ _ hR' hW) (fun hc => absurd (sp_cmp_self r) hc)

theorem lo_copy {p : Program} {l : Launch} {e : Env} {s : State} {m : MethodId} {below : List Frame} {meth : Method} {c : Code} {H : Heap} {locs : List Loc} {Q : State → Prop} {ls : Array Slot} {D : va_G} {A : Nat → Prop} {q5 : Nat → ClassId} {b L : Nat} {xs : Nat → Int32} {u : sp_XT} {w : Nat → Nat} {i : Nat} {x : sp_XS} {y : sp_MS} (C : sp_ctx p s m meth c D q5 A b L xs u) (hi : i + 6 ≤ L) (hR : sp_Rel x y) (hW : sp_wd D A s.heap (sp_XW q5 u x ++ sp_MW q5 w y) H locs) (hl : lv_has ls 4 [(3, .int (Int32.ofNat i)), (0, .ref b), (1, .ref (u.1 0)), (2, .ref (w 0))])
    (kk : ∀ (x' : sp_XS) (y' : sp_MS) (H : Heap) (locs : List Loc), sp_Rel x' y' → sp_wd D A s.heap (sp_XW q5 u x' ++ sp_MW q5 w y') H locs → W p l e room_1 s m #[Value.ref b] below meth c H locs 139 16093 Q (F0 m 1211 ls [])) : W p l e room_1 s m #[Value.ref b] below meth c H locs 139 16093 Q (F0 m 990 ls []) := by
  obtain ⟨r, x', y', hx, hy, hR'⟩ := op_copy hR (xs (i + 1)) (xs (i + 2)) (xs (i + 3)) (xs (i + 4)) (xs (i + 5))
  obtain ⟨S, hK, hG, hA, hX, hbl, hbA, hu, hL⟩ := id C
  obtain ⟨rmx, x1, x2, x3, x4, hx⟩ := lx_copy (l := l) (D := D) (q5 := q5) (u := u) hu (MM := sp_MW q5 w y) (xs (i + 1)) (xs (i + 2)) (xs (i + 3)) (xs (i + 4)) (xs (i + 5)) hx
  obtain ⟨rmy, y1, y2, y3, y4, hy⟩ := lm_copy (l := l) (D := D) (q5 := q5) (w := w) (XX := sp_XW q5 u x') (xs (i + 1)) (xs (i + 2)) (xs (i + 3)) (xs (i + 4)) (xs (i + 5)) hy
  refine lv_aload_n S.1 S.2.1 dL_law_990 rfl (lv_at hl 2 rfl) ?_
  refine sp_arg C hW (lv_at hl 1 rfl) (lv_at hl 0 rfl) hi 1 (by decide) rfl dL_law_991 dL_law_992 dL_law_993 dL_law_994 dL_law_995 ?_
  refine sp_arg C hW (lv_at hl 1 rfl) (lv_at hl 0 rfl) hi 2 (by decide) rfl dL_law_996 dL_law_997 dL_law_998 dL_law_999 dL_law_1000 ?_
  refine sp_arg C hW (lv_at hl 1 rfl) (lv_at hl 0 rfl) hi 3 (by decide) rfl dL_law_1001 dL_law_1002 dL_law_1003 dL_law_1004 dL_law_1005 ?_
  refine sp_arg C hW (lv_at hl 1 rfl) (lv_at hl 0 rfl) hi 4 (by decide) rfl dL_law_1006 dL_law_1007 dL_law_1008 dL_law_1009 dL_law_1010 ?_
  refine sp_arg C hW (lv_at hl 1 rfl) (lv_at hl 0 rfl) hi 5 (by decide) rfl dL_law_1011 dL_law_1012 dL_law_1013 dL_law_1014 dL_law_1015 ?_
  refine sp_callLi (rest := []) S hK hG hA hW hx (cwV 5 (fun w hw => S.2.2.2.2 w (inv_X9_copy w hw)) gov_X9_copy rfl x1 x2 (by decide +kernel) ⟨Nat.le_trans (Nat.succ_le_succ x3) (by decide), Nat.le_trans (Nat.add_le_add_left x4 _) (by decide)⟩) 7 0 rfl rfl rfl hl.1 (Nat.le_of_ble_eq_true rfl) dL_law_1016 ⟨by decide, by decide⟩ rfl (fun H locs hW => ?_)
  refine lv_aload_n S.1 S.2.1 dL_law_1019 rfl (lv_at hl 3 rfl) ?_
  refine sp_arg C hW (lv_at hl 1 rfl) (lv_at hl 0 rfl) hi 1 (by decide) rfl dL_law_1020 dL_law_1021 dL_law_1022 dL_law_1023 dL_law_1024 ?_
  refine sp_arg C hW (lv_at hl 1 rfl) (lv_at hl 0 rfl) hi 2 (by decide) rfl dL_law_1025 dL_law_1026 dL_law_1027 dL_law_1028 dL_law_1029 ?_
  refine sp_arg C hW (lv_at hl 1 rfl) (lv_at hl 0 rfl) hi 3 (by decide) rfl dL_law_1030 dL_law_1031 dL_law_1032 dL_law_1033 dL_law_1034 ?_
  refine sp_arg C hW (lv_at hl 1 rfl) (lv_at hl 0 rfl) hi 4 (by decide) rfl dL_law_1035 dL_law_1036 dL_law_1037 dL_law_1038 dL_law_1039 ?_
  refine sp_arg C hW (lv_at hl 1 rfl) (lv_at hl 0 rfl) hi 5 (by decide) rfl dL_law_1040 dL_law_1041 dL_law_1042 dL_law_1043 dL_law_1044 ?_
  obtain ⟨km, hkm⟩ := sp_in_app (w1 := sp_XW q5 u x') (w2 := sp_MW q5 w y) (q := (w 0, .inr (8, [.int y.1, .int y.2.1, .ref (w 1), .ref (w 2), .ref (w 3), .int y.2.2.2.2.2.1, .ref (w 4), .ref (w 5), .ref (w 6), .ref (w 7), .ref (w 8), .int y.2.2.2.2.2.2.2.2.2.2.2.1, .ref (w 9), .ref (w 10), .ref (w 11), .ref (w 12), .int y.2.2.2.2.2.2.2.2.2.2.2.2.2.2.2.2.1, .int y.2.2.2.2.2.2.2.2.2.2.2.2.2.2.2.2.2.1, .ref (w 13), .int y.2.2.2.2.2.2.2.2.2.2.2.2.2.2.2.2.2.2.2.1, .ref (w 14), .ref (w 15), .ref (w 16), .ref (w 17), .ref (w 18), .ref (w 19), .ref (w 20), .ref (w 21), .ref (w 22), .ref (w 23), .ref (w 24), .ref (w 25)]))) List.mem_cons_self
  refine sp_callLi (rest := [.int r]) S hK hG hA hW hy (cwV 5 (fun w hw => S.2.2.2.2 w (inv_X10_copy w hw)) gov_X10_copy rfl y1 y2 (by decide +kernel) ⟨Nat.le_trans (Nat.succ_le_succ y3) (by decide), Nat.le_trans (Nat.add_le_add_left y4 _) (by decide)⟩) 8 km rfl hkm rfl hl.1 (Nat.le_of_ble_eq_true rfl) dL_law_1045 ⟨by decide, by decide⟩ rfl (fun H locs hW => ?_)
  exact lv_icmp_eq (tgt := 1211) S.1 S.2.1 dL_law_1048 (by decide) (fun _ => kk x' y' _ _ hR' hW) (fun hc => absurd rfl hc)

theorem lo_tell {p : Program} {l : Launch} {e : Env} {s : State} {m : MethodId} {below : List Frame} {meth : Method} {c : Code} {H : Heap} {locs : List Loc} {Q : State → Prop} {ls : Array Slot} {D : va_G} {A : Nat → Prop} {q5 : Nat → ClassId} {b L : Nat} {xs : Nat → Int32} {u : sp_XT} {w : Nat → Nat} {i : Nat} {x : sp_XS} {y : sp_MS} (C : sp_ctx p s m meth c D q5 A b L xs u) (hi : i + 6 ≤ L) (hR : sp_Rel x y) (hW : sp_wd D A s.heap (sp_XW q5 u x ++ sp_MW q5 w y) H locs) (hl : lv_has ls 4 [(3, .int (Int32.ofNat i)), (0, .ref b), (1, .ref (u.1 0)), (2, .ref (w 0))])
    (kk : ∀ (x' : sp_XS) (y' : sp_MS) (H : Heap) (locs : List Loc), sp_Rel x' y' → sp_wd D A s.heap (sp_XW q5 u x' ++ sp_MW q5 w y') H locs → W p l e room_1 s m #[Value.ref b] below meth c H locs 139 16093 Q (F0 m 1211 ls [])) : W p l e room_1 s m #[Value.ref b] below meth c H locs 139 16093 Q (F0 m 1053 ls []) := by
  obtain ⟨r, x', y', hx, hy, hR'⟩ := op_tell hR (xs (i + 1)) (xs (i + 2))
  obtain ⟨S, hK, hG, hA, hX, hbl, hbA, hu, hL⟩ := id C
  obtain ⟨rmx, x1, x2, x3, x4, hx⟩ := lx_tell (l := l) (D := D) (q5 := q5) (u := u) hu (MM := sp_MW q5 w y) (xs (i + 1)) (xs (i + 2)) hx
  obtain ⟨rmy, y1, y2, y3, y4, hy⟩ := lm_tell (l := l) (D := D) (q5 := q5) (w := w) (XX := sp_XW q5 u x') (xs (i + 1)) (xs (i + 2)) hy
  refine lv_aload_n S.1 S.2.1 dL_law_1053 rfl (lv_at hl 2 rfl) ?_
  refine sp_arg C hW (lv_at hl 1 rfl) (lv_at hl 0 rfl) hi 1 (by decide) rfl dL_law_1054 dL_law_1055 dL_law_1056 dL_law_1057 dL_law_1058 ?_
  refine sp_arg C hW (lv_at hl 1 rfl) (lv_at hl 0 rfl) hi 2 (by decide) rfl dL_law_1059 dL_law_1060 dL_law_1061 dL_law_1062 dL_law_1063 ?_
  refine sp_callLi (rest := []) S hK hG hA hW hx (cwV 2 (fun w hw => S.2.2.2.2 w (inv_X9_tell w hw)) gov_X9_tell rfl x1 x2 (by decide +kernel) ⟨Nat.le_trans (Nat.succ_le_succ x3) (by decide), Nat.le_trans (Nat.add_le_add_left x4 _) (by decide)⟩) 7 0 rfl rfl rfl hl.1 (Nat.le_of_ble_eq_true rfl) dL_law_1064 ⟨by decide, by decide⟩ rfl (fun H locs hW => ?_)
  refine lv_aload_n S.1 S.2.1 dL_law_1067 rfl (lv_at hl 3 rfl) ?_
  refine sp_arg C hW (lv_at hl 1 rfl) (lv_at hl 0 rfl) hi 1 (by decide) rfl dL_law_1068 dL_law_1069 dL_law_1070 dL_law_1071 dL_law_1072 ?_
  refine sp_arg C hW (lv_at hl 1 rfl) (lv_at hl 0 rfl) hi 2 (by decide) rfl dL_law_1073 dL_law_1074 dL_law_1075 dL_law_1076 dL_law_1077 ?_
  obtain ⟨km, hkm⟩ := sp_in_app (w1 := sp_XW q5 u x') (w2 := sp_MW q5 w y) (q := (w 0, .inr (8, [.int y.1, .int y.2.1, .ref (w 1), .ref (w 2), .ref (w 3), .int y.2.2.2.2.2.1, .ref (w 4), .ref (w 5), .ref (w 6), .ref (w 7), .ref (w 8), .int y.2.2.2.2.2.2.2.2.2.2.2.1, .ref (w 9), .ref (w 10), .ref (w 11), .ref (w 12), .int y.2.2.2.2.2.2.2.2.2.2.2.2.2.2.2.2.1, .int y.2.2.2.2.2.2.2.2.2.2.2.2.2.2.2.2.2.1, .ref (w 13), .int y.2.2.2.2.2.2.2.2.2.2.2.2.2.2.2.2.2.2.2.1, .ref (w 14), .ref (w 15), .ref (w 16), .ref (w 17), .ref (w 18), .ref (w 19), .ref (w 20), .ref (w 21), .ref (w 22), .ref (w 23), .ref (w 24), .ref (w 25)]))) List.mem_cons_self
  refine sp_callLi (rest := [.int r]) S hK hG hA hW hy (cwV 2 (fun w hw => S.2.2.2.2 w (inv_X10_tell w hw)) gov_X10_tell rfl y1 y2 (by decide +kernel) ⟨Nat.le_trans (Nat.succ_le_succ y3) (by decide), Nat.le_trans (Nat.add_le_add_left y4 _) (by decide)⟩) 8 km rfl hkm rfl hl.1 (Nat.le_of_ble_eq_true rfl) dL_law_1078 ⟨by decide, by decide⟩ rfl (fun H locs hW => ?_)
  exact lv_icmp_eq (tgt := 1211) S.1 S.2.1 dL_law_1081 (by decide) (fun _ => kk x' y' _ _ hR' hW) (fun hc => absurd rfl hc)

theorem lo_show {p : Program} {l : Launch} {e : Env} {s : State} {m : MethodId} {below : List Frame} {meth : Method} {c : Code} {H : Heap} {locs : List Loc} {Q : State → Prop} {ls : Array Slot} {D : va_G} {A : Nat → Prop} {q5 : Nat → ClassId} {b L : Nat} {xs : Nat → Int32} {u : sp_XT} {w : Nat → Nat} {i : Nat} {x : sp_XS} {y : sp_MS} (C : sp_ctx p s m meth c D q5 A b L xs u) (hi : i + 6 ≤ L) (hR : sp_Rel x y) (hW : sp_wd D A s.heap (sp_XW q5 u x ++ sp_MW q5 w y) H locs) (hl : lv_has ls 4 [(3, .int (Int32.ofNat i)), (0, .ref b), (1, .ref (u.1 0)), (2, .ref (w 0))])
    (kk : ∀ (x' : sp_XS) (y' : sp_MS) (H : Heap) (locs : List Loc), sp_Rel x' y' → sp_wd D A s.heap (sp_XW q5 u x' ++ sp_MW q5 w y') H locs → W p l e room_1 s m #[Value.ref b] below meth c H locs 139 16093 Q (F0 m 1211 ls [])) : W p l e room_1 s m #[Value.ref b] below meth c H locs 139 16093 Q (F0 m 1086 ls []) := by
  obtain ⟨r, x', y', hx, hy, hR'⟩ := op_show hR (xs (i + 1)) (xs (i + 2))
  obtain ⟨S, hK, hG, hA, hX, hbl, hbA, hu, hL⟩ := id C
  obtain ⟨rmx, x1, x2, x3, x4, hx⟩ := lx_show (l := l) (D := D) (q5 := q5) (u := u) hu (MM := sp_MW q5 w y) (xs (i + 1)) (xs (i + 2)) hx
  obtain ⟨rmy, y1, y2, y3, y4, hy⟩ := lm_show (l := l) (D := D) (q5 := q5) (w := w) (XX := sp_XW q5 u x') (xs (i + 1)) (xs (i + 2)) hy
  refine lv_aload_n S.1 S.2.1 dL_law_1086 rfl (lv_at hl 2 rfl) ?_
  refine sp_arg C hW (lv_at hl 1 rfl) (lv_at hl 0 rfl) hi 1 (by decide) rfl dL_law_1087 dL_law_1088 dL_law_1089 dL_law_1090 dL_law_1091 ?_
  refine sp_arg C hW (lv_at hl 1 rfl) (lv_at hl 0 rfl) hi 2 (by decide) rfl dL_law_1092 dL_law_1093 dL_law_1094 dL_law_1095 dL_law_1096 ?_
  refine sp_callLi (rest := []) S hK hG hA hW hx (cwV 2 (fun w hw => S.2.2.2.2 w (inv_X9_show w hw)) gov_X9_show rfl x1 x2 (by decide +kernel) ⟨Nat.le_trans (Nat.succ_le_succ x3) (by decide), Nat.le_trans (Nat.add_le_add_left x4 _) (by decide)⟩) 7 0 rfl rfl rfl hl.1 (Nat.le_of_ble_eq_true rfl) dL_law_1097 ⟨by decide, by decide⟩ rfl (fun H locs hW => ?_)
  refine lv_aload_n S.1 S.2.1 dL_law_1100 rfl (lv_at hl 3 rfl) ?_
  refine sp_arg C hW (lv_at hl 1 rfl) (lv_at hl 0 rfl) hi 1 (by decide) rfl dL_law_1101 dL_law_1102 dL_law_1103 dL_law_1104 dL_law_1105 ?_
  refine sp_arg C hW (lv_at hl 1 rfl) (lv_at hl 0 rfl) hi 2 (by decide) rfl dL_law_1106 dL_law_1107 dL_law_1108 dL_law_1109 dL_law_1110 ?_
  obtain ⟨km, hkm⟩ := sp_in_app (w1 := sp_XW q5 u x') (w2 := sp_MW q5 w y) (q := (w 0, .inr (8, [.int y.1, .int y.2.1, .ref (w 1), .ref (w 2), .ref (w 3), .int y.2.2.2.2.2.1, .ref (w 4), .ref (w 5), .ref (w 6), .ref (w 7), .ref (w 8), .int y.2.2.2.2.2.2.2.2.2.2.2.1, .ref (w 9), .ref (w 10), .ref (w 11), .ref (w 12), .int y.2.2.2.2.2.2.2.2.2.2.2.2.2.2.2.2.1, .int y.2.2.2.2.2.2.2.2.2.2.2.2.2.2.2.2.2.1, .ref (w 13), .int y.2.2.2.2.2.2.2.2.2.2.2.2.2.2.2.2.2.2.2.1, .ref (w 14), .ref (w 15), .ref (w 16), .ref (w 17), .ref (w 18), .ref (w 19), .ref (w 20), .ref (w 21), .ref (w 22), .ref (w 23), .ref (w 24), .ref (w 25)]))) List.mem_cons_self
  refine sp_callLi (rest := [.int r]) S hK hG hA hW hy (cwV 2 (fun w hw => S.2.2.2.2 w (inv_X10_show w hw)) gov_X10_show rfl y1 y2 (by decide +kernel) ⟨Nat.le_trans (Nat.succ_le_succ y3) (by decide), Nat.le_trans (Nat.add_le_add_left y4 _) (by decide)⟩) 8 km rfl hkm rfl hl.1 (Nat.le_of_ble_eq_true rfl) dL_law_1111 ⟨by decide, by decide⟩ rfl (fun H locs hW => ?_)
  exact lv_icmp_eq (tgt := 1211) S.1 S.2.1 dL_law_1114 (by decide) (fun _ => kk x' y' _ _ hR' hW) (fun hc => absurd rfl hc)

theorem lo_as {p : Program} {l : Launch} {e : Env} {s : State} {m : MethodId} {below : List Frame} {meth : Method} {c : Code} {H : Heap} {locs : List Loc} {Q : State → Prop} {ls : Array Slot} {D : va_G} {A : Nat → Prop} {q5 : Nat → ClassId} {b L : Nat} {xs : Nat → Int32} {u : sp_XT} {w : Nat → Nat} {i : Nat} {x : sp_XS} {y : sp_MS} (C : sp_ctx p s m meth c D q5 A b L xs u) (hi : i + 6 ≤ L) (hR : sp_Rel x y) (hW : sp_wd D A s.heap (sp_XW q5 u x ++ sp_MW q5 w y) H locs) (hl : lv_has ls 4 [(3, .int (Int32.ofNat i)), (0, .ref b), (1, .ref (u.1 0)), (2, .ref (w 0))])
    (kk : ∀ (x' : sp_XS) (y' : sp_MS) (H : Heap) (locs : List Loc), sp_Rel x' y' → sp_wd D A s.heap (sp_XW q5 u x' ++ sp_MW q5 w y') H locs → W p l e room_1 s m #[Value.ref b] below meth c H locs 139 16093 Q (F0 m 1211 ls [])) : W p l e room_1 s m #[Value.ref b] below meth c H locs 139 16093 Q (F0 m 1119 ls []) := by
  obtain ⟨r, x', y', hx, hy, hR'⟩ := op_as hR (xs (i + 1)) (xs (i + 2)) (xs (i + 3))
  obtain ⟨S, hK, hG, hA, hX, hbl, hbA, hu, hL⟩ := id C
  obtain ⟨rmx, x1, x2, x3, x4, hx⟩ := lx_as (l := l) (D := D) (q5 := q5) (u := u) hu (MM := sp_MW q5 w y) (xs (i + 1)) (xs (i + 2)) (xs (i + 3)) hx
  obtain ⟨rmy, y1, y2, y3, y4, hy⟩ := lm_as (l := l) (D := D) (q5 := q5) (w := w) (XX := sp_XW q5 u x') (xs (i + 1)) (xs (i + 2)) (xs (i + 3)) hy
  refine lv_aload_n S.1 S.2.1 dL_law_1119 rfl (lv_at hl 2 rfl) ?_
  refine sp_arg C hW (lv_at hl 1 rfl) (lv_at hl 0 rfl) hi 1 (by decide) rfl dL_law_1120 dL_law_1121 dL_law_1122 dL_law_1123 dL_law_1124 ?_
  refine sp_arg C hW (lv_at hl 1 rfl) (lv_at hl 0 rfl) hi 2 (by decide) rfl dL_law_1125 dL_law_1126 dL_law_1127 dL_law_1128 dL_law_1129 ?_
  refine sp_arg C hW (lv_at hl 1 rfl) (lv_at hl 0 rfl) hi 3 (by decide) rfl dL_law_1130 dL_law_1131 dL_law_1132 dL_law_1133 dL_law_1134 ?_
  refine sp_callLi (rest := []) S hK hG hA hW hx (cwV 3 (fun w hw => S.2.2.2.2 w (inv_X9_as w hw)) gov_X9_as rfl x1 x2 (by decide +kernel) ⟨Nat.le_trans (Nat.succ_le_succ x3) (by decide), Nat.le_trans (Nat.add_le_add_left x4 _) (by decide)⟩) 7 0 rfl rfl rfl hl.1 (Nat.le_of_ble_eq_true rfl) dL_law_1135 ⟨by decide, by decide⟩ rfl (fun H locs hW => ?_)
  refine lv_aload_n S.1 S.2.1 dL_law_1138 rfl (lv_at hl 3 rfl) ?_
  refine sp_arg C hW (lv_at hl 1 rfl) (lv_at hl 0 rfl) hi 1 (by decide) rfl dL_law_1139 dL_law_1140 dL_law_1141 dL_law_1142 dL_law_1143 ?_
  refine sp_arg C hW (lv_at hl 1 rfl) (lv_at hl 0 rfl) hi 2 (by decide) rfl dL_law_1144 dL_law_1145 dL_law_1146 dL_law_1147 dL_law_1148 ?_
  refine sp_arg C hW (lv_at hl 1 rfl) (lv_at hl 0 rfl) hi 3 (by decide) rfl dL_law_1149 dL_law_1150 dL_law_1151 dL_law_1152 dL_law_1153 ?_
  obtain ⟨km, hkm⟩ := sp_in_app (w1 := sp_XW q5 u x') (w2 := sp_MW q5 w y) (q := (w 0, .inr (8, [.int y.1, .int y.2.1, .ref (w 1), .ref (w 2), .ref (w 3), .int y.2.2.2.2.2.1, .ref (w 4), .ref (w 5), .ref (w 6), .ref (w 7), .ref (w 8), .int y.2.2.2.2.2.2.2.2.2.2.2.1, .ref (w 9), .ref (w 10), .ref (w 11), .ref (w 12), .int y.2.2.2.2.2.2.2.2.2.2.2.2.2.2.2.2.1, .int y.2.2.2.2.2.2.2.2.2.2.2.2.2.2.2.2.2.1, .ref (w 13), .int y.2.2.2.2.2.2.2.2.2.2.2.2.2.2.2.2.2.2.2.1, .ref (w 14), .ref (w 15), .ref (w 16), .ref (w 17), .ref (w 18), .ref (w 19), .ref (w 20), .ref (w 21), .ref (w 22), .ref (w 23), .ref (w 24), .ref (w 25)]))) List.mem_cons_self
  refine sp_callLi (rest := [.int r]) S hK hG hA hW hy (cwV 3 (fun w hw => S.2.2.2.2 w (inv_X10_as w hw)) gov_X10_as rfl y1 y2 (by decide +kernel) ⟨Nat.le_trans (Nat.succ_le_succ y3) (by decide), Nat.le_trans (Nat.add_le_add_left y4 _) (by decide)⟩) 8 km rfl hkm rfl hl.1 (Nat.le_of_ble_eq_true rfl) dL_law_1154 ⟨by decide, by decide⟩ rfl (fun H locs hW => ?_)
  exact lv_icmp_eq (tgt := 1211) S.1 S.2.1 dL_law_1157 (by decide) (fun _ => kk x' y' _ _ hR' hW) (fun hc => absurd rfl hc)

theorem lo_trace {p : Program} {l : Launch} {e : Env} {s : State} {m : MethodId} {below : List Frame} {meth : Method} {c : Code} {H : Heap} {locs : List Loc} {Q : State → Prop} {ls : Array Slot} {D : va_G} {A : Nat → Prop} {q5 : Nat → ClassId} {b L : Nat} {xs : Nat → Int32} {u : sp_XT} {w : Nat → Nat} {i : Nat} {x : sp_XS} {y : sp_MS} (C : sp_ctx p s m meth c D q5 A b L xs u) (hi : i + 6 ≤ L) (hR : sp_Rel x y) (hW : sp_wd D A s.heap (sp_XW q5 u x ++ sp_MW q5 w y) H locs) (hl : lv_has ls 4 [(3, .int (Int32.ofNat i)), (0, .ref b), (1, .ref (u.1 0)), (2, .ref (w 0))])
    (kk : ∀ (x' : sp_XS) (y' : sp_MS) (H : Heap) (locs : List Loc), sp_Rel x' y' → sp_wd D A s.heap (sp_XW q5 u x' ++ sp_MW q5 w y') H locs → W p l e room_1 s m #[Value.ref b] below meth c H locs 139 16093 Q (F0 m 1211 ls [])) : W p l e room_1 s m #[Value.ref b] below meth c H locs 139 16093 Q (F0 m 1162 ls []) := by
  obtain ⟨r, x', y', hx, hy, hR'⟩ := op_trace hR 
  obtain ⟨S, hK, hG, hA, hX, hbl, hbA, hu, hL⟩ := id C
  obtain ⟨rmx, x1, x2, x3, x4, hx⟩ := lx_trace (l := l) (D := D) (q5 := q5) (u := u) hu (MM := sp_MW q5 w y)  hx
  obtain ⟨rmy, y1, y2, y3, y4, hy⟩ := lm_trace (l := l) (D := D) (q5 := q5) (w := w) (XX := sp_XW q5 u x')  hy
  refine lv_aload_n S.1 S.2.1 dL_law_1162 rfl (lv_at hl 2 rfl) ?_
  refine sp_callLi (rest := []) S hK hG hA hW hx (cwV 0 (fun w hw => S.2.2.2.2 w (inv_X9_trace w hw)) gov_X9_trace rfl x1 x2 (by decide +kernel) ⟨Nat.le_trans (Nat.succ_le_succ x3) (by decide), Nat.le_trans (Nat.add_le_add_left x4 _) (by decide)⟩) 7 0 rfl rfl rfl hl.1 (Nat.le_of_ble_eq_true rfl) dL_law_1163 ⟨by decide, by decide⟩ rfl (fun H locs hW => ?_)
  refine lv_aload_n S.1 S.2.1 dL_law_1166 rfl (lv_at hl 3 rfl) ?_
  obtain ⟨km, hkm⟩ := sp_in_app (w1 := sp_XW q5 u x') (w2 := sp_MW q5 w y) (q := (w 0, .inr (8, [.int y.1, .int y.2.1, .ref (w 1), .ref (w 2), .ref (w 3), .int y.2.2.2.2.2.1, .ref (w 4), .ref (w 5), .ref (w 6), .ref (w 7), .ref (w 8), .int y.2.2.2.2.2.2.2.2.2.2.2.1, .ref (w 9), .ref (w 10), .ref (w 11), .ref (w 12), .int y.2.2.2.2.2.2.2.2.2.2.2.2.2.2.2.2.1, .int y.2.2.2.2.2.2.2.2.2.2.2.2.2.2.2.2.2.1, .ref (w 13), .int y.2.2.2.2.2.2.2.2.2.2.2.2.2.2.2.2.2.2.2.1, .ref (w 14), .ref (w 15), .ref (w 16), .ref (w 17), .ref (w 18), .ref (w 19), .ref (w 20), .ref (w 21), .ref (w 22), .ref (w 23), .ref (w 24), .ref (w 25)]))) List.mem_cons_self
  refine sp_callLi (rest := [.int r]) S hK hG hA hW hy (cwV 0 (fun w hw => S.2.2.2.2 w (inv_X10_trace w hw)) gov_X10_trace rfl y1 y2 (by decide +kernel) ⟨Nat.le_trans (Nat.succ_le_succ y3) (by decide), Nat.le_trans (Nat.add_le_add_left y4 _) (by decide)⟩) 8 km rfl hkm rfl hl.1 (Nat.le_of_ble_eq_true rfl) dL_law_1167 ⟨by decide, by decide⟩ rfl (fun H locs hW => ?_)
  exact lv_icmp_eq (tgt := 1211) S.1 S.2.1 dL_law_1170 (by decide) (fun _ => kk x' y' _ _ hR' hW) (fun hc => absurd rfl hc)

theorem lo_fault {p : Program} {l : Launch} {e : Env} {s : State} {m : MethodId} {below : List Frame} {meth : Method} {c : Code} {H : Heap} {locs : List Loc} {Q : State → Prop} {ls : Array Slot} {D : va_G} {A : Nat → Prop} {q5 : Nat → ClassId} {b L : Nat} {xs : Nat → Int32} {u : sp_XT} {w : Nat → Nat} {i : Nat} {x : sp_XS} {y : sp_MS} (C : sp_ctx p s m meth c D q5 A b L xs u) (hi : i + 6 ≤ L) (hR : sp_Rel x y) (hW : sp_wd D A s.heap (sp_XW q5 u x ++ sp_MW q5 w y) H locs) (hl : lv_has ls 4 [(3, .int (Int32.ofNat i)), (0, .ref b), (1, .ref (u.1 0)), (2, .ref (w 0))])
    (kk : ∀ (x' : sp_XS) (y' : sp_MS) (H : Heap) (locs : List Loc), sp_Rel x' y' → sp_wd D A s.heap (sp_XW q5 u x' ++ sp_MW q5 w y') H locs → W p l e room_1 s m #[Value.ref b] below meth c H locs 139 16093 Q (F0 m 1211 ls [])) : W p l e room_1 s m #[Value.ref b] below meth c H locs 139 16093 Q (F0 m 1175 ls []) := by
  obtain ⟨r, x', y', hx, hy, hR'⟩ := op_fault hR 
  obtain ⟨S, hK, hG, hA, hX, hbl, hbA, hu, hL⟩ := id C
  obtain ⟨rmx, x1, x2, x3, x4, hx⟩ := lx_fault (l := l) (D := D) (q5 := q5) (u := u) hu (MM := sp_MW q5 w y)  hx
  obtain ⟨rmy, y1, y2, y3, y4, hy⟩ := lm_fault (l := l) (D := D) (q5 := q5) (w := w) (XX := sp_XW q5 u x')  hy
  refine lv_aload_n S.1 S.2.1 dL_law_1175 rfl (lv_at hl 2 rfl) ?_
  refine sp_callLi (rest := []) S hK hG hA hW hx (cwV 0 (fun w hw => S.2.2.2.2 w (inv_X9_fault w hw)) gov_X9_fault rfl x1 x2 (by decide +kernel) ⟨Nat.le_trans (Nat.succ_le_succ x3) (by decide), Nat.le_trans (Nat.add_le_add_left x4 _) (by decide)⟩) 7 0 rfl rfl rfl hl.1 (Nat.le_of_ble_eq_true rfl) dL_law_1176 ⟨by decide, by decide⟩ rfl (fun H locs hW => ?_)
  refine lv_aload_n S.1 S.2.1 dL_law_1179 rfl (lv_at hl 3 rfl) ?_
  obtain ⟨km, hkm⟩ := sp_in_app (w1 := sp_XW q5 u x') (w2 := sp_MW q5 w y) (q := (w 0, .inr (8, [.int y.1, .int y.2.1, .ref (w 1), .ref (w 2), .ref (w 3), .int y.2.2.2.2.2.1, .ref (w 4), .ref (w 5), .ref (w 6), .ref (w 7), .ref (w 8), .int y.2.2.2.2.2.2.2.2.2.2.2.1, .ref (w 9), .ref (w 10), .ref (w 11), .ref (w 12), .int y.2.2.2.2.2.2.2.2.2.2.2.2.2.2.2.2.1, .int y.2.2.2.2.2.2.2.2.2.2.2.2.2.2.2.2.2.1, .ref (w 13), .int y.2.2.2.2.2.2.2.2.2.2.2.2.2.2.2.2.2.2.2.1, .ref (w 14), .ref (w 15), .ref (w 16), .ref (w 17), .ref (w 18), .ref (w 19), .ref (w 20), .ref (w 21), .ref (w 22), .ref (w 23), .ref (w 24), .ref (w 25)]))) List.mem_cons_self
  refine sp_callLi (rest := [.int r]) S hK hG hA hW hy (cwV 0 (fun w hw => S.2.2.2.2 w (inv_X10_fault w hw)) gov_X10_fault rfl y1 y2 (by decide +kernel) ⟨Nat.le_trans (Nat.succ_le_succ y3) (by decide), Nat.le_trans (Nat.add_le_add_left y4 _) (by decide)⟩) 8 km rfl hkm rfl hl.1 (Nat.le_of_ble_eq_true rfl) dL_law_1180 ⟨by decide, by decide⟩ rfl (fun H locs hW => ?_)
  exact lv_icmp_eq (tgt := 1211) S.1 S.2.1 dL_law_1183 (by decide) (fun _ => kk x' y' _ _ hR' hW) (fun hc => absurd rfl hc)

theorem lo_many {p : Program} {l : Launch} {e : Env} {s : State} {m : MethodId} {below : List Frame} {meth : Method} {c : Code} {H : Heap} {locs : List Loc} {Q : State → Prop} {ls : Array Slot} {D : va_G} {A : Nat → Prop} {q5 : Nat → ClassId} {b L : Nat} {xs : Nat → Int32} {u : sp_XT} {w : Nat → Nat} {i : Nat} {x : sp_XS} {y : sp_MS} (C : sp_ctx p s m meth c D q5 A b L xs u) (hi : i + 6 ≤ L) (hR : sp_Rel x y) (hW : sp_wd D A s.heap (sp_XW q5 u x ++ sp_MW q5 w y) H locs) (hl : lv_has ls 4 [(3, .int (Int32.ofNat i)), (0, .ref b), (1, .ref (u.1 0)), (2, .ref (w 0))])
    (kk : ∀ (x' : sp_XS) (y' : sp_MS) (H : Heap) (locs : List Loc), sp_Rel x' y' → sp_wd D A s.heap (sp_XW q5 u x' ++ sp_MW q5 w y') H locs → W p l e room_1 s m #[Value.ref b] below meth c H locs 139 16093 Q (F0 m 1211 ls [])) : W p l e room_1 s m #[Value.ref b] below meth c H locs 139 16093 Q (F0 m 1188 ls []) := by
  obtain ⟨r, x', y', hx, hy, hR'⟩ := op_many hR (xs (i + 1))
  obtain ⟨S, hK, hG, hA, hX, hbl, hbA, hu, hL⟩ := id C
  obtain ⟨rmx, x1, x2, x3, x4, hx⟩ := lx_many (l := l) (D := D) (q5 := q5) (u := u) hu (MM := sp_MW q5 w y) (xs (i + 1)) hx
  obtain ⟨rmy, y1, y2, y3, y4, hy⟩ := lm_many (l := l) (D := D) (q5 := q5) (w := w) (XX := sp_XW q5 u x') (xs (i + 1)) hy
  refine lv_aload_n S.1 S.2.1 dL_law_1188 rfl (lv_at hl 2 rfl) ?_
  refine sp_arg C hW (lv_at hl 1 rfl) (lv_at hl 0 rfl) hi 1 (by decide) rfl dL_law_1189 dL_law_1190 dL_law_1191 dL_law_1192 dL_law_1193 ?_
  refine sp_callLi (rest := []) S hK hG hA hW hx (cwV 1 (fun w hw => S.2.2.2.2 w (inv_X9_many w hw)) gov_X9_many rfl x1 x2 (by decide +kernel) ⟨Nat.le_trans (Nat.succ_le_succ x3) (by decide), Nat.le_trans (Nat.add_le_add_left x4 _) (by decide)⟩) 7 0 rfl rfl rfl hl.1 (Nat.le_of_ble_eq_true rfl) dL_law_1194 ⟨by decide, by decide⟩ rfl (fun H locs hW => ?_)
  refine lv_aload_n S.1 S.2.1 dL_law_1197 rfl (lv_at hl 3 rfl) ?_
  refine sp_arg C hW (lv_at hl 1 rfl) (lv_at hl 0 rfl) hi 1 (by decide) rfl dL_law_1198 dL_law_1199 dL_law_1200 dL_law_1201 dL_law_1202 ?_
  obtain ⟨km, hkm⟩ := sp_in_app (w1 := sp_XW q5 u x') (w2 := sp_MW q5 w y) (q := (w 0, .inr (8, [.int y.1, .int y.2.1, .ref (w 1), .ref (w 2), .ref (w 3), .int y.2.2.2.2.2.1, .ref (w 4), .ref (w 5), .ref (w 6), .ref (w 7), .ref (w 8), .int y.2.2.2.2.2.2.2.2.2.2.2.1, .ref (w 9), .ref (w 10), .ref (w 11), .ref (w 12), .int y.2.2.2.2.2.2.2.2.2.2.2.2.2.2.2.2.1, .int y.2.2.2.2.2.2.2.2.2.2.2.2.2.2.2.2.2.1, .ref (w 13), .int y.2.2.2.2.2.2.2.2.2.2.2.2.2.2.2.2.2.2.2.1, .ref (w 14), .ref (w 15), .ref (w 16), .ref (w 17), .ref (w 18), .ref (w 19), .ref (w 20), .ref (w 21), .ref (w 22), .ref (w 23), .ref (w 24), .ref (w 25)]))) List.mem_cons_self
  refine sp_callLi (rest := [.int r]) S hK hG hA hW hy (cwV 1 (fun w hw => S.2.2.2.2 w (inv_X10_many w hw)) gov_X10_many rfl y1 y2 (by decide +kernel) ⟨Nat.le_trans (Nat.succ_le_succ y3) (by decide), Nat.le_trans (Nat.add_le_add_left y4 _) (by decide)⟩) 8 km rfl hkm rfl hl.1 (Nat.le_of_ble_eq_true rfl) dL_law_1203 ⟨by decide, by decide⟩ rfl (fun H locs hW => ?_)
  exact lv_icmp_eq (tgt := 1211) S.1 S.2.1 dL_law_1206 (by decide) (fun _ => kk x' y' _ _ hR' hW) (fun hc => absurd rfl hc)
