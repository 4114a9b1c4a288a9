theorem lx_text0 {l : Launch} {D : va_G} {q5 : Nat → ClassId} {u : sp_XT} (hu : sp_XC (u.1 0) u) {MM : va_W} (p1 p2 p3 p4 : Int32) {x : sp_XS} (iT : Nat) (hiT : iT < 12) (iK : Nat) (hiK : iK < 4) (fT : vp_in x.2.2.2.2.2.2.2.2.2.1 12 → iT = x.2.2.2.2.2.2.2.2.2.1.toNatClampNeg) (fK : vp_in p1 4 → iK = p1.toNatClampNeg) {x' : sp_XS} {r : Int32} (h : sx_text0 p1 p2 p3 p4 iT iK x = some (r, x')) : sp_Li l yX9_text wsX9_text rmX9_text D q5 [.ref (u.1 0), .int p1, .int p2, .int p3, .int p4] (sp_XW q5 u x ++ MM) r (sp_XW q5 u x' ++ MM) := by
  unfold sx_text0 at h
  obtain ⟨⟨r1, c1, c2, c3, c4, c5, c6, c7, c8, c9, c10, c11, c12, c13, c14, c15, c16, c17, c18, c19⟩, hf, hz⟩ := sp_hc h
  obtain ⟨q1, q2⟩ := Prod.mk.inj (Option.some.inj hz)
  subst q1
  subst q2
  refine ⟨0, _, _, (sp_G 12 (fun k => sp_pr (u.2.2.2.2.2.1 k) q5) x.1 [iT]) ++ (sp_G 4 (fun k => sp_sh (u.2.2.2.2.2.2.1 k) q5) x.2.1 [iK]) ++ (sw_Z (u.2.2.2.2.2.2.2 2) q5 x.2.2.2.2.1.1 x.2.2.2.2.1.2) ++ (sw_O (u.2.2.2.2.2.2.2 3) q5 x.2.2.2.2.2.1.1 x.2.2.2.2.2.1.2.1 x.2.2.2.2.2.1.2.2.1 x.2.2.2.2.2.1.2.2.2.1 x.2.2.2.2.2.1.2.2.2.2.1 x.2.2.2.2.2.1.2.2.2.2.2.1 x.2.2.2.2.2.1.2.2.2.2.2.2) ++ (sw_T (u.2.2.2.2.2.2.2 4) (u.2.2.2.2.2.2.2 5 0) q5 x.2.2.2.2.2.2.1.1 x.2.2.2.2.2.2.1.2.1 x.2.2.2.2.2.2.1.2.2.1 x.2.2.2.2.2.2.1.2.2.2) ++ (sp_pr (u.2.2.2.2.2.2.2 5) q5 x.2.2.2.2.2.2.2.1) ++ (sw_U (u.2.2.2.2.2.2.2 6) q5 x.2.2.2.2.2.2.2.2.1.1 x.2.2.2.2.2.2.2.2.1.2) ++ MM, by decide, c_X9_text u.1 u.2.1 u.2.2.1 (u.2.2.2.2.2.2.1 iK) (u.2.2.2.2.2.2.2 0) (u.2.2.2.2.2.2.2 1) (u.2.2.2.2.2.1 iT) (u.2.2.2.2.2.2.2 2 0) (u.2.2.2.2.2.2.2 3 0) (u.2.2.2.2.2.2.2 4 0) (u.2.2.2.2.2.2.2 6 0) x.2.2.2.2.2.2.2.2.2.1 x.2.2.2.2.2.2.2.2.2.2.1 x.2.2.2.2.2.2.2.2.2.2.2.1 x.2.2.2.2.2.2.2.2.2.2.2.2 u.2.2.2.1 u.2.2.2.2.1 (x.2.1 iK).1 (x.2.1 iK).2.1 (x.2.1 iK).2.2 x.2.2.1.1 x.2.2.1.2.1 x.2.2.1.2.2 x.2.2.2.1.1 x.2.2.2.1.2.1 x.2.2.2.1.2.2.1 x.2.2.2.1.2.2.2.1 x.2.2.2.1.2.2.2.2.1 x.2.2.2.1.2.2.2.2.2.1 x.2.2.2.1.2.2.2.2.2.2 (x.1 iT).1 (x.1 iT).2.1 (x.1 iT).2.2.1 (x.1 iT).2.2.2.1 (x.1 iT).2.2.2.2.1 (x.1 iT).2.2.2.2.2.1 (x.1 iT).2.2.2.2.2.2 p1 p2 p3 p4 (fun hin => by rw [fT hin]; exact hu.2.1 _ (sp_in_lt hin)) (fun hin => by rw [fK hin]; exact hu.2.2 _ (sp_in_lt hin)) hf, ?_, rfl, ?_⟩
  · refine sp_perm_of fun q => ?_
    have eP := sp_G1 (n := 12) (F := fun k => sp_pr (u.2.2.2.2.2.1 k) q5) (x := x.1) hiT  q
    have eS := sp_G1 (n := 4) (F := fun k => sp_sh (u.2.2.2.2.2.2.1 k) q5) (x := x.2.1) hiK  q
    simp only [sp_XW, sp_cnt_app, sp_PG_G, sp_SG_G, sp_pr, sp_sh] at eP eS ⊢
    omega
  · refine sp_perm_of fun q => ?_
    have eP := sp_U1 (n := 12) (F := fun k => sp_pr (u.2.2.2.2.2.1 k) q5) (x := x.1) (v := (c13, c14, c15, c16, c17, c18, c19)) hiT  q
    have eS := sp_G1 (n := 4) (F := fun k => sp_sh (u.2.2.2.2.2.2.1 k) q5) (x := x.2.1) hiK  q
    simp only [sp_XW, sp_cnt_app, sp_PG_G, sp_SG_G, sp_pr, sp_sh] at eP eS ⊢
    omega
theorem lx_text {l : Launch} {D : va_G} {q5 : Nat → ClassId} {u : sp_XT} (hu : sp_XC (u.1 0) u) {MM : va_W} (p1 p2 p3 p4 : Int32) {x x' : sp_XS} {r : Int32} (h : sx_text p1 p2 p3 p4 x = some (r, x')) : ∃ rm : Room, rm.cells = 0 ∧ rm.slots = 0 ∧ rm.frames ≤ 100 ∧ rm.locals ≤ 3000 ∧ sp_Li l yX9_text wsX9_text rm D q5 [.ref (u.1 0), .int p1, .int p2, .int p3, .int p4] (sp_XW q5 u x ++ MM) r (sp_XW q5 u x' ++ MM) := ⟨rmX9_text, rfl, rfl, by decide, by decide, lx_text0 hu p1 p2 p3 p4 _ (sp_ix_lt (by decide)) _ (sp_ix_lt (by decide)) sp_ix_eq sp_ix_eq h⟩

theorem lx_line0 {l : Launch} {D : va_G} {q5 : Nat → ClassId} {u : sp_XT} (hu : sp_XC (u.1 0) u) {MM : va_W} (p1 p2 p3 : Int32) (iP : Nat) (hiP : iP < 12) (fP : vp_in p1 12 → iP = p1.toNatClampNeg) {x x' : sp_XS} {r : Int32} (h : sx_line0 p1 p2 p3 iP x = some (r, x')) : sp_Li l yX9_line wsX9_line rmX9_line D q5 [.ref (u.1 0), .int p1, .int p2, .int p3] (sp_XW q5 u x ++ MM) r (sp_XW q5 u x' ++ MM) := by
  unfold sx_line0 at h
  obtain ⟨r1, hf, hz⟩ := sp_hc h
  obtain ⟨q1, q2⟩ := Prod.mk.inj (Option.some.inj hz)
  subst q1
  subst q2
  refine ⟨0, _, _, (sw_XS u.2.2.1 q5 u.2.2.2.2.1) ++ (sp_G 12 (fun k => sp_pr (u.2.2.2.2.2.1 k) q5) x.1 [iP]) ++ (sp_SG q5 4 u.2.2.2.2.2.2.1 x.2.1) ++ (sw_R (u.2.2.2.2.2.2.2 0) (u.2.2.2.2.2.2.2 1 0) q5 x.2.2.1.1 x.2.2.1.2.1 x.2.2.1.2.2) ++ (sp_pr (u.2.2.2.2.2.2.2 1) q5 x.2.2.2.1) ++ (sw_Z (u.2.2.2.2.2.2.2 2) q5 x.2.2.2.2.1.1 x.2.2.2.2.1.2) ++ (sw_O (u.2.2.2.2.2.2.2 3) q5 x.2.2.2.2.2.1.1 x.2.2.2.2.2.1.2.1 x.2.2.2.2.2.1.2.2.1 x.2.2.2.2.2.1.2.2.2.1 x.2.2.2.2.2.1.2.2.2.2.1 x.2.2.2.2.2.1.2.2.2.2.2.1 x.2.2.2.2.2.1.2.2.2.2.2.2) ++ (sw_T (u.2.2.2.2.2.2.2 4) (u.2.2.2.2.2.2.2 5 0) q5 x.2.2.2.2.2.2.1.1 x.2.2.2.2.2.2.1.2.1 x.2.2.2.2.2.2.1.2.2.1 x.2.2.2.2.2.2.1.2.2.2) ++ (sp_pr (u.2.2.2.2.2.2.2 5) q5 x.2.2.2.2.2.2.2.1) ++ (sw_U (u.2.2.2.2.2.2.2 6) q5 x.2.2.2.2.2.2.2.2.1.1 x.2.2.2.2.2.2.2.2.1.2) ++ MM, by decide, c_X9_line u.1 u.2.1 (u.2.2.2.2.2.1 iP) u.2.2.1 (u.2.2.2.2.2.2.2 0 0) (u.2.2.2.2.2.2.2 2 0) (u.2.2.2.2.2.2.2 3 0) (u.2.2.2.2.2.2.2 4 0) (u.2.2.2.2.2.2.2 6 0) x.2.2.2.2.2.2.2.2.2.1 x.2.2.2.2.2.2.2.2.2.2.1 x.2.2.2.2.2.2.2.2.2.2.2.1 x.2.2.2.2.2.2.2.2.2.2.2.2 u.2.2.2.1 (x.1 iP).1 (x.1 iP).2.1 (x.1 iP).2.2.1 (x.1 iP).2.2.2.1 (x.1 iP).2.2.2.2.1 (x.1 iP).2.2.2.2.2.1 (x.1 iP).2.2.2.2.2.2 p1 p2 p3 (fun hin => by rw [fP hin]; exact hu.2.1 _ (sp_in_lt hin)) hf, ?_, rfl, ?_⟩
  · refine sp_perm_of fun q => ?_
    have eP := sp_G1 (n := 12) (F := fun k => sp_pr (u.2.2.2.2.2.1 k) q5) (x := x.1) hiP  q
    simp only [sp_XW, sp_cnt_app, sp_PG_G, sp_SG_G, sp_pr, sp_sh] at eP ⊢
    omega
  · refine sp_perm_of fun q => ?_
    have eP := sp_G1 (n := 12) (F := fun k => sp_pr (u.2.2.2.2.2.1 k) q5) (x := x.1) hiP  q
    simp only [sp_XW, sp_cnt_app, sp_PG_G, sp_SG_G, sp_pr, sp_sh] at eP ⊢
    omega
theorem lx_line {l : Launch} {D : va_G} {q5 : Nat → ClassId} {u : sp_XT} (hu : sp_XC (u.1 0) u) {MM : va_W} (p1 p2 p3 : Int32) {x x' : sp_XS} {r : Int32} (h : sx_line p1 p2 p3 x = some (r, x')) : ∃ rm : Room, rm.cells = 0 ∧ rm.slots = 0 ∧ rm.frames ≤ 100 ∧ rm.locals ≤ 3000 ∧ sp_Li l yX9_line wsX9_line rm D q5 [.ref (u.1 0), .int p1, .int p2, .int p3] (sp_XW q5 u x ++ MM) r (sp_XW q5 u x' ++ MM) := ⟨rmX9_line, rfl, rfl, by decide, by decide, lx_line0 hu p1 p2 p3 _ (sp_ix_lt (by decide)) sp_ix_eq h⟩

theorem lx_size0 {l : Launch} {D : va_G} {q5 : Nat → ClassId} {u : sp_XT} (hu : sp_XC (u.1 0) u) {MM : va_W} (p1 p2 : Int32) (iP : Nat) (hiP : iP < 12) (fP : vp_in p1 12 → iP = p1.toNatClampNeg) {x x' : sp_XS} {r : Int32} (h : sx_size0 p1 p2 iP x = some (r, x')) : sp_Li l yX9_size wsX9_size rmX9_size D q5 [.ref (u.1 0), .int p1, .int p2] (sp_XW q5 u x ++ MM) r (sp_XW q5 u x' ++ MM) := by
  unfold sx_size0 at h
  obtain ⟨⟨r1, c1, c2⟩, hf, hz⟩ := sp_hc h
  obtain ⟨q1, q2⟩ := Prod.mk.inj (Option.some.inj hz)
  subst q1
  subst q2
  refine ⟨0, _, _, (sw_XS u.2.2.1 q5 u.2.2.2.2.1) ++ (sp_G 12 (fun k => sp_pr (u.2.2.2.2.2.1 k) q5) x.1 [iP]) ++ (sp_SG q5 4 u.2.2.2.2.2.2.1 x.2.1) ++ (sw_R (u.2.2.2.2.2.2.2 0) (u.2.2.2.2.2.2.2 1 0) q5 x.2.2.1.1 x.2.2.1.2.1 x.2.2.1.2.2) ++ (sp_pr (u.2.2.2.2.2.2.2 1) q5 x.2.2.2.1) ++ (sw_O (u.2.2.2.2.2.2.2 3) q5 x.2.2.2.2.2.1.1 x.2.2.2.2.2.1.2.1 x.2.2.2.2.2.1.2.2.1 x.2.2.2.2.2.1.2.2.2.1 x.2.2.2.2.2.1.2.2.2.2.1 x.2.2.2.2.2.1.2.2.2.2.2.1 x.2.2.2.2.2.1.2.2.2.2.2.2) ++ (sw_T (u.2.2.2.2.2.2.2 4) (u.2.2.2.2.2.2.2 5 0) q5 x.2.2.2.2.2.2.1.1 x.2.2.2.2.2.2.1.2.1 x.2.2.2.2.2.2.1.2.2.1 x.2.2.2.2.2.2.1.2.2.2) ++ (sp_pr (u.2.2.2.2.2.2.2 5) q5 x.2.2.2.2.2.2.2.1) ++ (sw_U (u.2.2.2.2.2.2.2 6) q5 x.2.2.2.2.2.2.2.2.1.1 x.2.2.2.2.2.2.2.2.1.2) ++ MM, by decide, c_X9_size u.1 u.2.1 (u.2.2.2.2.2.1 iP) (u.2.2.2.2.2.2.2 2) u.2.2.1 (u.2.2.2.2.2.2.2 0 0) (u.2.2.2.2.2.2.2 3 0) (u.2.2.2.2.2.2.2 4 0) (u.2.2.2.2.2.2.2 6 0) x.2.2.2.2.2.2.2.2.2.1 x.2.2.2.2.2.2.2.2.2.2.1 x.2.2.2.2.2.2.2.2.2.2.2.1 x.2.2.2.2.2.2.2.2.2.2.2.2 u.2.2.2.1 (x.1 iP).1 (x.1 iP).2.1 (x.1 iP).2.2.1 (x.1 iP).2.2.2.1 (x.1 iP).2.2.2.2.1 (x.1 iP).2.2.2.2.2.1 (x.1 iP).2.2.2.2.2.2 x.2.2.2.2.1.1 x.2.2.2.2.1.2 p1 p2 (fun hin => by rw [fP hin]; exact hu.2.1 _ (sp_in_lt hin)) hf, ?_, rfl, ?_⟩
  · refine sp_perm_of fun q => ?_
    have eP := sp_G1 (n := 12) (F := fun k => sp_pr (u.2.2.2.2.2.1 k) q5) (x := x.1) hiP  q
    simp only [sp_XW, sp_cnt_app, sp_PG_G, sp_SG_G, sp_pr, sp_sh] at eP ⊢
    omega
  · refine sp_perm_of fun q => ?_
    have eP := sp_G1 (n := 12) (F := fun k => sp_pr (u.2.2.2.2.2.1 k) q5) (x := x.1) hiP  q
    simp only [sp_XW, sp_cnt_app, sp_PG_G, sp_SG_G, sp_pr, sp_sh] at eP ⊢
    omega
theorem lx_size {l : Launch} {D : va_G} {q5 : Nat → ClassId} {u : sp_XT} (hu : sp_XC (u.1 0) u) {MM : va_W} (p1 p2 : Int32) {x x' : sp_XS} {r : Int32} (h : sx_size p1 p2 x = some (r, x')) : ∃ rm : Room, rm.cells = 0 ∧ rm.slots = 0 ∧ rm.frames ≤ 100 ∧ rm.locals ≤ 3000 ∧ sp_Li l yX9_size wsX9_size rm D q5 [.ref (u.1 0), .int p1, .int p2] (sp_XW q5 u x ++ MM) r (sp_XW q5 u x' ++ MM) := ⟨rmX9_size, rfl, rfl, by decide, by decide, lx_size0 hu p1 p2 _ (sp_ix_lt (by decide)) sp_ix_eq h⟩

theorem lx_rests0 {l : Launch} {D : va_G} {q5 : Nat → ClassId} {u : sp_XT} (hu : sp_XC (u.1 0) u) {MM : va_W} (p1 : Int32) (iP : Nat) (hiP : iP < 12) (fP : vp_in p1 12 → iP = p1.toNatClampNeg) {x x' : sp_XS} {r : Int32} (h : sx_rests0 p1 iP x = some (r, x')) : sp_Li l yX9_rests wsX9_rests rmX9_rests D q5 [.ref (u.1 0), .int p1] (sp_XW q5 u x ++ MM) r (sp_XW q5 u x' ++ MM) := by
  unfold sx_rests0 at h
  obtain ⟨r1, hf, hz⟩ := sp_hc h
  obtain ⟨q1, q2⟩ := Prod.mk.inj (Option.some.inj hz)
  subst q1
  subst q2
  refine ⟨1, _, _, (sw_XS u.2.2.1 q5 u.2.2.2.2.1) ++ (sp_G 12 (fun k => sp_pr (u.2.2.2.2.2.1 k) q5) x.1 [iP]) ++ (sp_SG q5 4 u.2.2.2.2.2.2.1 x.2.1) ++ (sw_R (u.2.2.2.2.2.2.2 0) (u.2.2.2.2.2.2.2 1 0) q5 x.2.2.1.1 x.2.2.1.2.1 x.2.2.1.2.2) ++ (sp_pr (u.2.2.2.2.2.2.2 1) q5 x.2.2.2.1) ++ (sw_Z (u.2.2.2.2.2.2.2 2) q5 x.2.2.2.2.1.1 x.2.2.2.2.1.2) ++ (sw_O (u.2.2.2.2.2.2.2 3) q5 x.2.2.2.2.2.1.1 x.2.2.2.2.2.1.2.1 x.2.2.2.2.2.1.2.2.1 x.2.2.2.2.2.1.2.2.2.1 x.2.2.2.2.2.1.2.2.2.2.1 x.2.2.2.2.2.1.2.2.2.2.2.1 x.2.2.2.2.2.1.2.2.2.2.2.2) ++ (sw_T (u.2.2.2.2.2.2.2 4) (u.2.2.2.2.2.2.2 5 0) q5 x.2.2.2.2.2.2.1.1 x.2.2.2.2.2.2.1.2.1 x.2.2.2.2.2.2.1.2.2.1 x.2.2.2.2.2.2.1.2.2.2) ++ (sp_pr (u.2.2.2.2.2.2.2 5) q5 x.2.2.2.2.2.2.2.1) ++ (sw_U (u.2.2.2.2.2.2.2 6) q5 x.2.2.2.2.2.2.2.2.1.1 x.2.2.2.2.2.2.2.2.1.2) ++ MM, by decide, c_X9_rests u.1 u.2.1 (u.2.2.2.2.2.1 iP) u.2.2.1 (u.2.2.2.2.2.2.2 0 0) (u.2.2.2.2.2.2.2 2 0) (u.2.2.2.2.2.2.2 3 0) (u.2.2.2.2.2.2.2 4 0) (u.2.2.2.2.2.2.2 6 0) x.2.2.2.2.2.2.2.2.2.1 x.2.2.2.2.2.2.2.2.2.2.1 x.2.2.2.2.2.2.2.2.2.2.2.1 x.2.2.2.2.2.2.2.2.2.2.2.2 u.2.2.2.1 (x.1 iP).1 (x.1 iP).2.1 (x.1 iP).2.2.1 (x.1 iP).2.2.2.1 (x.1 iP).2.2.2.2.1 (x.1 iP).2.2.2.2.2.1 (x.1 iP).2.2.2.2.2.2 p1 (fun hin => by rw [fP hin]; exact hu.2.1 _ (sp_in_lt hin)) hf, ?_, rfl, ?_⟩
  · refine sp_perm_of fun q => ?_
    have eP := sp_G1 (n := 12) (F := fun k => sp_pr (u.2.2.2.2.2.1 k) q5) (x := x.1) hiP  q
    simp only [sp_XW, sp_cnt_app, sp_PG_G, sp_SG_G, sp_pr, sp_sh] at eP ⊢
    omega
  · refine sp_perm_of fun q => ?_
    have eP := sp_G1 (n := 12) (F := fun k => sp_pr (u.2.2.2.2.2.1 k) q5) (x := x.1) hiP  q
    simp only [sp_XW, sp_cnt_app, sp_PG_G, sp_SG_G, sp_pr, sp_sh] at eP ⊢
    omega
theorem lx_rests {l : Launch} {D : va_G} {q5 : Nat → ClassId} {u : sp_XT} (hu : sp_XC (u.1 0) u) {MM : va_W} (p1 : Int32) {x x' : sp_XS} {r : Int32} (h : sx_rests p1 x = some (r, x')) : ∃ rm : Room, rm.cells = 0 ∧ rm.slots = 0 ∧ rm.frames ≤ 100 ∧ rm.locals ≤ 3000 ∧ sp_Li l yX9_rests wsX9_rests rm D q5 [.ref (u.1 0), .int p1] (sp_XW q5 u x ++ MM) r (sp_XW q5 u x' ++ MM) := ⟨rmX9_rests, rfl, rfl, by decide, by decide, lx_rests0 hu p1 _ (sp_ix_lt (by decide)) sp_ix_eq h⟩

theorem lx_truly0 {l : Launch} {D : va_G} {q5 : Nat → ClassId} {u : sp_XT} (hu : sp_XC (u.1 0) u) {MM : va_W} (p1 : Int32) (iP : Nat) (hiP : iP < 12) (fP : vp_in p1 12 → iP = p1.toNatClampNeg) {x x' : sp_XS} {r : Int32} (h : sx_truly0 p1 iP x = some (r, x')) : sp_Li l yX9_truly wsX9_truly rmX9_truly D q5 [.ref (u.1 0), .int p1] (sp_XW q5 u x ++ MM) r (sp_XW q5 u x' ++ MM) := by
  unfold sx_truly0 at h
  obtain ⟨r1, hf, hz⟩ := sp_hc h
  obtain ⟨q1, q2⟩ := Prod.mk.inj (Option.some.inj hz)
  subst q1
  subst q2
  refine ⟨1, _, _, (sw_XS u.2.2.1 q5 u.2.2.2.2.1) ++ (sp_G 12 (fun k => sp_pr (u.2.2.2.2.2.1 k) q5) x.1 [iP]) ++ (sp_SG q5 4 u.2.2.2.2.2.2.1 x.2.1) ++ (sw_R (u.2.2.2.2.2.2.2 0) (u.2.2.2.2.2.2.2 1 0) q5 x.2.2.1.1 x.2.2.1.2.1 x.2.2.1.2.2) ++ (sp_pr (u.2.2.2.2.2.2.2 1) q5 x.2.2.2.1) ++ (sw_Z (u.2.2.2.2.2.2.2 2) q5 x.2.2.2.2.1.1 x.2.2.2.2.1.2) ++ (sw_O (u.2.2.2.2.2.2.2 3) q5 x.2.2.2.2.2.1.1 x.2.2.2.2.2.1.2.1 x.2.2.2.2.2.1.2.2.1 x.2.2.2.2.2.1.2.2.2.1 x.2.2.2.2.2.1.2.2.2.2.1 x.2.2.2.2.2.1.2.2.2.2.2.1 x.2.2.2.2.2.1.2.2.2.2.2.2) ++ (sw_T (u.2.2.2.2.2.2.2 4) (u.2.2.2.2.2.2.2 5 0) q5 x.2.2.2.2.2.2.1.1 x.2.2.2.2.2.2.1.2.1 x.2.2.2.2.2.2.1.2.2.1 x.2.2.2.2.2.2.1.2.2.2) ++ (sp_pr (u.2.2.2.2.2.2.2 5) q5 x.2.2.2.2.2.2.2.1) ++ (sw_U (u.2.2.2.2.2.2.2 6) q5 x.2.2.2.2.2.2.2.2.1.1 x.2.2.2.2.2.2.2.2.1.2) ++ MM, by decide, c_X9_truly u.1 u.2.1 (u.2.2.2.2.2.1 iP) u.2.2.1 (u.2.2.2.2.2.2.2 0 0) (u.2.2.2.2.2.2.2 2 0) (u.2.2.2.2.2.2.2 3 0) (u.2.2.2.2.2.2.2 4 0) (u.2.2.2.2.2.2.2 6 0) x.2.2.2.2.2.2.2.2.2.1 x.2.2.2.2.2.2.2.2.2.2.1 x.2.2.2.2.2.2.2.2.2.2.2.1 x.2.2.2.2.2.2.2.2.2.2.2.2 u.2.2.2.1 (x.1 iP).1 (x.1 iP).2.1 (x.1 iP).2.2.1 (x.1 iP).2.2.2.1 (x.1 iP).2.2.2.2.1 (x.1 iP).2.2.2.2.2.1 (x.1 iP).2.2.2.2.2.2 p1 (fun hin => by rw [fP hin]; exact hu.2.1 _ (sp_in_lt hin)) hf, ?_, rfl, ?_⟩
  · refine sp_perm_of fun q => ?_
    have eP := sp_G1 (n := 12) (F := fun k => sp_pr (u.2.2.2.2.2.1 k) q5) (x := x.1) hiP  q
    simp only [sp_XW, sp_cnt_app, sp_PG_G, sp_SG_G, sp_pr, sp_sh] at eP ⊢
    omega
  · refine sp_perm_of fun q => ?_
    have eP := sp_G1 (n := 12) (F := fun k => sp_pr (u.2.2.2.2.2.1 k) q5) (x := x.1) hiP  q
    simp only [sp_XW, sp_cnt_app, sp_PG_G, sp_SG_G, sp_pr, sp_sh] at eP ⊢
    omega
theorem lx_truly {l : Launch} {D : va_G} {q5 : Nat → ClassId} {u : sp_XT} (hu : sp_XC (u.1 0) u) {MM : va_W} (p1 : Int32) {x x' : sp_XS} {r : Int32} (h : sx_truly p1 x = some (r, x')) : ∃ rm : Room, rm.cells = 0 ∧ rm.slots = 0 ∧ rm.frames ≤ 100 ∧ rm.locals ≤ 3000 ∧ sp_Li l yX9_truly wsX9_truly rm D q5 [.ref (u.1 0), .int p1] (sp_XW q5 u x ++ MM) r (sp_XW q5 u x' ++ MM) := ⟨rmX9_truly, rfl, rfl, by decide, by decide, lx_truly0 hu p1 _ (sp_ix_lt (by decide)) sp_ix_eq h⟩

theorem lx_fewest0 {l : Launch} {D : va_G} {q5 : Nat → ClassId} {u : sp_XT} (hu : sp_XC (u.1 0) u) {MM : va_W} (p1 p2 : Int32) (iP : Nat) (hiP : iP < 12) (fP : vp_in p1 12 → iP = p1.toNatClampNeg) {x x' : sp_XS} {r : Int32} (h : sx_fewest0 p1 p2 iP x = some (r, x')) : sp_Li l yX9_fewest wsX9_fewest rmX9_fewest D q5 [.ref (u.1 0), .int p1, .int p2] (sp_XW q5 u x ++ MM) r (sp_XW q5 u x' ++ MM) := by
  unfold sx_fewest0 at h
  obtain ⟨⟨r1, c1, c2, c3, c4, c5, c6, c7, c8⟩, hf, hz⟩ := sp_hc h
  obtain ⟨q1, q2⟩ := Prod.mk.inj (Option.some.inj hz)
  subst q1
  subst q2
  refine ⟨1, _, _, (sw_XS u.2.2.1 q5 u.2.2.2.2.1) ++ (sp_G 12 (fun k => sp_pr (u.2.2.2.2.2.1 k) q5) x.1 [iP]) ++ (sp_SG q5 4 u.2.2.2.2.2.2.1 x.2.1) ++ (sw_R (u.2.2.2.2.2.2.2 0) (u.2.2.2.2.2.2.2 1 0) q5 x.2.2.1.1 x.2.2.1.2.1 x.2.2.1.2.2) ++ (sp_pr (u.2.2.2.2.2.2.2 1) q5 x.2.2.2.1) ++ (sw_Z (u.2.2.2.2.2.2.2 2) q5 x.2.2.2.2.1.1 x.2.2.2.2.1.2) ++ (sw_T (u.2.2.2.2.2.2.2 4) (u.2.2.2.2.2.2.2 5 0) q5 x.2.2.2.2.2.2.1.1 x.2.2.2.2.2.2.1.2.1 x.2.2.2.2.2.2.1.2.2.1 x.2.2.2.2.2.2.1.2.2.2) ++ (sp_pr (u.2.2.2.2.2.2.2 5) q5 x.2.2.2.2.2.2.2.1) ++ (sw_U (u.2.2.2.2.2.2.2 6) q5 x.2.2.2.2.2.2.2.2.1.1 x.2.2.2.2.2.2.2.2.1.2) ++ MM, by decide, c_X9_fewest u.1 u.2.1 (u.2.2.2.2.2.1 iP) (u.2.2.2.2.2.2.2 3) u.2.2.1 (u.2.2.2.2.2.2.2 0 0) (u.2.2.2.2.2.2.2 2 0) (u.2.2.2.2.2.2.2 4 0) (u.2.2.2.2.2.2.2 6 0) x.2.2.2.2.2.2.2.2.2.1 x.2.2.2.2.2.2.2.2.2.2.1 x.2.2.2.2.2.2.2.2.2.2.2.1 x.2.2.2.2.2.2.2.2.2.2.2.2 u.2.2.2.1 (x.1 iP).1 (x.1 iP).2.1 (x.1 iP).2.2.1 (x.1 iP).2.2.2.1 (x.1 iP).2.2.2.2.1 (x.1 iP).2.2.2.2.2.1 (x.1 iP).2.2.2.2.2.2 x.2.2.2.2.2.1.1 x.2.2.2.2.2.1.2.1 x.2.2.2.2.2.1.2.2.1 x.2.2.2.2.2.1.2.2.2.1 x.2.2.2.2.2.1.2.2.2.2.1 x.2.2.2.2.2.1.2.2.2.2.2.1 x.2.2.2.2.2.1.2.2.2.2.2.2 p1 p2 (fun hin => by rw [fP hin]; exact hu.2.1 _ (sp_in_lt hin)) hf, ?_, rfl, ?_⟩
  · refine sp_perm_of fun q => ?_
    have eP := sp_G1 (n := 12) (F := fun k => sp_pr (u.2.2.2.2.2.1 k) q5) (x := x.1) hiP  q
    simp only [sp_XW, sp_cnt_app, sp_PG_G, sp_SG_G, sp_pr, sp_sh] at eP ⊢
    omega
  · refine sp_perm_of fun q => ?_
    have eP := sp_G1 (n := 12) (F := fun k => sp_pr (u.2.2.2.2.2.1 k) q5) (x := x.1) hiP  q
    simp only [sp_XW, sp_cnt_app, sp_PG_G, sp_SG_G, sp_pr, sp_sh] at eP ⊢
    omega
theorem lx_fewest {l : Launch} {D : va_G} {q5 : Nat → ClassId} {u : sp_XT} (hu : sp_XC (u.1 0) u) {MM : va_W} (p1 p2 : Int32) {x x' : sp_XS} {r : Int32} (h : sx_fewest p1 p2 x = some (r, x')) : ∃ rm : Room, rm.cells = 0 ∧ rm.slots = 0 ∧ rm.frames ≤ 100 ∧ rm.locals ≤ 3000 ∧ sp_Li l yX9_fewest wsX9_fewest rm D q5 [.ref (u.1 0), .int p1, .int p2] (sp_XW q5 u x ++ MM) r (sp_XW q5 u x' ++ MM) := ⟨rmX9_fewest, rfl, rfl, by decide, by decide, lx_fewest0 hu p1 p2 _ (sp_ix_lt (by decide)) sp_ix_eq h⟩

theorem lx_shorter0 {l : Launch} {D : va_G} {q5 : Nat → ClassId} {u : sp_XT} (hu : sp_XC (u.1 0) u) {MM : va_W} (p1 p2 : Int32) {x : sp_XS} (iP : Nat) (hiP : iP < 12) (iT : Nat) (hiT : iT < 12) (fP : vp_in p1 12 → iP = p1.toNatClampNeg) (fT : vp_in x.2.2.2.2.2.2.2.2.2.1 12 → iT = x.2.2.2.2.2.2.2.2.2.1.toNatClampNeg) (dPT : iT ≠ iP) {x' : sp_XS} {r : Int32} (h : sx_shorter0 p1 p2 iP iT x = some (r, x')) : sp_Li l yX9_shorter wsX9_shorter rmX9_shorter D q5 [.ref (u.1 0), .int p1, .int p2] (sp_XW q5 u x ++ MM) r (sp_XW q5 u x' ++ MM) := by
  unfold sx_shorter0 at h
  obtain ⟨⟨r1, c1, c2, c3, c4, c5, c6, c7, c8, c9, c10, c11, c12, c13, c14, c15, c16, c17, c18, c19⟩, hf, hz⟩ := sp_hc h
  obtain ⟨q1, q2⟩ := Prod.mk.inj (Option.some.inj hz)
  subst q1
  subst q2
  refine ⟨1, _, _, (sw_XS u.2.2.1 q5 u.2.2.2.2.1) ++ (sp_G 12 (fun k => sp_pr (u.2.2.2.2.2.1 k) q5) x.1 [iT, iP]) ++ (sp_SG q5 4 u.2.2.2.2.2.2.1 x.2.1) ++ (sw_R (u.2.2.2.2.2.2.2 0) (u.2.2.2.2.2.2.2 1 0) q5 x.2.2.1.1 x.2.2.1.2.1 x.2.2.1.2.2) ++ (sp_pr (u.2.2.2.2.2.2.2 1) q5 x.2.2.2.1) ++ (sw_Z (u.2.2.2.2.2.2.2 2) q5 x.2.2.2.2.1.1 x.2.2.2.2.1.2) ++ (sw_O (u.2.2.2.2.2.2.2 3) q5 x.2.2.2.2.2.1.1 x.2.2.2.2.2.1.2.1 x.2.2.2.2.2.1.2.2.1 x.2.2.2.2.2.1.2.2.2.1 x.2.2.2.2.2.1.2.2.2.2.1 x.2.2.2.2.2.1.2.2.2.2.2.1 x.2.2.2.2.2.1.2.2.2.2.2.2) ++ (sw_U (u.2.2.2.2.2.2.2 6) q5 x.2.2.2.2.2.2.2.2.1.1 x.2.2.2.2.2.2.2.2.1.2) ++ MM, by decide, c_X9_shorter u.1 u.2.1 (u.2.2.2.2.2.1 iP) (u.2.2.2.2.2.1 iT) (u.2.2.2.2.2.2.2 4) (u.2.2.2.2.2.2.2 5) u.2.2.1 (u.2.2.2.2.2.2.2 0 0) (u.2.2.2.2.2.2.2 2 0) (u.2.2.2.2.2.2.2 3 0) (u.2.2.2.2.2.2.2 6 0) x.2.2.2.2.2.2.2.2.2.1 x.2.2.2.2.2.2.2.2.2.2.1 x.2.2.2.2.2.2.2.2.2.2.2.1 x.2.2.2.2.2.2.2.2.2.2.2.2 u.2.2.2.1 (x.1 iP).1 (x.1 iP).2.1 (x.1 iP).2.2.1 (x.1 iP).2.2.2.1 (x.1 iP).2.2.2.2.1 (x.1 iP).2.2.2.2.2.1 (x.1 iP).2.2.2.2.2.2 (x.1 iT).1 (x.1 iT).2.1 (x.1 iT).2.2.1 (x.1 iT).2.2.2.1 (x.1 iT).2.2.2.2.1 (x.1 iT).2.2.2.2.2.1 (x.1 iT).2.2.2.2.2.2 x.2.2.2.2.2.2.1.1 x.2.2.2.2.2.2.1.2.1 x.2.2.2.2.2.2.1.2.2.1 x.2.2.2.2.2.2.1.2.2.2 x.2.2.2.2.2.2.2.1.1 x.2.2.2.2.2.2.2.1.2.1 x.2.2.2.2.2.2.2.1.2.2.1 x.2.2.2.2.2.2.2.1.2.2.2.1 x.2.2.2.2.2.2.2.1.2.2.2.2.1 x.2.2.2.2.2.2.2.1.2.2.2.2.2.1 x.2.2.2.2.2.2.2.1.2.2.2.2.2.2 p1 p2 (fun hin => by rw [fP hin]; exact hu.2.1 _ (sp_in_lt hin)) (fun hin => by rw [fT hin]; exact hu.2.1 _ (sp_in_lt hin)) hf, ?_, rfl, ?_⟩
  · refine sp_perm_of fun q => ?_
    have eP := sp_G2 (n := 12) (F := fun k => sp_pr (u.2.2.2.2.2.1 k) q5) (x := x.1) hiP hiT dPT q
    simp only [sp_XW, sp_cnt_app, sp_PG_G, sp_SG_G, sp_pr, sp_sh] at eP ⊢
    omega
  · refine sp_perm_of fun q => ?_
    have eP := sp_U2 (n := 12) (F := fun k => sp_pr (u.2.2.2.2.2.1 k) q5) (x := x.1) (v := (c2, c3, c4, c5, c6, c7, c8)) hiP hiT dPT q
    simp only [sp_XW, sp_cnt_app, sp_PG_G, sp_SG_G, sp_pr, sp_sh] at eP ⊢
    omega
theorem lx_shorter_un {l : Launch} {D : va_G} {q5 : Nat → ClassId} {u : sp_XT} (hu : sp_XC (u.1 0) u) {MM : va_W} (p1 p2 : Int32) {x x' : sp_XS} {r : Int32} (h : sx_shorter_un p1 p2  x = some (r, x')) : sp_Li l yX9_shorter wsX9_shorter rmX9_shorter_un D q5 [.ref (u.1 0), .int p1, .int p2] (sp_XW q5 u x ++ MM) r (sp_XW q5 u x' ++ MM) := by
  unfold sx_shorter_un at h
  obtain ⟨r1, hf, hz⟩ := sp_hc h
  obtain ⟨q1, q2⟩ := Prod.mk.inj (Option.some.inj hz)
  subst q1
  subst q2
  refine ⟨0, _, _, (sw_XP u.2.1 q5 u.2.2.2.1) ++ (sw_XS u.2.2.1 q5 u.2.2.2.2.1) ++ (sp_PG q5 12 u.2.2.2.2.2.1 x.1) ++ (sp_SG q5 4 u.2.2.2.2.2.2.1 x.2.1) ++ (sw_R (u.2.2.2.2.2.2.2 0) (u.2.2.2.2.2.2.2 1 0) q5 x.2.2.1.1 x.2.2.1.2.1 x.2.2.1.2.2) ++ (sp_pr (u.2.2.2.2.2.2.2 1) q5 x.2.2.2.1) ++ (sw_Z (u.2.2.2.2.2.2.2 2) q5 x.2.2.2.2.1.1 x.2.2.2.2.1.2) ++ (sw_O (u.2.2.2.2.2.2.2 3) q5 x.2.2.2.2.2.1.1 x.2.2.2.2.2.1.2.1 x.2.2.2.2.2.1.2.2.1 x.2.2.2.2.2.1.2.2.2.1 x.2.2.2.2.2.1.2.2.2.2.1 x.2.2.2.2.2.1.2.2.2.2.2.1 x.2.2.2.2.2.1.2.2.2.2.2.2) ++ (sw_T (u.2.2.2.2.2.2.2 4) (u.2.2.2.2.2.2.2 5 0) q5 x.2.2.2.2.2.2.1.1 x.2.2.2.2.2.2.1.2.1 x.2.2.2.2.2.2.1.2.2.1 x.2.2.2.2.2.2.1.2.2.2) ++ (sp_pr (u.2.2.2.2.2.2.2 5) q5 x.2.2.2.2.2.2.2.1) ++ (sw_U (u.2.2.2.2.2.2.2 6) q5 x.2.2.2.2.2.2.2.2.1.1 x.2.2.2.2.2.2.2.2.1.2) ++ MM, by decide, c_X9_shorter_un u.1 u.2.1 u.2.2.1 (u.2.2.2.2.2.2.2 0 0) (u.2.2.2.2.2.2.2 2 0) (u.2.2.2.2.2.2.2 3 0) (u.2.2.2.2.2.2.2 4 0) (u.2.2.2.2.2.2.2 6 0) x.2.2.2.2.2.2.2.2.2.1 x.2.2.2.2.2.2.2.2.2.2.1 x.2.2.2.2.2.2.2.2.2.2.2.1 x.2.2.2.2.2.2.2.2.2.2.2.2 p1 p2 hf, ?_, rfl, ?_⟩
  · refine sp_perm_of fun q => ?_
    simp only [sp_XW, sp_cnt_app, sp_PG_G, sp_SG_G, sp_pr, sp_sh] at ⊢
    omega
  · refine sp_perm_of fun q => ?_
    simp only [sp_XW, sp_cnt_app, sp_PG_G, sp_SG_G, sp_pr, sp_sh] at ⊢
    omega
theorem lx_shorter {l : Launch} {D : va_G} {q5 : Nat → ClassId} {u : sp_XT} (hu : sp_XC (u.1 0) u) {MM : va_W} (p1 p2 : Int32) {x x' : sp_XS} {r : Int32} (h : sx_shorter p1 p2 x = some (r, x')) : ∃ rm : Room, rm.cells = 0 ∧ rm.slots = 0 ∧ rm.frames ≤ 100 ∧ rm.locals ≤ 3000 ∧ sp_Li l yX9_shorter wsX9_shorter rm D q5 [.ref (u.1 0), .int p1, .int p2] (sp_XW q5 u x ++ MM) r (sp_XW q5 u x' ++ MM) := by
  unfold sx_shorter at h
  split at h
  · rename_i he
    have h1 := sp_ok_in.mp he.1
    exact ⟨rmX9_shorter, rfl, rfl, by decide, by decide, lx_shorter0 hu p1 p2 _ (sp_in_lt h1) _ sp_ixT_lt (fun _ => rfl) sp_ixT_eq (sp_ixT_ne h1 he.2 h1 he.2).1 h⟩
  · exact ⟨rmX9_shorter_un, rfl, rfl, by decide, by decide, lx_shorter_un hu p1 p2 h⟩

theorem lx_safe0 {l : Launch} {D : va_G} {q5 : Nat → ClassId} {u : sp_XT} (hu : sp_XC (u.1 0) u) {MM : va_W} (p1 p2 : Int32) (iP : Nat) (hiP : iP < 12) (fP : vp_in p1 12 → iP = p1.toNatClampNeg) {x x' : sp_XS} {r : Int32} (h : sx_safe0 p1 p2 iP x = some (r, x')) : sp_Li l yX9_safe wsX9_safe rmX9_safe D q5 [.ref (u.1 0), .int p1, .int p2] (sp_XW q5 u x ++ MM) r (sp_XW q5 u x' ++ MM) := by
  unfold sx_safe0 at h
  obtain ⟨⟨r1, c1⟩, hf, hz⟩ := sp_hc h
  obtain ⟨q1, q2⟩ := Prod.mk.inj (Option.some.inj hz)
  subst q1
  subst q2
  refine ⟨1, _, _, (sw_XS u.2.2.1 q5 u.2.2.2.2.1) ++ (sp_G 12 (fun k => sp_pr (u.2.2.2.2.2.1 k) q5) x.1 [iP]) ++ (sp_SG q5 4 u.2.2.2.2.2.2.1 x.2.1) ++ (sw_R (u.2.2.2.2.2.2.2 0) (u.2.2.2.2.2.2.2 1 0) q5 x.2.2.1.1 x.2.2.1.2.1 x.2.2.1.2.2) ++ (sp_pr (u.2.2.2.2.2.2.2 1) q5 x.2.2.2.1) ++ (sw_Z (u.2.2.2.2.2.2.2 2) q5 x.2.2.2.2.1.1 x.2.2.2.2.1.2) ++ (sw_O (u.2.2.2.2.2.2.2 3) q5 x.2.2.2.2.2.1.1 x.2.2.2.2.2.1.2.1 x.2.2.2.2.2.1.2.2.1 x.2.2.2.2.2.1.2.2.2.1 x.2.2.2.2.2.1.2.2.2.2.1 x.2.2.2.2.2.1.2.2.2.2.2.1 x.2.2.2.2.2.1.2.2.2.2.2.2) ++ (sw_U (u.2.2.2.2.2.2.2 6) q5 x.2.2.2.2.2.2.2.2.1.1 x.2.2.2.2.2.2.2.2.1.2) ++ MM, by decide, c_X9_safe u.1 u.2.1 (u.2.2.2.2.2.1 iP) (u.2.2.2.2.2.2.2 4) (u.2.2.2.2.2.2.2 5) u.2.2.1 (u.2.2.2.2.2.2.2 0 0) (u.2.2.2.2.2.2.2 2 0) (u.2.2.2.2.2.2.2 3 0) (u.2.2.2.2.2.2.2 6 0) x.2.2.2.2.2.2.2.2.2.1 x.2.2.2.2.2.2.2.2.2.2.1 x.2.2.2.2.2.2.2.2.2.2.2.1 x.2.2.2.2.2.2.2.2.2.2.2.2 u.2.2.2.1 (x.1 iP).1 (x.1 iP).2.1 (x.1 iP).2.2.1 (x.1 iP).2.2.2.1 (x.1 iP).2.2.2.2.1 (x.1 iP).2.2.2.2.2.1 (x.1 iP).2.2.2.2.2.2 x.2.2.2.2.2.2.1.1 x.2.2.2.2.2.2.1.2.1 x.2.2.2.2.2.2.1.2.2.1 x.2.2.2.2.2.2.1.2.2.2 x.2.2.2.2.2.2.2.1.1 x.2.2.2.2.2.2.2.1.2.1 x.2.2.2.2.2.2.2.1.2.2.1 x.2.2.2.2.2.2.2.1.2.2.2.1 x.2.2.2.2.2.2.2.1.2.2.2.2.1 x.2.2.2.2.2.2.2.1.2.2.2.2.2.1 x.2.2.2.2.2.2.2.1.2.2.2.2.2.2 p1 p2 (fun hin => by rw [fP hin]; exact hu.2.1 _ (sp_in_lt hin)) hf, ?_, rfl, ?_⟩
  · refine sp_perm_of fun q => ?_
    have eP := sp_G1 (n := 12) (F := fun k => sp_pr (u.2.2.2.2.2.1 k) q5) (x := x.1) hiP  q
    simp only [sp_XW, sp_cnt_app, sp_PG_G, sp_SG_G, sp_pr, sp_sh] at eP ⊢
    omega
  · refine sp_perm_of fun q => ?_
    have eP := sp_G1 (n := 12) (F := fun k => sp_pr (u.2.2.2.2.2.1 k) q5) (x := x.1) hiP  q
    simp only [sp_XW, sp_cnt_app, sp_PG_G, sp_SG_G, sp_pr, sp_sh] at eP ⊢
    omega
theorem lx_safe {l : Launch} {D : va_G} {q5 : Nat → ClassId} {u : sp_XT} (hu : sp_XC (u.1 0) u) {MM : va_W} (p1 p2 : Int32) {x x' : sp_XS} {r : Int32} (h : sx_safe p1 p2 x = some (r, x')) : ∃ rm : Room, rm.cells = 0 ∧ rm.slots = 0 ∧ rm.frames ≤ 100 ∧ rm.locals ≤ 3000 ∧ sp_Li l yX9_safe wsX9_safe rm D q5 [.ref (u.1 0), .int p1, .int p2] (sp_XW q5 u x ++ MM) r (sp_XW q5 u x' ++ MM) := ⟨rmX9_safe, rfl, rfl, by decide, by decide, lx_safe0 hu p1 p2 _ (sp_ix_lt (by decide)) sp_ix_eq h⟩

theorem lx_twice0 {l : Launch} {D : va_G} {q5 : Nat → ClassId} {u : sp_XT} (hu : sp_XC (u.1 0) u) {MM : va_W} (p1 : Int32) (iP : Nat) (hiP : iP < 12) (fP : vp_in p1 12 → iP = p1.toNatClampNeg) {x x' : sp_XS} {r : Int32} (h : sx_twice0 p1 iP x = some (r, x')) : sp_Li l yX9_twice wsX9_twice rmX9_twice D q5 [.ref (u.1 0), .int p1] (sp_XW q5 u x ++ MM) r (sp_XW q5 u x' ++ MM) := by
  unfold sx_twice0 at h
  obtain ⟨r1, hf, hz⟩ := sp_hc h
  obtain ⟨q1, q2⟩ := Prod.mk.inj (Option.some.inj hz)
  subst q1
  subst q2
  refine ⟨0, _, _, (sw_XS u.2.2.1 q5 u.2.2.2.2.1) ++ (sp_G 12 (fun k => sp_pr (u.2.2.2.2.2.1 k) q5) x.1 [iP]) ++ (sp_SG q5 4 u.2.2.2.2.2.2.1 x.2.1) ++ (sw_R (u.2.2.2.2.2.2.2 0) (u.2.2.2.2.2.2.2 1 0) q5 x.2.2.1.1 x.2.2.1.2.1 x.2.2.1.2.2) ++ (sp_pr (u.2.2.2.2.2.2.2 1) q5 x.2.2.2.1) ++ (sw_Z (u.2.2.2.2.2.2.2 2) q5 x.2.2.2.2.1.1 x.2.2.2.2.1.2) ++ (sw_O (u.2.2.2.2.2.2.2 3) q5 x.2.2.2.2.2.1.1 x.2.2.2.2.2.1.2.1 x.2.2.2.2.2.1.2.2.1 x.2.2.2.2.2.1.2.2.2.1 x.2.2.2.2.2.1.2.2.2.2.1 x.2.2.2.2.2.1.2.2.2.2.2.1 x.2.2.2.2.2.1.2.2.2.2.2.2) ++ (sw_T (u.2.2.2.2.2.2.2 4) (u.2.2.2.2.2.2.2 5 0) q5 x.2.2.2.2.2.2.1.1 x.2.2.2.2.2.2.1.2.1 x.2.2.2.2.2.2.1.2.2.1 x.2.2.2.2.2.2.1.2.2.2) ++ (sp_pr (u.2.2.2.2.2.2.2 5) q5 x.2.2.2.2.2.2.2.1) ++ (sw_U (u.2.2.2.2.2.2.2 6) q5 x.2.2.2.2.2.2.2.2.1.1 x.2.2.2.2.2.2.2.2.1.2) ++ MM, by decide, c_X9_twice u.1 u.2.1 (u.2.2.2.2.2.1 iP) u.2.2.1 (u.2.2.2.2.2.2.2 0 0) (u.2.2.2.2.2.2.2 2 0) (u.2.2.2.2.2.2.2 3 0) (u.2.2.2.2.2.2.2 4 0) (u.2.2.2.2.2.2.2 6 0) x.2.2.2.2.2.2.2.2.2.1 x.2.2.2.2.2.2.2.2.2.2.1 x.2.2.2.2.2.2.2.2.2.2.2.1 x.2.2.2.2.2.2.2.2.2.2.2.2 u.2.2.2.1 (x.1 iP).1 (x.1 iP).2.1 (x.1 iP).2.2.1 (x.1 iP).2.2.2.1 (x.1 iP).2.2.2.2.1 (x.1 iP).2.2.2.2.2.1 (x.1 iP).2.2.2.2.2.2 p1 (fun hin => by rw [fP hin]; exact hu.2.1 _ (sp_in_lt hin)) hf, ?_, rfl, ?_⟩
  · refine sp_perm_of fun q => ?_
    have eP := sp_G1 (n := 12) (F := fun k => sp_pr (u.2.2.2.2.2.1 k) q5) (x := x.1) hiP  q
    simp only [sp_XW, sp_cnt_app, sp_PG_G, sp_SG_G, sp_pr, sp_sh] at eP ⊢
    omega
  · refine sp_perm_of fun q => ?_
    have eP := sp_G1 (n := 12) (F := fun k => sp_pr (u.2.2.2.2.2.1 k) q5) (x := x.1) hiP  q
    simp only [sp_XW, sp_cnt_app, sp_PG_G, sp_SG_G, sp_pr, sp_sh] at eP ⊢
    omega
theorem lx_twice {l : Launch} {D : va_G} {q5 : Nat → ClassId} {u : sp_XT} (hu : sp_XC (u.1 0) u) {MM : va_W} (p1 : Int32) {x x' : sp_XS} {r : Int32} (h : sx_twice p1 x = some (r, x')) : ∃ rm : Room, rm.cells = 0 ∧ rm.slots = 0 ∧ rm.frames ≤ 100 ∧ rm.locals ≤ 3000 ∧ sp_Li l yX9_twice wsX9_twice rm D q5 [.ref (u.1 0), .int p1] (sp_XW q5 u x ++ MM) r (sp_XW q5 u x' ++ MM) := ⟨rmX9_twice, rfl, rfl, by decide, by decide, lx_twice0 hu p1 _ (sp_ix_lt (by decide)) sp_ix_eq h⟩

theorem lx_heap0 {l : Launch} {D : va_G} {q5 : Nat → ClassId} {u : sp_XT} (hu : sp_XC (u.1 0) u) {MM : va_W} (p1 p2 : Int32) {x : sp_XS} (iP : Nat) (hiP : iP < 12) (iQ : Nat) (hiQ : iQ < 12) (iT : Nat) (hiT : iT < 12) (fP : vp_in p1 12 → iP = p1.toNatClampNeg) (fQ : vp_in p2 12 → iQ = p2.toNatClampNeg) (fT : vp_in x.2.2.2.2.2.2.2.2.2.1 12 → iT = x.2.2.2.2.2.2.2.2.2.1.toNatClampNeg) (dPQ : iQ ≠ iP) (dPT : iT ≠ iP) (dQT : iT ≠ iQ) {x' : sp_XS} {r : Int32} (h : sx_heap0 p1 p2 iP iQ iT x = some (r, x')) : sp_Li l yX9_heap wsX9_heap rmX9_heap D q5 [.ref (u.1 0), .int p1, .int p2] (sp_XW q5 u x ++ MM) r (sp_XW q5 u x' ++ MM) := by
  unfold sx_heap0 at h
  obtain ⟨⟨r1, c1, c2, c3, c4, c5, c6, c7, c8, c9, c10, c11, c12, c13, c14, c15, c16, c17⟩, hf, hz⟩ := sp_hc h
  obtain ⟨q1, q2⟩ := Prod.mk.inj (Option.some.inj hz)
  subst q1
  subst q2
  refine ⟨1, _, _, (sw_XS u.2.2.1 q5 u.2.2.2.2.1) ++ (sp_G 12 (fun k => sp_pr (u.2.2.2.2.2.1 k) q5) x.1 [iT, iQ, iP]) ++ (sp_SG q5 4 u.2.2.2.2.2.2.1 x.2.1) ++ (sw_R (u.2.2.2.2.2.2.2 0) (u.2.2.2.2.2.2.2 1 0) q5 x.2.2.1.1 x.2.2.1.2.1 x.2.2.1.2.2) ++ (sp_pr (u.2.2.2.2.2.2.2 1) q5 x.2.2.2.1) ++ (sw_Z (u.2.2.2.2.2.2.2 2) q5 x.2.2.2.2.1.1 x.2.2.2.2.1.2) ++ (sw_O (u.2.2.2.2.2.2.2 3) q5 x.2.2.2.2.2.1.1 x.2.2.2.2.2.1.2.1 x.2.2.2.2.2.1.2.2.1 x.2.2.2.2.2.1.2.2.2.1 x.2.2.2.2.2.1.2.2.2.2.1 x.2.2.2.2.2.1.2.2.2.2.2.1 x.2.2.2.2.2.1.2.2.2.2.2.2) ++ (sw_U (u.2.2.2.2.2.2.2 6) q5 x.2.2.2.2.2.2.2.2.1.1 x.2.2.2.2.2.2.2.2.1.2) ++ MM, by decide, c_X9_heap u.1 u.2.1 (u.2.2.2.2.2.1 iP) (u.2.2.2.2.2.1 iQ) (u.2.2.2.2.2.1 iT) (u.2.2.2.2.2.2.2 4) (u.2.2.2.2.2.2.2 5) u.2.2.1 (u.2.2.2.2.2.2.2 0 0) (u.2.2.2.2.2.2.2 2 0) (u.2.2.2.2.2.2.2 3 0) (u.2.2.2.2.2.2.2 6 0) x.2.2.2.2.2.2.2.2.2.1 x.2.2.2.2.2.2.2.2.2.2.1 x.2.2.2.2.2.2.2.2.2.2.2.1 x.2.2.2.2.2.2.2.2.2.2.2.2 u.2.2.2.1 (x.1 iP).1 (x.1 iP).2.1 (x.1 iP).2.2.1 (x.1 iP).2.2.2.1 (x.1 iP).2.2.2.2.1 (x.1 iP).2.2.2.2.2.1 (x.1 iP).2.2.2.2.2.2 (x.1 iQ).1 (x.1 iQ).2.1 (x.1 iQ).2.2.1 (x.1 iQ).2.2.2.1 (x.1 iQ).2.2.2.2.1 (x.1 iQ).2.2.2.2.2.1 (x.1 iQ).2.2.2.2.2.2 (x.1 iT).1 (x.1 iT).2.1 (x.1 iT).2.2.1 (x.1 iT).2.2.2.1 (x.1 iT).2.2.2.2.1 (x.1 iT).2.2.2.2.2.1 (x.1 iT).2.2.2.2.2.2 x.2.2.2.2.2.2.1.1 x.2.2.2.2.2.2.1.2.1 x.2.2.2.2.2.2.1.2.2.1 x.2.2.2.2.2.2.1.2.2.2 x.2.2.2.2.2.2.2.1.1 x.2.2.2.2.2.2.2.1.2.1 x.2.2.2.2.2.2.2.1.2.2.1 x.2.2.2.2.2.2.2.1.2.2.2.1 x.2.2.2.2.2.2.2.1.2.2.2.2.1 x.2.2.2.2.2.2.2.1.2.2.2.2.2.1 x.2.2.2.2.2.2.2.1.2.2.2.2.2.2 p1 p2 (fun hin => by rw [fP hin]; exact hu.2.1 _ (sp_in_lt hin)) (fun hin => by rw [fQ hin]; exact hu.2.1 _ (sp_in_lt hin)) (fun hin => by rw [fT hin]; exact hu.2.1 _ (sp_in_lt hin)) hf, ?_, rfl, ?_⟩
  · refine sp_perm_of fun q => ?_
    have eP := sp_G3 (n := 12) (F := fun k => sp_pr (u.2.2.2.2.2.1 k) q5) (x := x.1) hiP hiQ hiT dPQ dPT dQT q
    simp only [sp_XW, sp_cnt_app, sp_PG_G, sp_SG_G, sp_pr, sp_sh] at eP ⊢
    omega
  · refine sp_perm_of fun q => ?_
    have eP := sp_U3 (n := 12) (F := fun k => sp_pr (u.2.2.2.2.2.1 k) q5) (x := x.1) (v := (c2, c3, c4, c5, c6, c7, c8)) hiP hiQ hiT dPQ dPT dQT q
    simp only [sp_XW, sp_cnt_app, sp_PG_G, sp_SG_G, sp_pr, sp_sh] at eP ⊢
    omega
theorem lx_heap_un {l : Launch} {D : va_G} {q5 : Nat → ClassId} {u : sp_XT} (hu : sp_XC (u.1 0) u) {MM : va_W} (p1 p2 : Int32) {x x' : sp_XS} {r : Int32} (h : sx_heap_un p1 p2  x = some (r, x')) : sp_Li l yX9_heap wsX9_heap rmX9_heap_un D q5 [.ref (u.1 0), .int p1, .int p2] (sp_XW q5 u x ++ MM) r (sp_XW q5 u x' ++ MM) := by
  unfold sx_heap_un at h
  obtain ⟨r1, hf, hz⟩ := sp_hc h
  obtain ⟨q1, q2⟩ := Prod.mk.inj (Option.some.inj hz)
  subst q1
  subst q2
  refine ⟨0, _, _, (sw_XP u.2.1 q5 u.2.2.2.1) ++ (sw_XS u.2.2.1 q5 u.2.2.2.2.1) ++ (sp_PG q5 12 u.2.2.2.2.2.1 x.1) ++ (sp_SG q5 4 u.2.2.2.2.2.2.1 x.2.1) ++ (sw_R (u.2.2.2.2.2.2.2 0) (u.2.2.2.2.2.2.2 1 0) q5 x.2.2.1.1 x.2.2.1.2.1 x.2.2.1.2.2) ++ (sp_pr (u.2.2.2.2.2.2.2 1) q5 x.2.2.2.1) ++ (sw_Z (u.2.2.2.2.2.2.2 2) q5 x.2.2.2.2.1.1 x.2.2.2.2.1.2) ++ (sw_O (u.2.2.2.2.2.2.2 3) q5 x.2.2.2.2.2.1.1 x.2.2.2.2.2.1.2.1 x.2.2.2.2.2.1.2.2.1 x.2.2.2.2.2.1.2.2.2.1 x.2.2.2.2.2.1.2.2.2.2.1 x.2.2.2.2.2.1.2.2.2.2.2.1 x.2.2.2.2.2.1.2.2.2.2.2.2) ++ (sw_T (u.2.2.2.2.2.2.2 4) (u.2.2.2.2.2.2.2 5 0) q5 x.2.2.2.2.2.2.1.1 x.2.2.2.2.2.2.1.2.1 x.2.2.2.2.2.2.1.2.2.1 x.2.2.2.2.2.2.1.2.2.2) ++ (sp_pr (u.2.2.2.2.2.2.2 5) q5 x.2.2.2.2.2.2.2.1) ++ (sw_U (u.2.2.2.2.2.2.2 6) q5 x.2.2.2.2.2.2.2.2.1.1 x.2.2.2.2.2.2.2.2.1.2) ++ MM, by decide, c_X9_heap_un u.1 u.2.1 u.2.2.1 (u.2.2.2.2.2.2.2 0 0) (u.2.2.2.2.2.2.2 2 0) (u.2.2.2.2.2.2.2 3 0) (u.2.2.2.2.2.2.2 4 0) (u.2.2.2.2.2.2.2 6 0) x.2.2.2.2.2.2.2.2.2.1 x.2.2.2.2.2.2.2.2.2.2.1 x.2.2.2.2.2.2.2.2.2.2.2.1 x.2.2.2.2.2.2.2.2.2.2.2.2 p1 p2 hf, ?_, rfl, ?_⟩
  · refine sp_perm_of fun q => ?_
    simp only [sp_XW, sp_cnt_app, sp_PG_G, sp_SG_G, sp_pr, sp_sh] at ⊢
    omega
  · refine sp_perm_of fun q => ?_
    simp only [sp_XW, sp_cnt_app, sp_PG_G, sp_SG_G, sp_pr, sp_sh] at ⊢
    omega
theorem lx_heap_al {l : Launch} {D : va_G} {q5 : Nat → ClassId} {u : sp_XT} (hu : sp_XC (u.1 0) u) {MM : va_W} (p1 p2 : Int32) {x : sp_XS} (iP : Nat) (hiP : iP < 12) (iT : Nat) (hiT : iT < 12) (fP : vp_in p1 12 → iP = p1.toNatClampNeg) (fQ : vp_in p2 12 → iP = p2.toNatClampNeg) (fT : vp_in x.2.2.2.2.2.2.2.2.2.1 12 → iT = x.2.2.2.2.2.2.2.2.2.1.toNatClampNeg) (dPT : iT ≠ iP) {x' : sp_XS} {r : Int32} (h : sx_heap_al p1 p2 iP iT x = some (r, x')) : sp_Li l yX9_heap wsX9_heap rmX9_heap_al D q5 [.ref (u.1 0), .int p1, .int p2] (sp_XW q5 u x ++ MM) r (sp_XW q5 u x' ++ MM) := by
  unfold sx_heap_al at h
  obtain ⟨⟨r1, c1, c2, c3, c4, c5, c6, c7, c8, c9, c10, c11, c12, c13, c14, c15, c16, c17⟩, hf, hz⟩ := sp_hc h
  obtain ⟨q1, q2⟩ := Prod.mk.inj (Option.some.inj hz)
  subst q1
  subst q2
  refine ⟨1, _, _, (sw_XS u.2.2.1 q5 u.2.2.2.2.1) ++ (sp_G 12 (fun k => sp_pr (u.2.2.2.2.2.1 k) q5) x.1 [iT, iP]) ++ (sp_SG q5 4 u.2.2.2.2.2.2.1 x.2.1) ++ (sw_R (u.2.2.2.2.2.2.2 0) (u.2.2.2.2.2.2.2 1 0) q5 x.2.2.1.1 x.2.2.1.2.1 x.2.2.1.2.2) ++ (sp_pr (u.2.2.2.2.2.2.2 1) q5 x.2.2.2.1) ++ (sw_Z (u.2.2.2.2.2.2.2 2) q5 x.2.2.2.2.1.1 x.2.2.2.2.1.2) ++ (sw_O (u.2.2.2.2.2.2.2 3) q5 x.2.2.2.2.2.1.1 x.2.2.2.2.2.1.2.1 x.2.2.2.2.2.1.2.2.1 x.2.2.2.2.2.1.2.2.2.1 x.2.2.2.2.2.1.2.2.2.2.1 x.2.2.2.2.2.1.2.2.2.2.2.1 x.2.2.2.2.2.1.2.2.2.2.2.2) ++ (sw_U (u.2.2.2.2.2.2.2 6) q5 x.2.2.2.2.2.2.2.2.1.1 x.2.2.2.2.2.2.2.2.1.2) ++ MM, by decide, c_X9_heap_al u.1 u.2.1 (u.2.2.2.2.2.1 iP) (u.2.2.2.2.2.1 iT) (u.2.2.2.2.2.2.2 4) (u.2.2.2.2.2.2.2 5) u.2.2.1 (u.2.2.2.2.2.2.2 0 0) (u.2.2.2.2.2.2.2 2 0) (u.2.2.2.2.2.2.2 3 0) (u.2.2.2.2.2.2.2 6 0) x.2.2.2.2.2.2.2.2.2.1 x.2.2.2.2.2.2.2.2.2.2.1 x.2.2.2.2.2.2.2.2.2.2.2.1 x.2.2.2.2.2.2.2.2.2.2.2.2 u.2.2.2.1 (x.1 iP).1 (x.1 iP).2.1 (x.1 iP).2.2.1 (x.1 iP).2.2.2.1 (x.1 iP).2.2.2.2.1 (x.1 iP).2.2.2.2.2.1 (x.1 iP).2.2.2.2.2.2 (x.1 iT).1 (x.1 iT).2.1 (x.1 iT).2.2.1 (x.1 iT).2.2.2.1 (x.1 iT).2.2.2.2.1 (x.1 iT).2.2.2.2.2.1 (x.1 iT).2.2.2.2.2.2 x.2.2.2.2.2.2.1.1 x.2.2.2.2.2.2.1.2.1 x.2.2.2.2.2.2.1.2.2.1 x.2.2.2.2.2.2.1.2.2.2 x.2.2.2.2.2.2.2.1.1 x.2.2.2.2.2.2.2.1.2.1 x.2.2.2.2.2.2.2.1.2.2.1 x.2.2.2.2.2.2.2.1.2.2.2.1 x.2.2.2.2.2.2.2.1.2.2.2.2.1 x.2.2.2.2.2.2.2.1.2.2.2.2.2.1 x.2.2.2.2.2.2.2.1.2.2.2.2.2.2 p1 p2 (fun hin => by rw [fP hin]; exact hu.2.1 _ (sp_in_lt hin)) (fun hin => by rw [fQ hin]; exact hu.2.1 _ (sp_in_lt hin)) (fun hin => by rw [fT hin]; exact hu.2.1 _ (sp_in_lt hin)) hf, ?_, rfl, ?_⟩
  · refine sp_perm_of fun q => ?_
    have eP := sp_G2 (n := 12) (F := fun k => sp_pr (u.2.2.2.2.2.1 k) q5) (x := x.1) hiP hiT dPT q
    simp only [sp_XW, sp_cnt_app, sp_PG_G, sp_SG_G, sp_pr, sp_sh] at eP ⊢
    omega
  · refine sp_perm_of fun q => ?_
    have eP := sp_U2 (n := 12) (F := fun k => sp_pr (u.2.2.2.2.2.1 k) q5) (x := x.1) (v := (c2, c3, c4, c5, c6, c7, c8)) hiP hiT dPT q
    simp only [sp_XW, sp_cnt_app, sp_PG_G, sp_SG_G, sp_pr, sp_sh] at eP ⊢
    omega
theorem lx_heap {l : Launch} {D : va_G} {q5 : Nat → ClassId} {u : sp_XT} (hu : sp_XC (u.1 0) u) {MM : va_W} (p1 p2 : Int32) {x x' : sp_XS} {r : Int32} (h : sx_heap p1 p2 x = some (r, x')) : ∃ rm : Room, rm.cells = 0 ∧ rm.slots = 0 ∧ rm.frames ≤ 100 ∧ rm.locals ≤ 3000 ∧ sp_Li l yX9_heap wsX9_heap rm D q5 [.ref (u.1 0), .int p1, .int p2] (sp_XW q5 u x ++ MM) r (sp_XW q5 u x' ++ MM) := by
  unfold sx_heap at h
  split at h
  · rename_i he
    have h1 := sp_ok_in.mp he.1
    have h2 := sp_ok_in.mp he.2.2.1
    split at h
    · rename_i hpq
      subst hpq
      exact ⟨rmX9_heap_al, rfl, rfl, by decide, by decide, lx_heap_al hu p1 p1 _ (sp_in_lt h1) _ sp_ixT_lt (fun _ => rfl) (fun _ => rfl) sp_ixT_eq (sp_ixT_ne h1 he.2.1 h1 he.2.1).1 h⟩
    · rename_i hpq
      exact ⟨rmX9_heap, rfl, rfl, by decide, by decide, lx_heap0 hu p1 p2 _ (sp_in_lt h1) _ (sp_in_lt h2) _ sp_ixT_lt (fun _ => rfl) (fun _ => rfl) sp_ixT_eq (fun e => hpq (sp_in_inj h1 h2 e.symm)) (sp_ixT_ne h1 he.2.1 h2 he.2.2.2).1 (sp_ixT_ne h1 he.2.1 h2 he.2.2.2).2 h⟩
  · exact ⟨rmX9_heap_un, rfl, rfl, by decide, by decide, lx_heap_un hu p1 p2 h⟩

theorem lx_shared0 {l : Launch} {D : va_G} {q5 : Nat → ClassId} {u : sp_XT} (hu : sp_XC (u.1 0) u) {MM : va_W} (p1 p2 : Int32) (iP : Nat) (hiP : iP < 12) (iQ : Nat) (hiQ : iQ < 12) (fP : vp_in p1 12 → iP = p1.toNatClampNeg) (fQ : vp_in p2 12 → iQ = p2.toNatClampNeg) (dPQ : iQ ≠ iP) {x x' : sp_XS} {r : Int32} (h : sx_shared0 p1 p2 iP iQ x = some (r, x')) : sp_Li l yX9_shared wsX9_shared rmX9_shared D q5 [.ref (u.1 0), .int p1, .int p2] (sp_XW q5 u x ++ MM) r (sp_XW q5 u x' ++ MM) := by
  unfold sx_shared0 at h
  obtain ⟨r1, hf, hz⟩ := sp_hc h
  obtain ⟨q1, q2⟩ := Prod.mk.inj (Option.some.inj hz)
  subst q1
  subst q2
  refine ⟨0, _, _, (sw_XS u.2.2.1 q5 u.2.2.2.2.1) ++ (sp_G 12 (fun k => sp_pr (u.2.2.2.2.2.1 k) q5) x.1 [iQ, iP]) ++ (sp_SG q5 4 u.2.2.2.2.2.2.1 x.2.1) ++ (sw_R (u.2.2.2.2.2.2.2 0) (u.2.2.2.2.2.2.2 1 0) q5 x.2.2.1.1 x.2.2.1.2.1 x.2.2.1.2.2) ++ (sp_pr (u.2.2.2.2.2.2.2 1) q5 x.2.2.2.1) ++ (sw_Z (u.2.2.2.2.2.2.2 2) q5 x.2.2.2.2.1.1 x.2.2.2.2.1.2) ++ (sw_O (u.2.2.2.2.2.2.2 3) q5 x.2.2.2.2.2.1.1 x.2.2.2.2.2.1.2.1 x.2.2.2.2.2.1.2.2.1 x.2.2.2.2.2.1.2.2.2.1 x.2.2.2.2.2.1.2.2.2.2.1 x.2.2.2.2.2.1.2.2.2.2.2.1 x.2.2.2.2.2.1.2.2.2.2.2.2) ++ (sw_T (u.2.2.2.2.2.2.2 4) (u.2.2.2.2.2.2.2 5 0) q5 x.2.2.2.2.2.2.1.1 x.2.2.2.2.2.2.1.2.1 x.2.2.2.2.2.2.1.2.2.1 x.2.2.2.2.2.2.1.2.2.2) ++ (sp_pr (u.2.2.2.2.2.2.2 5) q5 x.2.2.2.2.2.2.2.1) ++ (sw_U (u.2.2.2.2.2.2.2 6) q5 x.2.2.2.2.2.2.2.2.1.1 x.2.2.2.2.2.2.2.2.1.2) ++ MM, by decide, c_X9_shared u.1 u.2.1 (u.2.2.2.2.2.1 iP) (u.2.2.2.2.2.1 iQ) u.2.2.1 (u.2.2.2.2.2.2.2 0 0) (u.2.2.2.2.2.2.2 2 0) (u.2.2.2.2.2.2.2 3 0) (u.2.2.2.2.2.2.2 4 0) (u.2.2.2.2.2.2.2 6 0) x.2.2.2.2.2.2.2.2.2.1 x.2.2.2.2.2.2.2.2.2.2.1 x.2.2.2.2.2.2.2.2.2.2.2.1 x.2.2.2.2.2.2.2.2.2.2.2.2 u.2.2.2.1 (x.1 iP).1 (x.1 iP).2.1 (x.1 iP).2.2.1 (x.1 iP).2.2.2.1 (x.1 iP).2.2.2.2.1 (x.1 iP).2.2.2.2.2.1 (x.1 iP).2.2.2.2.2.2 (x.1 iQ).1 (x.1 iQ).2.1 (x.1 iQ).2.2.1 (x.1 iQ).2.2.2.1 (x.1 iQ).2.2.2.2.1 (x.1 iQ).2.2.2.2.2.1 (x.1 iQ).2.2.2.2.2.2 p1 p2 (fun hin => by rw [fP hin]; exact hu.2.1 _ (sp_in_lt hin)) (fun hin => by rw [fQ hin]; exact hu.2.1 _ (sp_in_lt hin)) hf, ?_, rfl, ?_⟩
  · refine sp_perm_of fun q => ?_
    have eP := sp_G2 (n := 12) (F := fun k => sp_pr (u.2.2.2.2.2.1 k) q5) (x := x.1) hiP hiQ dPQ q
    simp only [sp_XW, sp_cnt_app, sp_PG_G, sp_SG_G, sp_pr, sp_sh] at eP ⊢
    omega
  · refine sp_perm_of fun q => ?_
    have eP := sp_G2 (n := 12) (F := fun k => sp_pr (u.2.2.2.2.2.1 k) q5) (x := x.1) hiP hiQ dPQ q
    simp only [sp_XW, sp_cnt_app, sp_PG_G, sp_SG_G, sp_pr, sp_sh] at eP ⊢
    omega
theorem lx_shared_al {l : Launch} {D : va_G} {q5 : Nat → ClassId} {u : sp_XT} (hu : sp_XC (u.1 0) u) {MM : va_W} (p1 p2 : Int32) (iP : Nat) (hiP : iP < 12) (fP : vp_in p1 12 → iP = p1.toNatClampNeg) (fQ : vp_in p2 12 → iP = p2.toNatClampNeg) {x x' : sp_XS} {r : Int32} (h : sx_shared_al p1 p2 iP x = some (r, x')) : sp_Li l yX9_shared wsX9_shared rmX9_shared_al D q5 [.ref (u.1 0), .int p1, .int p2] (sp_XW q5 u x ++ MM) r (sp_XW q5 u x' ++ MM) := by
  unfold sx_shared_al at h
  obtain ⟨r1, hf, hz⟩ := sp_hc h
  obtain ⟨q1, q2⟩ := Prod.mk.inj (Option.some.inj hz)
  subst q1
  subst q2
  refine ⟨0, _, _, (sw_XS u.2.2.1 q5 u.2.2.2.2.1) ++ (sp_G 12 (fun k => sp_pr (u.2.2.2.2.2.1 k) q5) x.1 [iP]) ++ (sp_SG q5 4 u.2.2.2.2.2.2.1 x.2.1) ++ (sw_R (u.2.2.2.2.2.2.2 0) (u.2.2.2.2.2.2.2 1 0) q5 x.2.2.1.1 x.2.2.1.2.1 x.2.2.1.2.2) ++ (sp_pr (u.2.2.2.2.2.2.2 1) q5 x.2.2.2.1) ++ (sw_Z (u.2.2.2.2.2.2.2 2) q5 x.2.2.2.2.1.1 x.2.2.2.2.1.2) ++ (sw_O (u.2.2.2.2.2.2.2 3) q5 x.2.2.2.2.2.1.1 x.2.2.2.2.2.1.2.1 x.2.2.2.2.2.1.2.2.1 x.2.2.2.2.2.1.2.2.2.1 x.2.2.2.2.2.1.2.2.2.2.1 x.2.2.2.2.2.1.2.2.2.2.2.1 x.2.2.2.2.2.1.2.2.2.2.2.2) ++ (sw_T (u.2.2.2.2.2.2.2 4) (u.2.2.2.2.2.2.2 5 0) q5 x.2.2.2.2.2.2.1.1 x.2.2.2.2.2.2.1.2.1 x.2.2.2.2.2.2.1.2.2.1 x.2.2.2.2.2.2.1.2.2.2) ++ (sp_pr (u.2.2.2.2.2.2.2 5) q5 x.2.2.2.2.2.2.2.1) ++ (sw_U (u.2.2.2.2.2.2.2 6) q5 x.2.2.2.2.2.2.2.2.1.1 x.2.2.2.2.2.2.2.2.1.2) ++ MM, by decide, c_X9_shared_al u.1 u.2.1 (u.2.2.2.2.2.1 iP) u.2.2.1 (u.2.2.2.2.2.2.2 0 0) (u.2.2.2.2.2.2.2 2 0) (u.2.2.2.2.2.2.2 3 0) (u.2.2.2.2.2.2.2 4 0) (u.2.2.2.2.2.2.2 6 0) x.2.2.2.2.2.2.2.2.2.1 x.2.2.2.2.2.2.2.2.2.2.1 x.2.2.2.2.2.2.2.2.2.2.2.1 x.2.2.2.2.2.2.2.2.2.2.2.2 u.2.2.2.1 (x.1 iP).1 (x.1 iP).2.1 (x.1 iP).2.2.1 (x.1 iP).2.2.2.1 (x.1 iP).2.2.2.2.1 (x.1 iP).2.2.2.2.2.1 (x.1 iP).2.2.2.2.2.2 p1 p2 (fun hin => by rw [fP hin]; exact hu.2.1 _ (sp_in_lt hin)) (fun hin => by rw [fQ hin]; exact hu.2.1 _ (sp_in_lt hin)) hf, ?_, rfl, ?_⟩
  · refine sp_perm_of fun q => ?_
    have eP := sp_G1 (n := 12) (F := fun k => sp_pr (u.2.2.2.2.2.1 k) q5) (x := x.1) hiP  q
    simp only [sp_XW, sp_cnt_app, sp_PG_G, sp_SG_G, sp_pr, sp_sh] at eP ⊢
    omega
  · refine sp_perm_of fun q => ?_
    have eP := sp_G1 (n := 12) (F := fun k => sp_pr (u.2.2.2.2.2.1 k) q5) (x := x.1) hiP  q
    simp only [sp_XW, sp_cnt_app, sp_PG_G, sp_SG_G, sp_pr, sp_sh] at eP ⊢
    omega
theorem lx_shared {l : Launch} {D : va_G} {q5 : Nat → ClassId} {u : sp_XT} (hu : sp_XC (u.1 0) u) {MM : va_W} (p1 p2 : Int32) {x x' : sp_XS} {r : Int32} (h : sx_shared p1 p2 x = some (r, x')) : ∃ rm : Room, rm.cells = 0 ∧ rm.slots = 0 ∧ rm.frames ≤ 100 ∧ rm.locals ≤ 3000 ∧ sp_Li l yX9_shared wsX9_shared rm D q5 [.ref (u.1 0), .int p1, .int p2] (sp_XW q5 u x ++ MM) r (sp_XW q5 u x' ++ MM) := by
  unfold sx_shared at h
  split at h
  · rename_i he
    subst he
    exact ⟨rmX9_shared_al, rfl, rfl, by decide, by decide, lx_shared_al hu p1 p1 _ (sp_ix_lt (by decide)) sp_ix_eq sp_ix_eq h⟩
  · rename_i he
    exact ⟨rmX9_shared, rfl, rfl, by decide, by decide, lx_shared0 hu p1 p2 _ (sp_ix2_lt (by decide)) _ (sp_ix12_lt (by decide)) sp_ix2_eq sp_ix12_eq (sp_ix_ne he) h⟩

theorem lx_core0 {l : Launch} {D : va_G} {q5 : Nat → ClassId} {u : sp_XT} (hu : sp_XC (u.1 0) u) {MM : va_W} (p1 p2 p3 : Int32) (iP : Nat) (hiP : iP < 12) (fP : vp_in p1 12 → iP = p1.toNatClampNeg) {x x' : sp_XS} {r : Int32} (h : sx_core0 p1 p2 p3 iP x = some (r, x')) : sp_Li l yX9_core wsX9_core rmX9_core D q5 [.ref (u.1 0), .int p1, .int p2, .int p3] (sp_XW q5 u x ++ MM) r (sp_XW q5 u x' ++ MM) := by
  unfold sx_core0 at h
  obtain ⟨⟨r1, c1⟩, hf, hz⟩ := sp_hc h
  obtain ⟨q1, q2⟩ := Prod.mk.inj (Option.some.inj hz)
  subst q1
  subst q2
  refine ⟨2, _, _, (sw_XS u.2.2.1 q5 u.2.2.2.2.1) ++ (sp_G 12 (fun k => sp_pr (u.2.2.2.2.2.1 k) q5) x.1 [iP]) ++ (sp_SG q5 4 u.2.2.2.2.2.2.1 x.2.1) ++ (sw_R (u.2.2.2.2.2.2.2 0) (u.2.2.2.2.2.2.2 1 0) q5 x.2.2.1.1 x.2.2.1.2.1 x.2.2.1.2.2) ++ (sp_pr (u.2.2.2.2.2.2.2 1) q5 x.2.2.2.1) ++ (sw_Z (u.2.2.2.2.2.2.2 2) q5 x.2.2.2.2.1.1 x.2.2.2.2.1.2) ++ (sw_O (u.2.2.2.2.2.2.2 3) q5 x.2.2.2.2.2.1.1 x.2.2.2.2.2.1.2.1 x.2.2.2.2.2.1.2.2.1 x.2.2.2.2.2.1.2.2.2.1 x.2.2.2.2.2.1.2.2.2.2.1 x.2.2.2.2.2.1.2.2.2.2.2.1 x.2.2.2.2.2.1.2.2.2.2.2.2) ++ (sw_T (u.2.2.2.2.2.2.2 4) (u.2.2.2.2.2.2.2 5 0) q5 x.2.2.2.2.2.2.1.1 x.2.2.2.2.2.2.1.2.1 x.2.2.2.2.2.2.1.2.2.1 x.2.2.2.2.2.2.1.2.2.2) ++ (sp_pr (u.2.2.2.2.2.2.2 5) q5 x.2.2.2.2.2.2.2.1) ++ MM, by decide, c_X9_core u.1 u.2.1 (u.2.2.2.2.2.1 iP) (u.2.2.2.2.2.2.2 6) u.2.2.1 (u.2.2.2.2.2.2.2 0 0) (u.2.2.2.2.2.2.2 2 0) (u.2.2.2.2.2.2.2 3 0) (u.2.2.2.2.2.2.2 4 0) x.2.2.2.2.2.2.2.2.2.1 x.2.2.2.2.2.2.2.2.2.2.1 x.2.2.2.2.2.2.2.2.2.2.2.1 x.2.2.2.2.2.2.2.2.2.2.2.2 u.2.2.2.1 (x.1 iP).1 (x.1 iP).2.1 (x.1 iP).2.2.1 (x.1 iP).2.2.2.1 (x.1 iP).2.2.2.2.1 (x.1 iP).2.2.2.2.2.1 (x.1 iP).2.2.2.2.2.2 x.2.2.2.2.2.2.2.2.1.1 x.2.2.2.2.2.2.2.2.1.2 p1 p2 p3 (fun hin => by rw [fP hin]; exact hu.2.1 _ (sp_in_lt hin)) hf, ?_, rfl, ?_⟩
  · refine sp_perm_of fun q => ?_
    have eP := sp_G1 (n := 12) (F := fun k => sp_pr (u.2.2.2.2.2.1 k) q5) (x := x.1) hiP  q
    simp only [sp_XW, sp_cnt_app, sp_PG_G, sp_SG_G, sp_pr, sp_sh] at eP ⊢
    omega
  · refine sp_perm_of fun q => ?_
    have eP := sp_G1 (n := 12) (F := fun k => sp_pr (u.2.2.2.2.2.1 k) q5) (x := x.1) hiP  q
    simp only [sp_XW, sp_cnt_app, sp_PG_G, sp_SG_G, sp_pr, sp_sh] at eP ⊢
    omega
theorem lx_core {l : Launch} {D : va_G} {q5 : Nat → ClassId} {u : sp_XT} (hu : sp_XC (u.1 0) u) {MM : va_W} (p1 p2 p3 : Int32) {x x' : sp_XS} {r : Int32} (h : sx_core p1 p2 p3 x = some (r, x')) : ∃ rm : Room, rm.cells = 0 ∧ rm.slots = 0 ∧ rm.frames ≤ 100 ∧ rm.locals ≤ 3000 ∧ sp_Li l yX9_core wsX9_core rm D q5 [.ref (u.1 0), .int p1, .int p2, .int p3] (sp_XW q5 u x ++ MM) r (sp_XW q5 u x' ++ MM) := ⟨rmX9_core, rfl, rfl, by decide, by decide, lx_core0 hu p1 p2 p3 _ (sp_ix_lt (by decide)) sp_ix_eq h⟩

theorem lx_middle0 {l : Launch} {D : va_G} {q5 : Nat → ClassId} {u : sp_XT} (hu : sp_XC (u.1 0) u) {MM : va_W} (p1 p2 p3 : Int32) (iP : Nat) (hiP : iP < 12) (fP : vp_in p1 12 → iP = p1.toNatClampNeg) {x x' : sp_XS} {r : Int64} (h : sx_middle0 p1 p2 p3 iP x = some (r, x')) : sp_Ll l yX9_middle wsX9_middle rmX9_middle D q5 [.ref (u.1 0), .int p1, .int p2, .int p3] (sp_XW q5 u x ++ MM) r (sp_XW q5 u x' ++ MM) := by
  unfold sx_middle0 at h
  obtain ⟨⟨r1, c1⟩, hf, hz⟩ := sp_hc h
  obtain ⟨q1, q2⟩ := Prod.mk.inj (Option.some.inj hz)
  subst q1
  subst q2
  refine ⟨2, _, _, (sw_XS u.2.2.1 q5 u.2.2.2.2.1) ++ (sp_G 12 (fun k => sp_pr (u.2.2.2.2.2.1 k) q5) x.1 [iP]) ++ (sp_SG q5 4 u.2.2.2.2.2.2.1 x.2.1) ++ (sw_R (u.2.2.2.2.2.2.2 0) (u.2.2.2.2.2.2.2 1 0) q5 x.2.2.1.1 x.2.2.1.2.1 x.2.2.1.2.2) ++ (sp_pr (u.2.2.2.2.2.2.2 1) q5 x.2.2.2.1) ++ (sw_Z (u.2.2.2.2.2.2.2 2) q5 x.2.2.2.2.1.1 x.2.2.2.2.1.2) ++ (sw_O (u.2.2.2.2.2.2.2 3) q5 x.2.2.2.2.2.1.1 x.2.2.2.2.2.1.2.1 x.2.2.2.2.2.1.2.2.1 x.2.2.2.2.2.1.2.2.2.1 x.2.2.2.2.2.1.2.2.2.2.1 x.2.2.2.2.2.1.2.2.2.2.2.1 x.2.2.2.2.2.1.2.2.2.2.2.2) ++ (sw_T (u.2.2.2.2.2.2.2 4) (u.2.2.2.2.2.2.2 5 0) q5 x.2.2.2.2.2.2.1.1 x.2.2.2.2.2.2.1.2.1 x.2.2.2.2.2.2.1.2.2.1 x.2.2.2.2.2.2.1.2.2.2) ++ (sp_pr (u.2.2.2.2.2.2.2 5) q5 x.2.2.2.2.2.2.2.1) ++ MM, by decide, c_X9_middle u.1 u.2.1 (u.2.2.2.2.2.1 iP) (u.2.2.2.2.2.2.2 6) u.2.2.1 (u.2.2.2.2.2.2.2 0 0) (u.2.2.2.2.2.2.2 2 0) (u.2.2.2.2.2.2.2 3 0) (u.2.2.2.2.2.2.2 4 0) x.2.2.2.2.2.2.2.2.2.1 x.2.2.2.2.2.2.2.2.2.2.1 x.2.2.2.2.2.2.2.2.2.2.2.1 x.2.2.2.2.2.2.2.2.2.2.2.2 u.2.2.2.1 (x.1 iP).1 (x.1 iP).2.1 (x.1 iP).2.2.1 (x.1 iP).2.2.2.1 (x.1 iP).2.2.2.2.1 (x.1 iP).2.2.2.2.2.1 (x.1 iP).2.2.2.2.2.2 x.2.2.2.2.2.2.2.2.1.1 x.2.2.2.2.2.2.2.2.1.2 p1 p2 p3 (fun hin => by rw [fP hin]; exact hu.2.1 _ (sp_in_lt hin)) hf, ?_, rfl, ?_⟩
  · refine sp_perm_of fun q => ?_
    have eP := sp_G1 (n := 12) (F := fun k => sp_pr (u.2.2.2.2.2.1 k) q5) (x := x.1) hiP  q
    simp only [sp_XW, sp_cnt_app, sp_PG_G, sp_SG_G, sp_pr, sp_sh] at eP ⊢
    omega
  · refine sp_perm_of fun q => ?_
    have eP := sp_G1 (n := 12) (F := fun k => sp_pr (u.2.2.2.2.2.1 k) q5) (x := x.1) hiP  q
    simp only [sp_XW, sp_cnt_app, sp_PG_G, sp_SG_G, sp_pr, sp_sh] at eP ⊢
    omega
theorem lx_middle {l : Launch} {D : va_G} {q5 : Nat → ClassId} {u : sp_XT} (hu : sp_XC (u.1 0) u) {MM : va_W} (p1 p2 p3 : Int32) {x x' : sp_XS} {r : Int64} (h : sx_middle p1 p2 p3 x = some (r, x')) : ∃ rm : Room, rm.cells = 0 ∧ rm.slots = 0 ∧ rm.frames ≤ 100 ∧ rm.locals ≤ 3000 ∧ sp_Ll l yX9_middle wsX9_middle rm D q5 [.ref (u.1 0), .int p1, .int p2, .int p3] (sp_XW q5 u x ++ MM) r (sp_XW q5 u x' ++ MM) := ⟨rmX9_middle, rfl, rfl, by decide, by decide, lx_middle0 hu p1 p2 p3 _ (sp_ix_lt (by decide)) sp_ix_eq h⟩

theorem lx_truths0 {l : Launch} {D : va_G} {q5 : Nat → ClassId} {u : sp_XT} (hu : sp_XC (u.1 0) u) {MM : va_W} (p1 p2 p3 : Int32) (iP : Nat) (hiP : iP < 12) (fP : vp_in p1 12 → iP = p1.toNatClampNeg) {x x' : sp_XS} {r : Int64} (h : sx_truths0 p1 p2 p3 iP x = some (r, x')) : sp_Ll l yX9_truths wsX9_truths rmX9_truths D q5 [.ref (u.1 0), .int p1, .int p2, .int p3] (sp_XW q5 u x ++ MM) r (sp_XW q5 u x' ++ MM) := by
  unfold sx_truths0 at h
  obtain ⟨r1, hf, hz⟩ := sp_hc h
  obtain ⟨q1, q2⟩ := Prod.mk.inj (Option.some.inj hz)
  subst q1
  subst q2
  refine ⟨2, _, _, (sw_XS u.2.2.1 q5 u.2.2.2.2.1) ++ (sp_G 12 (fun k => sp_pr (u.2.2.2.2.2.1 k) q5) x.1 [iP]) ++ (sp_SG q5 4 u.2.2.2.2.2.2.1 x.2.1) ++ (sw_R (u.2.2.2.2.2.2.2 0) (u.2.2.2.2.2.2.2 1 0) q5 x.2.2.1.1 x.2.2.1.2.1 x.2.2.1.2.2) ++ (sp_pr (u.2.2.2.2.2.2.2 1) q5 x.2.2.2.1) ++ (sw_Z (u.2.2.2.2.2.2.2 2) q5 x.2.2.2.2.1.1 x.2.2.2.2.1.2) ++ (sw_O (u.2.2.2.2.2.2.2 3) q5 x.2.2.2.2.2.1.1 x.2.2.2.2.2.1.2.1 x.2.2.2.2.2.1.2.2.1 x.2.2.2.2.2.1.2.2.2.1 x.2.2.2.2.2.1.2.2.2.2.1 x.2.2.2.2.2.1.2.2.2.2.2.1 x.2.2.2.2.2.1.2.2.2.2.2.2) ++ (sw_T (u.2.2.2.2.2.2.2 4) (u.2.2.2.2.2.2.2 5 0) q5 x.2.2.2.2.2.2.1.1 x.2.2.2.2.2.2.1.2.1 x.2.2.2.2.2.2.1.2.2.1 x.2.2.2.2.2.2.1.2.2.2) ++ (sp_pr (u.2.2.2.2.2.2.2 5) q5 x.2.2.2.2.2.2.2.1) ++ (sw_U (u.2.2.2.2.2.2.2 6) q5 x.2.2.2.2.2.2.2.2.1.1 x.2.2.2.2.2.2.2.2.1.2) ++ MM, by decide, c_X9_truths u.1 u.2.1 (u.2.2.2.2.2.1 iP) u.2.2.1 (u.2.2.2.2.2.2.2 0 0) (u.2.2.2.2.2.2.2 2 0) (u.2.2.2.2.2.2.2 3 0) (u.2.2.2.2.2.2.2 4 0) (u.2.2.2.2.2.2.2 6 0) x.2.2.2.2.2.2.2.2.2.1 x.2.2.2.2.2.2.2.2.2.2.1 x.2.2.2.2.2.2.2.2.2.2.2.1 x.2.2.2.2.2.2.2.2.2.2.2.2 u.2.2.2.1 (x.1 iP).1 (x.1 iP).2.1 (x.1 iP).2.2.1 (x.1 iP).2.2.2.1 (x.1 iP).2.2.2.2.1 (x.1 iP).2.2.2.2.2.1 (x.1 iP).2.2.2.2.2.2 p1 p2 p3 (fun hin => by rw [fP hin]; exact hu.2.1 _ (sp_in_lt hin)) hf, ?_, rfl, ?_⟩
  · refine sp_perm_of fun q => ?_
    have eP := sp_G1 (n := 12) (F := fun k => sp_pr (u.2.2.2.2.2.1 k) q5) (x := x.1) hiP  q
    simp only [sp_XW, sp_cnt_app, sp_PG_G, sp_SG_G, sp_pr, sp_sh] at eP ⊢
    omega
  · refine sp_perm_of fun q => ?_
    have eP := sp_G1 (n := 12) (F := fun k => sp_pr (u.2.2.2.2.2.1 k) q5) (x := x.1) hiP  q
    simp only [sp_XW, sp_cnt_app, sp_PG_G, sp_SG_G, sp_pr, sp_sh] at eP ⊢
    omega
theorem lx_truths {l : Launch} {D : va_G} {q5 : Nat → ClassId} {u : sp_XT} (hu : sp_XC (u.1 0) u) {MM : va_W} (p1 p2 p3 : Int32) {x x' : sp_XS} {r : Int64} (h : sx_truths p1 p2 p3 x = some (r, x')) : ∃ rm : Room, rm.cells = 0 ∧ rm.slots = 0 ∧ rm.frames ≤ 100 ∧ rm.locals ≤ 3000 ∧ sp_Ll l yX9_truths wsX9_truths rm D q5 [.ref (u.1 0), .int p1, .int p2, .int p3] (sp_XW q5 u x ++ MM) r (sp_XW q5 u x' ++ MM) := ⟨rmX9_truths, rfl, rfl, by decide, by decide, lx_truths0 hu p1 p2 p3 _ (sp_ix_lt (by decide)) sp_ix_eq h⟩

theorem lx_cuts0 {l : Launch} {D : va_G} {q5 : Nat → ClassId} {u : sp_XT} (hu : sp_XC (u.1 0) u) {MM : va_W} (p1 p2 : Int32) (iP : Nat) (hiP : iP < 12) (fP : vp_in p1 12 → iP = p1.toNatClampNeg) {x x' : sp_XS} {r : Int32} (h : sx_cuts0 p1 p2 iP x = some (r, x')) : sp_Li l yX9_cuts wsX9_cuts rmX9_cuts D q5 [.ref (u.1 0), .int p1, .int p2] (sp_XW q5 u x ++ MM) r (sp_XW q5 u x' ++ MM) := by
  unfold sx_cuts0 at h
  obtain ⟨r1, hf, hz⟩ := sp_hc h
  obtain ⟨q1, q2⟩ := Prod.mk.inj (Option.some.inj hz)
  subst q1
  subst q2
  refine ⟨1, _, _, (sw_XS u.2.2.1 q5 u.2.2.2.2.1) ++ (sp_G 12 (fun k => sp_pr (u.2.2.2.2.2.1 k) q5) x.1 [iP]) ++ (sp_SG q5 4 u.2.2.2.2.2.2.1 x.2.1) ++ (sw_R (u.2.2.2.2.2.2.2 0) (u.2.2.2.2.2.2.2 1 0) q5 x.2.2.1.1 x.2.2.1.2.1 x.2.2.1.2.2) ++ (sp_pr (u.2.2.2.2.2.2.2 1) q5 x.2.2.2.1) ++ (sw_Z (u.2.2.2.2.2.2.2 2) q5 x.2.2.2.2.1.1 x.2.2.2.2.1.2) ++ (sw_O (u.2.2.2.2.2.2.2 3) q5 x.2.2.2.2.2.1.1 x.2.2.2.2.2.1.2.1 x.2.2.2.2.2.1.2.2.1 x.2.2.2.2.2.1.2.2.2.1 x.2.2.2.2.2.1.2.2.2.2.1 x.2.2.2.2.2.1.2.2.2.2.2.1 x.2.2.2.2.2.1.2.2.2.2.2.2) ++ (sw_T (u.2.2.2.2.2.2.2 4) (u.2.2.2.2.2.2.2 5 0) q5 x.2.2.2.2.2.2.1.1 x.2.2.2.2.2.2.1.2.1 x.2.2.2.2.2.2.1.2.2.1 x.2.2.2.2.2.2.1.2.2.2) ++ (sp_pr (u.2.2.2.2.2.2.2 5) q5 x.2.2.2.2.2.2.2.1) ++ (sw_U (u.2.2.2.2.2.2.2 6) q5 x.2.2.2.2.2.2.2.2.1.1 x.2.2.2.2.2.2.2.2.1.2) ++ MM, by decide, c_X9_cuts u.1 u.2.1 (u.2.2.2.2.2.1 iP) u.2.2.1 (u.2.2.2.2.2.2.2 0 0) (u.2.2.2.2.2.2.2 2 0) (u.2.2.2.2.2.2.2 3 0) (u.2.2.2.2.2.2.2 4 0) (u.2.2.2.2.2.2.2 6 0) x.2.2.2.2.2.2.2.2.2.1 x.2.2.2.2.2.2.2.2.2.2.1 x.2.2.2.2.2.2.2.2.2.2.2.1 x.2.2.2.2.2.2.2.2.2.2.2.2 u.2.2.2.1 (x.1 iP).1 (x.1 iP).2.1 (x.1 iP).2.2.1 (x.1 iP).2.2.2.1 (x.1 iP).2.2.2.2.1 (x.1 iP).2.2.2.2.2.1 (x.1 iP).2.2.2.2.2.2 p1 p2 (fun hin => by rw [fP hin]; exact hu.2.1 _ (sp_in_lt hin)) hf, ?_, rfl, ?_⟩
  · refine sp_perm_of fun q => ?_
    have eP := sp_G1 (n := 12) (F := fun k => sp_pr (u.2.2.2.2.2.1 k) q5) (x := x.1) hiP  q
    simp only [sp_XW, sp_cnt_app, sp_PG_G, sp_SG_G, sp_pr, sp_sh] at eP ⊢
    omega
  · refine sp_perm_of fun q => ?_
    have eP := sp_G1 (n := 12) (F := fun k => sp_pr (u.2.2.2.2.2.1 k) q5) (x := x.1) hiP  q
    simp only [sp_XW, sp_cnt_app, sp_PG_G, sp_SG_G, sp_pr, sp_sh] at eP ⊢
    omega
theorem lx_cuts {l : Launch} {D : va_G} {q5 : Nat → ClassId} {u : sp_XT} (hu : sp_XC (u.1 0) u) {MM : va_W} (p1 p2 : Int32) {x x' : sp_XS} {r : Int32} (h : sx_cuts p1 p2 x = some (r, x')) : ∃ rm : Room, rm.cells = 0 ∧ rm.slots = 0 ∧ rm.frames ≤ 100 ∧ rm.locals ≤ 3000 ∧ sp_Li l yX9_cuts wsX9_cuts rm D q5 [.ref (u.1 0), .int p1, .int p2] (sp_XW q5 u x ++ MM) r (sp_XW q5 u x' ++ MM) := ⟨rmX9_cuts, rfl, rfl, by decide, by decide, lx_cuts0 hu p1 p2 _ (sp_ix_lt (by decide)) sp_ix_eq h⟩

theorem lx_units0 {l : Launch} {D : va_G} {q5 : Nat → ClassId} {u : sp_XT} (hu : sp_XC (u.1 0) u) {MM : va_W} (p1 p2 : Int32) (iP : Nat) (hiP : iP < 12) (fP : vp_in p1 12 → iP = p1.toNatClampNeg) {x x' : sp_XS} {r : Int32} (h : sx_units0 p1 p2 iP x = some (r, x')) : sp_Li l yX9_units wsX9_units rmX9_units D q5 [.ref (u.1 0), .int p1, .int p2] (sp_XW q5 u x ++ MM) r (sp_XW q5 u x' ++ MM) := by
  unfold sx_units0 at h
  obtain ⟨r1, hf, hz⟩ := sp_hc h
  obtain ⟨q1, q2⟩ := Prod.mk.inj (Option.some.inj hz)
  subst q1
  subst q2
  refine ⟨0, _, _, (sw_XS u.2.2.1 q5 u.2.2.2.2.1) ++ (sp_G 12 (fun k => sp_pr (u.2.2.2.2.2.1 k) q5) x.1 [iP]) ++ (sp_SG q5 4 u.2.2.2.2.2.2.1 x.2.1) ++ (sw_R (u.2.2.2.2.2.2.2 0) (u.2.2.2.2.2.2.2 1 0) q5 x.2.2.1.1 x.2.2.1.2.1 x.2.2.1.2.2) ++ (sp_pr (u.2.2.2.2.2.2.2 1) q5 x.2.2.2.1) ++ (sw_Z (u.2.2.2.2.2.2.2 2) q5 x.2.2.2.2.1.1 x.2.2.2.2.1.2) ++ (sw_O (u.2.2.2.2.2.2.2 3) q5 x.2.2.2.2.2.1.1 x.2.2.2.2.2.1.2.1 x.2.2.2.2.2.1.2.2.1 x.2.2.2.2.2.1.2.2.2.1 x.2.2.2.2.2.1.2.2.2.2.1 x.2.2.2.2.2.1.2.2.2.2.2.1 x.2.2.2.2.2.1.2.2.2.2.2.2) ++ (sw_T (u.2.2.2.2.2.2.2 4) (u.2.2.2.2.2.2.2 5 0) q5 x.2.2.2.2.2.2.1.1 x.2.2.2.2.2.2.1.2.1 x.2.2.2.2.2.2.1.2.2.1 x.2.2.2.2.2.2.1.2.2.2) ++ (sp_pr (u.2.2.2.2.2.2.2 5) q5 x.2.2.2.2.2.2.2.1) ++ (sw_U (u.2.2.2.2.2.2.2 6) q5 x.2.2.2.2.2.2.2.2.1.1 x.2.2.2.2.2.2.2.2.1.2) ++ MM, by decide, c_X9_units u.1 u.2.1 (u.2.2.2.2.2.1 iP) u.2.2.1 (u.2.2.2.2.2.2.2 0 0) (u.2.2.2.2.2.2.2 2 0) (u.2.2.2.2.2.2.2 3 0) (u.2.2.2.2.2.2.2 4 0) (u.2.2.2.2.2.2.2 6 0) x.2.2.2.2.2.2.2.2.2.1 x.2.2.2.2.2.2.2.2.2.2.1 x.2.2.2.2.2.2.2.2.2.2.2.1 x.2.2.2.2.2.2.2.2.2.2.2.2 u.2.2.2.1 (x.1 iP).1 (x.1 iP).2.1 (x.1 iP).2.2.1 (x.1 iP).2.2.2.1 (x.1 iP).2.2.2.2.1 (x.1 iP).2.2.2.2.2.1 (x.1 iP).2.2.2.2.2.2 p1 p2 (fun hin => by rw [fP hin]; exact hu.2.1 _ (sp_in_lt hin)) hf, ?_, rfl, ?_⟩
  · refine sp_perm_of fun q => ?_
    have eP := sp_G1 (n := 12) (F := fun k => sp_pr (u.2.2.2.2.2.1 k) q5) (x := x.1) hiP  q
    simp only [sp_XW, sp_cnt_app, sp_PG_G, sp_SG_G, sp_pr, sp_sh] at eP ⊢
    omega
  · refine sp_perm_of fun q => ?_
    have eP := sp_G1 (n := 12) (F := fun k => sp_pr (u.2.2.2.2.2.1 k) q5) (x := x.1) hiP  q
    simp only [sp_XW, sp_cnt_app, sp_PG_G, sp_SG_G, sp_pr, sp_sh] at eP ⊢
    omega
theorem lx_units {l : Launch} {D : va_G} {q5 : Nat → ClassId} {u : sp_XT} (hu : sp_XC (u.1 0) u) {MM : va_W} (p1 p2 : Int32) {x x' : sp_XS} {r : Int32} (h : sx_units p1 p2 x = some (r, x')) : ∃ rm : Room, rm.cells = 0 ∧ rm.slots = 0 ∧ rm.frames ≤ 100 ∧ rm.locals ≤ 3000 ∧ sp_Li l yX9_units wsX9_units rm D q5 [.ref (u.1 0), .int p1, .int p2] (sp_XW q5 u x ++ MM) r (sp_XW q5 u x' ++ MM) := ⟨rmX9_units, rfl, rfl, by decide, by decide, lx_units0 hu p1 p2 _ (sp_ix_lt (by decide)) sp_ix_eq h⟩

theorem lx_follows0 {l : Launch} {D : va_G} {q5 : Nat → ClassId} {u : sp_XT} (hu : sp_XC (u.1 0) u) {MM : va_W} (p1 p2 : Int32) (iP : Nat) (hiP : iP < 12) (fP : vp_in p1 12 → iP = p1.toNatClampNeg) {x x' : sp_XS} {r : Int32} (h : sx_follows0 p1 p2 iP x = some (r, x')) : sp_Li l yX9_follows wsX9_follows rmX9_follows D q5 [.ref (u.1 0), .int p1, .int p2] (sp_XW q5 u x ++ MM) r (sp_XW q5 u x' ++ MM) := by
  unfold sx_follows0 at h
  obtain ⟨r1, hf, hz⟩ := sp_hc h
  obtain ⟨q1, q2⟩ := Prod.mk.inj (Option.some.inj hz)
  subst q1
  subst q2
  refine ⟨2, _, _, (sw_XS u.2.2.1 q5 u.2.2.2.2.1) ++ (sp_G 12 (fun k => sp_pr (u.2.2.2.2.2.1 k) q5) x.1 [iP]) ++ (sp_SG q5 4 u.2.2.2.2.2.2.1 x.2.1) ++ (sw_R (u.2.2.2.2.2.2.2 0) (u.2.2.2.2.2.2.2 1 0) q5 x.2.2.1.1 x.2.2.1.2.1 x.2.2.1.2.2) ++ (sp_pr (u.2.2.2.2.2.2.2 1) q5 x.2.2.2.1) ++ (sw_Z (u.2.2.2.2.2.2.2 2) q5 x.2.2.2.2.1.1 x.2.2.2.2.1.2) ++ (sw_O (u.2.2.2.2.2.2.2 3) q5 x.2.2.2.2.2.1.1 x.2.2.2.2.2.1.2.1 x.2.2.2.2.2.1.2.2.1 x.2.2.2.2.2.1.2.2.2.1 x.2.2.2.2.2.1.2.2.2.2.1 x.2.2.2.2.2.1.2.2.2.2.2.1 x.2.2.2.2.2.1.2.2.2.2.2.2) ++ (sw_T (u.2.2.2.2.2.2.2 4) (u.2.2.2.2.2.2.2 5 0) q5 x.2.2.2.2.2.2.1.1 x.2.2.2.2.2.2.1.2.1 x.2.2.2.2.2.2.1.2.2.1 x.2.2.2.2.2.2.1.2.2.2) ++ (sp_pr (u.2.2.2.2.2.2.2 5) q5 x.2.2.2.2.2.2.2.1) ++ (sw_U (u.2.2.2.2.2.2.2 6) q5 x.2.2.2.2.2.2.2.2.1.1 x.2.2.2.2.2.2.2.2.1.2) ++ MM, by decide, c_X9_follows u.1 u.2.1 (u.2.2.2.2.2.1 iP) u.2.2.1 (u.2.2.2.2.2.2.2 0 0) (u.2.2.2.2.2.2.2 2 0) (u.2.2.2.2.2.2.2 3 0) (u.2.2.2.2.2.2.2 4 0) (u.2.2.2.2.2.2.2 6 0) x.2.2.2.2.2.2.2.2.2.1 x.2.2.2.2.2.2.2.2.2.2.1 x.2.2.2.2.2.2.2.2.2.2.2.1 x.2.2.2.2.2.2.2.2.2.2.2.2 u.2.2.2.1 (x.1 iP).1 (x.1 iP).2.1 (x.1 iP).2.2.1 (x.1 iP).2.2.2.1 (x.1 iP).2.2.2.2.1 (x.1 iP).2.2.2.2.2.1 (x.1 iP).2.2.2.2.2.2 p1 p2 (fun hin => by rw [fP hin]; exact hu.2.1 _ (sp_in_lt hin)) hf, ?_, rfl, ?_⟩
  · refine sp_perm_of fun q => ?_
    have eP := sp_G1 (n := 12) (F := fun k => sp_pr (u.2.2.2.2.2.1 k) q5) (x := x.1) hiP  q
    simp only [sp_XW, sp_cnt_app, sp_PG_G, sp_SG_G, sp_pr, sp_sh] at eP ⊢
    omega
  · refine sp_perm_of fun q => ?_
    have eP := sp_G1 (n := 12) (F := fun k => sp_pr (u.2.2.2.2.2.1 k) q5) (x := x.1) hiP  q
    simp only [sp_XW, sp_cnt_app, sp_PG_G, sp_SG_G, sp_pr, sp_sh] at eP ⊢
    omega
theorem lx_follows {l : Launch} {D : va_G} {q5 : Nat → ClassId} {u : sp_XT} (hu : sp_XC (u.1 0) u) {MM : va_W} (p1 p2 : Int32) {x x' : sp_XS} {r : Int32} (h : sx_follows p1 p2 x = some (r, x')) : ∃ rm : Room, rm.cells = 0 ∧ rm.slots = 0 ∧ rm.frames ≤ 100 ∧ rm.locals ≤ 3000 ∧ sp_Li l yX9_follows wsX9_follows rm D q5 [.ref (u.1 0), .int p1, .int p2] (sp_XW q5 u x ++ MM) r (sp_XW q5 u x' ++ MM) := ⟨rmX9_follows, rfl, rfl, by decide, by decide, lx_follows0 hu p1 p2 _ (sp_ix_lt (by decide)) sp_ix_eq h⟩

theorem lx_cut_b {l : Launch} {D : va_G} {q5 : Nat → ClassId} {u : sp_XT} (hu : sp_XC (u.1 0) u) {MM : va_W} (p1 p2 p3 : Int32) {x x' : sp_XS} {r : Int32} (h : sx_cut p1 p2 p3  x = some (r, x')) : sp_Li l yX9_cut wsX9_cut rmX9_cut D q5 [.ref (u.1 0), .int p1, .int p2, .int p3] (sp_XW q5 u x ++ MM) r (sp_XW q5 u x' ++ MM) := by
  unfold sx_cut at h
  obtain ⟨r1, hf, hz⟩ := sp_hc h
  obtain ⟨q1, q2⟩ := Prod.mk.inj (Option.some.inj hz)
  subst q1
  subst q2
  refine ⟨0, _, _, (sw_XP u.2.1 q5 u.2.2.2.1) ++ (sw_XS u.2.2.1 q5 u.2.2.2.2.1) ++ (sp_PG q5 12 u.2.2.2.2.2.1 x.1) ++ (sp_SG q5 4 u.2.2.2.2.2.2.1 x.2.1) ++ (sw_R (u.2.2.2.2.2.2.2 0) (u.2.2.2.2.2.2.2 1 0) q5 x.2.2.1.1 x.2.2.1.2.1 x.2.2.1.2.2) ++ (sp_pr (u.2.2.2.2.2.2.2 1) q5 x.2.2.2.1) ++ (sw_Z (u.2.2.2.2.2.2.2 2) q5 x.2.2.2.2.1.1 x.2.2.2.2.1.2) ++ (sw_O (u.2.2.2.2.2.2.2 3) q5 x.2.2.2.2.2.1.1 x.2.2.2.2.2.1.2.1 x.2.2.2.2.2.1.2.2.1 x.2.2.2.2.2.1.2.2.2.1 x.2.2.2.2.2.1.2.2.2.2.1 x.2.2.2.2.2.1.2.2.2.2.2.1 x.2.2.2.2.2.1.2.2.2.2.2.2) ++ (sw_T (u.2.2.2.2.2.2.2 4) (u.2.2.2.2.2.2.2 5 0) q5 x.2.2.2.2.2.2.1.1 x.2.2.2.2.2.2.1.2.1 x.2.2.2.2.2.2.1.2.2.1 x.2.2.2.2.2.2.1.2.2.2) ++ (sp_pr (u.2.2.2.2.2.2.2 5) q5 x.2.2.2.2.2.2.2.1) ++ (sw_U (u.2.2.2.2.2.2.2 6) q5 x.2.2.2.2.2.2.2.2.1.1 x.2.2.2.2.2.2.2.2.1.2) ++ MM, by decide, c_X9_cut u.1 u.2.1 u.2.2.1 (u.2.2.2.2.2.2.2 0 0) (u.2.2.2.2.2.2.2 2 0) (u.2.2.2.2.2.2.2 3 0) (u.2.2.2.2.2.2.2 4 0) (u.2.2.2.2.2.2.2 6 0) x.2.2.2.2.2.2.2.2.2.1 x.2.2.2.2.2.2.2.2.2.2.1 x.2.2.2.2.2.2.2.2.2.2.2.1 x.2.2.2.2.2.2.2.2.2.2.2.2 p1 p2 p3 hf, ?_, rfl, ?_⟩
  · refine sp_perm_of fun q => ?_
    simp only [sp_XW, sp_cnt_app, sp_PG_G, sp_SG_G, sp_pr, sp_sh] at ⊢
    omega
  · refine sp_perm_of fun q => ?_
    simp only [sp_XW, sp_cnt_app, sp_PG_G, sp_SG_G, sp_pr, sp_sh] at ⊢
    omega
theorem lx_cut {l : Launch} {D : va_G} {q5 : Nat → ClassId} {u : sp_XT} (hu : sp_XC (u.1 0) u) {MM : va_W} (p1 p2 p3 : Int32) {x x' : sp_XS} {r : Int32} (h : sx_cut p1 p2 p3 x = some (r, x')) : ∃ rm : Room, rm.cells = 0 ∧ rm.slots = 0 ∧ rm.frames ≤ 100 ∧ rm.locals ≤ 3000 ∧ sp_Li l yX9_cut wsX9_cut rm D q5 [.ref (u.1 0), .int p1, .int p2, .int p3] (sp_XW q5 u x ++ MM) r (sp_XW q5 u x' ++ MM) := ⟨rmX9_cut, rfl, rfl, by decide, by decide, lx_cut_b hu p1 p2 p3 h⟩

theorem lx_stronger_b {l : Launch} {D : va_G} {q5 : Nat → ClassId} {u : sp_XT} (hu : sp_XC (u.1 0) u) {MM : va_W} (p1 p2 : Int32) {x x' : sp_XS} {r : Int32} (h : sx_stronger p1 p2  x = some (r, x')) : sp_Li l yX9_stronger wsX9_stronger rmX9_stronger D q5 [.ref (u.1 0), .int p1, .int p2] (sp_XW q5 u x ++ MM) r (sp_XW q5 u x' ++ MM) := by
  unfold sx_stronger at h
  obtain ⟨r1, hf, hz⟩ := sp_hc h
  obtain ⟨q1, q2⟩ := Prod.mk.inj (Option.some.inj hz)
  subst q1
  subst q2
  refine ⟨0, _, _, (sw_XP u.2.1 q5 u.2.2.2.1) ++ (sw_XS u.2.2.1 q5 u.2.2.2.2.1) ++ (sp_PG q5 12 u.2.2.2.2.2.1 x.1) ++ (sp_SG q5 4 u.2.2.2.2.2.2.1 x.2.1) ++ (sw_R (u.2.2.2.2.2.2.2 0) (u.2.2.2.2.2.2.2 1 0) q5 x.2.2.1.1 x.2.2.1.2.1 x.2.2.1.2.2) ++ (sp_pr (u.2.2.2.2.2.2.2 1) q5 x.2.2.2.1) ++ (sw_Z (u.2.2.2.2.2.2.2 2) q5 x.2.2.2.2.1.1 x.2.2.2.2.1.2) ++ (sw_O (u.2.2.2.2.2.2.2 3) q5 x.2.2.2.2.2.1.1 x.2.2.2.2.2.1.2.1 x.2.2.2.2.2.1.2.2.1 x.2.2.2.2.2.1.2.2.2.1 x.2.2.2.2.2.1.2.2.2.2.1 x.2.2.2.2.2.1.2.2.2.2.2.1 x.2.2.2.2.2.1.2.2.2.2.2.2) ++ (sw_T (u.2.2.2.2.2.2.2 4) (u.2.2.2.2.2.2.2 5 0) q5 x.2.2.2.2.2.2.1.1 x.2.2.2.2.2.2.1.2.1 x.2.2.2.2.2.2.1.2.2.1 x.2.2.2.2.2.2.1.2.2.2) ++ (sp_pr (u.2.2.2.2.2.2.2 5) q5 x.2.2.2.2.2.2.2.1) ++ (sw_U (u.2.2.2.2.2.2.2 6) q5 x.2.2.2.2.2.2.2.2.1.1 x.2.2.2.2.2.2.2.2.1.2) ++ MM, by decide, c_X9_stronger u.1 u.2.1 u.2.2.1 (u.2.2.2.2.2.2.2 0 0) (u.2.2.2.2.2.2.2 2 0) (u.2.2.2.2.2.2.2 3 0) (u.2.2.2.2.2.2.2 4 0) (u.2.2.2.2.2.2.2 6 0) x.2.2.2.2.2.2.2.2.2.1 x.2.2.2.2.2.2.2.2.2.2.1 x.2.2.2.2.2.2.2.2.2.2.2.1 x.2.2.2.2.2.2.2.2.2.2.2.2 p1 p2 hf, ?_, rfl, ?_⟩
  · refine sp_perm_of fun q => ?_
    simp only [sp_XW, sp_cnt_app, sp_PG_G, sp_SG_G, sp_pr, sp_sh] at ⊢
    omega
  · refine sp_perm_of fun q => ?_
    simp only [sp_XW, sp_cnt_app, sp_PG_G, sp_SG_G, sp_pr, sp_sh] at ⊢
    omega
theorem lx_stronger {l : Launch} {D : va_G} {q5 : Nat → ClassId} {u : sp_XT} (hu : sp_XC (u.1 0) u) {MM : va_W} (p1 p2 : Int32) {x x' : sp_XS} {r : Int32} (h : sx_stronger p1 p2 x = some (r, x')) : ∃ rm : Room, rm.cells = 0 ∧ rm.slots = 0 ∧ rm.frames ≤ 100 ∧ rm.locals ≤ 3000 ∧ sp_Li l yX9_stronger wsX9_stronger rm D q5 [.ref (u.1 0), .int p1, .int p2] (sp_XW q5 u x ++ MM) r (sp_XW q5 u x' ++ MM) := ⟨rmX9_stronger, rfl, rfl, by decide, by decide, lx_stronger_b hu p1 p2 h⟩

theorem lx_sheet0 {l : Launch} {D : va_G} {q5 : Nat → ClassId} {u : sp_XT} (hu : sp_XC (u.1 0) u) {MM : va_W} (p1 p2 p3 : Int32) (iK : Nat) (hiK : iK < 4) (fK : vp_in p1 4 → iK = p1.toNatClampNeg) {x x' : sp_XS} {r : Int32} (h : sx_sheet0 p1 p2 p3 iK x = some (r, x')) : sp_Li l yX9_sheet wsX9_sheet rmX9_sheet D q5 [.ref (u.1 0), .int p1, .int p2, .int p3] (sp_XW q5 u x ++ MM) r (sp_XW q5 u x' ++ MM) := by
  unfold sx_sheet0 at h
  obtain ⟨⟨r1, c1, c2, c3, c4⟩, hf, hz⟩ := sp_hc h
  obtain ⟨q1, q2⟩ := Prod.mk.inj (Option.some.inj hz)
  subst q1
  subst q2
  refine ⟨0, _, _, (sw_XP u.2.1 q5 u.2.2.2.1) ++ (sp_PG q5 12 u.2.2.2.2.2.1 x.1) ++ (sp_G 4 (fun k => sp_sh (u.2.2.2.2.2.2.1 k) q5) x.2.1 [iK]) ++ (sw_R (u.2.2.2.2.2.2.2 0) (u.2.2.2.2.2.2.2 1 0) q5 x.2.2.1.1 x.2.2.1.2.1 x.2.2.1.2.2) ++ (sp_pr (u.2.2.2.2.2.2.2 1) q5 x.2.2.2.1) ++ (sw_Z (u.2.2.2.2.2.2.2 2) q5 x.2.2.2.2.1.1 x.2.2.2.2.1.2) ++ (sw_O (u.2.2.2.2.2.2.2 3) q5 x.2.2.2.2.2.1.1 x.2.2.2.2.2.1.2.1 x.2.2.2.2.2.1.2.2.1 x.2.2.2.2.2.1.2.2.2.1 x.2.2.2.2.2.1.2.2.2.2.1 x.2.2.2.2.2.1.2.2.2.2.2.1 x.2.2.2.2.2.1.2.2.2.2.2.2) ++ (sw_T (u.2.2.2.2.2.2.2 4) (u.2.2.2.2.2.2.2 5 0) q5 x.2.2.2.2.2.2.1.1 x.2.2.2.2.2.2.1.2.1 x.2.2.2.2.2.2.1.2.2.1 x.2.2.2.2.2.2.1.2.2.2) ++ (sp_pr (u.2.2.2.2.2.2.2 5) q5 x.2.2.2.2.2.2.2.1) ++ (sw_U (u.2.2.2.2.2.2.2 6) q5 x.2.2.2.2.2.2.2.2.1.1 x.2.2.2.2.2.2.2.2.1.2) ++ MM, by decide, c_X9_sheet u.1 u.2.2.1 (u.2.2.2.2.2.2.1 iK) u.2.1 (u.2.2.2.2.2.2.2 0 0) (u.2.2.2.2.2.2.2 2 0) (u.2.2.2.2.2.2.2 3 0) (u.2.2.2.2.2.2.2 4 0) (u.2.2.2.2.2.2.2 6 0) x.2.2.2.2.2.2.2.2.2.1 x.2.2.2.2.2.2.2.2.2.2.1 x.2.2.2.2.2.2.2.2.2.2.2.1 x.2.2.2.2.2.2.2.2.2.2.2.2 u.2.2.2.2.1 (x.2.1 iK).1 (x.2.1 iK).2.1 (x.2.1 iK).2.2 p1 p2 p3 (fun hin => by rw [fK hin]; exact hu.2.2 _ (sp_in_lt hin)) hf, ?_, rfl, ?_⟩
  · refine sp_perm_of fun q => ?_
    have eS := sp_G1 (n := 4) (F := fun k => sp_sh (u.2.2.2.2.2.2.1 k) q5) (x := x.2.1) hiK  q
    simp only [sp_XW, sp_cnt_app, sp_PG_G, sp_SG_G, sp_pr, sp_sh] at eS ⊢
    omega
  · refine sp_perm_of fun q => ?_
    have eS := sp_U1 (n := 4) (F := fun k => sp_sh (u.2.2.2.2.2.2.1 k) q5) (x := x.2.1) (v := (c2, c3, c4)) hiK  q
    simp only [sp_XW, sp_cnt_app, sp_PG_G, sp_SG_G, sp_pr, sp_sh] at eS ⊢
    omega
theorem lx_sheet {l : Launch} {D : va_G} {q5 : Nat → ClassId} {u : sp_XT} (hu : sp_XC (u.1 0) u) {MM : va_W} (p1 p2 p3 : Int32) {x x' : sp_XS} {r : Int32} (h : sx_sheet p1 p2 p3 x = some (r, x')) : ∃ rm : Room, rm.cells = 0 ∧ rm.slots = 0 ∧ rm.frames ≤ 100 ∧ rm.locals ≤ 3000 ∧ sp_Li l yX9_sheet wsX9_sheet rm D q5 [.ref (u.1 0), .int p1, .int p2, .int p3] (sp_XW q5 u x ++ MM) r (sp_XW q5 u x' ++ MM) := ⟨rmX9_sheet, rfl, rfl, by decide, by decide, lx_sheet0 hu p1 p2 p3 _ (sp_ix_lt (by decide)) sp_ix_eq h⟩

theorem lx_lose0 {l : Launch} {D : va_G} {q5 : Nat → ClassId} {u : sp_XT} (hu : sp_XC (u.1 0) u) {MM : va_W} (p1 : Int32) (iK : Nat) (hiK : iK < 4) (fK : vp_in p1 4 → iK = p1.toNatClampNeg) {x x' : sp_XS} {r : Int32} (h : sx_lose0 p1 iK x = some (r, x')) : sp_Li l yX9_lose wsX9_lose rmX9_lose D q5 [.ref (u.1 0), .int p1] (sp_XW q5 u x ++ MM) r (sp_XW q5 u x' ++ MM) := by
  unfold sx_lose0 at h
  obtain ⟨⟨r1, c1⟩, hf, hz⟩ := sp_hc h
  obtain ⟨q1, q2⟩ := Prod.mk.inj (Option.some.inj hz)
  subst q1
  subst q2
  refine ⟨0, _, _, (sw_XP u.2.1 q5 u.2.2.2.1) ++ (sp_PG q5 12 u.2.2.2.2.2.1 x.1) ++ (sp_G 4 (fun k => sp_sh (u.2.2.2.2.2.2.1 k) q5) x.2.1 [iK]) ++ (sw_R (u.2.2.2.2.2.2.2 0) (u.2.2.2.2.2.2.2 1 0) q5 x.2.2.1.1 x.2.2.1.2.1 x.2.2.1.2.2) ++ (sp_pr (u.2.2.2.2.2.2.2 1) q5 x.2.2.2.1) ++ (sw_Z (u.2.2.2.2.2.2.2 2) q5 x.2.2.2.2.1.1 x.2.2.2.2.1.2) ++ (sw_O (u.2.2.2.2.2.2.2 3) q5 x.2.2.2.2.2.1.1 x.2.2.2.2.2.1.2.1 x.2.2.2.2.2.1.2.2.1 x.2.2.2.2.2.1.2.2.2.1 x.2.2.2.2.2.1.2.2.2.2.1 x.2.2.2.2.2.1.2.2.2.2.2.1 x.2.2.2.2.2.1.2.2.2.2.2.2) ++ (sw_T (u.2.2.2.2.2.2.2 4) (u.2.2.2.2.2.2.2 5 0) q5 x.2.2.2.2.2.2.1.1 x.2.2.2.2.2.2.1.2.1 x.2.2.2.2.2.2.1.2.2.1 x.2.2.2.2.2.2.1.2.2.2) ++ (sp_pr (u.2.2.2.2.2.2.2 5) q5 x.2.2.2.2.2.2.2.1) ++ (sw_U (u.2.2.2.2.2.2.2 6) q5 x.2.2.2.2.2.2.2.2.1.1 x.2.2.2.2.2.2.2.2.1.2) ++ MM, by decide, c_X9_lose u.1 u.2.2.1 (u.2.2.2.2.2.2.1 iK) u.2.1 (u.2.2.2.2.2.2.2 0 0) (u.2.2.2.2.2.2.2 2 0) (u.2.2.2.2.2.2.2 3 0) (u.2.2.2.2.2.2.2 4 0) (u.2.2.2.2.2.2.2 6 0) x.2.2.2.2.2.2.2.2.2.1 x.2.2.2.2.2.2.2.2.2.2.1 x.2.2.2.2.2.2.2.2.2.2.2.1 x.2.2.2.2.2.2.2.2.2.2.2.2 u.2.2.2.2.1 (x.2.1 iK).1 (x.2.1 iK).2.1 (x.2.1 iK).2.2 p1 (fun hin => by rw [fK hin]; exact hu.2.2 _ (sp_in_lt hin)) hf, ?_, rfl, ?_⟩
  · refine sp_perm_of fun q => ?_
    have eS := sp_G1 (n := 4) (F := fun k => sp_sh (u.2.2.2.2.2.2.1 k) q5) (x := x.2.1) hiK  q
    simp only [sp_XW, sp_cnt_app, sp_PG_G, sp_SG_G, sp_pr, sp_sh] at eS ⊢
    omega
  · refine sp_perm_of fun q => ?_
    have eS := sp_U1 (n := 4) (F := fun k => sp_sh (u.2.2.2.2.2.2.1 k) q5) (x := x.2.1) (v := ((x.2.1 iK).1, c1, (x.2.1 iK).2.2)) hiK  q
    simp only [sp_XW, sp_cnt_app, sp_PG_G, sp_SG_G, sp_pr, sp_sh] at eS ⊢
    omega
theorem lx_lose {l : Launch} {D : va_G} {q5 : Nat → ClassId} {u : sp_XT} (hu : sp_XC (u.1 0) u) {MM : va_W} (p1 : Int32) {x x' : sp_XS} {r : Int32} (h : sx_lose p1 x = some (r, x')) : ∃ rm : Room, rm.cells = 0 ∧ rm.slots = 0 ∧ rm.frames ≤ 100 ∧ rm.locals ≤ 3000 ∧ sp_Li l yX9_lose wsX9_lose rm D q5 [.ref (u.1 0), .int p1] (sp_XW q5 u x ++ MM) r (sp_XW q5 u x' ++ MM) := ⟨rmX9_lose, rfl, rfl, by decide, by decide, lx_lose0 hu p1 _ (sp_ix_lt (by decide)) sp_ix_eq h⟩

theorem lx_put0 {l : Launch} {D : va_G} {q5 : Nat → ClassId} {u : sp_XT} (hu : sp_XC (u.1 0) u) {MM : va_W} (p1 p2 p3 : Int32) (iK : Nat) (hiK : iK < 4) (fK : vp_in p1 4 → iK = p1.toNatClampNeg) {x x' : sp_XS} {r : Int32} (h : sx_put0 p1 p2 p3 iK x = some (r, x')) : sp_Li l yX9_put wsX9_put rmX9_put D q5 [.ref (u.1 0), .int p1, .int p2, .int p3] (sp_XW q5 u x ++ MM) r (sp_XW q5 u x' ++ MM) := by
  unfold sx_put0 at h
  obtain ⟨⟨r1, c1, c2⟩, hf, hz⟩ := sp_hc h
  obtain ⟨q1, q2⟩ := Prod.mk.inj (Option.some.inj hz)
  subst q1
  subst q2
  refine ⟨0, _, _, (sw_XP u.2.1 q5 u.2.2.2.1) ++ (sp_PG q5 12 u.2.2.2.2.2.1 x.1) ++ (sp_G 4 (fun k => sp_sh (u.2.2.2.2.2.2.1 k) q5) x.2.1 [iK]) ++ (sw_R (u.2.2.2.2.2.2.2 0) (u.2.2.2.2.2.2.2 1 0) q5 x.2.2.1.1 x.2.2.1.2.1 x.2.2.1.2.2) ++ (sp_pr (u.2.2.2.2.2.2.2 1) q5 x.2.2.2.1) ++ (sw_Z (u.2.2.2.2.2.2.2 2) q5 x.2.2.2.2.1.1 x.2.2.2.2.1.2) ++ (sw_O (u.2.2.2.2.2.2.2 3) q5 x.2.2.2.2.2.1.1 x.2.2.2.2.2.1.2.1 x.2.2.2.2.2.1.2.2.1 x.2.2.2.2.2.1.2.2.2.1 x.2.2.2.2.2.1.2.2.2.2.1 x.2.2.2.2.2.1.2.2.2.2.2.1 x.2.2.2.2.2.1.2.2.2.2.2.2) ++ (sw_T (u.2.2.2.2.2.2.2 4) (u.2.2.2.2.2.2.2 5 0) q5 x.2.2.2.2.2.2.1.1 x.2.2.2.2.2.2.1.2.1 x.2.2.2.2.2.2.1.2.2.1 x.2.2.2.2.2.2.1.2.2.2) ++ (sp_pr (u.2.2.2.2.2.2.2 5) q5 x.2.2.2.2.2.2.2.1) ++ (sw_U (u.2.2.2.2.2.2.2 6) q5 x.2.2.2.2.2.2.2.2.1.1 x.2.2.2.2.2.2.2.2.1.2) ++ MM, by decide, c_X9_put u.1 u.2.2.1 (u.2.2.2.2.2.2.1 iK) u.2.1 (u.2.2.2.2.2.2.2 0 0) (u.2.2.2.2.2.2.2 2 0) (u.2.2.2.2.2.2.2 3 0) (u.2.2.2.2.2.2.2 4 0) (u.2.2.2.2.2.2.2 6 0) x.2.2.2.2.2.2.2.2.2.1 x.2.2.2.2.2.2.2.2.2.2.1 x.2.2.2.2.2.2.2.2.2.2.2.1 x.2.2.2.2.2.2.2.2.2.2.2.2 u.2.2.2.2.1 (x.2.1 iK).1 (x.2.1 iK).2.1 (x.2.1 iK).2.2 p1 p2 p3 (fun hin => by rw [fK hin]; exact hu.2.2 _ (sp_in_lt hin)) hf, ?_, rfl, ?_⟩
  · refine sp_perm_of fun q => ?_
    have eS := sp_G1 (n := 4) (F := fun k => sp_sh (u.2.2.2.2.2.2.1 k) q5) (x := x.2.1) hiK  q
    simp only [sp_XW, sp_cnt_app, sp_PG_G, sp_SG_G, sp_pr, sp_sh] at eS ⊢
    omega
  · refine sp_perm_of fun q => ?_
    have eS := sp_U1 (n := 4) (F := fun k => sp_sh (u.2.2.2.2.2.2.1 k) q5) (x := x.2.1) (v := (c2, (x.2.1 iK).2.1, (x.2.1 iK).2.2)) hiK  q
    simp only [sp_XW, sp_cnt_app, sp_PG_G, sp_SG_G, sp_pr, sp_sh] at eS ⊢
    omega
theorem lx_put {l : Launch} {D : va_G} {q5 : Nat → ClassId} {u : sp_XT} (hu : sp_XC (u.1 0) u) {MM : va_W} (p1 p2 p3 : Int32) {x x' : sp_XS} {r : Int32} (h : sx_put p1 p2 p3 x = some (r, x')) : ∃ rm : Room, rm.cells = 0 ∧ rm.slots = 0 ∧ rm.frames ≤ 100 ∧ rm.locals ≤ 3000 ∧ sp_Li l yX9_put wsX9_put rm D q5 [.ref (u.1 0), .int p1, .int p2, .int p3] (sp_XW q5 u x ++ MM) r (sp_XW q5 u x' ++ MM) := ⟨rmX9_put, rfl, rfl, by decide, by decide, lx_put0 hu p1 p2 p3 _ (sp_ix_lt (by decide)) sp_ix_eq h⟩

theorem lx_cell0 {l : Launch} {D : va_G} {q5 : Nat → ClassId} {u : sp_XT} (hu : sp_XC (u.1 0) u) {MM : va_W} (p1 p2 p3 : Int32) (iK : Nat) (hiK : iK < 4) (fK : vp_in p1 4 → iK = p1.toNatClampNeg) {x x' : sp_XS} {r : Int64} (h : sx_cell0 p1 p2 p3 iK x = some (r, x')) : sp_Ll l yX9_cell wsX9_cell rmX9_cell D q5 [.ref (u.1 0), .int p1, .int p2, .int p3] (sp_XW q5 u x ++ MM) r (sp_XW q5 u x' ++ MM) := by
  unfold sx_cell0 at h
  obtain ⟨⟨r1, c1⟩, hf, hz⟩ := sp_hc h
  obtain ⟨q1, q2⟩ := Prod.mk.inj (Option.some.inj hz)
  subst q1
  subst q2
  refine ⟨0, _, _, (sw_XP u.2.1 q5 u.2.2.2.1) ++ (sp_PG q5 12 u.2.2.2.2.2.1 x.1) ++ (sp_G 4 (fun k => sp_sh (u.2.2.2.2.2.2.1 k) q5) x.2.1 [iK]) ++ (sw_R (u.2.2.2.2.2.2.2 0) (u.2.2.2.2.2.2.2 1 0) q5 x.2.2.1.1 x.2.2.1.2.1 x.2.2.1.2.2) ++ (sp_pr (u.2.2.2.2.2.2.2 1) q5 x.2.2.2.1) ++ (sw_Z (u.2.2.2.2.2.2.2 2) q5 x.2.2.2.2.1.1 x.2.2.2.2.1.2) ++ (sw_O (u.2.2.2.2.2.2.2 3) q5 x.2.2.2.2.2.1.1 x.2.2.2.2.2.1.2.1 x.2.2.2.2.2.1.2.2.1 x.2.2.2.2.2.1.2.2.2.1 x.2.2.2.2.2.1.2.2.2.2.1 x.2.2.2.2.2.1.2.2.2.2.2.1 x.2.2.2.2.2.1.2.2.2.2.2.2) ++ (sw_T (u.2.2.2.2.2.2.2 4) (u.2.2.2.2.2.2.2 5 0) q5 x.2.2.2.2.2.2.1.1 x.2.2.2.2.2.2.1.2.1 x.2.2.2.2.2.2.1.2.2.1 x.2.2.2.2.2.2.1.2.2.2) ++ (sp_pr (u.2.2.2.2.2.2.2 5) q5 x.2.2.2.2.2.2.2.1) ++ (sw_U (u.2.2.2.2.2.2.2 6) q5 x.2.2.2.2.2.2.2.2.1.1 x.2.2.2.2.2.2.2.2.1.2) ++ MM, by decide, c_X9_cell u.1 u.2.2.1 (u.2.2.2.2.2.2.1 iK) u.2.1 (u.2.2.2.2.2.2.2 0 0) (u.2.2.2.2.2.2.2 2 0) (u.2.2.2.2.2.2.2 3 0) (u.2.2.2.2.2.2.2 4 0) (u.2.2.2.2.2.2.2 6 0) x.2.2.2.2.2.2.2.2.2.1 x.2.2.2.2.2.2.2.2.2.2.1 x.2.2.2.2.2.2.2.2.2.2.2.1 x.2.2.2.2.2.2.2.2.2.2.2.2 u.2.2.2.2.1 (x.2.1 iK).1 (x.2.1 iK).2.1 (x.2.1 iK).2.2 p1 p2 p3 (fun hin => by rw [fK hin]; exact hu.2.2 _ (sp_in_lt hin)) hf, ?_, rfl, ?_⟩
  · refine sp_perm_of fun q => ?_
    have eS := sp_G1 (n := 4) (F := fun k => sp_sh (u.2.2.2.2.2.2.1 k) q5) (x := x.2.1) hiK  q
    simp only [sp_XW, sp_cnt_app, sp_PG_G, sp_SG_G, sp_pr, sp_sh] at eS ⊢
    omega
  · refine sp_perm_of fun q => ?_
    have eS := sp_G1 (n := 4) (F := fun k => sp_sh (u.2.2.2.2.2.2.1 k) q5) (x := x.2.1) hiK  q
    simp only [sp_XW, sp_cnt_app, sp_PG_G, sp_SG_G, sp_pr, sp_sh] at eS ⊢
    omega
theorem lx_cell {l : Launch} {D : va_G} {q5 : Nat → ClassId} {u : sp_XT} (hu : sp_XC (u.1 0) u) {MM : va_W} (p1 p2 p3 : Int32) {x x' : sp_XS} {r : Int64} (h : sx_cell p1 p2 p3 x = some (r, x')) : ∃ rm : Room, rm.cells = 0 ∧ rm.slots = 0 ∧ rm.frames ≤ 100 ∧ rm.locals ≤ 3000 ∧ sp_Ll l yX9_cell wsX9_cell rm D q5 [.ref (u.1 0), .int p1, .int p2, .int p3] (sp_XW q5 u x ++ MM) r (sp_XW q5 u x' ++ MM) := ⟨rmX9_cell, rfl, rfl, by decide, by decide, lx_cell0 hu p1 p2 p3 _ (sp_ix_lt (by decide)) sp_ix_eq h⟩

theorem lx_copy0 {l : Launch} {D : va_G} {q5 : Nat → ClassId} {u : sp_XT} (hu : sp_XC (u.1 0) u) {MM : va_W} (p1 p2 p3 p4 p5 : Int32) (iK : Nat) (hiK : iK < 4) (iO : Nat) (hiO : iO < 4) (fK : vp_in p1 4 → iK = p1.toNatClampNeg) (fO : vp_in p3 4 → iO = p3.toNatClampNeg) (dKO : iO ≠ iK) {x x' : sp_XS} {r : Int32} (h : sx_copy0 p1 p2 p3 p4 p5 iK iO x = some (r, x')) : sp_Li l yX9_copy wsX9_copy rmX9_copy D q5 [.ref (u.1 0), .int p1, .int p2, .int p3, .int p4, .int p5] (sp_XW q5 u x ++ MM) r (sp_XW q5 u x' ++ MM) := by
  unfold sx_copy0 at h
  obtain ⟨⟨r1, c1, c2⟩, hf, hz⟩ := sp_hc h
  obtain ⟨q1, q2⟩ := Prod.mk.inj (Option.some.inj hz)
  subst q1
  subst q2
  refine ⟨0, _, _, (sw_XP u.2.1 q5 u.2.2.2.1) ++ (sp_PG q5 12 u.2.2.2.2.2.1 x.1) ++ (sp_G 4 (fun k => sp_sh (u.2.2.2.2.2.2.1 k) q5) x.2.1 [iO, iK]) ++ (sw_R (u.2.2.2.2.2.2.2 0) (u.2.2.2.2.2.2.2 1 0) q5 x.2.2.1.1 x.2.2.1.2.1 x.2.2.1.2.2) ++ (sp_pr (u.2.2.2.2.2.2.2 1) q5 x.2.2.2.1) ++ (sw_Z (u.2.2.2.2.2.2.2 2) q5 x.2.2.2.2.1.1 x.2.2.2.2.1.2) ++ (sw_O (u.2.2.2.2.2.2.2 3) q5 x.2.2.2.2.2.1.1 x.2.2.2.2.2.1.2.1 x.2.2.2.2.2.1.2.2.1 x.2.2.2.2.2.1.2.2.2.1 x.2.2.2.2.2.1.2.2.2.2.1 x.2.2.2.2.2.1.2.2.2.2.2.1 x.2.2.2.2.2.1.2.2.2.2.2.2) ++ (sw_T (u.2.2.2.2.2.2.2 4) (u.2.2.2.2.2.2.2 5 0) q5 x.2.2.2.2.2.2.1.1 x.2.2.2.2.2.2.1.2.1 x.2.2.2.2.2.2.1.2.2.1 x.2.2.2.2.2.2.1.2.2.2) ++ (sp_pr (u.2.2.2.2.2.2.2 5) q5 x.2.2.2.2.2.2.2.1) ++ (sw_U (u.2.2.2.2.2.2.2 6) q5 x.2.2.2.2.2.2.2.2.1.1 x.2.2.2.2.2.2.2.2.1.2) ++ MM, by decide, c_X9_copy u.1 u.2.2.1 (u.2.2.2.2.2.2.1 iK) (u.2.2.2.2.2.2.1 iO) u.2.1 (u.2.2.2.2.2.2.2 0 0) (u.2.2.2.2.2.2.2 2 0) (u.2.2.2.2.2.2.2 3 0) (u.2.2.2.2.2.2.2 4 0) (u.2.2.2.2.2.2.2 6 0) x.2.2.2.2.2.2.2.2.2.1 x.2.2.2.2.2.2.2.2.2.2.1 x.2.2.2.2.2.2.2.2.2.2.2.1 x.2.2.2.2.2.2.2.2.2.2.2.2 u.2.2.2.2.1 (x.2.1 iK).1 (x.2.1 iK).2.1 (x.2.1 iK).2.2 (x.2.1 iO).1 (x.2.1 iO).2.1 (x.2.1 iO).2.2 p1 p2 p3 p4 p5 (fun hin => by rw [fK hin]; exact hu.2.2 _ (sp_in_lt hin)) (fun hin => by rw [fO hin]; exact hu.2.2 _ (sp_in_lt hin)) hf, ?_, rfl, ?_⟩
  · refine sp_perm_of fun q => ?_
    have eS := sp_G2 (n := 4) (F := fun k => sp_sh (u.2.2.2.2.2.2.1 k) q5) (x := x.2.1) hiK hiO dKO q
    simp only [sp_XW, sp_cnt_app, sp_PG_G, sp_SG_G, sp_pr, sp_sh] at eS ⊢
    omega
  · refine sp_perm_of fun q => ?_
    have eS := sp_U2 (n := 4) (F := fun k => sp_sh (u.2.2.2.2.2.2.1 k) q5) (x := x.2.1) (v := (c2, (x.2.1 iO).2.1, (x.2.1 iO).2.2)) hiK hiO dKO q
    simp only [sp_XW, sp_cnt_app, sp_PG_G, sp_SG_G, sp_pr, sp_sh] at eS ⊢
    omega
theorem lx_copy_al {l : Launch} {D : va_G} {q5 : Nat → ClassId} {u : sp_XT} (hu : sp_XC (u.1 0) u) {MM : va_W} (p1 p2 p3 p4 p5 : Int32) (iK : Nat) (hiK : iK < 4) (fK : vp_in p1 4 → iK = p1.toNatClampNeg) (fO : vp_in p3 4 → iK = p3.toNatClampNeg) {x x' : sp_XS} {r : Int32} (h : sx_copy_al p1 p2 p3 p4 p5 iK x = some (r, x')) : sp_Li l yX9_copy wsX9_copy rmX9_copy_al D q5 [.ref (u.1 0), .int p1, .int p2, .int p3, .int p4, .int p5] (sp_XW q5 u x ++ MM) r (sp_XW q5 u x' ++ MM) := by
  unfold sx_copy_al at h
  obtain ⟨⟨r1, c1, c2⟩, hf, hz⟩ := sp_hc h
  obtain ⟨q1, q2⟩ := Prod.mk.inj (Option.some.inj hz)
  subst q1
  subst q2
  refine ⟨0, _, _, (sw_XP u.2.1 q5 u.2.2.2.1) ++ (sp_PG q5 12 u.2.2.2.2.2.1 x.1) ++ (sp_G 4 (fun k => sp_sh (u.2.2.2.2.2.2.1 k) q5) x.2.1 [iK]) ++ (sw_R (u.2.2.2.2.2.2.2 0) (u.2.2.2.2.2.2.2 1 0) q5 x.2.2.1.1 x.2.2.1.2.1 x.2.2.1.2.2) ++ (sp_pr (u.2.2.2.2.2.2.2 1) q5 x.2.2.2.1) ++ (sw_Z (u.2.2.2.2.2.2.2 2) q5 x.2.2.2.2.1.1 x.2.2.2.2.1.2) ++ (sw_O (u.2.2.2.2.2.2.2 3) q5 x.2.2.2.2.2.1.1 x.2.2.2.2.2.1.2.1 x.2.2.2.2.2.1.2.2.1 x.2.2.2.2.2.1.2.2.2.1 x.2.2.2.2.2.1.2.2.2.2.1 x.2.2.2.2.2.1.2.2.2.2.2.1 x.2.2.2.2.2.1.2.2.2.2.2.2) ++ (sw_T (u.2.2.2.2.2.2.2 4) (u.2.2.2.2.2.2.2 5 0) q5 x.2.2.2.2.2.2.1.1 x.2.2.2.2.2.2.1.2.1 x.2.2.2.2.2.2.1.2.2.1 x.2.2.2.2.2.2.1.2.2.2) ++ (sp_pr (u.2.2.2.2.2.2.2 5) q5 x.2.2.2.2.2.2.2.1) ++ (sw_U (u.2.2.2.2.2.2.2 6) q5 x.2.2.2.2.2.2.2.2.1.1 x.2.2.2.2.2.2.2.2.1.2) ++ MM, by decide, c_X9_copy_al u.1 u.2.2.1 (u.2.2.2.2.2.2.1 iK) u.2.1 (u.2.2.2.2.2.2.2 0 0) (u.2.2.2.2.2.2.2 2 0) (u.2.2.2.2.2.2.2 3 0) (u.2.2.2.2.2.2.2 4 0) (u.2.2.2.2.2.2.2 6 0) x.2.2.2.2.2.2.2.2.2.1 x.2.2.2.2.2.2.2.2.2.2.1 x.2.2.2.2.2.2.2.2.2.2.2.1 x.2.2.2.2.2.2.2.2.2.2.2.2 u.2.2.2.2.1 (x.2.1 iK).1 (x.2.1 iK).2.1 (x.2.1 iK).2.2 p1 p2 p3 p4 p5 (fun hin => by rw [fK hin]; exact hu.2.2 _ (sp_in_lt hin)) (fun hin => by rw [fO hin]; exact hu.2.2 _ (sp_in_lt hin)) hf, ?_, rfl, ?_⟩
  · refine sp_perm_of fun q => ?_
    have eS := sp_G1 (n := 4) (F := fun k => sp_sh (u.2.2.2.2.2.2.1 k) q5) (x := x.2.1) hiK  q
    simp only [sp_XW, sp_cnt_app, sp_PG_G, sp_SG_G, sp_pr, sp_sh] at eS ⊢
    omega
  · refine sp_perm_of fun q => ?_
    have eS := sp_U1 (n := 4) (F := fun k => sp_sh (u.2.2.2.2.2.2.1 k) q5) (x := x.2.1) (v := (c2, (x.2.1 iK).2.1, (x.2.1 iK).2.2)) hiK  q
    simp only [sp_XW, sp_cnt_app, sp_PG_G, sp_SG_G, sp_pr, sp_sh] at eS ⊢
    omega
theorem lx_copy {l : Launch} {D : va_G} {q5 : Nat → ClassId} {u : sp_XT} (hu : sp_XC (u.1 0) u) {MM : va_W} (p1 p2 p3 p4 p5 : Int32) {x x' : sp_XS} {r : Int32} (h : sx_copy p1 p2 p3 p4 p5 x = some (r, x')) : ∃ rm : Room, rm.cells = 0 ∧ rm.slots = 0 ∧ rm.frames ≤ 100 ∧ rm.locals ≤ 3000 ∧ sp_Li l yX9_copy wsX9_copy rm D q5 [.ref (u.1 0), .int p1, .int p2, .int p3, .int p4, .int p5] (sp_XW q5 u x ++ MM) r (sp_XW q5 u x' ++ MM) := by
  unfold sx_copy at h
  split at h
  · rename_i he
    subst he
    exact ⟨rmX9_copy_al, rfl, rfl, by decide, by decide, lx_copy_al hu p1 p2 p1 p4 p5 _ (sp_ix_lt (by decide)) sp_ix_eq sp_ix_eq h⟩
  · rename_i he
    exact ⟨rmX9_copy, rfl, rfl, by decide, by decide, lx_copy0 hu p1 p2 p3 p4 p5 _ (sp_ix2_lt (by decide)) _ (sp_ix12_lt (by decide)) sp_ix2_eq sp_ix12_eq (sp_ix_ne he) h⟩

theorem lx_tell0 {l : Launch} {D : va_G} {q5 : Nat → ClassId} {u : sp_XT} (hu : sp_XC (u.1 0) u) {MM : va_W} (p1 p2 : Int32) (iP : Nat) (hiP : iP < 12) (fP : vp_in p1 12 → iP = p1.toNatClampNeg) {x x' : sp_XS} {r : Int32} (h : sx_tell0 p1 p2 iP x = some (r, x')) : sp_Li l yX9_tell wsX9_tell rmX9_tell D q5 [.ref (u.1 0), .int p1, .int p2] (sp_XW q5 u x ++ MM) r (sp_XW q5 u x' ++ MM) := by
  unfold sx_tell0 at h
  obtain ⟨⟨r1, c1⟩, hf, hz⟩ := sp_hc h
  obtain ⟨q1, q2⟩ := Prod.mk.inj (Option.some.inj hz)
  subst q1
  subst q2
  refine ⟨0, _, _, (sw_XS u.2.2.1 q5 u.2.2.2.2.1) ++ (sp_G 12 (fun k => sp_pr (u.2.2.2.2.2.1 k) q5) x.1 [iP]) ++ (sp_SG q5 4 u.2.2.2.2.2.2.1 x.2.1) ++ (sw_R (u.2.2.2.2.2.2.2 0) (u.2.2.2.2.2.2.2 1 0) q5 x.2.2.1.1 x.2.2.1.2.1 x.2.2.1.2.2) ++ (sp_pr (u.2.2.2.2.2.2.2 1) q5 x.2.2.2.1) ++ (sw_Z (u.2.2.2.2.2.2.2 2) q5 x.2.2.2.2.1.1 x.2.2.2.2.1.2) ++ (sw_O (u.2.2.2.2.2.2.2 3) q5 x.2.2.2.2.2.1.1 x.2.2.2.2.2.1.2.1 x.2.2.2.2.2.1.2.2.1 x.2.2.2.2.2.1.2.2.2.1 x.2.2.2.2.2.1.2.2.2.2.1 x.2.2.2.2.2.1.2.2.2.2.2.1 x.2.2.2.2.2.1.2.2.2.2.2.2) ++ (sw_T (u.2.2.2.2.2.2.2 4) (u.2.2.2.2.2.2.2 5 0) q5 x.2.2.2.2.2.2.1.1 x.2.2.2.2.2.2.1.2.1 x.2.2.2.2.2.2.1.2.2.1 x.2.2.2.2.2.2.1.2.2.2) ++ (sp_pr (u.2.2.2.2.2.2.2 5) q5 x.2.2.2.2.2.2.2.1) ++ (sw_U (u.2.2.2.2.2.2.2 6) q5 x.2.2.2.2.2.2.2.2.1.1 x.2.2.2.2.2.2.2.2.1.2) ++ MM, by decide, c_X9_tell u.1 u.2.1 (u.2.2.2.2.2.1 iP) u.2.2.1 (u.2.2.2.2.2.2.2 0 0) (u.2.2.2.2.2.2.2 2 0) (u.2.2.2.2.2.2.2 3 0) (u.2.2.2.2.2.2.2 4 0) (u.2.2.2.2.2.2.2 6 0) x.2.2.2.2.2.2.2.2.2.1 x.2.2.2.2.2.2.2.2.2.2.1 x.2.2.2.2.2.2.2.2.2.2.2.1 x.2.2.2.2.2.2.2.2.2.2.2.2 u.2.2.2.1 (x.1 iP).1 (x.1 iP).2.1 (x.1 iP).2.2.1 (x.1 iP).2.2.2.1 (x.1 iP).2.2.2.2.1 (x.1 iP).2.2.2.2.2.1 (x.1 iP).2.2.2.2.2.2 p1 p2 (fun hin => by rw [fP hin]; exact hu.2.1 _ (sp_in_lt hin)) hf, ?_, rfl, ?_⟩
  · refine sp_perm_of fun q => ?_
    have eP := sp_G1 (n := 12) (F := fun k => sp_pr (u.2.2.2.2.2.1 k) q5) (x := x.1) hiP  q
    simp only [sp_XW, sp_cnt_app, sp_PG_G, sp_SG_G, sp_pr, sp_sh] at eP ⊢
    omega
  · refine sp_perm_of fun q => ?_
    have eP := sp_G1 (n := 12) (F := fun k => sp_pr (u.2.2.2.2.2.1 k) q5) (x := x.1) hiP  q
    simp only [sp_XW, sp_cnt_app, sp_PG_G, sp_SG_G, sp_pr, sp_sh] at eP ⊢
    omega
theorem lx_tell {l : Launch} {D : va_G} {q5 : Nat → ClassId} {u : sp_XT} (hu : sp_XC (u.1 0) u) {MM : va_W} (p1 p2 : Int32) {x x' : sp_XS} {r : Int32} (h : sx_tell p1 p2 x = some (r, x')) : ∃ rm : Room, rm.cells = 0 ∧ rm.slots = 0 ∧ rm.frames ≤ 100 ∧ rm.locals ≤ 3000 ∧ sp_Li l yX9_tell wsX9_tell rm D q5 [.ref (u.1 0), .int p1, .int p2] (sp_XW q5 u x ++ MM) r (sp_XW q5 u x' ++ MM) := ⟨rmX9_tell, rfl, rfl, by decide, by decide, lx_tell0 hu p1 p2 _ (sp_ix_lt (by decide)) sp_ix_eq h⟩

theorem lx_show0 {l : Launch} {D : va_G} {q5 : Nat → ClassId} {u : sp_XT} (hu : sp_XC (u.1 0) u) {MM : va_W} (p1 p2 : Int32) (iP : Nat) (hiP : iP < 12) (fP : vp_in p1 12 → iP = p1.toNatClampNeg) {x x' : sp_XS} {r : Int32} (h : sx_show0 p1 p2 iP x = some (r, x')) : sp_Li l yX9_show wsX9_show rmX9_show D q5 [.ref (u.1 0), .int p1, .int p2] (sp_XW q5 u x ++ MM) r (sp_XW q5 u x' ++ MM) := by
  unfold sx_show0 at h
  obtain ⟨⟨r1, c1⟩, hf, hz⟩ := sp_hc h
  obtain ⟨q1, q2⟩ := Prod.mk.inj (Option.some.inj hz)
  subst q1
  subst q2
  refine ⟨0, _, _, (sw_XS u.2.2.1 q5 u.2.2.2.2.1) ++ (sp_G 12 (fun k => sp_pr (u.2.2.2.2.2.1 k) q5) x.1 [iP]) ++ (sp_SG q5 4 u.2.2.2.2.2.2.1 x.2.1) ++ (sw_R (u.2.2.2.2.2.2.2 0) (u.2.2.2.2.2.2.2 1 0) q5 x.2.2.1.1 x.2.2.1.2.1 x.2.2.1.2.2) ++ (sp_pr (u.2.2.2.2.2.2.2 1) q5 x.2.2.2.1) ++ (sw_Z (u.2.2.2.2.2.2.2 2) q5 x.2.2.2.2.1.1 x.2.2.2.2.1.2) ++ (sw_O (u.2.2.2.2.2.2.2 3) q5 x.2.2.2.2.2.1.1 x.2.2.2.2.2.1.2.1 x.2.2.2.2.2.1.2.2.1 x.2.2.2.2.2.1.2.2.2.1 x.2.2.2.2.2.1.2.2.2.2.1 x.2.2.2.2.2.1.2.2.2.2.2.1 x.2.2.2.2.2.1.2.2.2.2.2.2) ++ (sw_T (u.2.2.2.2.2.2.2 4) (u.2.2.2.2.2.2.2 5 0) q5 x.2.2.2.2.2.2.1.1 x.2.2.2.2.2.2.1.2.1 x.2.2.2.2.2.2.1.2.2.1 x.2.2.2.2.2.2.1.2.2.2) ++ (sp_pr (u.2.2.2.2.2.2.2 5) q5 x.2.2.2.2.2.2.2.1) ++ (sw_U (u.2.2.2.2.2.2.2 6) q5 x.2.2.2.2.2.2.2.2.1.1 x.2.2.2.2.2.2.2.2.1.2) ++ MM, by decide, c_X9_show u.1 u.2.1 (u.2.2.2.2.2.1 iP) u.2.2.1 (u.2.2.2.2.2.2.2 0 0) (u.2.2.2.2.2.2.2 2 0) (u.2.2.2.2.2.2.2 3 0) (u.2.2.2.2.2.2.2 4 0) (u.2.2.2.2.2.2.2 6 0) x.2.2.2.2.2.2.2.2.2.1 x.2.2.2.2.2.2.2.2.2.2.1 x.2.2.2.2.2.2.2.2.2.2.2.1 x.2.2.2.2.2.2.2.2.2.2.2.2 u.2.2.2.1 (x.1 iP).1 (x.1 iP).2.1 (x.1 iP).2.2.1 (x.1 iP).2.2.2.1 (x.1 iP).2.2.2.2.1 (x.1 iP).2.2.2.2.2.1 (x.1 iP).2.2.2.2.2.2 p1 p2 (fun hin => by rw [fP hin]; exact hu.2.1 _ (sp_in_lt hin)) hf, ?_, rfl, ?_⟩
  · refine sp_perm_of fun q => ?_
    have eP := sp_G1 (n := 12) (F := fun k => sp_pr (u.2.2.2.2.2.1 k) q5) (x := x.1) hiP  q
    simp only [sp_XW, sp_cnt_app, sp_PG_G, sp_SG_G, sp_pr, sp_sh] at eP ⊢
    omega
  · refine sp_perm_of fun q => ?_
    have eP := sp_G1 (n := 12) (F := fun k => sp_pr (u.2.2.2.2.2.1 k) q5) (x := x.1) hiP  q
    simp only [sp_XW, sp_cnt_app, sp_PG_G, sp_SG_G, sp_pr, sp_sh] at eP ⊢
    omega
theorem lx_show {l : Launch} {D : va_G} {q5 : Nat → ClassId} {u : sp_XT} (hu : sp_XC (u.1 0) u) {MM : va_W} (p1 p2 : Int32) {x x' : sp_XS} {r : Int32} (h : sx_show p1 p2 x = some (r, x')) : ∃ rm : Room, rm.cells = 0 ∧ rm.slots = 0 ∧ rm.frames ≤ 100 ∧ rm.locals ≤ 3000 ∧ sp_Li l yX9_show wsX9_show rm D q5 [.ref (u.1 0), .int p1, .int p2] (sp_XW q5 u x ++ MM) r (sp_XW q5 u x' ++ MM) := ⟨rmX9_show, rfl, rfl, by decide, by decide, lx_show0 hu p1 p2 _ (sp_ix_lt (by decide)) sp_ix_eq h⟩

theorem lx_as0 {l : Launch} {D : va_G} {q5 : Nat → ClassId} {u : sp_XT} (hu : sp_XC (u.1 0) u) {MM : va_W} (p1 p2 p3 : Int32) (iP : Nat) (hiP : iP < 12) (fP : vp_in p1 12 → iP = p1.toNatClampNeg) {x x' : sp_XS} {r : Int32} (h : sx_as0 p1 p2 p3 iP x = some (r, x')) : sp_Li l yX9_as wsX9_as rmX9_as D q5 [.ref (u.1 0), .int p1, .int p2, .int p3] (sp_XW q5 u x ++ MM) r (sp_XW q5 u x' ++ MM) := by
  unfold sx_as0 at h
  obtain ⟨⟨r1, c1⟩, hf, hz⟩ := sp_hc h
  obtain ⟨q1, q2⟩ := Prod.mk.inj (Option.some.inj hz)
  subst q1
  subst q2
  refine ⟨0, _, _, (sw_XS u.2.2.1 q5 u.2.2.2.2.1) ++ (sp_G 12 (fun k => sp_pr (u.2.2.2.2.2.1 k) q5) x.1 [iP]) ++ (sp_SG q5 4 u.2.2.2.2.2.2.1 x.2.1) ++ (sw_R (u.2.2.2.2.2.2.2 0) (u.2.2.2.2.2.2.2 1 0) q5 x.2.2.1.1 x.2.2.1.2.1 x.2.2.1.2.2) ++ (sp_pr (u.2.2.2.2.2.2.2 1) q5 x.2.2.2.1) ++ (sw_Z (u.2.2.2.2.2.2.2 2) q5 x.2.2.2.2.1.1 x.2.2.2.2.1.2) ++ (sw_O (u.2.2.2.2.2.2.2 3) q5 x.2.2.2.2.2.1.1 x.2.2.2.2.2.1.2.1 x.2.2.2.2.2.1.2.2.1 x.2.2.2.2.2.1.2.2.2.1 x.2.2.2.2.2.1.2.2.2.2.1 x.2.2.2.2.2.1.2.2.2.2.2.1 x.2.2.2.2.2.1.2.2.2.2.2.2) ++ (sw_T (u.2.2.2.2.2.2.2 4) (u.2.2.2.2.2.2.2 5 0) q5 x.2.2.2.2.2.2.1.1 x.2.2.2.2.2.2.1.2.1 x.2.2.2.2.2.2.1.2.2.1 x.2.2.2.2.2.2.1.2.2.2) ++ (sp_pr (u.2.2.2.2.2.2.2 5) q5 x.2.2.2.2.2.2.2.1) ++ (sw_U (u.2.2.2.2.2.2.2 6) q5 x.2.2.2.2.2.2.2.2.1.1 x.2.2.2.2.2.2.2.2.1.2) ++ MM, by decide, c_X9_as u.1 u.2.1 (u.2.2.2.2.2.1 iP) u.2.2.1 (u.2.2.2.2.2.2.2 0 0) (u.2.2.2.2.2.2.2 2 0) (u.2.2.2.2.2.2.2 3 0) (u.2.2.2.2.2.2.2 4 0) (u.2.2.2.2.2.2.2 6 0) x.2.2.2.2.2.2.2.2.2.1 x.2.2.2.2.2.2.2.2.2.2.1 x.2.2.2.2.2.2.2.2.2.2.2.1 x.2.2.2.2.2.2.2.2.2.2.2.2 u.2.2.2.1 (x.1 iP).1 (x.1 iP).2.1 (x.1 iP).2.2.1 (x.1 iP).2.2.2.1 (x.1 iP).2.2.2.2.1 (x.1 iP).2.2.2.2.2.1 (x.1 iP).2.2.2.2.2.2 p1 p2 p3 (fun hin => by rw [fP hin]; exact hu.2.1 _ (sp_in_lt hin)) hf, ?_, rfl, ?_⟩
  · refine sp_perm_of fun q => ?_
    have eP := sp_G1 (n := 12) (F := fun k => sp_pr (u.2.2.2.2.2.1 k) q5) (x := x.1) hiP  q
    simp only [sp_XW, sp_cnt_app, sp_PG_G, sp_SG_G, sp_pr, sp_sh] at eP ⊢
    omega
  · refine sp_perm_of fun q => ?_
    have eP := sp_G1 (n := 12) (F := fun k => sp_pr (u.2.2.2.2.2.1 k) q5) (x := x.1) hiP  q
    simp only [sp_XW, sp_cnt_app, sp_PG_G, sp_SG_G, sp_pr, sp_sh] at eP ⊢
    omega
theorem lx_as {l : Launch} {D : va_G} {q5 : Nat → ClassId} {u : sp_XT} (hu : sp_XC (u.1 0) u) {MM : va_W} (p1 p2 p3 : Int32) {x x' : sp_XS} {r : Int32} (h : sx_as p1 p2 p3 x = some (r, x')) : ∃ rm : Room, rm.cells = 0 ∧ rm.slots = 0 ∧ rm.frames ≤ 100 ∧ rm.locals ≤ 3000 ∧ sp_Li l yX9_as wsX9_as rm D q5 [.ref (u.1 0), .int p1, .int p2, .int p3] (sp_XW q5 u x ++ MM) r (sp_XW q5 u x' ++ MM) := ⟨rmX9_as, rfl, rfl, by decide, by decide, lx_as0 hu p1 p2 p3 _ (sp_ix_lt (by decide)) sp_ix_eq h⟩

theorem lx_trace_b {l : Launch} {D : va_G} {q5 : Nat → ClassId} {u : sp_XT} (hu : sp_XC (u.1 0) u) {MM : va_W} {x x' : sp_XS} {r : Int32} (h : sx_trace   x = some (r, x')) : sp_Li l yX9_trace wsX9_trace rmX9_trace D q5 [.ref (u.1 0)] (sp_XW q5 u x ++ MM) r (sp_XW q5 u x' ++ MM) := by
  unfold sx_trace at h
  obtain ⟨r1, hf, hz⟩ := sp_hc h
  obtain ⟨q1, q2⟩ := Prod.mk.inj (Option.some.inj hz)
  subst q1
  subst q2
  refine ⟨0, _, _, (sw_XP u.2.1 q5 u.2.2.2.1) ++ (sw_XS u.2.2.1 q5 u.2.2.2.2.1) ++ (sp_PG q5 12 u.2.2.2.2.2.1 x.1) ++ (sp_SG q5 4 u.2.2.2.2.2.2.1 x.2.1) ++ (sw_R (u.2.2.2.2.2.2.2 0) (u.2.2.2.2.2.2.2 1 0) q5 x.2.2.1.1 x.2.2.1.2.1 x.2.2.1.2.2) ++ (sp_pr (u.2.2.2.2.2.2.2 1) q5 x.2.2.2.1) ++ (sw_Z (u.2.2.2.2.2.2.2 2) q5 x.2.2.2.2.1.1 x.2.2.2.2.1.2) ++ (sw_O (u.2.2.2.2.2.2.2 3) q5 x.2.2.2.2.2.1.1 x.2.2.2.2.2.1.2.1 x.2.2.2.2.2.1.2.2.1 x.2.2.2.2.2.1.2.2.2.1 x.2.2.2.2.2.1.2.2.2.2.1 x.2.2.2.2.2.1.2.2.2.2.2.1 x.2.2.2.2.2.1.2.2.2.2.2.2) ++ (sw_T (u.2.2.2.2.2.2.2 4) (u.2.2.2.2.2.2.2 5 0) q5 x.2.2.2.2.2.2.1.1 x.2.2.2.2.2.2.1.2.1 x.2.2.2.2.2.2.1.2.2.1 x.2.2.2.2.2.2.1.2.2.2) ++ (sp_pr (u.2.2.2.2.2.2.2 5) q5 x.2.2.2.2.2.2.2.1) ++ (sw_U (u.2.2.2.2.2.2.2 6) q5 x.2.2.2.2.2.2.2.2.1.1 x.2.2.2.2.2.2.2.2.1.2) ++ MM, by decide, c_X9_trace u.1 u.2.1 u.2.2.1 (u.2.2.2.2.2.2.2 0 0) (u.2.2.2.2.2.2.2 2 0) (u.2.2.2.2.2.2.2 3 0) (u.2.2.2.2.2.2.2 4 0) (u.2.2.2.2.2.2.2 6 0) x.2.2.2.2.2.2.2.2.2.1 x.2.2.2.2.2.2.2.2.2.2.1 x.2.2.2.2.2.2.2.2.2.2.2.1 x.2.2.2.2.2.2.2.2.2.2.2.2 hf, ?_, rfl, ?_⟩
  · refine sp_perm_of fun q => ?_
    simp only [sp_XW, sp_cnt_app, sp_PG_G, sp_SG_G, sp_pr, sp_sh] at ⊢
    omega
  · refine sp_perm_of fun q => ?_
    simp only [sp_XW, sp_cnt_app, sp_PG_G, sp_SG_G, sp_pr, sp_sh] at ⊢
    omega
theorem lx_trace {l : Launch} {D : va_G} {q5 : Nat → ClassId} {u : sp_XT} (hu : sp_XC (u.1 0) u) {MM : va_W} {x x' : sp_XS} {r : Int32} (h : sx_trace  x = some (r, x')) : ∃ rm : Room, rm.cells = 0 ∧ rm.slots = 0 ∧ rm.frames ≤ 100 ∧ rm.locals ≤ 3000 ∧ sp_Li l yX9_trace wsX9_trace rm D q5 [.ref (u.1 0)] (sp_XW q5 u x ++ MM) r (sp_XW q5 u x' ++ MM) := ⟨rmX9_trace, rfl, rfl, by decide, by decide, lx_trace_b hu  h⟩

theorem lx_fault_b {l : Launch} {D : va_G} {q5 : Nat → ClassId} {u : sp_XT} (hu : sp_XC (u.1 0) u) {MM : va_W} {x x' : sp_XS} {r : Int32} (h : sx_fault   x = some (r, x')) : sp_Li l yX9_fault wsX9_fault rmX9_fault D q5 [.ref (u.1 0)] (sp_XW q5 u x ++ MM) r (sp_XW q5 u x' ++ MM) := by
  unfold sx_fault at h
  obtain ⟨r1, hf, hz⟩ := sp_hc h
  obtain ⟨q1, q2⟩ := Prod.mk.inj (Option.some.inj hz)
  subst q1
  subst q2
  refine ⟨0, _, _, (sw_XP u.2.1 q5 u.2.2.2.1) ++ (sw_XS u.2.2.1 q5 u.2.2.2.2.1) ++ (sp_PG q5 12 u.2.2.2.2.2.1 x.1) ++ (sp_SG q5 4 u.2.2.2.2.2.2.1 x.2.1) ++ (sw_R (u.2.2.2.2.2.2.2 0) (u.2.2.2.2.2.2.2 1 0) q5 x.2.2.1.1 x.2.2.1.2.1 x.2.2.1.2.2) ++ (sp_pr (u.2.2.2.2.2.2.2 1) q5 x.2.2.2.1) ++ (sw_Z (u.2.2.2.2.2.2.2 2) q5 x.2.2.2.2.1.1 x.2.2.2.2.1.2) ++ (sw_O (u.2.2.2.2.2.2.2 3) q5 x.2.2.2.2.2.1.1 x.2.2.2.2.2.1.2.1 x.2.2.2.2.2.1.2.2.1 x.2.2.2.2.2.1.2.2.2.1 x.2.2.2.2.2.1.2.2.2.2.1 x.2.2.2.2.2.1.2.2.2.2.2.1 x.2.2.2.2.2.1.2.2.2.2.2.2) ++ (sw_T (u.2.2.2.2.2.2.2 4) (u.2.2.2.2.2.2.2 5 0) q5 x.2.2.2.2.2.2.1.1 x.2.2.2.2.2.2.1.2.1 x.2.2.2.2.2.2.1.2.2.1 x.2.2.2.2.2.2.1.2.2.2) ++ (sp_pr (u.2.2.2.2.2.2.2 5) q5 x.2.2.2.2.2.2.2.1) ++ (sw_U (u.2.2.2.2.2.2.2 6) q5 x.2.2.2.2.2.2.2.2.1.1 x.2.2.2.2.2.2.2.2.1.2) ++ MM, by decide, c_X9_fault u.1 u.2.1 u.2.2.1 (u.2.2.2.2.2.2.2 0 0) (u.2.2.2.2.2.2.2 2 0) (u.2.2.2.2.2.2.2 3 0) (u.2.2.2.2.2.2.2 4 0) (u.2.2.2.2.2.2.2 6 0) x.2.2.2.2.2.2.2.2.2.1 x.2.2.2.2.2.2.2.2.2.2.1 x.2.2.2.2.2.2.2.2.2.2.2.1 x.2.2.2.2.2.2.2.2.2.2.2.2 hf, ?_, rfl, ?_⟩
  · refine sp_perm_of fun q => ?_
    simp only [sp_XW, sp_cnt_app, sp_PG_G, sp_SG_G, sp_pr, sp_sh] at ⊢
    omega
  · refine sp_perm_of fun q => ?_
    simp only [sp_XW, sp_cnt_app, sp_PG_G, sp_SG_G, sp_pr, sp_sh] at ⊢
    omega
theorem lx_fault {l : Launch} {D : va_G} {q5 : Nat → ClassId} {u : sp_XT} (hu : sp_XC (u.1 0) u) {MM : va_W} {x x' : sp_XS} {r : Int32} (h : sx_fault  x = some (r, x')) : ∃ rm : Room, rm.cells = 0 ∧ rm.slots = 0 ∧ rm.frames ≤ 100 ∧ rm.locals ≤ 3000 ∧ sp_Li l yX9_fault wsX9_fault rm D q5 [.ref (u.1 0)] (sp_XW q5 u x ++ MM) r (sp_XW q5 u x' ++ MM) := ⟨rmX9_fault, rfl, rfl, by decide, by decide, lx_fault_b hu  h⟩

theorem lx_many {l : Launch} {D : va_G} {q5 : Nat → ClassId} {u : sp_XT} (hu : sp_XC (u.1 0) u) {MM : va_W} (p1 : Int32) {x x' : sp_XS} {r : Int32} (h : sx_many p1 x = some (r, x')) : ∃ rm : Room, rm.cells = 0 ∧ rm.slots = 0 ∧ rm.frames ≤ 100 ∧ rm.locals ≤ 3000 ∧ sp_Li l yX9_many wsX9_many rm D q5 [.ref (u.1 0), .int p1] (sp_XW q5 u x ++ MM) r (sp_XW q5 u x' ++ MM) := by
  unfold sx_many at h
  obtain ⟨r1, hf, hz⟩ := sp_hc h
  obtain ⟨q1, q2⟩ := Prod.mk.inj (Option.some.inj hz)
  subst q1
  subst q2
  refine ⟨rmX9_many, rfl, rfl, by decide, by decide, 0, _, _, (sw_XS u.2.2.1 q5 u.2.2.2.2.1) ++ (sp_SG q5 4 u.2.2.2.2.2.2.1 x.2.1) ++ (sw_R (u.2.2.2.2.2.2.2 0) (u.2.2.2.2.2.2.2 1 0) q5 x.2.2.1.1 x.2.2.1.2.1 x.2.2.1.2.2) ++ (sp_pr (u.2.2.2.2.2.2.2 1) q5 x.2.2.2.1) ++ (sw_Z (u.2.2.2.2.2.2.2 2) q5 x.2.2.2.2.1.1 x.2.2.2.2.1.2) ++ (sw_O (u.2.2.2.2.2.2.2 3) q5 x.2.2.2.2.2.1.1 x.2.2.2.2.2.1.2.1 x.2.2.2.2.2.1.2.2.1 x.2.2.2.2.2.1.2.2.2.1 x.2.2.2.2.2.1.2.2.2.2.1 x.2.2.2.2.2.1.2.2.2.2.2.1 x.2.2.2.2.2.1.2.2.2.2.2.2) ++ (sw_T (u.2.2.2.2.2.2.2 4) (u.2.2.2.2.2.2.2 5 0) q5 x.2.2.2.2.2.2.1.1 x.2.2.2.2.2.2.1.2.1 x.2.2.2.2.2.2.1.2.2.1 x.2.2.2.2.2.2.1.2.2.2) ++ (sp_pr (u.2.2.2.2.2.2.2 5) q5 x.2.2.2.2.2.2.2.1) ++ (sw_U (u.2.2.2.2.2.2.2 6) q5 x.2.2.2.2.2.2.2.2.1.1 x.2.2.2.2.2.2.2.2.1.2) ++ MM, by decide, c_X9_many u.1 u.2.1 u.2.2.2.2.2.1 u.2.2.1 (u.2.2.2.2.2.2.2 0 0) (u.2.2.2.2.2.2.2 2 0) (u.2.2.2.2.2.2.2 3 0) (u.2.2.2.2.2.2.2 4 0) (u.2.2.2.2.2.2.2 6 0) x.2.2.2.2.2.2.2.2.2.1 x.2.2.2.2.2.2.2.2.2.2.1 x.2.2.2.2.2.2.2.2.2.2.2.1 x.2.2.2.2.2.2.2.2.2.2.2.2 u.2.2.2.1 x.1 p1 hu.2.1 hf, ?_, rfl, ?_⟩
  · refine sp_perm_of fun q => ?_
    simp only [sp_XW, sp_cnt_app]
    omega
  · refine sp_perm_of fun q => ?_
    simp only [sp_XW, sp_cnt_app]
    omega
