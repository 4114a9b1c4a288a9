/-! reading a text: a line's number, a cut, all items -/
theorem sz_dig (c : Int32) : (f_X3_isDigit c = some 0 ∧ f_X10_within c (48 : Int32) (57 : Int32) = some 0) ∨ (∃ d : Nat, d ≤ 9 ∧ c = Int32.ofNat (48 + d) ∧ f_X3_isDigit c = some 1 ∧ f_X10_within c (48 : Int32) (57 : Int32) = some 1) := by
  unfold f_X3_isDigit f_X10_within
  by_cases h0 : c < 48
  · left; rw [if_pos h0]; exact ⟨rfl, rfl⟩
  · by_cases h1 : (57 : Int32) < c
    · left; rw [if_neg h0, if_pos h1]; exact ⟨rfl, rfl⟩
    · right
      rw [if_neg h0, if_neg h1]
      obtain ⟨m, hm, rfl⟩ := sp_i_le_ex (n := 57) (by omega) (fun q => h0 (Int32.lt_trans q (by decide))) (Int32.not_lt.mp h1)
      have : ¬ m < 48 := fun q => h0 ((sp_i_lt (n := 48) (by omega) (by omega)).mpr q)
      exact ⟨m - 48, by omega, by rw [show 48 + (m - 48) = m by omega], rfl, rfl⟩
theorem sz_let (c : Int32) : (f_X10_within c (97 : Int32) (102 : Int32) = some 0 ∧ (c < 97 ∨ (¬ c < 97 ∧ ¬ c < 103))) ∨ (∃ k : Nat, k < 6 ∧ c = Int32.ofNat (97 + k) ∧ f_X10_within c (97 : Int32) (102 : Int32) = some 1 ∧ ¬ c < 97 ∧ c < 103) := by
  unfold f_X10_within
  by_cases h0 : c < 97
  · left; rw [if_pos h0]; exact ⟨rfl, Or.inl h0⟩
  · by_cases h1 : (102 : Int32) < c
    · left
      rw [if_neg h0, if_pos h1]
      refine ⟨rfl, Or.inr ⟨h0, fun q => ?_⟩⟩
      rw [Int32.lt_iff_toInt_lt] at h1 q
      have e1 : (102 : Int32).toInt = 102 := rfl
      have e2 : (103 : Int32).toInt = 103 := rfl
      omega
    · right
      rw [if_neg h0, if_neg h1]
      obtain ⟨m, hm, rfl⟩ := sp_i_le_ex (n := 102) (by omega) (fun q => h0 (Int32.lt_trans q (by decide))) (Int32.not_lt.mp h1)
      have : ¬ m < 97 := fun q => h0 ((sp_i_lt (n := 97) (by omega) (by omega)).mpr q)
      exact ⟨m - 97, by omega, by rw [show 97 + (m - 97) = m by omega], rfl, h0, (sp_i_lt (n := 103) (by omega) (by omega)).mpr (by omega)⟩
theorem sz_m48 (d : Nat) : Int32.ofNat (48 + d) - 48 = Int32.ofNat d := by
  have := sp_i_sub (a := 48 + d) (b := 48) (by omega)
  rw [show 48 + d - 48 = d by omega] at this
  exact this
theorem sz_m97 (d : Nat) : Int32.ofNat (97 + d) - 97 = Int32.ofNat d := by
  have := sp_i_sub (a := 97 + d) (b := 97) (by omega)
  rw [show 97 + d - 97 = d by omega] at this
  exact this
theorem sz_dec (v d : Nat) : (10 : Int32) * Int32.ofNat v + Int32.ofNat (48 + d) - 48 = Int32.ofNat (10 * v + d) := by
  have e : (10 : Int32) * Int32.ofNat v = Int32.ofNat (10 * v) := (Int32.ofNat_mul 10 v).symm
  rw [e, sp_i_add]
  have := sp_i_sub (a := 10 * v + (48 + d)) (b := 48) (by omega)
  rw [show 10 * v + (48 + d) - 48 = 10 * v + d by omega] at this
  exact this
def sz_vv (dd : Nat → Nat) : Nat → Nat
  | 0 => 0
  | i + 1 => 10 * sz_vv dd i + dd i
theorem sz_tc_in {co : Nat → Int32} {n q : Nat} {c : Int32} (h : sz_tc co n q = c) (hc : ¬ c = -9) : q < n := by
  unfold sz_tc at h
  by_cases e : q < n
  · exact e
  · rw [if_neg e] at h; exact absurd h.symm hc
theorem sz_lineM {co ce : Nat → Int32} {n B : Nat} (h : sz_tx co ce n B) {q j : Nat} (hq : q ≤ n) (hj : j ≤ 2) (dd : Nat → Nat) (hd : ∀ i, i < j → dd i ≤ 9 ∧ sz_tc co n (q + i) = Int32.ofNat (48 + dd i)) (he : j = 2 ∨ f_X10_within (sz_tc co n (q + j)) (48 : Int32) (57 : Int32) = some 0) (kk : Int32 → Int32 → Option (Int32 × Int32)) : sp_lp (f_X10_readsLine_L7 (Int32.ofNat (B + q)) kk ce (Int32.ofNat (B + n))) sp_F ((0 : Int32), Int32.ofNat (B + q)) = kk (Int32.ofNat (sz_vv dd j)) (Int32.ofNat (B + (q + j))) := by
  have hn := h.1
  have hB := h.2.1
  have h2 : Int32.ofNat (B + q) + 2 = Int32.ofNat (B + q + 2) := sp_i_add (B + q) 2
  refine sp_lp_fn j (fun i => (Int32.ofNat (sz_vv dd i), Int32.ofNat (B + (q + i)))) (fun i hi rec => ?_) (fun rec => ?_) (sp_F_lt (by omega)) rfl
  · obtain ⟨d1, d2⟩ := hd i hi
    have hw : f_X10_within (Int32.ofNat (48 + dd i)) (48 : Int32) (57 : Int32) = some 1 := by
      unfold f_X10_within
      rw [if_neg (show ¬ Int32.ofNat (48 + dd i) < 48 from fun z => by have := (sp_i_lt (n := 48) (by omega) (by omega)).mp z; omega), if_neg (show ¬ (57 : Int32) < Int32.ofNat (48 + dd i) from fun z => by have := (sp_i_lt (i := 57) (by omega) (by omega)).mp z; omega)]
    rw [f_X10_readsLine_L7_eq, h2, if_neg (fun z => by have := (sp_i_le (by omega) (by omega)).mp z; omega), sz_codeM h (by omega), Option.bind_some, d2, hw, Option.bind_some, if_neg (by decide), Option.bind_some, sp_bndE, sp_bndE, sz_dec, sp_i_succ]
    rfl
  · rw [f_X10_readsLine_L7_eq, h2]
    by_cases e : j = 2
    · rw [if_pos ((sp_i_le (by omega) (by omega)).mpr (by omega))]
    · rcases he with he | he
      · exact absurd he e
      · rw [if_neg (fun z => by have := (sp_i_le (by omega) (by omega)).mp z; omega), sz_codeM h (by omega), Option.bind_some, he, Option.bind_some, if_pos rfl]
theorem sz_readLine {co ce : Nat → Int32} {n B : Nat} (h : sz_tx co ce n B) {q m : Nat} (hq : q ≤ n) (hm : m ≤ 48) : (f_X3_readLine co (Int32.ofNat n) (Int32.ofNat q) (Int32.ofNat m) = some (-9, Int32.ofNat q) ∧ f_X10_readsLine ce (Int32.ofNat m) (Int32.ofNat (B + q)) (Int32.ofNat (B + n)) = some (-1, Int32.ofNat (B + q))) ∨ (∃ v q' : Nat, v < m ∧ q' ≤ n ∧ f_X3_readLine co (Int32.ofNat n) (Int32.ofNat q) (Int32.ofNat m) = some (Int32.ofNat v, Int32.ofNat q') ∧ f_X10_readsLine ce (Int32.ofNat m) (Int32.ofNat (B + q)) (Int32.ofNat (B + n)) = some (Int32.ofNat v, Int32.ofNat (B + q'))) := by
  have hn := h.1
  have hB := h.2.1
  -- what comes of j digits with the value v
  have hM : ∀ (j : Nat) (dd : Nat → Nat), j ≤ 2 → (∀ i, i < j → dd i ≤ 9 ∧ sz_tc co n (q + i) = Int32.ofNat (48 + dd i)) → (j = 2 ∨ f_X10_within (sz_tc co n (q + j)) (48 : Int32) (57 : Int32) = some 0) → f_X10_readsLine ce (Int32.ofNat m) (Int32.ofNat (B + q)) (Int32.ofNat (B + n)) = if j ≠ 0 ∧ sz_vv dd j < m then some (Int32.ofNat (sz_vv dd j), Int32.ofNat (B + (q + j))) else some (-1, Int32.ofNat (B + q)) := by
    intro j dd hj hd he
    have hv : sz_vv dd j < 1000 := by
      rcases (show j = 0 ∨ j = 1 ∨ j = 2 by omega) with rfl | rfl | rfl
      · rw [sz_vv]; omega
      · rw [sz_vv, sz_vv]; have := (hd 0 (by omega)).1; omega
      · rw [sz_vv, sz_vv, sz_vv]; have := (hd 0 (by omega)).1; have := (hd 1 (by omega)).1; omega
    unfold f_X10_readsLine
    rw [sp_bndE, sz_lineM h hq hj dd hd he, sp_bndE]
    by_cases e : j = 0
    · rw [if_pos (show Int32.ofNat (B + (q + j)) = Int32.ofNat (B + q) by rw [e, Nat.add_zero]), if_neg (fun z => z.1 e)]
    · rw [if_neg (fun z => by have := (sp_i_inj (by omega) (by omega)).mp z; omega)]
      by_cases w : sz_vv dd j < m
      · rw [if_pos ((sp_i_lt (by omega) (by omega)).mpr w), if_pos ⟨e, w⟩]
      · rw [if_neg (fun z => w ((sp_i_lt (by omega) (by omega)).mp z)), if_neg (fun z => w z.2)]
  rcases sz_dig (sz_tc co n q) with ⟨a1, a2⟩ | ⟨d0, hd0, a0, a1, a2⟩
  · left
    refine ⟨?_, ?_⟩
    · unfold f_X3_readLine
      rw [sz_codeX h (by omega), Option.bind_some, a1, Option.bind_some, if_pos rfl]
    · rw [hM 0 (fun _ => 0) (by omega) (fun i hi => by omega) (Or.inr a2), if_neg (fun z => z.1 rfl)]
  · have hqn : q < n := sz_tc_in a0 (sp_i_neg (by omega))
    have hone : Int32.ofNat q + 1 = Int32.ofNat (q + 1) := sp_i_succ q
    rcases sz_dig (sz_tc co n (q + 1)) with ⟨b1, b2⟩ | ⟨d1, hd1, b0, b1, b2⟩
    · have hX : f_X3_readLine co (Int32.ofNat n) (Int32.ofNat q) (Int32.ofNat m) = if d0 < m then some (Int32.ofNat d0, Int32.ofNat (q + 1)) else some (-9, Int32.ofNat q) := by
        unfold f_X3_readLine
        rw [sz_codeX h (by omega), Option.bind_some, a1, Option.bind_some, if_neg (by decide), Option.bind_some, sp_bndE, hone, sz_codeX h (by omega), Option.bind_some, b1, Option.bind_some, sp_bndE, if_pos rfl, a0, sz_m48]
        show (if Int32.ofNat d0 < Int32.ofNat m then sp_bnd (Int32.ofNat q + 1) _ else _) = _
        by_cases w : d0 < m
        · rw [if_pos ((sp_i_lt (by omega) (by omega)).mpr w), if_pos w, sp_bndE, hone]
        · rw [if_neg (fun z => w ((sp_i_lt (by omega) (by omega)).mp z)), if_neg w]
      have hM1 := hM 1 (fun _ => d0) (by omega) (fun i hi => by
        obtain rfl : i = 0 := by omega
        exact ⟨hd0, a0⟩) (Or.inr b2)
      have ev : sz_vv (fun _ => d0) 1 = d0 := by rw [sz_vv, sz_vv]; omega
      rw [ev] at hM1
      by_cases w : d0 < m
      · right
        rw [if_pos w] at hX
        rw [if_pos ⟨by omega, w⟩] at hM1
        exact ⟨d0, q + 1, w, by omega, hX, hM1⟩
      · left
        rw [if_neg w] at hX
        rw [if_neg (fun z => w z.2)] at hM1
        exact ⟨hX, hM1⟩
    · have hqn1 : q + 1 < n := sz_tc_in b0 (sp_i_neg (by omega))
      have htwo : Int32.ofNat q + 2 = Int32.ofNat (q + 2) := sp_i_add q 2
      have hX : f_X3_readLine co (Int32.ofNat n) (Int32.ofNat q) (Int32.ofNat m) = if 10 * d0 + d1 < m then some (Int32.ofNat (10 * d0 + d1), Int32.ofNat (q + 2)) else some (-9, Int32.ofNat q) := by
        unfold f_X3_readLine
        rw [sz_codeX h (by omega), Option.bind_some, a1, Option.bind_some, if_neg (by decide), Option.bind_some, sp_bndE, hone, sz_codeX h (by omega), Option.bind_some, b1, Option.bind_some, sp_bndE, if_neg (by decide), Option.bind_some, sp_bndE, a0, sz_m48, b0, sz_dec]
        show (if Int32.ofNat (10 * d0 + d1) < Int32.ofNat m then sp_bnd (Int32.ofNat q + 2) _ else _) = _
        by_cases w : 10 * d0 + d1 < m
        · rw [if_pos ((sp_i_lt (by omega) (by omega)).mpr w), if_pos w, sp_bndE, htwo]
        · rw [if_neg (fun z => w ((sp_i_lt (by omega) (by omega)).mp z)), if_neg w]
      have hM1 := hM 2 (fun i => if i = 0 then d0 else d1) (by omega) (fun i hi => by
        rcases (show i = 0 ∨ i = 1 by omega) with rfl | rfl
        · exact ⟨hd0, a0⟩
        · exact ⟨hd1, b0⟩) (Or.inl rfl)
      have ev : sz_vv (fun i => if i = 0 then d0 else d1) 2 = 10 * d0 + d1 := by
        rw [sz_vv, sz_vv, sz_vv]
        show 10 * (10 * 0 + d0) + d1 = _
        omega
      rw [ev] at hM1
      by_cases w : 10 * d0 + d1 < m
      · right
        rw [if_pos w] at hX
        rw [if_pos ⟨by omega, w⟩] at hM1
        exact ⟨10 * d0 + d1, q + 2, w, by omega, hX, hM1⟩
      · left
        rw [if_neg w] at hX
        rw [if_neg (fun z => w z.2)] at hM1
        exact ⟨hX, hM1⟩
theorem sz_reads {co ce : Nat → Int32} {n B : Nat} (h : sz_tx co ce n B) {q : Nat} (hq : q < 1000) (w : Int32) : f_X3_reads w co (Int32.ofNat n) (Int32.ofNat q) = if sz_tc co n q = w then some (1, Int32.ofNat (q + 1)) else some (0, Int32.ofNat q) := by
  unfold f_X3_reads
  rw [sz_codeX h hq, Option.bind_some, sp_bndE, sp_i_succ]
theorem sz_cutR {x : sp_PrT} {m i j k : Nat} (hD : sz_dr x m) (hi : i < m) (hj : j < m) (hk : k < 6) : ∃ r : Int32, f_X10_cutOf (x.1 i) (x.1 j) (Int32.ofNat k) = some r ∧ (r = -9 ∨ (¬ r = -9 ∧ f_X10_isClause r = some 1)) := by
  obtain ⟨ei, hci⟩ := sz_cc hD hi
  obtain ⟨ej, hcj⟩ := sz_cc hD hj
  rw [ei, ej, sp_cutM hk]
  have hlt := sz_cn_lt (k := k) hci hcj
  by_cases q : (sp_cc x i).testBit k = true ∧ (sp_cc x j).testBit (k + 6) = true
  · rw [if_pos q]
    rcases sp_isClause01 (Int32.ofNat (sz_cn (sp_cc x i) (sp_cc x j) k)) with e | e
    · rw [e, Option.bind_some, if_pos rfl]
      exact ⟨-9, rfl, Or.inl rfl⟩
    · rw [e, Option.bind_some, if_neg (by decide)]
      exact ⟨_, rfl, Or.inr ⟨sp_i_neg (by omega), e⟩⟩
  · rw [if_neg q]
    exact ⟨-9, rfl, Or.inl rfl⟩
theorem sz_readsCut {co ce : Nat → Int32} {n B : Nat} (h : sz_tx co ce n B) {x : sp_PrT} {nc nl nr nt : Nat → Int32} {m q : Nat} (hD : sz_D x nc nl nr nt m) (hm : m < 48) (hq : q ≤ n) : (∃ q' : Nat, q' ≤ n ∧ f_X3_readsCut co (Int32.ofNat n) (Int32.ofNat q) x.1 x.2.1 x.2.2.1 x.2.2.2.1 x.2.2.2.2.1 x.2.2.2.2.2.1 x.2.2.2.2.2.2 = some (0, Int32.ofNat q', x.1, x.2.1, x.2.2.1, x.2.2.2.1, x.2.2.2.2.1, x.2.2.2.2.2.1, x.2.2.2.2.2.2) ∧ f_X10_readsCut ce (Int32.ofNat m) nc nl nr nt (Int32.ofNat (B + q)) (Int32.ofNat (B + n)) = some (0, Int32.ofNat m, nc, nl, nr, nt, Int32.ofNat (B + q'))) ∨ (∃ (q' : Nat) (x' : sp_PrT) (nc' nl' nr' nt' : Nat → Int32), q' ≤ n ∧ f_X3_readsCut co (Int32.ofNat n) (Int32.ofNat q) x.1 x.2.1 x.2.2.1 x.2.2.2.1 x.2.2.2.2.1 x.2.2.2.2.2.1 x.2.2.2.2.2.2 = some (1, Int32.ofNat q', x'.1, x'.2.1, x'.2.2.1, x'.2.2.2.1, x'.2.2.2.2.1, x'.2.2.2.2.2.1, x'.2.2.2.2.2.2) ∧ f_X10_readsCut ce (Int32.ofNat m) nc nl nr nt (Int32.ofNat (B + q)) (Int32.ofNat (B + n)) = some (1, Int32.ofNat (m + 1), nc', nl', nr', nt', Int32.ofNat (B + q')) ∧ sz_D x' nc' nl' nr' nt' (m + 1)) := by
  have hn := h.1
  have hB := h.2.1
  have hct := hD.1.2.1
  rcases sz_readLine h hq (show m ≤ 48 by omega) with ⟨a1, a2⟩ | ⟨v, q1, hv, hq1, a1, a2⟩
  · left
    refine ⟨q, hq, ?_, ?_⟩
    · unfold f_X3_readsCut; rw [hct, a1]; rfl
    · unfold f_X10_readsCut; rw [a2]; rfl
  · have nv9 : ¬ Int32.ofNat v = -9 := sp_i_neg (by omega)
    have nv0 : ¬ Int32.ofNat v < 0 := sp_i_nn (by omega)
    by_cases e44 : sz_tc co n q1 = 44
    · have hq1n : q1 < n := sz_tc_in e44 (by decide)
      rcases sz_readLine h (show q1 + 1 ≤ n by omega) (show m ≤ 48 by omega) with ⟨b1, b2⟩ | ⟨w, q2, hw, hq2, b1, b2⟩
      · left
        refine ⟨q1 + 1, by omega, ?_, ?_⟩
        · unfold f_X3_readsCut; simp only [hct, a1, Option.bind_some, if_neg nv9, sz_reads h (show q1 < 1000 by omega), if_pos e44, sp_one_ne, if_false, b1, if_true]
        · unfold f_X10_readsCut; simp only [a2, Option.bind_some, if_neg nv0, sz_codeM h (show q1 < 1000 by omega), if_pos e44, sp_bndE, sp_i_succ, Nat.add_assoc, b2]
          rfl
      · have nw9 : ¬ Int32.ofNat w = -9 := sp_i_neg (by omega)
        have nw0 : ¬ Int32.ofNat w < 0 := sp_i_nn (by omega)
        rcases sz_let (sz_tc co n q2) with ⟨c1, c2⟩ | ⟨k, hk, c0, c1, c2, c3⟩
        · left
          refine ⟨q2, hq2, ?_, ?_⟩
          · unfold f_X3_readsCut; simp only [hct, a1, Option.bind_some, if_neg nv9, sz_reads h (show q1 < 1000 by omega), if_pos e44, sp_one_ne, if_false, b1, if_neg nw9, sz_codeX h (show q2 < 1000 by omega)]
            rcases c2 with c2 | ⟨c2, c3⟩
            · rw [if_pos c2]
            · rw [if_neg c2, if_neg c3]
          · unfold f_X10_readsCut; simp only [a2, Option.bind_some, if_neg nv0, sz_codeM h (show q1 < 1000 by omega), if_pos e44, sp_bndE, sp_i_succ, Nat.add_assoc, b2, if_neg nw0, sz_codeM h (show q2 < 1000 by omega), c1, if_true]
        · have hq2n : q2 < n := sz_tc_in c0 (sp_i_neg (by omega))
          obtain ⟨r, r1, r2⟩ := sz_cutR hD.1 hv hw hk
          have r1X : f_X0_cutOf (x.1 v) (x.1 w) (Int32.ofNat k) = some r := by rw [sp_cutOf _ _ hk, r1]
          have hv1 := (hD.2 v hv).1
          have hw1 := (hD.2 w hw).1
          have hX : f_X3_readsCut co (Int32.ofNat n) (Int32.ofNat q) x.1 x.2.1 x.2.2.1 x.2.2.2.1 x.2.2.2.2.1 (Int32.ofNat m) x.2.2.2.2.2.2 = (if r = (-9 : Int32) then (some ((0 : Int32), Int32.ofNat q2, x.1, x.2.1, x.2.2.1, x.2.2.2.1, x.2.2.2.2.1, Int32.ofNat m, x.2.2.2.2.2.2)) else (Option.bind (f_X2_add r (Int32.ofNat v) (Int32.ofNat w) (Int32.ofNat k) x.1 x.2.1 x.2.2.1 x.2.2.2.1 x.2.2.2.2.1 (Int32.ofNat m) x.2.2.2.2.2.2) (fun q9 => match q9 with | (r12, c13, c14, c15, c16, c17, c18, c19) => some ((1 : Int32), Int32.ofNat (q2 + 1), c13, c14, c15, c16, c17, c18, c19)))) := by
            unfold f_X3_readsCut
            simp only [a1, Option.bind_some, if_neg nv9, sz_reads h (show q1 < 1000 by omega), if_pos e44, sp_one_ne, if_false, b1, if_neg nw9, sz_codeX h (show q2 < 1000 by omega), if_neg c2, if_pos c3, sp_bndE, sp_ld_at (show v < 48 by omega) (by omega : 48 < 1000000), sp_ld_at (show w < 48 by omega) (by omega : 48 < 1000000), sp_i_succ]
            rw [c0, sz_m97, r1X, Option.bind_some]
          have hM : f_X10_readsCut ce (Int32.ofNat m) nc nl nr nt (Int32.ofNat (B + q)) (Int32.ofNat (B + n)) = (if r = (-9 : Int32) then (some ((0 : Int32), Int32.ofNat m, nc, nl, nr, nt, Int32.ofNat (B + q2))) else (Option.bind (f_X10_add r (Int32.ofNat v) (Int32.ofNat w) (Int32.ofNat k) (Int32.ofNat m) nc nl nr nt) (fun q9 => match q9 with | (r15, c16, c17, c18, c19, c20) => if r15 < 0 then (some ((0 : Int32), c16, c17, c18, c19, c20, Int32.ofNat (B + (q2 + 1)))) else (some ((1 : Int32), c16, c17, c18, c19, c20, Int32.ofNat (B + (q2 + 1))))))) := by
            unfold f_X10_readsCut
            simp only [a2, Option.bind_some, if_neg nv0, sz_codeM h (show q1 < 1000 by omega), if_pos e44, sp_bndE, sp_i_succ, Nat.add_assoc, b2, if_neg nw0, sz_codeM h (show q2 < 1000 by omega), c1, sp_one_ne, if_false, sp_ld_at (show v < 64 by omega) (by omega : 64 < 1000000), sp_ld_at (show w < 64 by omega) (by omega : 64 < 1000000), hv1, hw1]
            rw [c0, sz_m97, r1, Option.bind_some]
          rcases r2 with r2 | ⟨r2, r3⟩
          · left
            refine ⟨q2, hq2, ?_, ?_⟩
            · rw [hct, hX, if_pos r2]
            · rw [hM, if_pos r2]
          · right
            have hok : sz_ok x m r (Int32.ofNat v) (Int32.ofNat w) (Int32.ofNat k) := ⟨r3, Or.inr ⟨v, w, k, hv, hw, hk, rfl, rfl, rfl, r1⟩⟩
            have ha := sz_add hD.1 hm hok
            rw [hct] at ha
            refine ⟨q2 + 1, sz_new x m r (Int32.ofNat v) (Int32.ofNat w) (Int32.ofNat k), upd nc m r, upd nl m (Int32.ofNat v), upd nr m (Int32.ofNat w), upd nt m (Int32.ofNat k), by omega, ?_, ?_, sz_new_dr hD.1 hm hok, sz_new_sm hD.2⟩
            · rw [hct, hX, if_neg r2, ha, Option.bind_some]
            · rw [hM, if_neg r2, sz_addM (show m < 64 by omega), Option.bind_some]
              show (if Int32.ofNat m < 0 then _ else _) = _
              rw [if_neg (sp_i_nn (by omega))]
    · left
      refine ⟨q1, hq1, ?_, ?_⟩
      · unfold f_X3_readsCut; simp only [hct, a1, Option.bind_some, if_neg nv9, sz_reads h (show q1 < 1000 by omega), if_neg e44, if_true]
      · unfold f_X10_readsCut; simp only [a2, Option.bind_some, if_neg nv0, sz_codeM h (show q1 < 1000 by omega), if_neg e44]
/-- behind an item: the class -/
def sz_AX (co : Nat → Int32) (n i q : Nat) (x : sp_PrT) (rec : (Int32 × Int32 × (Nat → Int32) × (Nat → Int32) × (Nat → Int32) × (Nat → Int32) × (Nat → Int32) × Int32 × Int32) → Option (Int32 × Int32 × (Nat → Int32) × (Nat → Int32) × (Nat → Int32) × (Nat → Int32) × (Nat → Int32) × Int32 × Int32)) : Option (Int32 × Int32 × (Nat → Int32) × (Nat → Int32) × (Nat → Int32) × (Nat → Int32) × (Nat → Int32) × Int32 × Int32) := if Int32.ofNat q = Int32.ofNat n then (some ((1 : Int32), Int32.ofNat q, x.1, x.2.1, x.2.2.1, x.2.2.2.1, x.2.2.2.2.1, x.2.2.2.2.2.1, x.2.2.2.2.2.2)) else (if Int32.ofNat (i + 1) = (16 : Int32) then (some ((0 : Int32), Int32.ofNat q, x.1, x.2.1, x.2.2.1, x.2.2.2.1, x.2.2.2.2.1, x.2.2.2.2.2.1, x.2.2.2.2.2.2)) else (Option.bind (f_X3_reads (59 : Int32) co (Int32.ofNat n) (Int32.ofNat q)) (fun q9 => match q9 with | (r30, c31) => if r30 = 0 then (some ((0 : Int32), c31, x.1, x.2.1, x.2.2.1, x.2.2.2.1, x.2.2.2.2.1, x.2.2.2.2.2.1, x.2.2.2.2.2.2)) else (sp_bnd (Int32.ofNat (i + 1) + (1 : Int32)) (fun v32 => rec (v32, c31, x.1, x.2.1, x.2.2.1, x.2.2.2.1, x.2.2.2.2.1, x.2.2.2.2.2.1, x.2.2.2.2.2.2))))))
/-- behind an item: the reference -/
def sz_AM (ce : Nat → Int32) (n B m q : Nat) (nc nl nr nt : Nat → Int32) (rec : (Int32 × (Nat → Int32) × (Nat → Int32) × (Nat → Int32) × (Nat → Int32) × Int32) → Option (Int32 × Int32 × (Nat → Int32) × (Nat → Int32) × (Nat → Int32) × (Nat → Int32) × Int32)) : Option (Int32 × Int32 × (Nat → Int32) × (Nat → Int32) × (Nat → Int32) × (Nat → Int32) × Int32) := if Int32.ofNat (B + q) = Int32.ofNat (B + n) then (some ((1 : Int32), Int32.ofNat m, nc, nl, nr, nt, Int32.ofNat (B + q))) else (Option.bind (f_X10_codeAt ce (Int32.ofNat (B + q)) (Int32.ofNat (B + n))) (fun r26 => if r26 = (59 : Int32) then (if Int32.ofNat m = (16 : Int32) then (some ((0 : Int32), Int32.ofNat m, nc, nl, nr, nt, Int32.ofNat (B + q))) else (sp_bnd (Int32.ofNat (B + q) + (1 : Int32)) (fun v27 => rec (Int32.ofNat m, nc, nl, nr, nt, v27)))) else (some ((0 : Int32), Int32.ofNat m, nc, nl, nr, nt, Int32.ofNat (B + q)))))
/-- a text read, on both sides -/
def sz_read (n B : Nat) (o : Option (Int32 × Int32 × (Nat → Int32) × (Nat → Int32) × (Nat → Int32) × (Nat → Int32) × (Nat → Int32) × Int32 × Int32)) (u : Option (Int32 × Int32 × (Nat → Int32) × (Nat → Int32) × (Nat → Int32) × (Nat → Int32) × Int32)) : Prop := ∃ (b : Int32) (q : Nat) (x : sp_PrT) (nm : Int32) (nc nl nr nt : Nat → Int32), q ≤ n ∧ o = some (b, Int32.ofNat q, x.1, x.2.1, x.2.2.1, x.2.2.2.1, x.2.2.2.2.1, x.2.2.2.2.2.1, x.2.2.2.2.2.2) ∧ u = some (b, nm, nc, nl, nr, nt, Int32.ofNat (B + q)) ∧ (b = 0 ∨ (b = 1 ∧ ∃ m : Nat, nm = Int32.ofNat m ∧ 1 ≤ m ∧ m ≤ 16 ∧ sz_D x nc nl nr nt m))
/-- what holds between two items -/
def sz_btw (n B i : Nat) (s : Int32 × Int32 × (Nat → Int32) × (Nat → Int32) × (Nat → Int32) × (Nat → Int32) × (Nat → Int32) × Int32 × Int32) (t : Int32 × (Nat → Int32) × (Nat → Int32) × (Nat → Int32) × (Nat → Int32) × Int32) : Prop := ∃ (q : Nat) (x : sp_PrT) (nc nl nr nt : Nat → Int32), s = (Int32.ofNat (i + 1), Int32.ofNat q, x.1, x.2.1, x.2.2.1, x.2.2.2.1, x.2.2.2.2.1, x.2.2.2.2.2.1, x.2.2.2.2.2.2) ∧ t = (Int32.ofNat i, nc, nl, nr, nt, Int32.ofNat (B + q)) ∧ sz_D x nc nl nr nt i ∧ q ≤ n ∧ i < 16
theorem sz_after {co ce : Nat → Int32} {n B : Nat} (h : sz_tx co ce n B) {i q : Nat} {x : sp_PrT} {nc nl nr nt : Nat → Int32} (hi : i < 16) (hq : q ≤ n) (hD : sz_D x nc nl nr nt (i + 1)) : (∃ o u, sz_read n B o u ∧ (∀ rec, sz_AX co n i q x rec = o) ∧ ∀ rec, sz_AM ce n B (i + 1) q nc nl nr nt rec = u) ∨ (∃ s' t', sz_btw n B (i + 1) s' t' ∧ (∀ rec, sz_AX co n i q x rec = rec s') ∧ ∀ rec, sz_AM ce n B (i + 1) q nc nl nr nt rec = rec t') := by
  have hn := h.1
  have hB := h.2.1
  unfold sz_AX sz_AM
  by_cases e : q = n
  · left
    refine ⟨_, _, ⟨1, q, x, Int32.ofNat (i + 1), nc, nl, nr, nt, hq, rfl, rfl, Or.inr ⟨rfl, i + 1, rfl, by omega, by omega, hD⟩⟩, fun rec => ?_, fun rec => ?_⟩
    · rw [if_pos (show Int32.ofNat q = Int32.ofNat n by rw [e])]
    · rw [if_pos (show Int32.ofNat (B + q) = Int32.ofNat (B + n) by rw [e])]
  · have h1 : ¬ Int32.ofNat q = Int32.ofNat n := fun z => e ((sp_i_inj (by omega) (by omega)).mp z)
    have h2 : ¬ Int32.ofNat (B + q) = Int32.ofNat (B + n) := fun z => by have := (sp_i_inj (by omega) (by omega)).mp z; omega
    have h16 : (Int32.ofNat (i + 1) = (16 : Int32)) ↔ i + 1 = 16 := sp_i_inj (j := 16) (by omega) (by omega)
    by_cases e59 : sz_tc co n q = 59
    · by_cases e16 : i + 1 = 16
      · left
        refine ⟨_, _, ⟨0, q, x, Int32.ofNat (i + 1), nc, nl, nr, nt, hq, rfl, rfl, Or.inl rfl⟩, fun rec => ?_, fun rec => ?_⟩
        · rw [if_neg h1, if_pos (h16.mpr e16)]
        · rw [if_neg h2, sz_codeM h (by omega), Option.bind_some, if_pos e59, if_pos (h16.mpr e16)]
      · right
        refine ⟨_, _, ⟨q + 1, x, nc, nl, nr, nt, rfl, rfl, hD, by omega, by omega⟩, fun rec => ?_, fun rec => ?_⟩
        · rw [if_neg h1, if_neg (fun z => e16 (h16.mp z)), sz_reads h (by omega), if_pos e59, Option.bind_some]
          show (if (1 : Int32) = 0 then _ else _) = _
          rw [if_neg (by decide), sp_bndE, sp_i_succ]
        · rw [if_neg h2, sz_codeM h (by omega), Option.bind_some, if_pos e59, if_neg (fun z => e16 (h16.mp z)), sp_bndE, sp_i_succ]
          rfl
    · left
      refine ⟨_, _, ⟨0, q, x, Int32.ofNat (i + 1), nc, nl, nr, nt, hq, rfl, rfl, Or.inl rfl⟩, fun rec => ?_, fun rec => ?_⟩
      · rw [if_neg h1]
        by_cases e16 : i + 1 = 16
        · rw [if_pos (h16.mpr e16)]
        · rw [if_neg (fun z => e16 (h16.mp z)), sz_reads h (by omega), if_neg e59, Option.bind_some]
          show (if (0 : Int32) = 0 then _ else _) = _
          rw [if_pos rfl]
      · rw [if_neg h2, sz_codeM h (by omega), Option.bind_some, if_neg e59]
theorem sz_text {co ce : Nat → Int32} {n B : Nat} (h : sz_tx co ce n B) (x0 : sp_PrT) (nc0 nl0 nr0 nt0 : Nat → Int32) : sz_read n B (f_X3_isText co (Int32.ofNat n) x0.1 x0.2.1 x0.2.2.1 x0.2.2.2.1 x0.2.2.2.2.1) (f_X10_readsAll ce nc0 nl0 nr0 nt0 (Int32.ofNat B) (Int32.ofNat (B + n))) := by
  have hn := h.1
  have hB := h.2.1
  unfold f_X3_isText f_X2_clear f_X10_readsAll
  rw [Option.bind_some]
  show sz_read n B (sp_bnd _ _) _
  rw [sp_bndE]
  refine sz_lp2 (sz_read n B) 16 (sz_btw n B) ?_ ?_ sp_F sp_F _ _ (sp_F_lt (by omega)) (sp_F_lt (by omega)) ⟨0, (x0.1, x0.2.1, x0.2.2.1, x0.2.2.2.1, x0.2.2.2.2.1, 0, 0), nc0, nl0, nr0, nt0, rfl, rfl, ⟨⟨by omega, rfl, fun l hl => by omega, rfl, fun l hl => by omega⟩, fun l hl => by omega⟩, by omega, by omega⟩
  · rintro i s t hi ⟨q, x, nc, nl, nr, nt, rfl, rfl, hD, hq, -⟩
    have h17 : ¬ (16 : Int32) < Int32.ofNat (i + 1) := fun z => by have := (sp_i_lt (i := 16) (by omega) (by omega)).mp z; omega
    by_cases eq : q = n
    · left
      have et : sz_tc co n q = -9 := by unfold sz_tc; rw [if_neg (by omega)]
      refine ⟨_, _, ⟨0, q, x, Int32.ofNat i, nc, nl, nr, nt, hq, rfl, rfl, Or.inl rfl⟩, fun rec => ?_, fun rec => ?_⟩
      · rw [f_X3_isText_L14_eq, if_neg h17]
        unfold f_X3_readsItem
        rw [sz_reads h (by omega), et, if_neg (by decide), Option.bind_some]
        show Option.bind (Option.bind (f_X3_reads (99 : Int32) co (Int32.ofNat n) (Int32.ofNat q)) _) _ = _
        rw [sz_reads h (by omega), et, if_neg (by decide), Option.bind_some]
        rfl
      · rw [f_X10_readsAll_L5_eq, sz_codeM h (by omega), Option.bind_some, if_pos (show Int32.ofNat (B + q) = Int32.ofNat (B + n) by rw [eq])]
    · have hqn : q < n := by omega
      have h2 : ¬ Int32.ofNat (B + q) = Int32.ofNat (B + n) := fun z => by have := (sp_i_inj (by omega) (by omega)).mp z; omega
      by_cases e103 : sz_tc co n q = 103
      · -- a ground
        obtain ⟨c, q', hcl, hq', hX, hM⟩ := sz_signs h (show q + 1 ≤ n by omega) (fun (x3 : Int32) (c4 : Int32) => Option.bind (f_X10_add x3 (-9 : Int32) (-9 : Int32) (-9 : Int32) (Int32.ofNat i) nc nl nr nt) (fun q9 => match q9 with | (r6, c7, c8, c9, c10, c11) => if r6 < 0 then (some ((0 : Int32), c7, c8, c9, c10, c11, c4)) else (some ((1 : Int32), c7, c8, c9, c10, c11, c4)))) (Int32.ofNat i) nc nl nr nt
        have hok : sz_ok x i (Int32.ofNat c) (-9) (-9) (-9) := ⟨hcl, Or.inl ⟨rfl, rfl, rfl⟩⟩
        have hD' : sz_D (sz_new x i (Int32.ofNat c) (-9) (-9) (-9)) (upd nc i (Int32.ofNat c)) (upd nl i (-9)) (upd nr i (-9)) (upd nt i (-9)) (i + 1) := ⟨sz_new_dr hD.1 (by omega) hok, sz_new_sm hD.2⟩
        have hXe : ∀ rec, f_X3_isText_L14 (fun (c12 : Int32) (c13 : Nat → Int32) (c14 : Nat → Int32) (c15 : Nat → Int32) (c16 : Nat → Int32) (c17 : Nat → Int32) (c18 : Int32) (c19 : Int32) => some ((0 : Int32), c12, c13, c14, c15, c16, c17, c18, c19)) co (Int32.ofNat n) rec (Int32.ofNat (i + 1), Int32.ofNat q, x.1, x.2.1, x.2.2.1, x.2.2.2.1, x.2.2.2.2.1, x.2.2.2.2.2.1, x.2.2.2.2.2.2) = sz_AX co n i q' (sz_new x i (Int32.ofNat c) (-9) (-9) (-9)) rec := by
          intro rec
          rw [f_X3_isText_L14_eq, if_neg h17]
          unfold f_X3_readsItem
          rw [sz_reads h (by omega), if_pos e103, Option.bind_some]
          show Option.bind (Option.bind (f_X3_readSigns co (Int32.ofNat n) (Int32.ofNat (q + 1))) _) _ = _
          rw [hX, Option.bind_some]
          show Option.bind (Option.bind (f_X2_addGround (Int32.ofNat c) x.1 x.2.1 x.2.2.1 x.2.2.2.1 x.2.2.2.2.1 x.2.2.2.2.2.1 x.2.2.2.2.2.2) _) _ = _
          unfold f_X2_addGround
          rw [sz_add hD.1 (by omega) hok, Option.bind_some]
          rfl
        have hMe : ∀ rec, f_X10_readsAll_L5 ce (Int32.ofNat (B + n)) rec (Int32.ofNat i, nc, nl, nr, nt, Int32.ofNat (B + q)) = if q' = n ∨ sz_tc co n q' = 59 then sz_AM ce n B (i + 1) q' (upd nc i (Int32.ofNat c)) (upd nl i (-9)) (upd nr i (-9)) (upd nt i (-9)) rec else some (0, Int32.ofNat i, nc, nl, nr, nt, Int32.ofNat (B + q')) := by
          intro rec
          rw [f_X10_readsAll_L5_eq, sz_codeM h (by omega), Option.bind_some, if_neg h2, sp_bndE, if_pos e103, sp_bndE, if_pos e103, sp_i_succ]
          unfold f_X10_readsGround
          rw [sp_bndE, show B + q + 1 = B + (q + 1) by omega, hM]
          by_cases w : q' = n ∨ sz_tc co n q' = 59
          · rw [if_pos w, if_pos w, sz_addM (show i < 64 by omega), Option.bind_some]
            show Option.bind (if Int32.ofNat i < 0 then _ else _) _ = _
            rw [if_neg (sp_i_nn (by omega)), Option.bind_some]
            rfl
          · rw [if_neg w, if_neg w, Option.bind_some]
            rfl
        by_cases w : q' = n ∨ sz_tc co n q' = 59
        · rcases sz_after h hi hq' hD' with ⟨o, u, a1, a2, a3⟩ | ⟨s', t', a1, a2, a3⟩
          · left
            exact ⟨o, u, a1, fun rec => by rw [hXe, a2], fun rec => by rw [hMe, if_pos w, a3]⟩
          · right
            exact ⟨s', t', a1, fun rec => by rw [hXe, a2], fun rec => by rw [hMe, if_pos w, a3]⟩
        · left
          have w1 : ¬ Int32.ofNat q' = Int32.ofNat n := fun z => w (Or.inl ((sp_i_inj (by omega) (by omega)).mp z))
          refine ⟨_, _, ⟨0, q', sz_new x i (Int32.ofNat c) (-9) (-9) (-9), Int32.ofNat i, nc, nl, nr, nt, hq', rfl, rfl, Or.inl rfl⟩, fun rec => ?_, fun rec => by rw [hMe, if_neg w]⟩
          rw [hXe]
          unfold sz_AX
          rw [if_neg w1]
          by_cases e16 : Int32.ofNat (i + 1) = (16 : Int32)
          · rw [if_pos e16]
          · rw [if_neg e16, sz_reads h (by omega), if_neg (fun z => w (Or.inr z)), Option.bind_some]
            show (if (0 : Int32) = 0 then _ else _) = _
            rw [if_pos rfl]
      · by_cases e99 : sz_tc co n q = 99
        · -- a cut
          have hX0 : ∀ rec, f_X3_isText_L14 (fun (c12 : Int32) (c13 : Nat → Int32) (c14 : Nat → Int32) (c15 : Nat → Int32) (c16 : Nat → Int32) (c17 : Nat → Int32) (c18 : Int32) (c19 : Int32) => some ((0 : Int32), c12, c13, c14, c15, c16, c17, c18, c19)) co (Int32.ofNat n) rec (Int32.ofNat (i + 1), Int32.ofNat q, x.1, x.2.1, x.2.2.1, x.2.2.2.1, x.2.2.2.2.1, x.2.2.2.2.2.1, x.2.2.2.2.2.2) = Option.bind (Option.bind (f_X3_readsCut co (Int32.ofNat n) (Int32.ofNat (q + 1)) x.1 x.2.1 x.2.2.1 x.2.2.2.1 x.2.2.2.2.1 x.2.2.2.2.2.1 x.2.2.2.2.2.2) (fun q9 => match q9 with | (r5, c6, c7, c8, c9, c10, c11, c12, c13) => if r5 = 0 then (some ((0 : Int32), c6, c7, c8, c9, c10, c11, c12, c13)) else (some ((1 : Int32), c6, c7, c8, c9, c10, c11, c12, c13)))) (fun q9 => match q9 with | (r21, c22, c23, c24, c25, c26, c27, c28, c29) => if r21 = 0 then (some ((0 : Int32), c22, c23, c24, c25, c26, c27, c28, c29)) else (if c22 = (Int32.ofNat n) then (some ((1 : Int32), c22, c23, c24, c25, c26, c27, c28, c29)) else (if Int32.ofNat (i + 1) = (16 : Int32) then (some ((0 : Int32), c22, c23, c24, c25, c26, c27, c28, c29)) else (Option.bind (f_X3_reads (59 : Int32) co (Int32.ofNat n) c22) (fun q9 => match q9 with | (r30, c31) => if r30 = 0 then (some ((0 : Int32), c31, c23, c24, c25, c26, c27, c28, c29)) else (sp_bnd (Int32.ofNat (i + 1) + (1 : Int32)) (fun v32 => rec (v32, c31, c23, c24, c25, c26, c27, c28, c29)))))))) := by
            intro rec
            rw [f_X3_isText_L14_eq, if_neg h17]
            unfold f_X3_readsItem
            rw [sz_reads h (by omega), if_neg e103, Option.bind_some]
            show Option.bind (Option.bind (f_X3_reads (99 : Int32) co (Int32.ofNat n) (Int32.ofNat q)) _) _ = _
            rw [sz_reads h (by omega), if_pos e99, Option.bind_some]
            rfl
          have hM0 : ∀ rec, f_X10_readsAll_L5 ce (Int32.ofNat (B + n)) rec (Int32.ofNat i, nc, nl, nr, nt, Int32.ofNat (B + q)) = Option.bind (f_X10_readsCut ce (Int32.ofNat i) nc nl nr nt (Int32.ofNat (B + (q + 1))) (Int32.ofNat (B + n))) (fun q9 => match q9 with | (r10, c11, c12, c13, c14, c15, c16) => if r10 = 0 then (some ((0 : Int32), c11, c12, c13, c14, c15, c16)) else (if c16 = Int32.ofNat (B + n) then (some ((1 : Int32), c11, c12, c13, c14, c15, c16)) else (Option.bind (f_X10_codeAt ce c16 (Int32.ofNat (B + n))) (fun r17 => if r17 = (59 : Int32) then (if c11 = (16 : Int32) then (some ((0 : Int32), c11, c12, c13, c14, c15, c16)) else (sp_bnd (c16 + (1 : Int32)) (fun v18 => rec (c11, c12, c13, c14, c15, v18)))) else (some ((0 : Int32), c11, c12, c13, c14, c15, c16)))))) := by
            intro rec
            rw [f_X10_readsAll_L5_eq, sz_codeM h (by omega), Option.bind_some, if_neg h2, sp_bndE, if_neg e103, if_pos e99, sp_bndE, if_neg e103, sp_i_succ]
            rfl
          rcases sz_readsCut h hD (show i < 48 by omega) (show q + 1 ≤ n by omega) with ⟨q', hq', a1, a2⟩ | ⟨q', x', nc', nl', nr', nt', hq', a1, a2, hD'⟩
          · left
            refine ⟨_, _, ⟨0, q', x, Int32.ofNat i, nc, nl, nr, nt, hq', rfl, rfl, Or.inl rfl⟩, fun rec => ?_, fun rec => ?_⟩
            · rw [hX0, a1]; rfl
            · rw [hM0, a2]; rfl
          · have hXe : ∀ rec, f_X3_isText_L14 (fun (c12 : Int32) (c13 : Nat → Int32) (c14 : Nat → Int32) (c15 : Nat → Int32) (c16 : Nat → Int32) (c17 : Nat → Int32) (c18 : Int32) (c19 : Int32) => some ((0 : Int32), c12, c13, c14, c15, c16, c17, c18, c19)) co (Int32.ofNat n) rec (Int32.ofNat (i + 1), Int32.ofNat q, x.1, x.2.1, x.2.2.1, x.2.2.2.1, x.2.2.2.2.1, x.2.2.2.2.2.1, x.2.2.2.2.2.2) = sz_AX co n i q' x' rec := fun rec => by rw [hX0, a1]; rfl
            have hMe : ∀ rec, f_X10_readsAll_L5 ce (Int32.ofNat (B + n)) rec (Int32.ofNat i, nc, nl, nr, nt, Int32.ofNat (B + q)) = sz_AM ce n B (i + 1) q' nc' nl' nr' nt' rec := fun rec => by rw [hM0, a2]; rfl
            rcases sz_after h hi hq' hD' with ⟨o, u, b1, b2, b3⟩ | ⟨s', t', b1, b2, b3⟩
            · left
              exact ⟨o, u, b1, fun rec => by rw [hXe, b2], fun rec => by rw [hMe, b3]⟩
            · right
              exact ⟨s', t', b1, fun rec => by rw [hXe, b2], fun rec => by rw [hMe, b3]⟩
        · left
          refine ⟨_, _, ⟨0, q, x, Int32.ofNat i, nc, nl, nr, nt, hq, rfl, rfl, Or.inl rfl⟩, fun rec => ?_, fun rec => ?_⟩
          · rw [f_X3_isText_L14_eq, if_neg h17]
            unfold f_X3_readsItem
            rw [sz_reads h (by omega), if_neg e103, Option.bind_some]
            show Option.bind (Option.bind (f_X3_reads (99 : Int32) co (Int32.ofNat n) (Int32.ofNat q)) _) _ = _
            rw [sz_reads h (by omega), if_neg e99, Option.bind_some]
            rfl
          · rw [f_X10_readsAll_L5_eq, sz_codeM h (by omega), Option.bind_some, if_neg h2, sp_bndE, if_neg e103, if_neg e99]
  · rintro s t ⟨q, x, nc, nl, nr, nt, -, -, -, -, h16⟩
    omega
