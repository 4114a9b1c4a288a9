theorem iw_585 : (Cond.fieldLink RX9 56 "ShortProofs" "tables" "LShortProofs$Truths;") ∈ lw_tbl := it1 (List.mem_of_getElem? (i := 216) rfl)
theorem inw_wsX9_core_r1 : ∀ w ∈ wsX9_core_r1, w ∈ lw_tbl := List.forall_mem_cons.mpr ⟨iw_126, List.forall_mem_cons.mpr ⟨iw_258, List.forall_mem_cons.mpr ⟨iw_585, List.forall_mem_cons.mpr ⟨iw_218, List.forall_mem_cons.mpr ⟨iw_217, List.forall_mem_cons.mpr ⟨iw_216, List.forall_mem_cons.mpr ⟨iw_18, List.forall_mem_cons.mpr ⟨iw_215, List.forall_mem_cons.mpr ⟨iw_127, List.forall_mem_cons.mpr ⟨iw_584, List.forall_mem_cons.mpr ⟨iw_583, List.forall_mem_cons.mpr ⟨iw_582, List.forall_mem_cons.mpr ⟨iw_581, List.forall_mem_cons.mpr ⟨iw_580, List.forall_mem_cons.mpr ⟨iw_579, List.forall_mem_cons.mpr ⟨iw_578, List.forall_mem_cons.mpr ⟨iw_577, List.forall_mem_cons.mpr ⟨iw_576, List.forall_mem_cons.mpr ⟨iw_575, List.forall_mem_cons.mpr ⟨iw_574, List.forall_mem_cons.mpr ⟨iw_573, List.forall_mem_cons.mpr ⟨iw_572, List.forall_mem_cons.mpr ⟨iw_571, List.forall_mem_cons.mpr ⟨iw_570, (fun _ h => absurd h List.not_mem_nil)⟩⟩⟩⟩⟩⟩⟩⟩⟩⟩⟩⟩⟩⟩⟩⟩⟩⟩⟩⟩⟩⟩⟩⟩
theorem iw_586 : (Cond.methodLink RX8 47 yJ6_bitCount_0f7a4) ∈ lw_tbl := it3 (List.mem_of_getElem? (i := 127) rfl)
theorem iw_587 : (Cond.code yX8_isCore cX8_isCore 2 (some .boolean)) ∈ lw_tbl := it3 (List.mem_of_getElem? (i := 126) rfl)
theorem iw_588 : (Cond.selects RX8 yX8_isCore yX8_isCore) ∈ lw_tbl := it3 (List.mem_of_getElem? (i := 125) rfl)
theorem iw_589 : (Cond.instanceMethod yX8_isCore) ∈ lw_tbl := it3 (List.mem_of_getElem? (i := 124) rfl)
theorem iw_590 : (Cond.methodLink RX8 43 yX8_isCore) ∈ lw_tbl := it3 (List.mem_of_getElem? (i := 123) rfl)
theorem iw_591 : (Cond.code yX8_leastCore cX8_leastCore 4 (some .int)) ∈ lw_tbl := it3 (List.mem_of_getElem? (i := 122) rfl)
theorem iw_592 : (Cond.selects RX8 yX8_leastCore yX8_leastCore) ∈ lw_tbl := it3 (List.mem_of_getElem? (i := 121) rfl)
theorem iw_593 : (Cond.instanceMethod yX8_leastCore) ∈ lw_tbl := it3 (List.mem_of_getElem? (i := 120) rfl)
theorem iw_594 : (Cond.methodLink RX9 196 yX8_leastCore) ∈ lw_tbl := it3 (List.mem_of_getElem? (i := 119) rfl)
theorem iw_595 : (Cond.constantLong RX0 33 (-1)) ∈ lw_tbl := it3 (List.mem_of_getElem? (i := 118) rfl)
theorem iw_596 : (Cond.code yX0_tableOf cX0_tableOf 4 (some .long)) ∈ lw_tbl := it3 (List.mem_of_getElem? (i := 115) rfl)
theorem inw_wsX9_core_r2 : ∀ w ∈ wsX9_core_r2, w ∈ lw_tbl := List.forall_mem_cons.mpr ⟨iw_87, List.forall_mem_cons.mpr ⟨iw_596, List.forall_mem_cons.mpr ⟨iw_595, List.forall_mem_cons.mpr ⟨iw_98, List.forall_mem_cons.mpr ⟨iw_88, List.forall_mem_cons.mpr ⟨iw_86, List.forall_mem_cons.mpr ⟨iw_138, List.forall_mem_cons.mpr ⟨iw_137, List.forall_mem_cons.mpr ⟨iw_136, List.forall_mem_cons.mpr ⟨iw_97, List.forall_mem_cons.mpr ⟨iw_84, List.forall_mem_cons.mpr ⟨iw_83, List.forall_mem_cons.mpr ⟨iw_594, List.forall_mem_cons.mpr ⟨iw_593, List.forall_mem_cons.mpr ⟨iw_592, List.forall_mem_cons.mpr ⟨iw_591, List.forall_mem_cons.mpr ⟨iw_590, List.forall_mem_cons.mpr ⟨iw_589, List.forall_mem_cons.mpr ⟨iw_588, List.forall_mem_cons.mpr ⟨iw_587, List.forall_mem_cons.mpr ⟨iw_586, List.forall_mem_cons.mpr ⟨iw_250, List.forall_mem_cons.mpr ⟨iw_249, List.forall_mem_cons.mpr ⟨iw_248, (fun _ h => absurd h List.not_mem_nil)⟩⟩⟩⟩⟩⟩⟩⟩⟩⟩⟩⟩⟩⟩⟩⟩⟩⟩⟩⟩⟩⟩⟩⟩
theorem iw_597 : (Cond.methodLink RX9 205 yX8_isBare) ∈ lw_tbl := it3 (List.mem_of_getElem? (i := 138) rfl)
theorem iw_598 : (Cond.methodLink RX9 202 yX8_isCore) ∈ lw_tbl := it3 (List.mem_of_getElem? (i := 137) rfl)
theorem iw_599 : (Cond.code yX8_isBare cX8_isBare 3 (some .boolean)) ∈ lw_tbl := it3 (List.mem_of_getElem? (i := 135) rfl)
theorem iw_600 : (Cond.selects RX8 yX8_isBare yX8_isBare) ∈ lw_tbl := it3 (List.mem_of_getElem? (i := 134) rfl)
theorem iw_601 : (Cond.instanceMethod yX8_isBare) ∈ lw_tbl := it3 (List.mem_of_getElem? (i := 133) rfl)
theorem iw_602 : (Cond.methodLink RX8 53 yX8_isBare) ∈ lw_tbl := it3 (List.mem_of_getElem? (i := 132) rfl)
theorem iw_603 : (Cond.code yX8_bareCores cX8_bareCores 4 (some .int)) ∈ lw_tbl := it3 (List.mem_of_getElem? (i := 131) rfl)
theorem iw_604 : (Cond.selects RX8 yX8_bareCores yX8_bareCores) ∈ lw_tbl := it3 (List.mem_of_getElem? (i := 130) rfl)
theorem iw_605 : (Cond.instanceMethod yX8_bareCores) ∈ lw_tbl := it3 (List.mem_of_getElem? (i := 129) rfl)
theorem iw_606 : (Cond.methodLink RX9 199 yX8_bareCores) ∈ lw_tbl := it3 (List.mem_of_getElem? (i := 128) rfl)
theorem inw_wsX9_core_r3 : ∀ w ∈ wsX9_core_r3, w ∈ lw_tbl := List.forall_mem_cons.mpr ⟨iw_247, List.forall_mem_cons.mpr ⟨iw_246, List.forall_mem_cons.mpr ⟨iw_245, List.forall_mem_cons.mpr ⟨iw_606, List.forall_mem_cons.mpr ⟨iw_605, List.forall_mem_cons.mpr ⟨iw_604, List.forall_mem_cons.mpr ⟨iw_603, List.forall_mem_cons.mpr ⟨iw_602, List.forall_mem_cons.mpr ⟨iw_601, List.forall_mem_cons.mpr ⟨iw_600, List.forall_mem_cons.mpr ⟨iw_599, List.forall_mem_cons.mpr ⟨iw_314, List.forall_mem_cons.mpr ⟨iw_313, List.forall_mem_cons.mpr ⟨iw_598, List.forall_mem_cons.mpr ⟨iw_597, (fun _ h => absurd h List.not_mem_nil)⟩⟩⟩⟩⟩⟩⟩⟩⟩⟩⟩⟩⟩⟩⟩
theorem inw_wsX9_core : ∀ w ∈ wsX9_core, w ∈ lw_tbl := List.forall_mem_cons.mpr ⟨iw_569, List.forall_mem_append.mpr ⟨List.forall_mem_append.mpr ⟨List.forall_mem_append.mpr ⟨List.forall_mem_append.mpr ⟨inw_wsX9_core_r1, List.forall_mem_append.mpr ⟨inw_wsX9_core_r2, inw_wsX9_core_r3⟩⟩, inb_X9⟩, inb_X2⟩, inb_X8⟩⟩
theorem iw_607 : (Cond.code yX10_core cX10_core 5 (some .int)) ∈ lw_tbl := it5 (List.mem_of_getElem? (i := 130) rfl)
theorem iw_608 : (Cond.static yX10_truthsOf) ∈ lw_tbl := it5 (List.mem_of_getElem? (i := 136) rfl)
theorem iw_609 : (Cond.methodLink RX10 245 yX10_truthsOf) ∈ lw_tbl := it5 (List.mem_of_getElem? (i := 135) rfl)
theorem iw_610 : (Cond.fieldLink RX10 74 "ShortProofsModel" "groundLetters" "[I") ∈ lw_tbl := it4 (List.mem_of_getElem? (i := 90) rfl)
theorem iw_611 : (Cond.fieldLink RX10 70 "ShortProofsModel" "groundTruths" "[J") ∈ lw_tbl := it4 (List.mem_of_getElem? (i := 89) rfl)
theorem iw_612 : (Cond.code yX10_layGrounds cX10_layGrounds 5 none) ∈ lw_tbl := it5 (List.mem_of_getElem? (i := 134) rfl)
theorem iw_613 : (Cond.selects RX10 yX10_layGrounds yX10_layGrounds) ∈ lw_tbl := its (List.mem_of_getElem? (i := 64) rfl)
theorem iw_614 : (Cond.instanceMethod yX10_layGrounds) ∈ lw_tbl := it5 (List.mem_of_getElem? (i := 133) rfl)
theorem iw_615 : (Cond.methodLink RX10 258 yX10_layGrounds) ∈ lw_tbl := it5 (List.mem_of_getElem? (i := 131) rfl)
theorem inw_wsX10_core_r1 : ∀ w ∈ wsX10_core_r1, w ∈ lw_tbl := List.forall_mem_cons.mpr ⟨iw_238, List.forall_mem_cons.mpr ⟨iw_237, List.forall_mem_cons.mpr ⟨iw_236, List.forall_mem_cons.mpr ⟨iw_156, List.forall_mem_cons.mpr ⟨iw_235, List.forall_mem_cons.mpr ⟨iw_193, List.forall_mem_cons.mpr ⟨iw_299, List.forall_mem_cons.mpr ⟨iw_298, List.forall_mem_cons.mpr ⟨iw_297, List.forall_mem_cons.mpr ⟨iw_296, List.forall_mem_cons.mpr ⟨iw_192, List.forall_mem_cons.mpr ⟨iw_188, List.forall_mem_cons.mpr ⟨iw_154, List.forall_mem_cons.mpr ⟨iw_153, List.forall_mem_cons.mpr ⟨iw_152, List.forall_mem_cons.mpr ⟨iw_615, List.forall_mem_cons.mpr ⟨iw_614, List.forall_mem_cons.mpr ⟨iw_613, List.forall_mem_cons.mpr ⟨iw_612, List.forall_mem_cons.mpr ⟨iw_611, List.forall_mem_cons.mpr ⟨iw_191, List.forall_mem_cons.mpr ⟨iw_610, List.forall_mem_cons.mpr ⟨iw_609, List.forall_mem_cons.mpr ⟨iw_608, (fun _ h => absurd h List.not_mem_nil)⟩⟩⟩⟩⟩⟩⟩⟩⟩⟩⟩⟩⟩⟩⟩⟩⟩⟩⟩⟩⟩⟩⟩⟩
theorem iw_616 : (Cond.code yX10_isBare cX10_isBare 4 (some .boolean)) ∈ lw_tbl := it5 (List.mem_of_getElem? (i := 157) rfl)
theorem iw_617 : (Cond.selects RX10 yX10_isBare yX10_isBare) ∈ lw_tbl := its (List.mem_of_getElem? (i := 68) rfl)
theorem iw_618 : (Cond.instanceMethod yX10_isBare) ∈ lw_tbl := it5 (List.mem_of_getElem? (i := 156) rfl)
theorem iw_619 : (Cond.methodLink RX10 255 yX10_isBare) ∈ lw_tbl := it5 (List.mem_of_getElem? (i := 154) rfl)
theorem iw_620 : (Cond.code yX10_manyBare cX10_manyBare 4 (some .int)) ∈ lw_tbl := it5 (List.mem_of_getElem? (i := 153) rfl)
theorem iw_621 : (Cond.selects RX10 yX10_manyBare yX10_manyBare) ∈ lw_tbl := its (List.mem_of_getElem? (i := 67) rfl)
theorem iw_622 : (Cond.instanceMethod yX10_manyBare) ∈ lw_tbl := it5 (List.mem_of_getElem? (i := 152) rfl)
theorem iw_623 : (Cond.methodLink RX10 264 yX10_manyBare) ∈ lw_tbl := it5 (List.mem_of_getElem? (i := 150) rfl)
theorem iw_624 : (Cond.constantLong RX10 249 (-1)) ∈ lw_tbl := it5 (List.mem_of_getElem? (i := 149) rfl)
theorem iw_625 : (Cond.code yX10_allTrue cX10_allTrue 6 (some .long)) ∈ lw_tbl := it5 (List.mem_of_getElem? (i := 148) rfl)
theorem iw_626 : (Cond.selects RX10 yX10_allTrue yX10_allTrue) ∈ lw_tbl := its (List.mem_of_getElem? (i := 66) rfl)
theorem iw_627 : (Cond.instanceMethod yX10_allTrue) ∈ lw_tbl := it5 (List.mem_of_getElem? (i := 147) rfl)
theorem iw_628 : (Cond.methodLink RX10 251 yX10_allTrue) ∈ lw_tbl := it5 (List.mem_of_getElem? (i := 145) rfl)
theorem iw_629 : (Cond.code yX10_leastCore cX10_leastCore 4 (some .int)) ∈ lw_tbl := it5 (List.mem_of_getElem? (i := 144) rfl)
theorem iw_630 : (Cond.selects RX10 yX10_leastCore yX10_leastCore) ∈ lw_tbl := its (List.mem_of_getElem? (i := 65) rfl)
theorem iw_631 : (Cond.instanceMethod yX10_leastCore) ∈ lw_tbl := it5 (List.mem_of_getElem? (i := 143) rfl)
theorem iw_632 : (Cond.methodLink RX10 261 yX10_leastCore) ∈ lw_tbl := it5 (List.mem_of_getElem? (i := 141) rfl)
theorem iw_633 : (Cond.code yX10_isTrueIn cX10_isTrueIn 2 (some .boolean)) ∈ lw_tbl := it5 (List.mem_of_getElem? (i := 140) rfl)
theorem iw_634 : (Cond.static yX10_isTrueIn) ∈ lw_tbl := it5 (List.mem_of_getElem? (i := 139) rfl)
theorem iw_635 : (Cond.methodLink RX10 242 yX10_isTrueIn) ∈ lw_tbl := it5 (List.mem_of_getElem? (i := 138) rfl)
theorem iw_636 : (Cond.code yX10_truthsOf cX10_truthsOf 4 (some .long)) ∈ lw_tbl := it5 (List.mem_of_getElem? (i := 137) rfl)
theorem inw_wsX10_core_r2 : ∀ w ∈ wsX10_core_r2, w ∈ lw_tbl := List.forall_mem_cons.mpr ⟨iw_636, List.forall_mem_cons.mpr ⟨iw_635, List.forall_mem_cons.mpr ⟨iw_634, List.forall_mem_cons.mpr ⟨iw_633, List.forall_mem_cons.mpr ⟨iw_632, List.forall_mem_cons.mpr ⟨iw_631, List.forall_mem_cons.mpr ⟨iw_630, List.forall_mem_cons.mpr ⟨iw_629, List.forall_mem_cons.mpr ⟨iw_291, List.forall_mem_cons.mpr ⟨iw_290, List.forall_mem_cons.mpr ⟨iw_289, List.forall_mem_cons.mpr ⟨iw_628, List.forall_mem_cons.mpr ⟨iw_627, List.forall_mem_cons.mpr ⟨iw_626, List.forall_mem_cons.mpr ⟨iw_625, List.forall_mem_cons.mpr ⟨iw_624, List.forall_mem_cons.mpr ⟨iw_623, List.forall_mem_cons.mpr ⟨iw_622, List.forall_mem_cons.mpr ⟨iw_621, List.forall_mem_cons.mpr ⟨iw_620, List.forall_mem_cons.mpr ⟨iw_619, List.forall_mem_cons.mpr ⟨iw_618, List.forall_mem_cons.mpr ⟨iw_617, List.forall_mem_cons.mpr ⟨iw_616, (fun _ h => absurd h List.not_mem_nil)⟩⟩⟩⟩⟩⟩⟩⟩⟩⟩⟩⟩⟩⟩⟩⟩⟩⟩⟩⟩⟩⟩⟩⟩
theorem inw_wsX10_core : ∀ w ∈ wsX10_core, w ∈ lw_tbl := List.forall_mem_cons.mpr ⟨iw_607, List.forall_mem_append.mpr ⟨List.forall_mem_append.mpr ⟨inw_wsX10_core_r1, inw_wsX10_core_r2⟩, inb_X10⟩⟩
theorem iw_637 : (Cond.code yX9_middle cX9_middle 5 (some .long)) ∈ lw_tbl := it3 (List.mem_of_getElem? (i := 142) rfl)
theorem iw_638 : (Cond.code yX8_middleOf cX8_middleOf 8 (some .long)) ∈ lw_tbl := it3 (List.mem_of_getElem? (i := 151) rfl)
theorem iw_639 : (Cond.selects RX8 yX8_middleOf yX8_middleOf) ∈ lw_tbl := it3 (List.mem_of_getElem? (i := 150) rfl)
theorem iw_640 : (Cond.instanceMethod yX8_middleOf) ∈ lw_tbl := it3 (List.mem_of_getElem? (i := 149) rfl)
theorem iw_641 : (Cond.methodLink RX9 214 yX8_middleOf) ∈ lw_tbl := it3 (List.mem_of_getElem? (i := 148) rfl)
theorem iw_642 : (Cond.code yX9_isTableAsked cX9_isTableAsked 4 (some .boolean)) ∈ lw_tbl := it3 (List.mem_of_getElem? (i := 146) rfl)
theorem iw_643 : (Cond.selects RX9 yX9_isTableAsked yX9_isTableAsked) ∈ lw_tbl := its (List.mem_of_getElem? (i := 25) rfl)
theorem iw_644 : (Cond.instanceMethod yX9_isTableAsked) ∈ lw_tbl := it3 (List.mem_of_getElem? (i := 145) rfl)
theorem iw_645 : (Cond.methodLink RX9 208 yX9_isTableAsked) ∈ lw_tbl := it3 (List.mem_of_getElem? (i := 143) rfl)
theorem iw_646 : (Cond.constantLong RX9 212 (-9223372036854775808)) ∈ lw_tbl := it3 (List.mem_of_getElem? (i := 147) rfl)
theorem inw_wsX9_middle_r1 : ∀ w ∈ wsX9_middle_r1, w ∈ lw_tbl := List.forall_mem_cons.mpr ⟨iw_646, List.forall_mem_cons.mpr ⟨iw_126, List.forall_mem_cons.mpr ⟨iw_227, List.forall_mem_cons.mpr ⟨iw_219, List.forall_mem_cons.mpr ⟨iw_585, List.forall_mem_cons.mpr ⟨iw_645, List.forall_mem_cons.mpr ⟨iw_644, List.forall_mem_cons.mpr ⟨iw_643, List.forall_mem_cons.mpr ⟨iw_18, List.forall_mem_cons.mpr ⟨iw_642, List.forall_mem_cons.mpr ⟨iw_258, List.forall_mem_cons.mpr ⟨iw_218, List.forall_mem_cons.mpr ⟨iw_217, List.forall_mem_cons.mpr ⟨iw_216, List.forall_mem_cons.mpr ⟨iw_215, List.forall_mem_cons.mpr ⟨iw_127, List.forall_mem_cons.mpr ⟨iw_584, List.forall_mem_cons.mpr ⟨iw_583, List.forall_mem_cons.mpr ⟨iw_582, List.forall_mem_cons.mpr ⟨iw_641, List.forall_mem_cons.mpr ⟨iw_640, List.forall_mem_cons.mpr ⟨iw_639, List.forall_mem_cons.mpr ⟨iw_578, List.forall_mem_cons.mpr ⟨iw_638, (fun _ h => absurd h List.not_mem_nil)⟩⟩⟩⟩⟩⟩⟩⟩⟩⟩⟩⟩⟩⟩⟩⟩⟩⟩⟩⟩⟩⟩⟩⟩
theorem iw_647 : (Cond.fieldLink RX8 72 "ShortProofs$Proof" "rights" "[I") ∈ lw_tbl := it1 (List.mem_of_getElem? (i := 47) rfl)
theorem iw_648 : (Cond.fieldLink RX8 69 "ShortProofs$Proof" "lefts" "[I") ∈ lw_tbl := it1 (List.mem_of_getElem? (i := 42) rfl)
theorem iw_649 : (Cond.code yX8_middleOfCut cX8_middleOfCut 12 (some .long)) ∈ lw_tbl := it3 (List.mem_of_getElem? (i := 157) rfl)
theorem iw_650 : (Cond.selects RX8 yX8_middleOfCut yX8_middleOfCut) ∈ lw_tbl := its (List.mem_of_getElem? (i := 26) rfl)
theorem iw_651 : (Cond.instanceMethod yX8_middleOfCut) ∈ lw_tbl := it3 (List.mem_of_getElem? (i := 156) rfl)
theorem iw_652 : (Cond.methodLink RX8 65 yX8_middleOfCut) ∈ lw_tbl := it3 (List.mem_of_getElem? (i := 154) rfl)
theorem iw_653 : (Cond.methodLink RX8 62 yX2_isGround) ∈ lw_tbl := it3 (List.mem_of_getElem? (i := 153) rfl)
theorem iw_654 : (Cond.methodLink RX8 56 yX0_lettersOf) ∈ lw_tbl := it3 (List.mem_of_getElem? (i := 152) rfl)
theorem iw_655 : (Cond.fieldLink RX8 59 "ShortProofs$Proof" "count" "I") ∈ lw_tbl := it1 (List.mem_of_getElem? (i := 61) rfl)
theorem iw_656 : (Cond.fieldLink RX8 15 "ShortProofs$Truths" "between" "[J") ∈ lw_tbl := it1 (List.mem_of_getElem? (i := 203) rfl)
theorem inw_wsX9_middle_r2 : ∀ w ∈ wsX9_middle_r2, w ∈ lw_tbl := List.forall_mem_cons.mpr ⟨iw_574, List.forall_mem_cons.mpr ⟨iw_572, List.forall_mem_cons.mpr ⟨iw_573, List.forall_mem_cons.mpr ⟨iw_656, List.forall_mem_cons.mpr ⟨iw_575, List.forall_mem_cons.mpr ⟨iw_655, List.forall_mem_cons.mpr ⟨iw_654, List.forall_mem_cons.mpr ⟨iw_81, List.forall_mem_cons.mpr ⟨iw_87, List.forall_mem_cons.mpr ⟨iw_80, List.forall_mem_cons.mpr ⟨iw_314, List.forall_mem_cons.mpr ⟨iw_313, List.forall_mem_cons.mpr ⟨iw_653, List.forall_mem_cons.mpr ⟨iw_209, List.forall_mem_cons.mpr ⟨iw_229, List.forall_mem_cons.mpr ⟨iw_64, List.forall_mem_cons.mpr ⟨iw_228, List.forall_mem_cons.mpr ⟨iw_118, List.forall_mem_cons.mpr ⟨iw_652, List.forall_mem_cons.mpr ⟨iw_651, List.forall_mem_cons.mpr ⟨iw_650, List.forall_mem_cons.mpr ⟨iw_649, List.forall_mem_cons.mpr ⟨iw_648, List.forall_mem_cons.mpr ⟨iw_647, (fun _ h => absurd h List.not_mem_nil)⟩⟩⟩⟩⟩⟩⟩⟩⟩⟩⟩⟩⟩⟩⟩⟩⟩⟩⟩⟩⟩⟩⟩⟩
theorem iw_657 : (Cond.constantLong RX9 301 (4294967295)) ∈ lw_tbl := it3 (List.mem_of_getElem? (i := 162) rfl)
theorem iw_658 : (Cond.code yX9_halfOf cX9_halfOf 3 (some .long)) ∈ lw_tbl := it3 (List.mem_of_getElem? (i := 161) rfl)
theorem iw_659 : (Cond.static yX9_halfOf) ∈ lw_tbl := it3 (List.mem_of_getElem? (i := 160) rfl)
theorem iw_660 : (Cond.methodLink RX9 218 yX9_halfOf) ∈ lw_tbl := it3 (List.mem_of_getElem? (i := 159) rfl)
theorem iw_661 : (Cond.fieldLink RX8 75 "ShortProofs$Proof" "letters" "[I") ∈ lw_tbl := it1 (List.mem_of_getElem? (i := 51) rfl)
theorem inw_wsX9_middle_r3 : ∀ w ∈ wsX9_middle_r3, w ∈ lw_tbl := List.forall_mem_cons.mpr ⟨iw_661, List.forall_mem_cons.mpr ⟨iw_660, List.forall_mem_cons.mpr ⟨iw_659, List.forall_mem_cons.mpr ⟨iw_658, List.forall_mem_cons.mpr ⟨iw_657, (fun _ h => absurd h List.not_mem_nil)⟩⟩⟩⟩⟩
theorem inw_wsX9_middle : ∀ w ∈ wsX9_middle, w ∈ lw_tbl := List.forall_mem_cons.mpr ⟨iw_637, List.forall_mem_append.mpr ⟨List.forall_mem_append.mpr ⟨List.forall_mem_append.mpr ⟨List.forall_mem_append.mpr ⟨inw_wsX9_middle_r1, List.forall_mem_append.mpr ⟨inw_wsX9_middle_r2, inw_wsX9_middle_r3⟩⟩, inb_X9⟩, inb_X2⟩, inb_X8⟩⟩
theorem iw_662 : (Cond.code yX10_middle cX10_middle 18 (some .long)) ∈ lw_tbl := it5 (List.mem_of_getElem? (i := 170) rfl)
theorem iw_663 : (Cond.fieldLink RX10 77 "ShortProofsModel" "tables" "[J") ∈ lw_tbl := it4 (List.mem_of_getElem? (i := 91) rfl)
theorem iw_664 : (Cond.constantLong RX10 90 (-9223372036854775808)) ∈ lw_tbl := it5 (List.mem_of_getElem? (i := 162) rfl)
theorem inw_wsX10_middle_r1 : ∀ w ∈ wsX10_middle_r1, w ∈ lw_tbl := List.forall_mem_cons.mpr ⟨iw_191, List.forall_mem_cons.mpr ⟨iw_192, List.forall_mem_cons.mpr ⟨iw_664, List.forall_mem_cons.mpr ⟨iw_610, List.forall_mem_cons.mpr ⟨iw_188, List.forall_mem_cons.mpr ⟨iw_663, List.forall_mem_cons.mpr ⟨iw_624, List.forall_mem_cons.mpr ⟨iw_190, List.forall_mem_cons.mpr ⟨iw_189, List.forall_mem_cons.mpr ⟨iw_238, List.forall_mem_cons.mpr ⟨iw_237, List.forall_mem_cons.mpr ⟨iw_236, List.forall_mem_cons.mpr ⟨iw_156, List.forall_mem_cons.mpr ⟨iw_235, List.forall_mem_cons.mpr ⟨iw_193, List.forall_mem_cons.mpr ⟨iw_154, List.forall_mem_cons.mpr ⟨iw_153, List.forall_mem_cons.mpr ⟨iw_152, List.forall_mem_cons.mpr ⟨iw_299, List.forall_mem_cons.mpr ⟨iw_298, List.forall_mem_cons.mpr ⟨iw_297, List.forall_mem_cons.mpr ⟨iw_296, List.forall_mem_cons.mpr ⟨iw_615, List.forall_mem_cons.mpr ⟨iw_614, (fun _ h => absurd h List.not_mem_nil)⟩⟩⟩⟩⟩⟩⟩⟩⟩⟩⟩⟩⟩⟩⟩⟩⟩⟩⟩⟩⟩⟩⟩⟩
theorem iw_665 : (Cond.constantLong RX10 267 (4294967295)) ∈ lw_tbl := it5 (List.mem_of_getElem? (i := 166) rfl)
theorem iw_666 : (Cond.code yX10_halfOf cX10_halfOf 3 (some .long)) ∈ lw_tbl := it5 (List.mem_of_getElem? (i := 165) rfl)
theorem iw_667 : (Cond.static yX10_halfOf) ∈ lw_tbl := it5 (List.mem_of_getElem? (i := 164) rfl)
theorem iw_668 : (Cond.methodLink RX10 269 yX10_halfOf) ∈ lw_tbl := it5 (List.mem_of_getElem? (i := 163) rfl)
theorem inw_wsX10_middle_r2 : ∀ w ∈ wsX10_middle_r2, w ∈ lw_tbl := List.forall_mem_cons.mpr ⟨iw_613, List.forall_mem_cons.mpr ⟨iw_612, List.forall_mem_cons.mpr ⟨iw_611, List.forall_mem_cons.mpr ⟨iw_609, List.forall_mem_cons.mpr ⟨iw_608, List.forall_mem_cons.mpr ⟨iw_636, List.forall_mem_cons.mpr ⟨iw_635, List.forall_mem_cons.mpr ⟨iw_634, List.forall_mem_cons.mpr ⟨iw_633, List.forall_mem_cons.mpr ⟨iw_668, List.forall_mem_cons.mpr ⟨iw_667, List.forall_mem_cons.mpr ⟨iw_666, List.forall_mem_cons.mpr ⟨iw_665, (fun _ h => absurd h List.not_mem_nil)⟩⟩⟩⟩⟩⟩⟩⟩⟩⟩⟩⟩⟩
theorem inw_wsX10_middle : ∀ w ∈ wsX10_middle, w ∈ lw_tbl := List.forall_mem_cons.mpr ⟨iw_662, List.forall_mem_append.mpr ⟨List.forall_mem_append.mpr ⟨inw_wsX10_middle_r1, inw_wsX10_middle_r2⟩, inb_X10⟩⟩
theorem iw_669 : (Cond.code yX9_truths cX9_truths 4 (some .long)) ∈ lw_tbl := it3 (List.mem_of_getElem? (i := 166) rfl)
theorem iw_670 : (Cond.code yX8_allOf cX8_allOf 5 (some .long)) ∈ lw_tbl := it3 (List.mem_of_getElem? (i := 169) rfl)
theorem iw_671 : (Cond.static yX8_allOf) ∈ lw_tbl := it3 (List.mem_of_getElem? (i := 168) rfl)
theorem iw_672 : (Cond.methodLink RX9 222 yX8_allOf) ∈ lw_tbl := it3 (List.mem_of_getElem? (i := 167) rfl)
theorem inw_wsX9_truths_r1 : ∀ w ∈ wsX9_truths_r1, w ∈ lw_tbl := List.forall_mem_cons.mpr ⟨iw_646, List.forall_mem_cons.mpr ⟨iw_126, List.forall_mem_cons.mpr ⟨iw_645, List.forall_mem_cons.mpr ⟨iw_644, List.forall_mem_cons.mpr ⟨iw_643, List.forall_mem_cons.mpr ⟨iw_18, List.forall_mem_cons.mpr ⟨iw_642, List.forall_mem_cons.mpr ⟨iw_258, List.forall_mem_cons.mpr ⟨iw_218, List.forall_mem_cons.mpr ⟨iw_217, List.forall_mem_cons.mpr ⟨iw_216, List.forall_mem_cons.mpr ⟨iw_215, List.forall_mem_cons.mpr ⟨iw_127, List.forall_mem_cons.mpr ⟨iw_584, List.forall_mem_cons.mpr ⟨iw_583, List.forall_mem_cons.mpr ⟨iw_582, List.forall_mem_cons.mpr ⟨iw_672, List.forall_mem_cons.mpr ⟨iw_671, List.forall_mem_cons.mpr ⟨iw_578, List.forall_mem_cons.mpr ⟨iw_670, List.forall_mem_cons.mpr ⟨iw_575, List.forall_mem_cons.mpr ⟨iw_574, List.forall_mem_cons.mpr ⟨iw_573, List.forall_mem_cons.mpr ⟨iw_572, (fun _ h => absurd h List.not_mem_nil)⟩⟩⟩⟩⟩⟩⟩⟩⟩⟩⟩⟩⟩⟩⟩⟩⟩⟩⟩⟩⟩⟩⟩⟩
theorem inw_wsX9_truths_r2 : ∀ w ∈ wsX9_truths_r2, w ∈ lw_tbl := List.forall_mem_cons.mpr ⟨iw_314, List.forall_mem_cons.mpr ⟨iw_313, List.forall_mem_cons.mpr ⟨iw_571, List.forall_mem_cons.mpr ⟨iw_570, List.forall_mem_cons.mpr ⟨iw_87, List.forall_mem_cons.mpr ⟨iw_596, List.forall_mem_cons.mpr ⟨iw_595, List.forall_mem_cons.mpr ⟨iw_98, List.forall_mem_cons.mpr ⟨iw_88, List.forall_mem_cons.mpr ⟨iw_86, List.forall_mem_cons.mpr ⟨iw_138, List.forall_mem_cons.mpr ⟨iw_137, List.forall_mem_cons.mpr ⟨iw_136, List.forall_mem_cons.mpr ⟨iw_97, List.forall_mem_cons.mpr ⟨iw_84, List.forall_mem_cons.mpr ⟨iw_83, List.forall_mem_cons.mpr ⟨iw_660, List.forall_mem_cons.mpr ⟨iw_659, List.forall_mem_cons.mpr ⟨iw_658, List.forall_mem_cons.mpr ⟨iw_657, (fun _ h => absurd h List.not_mem_nil)⟩⟩⟩⟩⟩⟩⟩⟩⟩⟩⟩⟩⟩⟩⟩⟩⟩⟩⟩⟩
theorem inw_wsX9_truths : ∀ w ∈ wsX9_truths, w ∈ lw_tbl := List.forall_mem_cons.mpr ⟨iw_669, List.forall_mem_append.mpr ⟨List.forall_mem_append.mpr ⟨List.forall_mem_append.mpr ⟨inw_wsX9_truths_r1, inw_wsX9_truths_r2⟩, inb_X9⟩, inb_X2⟩⟩
theorem iw_673 : (Cond.code yX10_truths cX10_truths 4 (some .long)) ∈ lw_tbl := it5 (List.mem_of_getElem? (i := 161) rfl)
theorem inw_wsX10_truths_r1 : ∀ w ∈ wsX10_truths_r1, w ∈ lw_tbl := List.forall_mem_cons.mpr ⟨iw_664, List.forall_mem_cons.mpr ⟨iw_238, List.forall_mem_cons.mpr ⟨iw_237, List.forall_mem_cons.mpr ⟨iw_236, List.forall_mem_cons.mpr ⟨iw_156, List.forall_mem_cons.mpr ⟨iw_235, List.forall_mem_cons.mpr ⟨iw_193, List.forall_mem_cons.mpr ⟨iw_154, List.forall_mem_cons.mpr ⟨iw_153, List.forall_mem_cons.mpr ⟨iw_152, List.forall_mem_cons.mpr ⟨iw_299, List.forall_mem_cons.mpr ⟨iw_298, List.forall_mem_cons.mpr ⟨iw_297, List.forall_mem_cons.mpr ⟨iw_296, List.forall_mem_cons.mpr ⟨iw_192, List.forall_mem_cons.mpr ⟨iw_188, List.forall_mem_cons.mpr ⟨iw_615, List.forall_mem_cons.mpr ⟨iw_614, List.forall_mem_cons.mpr ⟨iw_613, List.forall_mem_cons.mpr ⟨iw_612, List.forall_mem_cons.mpr ⟨iw_611, List.forall_mem_cons.mpr ⟨iw_191, List.forall_mem_cons.mpr ⟨iw_610, List.forall_mem_cons.mpr ⟨iw_609, (fun _ h => absurd h List.not_mem_nil)⟩⟩⟩⟩⟩⟩⟩⟩⟩⟩⟩⟩⟩⟩⟩⟩⟩⟩⟩⟩⟩⟩⟩⟩
theorem inw_wsX10_truths_r2 : ∀ w ∈ wsX10_truths_r2, w ∈ lw_tbl := List.forall_mem_cons.mpr ⟨iw_608, List.forall_mem_cons.mpr ⟨iw_636, List.forall_mem_cons.mpr ⟨iw_635, List.forall_mem_cons.mpr ⟨iw_634, List.forall_mem_cons.mpr ⟨iw_633, List.forall_mem_cons.mpr ⟨iw_628, List.forall_mem_cons.mpr ⟨iw_627, List.forall_mem_cons.mpr ⟨iw_626, List.forall_mem_cons.mpr ⟨iw_625, List.forall_mem_cons.mpr ⟨iw_624, List.forall_mem_cons.mpr ⟨iw_668, List.forall_mem_cons.mpr ⟨iw_667, List.forall_mem_cons.mpr ⟨iw_666, List.forall_mem_cons.mpr ⟨iw_665, (fun _ h => absurd h List.not_mem_nil)⟩⟩⟩⟩⟩⟩⟩⟩⟩⟩⟩⟩⟩⟩
theorem inw_wsX10_truths : ∀ w ∈ wsX10_truths, w ∈ lw_tbl := List.forall_mem_cons.mpr ⟨iw_673, List.forall_mem_append.mpr ⟨List.forall_mem_append.mpr ⟨inw_wsX10_truths_r1, inw_wsX10_truths_r2⟩, inb_X10⟩⟩
theorem iw_674 : (Cond.code yX9_cuts cX9_cuts 5 (some .int)) ∈ lw_tbl := it3 (List.mem_of_getElem? (i := 173) rfl)
theorem iw_675 : (Cond.code yX7_fewestCuts cX7_fewestCuts 9 (some .int)) ∈ lw_tbl := it3 (List.mem_of_getElem? (i := 181) rfl)
theorem iw_676 : (Cond.initialized RX7) ∈ lw_tbl := it1 (List.mem_of_getElem? (i := 15) rfl)
theorem iw_677 : (Cond.static yX7_fewestCuts) ∈ lw_tbl := it3 (List.mem_of_getElem? (i := 180) rfl)
theorem iw_678 : (Cond.methodLink RX9 233 yX7_fewestCuts) ∈ lw_tbl := it3 (List.mem_of_getElem? (i := 179) rfl)
theorem iw_679 : (Cond.methodLink RX0 9 yX0_lettersOf) ∈ lw_tbl := it3 (List.mem_of_getElem? (i := 178) rfl)
theorem iw_680 : (Cond.code yX0_isSmall cX0_isSmall 1 (some .boolean)) ∈ lw_tbl := it3 (List.mem_of_getElem? (i := 177) rfl)
theorem iw_681 : (Cond.static yX0_isSmall) ∈ lw_tbl := it3 (List.mem_of_getElem? (i := 176) rfl)
theorem iw_682 : (Cond.methodLink RX9 230 yX0_isSmall) ∈ lw_tbl := it3 (List.mem_of_getElem? (i := 175) rfl)
theorem iw_683 : (Cond.methodLink RX9 225 yX0_isClause) ∈ lw_tbl := it3 (List.mem_of_getElem? (i := 174) rfl)
theorem inw_wsX9_cuts_r1 : ∀ w ∈ wsX9_cuts_r1, w ∈ lw_tbl := List.forall_mem_cons.mpr ⟨iw_126, List.forall_mem_cons.mpr ⟨iw_258, List.forall_mem_cons.mpr ⟨iw_227, List.forall_mem_cons.mpr ⟨iw_329, List.forall_mem_cons.mpr ⟨iw_218, List.forall_mem_cons.mpr ⟨iw_217, List.forall_mem_cons.mpr ⟨iw_216, List.forall_mem_cons.mpr ⟨iw_18, List.forall_mem_cons.mpr ⟨iw_215, List.forall_mem_cons.mpr ⟨iw_127, List.forall_mem_cons.mpr ⟨iw_683, List.forall_mem_cons.mpr ⟨iw_134, List.forall_mem_cons.mpr ⟨iw_87, List.forall_mem_cons.mpr ⟨iw_133, List.forall_mem_cons.mpr ⟨iw_682, List.forall_mem_cons.mpr ⟨iw_681, List.forall_mem_cons.mpr ⟨iw_680, List.forall_mem_cons.mpr ⟨iw_679, List.forall_mem_cons.mpr ⟨iw_81, List.forall_mem_cons.mpr ⟨iw_80, List.forall_mem_cons.mpr ⟨iw_678, List.forall_mem_cons.mpr ⟨iw_677, List.forall_mem_cons.mpr ⟨iw_676, List.forall_mem_cons.mpr ⟨iw_675, (fun _ h => absurd h List.not_mem_nil)⟩⟩⟩⟩⟩⟩⟩⟩⟩⟩⟩⟩⟩⟩⟩⟩⟩⟩⟩⟩⟩⟩⟩⟩
theorem iw_684 : (Cond.code yX7_furtherCuts cX7_furtherCuts 10 (some .int)) ∈ lw_tbl := it3 (List.mem_of_getElem? (i := 193) rfl)
theorem iw_685 : (Cond.static yX7_furtherCuts) ∈ lw_tbl := it3 (List.mem_of_getElem? (i := 192) rfl)
theorem iw_686 : (Cond.methodLink RX7 42 yX7_furtherCuts) ∈ lw_tbl := it3 (List.mem_of_getElem? (i := 191) rfl)
theorem iw_687 : (Cond.methodLink RX7 46 yJ6_bitCount_0f7a4) ∈ lw_tbl := it3 (List.mem_of_getElem? (i := 190) rfl)
theorem iw_688 : (Cond.code yX7_cutsWith cX7_cutsWith 7 (some .long)) ∈ lw_tbl := it3 (List.mem_of_getElem? (i := 189) rfl)
theorem iw_689 : (Cond.static yX7_cutsWith) ∈ lw_tbl := it3 (List.mem_of_getElem? (i := 188) rfl)
theorem iw_690 : (Cond.methodLink RX7 38 yX7_cutsWith) ∈ lw_tbl := it3 (List.mem_of_getElem? (i := 187) rfl)
theorem iw_691 : (Cond.methodLink RX7 28 yX0_isPart) ∈ lw_tbl := it3 (List.mem_of_getElem? (i := 185) rfl)
theorem iw_692 : (Cond.code yX7_codeOf cX7_codeOf 1 (some .int)) ∈ lw_tbl := it3 (List.mem_of_getElem? (i := 184) rfl)
theorem iw_693 : (Cond.static yX7_codeOf) ∈ lw_tbl := it3 (List.mem_of_getElem? (i := 183) rfl)
theorem iw_694 : (Cond.methodLink RX7 22 yX7_codeOf) ∈ lw_tbl := it3 (List.mem_of_getElem? (i := 182) rfl)
theorem iw_695 : (Cond.fieldLink RX7 19 "ShortProofs$Proof" "grounds" "[I") ∈ lw_tbl := it1 (List.mem_of_getElem? (i := 54) rfl)
theorem iw_696 : (Cond.fieldLink RX7 15 "ShortProofs$Proof" "clauses" "[I") ∈ lw_tbl := it1 (List.mem_of_getElem? (i := 34) rfl)
theorem iw_697 : (Cond.fieldLink RX7 9 "ShortProofs$Proof" "groundCount" "I") ∈ lw_tbl := it1 (List.mem_of_getElem? (i := 65) rfl)
theorem inw_wsX9_cuts_r2 : ∀ w ∈ wsX9_cuts_r2, w ∈ lw_tbl := List.forall_mem_cons.mpr ⟨iw_697, List.forall_mem_cons.mpr ⟨iw_696, List.forall_mem_cons.mpr ⟨iw_695, List.forall_mem_cons.mpr ⟨iw_694, List.forall_mem_cons.mpr ⟨iw_693, List.forall_mem_cons.mpr ⟨iw_692, List.forall_mem_cons.mpr ⟨iw_691, List.forall_mem_cons.mpr ⟨iw_137, List.forall_mem_cons.mpr ⟨iw_136, List.forall_mem_cons.mpr ⟨iw_314, List.forall_mem_cons.mpr ⟨iw_313, List.forall_mem_cons.mpr ⟨iw_690, List.forall_mem_cons.mpr ⟨iw_689, List.forall_mem_cons.mpr ⟨iw_688, List.forall_mem_cons.mpr ⟨iw_687, List.forall_mem_cons.mpr ⟨iw_250, List.forall_mem_cons.mpr ⟨iw_249, List.forall_mem_cons.mpr ⟨iw_248, List.forall_mem_cons.mpr ⟨iw_247, List.forall_mem_cons.mpr ⟨iw_246, List.forall_mem_cons.mpr ⟨iw_245, List.forall_mem_cons.mpr ⟨iw_686, List.forall_mem_cons.mpr ⟨iw_685, List.forall_mem_cons.mpr ⟨iw_684, (fun _ h => absurd h List.not_mem_nil)⟩⟩⟩⟩⟩⟩⟩⟩⟩⟩⟩⟩⟩⟩⟩⟩⟩⟩⟩⟩⟩⟩⟩⟩
theorem iw_698 : (Cond.constantLong RX7 51 (-1)) ∈ lw_tbl := it3 (List.mem_of_getElem? (i := 194) rfl)
theorem inw_wsX9_cuts_r3 : ∀ w ∈ wsX9_cuts_r3, w ∈ lw_tbl := List.forall_mem_cons.mpr ⟨iw_698, (fun _ h => absurd h List.not_mem_nil)⟩
theorem inw_wsX9_cuts : ∀ w ∈ wsX9_cuts, w ∈ lw_tbl := List.forall_mem_cons.mpr ⟨iw_674, List.forall_mem_append.mpr ⟨List.forall_mem_append.mpr ⟨List.forall_mem_append.mpr ⟨inw_wsX9_cuts_r1, List.forall_mem_append.mpr ⟨inw_wsX9_cuts_r2, inw_wsX9_cuts_r3⟩⟩, inb_X9⟩, inb_X2⟩⟩
theorem iw_699 : (Cond.code yX10_cuts cX10_cuts 12 (some .int)) ∈ lw_tbl := it5 (List.mem_of_getElem? (i := 174) rfl)
theorem iw_700 : (Cond.instanceMethod yX10_laySmall) ∈ lw_tbl := it5 (List.mem_of_getElem? (i := 183) rfl)
theorem iw_701 : (Cond.methodLink RX10 279 yX10_laySmall) ∈ lw_tbl := it5 (List.mem_of_getElem? (i := 181) rfl)
theorem iw_702 : (Cond.code yX10_smallOf cX10_smallOf 3 (some .int)) ∈ lw_tbl := it5 (List.mem_of_getElem? (i := 180) rfl)
theorem iw_703 : (Cond.static yX10_smallOf) ∈ lw_tbl := it5 (List.mem_of_getElem? (i := 179) rfl)
theorem iw_704 : (Cond.methodLink RX10 273 yX10_smallOf) ∈ lw_tbl := it5 (List.mem_of_getElem? (i := 178) rfl)
theorem iw_705 : (Cond.code yX10_isSmall cX10_isSmall 1 (some .boolean)) ∈ lw_tbl := it5 (List.mem_of_getElem? (i := 177) rfl)
theorem iw_706 : (Cond.static yX10_isSmall) ∈ lw_tbl := it5 (List.mem_of_getElem? (i := 176) rfl)
theorem iw_707 : (Cond.methodLink RX10 276 yX10_isSmall) ∈ lw_tbl := it5 (List.mem_of_getElem? (i := 175) rfl)
theorem iw_708 : (Cond.fieldLink RX10 80 "ShortProofsModel" "smallClause" "[I") ∈ lw_tbl := it4 (List.mem_of_getElem? (i := 92) rfl)
theorem inw_wsX10_cuts_r1 : ∀ w ∈ wsX10_cuts_r1, w ∈ lw_tbl := List.forall_mem_cons.mpr ⟨iw_192, List.forall_mem_cons.mpr ⟨iw_188, List.forall_mem_cons.mpr ⟨iw_191, List.forall_mem_cons.mpr ⟨iw_708, List.forall_mem_cons.mpr ⟨iw_238, List.forall_mem_cons.mpr ⟨iw_237, List.forall_mem_cons.mpr ⟨iw_236, List.forall_mem_cons.mpr ⟨iw_156, List.forall_mem_cons.mpr ⟨iw_235, List.forall_mem_cons.mpr ⟨iw_193, List.forall_mem_cons.mpr ⟨iw_707, List.forall_mem_cons.mpr ⟨iw_706, List.forall_mem_cons.mpr ⟨iw_705, List.forall_mem_cons.mpr ⟨iw_200, List.forall_mem_cons.mpr ⟨iw_199, List.forall_mem_cons.mpr ⟨iw_198, List.forall_mem_cons.mpr ⟨iw_154, List.forall_mem_cons.mpr ⟨iw_153, List.forall_mem_cons.mpr ⟨iw_152, List.forall_mem_cons.mpr ⟨iw_704, List.forall_mem_cons.mpr ⟨iw_703, List.forall_mem_cons.mpr ⟨iw_702, List.forall_mem_cons.mpr ⟨iw_701, List.forall_mem_cons.mpr ⟨iw_700, (fun _ h => absurd h List.not_mem_nil)⟩⟩⟩⟩⟩⟩⟩⟩⟩⟩⟩⟩⟩⟩⟩⟩⟩⟩⟩⟩⟩⟩⟩⟩
theorem iw_709 : (Cond.code yX10_oneCut cX10_oneCut 5 (some .int)) ∈ lw_tbl := it5 (List.mem_of_getElem? (i := 188) rfl)
theorem iw_710 : (Cond.selects RX10 yX10_oneCut yX10_oneCut) ∈ lw_tbl := its (List.mem_of_getElem? (i := 70) rfl)
theorem iw_711 : (Cond.instanceMethod yX10_oneCut) ∈ lw_tbl := it5 (List.mem_of_getElem? (i := 187) rfl)
theorem iw_712 : (Cond.methodLink RX10 282 yX10_oneCut) ∈ lw_tbl := it5 (List.mem_of_getElem? (i := 185) rfl)
theorem iw_713 : (Cond.fieldLink RX10 83 "ShortProofsModel" "smallCut" "[I") ∈ lw_tbl := it4 (List.mem_of_getElem? (i := 93) rfl)
theorem iw_714 : (Cond.code yX10_laySmall cX10_laySmall 6 none) ∈ lw_tbl := it5 (List.mem_of_getElem? (i := 184) rfl)
theorem iw_715 : (Cond.selects RX10 yX10_laySmall yX10_laySmall) ∈ lw_tbl := its (List.mem_of_getElem? (i := 69) rfl)
theorem inw_wsX10_cuts_r2 : ∀ w ∈ wsX10_cuts_r2, w ∈ lw_tbl := List.forall_mem_cons.mpr ⟨iw_715, List.forall_mem_cons.mpr ⟨iw_714, List.forall_mem_cons.mpr ⟨iw_713, List.forall_mem_cons.mpr ⟨iw_203, List.forall_mem_cons.mpr ⟨iw_202, List.forall_mem_cons.mpr ⟨iw_201, List.forall_mem_cons.mpr ⟨iw_514, List.forall_mem_cons.mpr ⟨iw_513, List.forall_mem_cons.mpr ⟨iw_512, List.forall_mem_cons.mpr ⟨iw_712, List.forall_mem_cons.mpr ⟨iw_711, List.forall_mem_cons.mpr ⟨iw_710, List.forall_mem_cons.mpr ⟨iw_709, (fun _ h => absurd h List.not_mem_nil)⟩⟩⟩⟩⟩⟩⟩⟩⟩⟩⟩⟩⟩
theorem inw_wsX10_cuts : ∀ w ∈ wsX10_cuts, w ∈ lw_tbl := List.forall_mem_cons.mpr ⟨iw_699, List.forall_mem_append.mpr ⟨List.forall_mem_append.mpr ⟨inw_wsX10_cuts_r1, inw_wsX10_cuts_r2⟩, inb_X10⟩⟩
theorem iw_716 : (Cond.code yX9_units cX9_units 3 (some .int)) ∈ lw_tbl := it3 (List.mem_of_getElem? (i := 198) rfl)
theorem iw_717 : (Cond.code yX7_withUnits cX7_withUnits 5 (some .int)) ∈ lw_tbl := it3 (List.mem_of_getElem? (i := 204) rfl)
theorem iw_718 : (Cond.static yX7_withUnits) ∈ lw_tbl := it3 (List.mem_of_getElem? (i := 203) rfl)
theorem iw_719 : (Cond.methodLink RX7 53 yX7_withUnits) ∈ lw_tbl := it3 (List.mem_of_getElem? (i := 202) rfl)
theorem iw_720 : (Cond.code yX7_isByUnits cX7_isByUnits 4 (some .boolean)) ∈ lw_tbl := it3 (List.mem_of_getElem? (i := 201) rfl)
theorem iw_721 : (Cond.static yX7_isByUnits) ∈ lw_tbl := it3 (List.mem_of_getElem? (i := 200) rfl)
theorem iw_722 : (Cond.methodLink RX9 238 yX7_isByUnits) ∈ lw_tbl := it3 (List.mem_of_getElem? (i := 199) rfl)
theorem inw_wsX9_units_r1 : ∀ w ∈ wsX9_units_r1, w ∈ lw_tbl := List.forall_mem_cons.mpr ⟨iw_126, List.forall_mem_cons.mpr ⟨iw_218, List.forall_mem_cons.mpr ⟨iw_217, List.forall_mem_cons.mpr ⟨iw_216, List.forall_mem_cons.mpr ⟨iw_18, List.forall_mem_cons.mpr ⟨iw_215, List.forall_mem_cons.mpr ⟨iw_127, List.forall_mem_cons.mpr ⟨iw_683, List.forall_mem_cons.mpr ⟨iw_134, List.forall_mem_cons.mpr ⟨iw_87, List.forall_mem_cons.mpr ⟨iw_133, List.forall_mem_cons.mpr ⟨iw_722, List.forall_mem_cons.mpr ⟨iw_721, List.forall_mem_cons.mpr ⟨iw_676, List.forall_mem_cons.mpr ⟨iw_720, List.forall_mem_cons.mpr ⟨iw_697, List.forall_mem_cons.mpr ⟨iw_696, List.forall_mem_cons.mpr ⟨iw_695, List.forall_mem_cons.mpr ⟨iw_719, List.forall_mem_cons.mpr ⟨iw_718, List.forall_mem_cons.mpr ⟨iw_717, List.forall_mem_cons.mpr ⟨iw_687, List.forall_mem_cons.mpr ⟨iw_250, List.forall_mem_cons.mpr ⟨iw_249, (fun _ h => absurd h List.not_mem_nil)⟩⟩⟩⟩⟩⟩⟩⟩⟩⟩⟩⟩⟩⟩⟩⟩⟩⟩⟩⟩⟩⟩⟩⟩
theorem iw_723 : (Cond.methodLink RX7 57 yX0_others) ∈ lw_tbl := it3 (List.mem_of_getElem? (i := 205) rfl)
theorem inw_wsX9_units_r2 : ∀ w ∈ wsX9_units_r2, w ∈ lw_tbl := List.forall_mem_cons.mpr ⟨iw_248, List.forall_mem_cons.mpr ⟨iw_247, List.forall_mem_cons.mpr ⟨iw_246, List.forall_mem_cons.mpr ⟨iw_245, List.forall_mem_cons.mpr ⟨iw_723, List.forall_mem_cons.mpr ⟨iw_496, List.forall_mem_cons.mpr ⟨iw_495, List.forall_mem_cons.mpr ⟨iw_691, List.forall_mem_cons.mpr ⟨iw_137, List.forall_mem_cons.mpr ⟨iw_136, (fun _ h => absurd h List.not_mem_nil)⟩⟩⟩⟩⟩⟩⟩⟩⟩⟩
theorem inw_wsX9_units : ∀ w ∈ wsX9_units, w ∈ lw_tbl := List.forall_mem_cons.mpr ⟨iw_716, List.forall_mem_append.mpr ⟨List.forall_mem_append.mpr ⟨List.forall_mem_append.mpr ⟨inw_wsX9_units_r1, inw_wsX9_units_r2⟩, inb_X9⟩, inb_X2⟩⟩
theorem iw_724 : (Cond.code yX10_units cX10_units 9 (some .int)) ∈ lw_tbl := it5 (List.mem_of_getElem? (i := 192) rfl)
theorem inw_wsX10_units : ∀ w ∈ wsX10_units, w ∈ lw_tbl := List.forall_mem_cons.mpr ⟨iw_724, List.forall_mem_append.mpr ⟨List.forall_mem_cons.mpr ⟨iw_192, List.forall_mem_cons.mpr ⟨iw_188, List.forall_mem_cons.mpr ⟨iw_191, List.forall_mem_cons.mpr ⟨iw_238, List.forall_mem_cons.mpr ⟨iw_237, List.forall_mem_cons.mpr ⟨iw_236, List.forall_mem_cons.mpr ⟨iw_156, List.forall_mem_cons.mpr ⟨iw_235, List.forall_mem_cons.mpr ⟨iw_193, List.forall_mem_cons.mpr ⟨iw_200, List.forall_mem_cons.mpr ⟨iw_199, List.forall_mem_cons.mpr ⟨iw_198, List.forall_mem_cons.mpr ⟨iw_154, List.forall_mem_cons.mpr ⟨iw_153, List.forall_mem_cons.mpr ⟨iw_152, List.forall_mem_cons.mpr ⟨iw_291, List.forall_mem_cons.mpr ⟨iw_290, List.forall_mem_cons.mpr ⟨iw_289, (fun _ h => absurd h List.not_mem_nil)⟩⟩⟩⟩⟩⟩⟩⟩⟩⟩⟩⟩⟩⟩⟩⟩⟩⟩, inb_X10⟩⟩
theorem iw_725 : (Cond.code yX9_follows cX9_follows 5 (some .int)) ∈ lw_tbl := it3 (List.mem_of_getElem? (i := 209) rfl)
theorem iw_726 : (Cond.constantLong RX9 245 (-1)) ∈ lw_tbl := it3 (List.mem_of_getElem? (i := 211) rfl)
theorem inw_wsX9_follows_r1 : ∀ w ∈ wsX9_follows_r1, w ∈ lw_tbl := List.forall_mem_cons.mpr ⟨iw_126, List.forall_mem_cons.mpr ⟨iw_726, List.forall_mem_cons.mpr ⟨iw_218, List.forall_mem_cons.mpr ⟨iw_217, List.forall_mem_cons.mpr ⟨iw_216, List.forall_mem_cons.mpr ⟨iw_18, List.forall_mem_cons.mpr ⟨iw_215, List.forall_mem_cons.mpr ⟨iw_127, List.forall_mem_cons.mpr ⟨iw_683, List.forall_mem_cons.mpr ⟨iw_134, List.forall_mem_cons.mpr ⟨iw_87, List.forall_mem_cons.mpr ⟨iw_133, List.forall_mem_cons.mpr ⟨iw_672, List.forall_mem_cons.mpr ⟨iw_671, List.forall_mem_cons.mpr ⟨iw_578, List.forall_mem_cons.mpr ⟨iw_670, List.forall_mem_cons.mpr ⟨iw_575, List.forall_mem_cons.mpr ⟨iw_574, List.forall_mem_cons.mpr ⟨iw_573, List.forall_mem_cons.mpr ⟨iw_572, List.forall_mem_cons.mpr ⟨iw_314, List.forall_mem_cons.mpr ⟨iw_313, List.forall_mem_cons.mpr ⟨iw_571, List.forall_mem_cons.mpr ⟨iw_570, (fun _ h => absurd h List.not_mem_nil)⟩⟩⟩⟩⟩⟩⟩⟩⟩⟩⟩⟩⟩⟩⟩⟩⟩⟩⟩⟩⟩⟩⟩⟩
theorem iw_727 : (Cond.methodLink RX9 241 yX0_tableOf) ∈ lw_tbl := it3 (List.mem_of_getElem? (i := 210) rfl)
theorem inw_wsX9_follows_r2 : ∀ w ∈ wsX9_follows_r2, w ∈ lw_tbl := List.forall_mem_cons.mpr ⟨iw_596, List.forall_mem_cons.mpr ⟨iw_595, List.forall_mem_cons.mpr ⟨iw_98, List.forall_mem_cons.mpr ⟨iw_88, List.forall_mem_cons.mpr ⟨iw_86, List.forall_mem_cons.mpr ⟨iw_138, List.forall_mem_cons.mpr ⟨iw_137, List.forall_mem_cons.mpr ⟨iw_136, List.forall_mem_cons.mpr ⟨iw_97, List.forall_mem_cons.mpr ⟨iw_84, List.forall_mem_cons.mpr ⟨iw_83, List.forall_mem_cons.mpr ⟨iw_727, (fun _ h => absurd h List.not_mem_nil)⟩⟩⟩⟩⟩⟩⟩⟩⟩⟩⟩⟩
theorem inw_wsX9_follows : ∀ w ∈ wsX9_follows, w ∈ lw_tbl := List.forall_mem_cons.mpr ⟨iw_725, List.forall_mem_append.mpr ⟨List.forall_mem_append.mpr ⟨List.forall_mem_append.mpr ⟨inw_wsX9_follows_r1, inw_wsX9_follows_r2⟩, inb_X9⟩, inb_X2⟩⟩
theorem iw_728 : (Cond.code yX10_follows cX10_follows 6 (some .int)) ∈ lw_tbl := it5 (List.mem_of_getElem? (i := 196) rfl)
theorem inw_wsX10_follows_r1 : ∀ w ∈ wsX10_follows_r1, w ∈ lw_tbl := List.forall_mem_cons.mpr ⟨iw_624, List.forall_mem_cons.mpr ⟨iw_611, List.forall_mem_cons.mpr ⟨iw_238, List.forall_mem_cons.mpr ⟨iw_237, List.forall_mem_cons.mpr ⟨iw_236, List.forall_mem_cons.mpr ⟨iw_156, List.forall_mem_cons.mpr ⟨iw_235, List.forall_mem_cons.mpr ⟨iw_193, List.forall_mem_cons.mpr ⟨iw_200, List.forall_mem_cons.mpr ⟨iw_199, List.forall_mem_cons.mpr ⟨iw_198, List.forall_mem_cons.mpr ⟨iw_154, List.forall_mem_cons.mpr ⟨iw_153, List.forall_mem_cons.mpr ⟨iw_152, List.forall_mem_cons.mpr ⟨iw_615, List.forall_mem_cons.mpr ⟨iw_614, List.forall_mem_cons.mpr ⟨iw_613, List.forall_mem_cons.mpr ⟨iw_612, List.forall_mem_cons.mpr ⟨iw_192, List.forall_mem_cons.mpr ⟨iw_188, List.forall_mem_cons.mpr ⟨iw_191, List.forall_mem_cons.mpr ⟨iw_610, List.forall_mem_cons.mpr ⟨iw_609, List.forall_mem_cons.mpr ⟨iw_608, (fun _ h => absurd h List.not_mem_nil)⟩⟩⟩⟩⟩⟩⟩⟩⟩⟩⟩⟩⟩⟩⟩⟩⟩⟩⟩⟩⟩⟩⟩⟩
theorem inw_wsX10_follows_r2 : ∀ w ∈ wsX10_follows_r2, w ∈ lw_tbl := List.forall_mem_cons.mpr ⟨iw_636, List.forall_mem_cons.mpr ⟨iw_635, List.forall_mem_cons.mpr ⟨iw_634, List.forall_mem_cons.mpr ⟨iw_633, List.forall_mem_cons.mpr ⟨iw_299, List.forall_mem_cons.mpr ⟨iw_298, List.forall_mem_cons.mpr ⟨iw_297, List.forall_mem_cons.mpr ⟨iw_296, (fun _ h => absurd h List.not_mem_nil)⟩⟩⟩⟩⟩⟩⟩⟩
theorem inw_wsX10_follows : ∀ w ∈ wsX10_follows, w ∈ lw_tbl := List.forall_mem_cons.mpr ⟨iw_728, List.forall_mem_append.mpr ⟨List.forall_mem_append.mpr ⟨inw_wsX10_follows_r1, inw_wsX10_follows_r2⟩, inb_X10⟩⟩
theorem iw_729 : (Cond.code yX9_cut cX9_cut 4 (some .int)) ∈ lw_tbl := it3 (List.mem_of_getElem? (i := 215) rfl)
theorem iw_730 : (Cond.methodLink RX9 247 yX0_cutOf) ∈ lw_tbl := it3 (List.mem_of_getElem? (i := 216) rfl)
theorem inw_wsX9_cut : ∀ w ∈ wsX9_cut, w ∈ lw_tbl := List.forall_mem_cons.mpr ⟨iw_729, List.forall_mem_cons.mpr ⟨iw_683, List.forall_mem_cons.mpr ⟨iw_134, List.forall_mem_cons.mpr ⟨iw_87, List.forall_mem_cons.mpr ⟨iw_133, List.forall_mem_cons.mpr ⟨iw_730, List.forall_mem_cons.mpr ⟨iw_100, List.forall_mem_cons.mpr ⟨iw_99, List.forall_mem_cons.mpr ⟨iw_98, List.forall_mem_cons.mpr ⟨iw_88, List.forall_mem_cons.mpr ⟨iw_86, List.forall_mem_cons.mpr ⟨iw_97, List.forall_mem_cons.mpr ⟨iw_84, List.forall_mem_cons.mpr ⟨iw_83, List.forall_mem_cons.mpr ⟨iw_138, List.forall_mem_cons.mpr ⟨iw_137, List.forall_mem_cons.mpr ⟨iw_136, List.forall_mem_cons.mpr ⟨iw_135, (fun _ h => absurd h List.not_mem_nil)⟩⟩⟩⟩⟩⟩⟩⟩⟩⟩⟩⟩⟩⟩⟩⟩⟩⟩
theorem iw_731 : (Cond.code yX10_cut cX10_cut 4 (some .int)) ∈ lw_tbl := it4 (List.mem_of_getElem? (i := 162) rfl)
theorem inw_wsX10_cut : ∀ w ∈ wsX10_cut, w ∈ lw_tbl := List.forall_mem_cons.mpr ⟨iw_731, List.forall_mem_cons.mpr ⟨iw_200, List.forall_mem_cons.mpr ⟨iw_199, List.forall_mem_cons.mpr ⟨iw_156, List.forall_mem_cons.mpr ⟨iw_198, List.forall_mem_cons.mpr ⟨iw_154, List.forall_mem_cons.mpr ⟨iw_153, List.forall_mem_cons.mpr ⟨iw_152, List.forall_mem_cons.mpr ⟨iw_203, List.forall_mem_cons.mpr ⟨iw_202, List.forall_mem_cons.mpr ⟨iw_201, (fun _ h => absurd h List.not_mem_nil)⟩⟩⟩⟩⟩⟩⟩⟩⟩⟩⟩
theorem iw_732 : (Cond.code yX9_stronger cX9_stronger 3 (some .int)) ∈ lw_tbl := it3 (List.mem_of_getElem? (i := 220) rfl)
theorem iw_733 : (Cond.methodLink RX9 251 yX0_isPart) ∈ lw_tbl := it3 (List.mem_of_getElem? (i := 221) rfl)
theorem inw_wsX9_stronger : ∀ w ∈ wsX9_stronger, w ∈ lw_tbl := List.forall_mem_cons.mpr ⟨iw_732, List.forall_mem_cons.mpr ⟨iw_683, List.forall_mem_cons.mpr ⟨iw_134, List.forall_mem_cons.mpr ⟨iw_87, List.forall_mem_cons.mpr ⟨iw_133, List.forall_mem_cons.mpr ⟨iw_733, List.forall_mem_cons.mpr ⟨iw_137, List.forall_mem_cons.mpr ⟨iw_136, (fun _ h => absurd h List.not_mem_nil)⟩⟩⟩⟩⟩⟩⟩⟩
theorem iw_734 : (Cond.code yX10_stronger cX10_stronger 3 (some .int)) ∈ lw_tbl := it4 (List.mem_of_getElem? (i := 175) rfl)
theorem inw_wsX10_stronger : ∀ w ∈ wsX10_stronger, w ∈ lw_tbl := List.forall_mem_cons.mpr ⟨iw_734, List.forall_mem_cons.mpr ⟨iw_200, List.forall_mem_cons.mpr ⟨iw_199, List.forall_mem_cons.mpr ⟨iw_156, List.forall_mem_cons.mpr ⟨iw_198, List.forall_mem_cons.mpr ⟨iw_154, List.forall_mem_cons.mpr ⟨iw_153, List.forall_mem_cons.mpr ⟨iw_152, List.forall_mem_cons.mpr ⟨iw_514, List.forall_mem_cons.mpr ⟨iw_513, List.forall_mem_cons.mpr ⟨iw_512, (fun _ h => absurd h List.not_mem_nil)⟩⟩⟩⟩⟩⟩⟩⟩⟩⟩⟩
theorem iw_735 : (Cond.code yX9_sheet cX9_sheet 4 (some .int)) ∈ lw_tbl := it3 (List.mem_of_getElem? (i := 225) rfl)
theorem iw_736 : (Cond.code yX4_begin cX4_begin 4 none) ∈ lw_tbl := it3 (List.mem_of_getElem? (i := 229) rfl)
theorem iw_737 : (Cond.selects RX4 yX4_begin yX4_begin) ∈ lw_tbl := it3 (List.mem_of_getElem? (i := 228) rfl)
theorem iw_738 : (Cond.instanceMethod yX4_begin) ∈ lw_tbl := it3 (List.mem_of_getElem? (i := 227) rfl)
theorem iw_739 : (Cond.methodLink RX9 254 yX4_begin) ∈ lw_tbl := it3 (List.mem_of_getElem? (i := 226) rfl)
theorem inw_wsX9_sheet_r1 : ∀ w ∈ wsX9_sheet_r1, w ∈ lw_tbl := List.forall_mem_cons.mpr ⟨iw_24, List.forall_mem_cons.mpr ⟨iw_20, List.forall_mem_cons.mpr ⟨iw_19, List.forall_mem_cons.mpr ⟨iw_18, List.forall_mem_cons.mpr ⟨iw_17, List.forall_mem_cons.mpr ⟨iw_16, List.forall_mem_cons.mpr ⟨iw_15, List.forall_mem_cons.mpr ⟨iw_14, List.forall_mem_cons.mpr ⟨iw_13, List.forall_mem_cons.mpr ⟨iw_12, List.forall_mem_cons.mpr ⟨iw_11, List.forall_mem_cons.mpr ⟨iw_10, List.forall_mem_cons.mpr ⟨iw_9, List.forall_mem_cons.mpr ⟨iw_41, List.forall_mem_cons.mpr ⟨iw_40, List.forall_mem_cons.mpr ⟨iw_39, List.forall_mem_cons.mpr ⟨iw_38, List.forall_mem_cons.mpr ⟨iw_739, List.forall_mem_cons.mpr ⟨iw_738, List.forall_mem_cons.mpr ⟨iw_737, List.forall_mem_cons.mpr ⟨iw_5, List.forall_mem_cons.mpr ⟨iw_736, List.forall_mem_cons.mpr ⟨iw_3, List.forall_mem_cons.mpr ⟨iw_42, (fun _ h => absurd h List.not_mem_nil)⟩⟩⟩⟩⟩⟩⟩⟩⟩⟩⟩⟩⟩⟩⟩⟩⟩⟩⟩⟩⟩⟩⟩⟩
theorem iw_740 : (Cond.fieldLink RX4 9 "ShortProofs$Sheet" "cells" "[I") ∈ lw_tbl := it1 (List.mem_of_getElem? (i := 90) rfl)
theorem inw_wsX9_sheet_r2 : ∀ w ∈ wsX9_sheet_r2, w ∈ lw_tbl := List.forall_mem_cons.mpr ⟨iw_740, (fun _ h => absurd h List.not_mem_nil)⟩
theorem inw_wsX9_sheet : ∀ w ∈ wsX9_sheet, w ∈ lw_tbl := List.forall_mem_cons.mpr ⟨iw_735, List.forall_mem_append.mpr ⟨List.forall_mem_append.mpr ⟨List.forall_mem_append.mpr ⟨inw_wsX9_sheet_r1, inw_wsX9_sheet_r2⟩, inb_X9⟩, inb_X4⟩⟩
theorem iw_741 : (Cond.code yX10_sheet cX10_sheet 5 (some .int)) ∈ lw_tbl := it5 (List.mem_of_getElem? (i := 200) rfl)
theorem inw_wsX10_sheet : ∀ w ∈ wsX10_sheet, w ∈ lw_tbl := List.forall_mem_cons.mpr ⟨iw_741, List.forall_mem_append.mpr ⟨List.forall_mem_cons.mpr ⟨iw_163, List.forall_mem_cons.mpr ⟨iw_162, List.forall_mem_cons.mpr ⟨iw_161, List.forall_mem_cons.mpr ⟨iw_183, List.forall_mem_cons.mpr ⟨iw_158, List.forall_mem_cons.mpr ⟨iw_157, List.forall_mem_cons.mpr ⟨iw_156, List.forall_mem_cons.mpr ⟨iw_155, List.forall_mem_cons.mpr ⟨iw_154, List.forall_mem_cons.mpr ⟨iw_153, List.forall_mem_cons.mpr ⟨iw_152, List.forall_mem_cons.mpr ⟨iw_151, List.forall_mem_cons.mpr ⟨iw_150, List.forall_mem_cons.mpr ⟨iw_149, List.forall_mem_cons.mpr ⟨iw_148, List.forall_mem_cons.mpr ⟨iw_147, List.forall_mem_cons.mpr ⟨iw_146, List.forall_mem_cons.mpr ⟨iw_145, (fun _ h => absurd h List.not_mem_nil)⟩⟩⟩⟩⟩⟩⟩⟩⟩⟩⟩⟩⟩⟩⟩⟩⟩⟩, inb_X10⟩⟩
theorem iw_742 : (Cond.code yX9_lose cX9_lose 2 (some .int)) ∈ lw_tbl := it3 (List.mem_of_getElem? (i := 233) rfl)
theorem iw_743 : (Cond.methodLink RX9 258 yX4_isNothing) ∈ lw_tbl := it3 (List.mem_of_getElem? (i := 234) rfl)
theorem iw_744 : (Cond.fieldLink RX9 261 "ShortProofs$Sheet" "lane" "I") ∈ lw_tbl := it1 (List.mem_of_getElem? (i := 94) rfl)
theorem inw_wsX9_lose : ∀ w ∈ wsX9_lose, w ∈ lw_tbl := List.forall_mem_cons.mpr ⟨iw_742, List.forall_mem_append.mpr ⟨List.forall_mem_append.mpr ⟨List.forall_mem_cons.mpr ⟨iw_24, List.forall_mem_cons.mpr ⟨iw_744, List.forall_mem_cons.mpr ⟨iw_20, List.forall_mem_cons.mpr ⟨iw_19, List.forall_mem_cons.mpr ⟨iw_18, List.forall_mem_cons.mpr ⟨iw_17, List.forall_mem_cons.mpr ⟨iw_743, List.forall_mem_cons.mpr ⟨iw_1, List.forall_mem_cons.mpr ⟨iw_48, List.forall_mem_cons.mpr ⟨iw_5, List.forall_mem_cons.mpr ⟨iw_47, List.forall_mem_cons.mpr ⟨iw_3, (fun _ h => absurd h List.not_mem_nil)⟩⟩⟩⟩⟩⟩⟩⟩⟩⟩⟩⟩, inb_X9⟩, inb_X4⟩⟩
theorem iw_745 : (Cond.code yX10_lose cX10_lose 3 (some .int)) ∈ lw_tbl := it5 (List.mem_of_getElem? (i := 204) rfl)
theorem inw_wsX10_lose : ∀ w ∈ wsX10_lose, w ∈ lw_tbl := List.forall_mem_cons.mpr ⟨iw_745, List.forall_mem_append.mpr ⟨List.forall_mem_cons.mpr ⟨iw_162, List.forall_mem_cons.mpr ⟨iw_158, List.forall_mem_cons.mpr ⟨iw_157, List.forall_mem_cons.mpr ⟨iw_156, List.forall_mem_cons.mpr ⟨iw_155, List.forall_mem_cons.mpr ⟨iw_154, List.forall_mem_cons.mpr ⟨iw_153, List.forall_mem_cons.mpr ⟨iw_152, (fun _ h => absurd h List.not_mem_nil)⟩⟩⟩⟩⟩⟩⟩⟩, inb_X10⟩⟩
theorem iw_746 : (Cond.code yX9_put cX9_put 5 (some .int)) ∈ lw_tbl := it3 (List.mem_of_getElem? (i := 238) rfl)
theorem iw_747 : (Cond.code yX4_hasCell cX4_hasCell 2 (some .boolean)) ∈ lw_tbl := it4 (List.mem_of_getElem? (i := 2) rfl)
theorem iw_748 : (Cond.selects RX4 yX4_hasCell yX4_hasCell) ∈ lw_tbl := it4 (List.mem_of_getElem? (i := 1) rfl)
theorem iw_749 : (Cond.instanceMethod yX4_hasCell) ∈ lw_tbl := it4 (List.mem_of_getElem? (i := 0) rfl)
theorem iw_750 : (Cond.methodLink RX9 264 yX4_hasCell) ∈ lw_tbl := it3 (List.mem_of_getElem? (i := 239) rfl)
theorem inw_wsX9_put_r1 : ∀ w ∈ wsX9_put_r1, w ∈ lw_tbl := List.forall_mem_cons.mpr ⟨iw_24, List.forall_mem_cons.mpr ⟨iw_20, List.forall_mem_cons.mpr ⟨iw_19, List.forall_mem_cons.mpr ⟨iw_18, List.forall_mem_cons.mpr ⟨iw_17, List.forall_mem_cons.mpr ⟨iw_16, List.forall_mem_cons.mpr ⟨iw_15, List.forall_mem_cons.mpr ⟨iw_14, List.forall_mem_cons.mpr ⟨iw_13, List.forall_mem_cons.mpr ⟨iw_12, List.forall_mem_cons.mpr ⟨iw_743, List.forall_mem_cons.mpr ⟨iw_1, List.forall_mem_cons.mpr ⟨iw_48, List.forall_mem_cons.mpr ⟨iw_5, List.forall_mem_cons.mpr ⟨iw_47, List.forall_mem_cons.mpr ⟨iw_3, List.forall_mem_cons.mpr ⟨iw_41, List.forall_mem_cons.mpr ⟨iw_40, List.forall_mem_cons.mpr ⟨iw_39, List.forall_mem_cons.mpr ⟨iw_38, List.forall_mem_cons.mpr ⟨iw_750, List.forall_mem_cons.mpr ⟨iw_749, List.forall_mem_cons.mpr ⟨iw_748, List.forall_mem_cons.mpr ⟨iw_747, (fun _ h => absurd h List.not_mem_nil)⟩⟩⟩⟩⟩⟩⟩⟩⟩⟩⟩⟩⟩⟩⟩⟩⟩⟩⟩⟩⟩⟩⟩⟩
theorem iw_751 : (Cond.code yX4_write cX4_write 3 none) ∈ lw_tbl := it4 (List.mem_of_getElem? (i := 6) rfl)
theorem iw_752 : (Cond.selects RX4 yX4_write yX4_write) ∈ lw_tbl := it4 (List.mem_of_getElem? (i := 5) rfl)
theorem iw_753 : (Cond.instanceMethod yX4_write) ∈ lw_tbl := it4 (List.mem_of_getElem? (i := 4) rfl)
theorem iw_754 : (Cond.methodLink RX9 267 yX4_write) ∈ lw_tbl := it4 (List.mem_of_getElem? (i := 3) rfl)
theorem inw_wsX9_put_r2 : ∀ w ∈ wsX9_put_r2, w ∈ lw_tbl := List.forall_mem_cons.mpr ⟨iw_42, List.forall_mem_cons.mpr ⟨iw_754, List.forall_mem_cons.mpr ⟨iw_753, List.forall_mem_cons.mpr ⟨iw_752, List.forall_mem_cons.mpr ⟨iw_751, List.forall_mem_cons.mpr ⟨iw_740, (fun _ h => absurd h List.not_mem_nil)⟩⟩⟩⟩⟩⟩
theorem inw_wsX9_put : ∀ w ∈ wsX9_put, w ∈ lw_tbl := List.forall_mem_cons.mpr ⟨iw_746, List.forall_mem_append.mpr ⟨List.forall_mem_append.mpr ⟨List.forall_mem_append.mpr ⟨inw_wsX9_put_r1, inw_wsX9_put_r2⟩, inb_X9⟩, inb_X4⟩⟩
theorem iw_755 : (Cond.code yX10_put cX10_put 4 (some .int)) ∈ lw_tbl := it5 (List.mem_of_getElem? (i := 208) rfl)
theorem inw_wsX10_put : ∀ w ∈ wsX10_put, w ∈ lw_tbl := List.forall_mem_cons.mpr ⟨iw_755, List.forall_mem_append.mpr ⟨List.forall_mem_cons.mpr ⟨iw_163, List.forall_mem_cons.mpr ⟨iw_162, List.forall_mem_cons.mpr ⟨iw_161, List.forall_mem_cons.mpr ⟨iw_183, List.forall_mem_cons.mpr ⟨iw_158, List.forall_mem_cons.mpr ⟨iw_157, List.forall_mem_cons.mpr ⟨iw_156, List.forall_mem_cons.mpr ⟨iw_155, List.forall_mem_cons.mpr ⟨iw_154, List.forall_mem_cons.mpr ⟨iw_153, List.forall_mem_cons.mpr ⟨iw_152, List.forall_mem_cons.mpr ⟨iw_148, List.forall_mem_cons.mpr ⟨iw_147, List.forall_mem_cons.mpr ⟨iw_146, List.forall_mem_cons.mpr ⟨iw_145, (fun _ h => absurd h List.not_mem_nil)⟩⟩⟩⟩⟩⟩⟩⟩⟩⟩⟩⟩⟩⟩⟩, inb_X10⟩⟩
theorem iw_756 : (Cond.code yX9_cell cX9_cell 6 (some .long)) ∈ lw_tbl := it4 (List.mem_of_getElem? (i := 10) rfl)
theorem iw_757 : (Cond.fieldLink RX9 273 "ShortProofs$Sheet" "cells" "[I") ∈ lw_tbl := it1 (List.mem_of_getElem? (i := 92) rfl)
theorem inw_wsX9_cell_r1 : ∀ w ∈ wsX9_cell_r1, w ∈ lw_tbl := List.forall_mem_cons.mpr ⟨iw_12, List.forall_mem_cons.mpr ⟨iw_646, List.forall_mem_cons.mpr ⟨iw_24, List.forall_mem_cons.mpr ⟨iw_757, List.forall_mem_cons.mpr ⟨iw_20, List.forall_mem_cons.mpr ⟨iw_19, List.forall_mem_cons.mpr ⟨iw_18, List.forall_mem_cons.mpr ⟨iw_17, List.forall_mem_cons.mpr ⟨iw_11, List.forall_mem_cons.mpr ⟨iw_10, List.forall_mem_cons.mpr ⟨iw_9, List.forall_mem_cons.mpr ⟨iw_8, List.forall_mem_cons.mpr ⟨iw_7, List.forall_mem_cons.mpr ⟨iw_6, List.forall_mem_cons.mpr ⟨iw_5, List.forall_mem_cons.mpr ⟨iw_4, List.forall_mem_cons.mpr ⟨iw_3, List.forall_mem_cons.mpr ⟨iw_2, List.forall_mem_cons.mpr ⟨iw_1, List.forall_mem_cons.mpr ⟨iw_48, List.forall_mem_cons.mpr ⟨iw_47, List.forall_mem_cons.mpr ⟨iw_750, List.forall_mem_cons.mpr ⟨iw_749, List.forall_mem_cons.mpr ⟨iw_748, (fun _ h => absurd h List.not_mem_nil)⟩⟩⟩⟩⟩⟩⟩⟩⟩⟩⟩⟩⟩⟩⟩⟩⟩⟩⟩⟩⟩⟩⟩⟩
theorem inw_wsX9_cell_r2 : ∀ w ∈ wsX9_cell_r2, w ∈ lw_tbl := List.forall_mem_cons.mpr ⟨iw_747, List.forall_mem_cons.mpr ⟨iw_42, (fun _ h => absurd h List.not_mem_nil)⟩⟩
theorem inw_wsX9_cell : ∀ w ∈ wsX9_cell, w ∈ lw_tbl := List.forall_mem_cons.mpr ⟨iw_756, List.forall_mem_append.mpr ⟨List.forall_mem_append.mpr ⟨List.forall_mem_append.mpr ⟨inw_wsX9_cell_r1, inw_wsX9_cell_r2⟩, inb_X9⟩, inb_X4⟩⟩
theorem iw_758 : (Cond.code yX10_cell cX10_cell 4 (some .long)) ∈ lw_tbl := it5 (List.mem_of_getElem? (i := 212) rfl)
theorem iw_759 : (Cond.code yX10_lost cX10_lost 2 (some .long)) ∈ lw_tbl := it5 (List.mem_of_getElem? (i := 216) rfl)
theorem iw_760 : (Cond.selects RX10 yX10_lost yX10_lost) ∈ lw_tbl := its (List.mem_of_getElem? (i := 71) rfl)
theorem iw_761 : (Cond.instanceMethod yX10_lost) ∈ lw_tbl := it5 (List.mem_of_getElem? (i := 215) rfl)
theorem iw_762 : (Cond.methodLink RX10 285 yX10_lost) ∈ lw_tbl := it5 (List.mem_of_getElem? (i := 213) rfl)
theorem inw_wsX10_cell : ∀ w ∈ wsX10_cell, w ∈ lw_tbl := List.forall_mem_cons.mpr ⟨iw_758, List.forall_mem_append.mpr ⟨List.forall_mem_cons.mpr ⟨iw_163, List.forall_mem_cons.mpr ⟨iw_664, List.forall_mem_cons.mpr ⟨iw_162, List.forall_mem_cons.mpr ⟨iw_161, List.forall_mem_cons.mpr ⟨iw_183, List.forall_mem_cons.mpr ⟨iw_158, List.forall_mem_cons.mpr ⟨iw_157, List.forall_mem_cons.mpr ⟨iw_156, List.forall_mem_cons.mpr ⟨iw_155, List.forall_mem_cons.mpr ⟨iw_154, List.forall_mem_cons.mpr ⟨iw_153, List.forall_mem_cons.mpr ⟨iw_152, List.forall_mem_cons.mpr ⟨iw_151, List.forall_mem_cons.mpr ⟨iw_150, List.forall_mem_cons.mpr ⟨iw_149, List.forall_mem_cons.mpr ⟨iw_762, List.forall_mem_cons.mpr ⟨iw_761, List.forall_mem_cons.mpr ⟨iw_760, List.forall_mem_cons.mpr ⟨iw_759, (fun _ h => absurd h List.not_mem_nil)⟩⟩⟩⟩⟩⟩⟩⟩⟩⟩⟩⟩⟩⟩⟩⟩⟩⟩⟩, inb_X10⟩⟩
theorem iw_763 : (Cond.code yX9_copy cX9_copy 8 (some .int)) ∈ lw_tbl := it4 (List.mem_of_getElem? (i := 14) rfl)
theorem iw_764 : (Cond.methodLink RX9 276 arraycopyName) ∈ lw_tbl := it4 (List.mem_of_getElem? (i := 15) rfl)
theorem inw_wsX9_copy_r1 : ∀ w ∈ wsX9_copy_r1, w ∈ lw_tbl := List.forall_mem_cons.mpr ⟨iw_24, List.forall_mem_cons.mpr ⟨iw_744, List.forall_mem_cons.mpr ⟨iw_757, List.forall_mem_cons.mpr ⟨iw_764, List.forall_mem_cons.mpr ⟨iw_29, List.forall_mem_cons.mpr ⟨iw_28, List.forall_mem_cons.mpr ⟨iw_27, List.forall_mem_cons.mpr ⟨iw_20, List.forall_mem_cons.mpr ⟨iw_19, List.forall_mem_cons.mpr ⟨iw_18, List.forall_mem_cons.mpr ⟨iw_17, List.forall_mem_cons.mpr ⟨iw_16, List.forall_mem_cons.mpr ⟨iw_15, List.forall_mem_cons.mpr ⟨iw_14, List.forall_mem_cons.mpr ⟨iw_13, List.forall_mem_cons.mpr ⟨iw_12, List.forall_mem_cons.mpr ⟨iw_743, List.forall_mem_cons.mpr ⟨iw_1, List.forall_mem_cons.mpr ⟨iw_48, List.forall_mem_cons.mpr ⟨iw_5, List.forall_mem_cons.mpr ⟨iw_47, List.forall_mem_cons.mpr ⟨iw_3, List.forall_mem_cons.mpr ⟨iw_41, List.forall_mem_cons.mpr ⟨iw_40, (fun _ h => absurd h List.not_mem_nil)⟩⟩⟩⟩⟩⟩⟩⟩⟩⟩⟩⟩⟩⟩⟩⟩⟩⟩⟩⟩⟩⟩⟩⟩
theorem inw_wsX9_copy_r2 : ∀ w ∈ wsX9_copy_r2, w ∈ lw_tbl := List.forall_mem_cons.mpr ⟨iw_39, List.forall_mem_cons.mpr ⟨iw_38, List.forall_mem_cons.mpr ⟨iw_46, List.forall_mem_cons.mpr ⟨iw_45, List.forall_mem_cons.mpr ⟨iw_44, List.forall_mem_cons.mpr ⟨iw_43, List.forall_mem_cons.mpr ⟨iw_42, (fun _ h => absurd h List.not_mem_nil)⟩⟩⟩⟩⟩⟩⟩
theorem inw_wsX9_copy : ∀ w ∈ wsX9_copy, w ∈ lw_tbl := List.forall_mem_cons.mpr ⟨iw_763, List.forall_mem_append.mpr ⟨List.forall_mem_append.mpr ⟨List.forall_mem_append.mpr ⟨inw_wsX9_copy_r1, inw_wsX9_copy_r2⟩, inb_X9⟩, inb_X4⟩⟩
theorem iw_765 : (Cond.code yX10_copy cX10_copy 10 (some .int)) ∈ lw_tbl := it5 (List.mem_of_getElem? (i := 220) rfl)
theorem inw_wsX10_copy : ∀ w ∈ wsX10_copy, w ∈ lw_tbl := List.forall_mem_cons.mpr ⟨iw_765, List.forall_mem_append.mpr ⟨List.forall_mem_cons.mpr ⟨iw_163, List.forall_mem_cons.mpr ⟨iw_162, List.forall_mem_cons.mpr ⟨iw_161, List.forall_mem_cons.mpr ⟨iw_183, List.forall_mem_cons.mpr ⟨iw_158, List.forall_mem_cons.mpr ⟨iw_157, List.forall_mem_cons.mpr ⟨iw_156, List.forall_mem_cons.mpr ⟨iw_155, List.forall_mem_cons.mpr ⟨iw_154, List.forall_mem_cons.mpr ⟨iw_153, List.forall_mem_cons.mpr ⟨iw_152, List.forall_mem_cons.mpr ⟨iw_148, List.forall_mem_cons.mpr ⟨iw_147, List.forall_mem_cons.mpr ⟨iw_146, List.forall_mem_cons.mpr ⟨iw_145, (fun _ h => absurd h List.not_mem_nil)⟩⟩⟩⟩⟩⟩⟩⟩⟩⟩⟩⟩⟩⟩⟩, inb_X10⟩⟩
theorem iw_766 : (Cond.code yX9_tell cX9_tell 4 (some .int)) ∈ lw_tbl := it4 (List.mem_of_getElem? (i := 19) rfl)
theorem iw_767 : (Cond.methodLink RX9 282 yX9_toldAsGround) ∈ lw_tbl := it4 (List.mem_of_getElem? (i := 20) rfl)
theorem inw_wsX9_tell_r1 : ∀ w ∈ wsX9_tell_r1, w ∈ lw_tbl := List.forall_mem_cons.mpr ⟨iw_126, List.forall_mem_cons.mpr ⟨iw_223, List.forall_mem_cons.mpr ⟨iw_222, List.forall_mem_cons.mpr ⟨iw_221, List.forall_mem_cons.mpr ⟨iw_18, List.forall_mem_cons.mpr ⟨iw_220, List.forall_mem_cons.mpr ⟨iw_219, List.forall_mem_cons.mpr ⟨iw_218, List.forall_mem_cons.mpr ⟨iw_217, List.forall_mem_cons.mpr ⟨iw_216, List.forall_mem_cons.mpr ⟨iw_215, List.forall_mem_cons.mpr ⟨iw_127, List.forall_mem_cons.mpr ⟨iw_214, List.forall_mem_cons.mpr ⟨iw_213, List.forall_mem_cons.mpr ⟨iw_212, List.forall_mem_cons.mpr ⟨iw_64, List.forall_mem_cons.mpr ⟨iw_211, List.forall_mem_cons.mpr ⟨iw_62, List.forall_mem_cons.mpr ⟨iw_210, List.forall_mem_cons.mpr ⟨iw_209, List.forall_mem_cons.mpr ⟨iw_229, List.forall_mem_cons.mpr ⟨iw_228, List.forall_mem_cons.mpr ⟨iw_118, List.forall_mem_cons.mpr ⟨iw_767, (fun _ h => absurd h List.not_mem_nil)⟩⟩⟩⟩⟩⟩⟩⟩⟩⟩⟩⟩⟩⟩⟩⟩⟩⟩⟩⟩⟩⟩⟩⟩
theorem iw_768 : (Cond.code yX9_toldAsEnd cX9_toldAsEnd 4 (some .int)) ∈ lw_tbl := it4 (List.mem_of_getElem? (i := 35) rfl)
theorem iw_769 : (Cond.selects RX9 yX9_toldAsEnd yX9_toldAsEnd) ∈ lw_tbl := its (List.mem_of_getElem? (i := 30) rfl)
theorem iw_770 : (Cond.instanceMethod yX9_toldAsEnd) ∈ lw_tbl := it4 (List.mem_of_getElem? (i := 34) rfl)
theorem iw_771 : (Cond.methodLink RX9 288 yX9_toldAsEnd) ∈ lw_tbl := it4 (List.mem_of_getElem? (i := 32) rfl)
theorem iw_772 : (Cond.code yX9_toldAsCut cX9_toldAsCut 3 (some .int)) ∈ lw_tbl := it4 (List.mem_of_getElem? (i := 31) rfl)
theorem iw_773 : (Cond.selects RX9 yX9_toldAsCut yX9_toldAsCut) ∈ lw_tbl := its (List.mem_of_getElem? (i := 29) rfl)
theorem iw_774 : (Cond.instanceMethod yX9_toldAsCut) ∈ lw_tbl := it4 (List.mem_of_getElem? (i := 30) rfl)
theorem iw_775 : (Cond.methodLink RX9 285 yX9_toldAsCut) ∈ lw_tbl := it4 (List.mem_of_getElem? (i := 28) rfl)
theorem iw_776 : (Cond.fieldLink RX9 295 "ShortProofs" "traced" "I") ∈ lw_tbl := it1 (List.mem_of_getElem? (i := 220) rfl)
theorem iw_777 : (Cond.code yX9_leave cX9_leave 2 none) ∈ lw_tbl := it4 (List.mem_of_getElem? (i := 27) rfl)
theorem iw_778 : (Cond.selects RX9 yX9_leave yX9_leave) ∈ lw_tbl := its (List.mem_of_getElem? (i := 28) rfl)
theorem iw_779 : (Cond.instanceMethod yX9_leave) ∈ lw_tbl := it4 (List.mem_of_getElem? (i := 26) rfl)
theorem iw_780 : (Cond.methodLink RX9 291 yX9_leave) ∈ lw_tbl := it4 (List.mem_of_getElem? (i := 24) rfl)
theorem iw_781 : (Cond.code yX9_toldAsGround cX9_toldAsGround 3 (some .int)) ∈ lw_tbl := it4 (List.mem_of_getElem? (i := 23) rfl)
theorem iw_782 : (Cond.selects RX9 yX9_toldAsGround yX9_toldAsGround) ∈ lw_tbl := its (List.mem_of_getElem? (i := 27) rfl)
theorem iw_783 : (Cond.instanceMethod yX9_toldAsGround) ∈ lw_tbl := it4 (List.mem_of_getElem? (i := 22) rfl)
theorem inw_wsX9_tell_r2 : ∀ w ∈ wsX9_tell_r2, w ∈ lw_tbl := List.forall_mem_cons.mpr ⟨iw_783, List.forall_mem_cons.mpr ⟨iw_782, List.forall_mem_cons.mpr ⟨iw_781, List.forall_mem_cons.mpr ⟨iw_227, List.forall_mem_cons.mpr ⟨iw_780, List.forall_mem_cons.mpr ⟨iw_779, List.forall_mem_cons.mpr ⟨iw_778, List.forall_mem_cons.mpr ⟨iw_777, List.forall_mem_cons.mpr ⟨iw_776, List.forall_mem_cons.mpr ⟨iw_775, List.forall_mem_cons.mpr ⟨iw_774, List.forall_mem_cons.mpr ⟨iw_773, List.forall_mem_cons.mpr ⟨iw_772, List.forall_mem_cons.mpr ⟨iw_226, List.forall_mem_cons.mpr ⟨iw_225, List.forall_mem_cons.mpr ⟨iw_771, List.forall_mem_cons.mpr ⟨iw_770, List.forall_mem_cons.mpr ⟨iw_769, List.forall_mem_cons.mpr ⟨iw_768, (fun _ h => absurd h List.not_mem_nil)⟩⟩⟩⟩⟩⟩⟩⟩⟩⟩⟩⟩⟩⟩⟩⟩⟩⟩⟩
theorem inw_wsX9_tell : ∀ w ∈ wsX9_tell, w ∈ lw_tbl := List.forall_mem_cons.mpr ⟨iw_766, List.forall_mem_append.mpr ⟨List.forall_mem_append.mpr ⟨List.forall_mem_append.mpr ⟨inw_wsX9_tell_r1, inw_wsX9_tell_r2⟩, inb_X9⟩, inb_X2⟩⟩
theorem iw_784 : (Cond.code yX10_tell cX10_tell 4 (some .int)) ∈ lw_tbl := it5 (List.mem_of_getElem? (i := 224) rfl)
theorem iw_785 : (Cond.fieldLink RX10 288 "ShortProofsModel" "trace" "I") ∈ lw_tbl := it4 (List.mem_of_getElem? (i := 63) rfl)
theorem iw_786 : (Cond.code yX10_begins cX10_begins 2 none) ∈ lw_tbl := it5 (List.mem_of_getElem? (i := 228) rfl)
theorem iw_787 : (Cond.selects RX10 yX10_begins yX10_begins) ∈ lw_tbl := its (List.mem_of_getElem? (i := 72) rfl)
theorem iw_788 : (Cond.instanceMethod yX10_begins) ∈ lw_tbl := it5 (List.mem_of_getElem? (i := 227) rfl)
theorem iw_789 : (Cond.methodLink RX10 291 yX10_begins) ∈ lw_tbl := it5 (List.mem_of_getElem? (i := 225) rfl)
theorem inw_wsX10_tell : ∀ w ∈ wsX10_tell, w ∈ lw_tbl := List.forall_mem_cons.mpr ⟨iw_784, List.forall_mem_append.mpr ⟨List.forall_mem_cons.mpr ⟨iw_191, List.forall_mem_cons.mpr ⟨iw_190, List.forall_mem_cons.mpr ⟨iw_189, List.forall_mem_cons.mpr ⟨iw_242, List.forall_mem_cons.mpr ⟨iw_241, List.forall_mem_cons.mpr ⟨iw_240, List.forall_mem_cons.mpr ⟨iw_156, List.forall_mem_cons.mpr ⟨iw_239, List.forall_mem_cons.mpr ⟨iw_192, List.forall_mem_cons.mpr ⟨iw_238, List.forall_mem_cons.mpr ⟨iw_237, List.forall_mem_cons.mpr ⟨iw_236, List.forall_mem_cons.mpr ⟨iw_235, List.forall_mem_cons.mpr ⟨iw_193, List.forall_mem_cons.mpr ⟨iw_234, List.forall_mem_cons.mpr ⟨iw_233, List.forall_mem_cons.mpr ⟨iw_232, List.forall_mem_cons.mpr ⟨iw_231, List.forall_mem_cons.mpr ⟨iw_188, List.forall_mem_cons.mpr ⟨iw_789, List.forall_mem_cons.mpr ⟨iw_788, List.forall_mem_cons.mpr ⟨iw_787, List.forall_mem_cons.mpr ⟨iw_786, List.forall_mem_cons.mpr ⟨iw_785, (fun _ h => absurd h List.not_mem_nil)⟩⟩⟩⟩⟩⟩⟩⟩⟩⟩⟩⟩⟩⟩⟩⟩⟩⟩⟩⟩⟩⟩⟩⟩, inb_X10⟩⟩
theorem iw_790 : (Cond.code yX9_show cX9_show 3 (some .int)) ∈ lw_tbl := it4 (List.mem_of_getElem? (i := 39) rfl)
theorem inw_wsX9_show_r1 : ∀ w ∈ wsX9_show_r1, w ∈ lw_tbl := List.forall_mem_cons.mpr ⟨iw_126, List.forall_mem_cons.mpr ⟨iw_223, List.forall_mem_cons.mpr ⟨iw_222, List.forall_mem_cons.mpr ⟨iw_221, List.forall_mem_cons.mpr ⟨iw_18, List.forall_mem_cons.mpr ⟨iw_220, List.forall_mem_cons.mpr ⟨iw_219, List.forall_mem_cons.mpr ⟨iw_218, List.forall_mem_cons.mpr ⟨iw_217, List.forall_mem_cons.mpr ⟨iw_216, List.forall_mem_cons.mpr ⟨iw_215, List.forall_mem_cons.mpr ⟨iw_127, List.forall_mem_cons.mpr ⟨iw_214, List.forall_mem_cons.mpr ⟨iw_213, List.forall_mem_cons.mpr ⟨iw_212, List.forall_mem_cons.mpr ⟨iw_64, List.forall_mem_cons.mpr ⟨iw_211, List.forall_mem_cons.mpr ⟨iw_62, List.forall_mem_cons.mpr ⟨iw_210, List.forall_mem_cons.mpr ⟨iw_209, List.forall_mem_cons.mpr ⟨iw_229, List.forall_mem_cons.mpr ⟨iw_228, List.forall_mem_cons.mpr ⟨iw_118, List.forall_mem_cons.mpr ⟨iw_780, (fun _ h => absurd h List.not_mem_nil)⟩⟩⟩⟩⟩⟩⟩⟩⟩⟩⟩⟩⟩⟩⟩⟩⟩⟩⟩⟩⟩⟩⟩⟩
theorem inw_wsX9_show_r2 : ∀ w ∈ wsX9_show_r2, w ∈ lw_tbl := List.forall_mem_cons.mpr ⟨iw_779, List.forall_mem_cons.mpr ⟨iw_778, List.forall_mem_cons.mpr ⟨iw_777, List.forall_mem_cons.mpr ⟨iw_776, (fun _ h => absurd h List.not_mem_nil)⟩⟩⟩⟩
theorem inw_wsX9_show : ∀ w ∈ wsX9_show, w ∈ lw_tbl := List.forall_mem_cons.mpr ⟨iw_790, List.forall_mem_append.mpr ⟨List.forall_mem_append.mpr ⟨List.forall_mem_append.mpr ⟨inw_wsX9_show_r1, inw_wsX9_show_r2⟩, inb_X9⟩, inb_X2⟩⟩
theorem iw_791 : (Cond.code yX10_show cX10_show 3 (some .int)) ∈ lw_tbl := it5 (List.mem_of_getElem? (i := 232) rfl)
theorem inw_wsX10_show : ∀ w ∈ wsX10_show, w ∈ lw_tbl := List.forall_mem_cons.mpr ⟨iw_791, List.forall_mem_append.mpr ⟨List.forall_mem_cons.mpr ⟨iw_242, List.forall_mem_cons.mpr ⟨iw_241, List.forall_mem_cons.mpr ⟨iw_240, List.forall_mem_cons.mpr ⟨iw_156, List.forall_mem_cons.mpr ⟨iw_239, List.forall_mem_cons.mpr ⟨iw_192, List.forall_mem_cons.mpr ⟨iw_238, List.forall_mem_cons.mpr ⟨iw_237, List.forall_mem_cons.mpr ⟨iw_236, List.forall_mem_cons.mpr ⟨iw_235, List.forall_mem_cons.mpr ⟨iw_193, List.forall_mem_cons.mpr ⟨iw_234, List.forall_mem_cons.mpr ⟨iw_233, List.forall_mem_cons.mpr ⟨iw_232, List.forall_mem_cons.mpr ⟨iw_231, List.forall_mem_cons.mpr ⟨iw_188, List.forall_mem_cons.mpr ⟨iw_789, List.forall_mem_cons.mpr ⟨iw_788, List.forall_mem_cons.mpr ⟨iw_787, List.forall_mem_cons.mpr ⟨iw_786, List.forall_mem_cons.mpr ⟨iw_785, (fun _ h => absurd h List.not_mem_nil)⟩⟩⟩⟩⟩⟩⟩⟩⟩⟩⟩⟩⟩⟩⟩⟩⟩⟩⟩⟩⟩, inb_X10⟩⟩
theorem iw_792 : (Cond.code yX9_as cX9_as 4 (some .int)) ∈ lw_tbl := it4 (List.mem_of_getElem? (i := 43) rfl)
theorem inw_wsX9_as_r1 : ∀ w ∈ wsX9_as_r1, w ∈ lw_tbl := List.forall_mem_cons.mpr ⟨iw_126, List.forall_mem_cons.mpr ⟨iw_223, List.forall_mem_cons.mpr ⟨iw_222, List.forall_mem_cons.mpr ⟨iw_221, List.forall_mem_cons.mpr ⟨iw_18, List.forall_mem_cons.mpr ⟨iw_220, List.forall_mem_cons.mpr ⟨iw_219, List.forall_mem_cons.mpr ⟨iw_218, List.forall_mem_cons.mpr ⟨iw_217, List.forall_mem_cons.mpr ⟨iw_216, List.forall_mem_cons.mpr ⟨iw_215, List.forall_mem_cons.mpr ⟨iw_127, List.forall_mem_cons.mpr ⟨iw_16, List.forall_mem_cons.mpr ⟨iw_15, List.forall_mem_cons.mpr ⟨iw_14, List.forall_mem_cons.mpr ⟨iw_13, List.forall_mem_cons.mpr ⟨iw_12, List.forall_mem_cons.mpr ⟨iw_214, List.forall_mem_cons.mpr ⟨iw_213, List.forall_mem_cons.mpr ⟨iw_212, List.forall_mem_cons.mpr ⟨iw_64, List.forall_mem_cons.mpr ⟨iw_211, List.forall_mem_cons.mpr ⟨iw_62, List.forall_mem_cons.mpr ⟨iw_210, (fun _ h => absurd h List.not_mem_nil)⟩⟩⟩⟩⟩⟩⟩⟩⟩⟩⟩⟩⟩⟩⟩⟩⟩⟩⟩⟩⟩⟩⟩⟩
theorem inw_wsX9_as_r2 : ∀ w ∈ wsX9_as_r2, w ∈ lw_tbl := List.forall_mem_cons.mpr ⟨iw_209, List.forall_mem_cons.mpr ⟨iw_229, List.forall_mem_cons.mpr ⟨iw_228, List.forall_mem_cons.mpr ⟨iw_118, List.forall_mem_cons.mpr ⟨iw_41, List.forall_mem_cons.mpr ⟨iw_40, List.forall_mem_cons.mpr ⟨iw_39, List.forall_mem_cons.mpr ⟨iw_38, (fun _ h => absurd h List.not_mem_nil)⟩⟩⟩⟩⟩⟩⟩⟩
theorem inw_wsX9_as : ∀ w ∈ wsX9_as, w ∈ lw_tbl := List.forall_mem_cons.mpr ⟨iw_792, List.forall_mem_append.mpr ⟨List.forall_mem_append.mpr ⟨List.forall_mem_append.mpr ⟨inw_wsX9_as_r1, inw_wsX9_as_r2⟩, inb_X9⟩, inb_X2⟩⟩
theorem iw_793 : (Cond.code yX10_as cX10_as 4 (some .int)) ∈ lw_tbl := it5 (List.mem_of_getElem? (i := 236) rfl)
theorem inw_wsX10_as : ∀ w ∈ wsX10_as, w ∈ lw_tbl := List.forall_mem_cons.mpr ⟨iw_793, List.forall_mem_append.mpr ⟨List.forall_mem_cons.mpr ⟨iw_163, List.forall_mem_cons.mpr ⟨iw_242, List.forall_mem_cons.mpr ⟨iw_241, List.forall_mem_cons.mpr ⟨iw_240, List.forall_mem_cons.mpr ⟨iw_156, List.forall_mem_cons.mpr ⟨iw_239, List.forall_mem_cons.mpr ⟨iw_192, List.forall_mem_cons.mpr ⟨iw_238, List.forall_mem_cons.mpr ⟨iw_237, List.forall_mem_cons.mpr ⟨iw_236, List.forall_mem_cons.mpr ⟨iw_235, List.forall_mem_cons.mpr ⟨iw_193, List.forall_mem_cons.mpr ⟨iw_154, List.forall_mem_cons.mpr ⟨iw_153, List.forall_mem_cons.mpr ⟨iw_152, List.forall_mem_cons.mpr ⟨iw_234, List.forall_mem_cons.mpr ⟨iw_233, List.forall_mem_cons.mpr ⟨iw_232, List.forall_mem_cons.mpr ⟨iw_231, List.forall_mem_cons.mpr ⟨iw_188, List.forall_mem_cons.mpr ⟨iw_148, List.forall_mem_cons.mpr ⟨iw_147, List.forall_mem_cons.mpr ⟨iw_146, List.forall_mem_cons.mpr ⟨iw_145, (fun _ h => absurd h List.not_mem_nil)⟩⟩⟩⟩⟩⟩⟩⟩⟩⟩⟩⟩⟩⟩⟩⟩⟩⟩⟩⟩⟩⟩⟩⟩, inb_X10⟩⟩
theorem iw_794 : (Cond.code yX9_trace cX9_trace 1 (some .int)) ∈ lw_tbl := it4 (List.mem_of_getElem? (i := 47) rfl)
theorem inw_wsX9_trace : ∀ w ∈ wsX9_trace, w ∈ lw_tbl := List.forall_mem_cons.mpr ⟨iw_794, List.forall_mem_append.mpr ⟨List.forall_mem_cons.mpr ⟨iw_776, (fun _ h => absurd h List.not_mem_nil)⟩, inb_X9⟩⟩
theorem iw_795 : (Cond.code yX10_trace cX10_trace 1 (some .int)) ∈ lw_tbl := it6 (List.mem_of_getElem? (i := 0) rfl)
theorem inw_wsX10_trace : ∀ w ∈ wsX10_trace, w ∈ lw_tbl := List.forall_mem_cons.mpr ⟨iw_795, List.forall_mem_append.mpr ⟨List.forall_mem_cons.mpr ⟨iw_785, (fun _ h => absurd h List.not_mem_nil)⟩, inb_X10⟩⟩
theorem iw_796 : (Cond.code yX9_fault cX9_fault 1 (some .int)) ∈ lw_tbl := it4 (List.mem_of_getElem? (i := 51) rfl)
theorem inw_wsX9_fault : ∀ w ∈ wsX9_fault, w ∈ lw_tbl := List.forall_mem_cons.mpr ⟨iw_796, List.forall_mem_append.mpr ⟨List.forall_mem_cons.mpr ⟨iw_12, (fun _ h => absurd h List.not_mem_nil)⟩, inb_X9⟩⟩
theorem iw_797 : (Cond.code yX10_fault cX10_fault 1 (some .int)) ∈ lw_tbl := it6 (List.mem_of_getElem? (i := 4) rfl)
theorem inw_wsX10_fault : ∀ w ∈ wsX10_fault, w ∈ lw_tbl := List.forall_mem_cons.mpr ⟨iw_797, List.forall_mem_append.mpr ⟨List.forall_mem_cons.mpr ⟨iw_163, (fun _ h => absurd h List.not_mem_nil)⟩, inb_X10⟩⟩
theorem iw_798 : (Cond.code yX9_many cX9_many 4 (some .int)) ∈ lw_tbl := it4 (List.mem_of_getElem? (i := 55) rfl)
theorem inw_wsX9_many : ∀ w ∈ wsX9_many, w ∈ lw_tbl := List.forall_mem_cons.mpr ⟨iw_798, List.forall_mem_append.mpr ⟨List.forall_mem_append.mpr ⟨List.forall_mem_cons.mpr ⟨iw_127, List.forall_mem_cons.mpr ⟨iw_126, List.forall_mem_cons.mpr ⟨iw_219, (fun _ h => absurd h List.not_mem_nil)⟩⟩⟩, inb_X9⟩, inb_X2⟩⟩
theorem iw_799 : (Cond.code yX10_many cX10_many 4 (some .int)) ∈ lw_tbl := it6 (List.mem_of_getElem? (i := 8) rfl)
theorem inw_wsX10_many : ∀ w ∈ wsX10_many, w ∈ lw_tbl := List.forall_mem_cons.mpr ⟨iw_799, List.forall_mem_append.mpr ⟨List.forall_mem_cons.mpr ⟨iw_193, List.forall_mem_cons.mpr ⟨iw_192, (fun _ h => absurd h List.not_mem_nil)⟩⟩, inb_X10⟩⟩
theorem iw_800 : (Cond.code yX9_init cX9_init 2 none) ∈ lw_tbl := it1 (List.mem_of_getElem? (i := 20) rfl)
theorem iw_801 : (Cond.classLink RX9 46 RX5) ∈ lw_tbl := it1 (List.mem_of_getElem? (i := 171) rfl)
theorem iw_802 : (Cond.instantiable RX1 7) ∈ lw_tbl := it1 (List.mem_of_getElem? (i := 140) rfl)
theorem iw_803 : (Cond.classLink RX9 39 RX1) ∈ lw_tbl := it1 (List.mem_of_getElem? (i := 139) rfl)
theorem iw_804 : (Cond.instantiable RX6 2) ∈ lw_tbl := it1 (List.mem_of_getElem? (i := 127) rfl)
theorem iw_805 : (Cond.classLink RX9 32 RX6) ∈ lw_tbl := it1 (List.mem_of_getElem? (i := 126) rfl)
theorem iw_806 : (Cond.instantiable RX3 4) ∈ lw_tbl := it1 (List.mem_of_getElem? (i := 104) rfl)
theorem iw_807 : (Cond.classLink RX9 25 RX3) ∈ lw_tbl := it1 (List.mem_of_getElem? (i := 103) rfl)
theorem iw_808 : (Cond.instantiable RX4 3) ∈ lw_tbl := it1 (List.mem_of_getElem? (i := 85) rfl)
theorem iw_809 : (Cond.classLink RX9 18 RX4) ∈ lw_tbl := it1 (List.mem_of_getElem? (i := 83) rfl)
theorem iw_810 : (Cond.instantiable RX2 7) ∈ lw_tbl := it1 (List.mem_of_getElem? (i := 26) rfl)
theorem iw_811 : (Cond.classLink RX9 11 RX2) ∈ lw_tbl := it1 (List.mem_of_getElem? (i := 24) rfl)
theorem iw_812 : (Cond.code objectInit ⟨#[0xb1]⟩ 1 none) ∈ lw_tbl := it1 (List.mem_of_getElem? (i := 23) rfl)
theorem iw_813 : (Cond.instanceMethod objectInit) ∈ lw_tbl := it1 (List.mem_of_getElem? (i := 22) rfl)
theorem iw_814 : (Cond.methodLink RX9 5 objectInit) ∈ lw_tbl := it1 (List.mem_of_getElem? (i := 21) rfl)
theorem inw_wsX9_init_r1 : ∀ w ∈ wsX9_init_r1, w ∈ lw_tbl := List.forall_mem_cons.mpr ⟨iw_814, List.forall_mem_cons.mpr ⟨iw_813, List.forall_mem_cons.mpr ⟨iw_812, List.forall_mem_cons.mpr ⟨iw_811, List.forall_mem_cons.mpr ⟨iw_126, List.forall_mem_cons.mpr ⟨iw_810, List.forall_mem_cons.mpr ⟨iw_64, List.forall_mem_cons.mpr ⟨iw_809, List.forall_mem_cons.mpr ⟨iw_24, List.forall_mem_cons.mpr ⟨iw_808, List.forall_mem_cons.mpr ⟨iw_5, List.forall_mem_cons.mpr ⟨iw_807, List.forall_mem_cons.mpr ⟨iw_806, List.forall_mem_cons.mpr ⟨iw_34, List.forall_mem_cons.mpr ⟨iw_23, List.forall_mem_cons.mpr ⟨iw_805, List.forall_mem_cons.mpr ⟨iw_804, List.forall_mem_cons.mpr ⟨iw_255, List.forall_mem_cons.mpr ⟨iw_259, List.forall_mem_cons.mpr ⟨iw_803, List.forall_mem_cons.mpr ⟨iw_802, List.forall_mem_cons.mpr ⟨iw_342, List.forall_mem_cons.mpr ⟨iw_336, List.forall_mem_cons.mpr ⟨iw_801, (fun _ h => absurd h List.not_mem_nil)⟩⟩⟩⟩⟩⟩⟩⟩⟩⟩⟩⟩⟩⟩⟩⟩⟩⟩⟩⟩⟩⟩⟩⟩
theorem iw_815 : (Cond.code yX3_init cX3_init 1 none) ∈ lw_tbl := it1 (List.mem_of_getElem? (i := 107) rfl)
theorem iw_816 : (Cond.instanceMethod yX3_init) ∈ lw_tbl := it1 (List.mem_of_getElem? (i := 106) rfl)
theorem iw_817 : (Cond.methodLink RX4 3 objectInit) ∈ lw_tbl := it1 (List.mem_of_getElem? (i := 89) rfl)
theorem iw_818 : (Cond.code yX4_init cX4_init 1 none) ∈ lw_tbl := it1 (List.mem_of_getElem? (i := 88) rfl)
theorem iw_819 : (Cond.instanceMethod yX4_init) ∈ lw_tbl := it1 (List.mem_of_getElem? (i := 87) rfl)
theorem iw_820 : (Cond.arrayClass .int) ∈ lw_tbl := it1 (List.mem_of_getElem? (i := 82) rfl)
theorem iw_821 : (Cond.methodLink RX2 3 objectInit) ∈ lw_tbl := it1 (List.mem_of_getElem? (i := 30) rfl)
theorem iw_822 : (Cond.code yX2_init cX2_init 1 none) ∈ lw_tbl := it1 (List.mem_of_getElem? (i := 29) rfl)
theorem iw_823 : (Cond.instanceMethod yX2_init) ∈ lw_tbl := it1 (List.mem_of_getElem? (i := 28) rfl)
theorem iw_824 : (Cond.instantiable RX8 2) ∈ lw_tbl := it1 (List.mem_of_getElem? (i := 197) rfl)
theorem iw_825 : (Cond.classLink RX9 53 RX8) ∈ lw_tbl := it1 (List.mem_of_getElem? (i := 196) rfl)
theorem iw_826 : (Cond.instantiable RX5 5) ∈ lw_tbl := it1 (List.mem_of_getElem? (i := 172) rfl)
theorem inw_wsX9_init_r2 : ∀ w ∈ wsX9_init_r2, w ∈ lw_tbl := List.forall_mem_cons.mpr ⟨iw_826, List.forall_mem_cons.mpr ⟨iw_429, List.forall_mem_cons.mpr ⟨iw_434, List.forall_mem_cons.mpr ⟨iw_825, List.forall_mem_cons.mpr ⟨iw_824, List.forall_mem_cons.mpr ⟨iw_578, List.forall_mem_cons.mpr ⟨iw_585, List.forall_mem_cons.mpr ⟨iw_337, List.forall_mem_cons.mpr ⟨iw_823, List.forall_mem_cons.mpr ⟨iw_822, List.forall_mem_cons.mpr ⟨iw_821, List.forall_mem_cons.mpr ⟨iw_820, List.forall_mem_cons.mpr ⟨iw_119, List.forall_mem_cons.mpr ⟨iw_118, List.forall_mem_cons.mpr ⟨iw_117, List.forall_mem_cons.mpr ⟨iw_116, List.forall_mem_cons.mpr ⟨iw_115, List.forall_mem_cons.mpr ⟨iw_819, List.forall_mem_cons.mpr ⟨iw_818, List.forall_mem_cons.mpr ⟨iw_817, List.forall_mem_cons.mpr ⟨iw_740, List.forall_mem_cons.mpr ⟨iw_3, List.forall_mem_cons.mpr ⟨iw_816, List.forall_mem_cons.mpr ⟨iw_815, (fun _ h => absurd h List.not_mem_nil)⟩⟩⟩⟩⟩⟩⟩⟩⟩⟩⟩⟩⟩⟩⟩⟩⟩⟩⟩⟩⟩⟩⟩⟩
theorem iw_827 : (Cond.classLink RX5 9 RX2) ∈ lw_tbl := it1 (List.mem_of_getElem? (i := 177) rfl)
theorem iw_828 : (Cond.methodLink RX5 3 objectInit) ∈ lw_tbl := it1 (List.mem_of_getElem? (i := 176) rfl)
theorem iw_829 : (Cond.code yX5_init cX5_init 1 none) ∈ lw_tbl := it1 (List.mem_of_getElem? (i := 175) rfl)
theorem iw_830 : (Cond.instanceMethod yX5_init) ∈ lw_tbl := it1 (List.mem_of_getElem? (i := 174) rfl)
theorem iw_831 : (Cond.arrayClass .byte) ∈ lw_tbl := it1 (List.mem_of_getElem? (i := 170) rfl)
theorem iw_832 : (Cond.methodLink RX1 3 objectInit) ∈ lw_tbl := it1 (List.mem_of_getElem? (i := 144) rfl)
theorem iw_833 : (Cond.code yX1_init cX1_init 1 none) ∈ lw_tbl := it1 (List.mem_of_getElem? (i := 143) rfl)
theorem iw_834 : (Cond.instanceMethod yX1_init) ∈ lw_tbl := it1 (List.mem_of_getElem? (i := 142) rfl)
theorem iw_835 : (Cond.methodLink RX6 3 objectInit) ∈ lw_tbl := it1 (List.mem_of_getElem? (i := 131) rfl)
theorem iw_836 : (Cond.code yX6_init cX6_init 1 none) ∈ lw_tbl := it1 (List.mem_of_getElem? (i := 130) rfl)
theorem iw_837 : (Cond.instanceMethod yX6_init) ∈ lw_tbl := it1 (List.mem_of_getElem? (i := 129) rfl)
theorem iw_838 : (Cond.classLink RX3 15 RX2) ∈ lw_tbl := it1 (List.mem_of_getElem? (i := 109) rfl)
theorem iw_839 : (Cond.methodLink RX3 3 objectInit) ∈ lw_tbl := it1 (List.mem_of_getElem? (i := 108) rfl)
theorem inw_wsX9_init_r3 : ∀ w ∈ wsX9_init_r3, w ∈ lw_tbl := List.forall_mem_cons.mpr ⟨iw_839, List.forall_mem_cons.mpr ⟨iw_31, List.forall_mem_cons.mpr ⟨iw_838, List.forall_mem_cons.mpr ⟨iw_69, List.forall_mem_cons.mpr ⟨iw_837, List.forall_mem_cons.mpr ⟨iw_836, List.forall_mem_cons.mpr ⟨iw_835, List.forall_mem_cons.mpr ⟨iw_268, List.forall_mem_cons.mpr ⟨iw_260, List.forall_mem_cons.mpr ⟨iw_834, List.forall_mem_cons.mpr ⟨iw_833, List.forall_mem_cons.mpr ⟨iw_832, List.forall_mem_cons.mpr ⟨iw_381, List.forall_mem_cons.mpr ⟨iw_370, List.forall_mem_cons.mpr ⟨iw_369, List.forall_mem_cons.mpr ⟨iw_368, List.forall_mem_cons.mpr ⟨iw_831, List.forall_mem_cons.mpr ⟨iw_339, List.forall_mem_cons.mpr ⟨iw_830, List.forall_mem_cons.mpr ⟨iw_829, List.forall_mem_cons.mpr ⟨iw_828, List.forall_mem_cons.mpr ⟨iw_827, List.forall_mem_cons.mpr ⟨iw_427, List.forall_mem_cons.mpr ⟨iw_425, (fun _ h => absurd h List.not_mem_nil)⟩⟩⟩⟩⟩⟩⟩⟩⟩⟩⟩⟩⟩⟩⟩⟩⟩⟩⟩⟩⟩⟩⟩⟩
theorem iw_840 : (Cond.arrayClass .long) ∈ lw_tbl := it1 (List.mem_of_getElem? (i := 209) rfl)
theorem iw_841 : (Cond.methodLink RX8 3 objectInit) ∈ lw_tbl := it1 (List.mem_of_getElem? (i := 201) rfl)
theorem iw_842 : (Cond.code yX8_init cX8_init 1 none) ∈ lw_tbl := it1 (List.mem_of_getElem? (i := 200) rfl)
theorem iw_843 : (Cond.instanceMethod yX8_init) ∈ lw_tbl := it1 (List.mem_of_getElem? (i := 199) rfl)
theorem inw_wsX9_init_r4 : ∀ w ∈ wsX9_init_r4, w ∈ lw_tbl := List.forall_mem_cons.mpr ⟨iw_440, List.forall_mem_cons.mpr ⟨iw_423, List.forall_mem_cons.mpr ⟨iw_843, List.forall_mem_cons.mpr ⟨iw_842, List.forall_mem_cons.mpr ⟨iw_841, List.forall_mem_cons.mpr ⟨iw_840, List.forall_mem_cons.mpr ⟨iw_576, List.forall_mem_cons.mpr ⟨iw_656, (fun _ h => absurd h List.not_mem_nil)⟩⟩⟩⟩⟩⟩⟩⟩
theorem inw_wsX9_init : ∀ w ∈ wsX9_init, w ∈ lw_tbl := List.forall_mem_cons.mpr ⟨iw_800, List.forall_mem_append.mpr ⟨List.forall_mem_append.mpr ⟨List.forall_mem_append.mpr ⟨List.forall_mem_append.mpr ⟨List.forall_mem_append.mpr ⟨List.forall_mem_append.mpr ⟨List.forall_mem_append.mpr ⟨List.forall_mem_append.mpr ⟨List.forall_mem_append.mpr ⟨inw_wsX9_init_r1, List.forall_mem_append.mpr ⟨inw_wsX9_init_r2, List.forall_mem_append.mpr ⟨inw_wsX9_init_r3, inw_wsX9_init_r4⟩⟩⟩, inb_X9⟩, inb_X2⟩, inb_X4⟩, inb_X3⟩, inb_X6⟩, inb_X1⟩, inb_X5⟩, inb_X8⟩⟩
theorem iw_844 : (Cond.code yX10_init cX10_init 1 none) ∈ lw_tbl := it4 (List.mem_of_getElem? (i := 60) rfl)
theorem iw_845 : (Cond.methodLink RX10 1 objectInit) ∈ lw_tbl := it4 (List.mem_of_getElem? (i := 61) rfl)
theorem inw_wsX10_init_r1 : ∀ w ∈ wsX10_init_r1, w ∈ lw_tbl := List.forall_mem_cons.mpr ⟨iw_845, List.forall_mem_cons.mpr ⟨iw_813, List.forall_mem_cons.mpr ⟨iw_812, List.forall_mem_cons.mpr ⟨iw_820, List.forall_mem_cons.mpr ⟨iw_162, List.forall_mem_cons.mpr ⟨iw_161, List.forall_mem_cons.mpr ⟨iw_183, List.forall_mem_cons.mpr ⟨iw_192, List.forall_mem_cons.mpr ⟨iw_191, List.forall_mem_cons.mpr ⟨iw_190, List.forall_mem_cons.mpr ⟨iw_189, List.forall_mem_cons.mpr ⟨iw_188, List.forall_mem_cons.mpr ⟨iw_171, List.forall_mem_cons.mpr ⟨iw_170, List.forall_mem_cons.mpr ⟨iw_169, List.forall_mem_cons.mpr ⟨iw_168, List.forall_mem_cons.mpr ⟨iw_280, List.forall_mem_cons.mpr ⟨iw_397, List.forall_mem_cons.mpr ⟨iw_417, List.forall_mem_cons.mpr ⟨iw_416, List.forall_mem_cons.mpr ⟨iw_399, List.forall_mem_cons.mpr ⟨iw_511, List.forall_mem_cons.mpr ⟨iw_506, List.forall_mem_cons.mpr ⟨iw_538, (fun _ h => absurd h List.not_mem_nil)⟩⟩⟩⟩⟩⟩⟩⟩⟩⟩⟩⟩⟩⟩⟩⟩⟩⟩⟩⟩⟩⟩⟩⟩
theorem inw_wsX10_init_r2 : ∀ w ∈ wsX10_init_r2, w ∈ lw_tbl := List.forall_mem_cons.mpr ⟨iw_840, List.forall_mem_cons.mpr ⟨iw_611, List.forall_mem_cons.mpr ⟨iw_610, List.forall_mem_cons.mpr ⟨iw_663, List.forall_mem_cons.mpr ⟨iw_708, List.forall_mem_cons.mpr ⟨iw_713, (fun _ h => absurd h List.not_mem_nil)⟩⟩⟩⟩⟩⟩
theorem inw_wsX10_init : ∀ w ∈ wsX10_init, w ∈ lw_tbl := List.forall_mem_cons.mpr ⟨iw_844, List.forall_mem_append.mpr ⟨List.forall_mem_append.mpr ⟨inw_wsX10_init_r1, inw_wsX10_init_r2⟩, inb_X10⟩⟩
theorem iw_846 : (Cond.selects RX9 yX9_text yX9_text) ∈ lw_tbl := it2 (List.mem_of_getElem? (i := 6) rfl)
theorem iw_847 : (Cond.instanceMethod yX9_text) ∈ lw_tbl := it2 (List.mem_of_getElem? (i := 5) rfl)
theorem iw_848 : (Cond.methodLink RL 13 yX9_text) ∈ lw_tbl := it2 (List.mem_of_getElem? (i := 4) rfl)
theorem inv_X9_text : ∀ w ∈ wsV RL 13 RX9 yX9_text wsX9_text, w ∈ lw_tbl := List.forall_mem_append.mpr ⟨List.forall_mem_cons.mpr ⟨iw_848, List.forall_mem_cons.mpr ⟨iw_847, List.forall_mem_cons.mpr ⟨iw_846, List.forall_mem_cons.mpr ⟨iw_18, (fun _ h => absurd h List.not_mem_nil)⟩⟩⟩⟩, inw_wsX9_text⟩
theorem gov_X9_text : GoodIn (wsV RL 13 RX9 yX9_text wsX9_text) (wsV RL 13 RX9 yX9_text wsX9_text) := goodIn_sub (fun _ h => h) (by decide +kernel)
theorem iw_849 : (Cond.selects RX10 yX10_text yX10_text) ∈ lw_tbl := it4 (List.mem_of_getElem? (i := 181) rfl)
theorem iw_850 : (Cond.instanceMethod yX10_text) ∈ lw_tbl := it4 (List.mem_of_getElem? (i := 180) rfl)
theorem iw_851 : (Cond.methodLink RL 17 yX10_text) ∈ lw_tbl := it4 (List.mem_of_getElem? (i := 179) rfl)
theorem inv_X10_text : ∀ w ∈ wsV RL 17 RX10 yX10_text wsX10_text, w ∈ lw_tbl := List.forall_mem_append.mpr ⟨List.forall_mem_cons.mpr ⟨iw_851, List.forall_mem_cons.mpr ⟨iw_850, List.forall_mem_cons.mpr ⟨iw_849, List.forall_mem_cons.mpr ⟨iw_156, (fun _ h => absurd h List.not_mem_nil)⟩⟩⟩⟩, inw_wsX10_text⟩
theorem gov_X10_text : GoodIn (wsV RL 17 RX10 yX10_text wsX10_text) (wsV RL 17 RX10 yX10_text wsX10_text) := goodIn_sub (fun _ h => h) (by decide +kernel)
theorem iw_852 : (Cond.selects RX9 yX9_line yX9_line) ∈ lw_tbl := it2 (List.mem_of_getElem? (i := 119) rfl)
theorem iw_853 : (Cond.instanceMethod yX9_line) ∈ lw_tbl := it2 (List.mem_of_getElem? (i := 118) rfl)
theorem iw_854 : (Cond.methodLink RL 18 yX9_line) ∈ lw_tbl := it2 (List.mem_of_getElem? (i := 117) rfl)
theorem inv_X9_line : ∀ w ∈ wsV RL 18 RX9 yX9_line wsX9_line, w ∈ lw_tbl := List.forall_mem_append.mpr ⟨List.forall_mem_cons.mpr ⟨iw_854, List.forall_mem_cons.mpr ⟨iw_853, List.forall_mem_cons.mpr ⟨iw_852, List.forall_mem_cons.mpr ⟨iw_18, (fun _ h => absurd h List.not_mem_nil)⟩⟩⟩⟩, inw_wsX9_line⟩
theorem gov_X9_line : GoodIn (wsV RL 18 RX9 yX9_line wsX9_line) (wsV RL 18 RX9 yX9_line wsX9_line) := goodIn_sub (fun _ h => h) (by decide +kernel)
theorem iw_855 : (Cond.selects RX10 yX10_line yX10_line) ∈ lw_tbl := it4 (List.mem_of_getElem? (i := 226) rfl)
theorem iw_856 : (Cond.instanceMethod yX10_line) ∈ lw_tbl := it4 (List.mem_of_getElem? (i := 225) rfl)
theorem iw_857 : (Cond.methodLink RL 22 yX10_line) ∈ lw_tbl := it4 (List.mem_of_getElem? (i := 224) rfl)
theorem inv_X10_line : ∀ w ∈ wsV RL 22 RX10 yX10_line wsX10_line, w ∈ lw_tbl := List.forall_mem_append.mpr ⟨List.forall_mem_cons.mpr ⟨iw_857, List.forall_mem_cons.mpr ⟨iw_856, List.forall_mem_cons.mpr ⟨iw_855, List.forall_mem_cons.mpr ⟨iw_156, (fun _ h => absurd h List.not_mem_nil)⟩⟩⟩⟩, inw_wsX10_line⟩
theorem gov_X10_line : GoodIn (wsV RL 22 RX10 yX10_line wsX10_line) (wsV RL 22 RX10 yX10_line wsX10_line) := goodIn_sub (fun _ h => h) (by decide +kernel)
theorem iw_858 : (Cond.selects RX9 yX9_size yX9_size) ∈ lw_tbl := it2 (List.mem_of_getElem? (i := 139) rfl)
theorem iw_859 : (Cond.instanceMethod yX9_size) ∈ lw_tbl := it2 (List.mem_of_getElem? (i := 138) rfl)
theorem iw_860 : (Cond.methodLink RL 23 yX9_size) ∈ lw_tbl := it2 (List.mem_of_getElem? (i := 137) rfl)
theorem inv_X9_size : ∀ w ∈ wsV RL 23 RX9 yX9_size wsX9_size, w ∈ lw_tbl := List.forall_mem_append.mpr ⟨List.forall_mem_cons.mpr ⟨iw_860, List.forall_mem_cons.mpr ⟨iw_859, List.forall_mem_cons.mpr ⟨iw_858, List.forall_mem_cons.mpr ⟨iw_18, (fun _ h => absurd h List.not_mem_nil)⟩⟩⟩⟩, inw_wsX9_size⟩
theorem gov_X9_size : GoodIn (wsV RL 23 RX9 yX9_size wsX9_size) (wsV RL 23 RX9 yX9_size wsX9_size) := goodIn_sub (fun _ h => h) (by decide +kernel)
theorem iw_861 : (Cond.selects RX10 yX10_size yX10_size) ∈ lw_tbl := it5 (List.mem_of_getElem? (i := 18) rfl)
theorem iw_862 : (Cond.instanceMethod yX10_size) ∈ lw_tbl := it5 (List.mem_of_getElem? (i := 17) rfl)
theorem iw_863 : (Cond.methodLink RL 27 yX10_size) ∈ lw_tbl := it5 (List.mem_of_getElem? (i := 16) rfl)
theorem inv_X10_size : ∀ w ∈ wsV RL 27 RX10 yX10_size wsX10_size, w ∈ lw_tbl := List.forall_mem_append.mpr ⟨List.forall_mem_cons.mpr ⟨iw_863, List.forall_mem_cons.mpr ⟨iw_862, List.forall_mem_cons.mpr ⟨iw_861, List.forall_mem_cons.mpr ⟨iw_156, (fun _ h => absurd h List.not_mem_nil)⟩⟩⟩⟩, inw_wsX10_size⟩
theorem gov_X10_size : GoodIn (wsV RL 27 RX10 yX10_size wsX10_size) (wsV RL 27 RX10 yX10_size wsX10_size) := goodIn_sub (fun _ h => h) (by decide +kernel)
theorem iw_864 : (Cond.selects RX9 yX9_rests yX9_rests) ∈ lw_tbl := it2 (List.mem_of_getElem? (i := 167) rfl)
theorem iw_865 : (Cond.instanceMethod yX9_rests) ∈ lw_tbl := it2 (List.mem_of_getElem? (i := 166) rfl)
theorem iw_866 : (Cond.methodLink RL 28 yX9_rests) ∈ lw_tbl := it2 (List.mem_of_getElem? (i := 165) rfl)
theorem inv_X9_rests : ∀ w ∈ wsV RL 28 RX9 yX9_rests wsX9_rests, w ∈ lw_tbl := List.forall_mem_append.mpr ⟨List.forall_mem_cons.mpr ⟨iw_866, List.forall_mem_cons.mpr ⟨iw_865, List.forall_mem_cons.mpr ⟨iw_864, List.forall_mem_cons.mpr ⟨iw_18, (fun _ h => absurd h List.not_mem_nil)⟩⟩⟩⟩, inw_wsX9_rests⟩
theorem gov_X9_rests : GoodIn (wsV RL 28 RX9 yX9_rests wsX9_rests) (wsV RL 28 RX9 yX9_rests wsX9_rests) := goodIn_sub (fun _ h => h) (by decide +kernel)
theorem iw_867 : (Cond.selects RX10 yX10_rests yX10_rests) ∈ lw_tbl := it5 (List.mem_of_getElem? (i := 2) rfl)
theorem iw_868 : (Cond.instanceMethod yX10_rests) ∈ lw_tbl := it5 (List.mem_of_getElem? (i := 1) rfl)
theorem iw_869 : (Cond.methodLink RL 32 yX10_rests) ∈ lw_tbl := it5 (List.mem_of_getElem? (i := 0) rfl)
theorem inv_X10_rests : ∀ w ∈ wsV RL 32 RX10 yX10_rests wsX10_rests, w ∈ lw_tbl := List.forall_mem_append.mpr ⟨List.forall_mem_cons.mpr ⟨iw_869, List.forall_mem_cons.mpr ⟨iw_868, List.forall_mem_cons.mpr ⟨iw_867, List.forall_mem_cons.mpr ⟨iw_156, (fun _ h => absurd h List.not_mem_nil)⟩⟩⟩⟩, inw_wsX10_rests⟩
theorem gov_X10_rests : GoodIn (wsV RL 32 RX10 yX10_rests wsX10_rests) (wsV RL 32 RX10 yX10_rests wsX10_rests) := goodIn_sub (fun _ h => h) (by decide +kernel)
theorem iw_870 : (Cond.selects RX9 yX9_truly yX9_truly) ∈ lw_tbl := it2 (List.mem_of_getElem? (i := 182) rfl)
theorem iw_871 : (Cond.instanceMethod yX9_truly) ∈ lw_tbl := it2 (List.mem_of_getElem? (i := 181) rfl)
theorem iw_872 : (Cond.methodLink RL 33 yX9_truly) ∈ lw_tbl := it2 (List.mem_of_getElem? (i := 180) rfl)
theorem inv_X9_truly : ∀ w ∈ wsV RL 33 RX9 yX9_truly wsX9_truly, w ∈ lw_tbl := List.forall_mem_append.mpr ⟨List.forall_mem_cons.mpr ⟨iw_872, List.forall_mem_cons.mpr ⟨iw_871, List.forall_mem_cons.mpr ⟨iw_870, List.forall_mem_cons.mpr ⟨iw_18, (fun _ h => absurd h List.not_mem_nil)⟩⟩⟩⟩, inw_wsX9_truly⟩
theorem gov_X9_truly : GoodIn (wsV RL 33 RX9 yX9_truly wsX9_truly) (wsV RL 33 RX9 yX9_truly wsX9_truly) := goodIn_sub (fun _ h => h) (by decide +kernel)
theorem iw_873 : (Cond.selects RX10 yX10_truly yX10_truly) ∈ lw_tbl := it5 (List.mem_of_getElem? (i := 10) rfl)
theorem iw_874 : (Cond.instanceMethod yX10_truly) ∈ lw_tbl := it5 (List.mem_of_getElem? (i := 9) rfl)
theorem iw_875 : (Cond.methodLink RL 36 yX10_truly) ∈ lw_tbl := it5 (List.mem_of_getElem? (i := 8) rfl)
theorem inv_X10_truly : ∀ w ∈ wsV RL 36 RX10 yX10_truly wsX10_truly, w ∈ lw_tbl := List.forall_mem_append.mpr ⟨List.forall_mem_cons.mpr ⟨iw_875, List.forall_mem_cons.mpr ⟨iw_874, List.forall_mem_cons.mpr ⟨iw_873, List.forall_mem_cons.mpr ⟨iw_156, (fun _ h => absurd h List.not_mem_nil)⟩⟩⟩⟩, inw_wsX10_truly⟩
theorem gov_X10_truly : GoodIn (wsV RL 36 RX10 yX10_truly wsX10_truly) (wsV RL 36 RX10 yX10_truly wsX10_truly) := goodIn_sub (fun _ h => h) (by decide +kernel)
theorem iw_876 : (Cond.selects RX9 yX9_fewest yX9_fewest) ∈ lw_tbl := it2 (List.mem_of_getElem? (i := 187) rfl)
theorem iw_877 : (Cond.instanceMethod yX9_fewest) ∈ lw_tbl := it2 (List.mem_of_getElem? (i := 186) rfl)
theorem iw_878 : (Cond.methodLink RL 37 yX9_fewest) ∈ lw_tbl := it2 (List.mem_of_getElem? (i := 185) rfl)
theorem inv_X9_fewest : ∀ w ∈ wsV RL 37 RX9 yX9_fewest wsX9_fewest, w ∈ lw_tbl := List.forall_mem_append.mpr ⟨List.forall_mem_cons.mpr ⟨iw_878, List.forall_mem_cons.mpr ⟨iw_877, List.forall_mem_cons.mpr ⟨iw_876, List.forall_mem_cons.mpr ⟨iw_18, (fun _ h => absurd h List.not_mem_nil)⟩⟩⟩⟩, inw_wsX9_fewest⟩
theorem gov_X9_fewest : GoodIn (wsV RL 37 RX9 yX9_fewest wsX9_fewest) (wsV RL 37 RX9 yX9_fewest wsX9_fewest) := goodIn_sub (fun _ h => h) (by decide +kernel)
theorem iw_879 : (Cond.selects RX10 yX10_fewest yX10_fewest) ∈ lw_tbl := it5 (List.mem_of_getElem? (i := 49) rfl)
theorem iw_880 : (Cond.instanceMethod yX10_fewest) ∈ lw_tbl := it5 (List.mem_of_getElem? (i := 48) rfl)
theorem iw_881 : (Cond.methodLink RL 40 yX10_fewest) ∈ lw_tbl := it5 (List.mem_of_getElem? (i := 47) rfl)
theorem inv_X10_fewest : ∀ w ∈ wsV RL 40 RX10 yX10_fewest wsX10_fewest, w ∈ lw_tbl := List.forall_mem_append.mpr ⟨List.forall_mem_cons.mpr ⟨iw_881, List.forall_mem_cons.mpr ⟨iw_880, List.forall_mem_cons.mpr ⟨iw_879, List.forall_mem_cons.mpr ⟨iw_156, (fun _ h => absurd h List.not_mem_nil)⟩⟩⟩⟩, inw_wsX10_fewest⟩
theorem gov_X10_fewest : GoodIn (wsV RL 40 RX10 yX10_fewest wsX10_fewest) (wsV RL 40 RX10 yX10_fewest wsX10_fewest) := goodIn_sub (fun _ h => h) (by decide +kernel)
theorem iw_882 : (Cond.selects RX9 yX9_shorter yX9_shorter) ∈ lw_tbl := it2 (List.mem_of_getElem? (i := 239) rfl)
theorem iw_883 : (Cond.instanceMethod yX9_shorter) ∈ lw_tbl := it2 (List.mem_of_getElem? (i := 238) rfl)
theorem iw_884 : (Cond.methodLink RL 41 yX9_shorter) ∈ lw_tbl := it2 (List.mem_of_getElem? (i := 237) rfl)
theorem inv_X9_shorter : ∀ w ∈ wsV RL 41 RX9 yX9_shorter wsX9_shorter, w ∈ lw_tbl := List.forall_mem_append.mpr ⟨List.forall_mem_cons.mpr ⟨iw_884, List.forall_mem_cons.mpr ⟨iw_883, List.forall_mem_cons.mpr ⟨iw_882, List.forall_mem_cons.mpr ⟨iw_18, (fun _ h => absurd h List.not_mem_nil)⟩⟩⟩⟩, inw_wsX9_shorter⟩
theorem gov_X9_shorter : GoodIn (wsV RL 41 RX9 yX9_shorter wsX9_shorter) (wsV RL 41 RX9 yX9_shorter wsX9_shorter) := goodIn_sub (fun _ h => h) (by decide +kernel)
theorem iw_885 : (Cond.selects RX10 yX10_shorter yX10_shorter) ∈ lw_tbl := it5 (List.mem_of_getElem? (i := 81) rfl)
theorem iw_886 : (Cond.instanceMethod yX10_shorter) ∈ lw_tbl := it5 (List.mem_of_getElem? (i := 80) rfl)
theorem iw_887 : (Cond.methodLink RL 44 yX10_shorter) ∈ lw_tbl := it5 (List.mem_of_getElem? (i := 79) rfl)
theorem inv_X10_shorter : ∀ w ∈ wsV RL 44 RX10 yX10_shorter wsX10_shorter, w ∈ lw_tbl := List.forall_mem_append.mpr ⟨List.forall_mem_cons.mpr ⟨iw_887, List.forall_mem_cons.mpr ⟨iw_886, List.forall_mem_cons.mpr ⟨iw_885, List.forall_mem_cons.mpr ⟨iw_156, (fun _ h => absurd h List.not_mem_nil)⟩⟩⟩⟩, inw_wsX10_shorter⟩
theorem gov_X10_shorter : GoodIn (wsV RL 44 RX10 yX10_shorter wsX10_shorter) (wsV RL 44 RX10 yX10_shorter wsX10_shorter) := goodIn_sub (fun _ h => h) (by decide +kernel)
theorem iw_888 : (Cond.selects RX9 yX9_safe yX9_safe) ∈ lw_tbl := it3 (List.mem_of_getElem? (i := 74) rfl)
theorem iw_889 : (Cond.instanceMethod yX9_safe) ∈ lw_tbl := it3 (List.mem_of_getElem? (i := 73) rfl)
theorem iw_890 : (Cond.methodLink RL 45 yX9_safe) ∈ lw_tbl := it3 (List.mem_of_getElem? (i := 72) rfl)
theorem inv_X9_safe : ∀ w ∈ wsV RL 45 RX9 yX9_safe wsX9_safe, w ∈ lw_tbl := List.forall_mem_append.mpr ⟨List.forall_mem_cons.mpr ⟨iw_890, List.forall_mem_cons.mpr ⟨iw_889, List.forall_mem_cons.mpr ⟨iw_888, List.forall_mem_cons.mpr ⟨iw_18, (fun _ h => absurd h List.not_mem_nil)⟩⟩⟩⟩, inw_wsX9_safe⟩
theorem gov_X9_safe : GoodIn (wsV RL 45 RX9 yX9_safe wsX9_safe) (wsV RL 45 RX9 yX9_safe wsX9_safe) := goodIn_sub (fun _ h => h) (by decide +kernel)
theorem iw_891 : (Cond.selects RX10 yX10_safe yX10_safe) ∈ lw_tbl := it5 (List.mem_of_getElem? (i := 73) rfl)
theorem iw_892 : (Cond.instanceMethod yX10_safe) ∈ lw_tbl := it5 (List.mem_of_getElem? (i := 72) rfl)
theorem iw_893 : (Cond.methodLink RL 48 yX10_safe) ∈ lw_tbl := it5 (List.mem_of_getElem? (i := 71) rfl)
theorem inv_X10_safe : ∀ w ∈ wsV RL 48 RX10 yX10_safe wsX10_safe, w ∈ lw_tbl := List.forall_mem_append.mpr ⟨List.forall_mem_cons.mpr ⟨iw_893, List.forall_mem_cons.mpr ⟨iw_892, List.forall_mem_cons.mpr ⟨iw_891, List.forall_mem_cons.mpr ⟨iw_156, (fun _ h => absurd h List.not_mem_nil)⟩⟩⟩⟩, inw_wsX10_safe⟩
theorem gov_X10_safe : GoodIn (wsV RL 48 RX10 yX10_safe wsX10_safe) (wsV RL 48 RX10 yX10_safe wsX10_safe) := goodIn_sub (fun _ h => h) (by decide +kernel)
theorem iw_894 : (Cond.selects RX9 yX9_twice yX9_twice) ∈ lw_tbl := it3 (List.mem_of_getElem? (i := 82) rfl)
theorem iw_895 : (Cond.instanceMethod yX9_twice) ∈ lw_tbl := it3 (List.mem_of_getElem? (i := 81) rfl)
theorem iw_896 : (Cond.methodLink RL 49 yX9_twice) ∈ lw_tbl := it3 (List.mem_of_getElem? (i := 80) rfl)
theorem inv_X9_twice : ∀ w ∈ wsV RL 49 RX9 yX9_twice wsX9_twice, w ∈ lw_tbl := List.forall_mem_append.mpr ⟨List.forall_mem_cons.mpr ⟨iw_896, List.forall_mem_cons.mpr ⟨iw_895, List.forall_mem_cons.mpr ⟨iw_894, List.forall_mem_cons.mpr ⟨iw_18, (fun _ h => absurd h List.not_mem_nil)⟩⟩⟩⟩, inw_wsX9_twice⟩
theorem gov_X9_twice : GoodIn (wsV RL 49 RX9 yX9_twice wsX9_twice) (wsV RL 49 RX9 yX9_twice wsX9_twice) := goodIn_sub (fun _ h => h) (by decide +kernel)
theorem iw_897 : (Cond.selects RX10 yX10_twice yX10_twice) ∈ lw_tbl := it5 (List.mem_of_getElem? (i := 113) rfl)
theorem iw_898 : (Cond.instanceMethod yX10_twice) ∈ lw_tbl := it5 (List.mem_of_getElem? (i := 112) rfl)
theorem iw_899 : (Cond.methodLink RL 52 yX10_twice) ∈ lw_tbl := it5 (List.mem_of_getElem? (i := 111) rfl)
theorem inv_X10_twice : ∀ w ∈ wsV RL 52 RX10 yX10_twice wsX10_twice, w ∈ lw_tbl := List.forall_mem_append.mpr ⟨List.forall_mem_cons.mpr ⟨iw_899, List.forall_mem_cons.mpr ⟨iw_898, List.forall_mem_cons.mpr ⟨iw_897, List.forall_mem_cons.mpr ⟨iw_156, (fun _ h => absurd h List.not_mem_nil)⟩⟩⟩⟩, inw_wsX10_twice⟩
theorem gov_X10_twice : GoodIn (wsV RL 52 RX10 yX10_twice wsX10_twice) (wsV RL 52 RX10 yX10_twice wsX10_twice) := goodIn_sub (fun _ h => h) (by decide +kernel)
theorem iw_900 : (Cond.selects RX9 yX9_heap yX9_heap) ∈ lw_tbl := it3 (List.mem_of_getElem? (i := 91) rfl)
theorem iw_901 : (Cond.instanceMethod yX9_heap) ∈ lw_tbl := it3 (List.mem_of_getElem? (i := 90) rfl)
theorem iw_902 : (Cond.methodLink RL 53 yX9_heap) ∈ lw_tbl := it3 (List.mem_of_getElem? (i := 89) rfl)
theorem inv_X9_heap : ∀ w ∈ wsV RL 53 RX9 yX9_heap wsX9_heap, w ∈ lw_tbl := List.forall_mem_append.mpr ⟨List.forall_mem_cons.mpr ⟨iw_902, List.forall_mem_cons.mpr ⟨iw_901, List.forall_mem_cons.mpr ⟨iw_900, List.forall_mem_cons.mpr ⟨iw_18, (fun _ h => absurd h List.not_mem_nil)⟩⟩⟩⟩, inw_wsX9_heap⟩
theorem gov_X9_heap : GoodIn (wsV RL 53 RX9 yX9_heap wsX9_heap) (wsV RL 53 RX9 yX9_heap wsX9_heap) := goodIn_sub (fun _ h => h) (by decide +kernel)
theorem iw_903 : (Cond.selects RX10 yX10_heap yX10_heap) ∈ lw_tbl := it5 (List.mem_of_getElem? (i := 117) rfl)
theorem iw_904 : (Cond.instanceMethod yX10_heap) ∈ lw_tbl := it5 (List.mem_of_getElem? (i := 116) rfl)
theorem iw_905 : (Cond.methodLink RL 56 yX10_heap) ∈ lw_tbl := it5 (List.mem_of_getElem? (i := 115) rfl)
theorem inv_X10_heap : ∀ w ∈ wsV RL 56 RX10 yX10_heap wsX10_heap, w ∈ lw_tbl := List.forall_mem_append.mpr ⟨List.forall_mem_cons.mpr ⟨iw_905, List.forall_mem_cons.mpr ⟨iw_904, List.forall_mem_cons.mpr ⟨iw_903, List.forall_mem_cons.mpr ⟨iw_156, (fun _ h => absurd h List.not_mem_nil)⟩⟩⟩⟩, inw_wsX10_heap⟩
theorem gov_X10_heap : GoodIn (wsV RL 56 RX10 yX10_heap wsX10_heap) (wsV RL 56 RX10 yX10_heap wsX10_heap) := goodIn_sub (fun _ h => h) (by decide +kernel)
theorem iw_906 : (Cond.selects RX9 yX9_shared yX9_shared) ∈ lw_tbl := it3 (List.mem_of_getElem? (i := 99) rfl)
theorem iw_907 : (Cond.instanceMethod yX9_shared) ∈ lw_tbl := it3 (List.mem_of_getElem? (i := 98) rfl)
theorem iw_908 : (Cond.methodLink RL 57 yX9_shared) ∈ lw_tbl := it3 (List.mem_of_getElem? (i := 97) rfl)
theorem inv_X9_shared : ∀ w ∈ wsV RL 57 RX9 yX9_shared wsX9_shared, w ∈ lw_tbl := List.forall_mem_append.mpr ⟨List.forall_mem_cons.mpr ⟨iw_908, List.forall_mem_cons.mpr ⟨iw_907, List.forall_mem_cons.mpr ⟨iw_906, List.forall_mem_cons.mpr ⟨iw_18, (fun _ h => absurd h List.not_mem_nil)⟩⟩⟩⟩, inw_wsX9_shared⟩
theorem gov_X9_shared : GoodIn (wsV RL 57 RX9 yX9_shared wsX9_shared) (wsV RL 57 RX9 yX9_shared wsX9_shared) := goodIn_sub (fun _ h => h) (by decide +kernel)
theorem iw_909 : (Cond.selects RX10 yX10_shared yX10_shared) ∈ lw_tbl := it5 (List.mem_of_getElem? (i := 121) rfl)
theorem iw_910 : (Cond.instanceMethod yX10_shared) ∈ lw_tbl := it5 (List.mem_of_getElem? (i := 120) rfl)
theorem iw_911 : (Cond.methodLink RL 60 yX10_shared) ∈ lw_tbl := it5 (List.mem_of_getElem? (i := 119) rfl)
theorem inv_X10_shared : ∀ w ∈ wsV RL 60 RX10 yX10_shared wsX10_shared, w ∈ lw_tbl := List.forall_mem_append.mpr ⟨List.forall_mem_cons.mpr ⟨iw_911, List.forall_mem_cons.mpr ⟨iw_910, List.forall_mem_cons.mpr ⟨iw_909, List.forall_mem_cons.mpr ⟨iw_156, (fun _ h => absurd h List.not_mem_nil)⟩⟩⟩⟩, inw_wsX10_shared⟩
theorem gov_X10_shared : GoodIn (wsV RL 60 RX10 yX10_shared wsX10_shared) (wsV RL 60 RX10 yX10_shared wsX10_shared) := goodIn_sub (fun _ h => h) (by decide +kernel)
theorem iw_912 : (Cond.selects RX9 yX9_core yX9_core) ∈ lw_tbl := it3 (List.mem_of_getElem? (i := 103) rfl)
theorem iw_913 : (Cond.instanceMethod yX9_core) ∈ lw_tbl := it3 (List.mem_of_getElem? (i := 102) rfl)
theorem iw_914 : (Cond.methodLink RL 61 yX9_core) ∈ lw_tbl := it3 (List.mem_of_getElem? (i := 101) rfl)
theorem inv_X9_core : ∀ w ∈ wsV RL 61 RX9 yX9_core wsX9_core, w ∈ lw_tbl := List.forall_mem_append.mpr ⟨List.forall_mem_cons.mpr ⟨iw_914, List.forall_mem_cons.mpr ⟨iw_913, List.forall_mem_cons.mpr ⟨iw_912, List.forall_mem_cons.mpr ⟨iw_18, (fun _ h => absurd h List.not_mem_nil)⟩⟩⟩⟩, inw_wsX9_core⟩
theorem gov_X9_core : GoodIn (wsV RL 61 RX9 yX9_core wsX9_core) (wsV RL 61 RX9 yX9_core wsX9_core) := goodIn_sub (fun _ h => h) (by decide +kernel)
theorem iw_915 : (Cond.selects RX10 yX10_core yX10_core) ∈ lw_tbl := it5 (List.mem_of_getElem? (i := 129) rfl)
theorem iw_916 : (Cond.instanceMethod yX10_core) ∈ lw_tbl := it5 (List.mem_of_getElem? (i := 128) rfl)
theorem iw_917 : (Cond.methodLink RL 64 yX10_core) ∈ lw_tbl := it5 (List.mem_of_getElem? (i := 127) rfl)
theorem inv_X10_core : ∀ w ∈ wsV RL 64 RX10 yX10_core wsX10_core, w ∈ lw_tbl := List.forall_mem_append.mpr ⟨List.forall_mem_cons.mpr ⟨iw_917, List.forall_mem_cons.mpr ⟨iw_916, List.forall_mem_cons.mpr ⟨iw_915, List.forall_mem_cons.mpr ⟨iw_156, (fun _ h => absurd h List.not_mem_nil)⟩⟩⟩⟩, inw_wsX10_core⟩
theorem gov_X10_core : GoodIn (wsV RL 64 RX10 yX10_core wsX10_core) (wsV RL 64 RX10 yX10_core wsX10_core) := goodIn_sub (fun _ h => h) (by decide +kernel)
theorem iw_918 : (Cond.selects RX9 yX9_middle yX9_middle) ∈ lw_tbl := it3 (List.mem_of_getElem? (i := 141) rfl)
theorem iw_919 : (Cond.instanceMethod yX9_middle) ∈ lw_tbl := it3 (List.mem_of_getElem? (i := 140) rfl)
theorem iw_920 : (Cond.methodLink RL 65 yX9_middle) ∈ lw_tbl := it3 (List.mem_of_getElem? (i := 139) rfl)
theorem inv_X9_middle : ∀ w ∈ wsV RL 65 RX9 yX9_middle wsX9_middle, w ∈ lw_tbl := List.forall_mem_append.mpr ⟨List.forall_mem_cons.mpr ⟨iw_920, List.forall_mem_cons.mpr ⟨iw_919, List.forall_mem_cons.mpr ⟨iw_918, List.forall_mem_cons.mpr ⟨iw_18, (fun _ h => absurd h List.not_mem_nil)⟩⟩⟩⟩, inw_wsX9_middle⟩
theorem gov_X9_middle : GoodIn (wsV RL 65 RX9 yX9_middle wsX9_middle) (wsV RL 65 RX9 yX9_middle wsX9_middle) := goodIn_sub (fun _ h => h) (by decide +kernel)
theorem iw_921 : (Cond.selects RX10 yX10_middle yX10_middle) ∈ lw_tbl := it5 (List.mem_of_getElem? (i := 169) rfl)
theorem iw_922 : (Cond.instanceMethod yX10_middle) ∈ lw_tbl := it5 (List.mem_of_getElem? (i := 168) rfl)
theorem iw_923 : (Cond.methodLink RL 69 yX10_middle) ∈ lw_tbl := it5 (List.mem_of_getElem? (i := 167) rfl)
theorem inv_X10_middle : ∀ w ∈ wsV RL 69 RX10 yX10_middle wsX10_middle, w ∈ lw_tbl := List.forall_mem_append.mpr ⟨List.forall_mem_cons.mpr ⟨iw_923, List.forall_mem_cons.mpr ⟨iw_922, List.forall_mem_cons.mpr ⟨iw_921, List.forall_mem_cons.mpr ⟨iw_156, (fun _ h => absurd h List.not_mem_nil)⟩⟩⟩⟩, inw_wsX10_middle⟩
theorem gov_X10_middle : GoodIn (wsV RL 69 RX10 yX10_middle wsX10_middle) (wsV RL 69 RX10 yX10_middle wsX10_middle) := goodIn_sub (fun _ h => h) (by decide +kernel)
theorem iw_924 : (Cond.selects RX9 yX9_truths yX9_truths) ∈ lw_tbl := it3 (List.mem_of_getElem? (i := 165) rfl)
theorem iw_925 : (Cond.instanceMethod yX9_truths) ∈ lw_tbl := it3 (List.mem_of_getElem? (i := 164) rfl)
theorem iw_926 : (Cond.methodLink RL 70 yX9_truths) ∈ lw_tbl := it3 (List.mem_of_getElem? (i := 163) rfl)
theorem inv_X9_truths : ∀ w ∈ wsV RL 70 RX9 yX9_truths wsX9_truths, w ∈ lw_tbl := List.forall_mem_append.mpr ⟨List.forall_mem_cons.mpr ⟨iw_926, List.forall_mem_cons.mpr ⟨iw_925, List.forall_mem_cons.mpr ⟨iw_924, List.forall_mem_cons.mpr ⟨iw_18, (fun _ h => absurd h List.not_mem_nil)⟩⟩⟩⟩, inw_wsX9_truths⟩
theorem gov_X9_truths : GoodIn (wsV RL 70 RX9 yX9_truths wsX9_truths) (wsV RL 70 RX9 yX9_truths wsX9_truths) := goodIn_sub (fun _ h => h) (by decide +kernel)
theorem iw_927 : (Cond.selects RX10 yX10_truths yX10_truths) ∈ lw_tbl := it5 (List.mem_of_getElem? (i := 160) rfl)
theorem iw_928 : (Cond.instanceMethod yX10_truths) ∈ lw_tbl := it5 (List.mem_of_getElem? (i := 159) rfl)
theorem iw_929 : (Cond.methodLink RL 73 yX10_truths) ∈ lw_tbl := it5 (List.mem_of_getElem? (i := 158) rfl)
theorem inv_X10_truths : ∀ w ∈ wsV RL 73 RX10 yX10_truths wsX10_truths, w ∈ lw_tbl := List.forall_mem_append.mpr ⟨List.forall_mem_cons.mpr ⟨iw_929, List.forall_mem_cons.mpr ⟨iw_928, List.forall_mem_cons.mpr ⟨iw_927, List.forall_mem_cons.mpr ⟨iw_156, (fun _ h => absurd h List.not_mem_nil)⟩⟩⟩⟩, inw_wsX10_truths⟩
theorem gov_X10_truths : GoodIn (wsV RL 73 RX10 yX10_truths wsX10_truths) (wsV RL 73 RX10 yX10_truths wsX10_truths) := goodIn_sub (fun _ h => h) (by decide +kernel)
theorem iw_930 : (Cond.selects RX9 yX9_cuts yX9_cuts) ∈ lw_tbl := it3 (List.mem_of_getElem? (i := 172) rfl)
theorem iw_931 : (Cond.instanceMethod yX9_cuts) ∈ lw_tbl := it3 (List.mem_of_getElem? (i := 171) rfl)
theorem iw_932 : (Cond.methodLink RL 74 yX9_cuts) ∈ lw_tbl := it3 (List.mem_of_getElem? (i := 170) rfl)
theorem inv_X9_cuts : ∀ w ∈ wsV RL 74 RX9 yX9_cuts wsX9_cuts, w ∈ lw_tbl := List.forall_mem_append.mpr ⟨List.forall_mem_cons.mpr ⟨iw_932, List.forall_mem_cons.mpr ⟨iw_931, List.forall_mem_cons.mpr ⟨iw_930, List.forall_mem_cons.mpr ⟨iw_18, (fun _ h => absurd h List.not_mem_nil)⟩⟩⟩⟩, inw_wsX9_cuts⟩
theorem gov_X9_cuts : GoodIn (wsV RL 74 RX9 yX9_cuts wsX9_cuts) (wsV RL 74 RX9 yX9_cuts wsX9_cuts) := goodIn_sub (fun _ h => h) (by decide +kernel)
theorem iw_933 : (Cond.selects RX10 yX10_cuts yX10_cuts) ∈ lw_tbl := it5 (List.mem_of_getElem? (i := 173) rfl)
theorem iw_934 : (Cond.instanceMethod yX10_cuts) ∈ lw_tbl := it5 (List.mem_of_getElem? (i := 172) rfl)
theorem iw_935 : (Cond.methodLink RL 77 yX10_cuts) ∈ lw_tbl := it5 (List.mem_of_getElem? (i := 171) rfl)
theorem inv_X10_cuts : ∀ w ∈ wsV RL 77 RX10 yX10_cuts wsX10_cuts, w ∈ lw_tbl := List.forall_mem_append.mpr ⟨List.forall_mem_cons.mpr ⟨iw_935, List.forall_mem_cons.mpr ⟨iw_934, List.forall_mem_cons.mpr ⟨iw_933, List.forall_mem_cons.mpr ⟨iw_156, (fun _ h => absurd h List.not_mem_nil)⟩⟩⟩⟩, inw_wsX10_cuts⟩
theorem gov_X10_cuts : GoodIn (wsV RL 77 RX10 yX10_cuts wsX10_cuts) (wsV RL 77 RX10 yX10_cuts wsX10_cuts) := goodIn_sub (fun _ h => h) (by decide +kernel)
theorem iw_936 : (Cond.selects RX9 yX9_units yX9_units) ∈ lw_tbl := it3 (List.mem_of_getElem? (i := 197) rfl)
theorem iw_937 : (Cond.instanceMethod yX9_units) ∈ lw_tbl := it3 (List.mem_of_getElem? (i := 196) rfl)
theorem iw_938 : (Cond.methodLink RL 78 yX9_units) ∈ lw_tbl := it3 (List.mem_of_getElem? (i := 195) rfl)
theorem inv_X9_units : ∀ w ∈ wsV RL 78 RX9 yX9_units wsX9_units, w ∈ lw_tbl := List.forall_mem_append.mpr ⟨List.forall_mem_cons.mpr ⟨iw_938, List.forall_mem_cons.mpr ⟨iw_937, List.forall_mem_cons.mpr ⟨iw_936, List.forall_mem_cons.mpr ⟨iw_18, (fun _ h => absurd h List.not_mem_nil)⟩⟩⟩⟩, inw_wsX9_units⟩
theorem gov_X9_units : GoodIn (wsV RL 78 RX9 yX9_units wsX9_units) (wsV RL 78 RX9 yX9_units wsX9_units) := goodIn_sub (fun _ h => h) (by decide +kernel)
theorem iw_939 : (Cond.selects RX10 yX10_units yX10_units) ∈ lw_tbl := it5 (List.mem_of_getElem? (i := 191) rfl)
theorem iw_940 : (Cond.instanceMethod yX10_units) ∈ lw_tbl := it5 (List.mem_of_getElem? (i := 190) rfl)
theorem iw_941 : (Cond.methodLink RL 81 yX10_units) ∈ lw_tbl := it5 (List.mem_of_getElem? (i := 189) rfl)
theorem inv_X10_units : ∀ w ∈ wsV RL 81 RX10 yX10_units wsX10_units, w ∈ lw_tbl := List.forall_mem_append.mpr ⟨List.forall_mem_cons.mpr ⟨iw_941, List.forall_mem_cons.mpr ⟨iw_940, List.forall_mem_cons.mpr ⟨iw_939, List.forall_mem_cons.mpr ⟨iw_156, (fun _ h => absurd h List.not_mem_nil)⟩⟩⟩⟩, inw_wsX10_units⟩
theorem gov_X10_units : GoodIn (wsV RL 81 RX10 yX10_units wsX10_units) (wsV RL 81 RX10 yX10_units wsX10_units) := goodIn_sub (fun _ h => h) (by decide +kernel)
theorem iw_942 : (Cond.selects RX9 yX9_follows yX9_follows) ∈ lw_tbl := it3 (List.mem_of_getElem? (i := 208) rfl)
theorem iw_943 : (Cond.instanceMethod yX9_follows) ∈ lw_tbl := it3 (List.mem_of_getElem? (i := 207) rfl)
theorem iw_944 : (Cond.methodLink RL 82 yX9_follows) ∈ lw_tbl := it3 (List.mem_of_getElem? (i := 206) rfl)
theorem inv_X9_follows : ∀ w ∈ wsV RL 82 RX9 yX9_follows wsX9_follows, w ∈ lw_tbl := List.forall_mem_append.mpr ⟨List.forall_mem_cons.mpr ⟨iw_944, List.forall_mem_cons.mpr ⟨iw_943, List.forall_mem_cons.mpr ⟨iw_942, List.forall_mem_cons.mpr ⟨iw_18, (fun _ h => absurd h List.not_mem_nil)⟩⟩⟩⟩, inw_wsX9_follows⟩
theorem gov_X9_follows : GoodIn (wsV RL 82 RX9 yX9_follows wsX9_follows) (wsV RL 82 RX9 yX9_follows wsX9_follows) := goodIn_sub (fun _ h => h) (by decide +kernel)
theorem iw_945 : (Cond.selects RX10 yX10_follows yX10_follows) ∈ lw_tbl := it5 (List.mem_of_getElem? (i := 195) rfl)
theorem iw_946 : (Cond.instanceMethod yX10_follows) ∈ lw_tbl := it5 (List.mem_of_getElem? (i := 194) rfl)
theorem iw_947 : (Cond.methodLink RL 85 yX10_follows) ∈ lw_tbl := it5 (List.mem_of_getElem? (i := 193) rfl)
theorem inv_X10_follows : ∀ w ∈ wsV RL 85 RX10 yX10_follows wsX10_follows, w ∈ lw_tbl := List.forall_mem_append.mpr ⟨List.forall_mem_cons.mpr ⟨iw_947, List.forall_mem_cons.mpr ⟨iw_946, List.forall_mem_cons.mpr ⟨iw_945, List.forall_mem_cons.mpr ⟨iw_156, (fun _ h => absurd h List.not_mem_nil)⟩⟩⟩⟩, inw_wsX10_follows⟩
theorem gov_X10_follows : GoodIn (wsV RL 85 RX10 yX10_follows wsX10_follows) (wsV RL 85 RX10 yX10_follows wsX10_follows) := goodIn_sub (fun _ h => h) (by decide +kernel)
theorem iw_948 : (Cond.selects RX9 yX9_cut yX9_cut) ∈ lw_tbl := it3 (List.mem_of_getElem? (i := 214) rfl)
theorem iw_949 : (Cond.instanceMethod yX9_cut) ∈ lw_tbl := it3 (List.mem_of_getElem? (i := 213) rfl)
theorem iw_950 : (Cond.methodLink RL 86 yX9_cut) ∈ lw_tbl := it3 (List.mem_of_getElem? (i := 212) rfl)
theorem inv_X9_cut : ∀ w ∈ wsV RL 86 RX9 yX9_cut wsX9_cut, w ∈ lw_tbl := List.forall_mem_append.mpr ⟨List.forall_mem_cons.mpr ⟨iw_950, List.forall_mem_cons.mpr ⟨iw_949, List.forall_mem_cons.mpr ⟨iw_948, List.forall_mem_cons.mpr ⟨iw_18, (fun _ h => absurd h List.not_mem_nil)⟩⟩⟩⟩, inw_wsX9_cut⟩
theorem gov_X9_cut : GoodIn (wsV RL 86 RX9 yX9_cut wsX9_cut) (wsV RL 86 RX9 yX9_cut wsX9_cut) := goodIn_sub (fun _ h => h) (by decide +kernel)
theorem iw_951 : (Cond.selects RX10 yX10_cut yX10_cut) ∈ lw_tbl := it4 (List.mem_of_getElem? (i := 161) rfl)
theorem iw_952 : (Cond.instanceMethod yX10_cut) ∈ lw_tbl := it4 (List.mem_of_getElem? (i := 160) rfl)
theorem iw_953 : (Cond.methodLink RL 89 yX10_cut) ∈ lw_tbl := it4 (List.mem_of_getElem? (i := 159) rfl)
theorem inv_X10_cut : ∀ w ∈ wsV RL 89 RX10 yX10_cut wsX10_cut, w ∈ lw_tbl := List.forall_mem_append.mpr ⟨List.forall_mem_cons.mpr ⟨iw_953, List.forall_mem_cons.mpr ⟨iw_952, List.forall_mem_cons.mpr ⟨iw_951, List.forall_mem_cons.mpr ⟨iw_156, (fun _ h => absurd h List.not_mem_nil)⟩⟩⟩⟩, inw_wsX10_cut⟩
theorem gov_X10_cut : GoodIn (wsV RL 89 RX10 yX10_cut wsX10_cut) (wsV RL 89 RX10 yX10_cut wsX10_cut) := goodIn_sub (fun _ h => h) (by decide +kernel)
theorem iw_954 : (Cond.selects RX9 yX9_stronger yX9_stronger) ∈ lw_tbl := it3 (List.mem_of_getElem? (i := 219) rfl)
theorem iw_955 : (Cond.instanceMethod yX9_stronger) ∈ lw_tbl := it3 (List.mem_of_getElem? (i := 218) rfl)
theorem iw_956 : (Cond.methodLink RL 90 yX9_stronger) ∈ lw_tbl := it3 (List.mem_of_getElem? (i := 217) rfl)
theorem inv_X9_stronger : ∀ w ∈ wsV RL 90 RX9 yX9_stronger wsX9_stronger, w ∈ lw_tbl := List.forall_mem_append.mpr ⟨List.forall_mem_cons.mpr ⟨iw_956, List.forall_mem_cons.mpr ⟨iw_955, List.forall_mem_cons.mpr ⟨iw_954, List.forall_mem_cons.mpr ⟨iw_18, (fun _ h => absurd h List.not_mem_nil)⟩⟩⟩⟩, inw_wsX9_stronger⟩
theorem gov_X9_stronger : GoodIn (wsV RL 90 RX9 yX9_stronger wsX9_stronger) (wsV RL 90 RX9 yX9_stronger wsX9_stronger) := goodIn_sub (fun _ h => h) (by decide +kernel)
theorem iw_957 : (Cond.selects RX10 yX10_stronger yX10_stronger) ∈ lw_tbl := it4 (List.mem_of_getElem? (i := 174) rfl)
theorem iw_958 : (Cond.instanceMethod yX10_stronger) ∈ lw_tbl := it4 (List.mem_of_getElem? (i := 173) rfl)
theorem iw_959 : (Cond.methodLink RL 93 yX10_stronger) ∈ lw_tbl := it4 (List.mem_of_getElem? (i := 172) rfl)
theorem inv_X10_stronger : ∀ w ∈ wsV RL 93 RX10 yX10_stronger wsX10_stronger, w ∈ lw_tbl := List.forall_mem_append.mpr ⟨List.forall_mem_cons.mpr ⟨iw_959, List.forall_mem_cons.mpr ⟨iw_958, List.forall_mem_cons.mpr ⟨iw_957, List.forall_mem_cons.mpr ⟨iw_156, (fun _ h => absurd h List.not_mem_nil)⟩⟩⟩⟩, inw_wsX10_stronger⟩
theorem gov_X10_stronger : GoodIn (wsV RL 93 RX10 yX10_stronger wsX10_stronger) (wsV RL 93 RX10 yX10_stronger wsX10_stronger) := goodIn_sub (fun _ h => h) (by decide +kernel)
theorem iw_960 : (Cond.selects RX9 yX9_sheet yX9_sheet) ∈ lw_tbl := it3 (List.mem_of_getElem? (i := 224) rfl)
theorem iw_961 : (Cond.instanceMethod yX9_sheet) ∈ lw_tbl := it3 (List.mem_of_getElem? (i := 223) rfl)
theorem iw_962 : (Cond.methodLink RL 94 yX9_sheet) ∈ lw_tbl := it3 (List.mem_of_getElem? (i := 222) rfl)
theorem inv_X9_sheet : ∀ w ∈ wsV RL 94 RX9 yX9_sheet wsX9_sheet, w ∈ lw_tbl := List.forall_mem_append.mpr ⟨List.forall_mem_cons.mpr ⟨iw_962, List.forall_mem_cons.mpr ⟨iw_961, List.forall_mem_cons.mpr ⟨iw_960, List.forall_mem_cons.mpr ⟨iw_18, (fun _ h => absurd h List.not_mem_nil)⟩⟩⟩⟩, inw_wsX9_sheet⟩
theorem gov_X9_sheet : GoodIn (wsV RL 94 RX9 yX9_sheet wsX9_sheet) (wsV RL 94 RX9 yX9_sheet wsX9_sheet) := goodIn_sub (fun _ h => h) (by decide +kernel)
theorem iw_963 : (Cond.selects RX10 yX10_sheet yX10_sheet) ∈ lw_tbl := it5 (List.mem_of_getElem? (i := 199) rfl)
theorem iw_964 : (Cond.instanceMethod yX10_sheet) ∈ lw_tbl := it5 (List.mem_of_getElem? (i := 198) rfl)
theorem iw_965 : (Cond.methodLink RL 97 yX10_sheet) ∈ lw_tbl := it5 (List.mem_of_getElem? (i := 197) rfl)
theorem inv_X10_sheet : ∀ w ∈ wsV RL 97 RX10 yX10_sheet wsX10_sheet, w ∈ lw_tbl := List.forall_mem_append.mpr ⟨List.forall_mem_cons.mpr ⟨iw_965, List.forall_mem_cons.mpr ⟨iw_964, List.forall_mem_cons.mpr ⟨iw_963, List.forall_mem_cons.mpr ⟨iw_156, (fun _ h => absurd h List.not_mem_nil)⟩⟩⟩⟩, inw_wsX10_sheet⟩
theorem gov_X10_sheet : GoodIn (wsV RL 97 RX10 yX10_sheet wsX10_sheet) (wsV RL 97 RX10 yX10_sheet wsX10_sheet) := goodIn_sub (fun _ h => h) (by decide +kernel)
theorem iw_966 : (Cond.selects RX9 yX9_lose yX9_lose) ∈ lw_tbl := it3 (List.mem_of_getElem? (i := 232) rfl)
theorem iw_967 : (Cond.instanceMethod yX9_lose) ∈ lw_tbl := it3 (List.mem_of_getElem? (i := 231) rfl)
theorem iw_968 : (Cond.methodLink RL 98 yX9_lose) ∈ lw_tbl := it3 (List.mem_of_getElem? (i := 230) rfl)
theorem inv_X9_lose : ∀ w ∈ wsV RL 98 RX9 yX9_lose wsX9_lose, w ∈ lw_tbl := List.forall_mem_append.mpr ⟨List.forall_mem_cons.mpr ⟨iw_968, List.forall_mem_cons.mpr ⟨iw_967, List.forall_mem_cons.mpr ⟨iw_966, List.forall_mem_cons.mpr ⟨iw_18, (fun _ h => absurd h List.not_mem_nil)⟩⟩⟩⟩, inw_wsX9_lose⟩
theorem gov_X9_lose : GoodIn (wsV RL 98 RX9 yX9_lose wsX9_lose) (wsV RL 98 RX9 yX9_lose wsX9_lose) := goodIn_sub (fun _ h => h) (by decide +kernel)
theorem iw_969 : (Cond.selects RX10 yX10_lose yX10_lose) ∈ lw_tbl := it5 (List.mem_of_getElem? (i := 203) rfl)
theorem iw_970 : (Cond.instanceMethod yX10_lose) ∈ lw_tbl := it5 (List.mem_of_getElem? (i := 202) rfl)
theorem iw_971 : (Cond.methodLink RL 101 yX10_lose) ∈ lw_tbl := it5 (List.mem_of_getElem? (i := 201) rfl)
theorem inv_X10_lose : ∀ w ∈ wsV RL 101 RX10 yX10_lose wsX10_lose, w ∈ lw_tbl := List.forall_mem_append.mpr ⟨List.forall_mem_cons.mpr ⟨iw_971, List.forall_mem_cons.mpr ⟨iw_970, List.forall_mem_cons.mpr ⟨iw_969, List.forall_mem_cons.mpr ⟨iw_156, (fun _ h => absurd h List.not_mem_nil)⟩⟩⟩⟩, inw_wsX10_lose⟩
theorem gov_X10_lose : GoodIn (wsV RL 101 RX10 yX10_lose wsX10_lose) (wsV RL 101 RX10 yX10_lose wsX10_lose) := goodIn_sub (fun _ h => h) (by decide +kernel)
theorem iw_972 : (Cond.selects RX9 yX9_put yX9_put) ∈ lw_tbl := it3 (List.mem_of_getElem? (i := 237) rfl)
theorem iw_973 : (Cond.instanceMethod yX9_put) ∈ lw_tbl := it3 (List.mem_of_getElem? (i := 236) rfl)
theorem iw_974 : (Cond.methodLink RL 102 yX9_put) ∈ lw_tbl := it3 (List.mem_of_getElem? (i := 235) rfl)
theorem inv_X9_put : ∀ w ∈ wsV RL 102 RX9 yX9_put wsX9_put, w ∈ lw_tbl := List.forall_mem_append.mpr ⟨List.forall_mem_cons.mpr ⟨iw_974, List.forall_mem_cons.mpr ⟨iw_973, List.forall_mem_cons.mpr ⟨iw_972, List.forall_mem_cons.mpr ⟨iw_18, (fun _ h => absurd h List.not_mem_nil)⟩⟩⟩⟩, inw_wsX9_put⟩
theorem gov_X9_put : GoodIn (wsV RL 102 RX9 yX9_put wsX9_put) (wsV RL 102 RX9 yX9_put wsX9_put) := goodIn_sub (fun _ h => h) (by decide +kernel)
theorem iw_975 : (Cond.selects RX10 yX10_put yX10_put) ∈ lw_tbl := it5 (List.mem_of_getElem? (i := 207) rfl)
theorem iw_976 : (Cond.instanceMethod yX10_put) ∈ lw_tbl := it5 (List.mem_of_getElem? (i := 206) rfl)
theorem iw_977 : (Cond.methodLink RL 105 yX10_put) ∈ lw_tbl := it5 (List.mem_of_getElem? (i := 205) rfl)
theorem inv_X10_put : ∀ w ∈ wsV RL 105 RX10 yX10_put wsX10_put, w ∈ lw_tbl := List.forall_mem_append.mpr ⟨List.forall_mem_cons.mpr ⟨iw_977, List.forall_mem_cons.mpr ⟨iw_976, List.forall_mem_cons.mpr ⟨iw_975, List.forall_mem_cons.mpr ⟨iw_156, (fun _ h => absurd h List.not_mem_nil)⟩⟩⟩⟩, inw_wsX10_put⟩
theorem gov_X10_put : GoodIn (wsV RL 105 RX10 yX10_put wsX10_put) (wsV RL 105 RX10 yX10_put wsX10_put) := goodIn_sub (fun _ h => h) (by decide +kernel)
theorem iw_978 : (Cond.selects RX9 yX9_cell yX9_cell) ∈ lw_tbl := it4 (List.mem_of_getElem? (i := 9) rfl)
theorem iw_979 : (Cond.instanceMethod yX9_cell) ∈ lw_tbl := it4 (List.mem_of_getElem? (i := 8) rfl)
theorem iw_980 : (Cond.methodLink RL 106 yX9_cell) ∈ lw_tbl := it4 (List.mem_of_getElem? (i := 7) rfl)
theorem inv_X9_cell : ∀ w ∈ wsV RL 106 RX9 yX9_cell wsX9_cell, w ∈ lw_tbl := List.forall_mem_append.mpr ⟨List.forall_mem_cons.mpr ⟨iw_980, List.forall_mem_cons.mpr ⟨iw_979, List.forall_mem_cons.mpr ⟨iw_978, List.forall_mem_cons.mpr ⟨iw_18, (fun _ h => absurd h List.not_mem_nil)⟩⟩⟩⟩, inw_wsX9_cell⟩
theorem gov_X9_cell : GoodIn (wsV RL 106 RX9 yX9_cell wsX9_cell) (wsV RL 106 RX9 yX9_cell wsX9_cell) := goodIn_sub (fun _ h => h) (by decide +kernel)
theorem iw_981 : (Cond.selects RX10 yX10_cell yX10_cell) ∈ lw_tbl := it5 (List.mem_of_getElem? (i := 211) rfl)
theorem iw_982 : (Cond.instanceMethod yX10_cell) ∈ lw_tbl := it5 (List.mem_of_getElem? (i := 210) rfl)
theorem iw_983 : (Cond.methodLink RL 109 yX10_cell) ∈ lw_tbl := it5 (List.mem_of_getElem? (i := 209) rfl)
theorem inv_X10_cell : ∀ w ∈ wsV RL 109 RX10 yX10_cell wsX10_cell, w ∈ lw_tbl := List.forall_mem_append.mpr ⟨List.forall_mem_cons.mpr ⟨iw_983, List.forall_mem_cons.mpr ⟨iw_982, List.forall_mem_cons.mpr ⟨iw_981, List.forall_mem_cons.mpr ⟨iw_156, (fun _ h => absurd h List.not_mem_nil)⟩⟩⟩⟩, inw_wsX10_cell⟩
theorem gov_X10_cell : GoodIn (wsV RL 109 RX10 yX10_cell wsX10_cell) (wsV RL 109 RX10 yX10_cell wsX10_cell) := goodIn_sub (fun _ h => h) (by decide +kernel)
theorem iw_984 : (Cond.selects RX9 yX9_copy yX9_copy) ∈ lw_tbl := it4 (List.mem_of_getElem? (i := 13) rfl)
theorem iw_985 : (Cond.instanceMethod yX9_copy) ∈ lw_tbl := it4 (List.mem_of_getElem? (i := 12) rfl)
theorem iw_986 : (Cond.methodLink RL 110 yX9_copy) ∈ lw_tbl := it4 (List.mem_of_getElem? (i := 11) rfl)
theorem inv_X9_copy : ∀ w ∈ wsV RL 110 RX9 yX9_copy wsX9_copy, w ∈ lw_tbl := List.forall_mem_append.mpr ⟨List.forall_mem_cons.mpr ⟨iw_986, List.forall_mem_cons.mpr ⟨iw_985, List.forall_mem_cons.mpr ⟨iw_984, List.forall_mem_cons.mpr ⟨iw_18, (fun _ h => absurd h List.not_mem_nil)⟩⟩⟩⟩, inw_wsX9_copy⟩
theorem gov_X9_copy : GoodIn (wsV RL 110 RX9 yX9_copy wsX9_copy) (wsV RL 110 RX9 yX9_copy wsX9_copy) := goodIn_sub (fun _ h => h) (by decide +kernel)
theorem iw_987 : (Cond.selects RX10 yX10_copy yX10_copy) ∈ lw_tbl := it5 (List.mem_of_getElem? (i := 219) rfl)
theorem iw_988 : (Cond.instanceMethod yX10_copy) ∈ lw_tbl := it5 (List.mem_of_getElem? (i := 218) rfl)
theorem iw_989 : (Cond.methodLink RL 114 yX10_copy) ∈ lw_tbl := it5 (List.mem_of_getElem? (i := 217) rfl)
theorem inv_X10_copy : ∀ w ∈ wsV RL 114 RX10 yX10_copy wsX10_copy, w ∈ lw_tbl := List.forall_mem_append.mpr ⟨List.forall_mem_cons.mpr ⟨iw_989, List.forall_mem_cons.mpr ⟨iw_988, List.forall_mem_cons.mpr ⟨iw_987, List.forall_mem_cons.mpr ⟨iw_156, (fun _ h => absurd h List.not_mem_nil)⟩⟩⟩⟩, inw_wsX10_copy⟩
theorem gov_X10_copy : GoodIn (wsV RL 114 RX10 yX10_copy wsX10_copy) (wsV RL 114 RX10 yX10_copy wsX10_copy) := goodIn_sub (fun _ h => h) (by decide +kernel)
theorem iw_990 : (Cond.selects RX9 yX9_tell yX9_tell) ∈ lw_tbl := it4 (List.mem_of_getElem? (i := 18) rfl)
theorem iw_991 : (Cond.instanceMethod yX9_tell) ∈ lw_tbl := it4 (List.mem_of_getElem? (i := 17) rfl)
theorem iw_992 : (Cond.methodLink RL 115 yX9_tell) ∈ lw_tbl := it4 (List.mem_of_getElem? (i := 16) rfl)
theorem inv_X9_tell : ∀ w ∈ wsV RL 115 RX9 yX9_tell wsX9_tell, w ∈ lw_tbl := List.forall_mem_append.mpr ⟨List.forall_mem_cons.mpr ⟨iw_992, List.forall_mem_cons.mpr ⟨iw_991, List.forall_mem_cons.mpr ⟨iw_990, List.forall_mem_cons.mpr ⟨iw_18, (fun _ h => absurd h List.not_mem_nil)⟩⟩⟩⟩, inw_wsX9_tell⟩
theorem gov_X9_tell : GoodIn (wsV RL 115 RX9 yX9_tell wsX9_tell) (wsV RL 115 RX9 yX9_tell wsX9_tell) := goodIn_sub (fun _ h => h) (by decide +kernel)
theorem iw_993 : (Cond.selects RX10 yX10_tell yX10_tell) ∈ lw_tbl := it5 (List.mem_of_getElem? (i := 223) rfl)
theorem iw_994 : (Cond.instanceMethod yX10_tell) ∈ lw_tbl := it5 (List.mem_of_getElem? (i := 222) rfl)
theorem iw_995 : (Cond.methodLink RL 118 yX10_tell) ∈ lw_tbl := it5 (List.mem_of_getElem? (i := 221) rfl)
theorem inv_X10_tell : ∀ w ∈ wsV RL 118 RX10 yX10_tell wsX10_tell, w ∈ lw_tbl := List.forall_mem_append.mpr ⟨List.forall_mem_cons.mpr ⟨iw_995, List.forall_mem_cons.mpr ⟨iw_994, List.forall_mem_cons.mpr ⟨iw_993, List.forall_mem_cons.mpr ⟨iw_156, (fun _ h => absurd h List.not_mem_nil)⟩⟩⟩⟩, inw_wsX10_tell⟩
theorem gov_X10_tell : GoodIn (wsV RL 118 RX10 yX10_tell wsX10_tell) (wsV RL 118 RX10 yX10_tell wsX10_tell) := goodIn_sub (fun _ h => h) (by decide +kernel)
theorem iw_996 : (Cond.selects RX9 yX9_show yX9_show) ∈ lw_tbl := it4 (List.mem_of_getElem? (i := 38) rfl)
theorem iw_997 : (Cond.instanceMethod yX9_show) ∈ lw_tbl := it4 (List.mem_of_getElem? (i := 37) rfl)
theorem iw_998 : (Cond.methodLink RL 119 yX9_show) ∈ lw_tbl := it4 (List.mem_of_getElem? (i := 36) rfl)
theorem inv_X9_show : ∀ w ∈ wsV RL 119 RX9 yX9_show wsX9_show, w ∈ lw_tbl := List.forall_mem_append.mpr ⟨List.forall_mem_cons.mpr ⟨iw_998, List.forall_mem_cons.mpr ⟨iw_997, List.forall_mem_cons.mpr ⟨iw_996, List.forall_mem_cons.mpr ⟨iw_18, (fun _ h => absurd h List.not_mem_nil)⟩⟩⟩⟩, inw_wsX9_show⟩
theorem gov_X9_show : GoodIn (wsV RL 119 RX9 yX9_show wsX9_show) (wsV RL 119 RX9 yX9_show wsX9_show) := goodIn_sub (fun _ h => h) (by decide +kernel)
theorem iw_999 : (Cond.selects RX10 yX10_show yX10_show) ∈ lw_tbl := it5 (List.mem_of_getElem? (i := 231) rfl)
theorem iw_1000 : (Cond.instanceMethod yX10_show) ∈ lw_tbl := it5 (List.mem_of_getElem? (i := 230) rfl)
theorem iw_1001 : (Cond.methodLink RL 122 yX10_show) ∈ lw_tbl := it5 (List.mem_of_getElem? (i := 229) rfl)
theorem inv_X10_show : ∀ w ∈ wsV RL 122 RX10 yX10_show wsX10_show, w ∈ lw_tbl := List.forall_mem_append.mpr ⟨List.forall_mem_cons.mpr ⟨iw_1001, List.forall_mem_cons.mpr ⟨iw_1000, List.forall_mem_cons.mpr ⟨iw_999, List.forall_mem_cons.mpr ⟨iw_156, (fun _ h => absurd h List.not_mem_nil)⟩⟩⟩⟩, inw_wsX10_show⟩
theorem gov_X10_show : GoodIn (wsV RL 122 RX10 yX10_show wsX10_show) (wsV RL 122 RX10 yX10_show wsX10_show) := goodIn_sub (fun _ h => h) (by decide +kernel)
theorem iw_1002 : (Cond.selects RX9 yX9_as yX9_as) ∈ lw_tbl := it4 (List.mem_of_getElem? (i := 42) rfl)
theorem iw_1003 : (Cond.instanceMethod yX9_as) ∈ lw_tbl := it4 (List.mem_of_getElem? (i := 41) rfl)
theorem iw_1004 : (Cond.methodLink RL 123 yX9_as) ∈ lw_tbl := it4 (List.mem_of_getElem? (i := 40) rfl)
theorem inv_X9_as : ∀ w ∈ wsV RL 123 RX9 yX9_as wsX9_as, w ∈ lw_tbl := List.forall_mem_append.mpr ⟨List.forall_mem_cons.mpr ⟨iw_1004, List.forall_mem_cons.mpr ⟨iw_1003, List.forall_mem_cons.mpr ⟨iw_1002, List.forall_mem_cons.mpr ⟨iw_18, (fun _ h => absurd h List.not_mem_nil)⟩⟩⟩⟩, inw_wsX9_as⟩
theorem gov_X9_as : GoodIn (wsV RL 123 RX9 yX9_as wsX9_as) (wsV RL 123 RX9 yX9_as wsX9_as) := goodIn_sub (fun _ h => h) (by decide +kernel)
theorem iw_1005 : (Cond.selects RX10 yX10_as yX10_as) ∈ lw_tbl := it5 (List.mem_of_getElem? (i := 235) rfl)
theorem iw_1006 : (Cond.instanceMethod yX10_as) ∈ lw_tbl := it5 (List.mem_of_getElem? (i := 234) rfl)
theorem iw_1007 : (Cond.methodLink RL 126 yX10_as) ∈ lw_tbl := it5 (List.mem_of_getElem? (i := 233) rfl)
theorem inv_X10_as : ∀ w ∈ wsV RL 126 RX10 yX10_as wsX10_as, w ∈ lw_tbl := List.forall_mem_append.mpr ⟨List.forall_mem_cons.mpr ⟨iw_1007, List.forall_mem_cons.mpr ⟨iw_1006, List.forall_mem_cons.mpr ⟨iw_1005, List.forall_mem_cons.mpr ⟨iw_156, (fun _ h => absurd h List.not_mem_nil)⟩⟩⟩⟩, inw_wsX10_as⟩
theorem gov_X10_as : GoodIn (wsV RL 126 RX10 yX10_as wsX10_as) (wsV RL 126 RX10 yX10_as wsX10_as) := goodIn_sub (fun _ h => h) (by decide +kernel)
theorem iw_1008 : (Cond.selects RX9 yX9_trace yX9_trace) ∈ lw_tbl := it4 (List.mem_of_getElem? (i := 46) rfl)
theorem iw_1009 : (Cond.instanceMethod yX9_trace) ∈ lw_tbl := it4 (List.mem_of_getElem? (i := 45) rfl)
theorem iw_1010 : (Cond.methodLink RL 127 yX9_trace) ∈ lw_tbl := it4 (List.mem_of_getElem? (i := 44) rfl)
theorem inv_X9_trace : ∀ w ∈ wsV RL 127 RX9 yX9_trace wsX9_trace, w ∈ lw_tbl := List.forall_mem_append.mpr ⟨List.forall_mem_cons.mpr ⟨iw_1010, List.forall_mem_cons.mpr ⟨iw_1009, List.forall_mem_cons.mpr ⟨iw_1008, List.forall_mem_cons.mpr ⟨iw_18, (fun _ h => absurd h List.not_mem_nil)⟩⟩⟩⟩, inw_wsX9_trace⟩
theorem gov_X9_trace : GoodIn (wsV RL 127 RX9 yX9_trace wsX9_trace) (wsV RL 127 RX9 yX9_trace wsX9_trace) := goodIn_sub (fun _ h => h) (by decide +kernel)
theorem iw_1011 : (Cond.selects RX10 yX10_trace yX10_trace) ∈ lw_tbl := it5 (List.mem_of_getElem? (i := 239) rfl)
theorem iw_1012 : (Cond.instanceMethod yX10_trace) ∈ lw_tbl := it5 (List.mem_of_getElem? (i := 238) rfl)
theorem iw_1013 : (Cond.methodLink RL 131 yX10_trace) ∈ lw_tbl := it5 (List.mem_of_getElem? (i := 237) rfl)
theorem inv_X10_trace : ∀ w ∈ wsV RL 131 RX10 yX10_trace wsX10_trace, w ∈ lw_tbl := List.forall_mem_append.mpr ⟨List.forall_mem_cons.mpr ⟨iw_1013, List.forall_mem_cons.mpr ⟨iw_1012, List.forall_mem_cons.mpr ⟨iw_1011, List.forall_mem_cons.mpr ⟨iw_156, (fun _ h => absurd h List.not_mem_nil)⟩⟩⟩⟩, inw_wsX10_trace⟩
theorem gov_X10_trace : GoodIn (wsV RL 131 RX10 yX10_trace wsX10_trace) (wsV RL 131 RX10 yX10_trace wsX10_trace) := goodIn_sub (fun _ h => h) (by decide +kernel)
theorem iw_1014 : (Cond.selects RX9 yX9_fault yX9_fault) ∈ lw_tbl := it4 (List.mem_of_getElem? (i := 50) rfl)
theorem iw_1015 : (Cond.instanceMethod yX9_fault) ∈ lw_tbl := it4 (List.mem_of_getElem? (i := 49) rfl)
theorem iw_1016 : (Cond.methodLink RL 132 yX9_fault) ∈ lw_tbl := it4 (List.mem_of_getElem? (i := 48) rfl)
theorem inv_X9_fault : ∀ w ∈ wsV RL 132 RX9 yX9_fault wsX9_fault, w ∈ lw_tbl := List.forall_mem_append.mpr ⟨List.forall_mem_cons.mpr ⟨iw_1016, List.forall_mem_cons.mpr ⟨iw_1015, List.forall_mem_cons.mpr ⟨iw_1014, List.forall_mem_cons.mpr ⟨iw_18, (fun _ h => absurd h List.not_mem_nil)⟩⟩⟩⟩, inw_wsX9_fault⟩
theorem gov_X9_fault : GoodIn (wsV RL 132 RX9 yX9_fault wsX9_fault) (wsV RL 132 RX9 yX9_fault wsX9_fault) := goodIn_sub (fun _ h => h) (by decide +kernel)
theorem iw_1017 : (Cond.selects RX10 yX10_fault yX10_fault) ∈ lw_tbl := it6 (List.mem_of_getElem? (i := 3) rfl)
theorem iw_1018 : (Cond.instanceMethod yX10_fault) ∈ lw_tbl := it6 (List.mem_of_getElem? (i := 2) rfl)
theorem iw_1019 : (Cond.methodLink RL 135 yX10_fault) ∈ lw_tbl := it6 (List.mem_of_getElem? (i := 1) rfl)
theorem inv_X10_fault : ∀ w ∈ wsV RL 135 RX10 yX10_fault wsX10_fault, w ∈ lw_tbl := List.forall_mem_append.mpr ⟨List.forall_mem_cons.mpr ⟨iw_1019, List.forall_mem_cons.mpr ⟨iw_1018, List.forall_mem_cons.mpr ⟨iw_1017, List.forall_mem_cons.mpr ⟨iw_156, (fun _ h => absurd h List.not_mem_nil)⟩⟩⟩⟩, inw_wsX10_fault⟩
theorem gov_X10_fault : GoodIn (wsV RL 135 RX10 yX10_fault wsX10_fault) (wsV RL 135 RX10 yX10_fault wsX10_fault) := goodIn_sub (fun _ h => h) (by decide +kernel)
theorem iw_1020 : (Cond.selects RX9 yX9_many yX9_many) ∈ lw_tbl := it4 (List.mem_of_getElem? (i := 54) rfl)
theorem iw_1021 : (Cond.instanceMethod yX9_many) ∈ lw_tbl := it4 (List.mem_of_getElem? (i := 53) rfl)
theorem iw_1022 : (Cond.methodLink RL 136 yX9_many) ∈ lw_tbl := it4 (List.mem_of_getElem? (i := 52) rfl)
theorem inv_X9_many : ∀ w ∈ wsV RL 136 RX9 yX9_many wsX9_many, w ∈ lw_tbl := List.forall_mem_append.mpr ⟨List.forall_mem_cons.mpr ⟨iw_1022, List.forall_mem_cons.mpr ⟨iw_1021, List.forall_mem_cons.mpr ⟨iw_1020, List.forall_mem_cons.mpr ⟨iw_18, (fun _ h => absurd h List.not_mem_nil)⟩⟩⟩⟩, inw_wsX9_many⟩
theorem gov_X9_many : GoodIn (wsV RL 136 RX9 yX9_many wsX9_many) (wsV RL 136 RX9 yX9_many wsX9_many) := goodIn_sub (fun _ h => h) (by decide +kernel)
theorem iw_1023 : (Cond.selects RX10 yX10_many yX10_many) ∈ lw_tbl := it6 (List.mem_of_getElem? (i := 7) rfl)
theorem iw_1024 : (Cond.instanceMethod yX10_many) ∈ lw_tbl := it6 (List.mem_of_getElem? (i := 6) rfl)
theorem iw_1025 : (Cond.methodLink RL 139 yX10_many) ∈ lw_tbl := it6 (List.mem_of_getElem? (i := 5) rfl)
theorem inv_X10_many : ∀ w ∈ wsV RL 139 RX10 yX10_many wsX10_many, w ∈ lw_tbl := List.forall_mem_append.mpr ⟨List.forall_mem_cons.mpr ⟨iw_1025, List.forall_mem_cons.mpr ⟨iw_1024, List.forall_mem_cons.mpr ⟨iw_1023, List.forall_mem_cons.mpr ⟨iw_156, (fun _ h => absurd h List.not_mem_nil)⟩⟩⟩⟩, inw_wsX10_many⟩
theorem gov_X10_many : GoodIn (wsV RL 139 RX10 yX10_many wsX10_many) (wsV RL 139 RX10 yX10_many wsX10_many) := goodIn_sub (fun _ h => h) (by decide +kernel)
theorem goi_X9 : GoodIn wsX9_init wsX9_init := goodIn_sub (fun _ h => h) (by decide +kernel)
theorem goi_X10 : GoodIn wsX10_init wsX10_init := goodIn_sub (fun _ h => h) (by decide +kernel)
theorem iw_1026 : (Cond.classLink RL 7 RX9) ∈ lw_tbl := it1 (List.mem_of_getElem? (i := 16) rfl)
theorem iw_1027 : (Cond.instantiable RX9 11) ∈ lw_tbl := it1 (List.mem_of_getElem? (i := 17) rfl)
theorem iw_1028 : (Cond.classLink RL 10 RX10) ∈ lw_tbl := it4 (List.mem_of_getElem? (i := 56) rfl)
theorem iw_1029 : (Cond.instantiable RX10 32) ∈ lw_tbl := it4 (List.mem_of_getElem? (i := 57) rfl)
theorem iw_1030 : (Cond.methodLink RL 9 yX9_init) ∈ lw_tbl := it1 (List.mem_of_getElem? (i := 18) rfl)
theorem iw_1031 : (Cond.methodLink RL 12 yX10_init) ∈ lw_tbl := it4 (List.mem_of_getElem? (i := 58) rfl)
theorem iw_1032 : (Cond.instanceMethod yX9_init) ∈ lw_tbl := it1 (List.mem_of_getElem? (i := 19) rfl)
theorem iw_1033 : (Cond.instanceMethod yX10_init) ∈ lw_tbl := it4 (List.mem_of_getElem? (i := 59) rfl)
