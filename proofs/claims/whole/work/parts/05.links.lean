/-! words of the tables, by their places; field links; method links; methods -/
/-- the tables' words that stay true -/
def lw_g : List Cond := lw_tbl.filter goodWord
theorem lg_in {w : Cond} (h : w ∈ lw_tbl) (g : goodWord w = true) : w ∈ lw_g := List.mem_filter.mpr ⟨h, g⟩
theorem lg_of {w : Cond} (h : w ∈ lw_g) : w ∈ lw_tbl ∧ goodWord w = true := List.mem_filter.mp h
theorem inT_X0 : ∀ w ∈ u_ws RX0 TX0 5, w ∈ lw_g := by decide +kernel
theorem inT_X1 : ∀ w ∈ u_ws RX1 TX1 3, w ∈ lw_g := by decide +kernel
theorem inT_X2 : ∀ w ∈ u_ws RX2 TX2 10, w ∈ lw_g := by decide +kernel
theorem inT_X3 : ∀ w ∈ u_ws RX3 TX3 2, w ∈ lw_g := by decide +kernel
theorem inT_X4 : ∀ w ∈ u_ws RX4 TX4 10, w ∈ lw_g := by decide +kernel
theorem inT_X5 : ∀ w ∈ u_ws RX5 TX5 1, w ∈ lw_g := by decide +kernel
theorem inT_X6 : ∀ w ∈ u_ws RX6 TX6 8, w ∈ lw_g := by decide +kernel
theorem inT_X7 : ∀ w ∈ u_ws RX7 TX7 20, w ∈ lw_g := by decide +kernel
/-- a field link: of own class, place in its pool; the class, the slot, final, type -/
def xFL (own : String) (idx ci k : Nat) (fin : Bool) (ty : FieldType) : Prop := ∃ (C : String) (T : u_T) (N : Nat) (tyf : Nat → FieldType), vwCl[ci]? = some (C, T, N) ∧ (∀ w ∈ u_ws C T N, w ∈ lw_g) ∧ k < N ∧ Cond.fieldLink own idx C (T k).2.1 (T k).2.2.1 ∈ lw_g ∧ (T k).1 = C ∧ (∀ k, k < N → parseFieldDescriptor (T k).2.2.1 = some (tyf k)) ∧ (∀ a, a < N → ∀ b, b < N → a ≠ b → (T a).2.1 ≠ (T b).2.1) ∧ (T k).2.2.2 = fin ∧ tyf k = ty
theorem tw_190 : Cond.fieldLink RX6 12 RX6 "now" "LJoinedRuns$State;" ∈ lw_g := lg_in (List.mem_of_getElem? (i := 190) (by decide +kernel)) rfl
theorem fl_X6_12 : xFL RX6 12 6 0 true (.object "JoinedRuns$State") := ⟨RX6, TX6, 8, tyX6, rfl, inT_X6, by decide, tw_190, rfl, tyX6_ok, nmX6, rfl, rfl⟩
theorem tw_191 : Cond.fieldLink RX6 19 RX6 "history" "LJoinedRuns$History;" ∈ lw_g := lg_in (List.mem_of_getElem? (i := 191) (by decide +kernel)) rfl
theorem fl_X6_19 : xFL RX6 19 6 1 true (.object "JoinedRuns$History") := ⟨RX6, TX6, 8, tyX6, rfl, inT_X6, by decide, tw_191, rfl, tyX6_ok, nmX6, rfl, rfl⟩
theorem tw_192 : Cond.fieldLink RX6 23 RX6 "slots" "[LJoinedRuns$State;" ∈ lw_g := lg_in (List.mem_of_getElem? (i := 192) (by decide +kernel)) rfl
theorem fl_X6_23 : xFL RX6 23 6 2 true (.array (.object "JoinedRuns$State")) := ⟨RX6, TX6, 8, tyX6, rfl, inT_X6, by decide, tw_192, rfl, tyX6_ok, nmX6, rfl, rfl⟩
theorem tw_193 : Cond.fieldLink RX6 27 RX6 "saved" "[Z" ∈ lw_g := lg_in (List.mem_of_getElem? (i := 193) (by decide +kernel)) rfl
theorem fl_X6_27 : xFL RX6 27 6 3 true (.array .boolean) := ⟨RX6, TX6, 8, tyX6, rfl, inT_X6, by decide, tw_193, rfl, tyX6_ok, nmX6, rfl, rfl⟩
theorem tw_194 : Cond.fieldLink RX6 34 RX6 "draft" "LJoinedRuns$Column;" ∈ lw_g := lg_in (List.mem_of_getElem? (i := 194) (by decide +kernel)) rfl
theorem fl_X6_34 : xFL RX6 34 6 4 true (.object "JoinedRuns$Column") := ⟨RX6, TX6, 8, tyX6, rfl, inT_X6, by decide, tw_194, rfl, tyX6_ok, nmX6, rfl, rfl⟩
theorem tw_195 : Cond.fieldLink RX6 41 RX6 "reader" "LJoinedRuns$OrderReader;" ∈ lw_g := lg_in (List.mem_of_getElem? (i := 195) (by decide +kernel)) rfl
theorem fl_X6_41 : xFL RX6 41 6 5 true (.object "JoinedRuns$OrderReader") := ⟨RX6, TX6, 8, tyX6, rfl, inT_X6, by decide, tw_195, rfl, tyX6_ok, nmX6, rfl, rfl⟩
theorem tw_196 : Cond.fieldLink RX6 49 RX6 "pad" "LJoinedRuns$Pad;" ∈ lw_g := lg_in (List.mem_of_getElem? (i := 196) (by decide +kernel)) rfl
theorem fl_X6_49 : xFL RX6 49 6 6 true (.object "JoinedRuns$Pad") := ⟨RX6, TX6, 8, tyX6, rfl, inT_X6, by decide, tw_196, rfl, tyX6_ok, nmX6, rfl, rfl⟩
theorem tw_197 : Cond.fieldLink RX6 52 RX6 "partners" "[I" ∈ lw_g := lg_in (List.mem_of_getElem? (i := 197) (by decide +kernel)) rfl
theorem fl_X6_52 : xFL RX6 52 6 7 true (.array .int) := ⟨RX6, TX6, 8, tyX6, rfl, inT_X6, by decide, tw_197, rfl, tyX6_ok, nmX6, rfl, rfl⟩
theorem tw_92 : Cond.fieldLink RX0 9 RX0 "values" "[I" ∈ lw_g := lg_in (List.mem_of_getElem? (i := 92) (by decide +kernel)) rfl
theorem fl_X0_9 : xFL RX0 9 0 0 true (.array .int) := ⟨RX0, TX0, 5, tyX0, rfl, inT_X0, by decide, tw_92, rfl, tyX0_ok, nmX0, rfl, rfl⟩
theorem tw_93 : Cond.fieldLink RX0 15 RX0 "lengths" "[I" ∈ lw_g := lg_in (List.mem_of_getElem? (i := 93) (by decide +kernel)) rfl
theorem fl_X0_15 : xFL RX0 15 0 1 true (.array .int) := ⟨RX0, TX0, 5, tyX0, rfl, inT_X0, by decide, tw_93, rfl, tyX0_ok, nmX0, rfl, rfl⟩
theorem tw_94 : Cond.fieldLink RX0 18 RX0 "runs" "I" ∈ lw_g := lg_in (List.mem_of_getElem? (i := 94) (by decide +kernel)) rfl
theorem fl_X0_18 : xFL RX0 18 0 2 false (.int) := ⟨RX0, TX0, 5, tyX0, rfl, inT_X0, by decide, tw_94, rfl, tyX0_ok, nmX0, rfl, rfl⟩
theorem tw_95 : Cond.fieldLink RX0 22 RX0 "rows" "I" ∈ lw_g := lg_in (List.mem_of_getElem? (i := 95) (by decide +kernel)) rfl
theorem fl_X0_22 : xFL RX0 22 0 3 false (.int) := ⟨RX0, TX0, 5, tyX0, rfl, inT_X0, by decide, tw_95, rfl, tyX0_ok, nmX0, rfl, rfl⟩
theorem tw_96 : Cond.fieldLink RX0 25 RX0 "overfull" "Z" ∈ lw_g := lg_in (List.mem_of_getElem? (i := 96) (by decide +kernel)) rfl
theorem fl_X0_25 : xFL RX0 25 0 4 false (.boolean) := ⟨RX0, TX0, 5, tyX0, rfl, inT_X0, by decide, tw_96, rfl, tyX0_ok, nmX0, rfl, rfl⟩
theorem tw_122 : Cond.fieldLink RX1 11 RX1 "states" "[LJoinedRuns$State;" ∈ lw_g := lg_in (List.mem_of_getElem? (i := 122) (by decide +kernel)) rfl
theorem fl_X1_11 : xFL RX1 11 1 0 true (.array (.object "JoinedRuns$State")) := ⟨RX1, TX1, 3, tyX1, rfl, inT_X1, by decide, tw_122, rfl, tyX1_ok, nmX1, rfl, rfl⟩
theorem tw_124 : Cond.fieldLink RX1 18 RX1 "kept" "I" ∈ lw_g := lg_in (List.mem_of_getElem? (i := 124) (by decide +kernel)) rfl
theorem fl_X1_18 : xFL RX1 18 1 2 false (.int) := ⟨RX1, TX1, 3, tyX1, rfl, inT_X1, by decide, tw_124, rfl, tyX1_ok, nmX1, rfl, rfl⟩
theorem tw_123 : Cond.fieldLink RX1 22 RX1 "oldest" "I" ∈ lw_g := lg_in (List.mem_of_getElem? (i := 123) (by decide +kernel)) rfl
theorem fl_X1_22 : xFL RX1 22 1 1 false (.int) := ⟨RX1, TX1, 3, tyX1, rfl, inT_X1, by decide, tw_123, rfl, tyX1_ok, nmX1, rfl, rfl⟩
theorem tw_155 : Cond.fieldLink RX2 12 RX2 "pad" "LJoinedRuns$Pad;" ∈ lw_g := lg_in (List.mem_of_getElem? (i := 155) (by decide +kernel)) rfl
theorem fl_X2_12 : xFL RX2 12 2 0 true (.object "JoinedRuns$Pad") := ⟨RX2, TX2, 10, tyX2, rfl, inT_X2, by decide, tw_155, rfl, tyX2_ok, nmX2, rfl, rfl⟩
theorem tw_156 : Cond.fieldLink RX2 18 RX2 "values" "[I" ∈ lw_g := lg_in (List.mem_of_getElem? (i := 156) (by decide +kernel)) rfl
theorem fl_X2_18 : xFL RX2 18 2 1 true (.array .int) := ⟨RX2, TX2, 10, tyX2, rfl, inT_X2, by decide, tw_156, rfl, tyX2_ok, nmX2, rfl, rfl⟩
theorem tw_157 : Cond.fieldLink RX2 22 RX2 "lengths" "[I" ∈ lw_g := lg_in (List.mem_of_getElem? (i := 157) (by decide +kernel)) rfl
theorem fl_X2_22 : xFL RX2 22 2 2 true (.array .int) := ⟨RX2, TX2, 10, tyX2, rfl, inT_X2, by decide, tw_157, rfl, tyX2_ok, nmX2, rfl, rfl⟩
theorem tw_160 : Cond.fieldLink RX2 25 RX2 "column" "I" ∈ lw_g := lg_in (List.mem_of_getElem? (i := 160) (by decide +kernel)) rfl
theorem fl_X2_25 : xFL RX2 25 2 5 false (.int) := ⟨RX2, TX2, 10, tyX2, rfl, inT_X2, by decide, tw_160, rfl, tyX2_ok, nmX2, rfl, rfl⟩
theorem tw_161 : Cond.fieldLink RX2 29 RX2 "kind" "C" ∈ lw_g := lg_in (List.mem_of_getElem? (i := 161) (by decide +kernel)) rfl
theorem fl_X2_29 : xFL RX2 29 2 6 false (.char) := ⟨RX2, TX2, 10, tyX2, rfl, inT_X2, by decide, tw_161, rfl, tyX2_ok, nmX2, rfl, rfl⟩
theorem tw_162 : Cond.fieldLink RX2 33 RX2 "row" "I" ∈ lw_g := lg_in (List.mem_of_getElem? (i := 162) (by decide +kernel)) rfl
theorem fl_X2_33 : xFL RX2 33 2 7 false (.int) := ⟨RX2, TX2, 10, tyX2, rfl, inT_X2, by decide, tw_162, rfl, tyX2_ok, nmX2, rfl, rfl⟩
theorem tw_163 : Cond.fieldLink RX2 36 RX2 "operand" "I" ∈ lw_g := lg_in (List.mem_of_getElem? (i := 163) (by decide +kernel)) rfl
theorem fl_X2_36 : xFL RX2 36 2 8 false (.int) := ⟨RX2, TX2, 10, tyX2, rfl, inT_X2, by decide, tw_163, rfl, tyX2_ok, nmX2, rfl, rfl⟩
theorem tw_158 : Cond.fieldLink RX2 39 RX2 "runs" "I" ∈ lw_g := lg_in (List.mem_of_getElem? (i := 158) (by decide +kernel)) rfl
theorem fl_X2_39 : xFL RX2 39 2 3 false (.int) := ⟨RX2, TX2, 10, tyX2, rfl, inT_X2, by decide, tw_158, rfl, tyX2_ok, nmX2, rfl, rfl⟩
theorem tw_159 : Cond.fieldLink RX2 42 RX2 "place" "I" ∈ lw_g := lg_in (List.mem_of_getElem? (i := 159) (by decide +kernel)) rfl
theorem fl_X2_42 : xFL RX2 42 2 4 false (.int) := ⟨RX2, TX2, 10, tyX2, rfl, inT_X2, by decide, tw_159, rfl, tyX2_ok, nmX2, rfl, rfl⟩
theorem tw_164 : Cond.fieldLink RX2 64 RX2 "number" "I" ∈ lw_g := lg_in (List.mem_of_getElem? (i := 164) (by decide +kernel)) rfl
theorem fl_X2_64 : xFL RX2 64 2 9 false (.int) := ⟨RX2, TX2, 10, tyX2, rfl, inT_X2, by decide, tw_164, rfl, tyX2_ok, nmX2, rfl, rfl⟩
theorem tw_146 : Cond.fieldLink RX3 9 RX3 "signs" "[C" ∈ lw_g := lg_in (List.mem_of_getElem? (i := 146) (by decide +kernel)) rfl
theorem fl_X3_9 : xFL RX3 9 3 0 true (.array .char) := ⟨RX3, TX3, 2, tyX3, rfl, inT_X3, by decide, tw_146, rfl, tyX3_ok, nmX3, rfl, rfl⟩
theorem tw_147 : Cond.fieldLink RX3 15 RX3 "length" "I" ∈ lw_g := lg_in (List.mem_of_getElem? (i := 147) (by decide +kernel)) rfl
theorem fl_X3_15 : xFL RX3 15 3 1 false (.int) := ⟨RX3, TX3, 2, tyX3, rfl, inT_X3, by decide, tw_147, rfl, tyX3_ok, nmX3, rfl, rfl⟩
theorem tw_369 : Cond.fieldLink RX4 7 RX4 "one" "LJoinedRuns$Column;" ∈ lw_g := lg_in (List.mem_of_getElem? (i := 369) (by decide +kernel)) rfl
theorem fl_X4_7 : xFL RX4 7 4 0 true (.object "JoinedRuns$Column") := ⟨RX4, TX4, 10, tyX4, rfl, inT_X4, by decide, tw_369, rfl, tyX4_ok, nmX4, rfl, rfl⟩
theorem tw_370 : Cond.fieldLink RX4 13 RX4 "other" "LJoinedRuns$Column;" ∈ lw_g := lg_in (List.mem_of_getElem? (i := 370) (by decide +kernel)) rfl
theorem fl_X4_13 : xFL RX4 13 4 1 true (.object "JoinedRuns$Column") := ⟨RX4, TX4, 10, tyX4, rfl, inT_X4, by decide, tw_370, rfl, tyX4_ok, nmX4, rfl, rfl⟩
theorem tw_375 : Cond.fieldLink RX4 16 RX4 "valueOfOne" "I" ∈ lw_g := lg_in (List.mem_of_getElem? (i := 375) (by decide +kernel)) rfl
theorem fl_X4_16 : xFL RX4 16 4 6 false (.int) := ⟨RX4, TX4, 10, tyX4, rfl, inT_X4, by decide, tw_375, rfl, tyX4_ok, nmX4, rfl, rfl⟩
theorem tw_376 : Cond.fieldLink RX4 20 RX4 "valueOfOther" "I" ∈ lw_g := lg_in (List.mem_of_getElem? (i := 376) (by decide +kernel)) rfl
theorem fl_X4_20 : xFL RX4 20 4 7 false (.int) := ⟨RX4, TX4, 10, tyX4, rfl, inT_X4, by decide, tw_376, rfl, tyX4_ok, nmX4, rfl, rfl⟩
theorem tw_378 : Cond.fieldLink RX4 23 RX4 "length" "I" ∈ lw_g := lg_in (List.mem_of_getElem? (i := 378) (by decide +kernel)) rfl
theorem fl_X4_23 : xFL RX4 23 4 9 false (.int) := ⟨RX4, TX4, 10, tyX4, rfl, inT_X4, by decide, tw_378, rfl, tyX4_ok, nmX4, rfl, rfl⟩
theorem tw_377 : Cond.fieldLink RX4 26 RX4 "firstRow" "I" ∈ lw_g := lg_in (List.mem_of_getElem? (i := 377) (by decide +kernel)) rfl
theorem fl_X4_26 : xFL RX4 26 4 8 false (.int) := ⟨RX4, TX4, 10, tyX4, rfl, inT_X4, by decide, tw_377, rfl, tyX4_ok, nmX4, rfl, rfl⟩
theorem tw_371 : Cond.fieldLink RX4 29 RX4 "runOfOne" "I" ∈ lw_g := lg_in (List.mem_of_getElem? (i := 371) (by decide +kernel)) rfl
theorem fl_X4_29 : xFL RX4 29 4 2 false (.int) := ⟨RX4, TX4, 10, tyX4, rfl, inT_X4, by decide, tw_371, rfl, tyX4_ok, nmX4, rfl, rfl⟩
theorem tw_372 : Cond.fieldLink RX4 38 RX4 "runOfOther" "I" ∈ lw_g := lg_in (List.mem_of_getElem? (i := 372) (by decide +kernel)) rfl
theorem fl_X4_38 : xFL RX4 38 4 3 false (.int) := ⟨RX4, TX4, 10, tyX4, rfl, inT_X4, by decide, tw_372, rfl, tyX4_ok, nmX4, rfl, rfl⟩
theorem tw_373 : Cond.fieldLink RX4 48 RX4 "passedOfOne" "I" ∈ lw_g := lg_in (List.mem_of_getElem? (i := 373) (by decide +kernel)) rfl
theorem fl_X4_48 : xFL RX4 48 4 4 false (.int) := ⟨RX4, TX4, 10, tyX4, rfl, inT_X4, by decide, tw_373, rfl, tyX4_ok, nmX4, rfl, rfl⟩
theorem tw_374 : Cond.fieldLink RX4 51 RX4 "passedOfOther" "I" ∈ lw_g := lg_in (List.mem_of_getElem? (i := 374) (by decide +kernel)) rfl
theorem fl_X4_51 : xFL RX4 51 4 5 false (.int) := ⟨RX4, TX4, 10, tyX4, rfl, inT_X4, by decide, tw_374, rfl, tyX4_ok, nmX4, rfl, rfl⟩
theorem tw_109 : Cond.fieldLink RX5 11 RX5 "columns" "[LJoinedRuns$Column;" ∈ lw_g := lg_in (List.mem_of_getElem? (i := 109) (by decide +kernel)) rfl
theorem fl_X5_11 : xFL RX5 11 5 0 true (.array (.object "JoinedRuns$Column")) := ⟨RX5, TX5, 1, tyX5, rfl, inT_X5, by decide, tw_109, rfl, tyX5_ok, nmX5, rfl, rfl⟩
theorem tw_706 : Cond.fieldLink RX7 7 RX7 "state" "[I" ∈ lw_g := lg_in (List.mem_of_getElem? (i := 706) (by decide +kernel)) rfl
theorem fl_X7_7 : xFL RX7 7 7 0 true (.array .int) := ⟨RX7, TX7, 20, tyX7, rfl, inT_X7, by decide, tw_706, rfl, tyX7_ok, nmX7, rfl, rfl⟩
theorem tw_707 : Cond.fieldLink RX7 13 RX7 "history" "[I" ∈ lw_g := lg_in (List.mem_of_getElem? (i := 707) (by decide +kernel)) rfl
theorem fl_X7_13 : xFL RX7 13 7 1 true (.array .int) := ⟨RX7, TX7, 20, tyX7, rfl, inT_X7, by decide, tw_707, rfl, tyX7_ok, nmX7, rfl, rfl⟩
theorem tw_709 : Cond.fieldLink RX7 16 RX7 "slots" "[I" ∈ lw_g := lg_in (List.mem_of_getElem? (i := 709) (by decide +kernel)) rfl
theorem fl_X7_16 : xFL RX7 16 7 3 true (.array .int) := ⟨RX7, TX7, 20, tyX7, rfl, inT_X7, by decide, tw_709, rfl, tyX7_ok, nmX7, rfl, rfl⟩
theorem tw_710 : Cond.fieldLink RX7 19 RX7 "isSaved" "[I" ∈ lw_g := lg_in (List.mem_of_getElem? (i := 710) (by decide +kernel)) rfl
theorem fl_X7_19 : xFL RX7 19 7 4 true (.array .int) := ⟨RX7, TX7, 20, tyX7, rfl, inT_X7, by decide, tw_710, rfl, tyX7_ok, nmX7, rfl, rfl⟩
theorem tw_711 : Cond.fieldLink RX7 22 RX7 "pad" "[I" ∈ lw_g := lg_in (List.mem_of_getElem? (i := 711) (by decide +kernel)) rfl
theorem fl_X7_22 : xFL RX7 22 7 5 true (.array .int) := ⟨RX7, TX7, 20, tyX7, rfl, inT_X7, by decide, tw_711, rfl, tyX7_ok, nmX7, rfl, rfl⟩
theorem tw_713 : Cond.fieldLink RX7 25 RX7 "rows" "[I" ∈ lw_g := lg_in (List.mem_of_getElem? (i := 713) (by decide +kernel)) rfl
theorem fl_X7_25 : xFL RX7 25 7 7 true (.array .int) := ⟨RX7, TX7, 20, tyX7, rfl, inT_X7, by decide, tw_713, rfl, tyX7_ok, nmX7, rfl, rfl⟩
theorem tw_715 : Cond.fieldLink RX7 28 RX7 "others" "[I" ∈ lw_g := lg_in (List.mem_of_getElem? (i := 715) (by decide +kernel)) rfl
theorem fl_X7_28 : xFL RX7 28 7 9 true (.array .int) := ⟨RX7, TX7, 20, tyX7, rfl, inT_X7, by decide, tw_715, rfl, tyX7_ok, nmX7, rfl, rfl⟩
theorem tw_717 : Cond.fieldLink RX7 31 RX7 "isThere" "[I" ∈ lw_g := lg_in (List.mem_of_getElem? (i := 717) (by decide +kernel)) rfl
theorem fl_X7_31 : xFL RX7 31 7 11 true (.array .int) := ⟨RX7, TX7, 20, tyX7, rfl, inT_X7, by decide, tw_717, rfl, tyX7_ok, nmX7, rfl, rfl⟩
theorem tw_723 : Cond.fieldLink RX7 34 RX7 "toldValues" "[I" ∈ lw_g := lg_in (List.mem_of_getElem? (i := 723) (by decide +kernel)) rfl
theorem fl_X7_34 : xFL RX7 34 7 17 true (.array .int) := ⟨RX7, TX7, 20, tyX7, rfl, inT_X7, by decide, tw_723, rfl, tyX7_ok, nmX7, rfl, rfl⟩
theorem tw_724 : Cond.fieldLink RX7 37 RX7 "toldLengths" "[I" ∈ lw_g := lg_in (List.mem_of_getElem? (i := 724) (by decide +kernel)) rfl
theorem fl_X7_37 : xFL RX7 37 7 18 true (.array .int) := ⟨RX7, TX7, 20, tyX7, rfl, inT_X7, by decide, tw_724, rfl, tyX7_ok, nmX7, rfl, rfl⟩
theorem tw_708 : Cond.fieldLink RX7 40 RX7 "recorded" "I" ∈ lw_g := lg_in (List.mem_of_getElem? (i := 708) (by decide +kernel)) rfl
theorem fl_X7_40 : xFL RX7 40 7 2 false (.int) := ⟨RX7, TX7, 20, tyX7, rfl, inT_X7, by decide, tw_708, rfl, tyX7_ok, nmX7, rfl, rfl⟩
theorem tw_714 : Cond.fieldLink RX7 63 RX7 "many" "I" ∈ lw_g := lg_in (List.mem_of_getElem? (i := 714) (by decide +kernel)) rfl
theorem fl_X7_63 : xFL RX7 63 7 8 false (.int) := ⟨RX7, TX7, 20, tyX7, rfl, inT_X7, by decide, tw_714, rfl, tyX7_ok, nmX7, rfl, rfl⟩
theorem tw_716 : Cond.fieldLink RX7 69 RX7 "othersMany" "I" ∈ lw_g := lg_in (List.mem_of_getElem? (i := 716) (by decide +kernel)) rfl
theorem fl_X7_69 : xFL RX7 69 7 10 false (.int) := ⟨RX7, TX7, 20, tyX7, rfl, inT_X7, by decide, tw_716, rfl, tyX7_ok, nmX7, rfl, rfl⟩
theorem tw_712 : Cond.fieldLink RX7 153 RX7 "padLength" "I" ∈ lw_g := lg_in (List.mem_of_getElem? (i := 712) (by decide +kernel)) rfl
theorem fl_X7_153 : xFL RX7 153 7 6 false (.int) := ⟨RX7, TX7, 20, tyX7, rfl, inT_X7, by decide, tw_712, rfl, tyX7_ok, nmX7, rfl, rfl⟩
theorem tw_718 : Cond.fieldLink RX7 170 RX7 "at" "I" ∈ lw_g := lg_in (List.mem_of_getElem? (i := 718) (by decide +kernel)) rfl
theorem fl_X7_170 : xFL RX7 170 7 12 false (.int) := ⟨RX7, TX7, 20, tyX7, rfl, inT_X7, by decide, tw_718, rfl, tyX7_ok, nmX7, rfl, rfl⟩
theorem tw_725 : Cond.fieldLink RX7 179 RX7 "toldMany" "I" ∈ lw_g := lg_in (List.mem_of_getElem? (i := 725) (by decide +kernel)) rfl
theorem fl_X7_179 : xFL RX7 179 7 19 false (.int) := ⟨RX7, TX7, 20, tyX7, rfl, inT_X7, by decide, tw_725, rfl, tyX7_ok, nmX7, rfl, rfl⟩
theorem tw_720 : Cond.fieldLink RX7 188 RX7 "letter" "I" ∈ lw_g := lg_in (List.mem_of_getElem? (i := 720) (by decide +kernel)) rfl
theorem fl_X7_188 : xFL RX7 188 7 14 false (.int) := ⟨RX7, TX7, 20, tyX7, rfl, inT_X7, by decide, tw_720, rfl, tyX7_ok, nmX7, rfl, rfl⟩
theorem tw_721 : Cond.fieldLink RX7 194 RX7 "first" "I" ∈ lw_g := lg_in (List.mem_of_getElem? (i := 721) (by decide +kernel)) rfl
theorem fl_X7_194 : xFL RX7 194 7 15 false (.int) := ⟨RX7, TX7, 20, tyX7, rfl, inT_X7, by decide, tw_721, rfl, tyX7_ok, nmX7, rfl, rfl⟩
theorem tw_722 : Cond.fieldLink RX7 197 RX7 "second" "I" ∈ lw_g := lg_in (List.mem_of_getElem? (i := 722) (by decide +kernel)) rfl
theorem fl_X7_197 : xFL RX7 197 7 16 false (.int) := ⟨RX7, TX7, 20, tyX7, rfl, inT_X7, by decide, tw_722, rfl, tyX7_ok, nmX7, rfl, rfl⟩
theorem tw_719 : Cond.fieldLink RX7 200 RX7 "column" "I" ∈ lw_g := lg_in (List.mem_of_getElem? (i := 719) (by decide +kernel)) rfl
theorem fl_X7_200 : xFL RX7 200 7 13 false (.int) := ⟨RX7, TX7, 20, tyX7, rfl, inT_X7, by decide, tw_719, rfl, tyX7_ok, nmX7, rfl, rfl⟩
abbrev XD : Type := MethodName × ByteArray × Nat × Option FieldType
theorem tw_75 : Cond.code yX6_init cX6_init 2 none ∈ lw_g := lg_in (List.mem_of_getElem? (i := 75) (by decide +kernel)) rfl
abbrev mX6_init : XD := (yX6_init, cX6_init, 2, none)
theorem cdX6_init : Cond.code mX6_init.1 mX6_init.2.1 mX6_init.2.2.1 mX6_init.2.2.2 ∈ lw_g := tw_75
theorem tw_83 : Cond.code yX5_init cX5_init 2 none ∈ lw_g := lg_in (List.mem_of_getElem? (i := 83) (by decide +kernel)) rfl
abbrev mX5_init : XD := (yX5_init, cX5_init, 2, none)
theorem cdX5_init : Cond.code mX5_init.1 mX5_init.2.1 mX5_init.2.2.1 mX5_init.2.2.2 ∈ lw_g := tw_83
theorem tw_90 : Cond.code yX0_init cX0_init 1 none ∈ lw_g := lg_in (List.mem_of_getElem? (i := 90) (by decide +kernel)) rfl
abbrev mX0_init : XD := (yX0_init, cX0_init, 1, none)
theorem cdX0_init : Cond.code mX0_init.1 mX0_init.2.1 mX0_init.2.2.1 mX0_init.2.2.2 ∈ lw_g := tw_90
theorem tw_117 : Cond.code yX1_init cX1_init 2 none ∈ lw_g := lg_in (List.mem_of_getElem? (i := 117) (by decide +kernel)) rfl
abbrev mX1_init : XD := (yX1_init, cX1_init, 2, none)
theorem cdX1_init : Cond.code mX1_init.1 mX1_init.2.1 mX1_init.2.2.1 mX1_init.2.2.2 ∈ lw_g := tw_117
theorem tw_138 : Cond.code yX2_init cX2_init 1 none ∈ lw_g := lg_in (List.mem_of_getElem? (i := 138) (by decide +kernel)) rfl
abbrev mX2_init : XD := (yX2_init, cX2_init, 1, none)
theorem cdX2_init : Cond.code mX2_init.1 mX2_init.2.1 mX2_init.2.2.1 mX2_init.2.2.2 ∈ lw_g := tw_138
theorem tw_144 : Cond.code yX3_init cX3_init 1 none ∈ lw_g := lg_in (List.mem_of_getElem? (i := 144) (by decide +kernel)) rfl
abbrev mX3_init : XD := (yX3_init, cX3_init, 1, none)
theorem cdX3_init : Cond.code mX3_init.1 mX3_init.2.1 mX3_init.2.2.1 mX3_init.2.2.2 ∈ lw_g := tw_144
theorem tw_189 : Cond.code yX2_pad cX2_pad 1 (some (.object "JoinedRuns$Pad")) ∈ lw_g := lg_in (List.mem_of_getElem? (i := 189) (by decide +kernel)) rfl
abbrev mX2_pad : XD := (yX2_pad, cX2_pad, 1, (some (.object "JoinedRuns$Pad")))
theorem cdX2_pad : Cond.code mX2_pad.1 mX2_pad.2.1 mX2_pad.2.2.1 mX2_pad.2.2.2 ∈ lw_g := tw_189
theorem tw_218 : Cond.code yX6_append cX6_append 5 (some .int) ∈ lw_g := lg_in (List.mem_of_getElem? (i := 218) (by decide +kernel)) rfl
abbrev mX6_append : XD := (yX6_append, cX6_append, 5, (some .int))
theorem cdX6_append : Cond.code mX6_append.1 mX6_append.2.1 mX6_append.2.2.1 mX6_append.2.2.2 ∈ lw_g := tw_218
theorem tw_222 : Cond.code yX6_draftAppend cX6_draftAppend 4 (some .int) ∈ lw_g := lg_in (List.mem_of_getElem? (i := 222) (by decide +kernel)) rfl
abbrev mX6_draftAppend : XD := (yX6_draftAppend, cX6_draftAppend, 4, (some .int))
theorem cdX6_draftAppend : Cond.code mX6_draftAppend.1 mX6_draftAppend.2.1 mX6_draftAppend.2.2.1 mX6_draftAppend.2.2.2 ∈ lw_g := tw_222
theorem tw_225 : Cond.code yX6_isColumn cX6_isColumn 1 (some .boolean) ∈ lw_g := lg_in (List.mem_of_getElem? (i := 225) (by decide +kernel)) rfl
abbrev mX6_isColumn : XD := (yX6_isColumn, cX6_isColumn, 1, (some .boolean))
theorem cdX6_isColumn : Cond.code mX6_isColumn.1 mX6_isColumn.2.1 mX6_isColumn.2.2.1 mX6_isColumn.2.2.2 ∈ lw_g := tw_225
theorem tw_228 : Cond.code yX6_isValue cX6_isValue 1 (some .boolean) ∈ lw_g := lg_in (List.mem_of_getElem? (i := 228) (by decide +kernel)) rfl
abbrev mX6_isValue : XD := (yX6_isValue, cX6_isValue, 1, (some .boolean))
theorem cdX6_isValue : Cond.code mX6_isValue.1 mX6_isValue.2.1 mX6_isValue.2.2.1 mX6_isValue.2.2.2 ∈ lw_g := tw_228
theorem tw_231 : Cond.code yX6_isLength cX6_isLength 1 (some .boolean) ∈ lw_g := lg_in (List.mem_of_getElem? (i := 231) (by decide +kernel)) rfl
abbrev mX6_isLength : XD := (yX6_isLength, cX6_isLength, 1, (some .boolean))
theorem cdX6_isLength : Cond.code mX6_isLength.1 mX6_isLength.2.1 mX6_isLength.2.2.1 mX6_isLength.2.2.2 ∈ lw_g := tw_231
theorem tw_235 : Cond.code yX5_column cX5_column 2 (some (.object "JoinedRuns$Column")) ∈ lw_g := lg_in (List.mem_of_getElem? (i := 235) (by decide +kernel)) rfl
abbrev mX5_column : XD := (yX5_column, cX5_column, 2, (some (.object "JoinedRuns$Column")))
theorem cdX5_column : Cond.code mX5_column.1 mX5_column.2.1 mX5_column.2.2.1 mX5_column.2.2.2 ∈ lw_g := tw_235
theorem tw_239 : Cond.code yX0_copyFrom cX0_copyFrom 2 none ∈ lw_g := lg_in (List.mem_of_getElem? (i := 239) (by decide +kernel)) rfl
abbrev mX0_copyFrom : XD := (yX0_copyFrom, cX0_copyFrom, 2, none)
theorem cdX0_copyFrom : Cond.code mX0_copyFrom.1 mX0_copyFrom.2.1 mX0_copyFrom.2.2.1 mX0_copyFrom.2.2.2 ∈ lw_g := tw_239
theorem tw_246 : Cond.code yX0_addRun cX0_addRun 3 none ∈ lw_g := lg_in (List.mem_of_getElem? (i := 246) (by decide +kernel)) rfl
abbrev mX0_addRun : XD := (yX0_addRun, cX0_addRun, 3, none)
theorem cdX0_addRun : Cond.code mX0_addRun.1 mX0_addRun.2.1 mX0_addRun.2.2.1 mX0_addRun.2.2.2 ∈ lw_g := tw_246
theorem tw_250 : Cond.code yX6_errorOfDraft cX6_errorOfDraft 1 (some .int) ∈ lw_g := lg_in (List.mem_of_getElem? (i := 250) (by decide +kernel)) rfl
abbrev mX6_errorOfDraft : XD := (yX6_errorOfDraft, cX6_errorOfDraft, 1, (some .int))
theorem cdX6_errorOfDraft : Cond.code mX6_errorOfDraft.1 mX6_errorOfDraft.2.1 mX6_errorOfDraft.2.2.1 mX6_errorOfDraft.2.2.2 ∈ lw_g := tw_250
theorem tw_254 : Cond.code yX0_isOverfull cX0_isOverfull 1 (some .boolean) ∈ lw_g := lg_in (List.mem_of_getElem? (i := 254) (by decide +kernel)) rfl
abbrev mX0_isOverfull : XD := (yX0_isOverfull, cX0_isOverfull, 1, (some .boolean))
theorem cdX0_isOverfull : Cond.code mX0_isOverfull.1 mX0_isOverfull.2.1 mX0_isOverfull.2.2.1 mX0_isOverfull.2.2.2 ∈ lw_g := tw_254
theorem tw_258 : Cond.code yX6_recordAndTakeDraft cX6_recordAndTakeDraft 2 none ∈ lw_g := lg_in (List.mem_of_getElem? (i := 258) (by decide +kernel)) rfl
abbrev mX6_recordAndTakeDraft : XD := (yX6_recordAndTakeDraft, cX6_recordAndTakeDraft, 2, none)
theorem cdX6_recordAndTakeDraft : Cond.code mX6_recordAndTakeDraft.1 mX6_recordAndTakeDraft.2.1 mX6_recordAndTakeDraft.2.2.1 mX6_recordAndTakeDraft.2.2.2 ∈ lw_g := tw_258
theorem tw_262 : Cond.code yX1_record cX1_record 2 none ∈ lw_g := lg_in (List.mem_of_getElem? (i := 262) (by decide +kernel)) rfl
abbrev mX1_record : XD := (yX1_record, cX1_record, 2, none)
theorem cdX1_record : Cond.code mX1_record.1 mX1_record.2.1 mX1_record.2.2.1 mX1_record.2.2.2 ∈ lw_g := tw_262
theorem tw_266 : Cond.code yX5_copyFrom cX5_copyFrom 3 none ∈ lw_g := lg_in (List.mem_of_getElem? (i := 266) (by decide +kernel)) rfl
abbrev mX5_copyFrom : XD := (yX5_copyFrom, cX5_copyFrom, 3, none)
theorem cdX5_copyFrom : Cond.code mX5_copyFrom.1 mX5_copyFrom.2.1 mX5_copyFrom.2.2.1 mX5_copyFrom.2.2.2 ∈ lw_g := tw_266
theorem tw_271 : Cond.code yX0_rows cX0_rows 1 (some .int) ∈ lw_g := lg_in (List.mem_of_getElem? (i := 271) (by decide +kernel)) rfl
abbrev mX0_rows : XD := (yX0_rows, cX0_rows, 1, (some .int))
theorem cdX0_rows : Cond.code mX0_rows.1 mX0_rows.2.1 mX0_rows.2.2.1 mX0_rows.2.2.2 ∈ lw_g := tw_271
theorem tw_275 : Cond.code yX6_insert cX6_insert 6 (some .int) ∈ lw_g := lg_in (List.mem_of_getElem? (i := 275) (by decide +kernel)) rfl
abbrev mX6_insert : XD := (yX6_insert, cX6_insert, 6, (some .int))
theorem cdX6_insert : Cond.code mX6_insert.1 mX6_insert.2.1 mX6_insert.2.2.1 mX6_insert.2.2.2 ∈ lw_g := tw_275
theorem tw_279 : Cond.code yX6_draftInsert cX6_draftInsert 6 (some .int) ∈ lw_g := lg_in (List.mem_of_getElem? (i := 279) (by decide +kernel)) rfl
abbrev mX6_draftInsert : XD := (yX6_draftInsert, cX6_draftInsert, 6, (some .int))
theorem cdX6_draftInsert : Cond.code mX6_draftInsert.1 mX6_draftInsert.2.1 mX6_draftInsert.2.2.1 mX6_draftInsert.2.2.2 ∈ lw_g := tw_279
theorem tw_283 : Cond.code yX0_clear cX0_clear 1 none ∈ lw_g := lg_in (List.mem_of_getElem? (i := 283) (by decide +kernel)) rfl
abbrev mX0_clear : XD := (yX0_clear, cX0_clear, 1, none)
theorem cdX0_clear : Cond.code mX0_clear.1 mX0_clear.2.1 mX0_clear.2.2.1 mX0_clear.2.2.2 ∈ lw_g := tw_283
theorem tw_287 : Cond.code yX0_addRows cX0_addRows 7 none ∈ lw_g := lg_in (List.mem_of_getElem? (i := 287) (by decide +kernel)) rfl
abbrev mX0_addRows : XD := (yX0_addRows, cX0_addRows, 7, none)
theorem cdX0_addRows : Cond.code mX0_addRows.1 mX0_addRows.2.1 mX0_addRows.2.2.1 mX0_addRows.2.2.2 ∈ lw_g := tw_287
theorem tw_290 : Cond.code yJ9_min_7cf53 cJ9_min_7cf53 2 (some .int) ∈ lw_g := lg_in (List.mem_of_getElem? (i := 290) (by decide +kernel)) rfl
abbrev mJ9_min_7cf53 : XD := (yJ9_min_7cf53, cJ9_min_7cf53, 2, (some .int))
theorem cdJ9_min_7cf53 : Cond.code mJ9_min_7cf53.1 mJ9_min_7cf53.2.1 mJ9_min_7cf53.2.2.1 mJ9_min_7cf53.2.2.2 ∈ lw_g := tw_290
theorem tw_293 : Cond.code yJ9_max_7cf53 cJ9_max_7cf53 2 (some .int) ∈ lw_g := lg_in (List.mem_of_getElem? (i := 293) (by decide +kernel)) rfl
abbrev mJ9_max_7cf53 : XD := (yJ9_max_7cf53, cJ9_max_7cf53, 2, (some .int))
theorem cdJ9_max_7cf53 : Cond.code mJ9_max_7cf53.1 mJ9_max_7cf53.2.1 mJ9_max_7cf53.2.2.1 mJ9_max_7cf53.2.2.2 ∈ lw_g := tw_293
theorem tw_298 : Cond.code yX0_runs cX0_runs 1 (some .int) ∈ lw_g := lg_in (List.mem_of_getElem? (i := 298) (by decide +kernel)) rfl
abbrev mX0_runs : XD := (yX0_runs, cX0_runs, 1, (some .int))
theorem cdX0_runs : Cond.code mX0_runs.1 mX0_runs.2.1 mX0_runs.2.2.1 mX0_runs.2.2.2 ∈ lw_g := tw_298
theorem tw_302 : Cond.code yX6_remove cX6_remove 5 (some .int) ∈ lw_g := lg_in (List.mem_of_getElem? (i := 302) (by decide +kernel)) rfl
abbrev mX6_remove : XD := (yX6_remove, cX6_remove, 5, (some .int))
theorem cdX6_remove : Cond.code mX6_remove.1 mX6_remove.2.1 mX6_remove.2.2.1 mX6_remove.2.2.2 ∈ lw_g := tw_302
theorem tw_306 : Cond.code yX6_draftRemove cX6_draftRemove 5 (some .int) ∈ lw_g := lg_in (List.mem_of_getElem? (i := 306) (by decide +kernel)) rfl
abbrev mX6_draftRemove : XD := (yX6_draftRemove, cX6_draftRemove, 5, (some .int))
theorem cdX6_draftRemove : Cond.code mX6_draftRemove.1 mX6_draftRemove.2.1 mX6_draftRemove.2.2.1 mX6_draftRemove.2.2.2 ∈ lw_g := tw_306
theorem tw_310 : Cond.code yX6_isRow cX6_isRow 3 (some .boolean) ∈ lw_g := lg_in (List.mem_of_getElem? (i := 310) (by decide +kernel)) rfl
abbrev mX6_isRow : XD := (yX6_isRow, cX6_isRow, 3, (some .boolean))
theorem cdX6_isRow : Cond.code mX6_isRow.1 mX6_isRow.2.1 mX6_isRow.2.2.1 mX6_isRow.2.2.2 ∈ lw_g := tw_310
theorem tw_314 : Cond.code yX6_set cX6_set 6 (some .int) ∈ lw_g := lg_in (List.mem_of_getElem? (i := 314) (by decide +kernel)) rfl
abbrev mX6_set : XD := (yX6_set, cX6_set, 6, (some .int))
theorem cdX6_set : Cond.code mX6_set.1 mX6_set.2.1 mX6_set.2.2.1 mX6_set.2.2.2 ∈ lw_g := tw_314
theorem tw_318 : Cond.code yX6_draftSet cX6_draftSet 5 (some .int) ∈ lw_g := lg_in (List.mem_of_getElem? (i := 318) (by decide +kernel)) rfl
abbrev mX6_draftSet : XD := (yX6_draftSet, cX6_draftSet, 5, (some .int))
theorem cdX6_draftSet : Cond.code mX6_draftSet.1 mX6_draftSet.2.1 mX6_draftSet.2.2.1 mX6_draftSet.2.2.2 ∈ lw_g := tw_318
theorem tw_322 : Cond.code yX0_valueOfRow cX0_valueOfRow 2 (some .int) ∈ lw_g := lg_in (List.mem_of_getElem? (i := 322) (by decide +kernel)) rfl
abbrev mX0_valueOfRow : XD := (yX0_valueOfRow, cX0_valueOfRow, 2, (some .int))
theorem cdX0_valueOfRow : Cond.code mX0_valueOfRow.1 mX0_valueOfRow.2.1 mX0_valueOfRow.2.2.1 mX0_valueOfRow.2.2.2 ∈ lw_g := tw_322
theorem tw_326 : Cond.code yX0_runOfRow cX0_runOfRow 4 (some .int) ∈ lw_g := lg_in (List.mem_of_getElem? (i := 326) (by decide +kernel)) rfl
abbrev mX0_runOfRow : XD := (yX0_runOfRow, cX0_runOfRow, 4, (some .int))
theorem cdX0_runOfRow : Cond.code mX0_runOfRow.1 mX0_runOfRow.2.1 mX0_runOfRow.2.2.1 mX0_runOfRow.2.2.2 ∈ lw_g := tw_326
theorem tw_330 : Cond.code yX0_valueOfRun cX0_valueOfRun 2 (some .int) ∈ lw_g := lg_in (List.mem_of_getElem? (i := 330) (by decide +kernel)) rfl
abbrev mX0_valueOfRun : XD := (yX0_valueOfRun, cX0_valueOfRun, 2, (some .int))
theorem cdX0_valueOfRun : Cond.code mX0_valueOfRun.1 mX0_valueOfRun.2.1 mX0_valueOfRun.2.2.1 mX0_valueOfRun.2.2.2 ∈ lw_g := tw_330
theorem tw_334 : Cond.code yX6_sort cX6_sort 3 (some .int) ∈ lw_g := lg_in (List.mem_of_getElem? (i := 334) (by decide +kernel)) rfl
abbrev mX6_sort : XD := (yX6_sort, cX6_sort, 3, (some .int))
theorem cdX6_sort : Cond.code mX6_sort.1 mX6_sort.2.1 mX6_sort.2.2.1 mX6_sort.2.2.2 ∈ lw_g := tw_334
theorem tw_338 : Cond.code yX6_draftSort cX6_draftSort 4 (some .int) ∈ lw_g := lg_in (List.mem_of_getElem? (i := 338) (by decide +kernel)) rfl
abbrev mX6_draftSort : XD := (yX6_draftSort, cX6_draftSort, 4, (some .int))
theorem cdX6_draftSort : Cond.code mX6_draftSort.1 mX6_draftSort.2.1 mX6_draftSort.2.2.1 mX6_draftSort.2.2.2 ∈ lw_g := tw_338
theorem tw_342 : Cond.code yX0_rowsOf cX0_rowsOf 4 (some .int) ∈ lw_g := lg_in (List.mem_of_getElem? (i := 342) (by decide +kernel)) rfl
abbrev mX0_rowsOf : XD := (yX0_rowsOf, cX0_rowsOf, 4, (some .int))
theorem cdX0_rowsOf : Cond.code mX0_rowsOf.1 mX0_rowsOf.2.1 mX0_rowsOf.2.2.1 mX0_rowsOf.2.2.2 ∈ lw_g := tw_342
theorem tw_346 : Cond.code yX6_turn cX6_turn 3 (some .int) ∈ lw_g := lg_in (List.mem_of_getElem? (i := 346) (by decide +kernel)) rfl
abbrev mX6_turn : XD := (yX6_turn, cX6_turn, 3, (some .int))
theorem cdX6_turn : Cond.code mX6_turn.1 mX6_turn.2.1 mX6_turn.2.2.1 mX6_turn.2.2.2 ∈ lw_g := tw_346
theorem tw_350 : Cond.code yX0_addTurned cX0_addTurned 3 none ∈ lw_g := lg_in (List.mem_of_getElem? (i := 350) (by decide +kernel)) rfl
abbrev mX0_addTurned : XD := (yX0_addTurned, cX0_addTurned, 3, none)
theorem cdX0_addTurned : Cond.code mX0_addTurned.1 mX0_addTurned.2.1 mX0_addTurned.2.2.1 mX0_addTurned.2.2.2 ∈ lw_g := tw_350
theorem tw_354 : Cond.code yX6_merge cX6_merge 6 (some .int) ∈ lw_g := lg_in (List.mem_of_getElem? (i := 354) (by decide +kernel)) rfl
abbrev mX6_merge : XD := (yX6_merge, cX6_merge, 6, (some .int))
theorem cdX6_merge : Cond.code mX6_merge.1 mX6_merge.2.1 mX6_merge.2.2.1 mX6_merge.2.2.2 ∈ lw_g := tw_354
theorem tw_358 : Cond.code yX6_draftMerge cX6_draftMerge 7 (some .int) ∈ lw_g := lg_in (List.mem_of_getElem? (i := 358) (by decide +kernel)) rfl
abbrev mX6_draftMerge : XD := (yX6_draftMerge, cX6_draftMerge, 7, (some .int))
theorem cdX6_draftMerge : Cond.code mX6_draftMerge.1 mX6_draftMerge.2.1 mX6_draftMerge.2.2.1 mX6_draftMerge.2.2.2 ∈ lw_g := tw_358
theorem tw_362 : Cond.code yX6_walkOver cX6_walkOver 3 (some (.object "JoinedRuns$PairWalk")) ∈ lw_g := lg_in (List.mem_of_getElem? (i := 362) (by decide +kernel)) rfl
abbrev mX6_walkOver : XD := (yX6_walkOver, cX6_walkOver, 3, (some (.object "JoinedRuns$PairWalk")))
theorem cdX6_walkOver : Cond.code mX6_walkOver.1 mX6_walkOver.2.1 mX6_walkOver.2.2.1 mX6_walkOver.2.2.2 ∈ lw_g := tw_362
theorem tw_367 : Cond.code yX4_init cX4_init 3 none ∈ lw_g := lg_in (List.mem_of_getElem? (i := 367) (by decide +kernel)) rfl
abbrev mX4_init : XD := (yX4_init, cX4_init, 3, none)
theorem cdX4_init : Cond.code mX4_init.1 mX4_init.2.1 mX4_init.2.2.1 mX4_init.2.2.2 ∈ lw_g := tw_367
theorem tw_403 : Cond.code yX4_advance cX4_advance 3 (some .boolean) ∈ lw_g := lg_in (List.mem_of_getElem? (i := 403) (by decide +kernel)) rfl
abbrev mX4_advance : XD := (yX4_advance, cX4_advance, 3, (some .boolean))
theorem cdX4_advance : Cond.code mX4_advance.1 mX4_advance.2.1 mX4_advance.2.2.1 mX4_advance.2.2.2 ∈ lw_g := tw_403
theorem tw_409 : Cond.code yX0_lengthOfRun cX0_lengthOfRun 2 (some .int) ∈ lw_g := lg_in (List.mem_of_getElem? (i := 409) (by decide +kernel)) rfl
abbrev mX0_lengthOfRun : XD := (yX0_lengthOfRun, cX0_lengthOfRun, 2, (some .int))
theorem cdX0_lengthOfRun : Cond.code mX0_lengthOfRun.1 mX0_lengthOfRun.2.1 mX0_lengthOfRun.2.2.1 mX0_lengthOfRun.2.2.2 ∈ lw_g := tw_409
theorem tw_414 : Cond.code yX4_valueOfOne cX4_valueOfOne 1 (some .int) ∈ lw_g := lg_in (List.mem_of_getElem? (i := 414) (by decide +kernel)) rfl
abbrev mX4_valueOfOne : XD := (yX4_valueOfOne, cX4_valueOfOne, 1, (some .int))
theorem cdX4_valueOfOne : Cond.code mX4_valueOfOne.1 mX4_valueOfOne.2.1 mX4_valueOfOne.2.2.1 mX4_valueOfOne.2.2.2 ∈ lw_g := tw_414
theorem tw_418 : Cond.code yX4_valueOfOther cX4_valueOfOther 1 (some .int) ∈ lw_g := lg_in (List.mem_of_getElem? (i := 418) (by decide +kernel)) rfl
abbrev mX4_valueOfOther : XD := (yX4_valueOfOther, cX4_valueOfOther, 1, (some .int))
theorem cdX4_valueOfOther : Cond.code mX4_valueOfOther.1 mX4_valueOfOther.2.1 mX4_valueOfOther.2.2.1 mX4_valueOfOther.2.2.2 ∈ lw_g := tw_418
theorem tw_423 : Cond.code yX4_length cX4_length 1 (some .int) ∈ lw_g := lg_in (List.mem_of_getElem? (i := 423) (by decide +kernel)) rfl
abbrev mX4_length : XD := (yX4_length, cX4_length, 1, (some .int))
theorem cdX4_length : Cond.code mX4_length.1 mX4_length.2.1 mX4_length.2.2.1 mX4_length.2.2.2 ∈ lw_g := tw_423
theorem tw_428 : Cond.code yX4_isAlike cX4_isAlike 1 (some .boolean) ∈ lw_g := lg_in (List.mem_of_getElem? (i := 428) (by decide +kernel)) rfl
abbrev mX4_isAlike : XD := (yX4_isAlike, cX4_isAlike, 1, (some .boolean))
theorem cdX4_isAlike : Cond.code mX4_isAlike.1 mX4_isAlike.2.1 mX4_isAlike.2.2.1 mX4_isAlike.2.2.2 ∈ lw_g := tw_428
theorem tw_432 : Cond.code yX6_run cX6_run 5 (some .int) ∈ lw_g := lg_in (List.mem_of_getElem? (i := 432) (by decide +kernel)) rfl
abbrev mX6_run : XD := (yX6_run, cX6_run, 5, (some .int))
theorem cdX6_run : Cond.code mX6_run.1 mX6_run.2.1 mX6_run.2.2.1 mX6_run.2.2.2 ∈ lw_g := tw_432
theorem tw_438 : Cond.code yX0_firstRowOfRun cX0_firstRowOfRun 4 (some .int) ∈ lw_g := lg_in (List.mem_of_getElem? (i := 438) (by decide +kernel)) rfl
abbrev mX0_firstRowOfRun : XD := (yX0_firstRowOfRun, cX0_firstRowOfRun, 4, (some .int))
theorem cdX0_firstRowOfRun : Cond.code mX0_firstRowOfRun.1 mX0_firstRowOfRun.2.1 mX0_firstRowOfRun.2.2.1 mX0_firstRowOfRun.2.2.2 ∈ lw_g := tw_438
theorem tw_442 : Cond.code yX6_value cX6_value 3 (some .int) ∈ lw_g := lg_in (List.mem_of_getElem? (i := 442) (by decide +kernel)) rfl
abbrev mX6_value : XD := (yX6_value, cX6_value, 3, (some .int))
theorem cdX6_value : Cond.code mX6_value.1 mX6_value.2.1 mX6_value.2.2.1 mX6_value.2.2.2 ∈ lw_g := tw_442
theorem tw_446 : Cond.code yX6_find cX6_find 4 (some .int) ∈ lw_g := lg_in (List.mem_of_getElem? (i := 446) (by decide +kernel)) rfl
abbrev mX6_find : XD := (yX6_find, cX6_find, 4, (some .int))
theorem cdX6_find : Cond.code mX6_find.1 mX6_find.2.1 mX6_find.2.2.1 mX6_find.2.2.2 ∈ lw_g := tw_446
theorem tw_450 : Cond.code yX0_rowOfRank cX0_rowOfRank 6 (some .int) ∈ lw_g := lg_in (List.mem_of_getElem? (i := 450) (by decide +kernel)) rfl
abbrev mX0_rowOfRank : XD := (yX0_rowOfRank, cX0_rowOfRank, 6, (some .int))
theorem cdX0_rowOfRank : Cond.code mX0_rowOfRank.1 mX0_rowOfRank.2.1 mX0_rowOfRank.2.2.1 mX0_rowOfRank.2.2.2 ∈ lw_g := tw_450
theorem tw_454 : Cond.code yX6_ofColumn cX6_ofColumn 4 (some .int) ∈ lw_g := lg_in (List.mem_of_getElem? (i := 454) (by decide +kernel)) rfl
abbrev mX6_ofColumn : XD := (yX6_ofColumn, cX6_ofColumn, 4, (some .int))
theorem cdX6_ofColumn : Cond.code mX6_ofColumn.1 mX6_ofColumn.2.1 mX6_ofColumn.2.2.1 mX6_ofColumn.2.2.2 ∈ lw_g := tw_454
theorem tw_458 : Cond.code yX0_sum cX0_sum 3 (some .int) ∈ lw_g := lg_in (List.mem_of_getElem? (i := 458) (by decide +kernel)) rfl
abbrev mX0_sum : XD := (yX0_sum, cX0_sum, 3, (some .int))
theorem cdX0_sum : Cond.code mX0_sum.1 mX0_sum.2.1 mX0_sum.2.2.1 mX0_sum.2.2.2 ∈ lw_g := tw_458
theorem tw_462 : Cond.code yX0_longest cX0_longest 3 (some .int) ∈ lw_g := lg_in (List.mem_of_getElem? (i := 462) (by decide +kernel)) rfl
abbrev mX0_longest : XD := (yX0_longest, cX0_longest, 3, (some .int))
theorem cdX0_longest : Cond.code mX0_longest.1 mX0_longest.2.1 mX0_longest.2.2.1 mX0_longest.2.2.2 ∈ lw_g := tw_462
theorem tw_466 : Cond.code yX0_valueSet cX0_valueSet 3 (some .int) ∈ lw_g := lg_in (List.mem_of_getElem? (i := 466) (by decide +kernel)) rfl
abbrev mX0_valueSet : XD := (yX0_valueSet, cX0_valueSet, 3, (some .int))
theorem cdX0_valueSet : Cond.code mX0_valueSet.1 mX0_valueSet.2.1 mX0_valueSet.2.2.1 mX0_valueSet.2.2.2 ∈ lw_g := tw_466
theorem tw_470 : Cond.code yX0_neverFalls cX0_neverFalls 2 (some .boolean) ∈ lw_g := lg_in (List.mem_of_getElem? (i := 470) (by decide +kernel)) rfl
abbrev mX0_neverFalls : XD := (yX0_neverFalls, cX0_neverFalls, 2, (some .boolean))
theorem cdX0_neverFalls : Cond.code mX0_neverFalls.1 mX0_neverFalls.2.1 mX0_neverFalls.2.2.1 mX0_neverFalls.2.2.2 ∈ lw_g := tw_470
theorem tw_474 : Cond.code yX0_neverRises cX0_neverRises 2 (some .boolean) ∈ lw_g := lg_in (List.mem_of_getElem? (i := 474) (by decide +kernel)) rfl
abbrev mX0_neverRises : XD := (yX0_neverRises, cX0_neverRises, 2, (some .boolean))
theorem cdX0_neverRises : Cond.code mX0_neverRises.1 mX0_neverRises.2.1 mX0_neverRises.2.2.1 mX0_neverRises.2.2.2 ∈ lw_g := tw_474
theorem tw_478 : Cond.code yX6_group cX6_group 5 (some .int) ∈ lw_g := lg_in (List.mem_of_getElem? (i := 478) (by decide +kernel)) rfl
abbrev mX6_group : XD := (yX6_group, cX6_group, 5, (some .int))
theorem cdX6_group : Cond.code mX6_group.1 mX6_group.2.1 mX6_group.2.2.1 mX6_group.2.2.2 ∈ lw_g := tw_478
theorem tw_482 : Cond.code yX0_runsOf cX0_runsOf 4 (some .int) ∈ lw_g := lg_in (List.mem_of_getElem? (i := 482) (by decide +kernel)) rfl
abbrev mX0_runsOf : XD := (yX0_runsOf, cX0_runsOf, 4, (some .int))
theorem cdX0_runsOf : Cond.code mX0_runsOf.1 mX0_runsOf.2.1 mX0_runsOf.2.2.1 mX0_runsOf.2.2.2 ∈ lw_g := tw_482
theorem tw_486 : Cond.code yX0_longestOf cX0_longestOf 4 (some .int) ∈ lw_g := lg_in (List.mem_of_getElem? (i := 486) (by decide +kernel)) rfl
abbrev mX0_longestOf : XD := (yX0_longestOf, cX0_longestOf, 4, (some .int))
theorem cdX0_longestOf : Cond.code mX0_longestOf.1 mX0_longestOf.2.1 mX0_longestOf.2.2.1 mX0_longestOf.2.2.2 ∈ lw_g := tw_486
theorem tw_490 : Cond.code yX6_count cX6_count 2 (some .int) ∈ lw_g := lg_in (List.mem_of_getElem? (i := 490) (by decide +kernel)) rfl
abbrev mX6_count : XD := (yX6_count, cX6_count, 2, (some .int))
theorem cdX6_count : Cond.code mX6_count.1 mX6_count.2.1 mX6_count.2.2.1 mX6_count.2.2.2 ∈ lw_g := tw_490
theorem tw_494 : Cond.code yX5_allRows cX5_allRows 3 (some .int) ∈ lw_g := lg_in (List.mem_of_getElem? (i := 494) (by decide +kernel)) rfl
abbrev mX5_allRows : XD := (yX5_allRows, cX5_allRows, 3, (some .int))
theorem cdX5_allRows : Cond.code mX5_allRows.1 mX5_allRows.2.1 mX5_allRows.2.2.1 mX5_allRows.2.2.2 ∈ lw_g := tw_494
theorem tw_499 : Cond.code yX5_allRuns cX5_allRuns 3 (some .int) ∈ lw_g := lg_in (List.mem_of_getElem? (i := 499) (by decide +kernel)) rfl
abbrev mX5_allRuns : XD := (yX5_allRuns, cX5_allRuns, 3, (some .int))
theorem cdX5_allRuns : Cond.code mX5_allRuns.1 mX5_allRuns.2.1 mX5_allRuns.2.2.1 mX5_allRuns.2.2.2 ∈ lw_g := tw_499
theorem tw_504 : Cond.code yX3_length cX3_length 1 (some .int) ∈ lw_g := lg_in (List.mem_of_getElem? (i := 504) (by decide +kernel)) rfl
abbrev mX3_length : XD := (yX3_length, cX3_length, 1, (some .int))
theorem cdX3_length : Cond.code mX3_length.1 mX3_length.2.1 mX3_length.2.2.1 mX3_length.2.2.2 ∈ lw_g := tw_504
theorem tw_508 : Cond.code yX1_kept cX1_kept 1 (some .int) ∈ lw_g := lg_in (List.mem_of_getElem? (i := 508) (by decide +kernel)) rfl
abbrev mX1_kept : XD := (yX1_kept, cX1_kept, 1, (some .int))
theorem cdX1_kept : Cond.code mX1_kept.1 mX1_kept.2.1 mX1_kept.2.2.1 mX1_kept.2.2.2 ∈ lw_g := tw_508
theorem tw_512 : Cond.code yX6_pair cX6_pair 7 (some .int) ∈ lw_g := lg_in (List.mem_of_getElem? (i := 512) (by decide +kernel)) rfl
abbrev mX6_pair : XD := (yX6_pair, cX6_pair, 7, (some .int))
theorem cdX6_pair : Cond.code mX6_pair.1 mX6_pair.2.1 mX6_pair.2.2.1 mX6_pair.2.2.2 ∈ lw_g := tw_512
theorem tw_516 : Cond.code yX4_firstRow cX4_firstRow 1 (some .int) ∈ lw_g := lg_in (List.mem_of_getElem? (i := 516) (by decide +kernel)) rfl
abbrev mX4_firstRow : XD := (yX4_firstRow, cX4_firstRow, 1, (some .int))
theorem cdX4_firstRow : Cond.code mX4_firstRow.1 mX4_firstRow.2.1 mX4_firstRow.2.2.1 mX4_firstRow.2.2.2 ∈ lw_g := tw_516
theorem tw_520 : Cond.code yX6_joined cX6_joined 4 (some .int) ∈ lw_g := lg_in (List.mem_of_getElem? (i := 520) (by decide +kernel)) rfl
abbrev mX6_joined : XD := (yX6_joined, cX6_joined, 4, (some .int))
theorem cdX6_joined : Cond.code mX6_joined.1 mX6_joined.2.1 mX6_joined.2.2.1 mX6_joined.2.2.2 ∈ lw_g := tw_520
theorem tw_523 : Cond.code yX6_runsOfPairs cX6_runsOfPairs 3 (some .int) ∈ lw_g := lg_in (List.mem_of_getElem? (i := 523) (by decide +kernel)) rfl
abbrev mX6_runsOfPairs : XD := (yX6_runsOfPairs, cX6_runsOfPairs, 3, (some .int))
theorem cdX6_runsOfPairs : Cond.code mX6_runsOfPairs.1 mX6_runsOfPairs.2.1 mX6_runsOfPairs.2.2.1 mX6_runsOfPairs.2.2.2 ∈ lw_g := tw_523
theorem tw_526 : Cond.code yX6_rowsAlike cX6_rowsAlike 3 (some .int) ∈ lw_g := lg_in (List.mem_of_getElem? (i := 526) (by decide +kernel)) rfl
abbrev mX6_rowsAlike : XD := (yX6_rowsAlike, cX6_rowsAlike, 3, (some .int))
theorem cdX6_rowsAlike : Cond.code mX6_rowsAlike.1 mX6_rowsAlike.2.1 mX6_rowsAlike.2.2.1 mX6_rowsAlike.2.2.2 ∈ lw_g := tw_526
theorem tw_529 : Cond.code yX6_sumOfProducts cX6_sumOfProducts 3 (some .int) ∈ lw_g := lg_in (List.mem_of_getElem? (i := 529) (by decide +kernel)) rfl
abbrev mX6_sumOfProducts : XD := (yX6_sumOfProducts, cX6_sumOfProducts, 3, (some .int))
theorem cdX6_sumOfProducts : Cond.code mX6_sumOfProducts.1 mX6_sumOfProducts.2.1 mX6_sumOfProducts.2.2.1 mX6_sumOfProducts.2.2.2 ∈ lw_g := tw_529
theorem tw_533 : Cond.code yX6_unlikePairs cX6_unlikePairs 4 (some .int) ∈ lw_g := lg_in (List.mem_of_getElem? (i := 533) (by decide +kernel)) rfl
abbrev mX6_unlikePairs : XD := (yX6_unlikePairs, cX6_unlikePairs, 4, (some .int))
theorem cdX6_unlikePairs : Cond.code mX6_unlikePairs.1 mX6_unlikePairs.2.1 mX6_unlikePairs.2.2.1 mX6_unlikePairs.2.2.2 ∈ lw_g := tw_533
theorem tw_536 : Cond.code yJ7_fill_53178 cJ7_fill_53178 4 none ∈ lw_g := lg_in (List.mem_of_getElem? (i := 536) (by decide +kernel)) rfl
abbrev mJ7_fill_53178 : XD := (yJ7_fill_53178, cJ7_fill_53178, 4, none)
theorem cdJ7_fill_53178 : Cond.code mJ7_fill_53178.1 mJ7_fill_53178.2.1 mJ7_fill_53178.2.2.1 mJ7_fill_53178.2.2.2 ∈ lw_g := tw_536
theorem tw_539 : Cond.code yJ6_bitCount_0f7a4 cJ6_bitCount_0f7a4 1 (some .int) ∈ lw_g := lg_in (List.mem_of_getElem? (i := 539) (by decide +kernel)) rfl
abbrev mJ6_bitCount_0f7a4 : XD := (yJ6_bitCount_0f7a4, cJ6_bitCount_0f7a4, 1, (some .int))
theorem cdJ6_bitCount_0f7a4 : Cond.code mJ6_bitCount_0f7a4.1 mJ6_bitCount_0f7a4.2.1 mJ6_bitCount_0f7a4.2.2.1 mJ6_bitCount_0f7a4.2.2.2 ∈ lw_g := tw_539
theorem tw_546 : Cond.code yX6_alike cX6_alike 5 (some .int) ∈ lw_g := lg_in (List.mem_of_getElem? (i := 546) (by decide +kernel)) rfl
abbrev mX6_alike : XD := (yX6_alike, cX6_alike, 5, (some .int))
theorem cdX6_alike : Cond.code mX6_alike.1 mX6_alike.2.1 mX6_alike.2.2.1 mX6_alike.2.2.2 ∈ lw_g := tw_546
theorem tw_550 : Cond.code yX6_saves cX6_saves 3 (some .int) ∈ lw_g := lg_in (List.mem_of_getElem? (i := 550) (by decide +kernel)) rfl
abbrev mX6_saves : XD := (yX6_saves, cX6_saves, 3, (some .int))
theorem cdX6_saves : Cond.code mX6_saves.1 mX6_saves.2.1 mX6_saves.2.2.1 mX6_saves.2.2.2 ∈ lw_g := tw_550
theorem tw_554 : Cond.code yX6_bestSet cX6_bestSet 6 (some .int) ∈ lw_g := lg_in (List.mem_of_getElem? (i := 554) (by decide +kernel)) rfl
abbrev mX6_bestSet : XD := (yX6_bestSet, cX6_bestSet, 6, (some .int))
theorem cdX6_bestSet : Cond.code mX6_bestSet.1 mX6_bestSet.2.1 mX6_bestSet.2.2.1 mX6_bestSet.2.2.2 ∈ lw_g := tw_554
theorem tw_558 : Cond.code yX0_bestRowToSet cX0_bestRowToSet 7 (some .int) ∈ lw_g := lg_in (List.mem_of_getElem? (i := 558) (by decide +kernel)) rfl
abbrev mX0_bestRowToSet : XD := (yX0_bestRowToSet, cX0_bestRowToSet, 7, (some .int))
theorem cdX0_bestRowToSet : Cond.code mX0_bestRowToSet.1 mX0_bestRowToSet.2.1 mX0_bestRowToSet.2.2.1 mX0_bestRowToSet.2.2.2 ∈ lw_g := tw_558
theorem tw_562 : Cond.code yX0_runsAfterSet cX0_runsAfterSet 8 (some .int) ∈ lw_g := lg_in (List.mem_of_getElem? (i := 562) (by decide +kernel)) rfl
abbrev mX0_runsAfterSet : XD := (yX0_runsAfterSet, cX0_runsAfterSet, 8, (some .int))
theorem cdX0_runsAfterSet : Cond.code mX0_runsAfterSet.1 mX0_runsAfterSet.2.1 mX0_runsAfterSet.2.2.1 mX0_runsAfterSet.2.2.2 ∈ lw_g := tw_562
theorem tw_569 : Cond.code yX6_put cX6_put 5 (some .int) ∈ lw_g := lg_in (List.mem_of_getElem? (i := 569) (by decide +kernel)) rfl
abbrev mX6_put : XD := (yX6_put, cX6_put, 5, (some .int))
theorem cdX6_put : Cond.code mX6_put.1 mX6_put.2.1 mX6_put.2.2.1 mX6_put.2.2.2 ∈ lw_g := tw_569
theorem tw_572 : Cond.code yX6_charactersIn cX6_charactersIn 8 (some .int) ∈ lw_g := lg_in (List.mem_of_getElem? (i := 572) (by decide +kernel)) rfl
abbrev mX6_charactersIn : XD := (yX6_charactersIn, cX6_charactersIn, 8, (some .int))
theorem cdX6_charactersIn : Cond.code mX6_charactersIn.1 mX6_charactersIn.2.1 mX6_charactersIn.2.2.1 mX6_charactersIn.2.2.2 ∈ lw_g := tw_572
theorem tw_579 : Cond.code yX3_add cX3_add 2 none ∈ lw_g := lg_in (List.mem_of_getElem? (i := 579) (by decide +kernel)) rfl
abbrev mX3_add : XD := (yX3_add, cX3_add, 2, none)
theorem cdX3_add : Cond.code mX3_add.1 mX3_add.2.1 mX3_add.2.2.1 mX3_add.2.2.2 ∈ lw_g := tw_579
theorem tw_583 : Cond.code yX6_wipe cX6_wipe 2 (some .int) ∈ lw_g := lg_in (List.mem_of_getElem? (i := 583) (by decide +kernel)) rfl
abbrev mX6_wipe : XD := (yX6_wipe, cX6_wipe, 2, (some .int))
theorem cdX6_wipe : Cond.code mX6_wipe.1 mX6_wipe.2.1 mX6_wipe.2.2.1 mX6_wipe.2.2.2 ∈ lw_g := tw_583
theorem tw_587 : Cond.code yX3_clear cX3_clear 1 none ∈ lw_g := lg_in (List.mem_of_getElem? (i := 587) (by decide +kernel)) rfl
abbrev mX3_clear : XD := (yX3_clear, cX3_clear, 1, none)
theorem cdX3_clear : Cond.code mX3_clear.1 mX3_clear.2.1 mX3_clear.2.2.1 mX3_clear.2.2.2 ∈ lw_g := tw_587
theorem tw_591 : Cond.code yX6_fault cX6_fault 1 (some .int) ∈ lw_g := lg_in (List.mem_of_getElem? (i := 591) (by decide +kernel)) rfl
abbrev mX6_fault : XD := (yX6_fault, cX6_fault, 1, (some .int))
theorem cdX6_fault : Cond.code mX6_fault.1 mX6_fault.2.1 mX6_fault.2.2.1 mX6_fault.2.2.2 ∈ lw_g := tw_591
theorem tw_595 : Cond.code yX2_firstFault cX2_firstFault 2 (some .int) ∈ lw_g := lg_in (List.mem_of_getElem? (i := 595) (by decide +kernel)) rfl
abbrev mX2_firstFault : XD := (yX2_firstFault, cX2_firstFault, 2, (some .int))
theorem cdX2_firstFault : Cond.code mX2_firstFault.1 mX2_firstFault.2.1 mX2_firstFault.2.2.1 mX2_firstFault.2.2.2 ∈ lw_g := tw_595
theorem tw_599 : Cond.code yX2_start cX2_start 1 none ∈ lw_g := lg_in (List.mem_of_getElem? (i := 599) (by decide +kernel)) rfl
abbrev mX2_start : XD := (yX2_start, cX2_start, 1, none)
theorem cdX2_start : Cond.code mX2_start.1 mX2_start.2.1 mX2_start.2.2.1 mX2_start.2.2.2 ∈ lw_g := tw_599
theorem tw_603 : Cond.code yX2_readOrder cX2_readOrder 1 (some .boolean) ∈ lw_g := lg_in (List.mem_of_getElem? (i := 603) (by decide +kernel)) rfl
abbrev mX2_readOrder : XD := (yX2_readOrder, cX2_readOrder, 1, (some .boolean))
theorem cdX2_readOrder : Cond.code mX2_readOrder.1 mX2_readOrder.2.1 mX2_readOrder.2.2.1 mX2_readOrder.2.2.2 ∈ lw_g := tw_603
theorem tw_607 : Cond.code yX2_readDigit cX2_readDigit 3 (some .boolean) ∈ lw_g := lg_in (List.mem_of_getElem? (i := 607) (by decide +kernel)) rfl
abbrev mX2_readDigit : XD := (yX2_readDigit, cX2_readDigit, 3, (some .boolean))
theorem cdX2_readDigit : Cond.code mX2_readDigit.1 mX2_readDigit.2.1 mX2_readDigit.2.2.1 mX2_readDigit.2.2.2 ∈ lw_g := tw_607
theorem tw_611 : Cond.code yX3_signAt cX3_signAt 2 (some .char) ∈ lw_g := lg_in (List.mem_of_getElem? (i := 611) (by decide +kernel)) rfl
abbrev mX3_signAt : XD := (yX3_signAt, cX3_signAt, 2, (some .char))
theorem cdX3_signAt : Cond.code mX3_signAt.1 mX3_signAt.2.1 mX3_signAt.2.2.1 mX3_signAt.2.2.2 ∈ lw_g := tw_611
theorem tw_615 : Cond.code yX2_passes cX2_passes 2 (some .boolean) ∈ lw_g := lg_in (List.mem_of_getElem? (i := 615) (by decide +kernel)) rfl
abbrev mX2_passes : XD := (yX2_passes, cX2_passes, 2, (some .boolean))
theorem cdX2_passes : Cond.code mX2_passes.1 mX2_passes.2.1 mX2_passes.2.2.1 mX2_passes.2.2.2 ∈ lw_g := tw_615
theorem tw_619 : Cond.code yX2_readRuns cX2_readRuns 2 (some .boolean) ∈ lw_g := lg_in (List.mem_of_getElem? (i := 619) (by decide +kernel)) rfl
abbrev mX2_readRuns : XD := (yX2_readRuns, cX2_readRuns, 2, (some .boolean))
theorem cdX2_readRuns : Cond.code mX2_readRuns.1 mX2_readRuns.2.1 mX2_readRuns.2.2.1 mX2_readRuns.2.2.2 ∈ lw_g := tw_619
theorem tw_623 : Cond.code yX2_readNumber cX2_readNumber 3 (some .boolean) ∈ lw_g := lg_in (List.mem_of_getElem? (i := 623) (by decide +kernel)) rfl
abbrev mX2_readNumber : XD := (yX2_readNumber, cX2_readNumber, 3, (some .boolean))
theorem cdX2_readNumber : Cond.code mX2_readNumber.1 mX2_readNumber.2.1 mX2_readNumber.2.2.1 mX2_readNumber.2.2.2 ∈ lw_g := tw_623
theorem tw_627 : Cond.code yX2_readRow cX2_readRow 1 (some .boolean) ∈ lw_g := lg_in (List.mem_of_getElem? (i := 627) (by decide +kernel)) rfl
abbrev mX2_readRow : XD := (yX2_readRow, cX2_readRow, 1, (some .boolean))
theorem cdX2_readRow : Cond.code mX2_readRow.1 mX2_readRow.2.1 mX2_readRow.2.2.1 mX2_readRow.2.2.2 ∈ lw_g := tw_627
theorem tw_631 : Cond.code yX2_keepOperand cX2_keepOperand 1 (some .boolean) ∈ lw_g := lg_in (List.mem_of_getElem? (i := 631) (by decide +kernel)) rfl
abbrev mX2_keepOperand : XD := (yX2_keepOperand, cX2_keepOperand, 1, (some .boolean))
theorem cdX2_keepOperand : Cond.code mX2_keepOperand.1 mX2_keepOperand.2.1 mX2_keepOperand.2.2.1 mX2_keepOperand.2.2.2 ∈ lw_g := tw_631
theorem tw_636 : Cond.code yX6_carryOut cX6_carryOut 2 (some .int) ∈ lw_g := lg_in (List.mem_of_getElem? (i := 636) (by decide +kernel)) rfl
abbrev mX6_carryOut : XD := (yX6_carryOut, cX6_carryOut, 2, (some .int))
theorem cdX6_carryOut : Cond.code mX6_carryOut.1 mX6_carryOut.2.1 mX6_carryOut.2.2.1 mX6_carryOut.2.2.2 ∈ lw_g := tw_636
theorem tw_640 : Cond.code yX6_obeyOrders cX6_obeyOrders 3 (some .int) ∈ lw_g := lg_in (List.mem_of_getElem? (i := 640) (by decide +kernel)) rfl
abbrev mX6_obeyOrders : XD := (yX6_obeyOrders, cX6_obeyOrders, 3, (some .int))
theorem cdX6_obeyOrders : Cond.code mX6_obeyOrders.1 mX6_obeyOrders.2.1 mX6_obeyOrders.2.2.1 mX6_obeyOrders.2.2.2 ∈ lw_g := tw_640
theorem tw_646 : Cond.code yX6_draftOrder cX6_draftOrder 3 (some .int) ∈ lw_g := lg_in (List.mem_of_getElem? (i := 646) (by decide +kernel)) rfl
abbrev mX6_draftOrder : XD := (yX6_draftOrder, cX6_draftOrder, 3, (some .int))
theorem cdX6_draftOrder : Cond.code mX6_draftOrder.1 mX6_draftOrder.2.1 mX6_draftOrder.2.2.1 mX6_draftOrder.2.2.2 ∈ lw_g := tw_646
theorem tw_650 : Cond.code yX2_column cX2_column 1 (some .int) ∈ lw_g := lg_in (List.mem_of_getElem? (i := 650) (by decide +kernel)) rfl
abbrev mX2_column : XD := (yX2_column, cX2_column, 1, (some .int))
theorem cdX2_column : Cond.code mX2_column.1 mX2_column.2.1 mX2_column.2.2.1 mX2_column.2.2.2 ∈ lw_g := tw_650
theorem tw_654 : Cond.code yX2_kind cX2_kind 1 (some .char) ∈ lw_g := lg_in (List.mem_of_getElem? (i := 654) (by decide +kernel)) rfl
abbrev mX2_kind : XD := (yX2_kind, cX2_kind, 1, (some .char))
theorem cdX2_kind : Cond.code mX2_kind.1 mX2_kind.2.1 mX2_kind.2.2.1 mX2_kind.2.2.2 ∈ lw_g := tw_654
theorem tw_658 : Cond.code yX2_row cX2_row 1 (some .int) ∈ lw_g := lg_in (List.mem_of_getElem? (i := 658) (by decide +kernel)) rfl
abbrev mX2_row : XD := (yX2_row, cX2_row, 1, (some .int))
theorem cdX2_row : Cond.code mX2_row.1 mX2_row.2.1 mX2_row.2.2.1 mX2_row.2.2.2 ∈ lw_g := tw_658
theorem tw_662 : Cond.code yX2_operand cX2_operand 1 (some .int) ∈ lw_g := lg_in (List.mem_of_getElem? (i := 662) (by decide +kernel)) rfl
abbrev mX2_operand : XD := (yX2_operand, cX2_operand, 1, (some .int))
theorem cdX2_operand : Cond.code mX2_operand.1 mX2_operand.2.1 mX2_operand.2.2.1 mX2_operand.2.2.2 ∈ lw_g := tw_662
theorem tw_666 : Cond.code yX6_draftRunsOfOrder cX6_draftRunsOfOrder 2 (some .int) ∈ lw_g := lg_in (List.mem_of_getElem? (i := 666) (by decide +kernel)) rfl
abbrev mX6_draftRunsOfOrder : XD := (yX6_draftRunsOfOrder, cX6_draftRunsOfOrder, 2, (some .int))
theorem cdX6_draftRunsOfOrder : Cond.code mX6_draftRunsOfOrder.1 mX6_draftRunsOfOrder.2.1 mX6_draftRunsOfOrder.2.2.1 mX6_draftRunsOfOrder.2.2.2 ∈ lw_g := tw_666
theorem tw_670 : Cond.code yX2_runs cX2_runs 1 (some .int) ∈ lw_g := lg_in (List.mem_of_getElem? (i := 670) (by decide +kernel)) rfl
abbrev mX2_runs : XD := (yX2_runs, cX2_runs, 1, (some .int))
theorem cdX2_runs : Cond.code mX2_runs.1 mX2_runs.2.1 mX2_runs.2.2.1 mX2_runs.2.2.2 ∈ lw_g := tw_670
theorem tw_674 : Cond.code yX2_lengthOfRun cX2_lengthOfRun 2 (some .int) ∈ lw_g := lg_in (List.mem_of_getElem? (i := 674) (by decide +kernel)) rfl
abbrev mX2_lengthOfRun : XD := (yX2_lengthOfRun, cX2_lengthOfRun, 2, (some .int))
theorem cdX2_lengthOfRun : Cond.code mX2_lengthOfRun.1 mX2_lengthOfRun.2.1 mX2_lengthOfRun.2.2.1 mX2_lengthOfRun.2.2.2 ∈ lw_g := tw_674
theorem tw_678 : Cond.code yX2_valueOfRun cX2_valueOfRun 2 (some .int) ∈ lw_g := lg_in (List.mem_of_getElem? (i := 678) (by decide +kernel)) rfl
abbrev mX2_valueOfRun : XD := (yX2_valueOfRun, cX2_valueOfRun, 2, (some .int))
theorem cdX2_valueOfRun : Cond.code mX2_valueOfRun.1 mX2_valueOfRun.2.1 mX2_valueOfRun.2.2.1 mX2_valueOfRun.2.2.2 ∈ lw_g := tw_678
theorem tw_683 : Cond.code yX6_undo cX6_undo 1 (some .int) ∈ lw_g := lg_in (List.mem_of_getElem? (i := 683) (by decide +kernel)) rfl
abbrev mX6_undo : XD := (yX6_undo, cX6_undo, 1, (some .int))
theorem cdX6_undo : Cond.code mX6_undo.1 mX6_undo.2.1 mX6_undo.2.2.1 mX6_undo.2.2.2 ∈ lw_g := tw_683
theorem tw_687 : Cond.code yX1_takeBack cX1_takeBack 2 none ∈ lw_g := lg_in (List.mem_of_getElem? (i := 687) (by decide +kernel)) rfl
abbrev mX1_takeBack : XD := (yX1_takeBack, cX1_takeBack, 2, none)
theorem cdX1_takeBack : Cond.code mX1_takeBack.1 mX1_takeBack.2.1 mX1_takeBack.2.2.1 mX1_takeBack.2.2.2 ∈ lw_g := tw_687
theorem tw_691 : Cond.code yX6_save cX6_save 2 (some .int) ∈ lw_g := lg_in (List.mem_of_getElem? (i := 691) (by decide +kernel)) rfl
abbrev mX6_save : XD := (yX6_save, cX6_save, 2, (some .int))
theorem cdX6_save : Cond.code mX6_save.1 mX6_save.2.1 mX6_save.2.2.1 mX6_save.2.2.2 ∈ lw_g := tw_691
theorem tw_694 : Cond.code yX6_isSlot cX6_isSlot 1 (some .boolean) ∈ lw_g := lg_in (List.mem_of_getElem? (i := 694) (by decide +kernel)) rfl
abbrev mX6_isSlot : XD := (yX6_isSlot, cX6_isSlot, 1, (some .boolean))
theorem cdX6_isSlot : Cond.code mX6_isSlot.1 mX6_isSlot.2.1 mX6_isSlot.2.2.1 mX6_isSlot.2.2.2 ∈ lw_g := tw_694
theorem tw_699 : Cond.code yX6_restore cX6_restore 2 (some .int) ∈ lw_g := lg_in (List.mem_of_getElem? (i := 699) (by decide +kernel)) rfl
abbrev mX6_restore : XD := (yX6_restore, cX6_restore, 2, (some .int))
theorem cdX6_restore : Cond.code mX6_restore.1 mX6_restore.2.1 mX6_restore.2.2.1 mX6_restore.2.2.2 ∈ lw_g := tw_699
theorem tw_704 : Cond.code yX7_init cX7_init 1 none ∈ lw_g := lg_in (List.mem_of_getElem? (i := 704) (by decide +kernel)) rfl
abbrev mX7_init : XD := (yX7_init, cX7_init, 1, none)
theorem cdX7_init : Cond.code mX7_init.1 mX7_init.2.1 mX7_init.2.2.1 mX7_init.2.2.2 ∈ lw_g := tw_704
theorem tw_770 : Cond.code yX7_append cX7_append 4 (some .int) ∈ lw_g := lg_in (List.mem_of_getElem? (i := 770) (by decide +kernel)) rfl
abbrev mX7_append : XD := (yX7_append, cX7_append, 4, (some .int))
theorem cdX7_append : Cond.code mX7_append.1 mX7_append.2.1 mX7_append.2.2.1 mX7_append.2.2.2 ∈ lw_g := tw_770
theorem tw_773 : Cond.code yX7_isColumn cX7_isColumn 1 (some .boolean) ∈ lw_g := lg_in (List.mem_of_getElem? (i := 773) (by decide +kernel)) rfl
abbrev mX7_isColumn : XD := (yX7_isColumn, cX7_isColumn, 1, (some .boolean))
theorem cdX7_isColumn : Cond.code mX7_isColumn.1 mX7_isColumn.2.1 mX7_isColumn.2.2.1 mX7_isColumn.2.2.2 ∈ lw_g := tw_773
theorem tw_776 : Cond.code yX7_within cX7_within 3 (some .boolean) ∈ lw_g := lg_in (List.mem_of_getElem? (i := 776) (by decide +kernel)) rfl
abbrev mX7_within : XD := (yX7_within, cX7_within, 3, (some .boolean))
theorem cdX7_within : Cond.code mX7_within.1 mX7_within.2.1 mX7_within.2.2.1 mX7_within.2.2.2 ∈ lw_g := tw_776
theorem tw_779 : Cond.code yX7_isValue cX7_isValue 1 (some .boolean) ∈ lw_g := lg_in (List.mem_of_getElem? (i := 779) (by decide +kernel)) rfl
abbrev mX7_isValue : XD := (yX7_isValue, cX7_isValue, 1, (some .boolean))
theorem cdX7_isValue : Cond.code mX7_isValue.1 mX7_isValue.2.1 mX7_isValue.2.2.1 mX7_isValue.2.2.2 ∈ lw_g := tw_779
theorem tw_783 : Cond.code yX7_layOut cX7_layOut 4 none ∈ lw_g := lg_in (List.mem_of_getElem? (i := 783) (by decide +kernel)) rfl
abbrev mX7_layOut : XD := (yX7_layOut, cX7_layOut, 4, none)
theorem cdX7_layOut : Cond.code mX7_layOut.1 mX7_layOut.2.1 mX7_layOut.2.2.1 mX7_layOut.2.2.2 ∈ lw_g := tw_783
theorem tw_787 : Cond.code yX7_runsOf cX7_runsOf 2 (some .int) ∈ lw_g := lg_in (List.mem_of_getElem? (i := 787) (by decide +kernel)) rfl
abbrev mX7_runsOf : XD := (yX7_runsOf, cX7_runsOf, 2, (some .int))
theorem cdX7_runsOf : Cond.code mX7_runsOf.1 mX7_runsOf.2.1 mX7_runsOf.2.2.1 mX7_runsOf.2.2.2 ∈ lw_g := tw_787
theorem tw_791 : Cond.code yX7_lengthOf cX7_lengthOf 3 (some .int) ∈ lw_g := lg_in (List.mem_of_getElem? (i := 791) (by decide +kernel)) rfl
abbrev mX7_lengthOf : XD := (yX7_lengthOf, cX7_lengthOf, 3, (some .int))
theorem cdX7_lengthOf : Cond.code mX7_lengthOf.1 mX7_lengthOf.2.1 mX7_lengthOf.2.2.1 mX7_lengthOf.2.2.2 ∈ lw_g := tw_791
theorem tw_795 : Cond.code yX7_valueOf cX7_valueOf 3 (some .int) ∈ lw_g := lg_in (List.mem_of_getElem? (i := 795) (by decide +kernel)) rfl
abbrev mX7_valueOf : XD := (yX7_valueOf, cX7_valueOf, 3, (some .int))
theorem cdX7_valueOf : Cond.code mX7_valueOf.1 mX7_valueOf.2.1 mX7_valueOf.2.2.1 mX7_valueOf.2.2.2 ∈ lw_g := tw_795
theorem tw_799 : Cond.code yX7_putIn cX7_putIn 5 none ∈ lw_g := lg_in (List.mem_of_getElem? (i := 799) (by decide +kernel)) rfl
abbrev mX7_putIn : XD := (yX7_putIn, cX7_putIn, 5, none)
theorem cdX7_putIn : Cond.code mX7_putIn.1 mX7_putIn.2.1 mX7_putIn.2.2.1 mX7_putIn.2.2.2 ∈ lw_g := tw_799
theorem tw_803 : Cond.code yX7_isTooMany cX7_isTooMany 1 (some .boolean) ∈ lw_g := lg_in (List.mem_of_getElem? (i := 803) (by decide +kernel)) rfl
abbrev mX7_isTooMany : XD := (yX7_isTooMany, cX7_isTooMany, 1, (some .boolean))
theorem cdX7_isTooMany : Cond.code mX7_isTooMany.1 mX7_isTooMany.2.1 mX7_isTooMany.2.2.1 mX7_isTooMany.2.2.2 ∈ lw_g := tw_803
theorem tw_807 : Cond.code yX7_runsLaid cX7_runsLaid 3 (some .int) ∈ lw_g := lg_in (List.mem_of_getElem? (i := 807) (by decide +kernel)) rfl
abbrev mX7_runsLaid : XD := (yX7_runsLaid, cX7_runsLaid, 3, (some .int))
theorem cdX7_runsLaid : Cond.code mX7_runsLaid.1 mX7_runsLaid.2.1 mX7_runsLaid.2.2.1 mX7_runsLaid.2.2.2 ∈ lw_g := tw_807
theorem tw_811 : Cond.code yX7_record cX7_record 2 none ∈ lw_g := lg_in (List.mem_of_getElem? (i := 811) (by decide +kernel)) rfl
abbrev mX7_record : XD := (yX7_record, cX7_record, 2, none)
theorem cdX7_record : Cond.code mX7_record.1 mX7_record.2.1 mX7_record.2.2.1 mX7_record.2.2.2 ∈ lw_g := tw_811
theorem tw_814 : Cond.code yX7_moves cX7_moves 5 none ∈ lw_g := lg_in (List.mem_of_getElem? (i := 814) (by decide +kernel)) rfl
abbrev mX7_moves : XD := (yX7_moves, cX7_moves, 5, none)
theorem cdX7_moves : Cond.code mX7_moves.1 mX7_moves.2.1 mX7_moves.2.2.1 mX7_moves.2.2.2 ∈ lw_g := tw_814
theorem tw_818 : Cond.code yX7_gets cX7_gets 4 none ∈ lw_g := lg_in (List.mem_of_getElem? (i := 818) (by decide +kernel)) rfl
abbrev mX7_gets : XD := (yX7_gets, cX7_gets, 4, none)
theorem cdX7_gets : Cond.code mX7_gets.1 mX7_gets.2.1 mX7_gets.2.2.1 mX7_gets.2.2.2 ∈ lw_g := tw_818
theorem tw_822 : Cond.code yX7_insert cX7_insert 5 (some .int) ∈ lw_g := lg_in (List.mem_of_getElem? (i := 822) (by decide +kernel)) rfl
abbrev mX7_insert : XD := (yX7_insert, cX7_insert, 5, (some .int))
theorem cdX7_insert : Cond.code mX7_insert.1 mX7_insert.2.1 mX7_insert.2.2.1 mX7_insert.2.2.2 ∈ lw_g := tw_822
theorem tw_826 : Cond.code yX7_rowsOf cX7_rowsOf 4 (some .int) ∈ lw_g := lg_in (List.mem_of_getElem? (i := 826) (by decide +kernel)) rfl
abbrev mX7_rowsOf : XD := (yX7_rowsOf, cX7_rowsOf, 4, (some .int))
theorem cdX7_rowsOf : Cond.code mX7_rowsOf.1 mX7_rowsOf.2.1 mX7_rowsOf.2.2.1 mX7_rowsOf.2.2.2 ∈ lw_g := tw_826
theorem tw_830 : Cond.code yX7_remove cX7_remove 5 (some .int) ∈ lw_g := lg_in (List.mem_of_getElem? (i := 830) (by decide +kernel)) rfl
abbrev mX7_remove : XD := (yX7_remove, cX7_remove, 5, (some .int))
theorem cdX7_remove : Cond.code mX7_remove.1 mX7_remove.2.1 mX7_remove.2.2.1 mX7_remove.2.2.2 ∈ lw_g := tw_830
theorem tw_834 : Cond.code yX7_whyNotRemoved cX7_whyNotRemoved 4 (some .int) ∈ lw_g := lg_in (List.mem_of_getElem? (i := 834) (by decide +kernel)) rfl
abbrev mX7_whyNotRemoved : XD := (yX7_whyNotRemoved, cX7_whyNotRemoved, 4, (some .int))
theorem cdX7_whyNotRemoved : Cond.code mX7_whyNotRemoved.1 mX7_whyNotRemoved.2.1 mX7_whyNotRemoved.2.2.1 mX7_whyNotRemoved.2.2.2 ∈ lw_g := tw_834
theorem tw_838 : Cond.code yX7_isRow cX7_isRow 3 (some .boolean) ∈ lw_g := lg_in (List.mem_of_getElem? (i := 838) (by decide +kernel)) rfl
abbrev mX7_isRow : XD := (yX7_isRow, cX7_isRow, 3, (some .boolean))
theorem cdX7_isRow : Cond.code mX7_isRow.1 mX7_isRow.2.1 mX7_isRow.2.2.1 mX7_isRow.2.2.2 ∈ lw_g := tw_838
theorem tw_842 : Cond.code yX7_removes cX7_removes 5 (some .int) ∈ lw_g := lg_in (List.mem_of_getElem? (i := 842) (by decide +kernel)) rfl
abbrev mX7_removes : XD := (yX7_removes, cX7_removes, 5, (some .int))
theorem cdX7_removes : Cond.code mX7_removes.1 mX7_removes.2.1 mX7_removes.2.2.1 mX7_removes.2.2.2 ∈ lw_g := tw_842
theorem tw_846 : Cond.code yX7_set cX7_set 6 (some .int) ∈ lw_g := lg_in (List.mem_of_getElem? (i := 846) (by decide +kernel)) rfl
abbrev mX7_set : XD := (yX7_set, cX7_set, 6, (some .int))
theorem cdX7_set : Cond.code mX7_set.1 mX7_set.2.1 mX7_set.2.2.1 mX7_set.2.2.2 ∈ lw_g := tw_846
theorem tw_850 : Cond.code yX7_whyNotSet cX7_whyNotSet 4 (some .int) ∈ lw_g := lg_in (List.mem_of_getElem? (i := 850) (by decide +kernel)) rfl
abbrev mX7_whyNotSet : XD := (yX7_whyNotSet, cX7_whyNotSet, 4, (some .int))
theorem cdX7_whyNotSet : Cond.code mX7_whyNotSet.1 mX7_whyNotSet.2.1 mX7_whyNotSet.2.2.1 mX7_whyNotSet.2.2.2 ∈ lw_g := tw_850
theorem tw_854 : Cond.code yX7_valueAt cX7_valueAt 5 (some .int) ∈ lw_g := lg_in (List.mem_of_getElem? (i := 854) (by decide +kernel)) rfl
abbrev mX7_valueAt : XD := (yX7_valueAt, cX7_valueAt, 5, (some .int))
theorem cdX7_valueAt : Cond.code mX7_valueAt.1 mX7_valueAt.2.1 mX7_valueAt.2.2.1 mX7_valueAt.2.2.2 ∈ lw_g := tw_854
theorem tw_858 : Cond.code yX7_sort cX7_sort 2 (some .int) ∈ lw_g := lg_in (List.mem_of_getElem? (i := 858) (by decide +kernel)) rfl
abbrev mX7_sort : XD := (yX7_sort, cX7_sort, 2, (some .int))
theorem cdX7_sort : Cond.code mX7_sort.1 mX7_sort.2.1 mX7_sort.2.2.1 mX7_sort.2.2.2 ∈ lw_g := tw_858
theorem tw_862 : Cond.code yX7_sorts cX7_sorts 4 (some .int) ∈ lw_g := lg_in (List.mem_of_getElem? (i := 862) (by decide +kernel)) rfl
abbrev mX7_sorts : XD := (yX7_sorts, cX7_sorts, 4, (some .int))
theorem cdX7_sorts : Cond.code mX7_sorts.1 mX7_sorts.2.1 mX7_sorts.2.2.1 mX7_sorts.2.2.2 ∈ lw_g := tw_862
theorem tw_866 : Cond.code yX7_layOutOther cX7_layOutOther 4 none ∈ lw_g := lg_in (List.mem_of_getElem? (i := 866) (by decide +kernel)) rfl
abbrev mX7_layOutOther : XD := (yX7_layOutOther, cX7_layOutOther, 4, none)
theorem cdX7_layOutOther : Cond.code mX7_layOutOther.1 mX7_layOutOther.2.1 mX7_layOutOther.2.2.1 mX7_layOutOther.2.2.2 ∈ lw_g := tw_866
theorem tw_870 : Cond.code yX7_turn cX7_turn 4 (some .int) ∈ lw_g := lg_in (List.mem_of_getElem? (i := 870) (by decide +kernel)) rfl
abbrev mX7_turn : XD := (yX7_turn, cX7_turn, 4, (some .int))
theorem cdX7_turn : Cond.code mX7_turn.1 mX7_turn.2.1 mX7_turn.2.2.1 mX7_turn.2.2.2 ∈ lw_g := tw_870
theorem tw_874 : Cond.code yX7_merge cX7_merge 9 (some .int) ∈ lw_g := lg_in (List.mem_of_getElem? (i := 874) (by decide +kernel)) rfl
abbrev mX7_merge : XD := (yX7_merge, cX7_merge, 9, (some .int))
theorem cdX7_merge : Cond.code mX7_merge.1 mX7_merge.2.1 mX7_merge.2.2.1 mX7_merge.2.2.2 ∈ lw_g := tw_874
theorem tw_878 : Cond.code yX7_layOutBoth cX7_layOutBoth 3 (some .int) ∈ lw_g := lg_in (List.mem_of_getElem? (i := 878) (by decide +kernel)) rfl
abbrev mX7_layOutBoth : XD := (yX7_layOutBoth, cX7_layOutBoth, 3, (some .int))
theorem cdX7_layOutBoth : Cond.code mX7_layOutBoth.1 mX7_layOutBoth.2.1 mX7_layOutBoth.2.2.1 mX7_layOutBoth.2.2.2 ∈ lw_g := tw_878
theorem tw_882 : Cond.code yX7_run cX7_run 4 (some .int) ∈ lw_g := lg_in (List.mem_of_getElem? (i := 882) (by decide +kernel)) rfl
abbrev mX7_run : XD := (yX7_run, cX7_run, 4, (some .int))
theorem cdX7_run : Cond.code mX7_run.1 mX7_run.2.1 mX7_run.2.2.1 mX7_run.2.2.2 ∈ lw_g := tw_882
theorem tw_886 : Cond.code yX7_firstRow cX7_firstRow 5 (some .int) ∈ lw_g := lg_in (List.mem_of_getElem? (i := 886) (by decide +kernel)) rfl
abbrev mX7_firstRow : XD := (yX7_firstRow, cX7_firstRow, 5, (some .int))
theorem cdX7_firstRow : Cond.code mX7_firstRow.1 mX7_firstRow.2.1 mX7_firstRow.2.2.1 mX7_firstRow.2.2.2 ∈ lw_g := tw_886
theorem tw_890 : Cond.code yX7_value cX7_value 3 (some .int) ∈ lw_g := lg_in (List.mem_of_getElem? (i := 890) (by decide +kernel)) rfl
abbrev mX7_value : XD := (yX7_value, cX7_value, 3, (some .int))
theorem cdX7_value : Cond.code mX7_value.1 mX7_value.2.1 mX7_value.2.2.1 mX7_value.2.2.2 ∈ lw_g := tw_890
theorem tw_894 : Cond.code yX7_find cX7_find 6 (some .int) ∈ lw_g := lg_in (List.mem_of_getElem? (i := 894) (by decide +kernel)) rfl
abbrev mX7_find : XD := (yX7_find, cX7_find, 6, (some .int))
theorem cdX7_find : Cond.code mX7_find.1 mX7_find.2.1 mX7_find.2.2.1 mX7_find.2.2.2 ∈ lw_g := tw_894
theorem tw_898 : Cond.code yX7_ofColumn cX7_ofColumn 3 (some .int) ∈ lw_g := lg_in (List.mem_of_getElem? (i := 898) (by decide +kernel)) rfl
abbrev mX7_ofColumn : XD := (yX7_ofColumn, cX7_ofColumn, 3, (some .int))
theorem cdX7_ofColumn : Cond.code mX7_ofColumn.1 mX7_ofColumn.2.1 mX7_ofColumn.2.2.1 mX7_ofColumn.2.2.2 ∈ lw_g := tw_898
theorem tw_902 : Cond.code yX7_sumOf cX7_sumOf 4 (some .int) ∈ lw_g := lg_in (List.mem_of_getElem? (i := 902) (by decide +kernel)) rfl
abbrev mX7_sumOf : XD := (yX7_sumOf, cX7_sumOf, 4, (some .int))
theorem cdX7_sumOf : Cond.code mX7_sumOf.1 mX7_sumOf.2.1 mX7_sumOf.2.2.1 mX7_sumOf.2.2.2 ∈ lw_g := tw_902
theorem tw_906 : Cond.code yX7_longest cX7_longest 6 (some .int) ∈ lw_g := lg_in (List.mem_of_getElem? (i := 906) (by decide +kernel)) rfl
abbrev mX7_longest : XD := (yX7_longest, cX7_longest, 6, (some .int))
theorem cdX7_longest : Cond.code mX7_longest.1 mX7_longest.2.1 mX7_longest.2.2.1 mX7_longest.2.2.2 ∈ lw_g := tw_906
theorem tw_910 : Cond.code yX7_valuesOf cX7_valuesOf 4 (some .int) ∈ lw_g := lg_in (List.mem_of_getElem? (i := 910) (by decide +kernel)) rfl
abbrev mX7_valuesOf : XD := (yX7_valuesOf, cX7_valuesOf, 4, (some .int))
theorem cdX7_valuesOf : Cond.code mX7_valuesOf.1 mX7_valuesOf.2.1 mX7_valuesOf.2.2.1 mX7_valuesOf.2.2.2 ∈ lw_g := tw_910
theorem tw_914 : Cond.code yX7_isInOrder cX7_isInOrder 5 (some .boolean) ∈ lw_g := lg_in (List.mem_of_getElem? (i := 914) (by decide +kernel)) rfl
abbrev mX7_isInOrder : XD := (yX7_isInOrder, cX7_isInOrder, 5, (some .boolean))
theorem cdX7_isInOrder : Cond.code mX7_isInOrder.1 mX7_isInOrder.2.1 mX7_isInOrder.2.2.1 mX7_isInOrder.2.2.2 ∈ lw_g := tw_914
theorem tw_918 : Cond.code yX7_group cX7_group 4 (some .int) ∈ lw_g := lg_in (List.mem_of_getElem? (i := 918) (by decide +kernel)) rfl
abbrev mX7_group : XD := (yX7_group, cX7_group, 4, (some .int))
theorem cdX7_group : Cond.code mX7_group.1 mX7_group.2.1 mX7_group.2.2.1 mX7_group.2.2.2 ∈ lw_g := tw_918
theorem tw_922 : Cond.code yX7_ofValue cX7_ofValue 7 (some .int) ∈ lw_g := lg_in (List.mem_of_getElem? (i := 922) (by decide +kernel)) rfl
abbrev mX7_ofValue : XD := (yX7_ofValue, cX7_ofValue, 7, (some .int))
theorem cdX7_ofValue : Cond.code mX7_ofValue.1 mX7_ofValue.2.1 mX7_ofValue.2.2.1 mX7_ofValue.2.2.2 ∈ lw_g := tw_922
theorem tw_926 : Cond.code yX7_count cX7_count 2 (some .int) ∈ lw_g := lg_in (List.mem_of_getElem? (i := 926) (by decide +kernel)) rfl
abbrev mX7_count : XD := (yX7_count, cX7_count, 2, (some .int))
theorem cdX7_count : Cond.code mX7_count.1 mX7_count.2.1 mX7_count.2.2.1 mX7_count.2.2.2 ∈ lw_g := tw_926
theorem tw_930 : Cond.code yX7_allRows cX7_allRows 3 (some .int) ∈ lw_g := lg_in (List.mem_of_getElem? (i := 930) (by decide +kernel)) rfl
abbrev mX7_allRows : XD := (yX7_allRows, cX7_allRows, 3, (some .int))
theorem cdX7_allRows : Cond.code mX7_allRows.1 mX7_allRows.2.1 mX7_allRows.2.2.1 mX7_allRows.2.2.2 ∈ lw_g := tw_930
theorem tw_934 : Cond.code yX7_allRuns cX7_allRuns 3 (some .int) ∈ lw_g := lg_in (List.mem_of_getElem? (i := 934) (by decide +kernel)) rfl
abbrev mX7_allRuns : XD := (yX7_allRuns, cX7_allRuns, 3, (some .int))
theorem cdX7_allRuns : Cond.code mX7_allRuns.1 mX7_allRuns.2.1 mX7_allRuns.2.2.1 mX7_allRuns.2.2.2 ∈ lw_g := tw_934
theorem tw_938 : Cond.code yX7_pair cX7_pair 11 (some .int) ∈ lw_g := lg_in (List.mem_of_getElem? (i := 938) (by decide +kernel)) rfl
abbrev mX7_pair : XD := (yX7_pair, cX7_pair, 11, (some .int))
theorem cdX7_pair : Cond.code mX7_pair.1 mX7_pair.2.1 mX7_pair.2.2.1 mX7_pair.2.2.2 ∈ lw_g := tw_938
theorem tw_942 : Cond.code yX7_isFirstPair cX7_isFirstPair 2 (some .boolean) ∈ lw_g := lg_in (List.mem_of_getElem? (i := 942) (by decide +kernel)) rfl
abbrev mX7_isFirstPair : XD := (yX7_isFirstPair, cX7_isFirstPair, 2, (some .boolean))
theorem cdX7_isFirstPair : Cond.code mX7_isFirstPair.1 mX7_isFirstPair.2.1 mX7_isFirstPair.2.2.1 mX7_isFirstPair.2.2.2 ∈ lw_g := tw_942
theorem tw_946 : Cond.code yX7_joined cX7_joined 4 (some .int) ∈ lw_g := lg_in (List.mem_of_getElem? (i := 946) (by decide +kernel)) rfl
abbrev mX7_joined : XD := (yX7_joined, cX7_joined, 4, (some .int))
theorem cdX7_joined : Cond.code mX7_joined.1 mX7_joined.2.1 mX7_joined.2.2.1 mX7_joined.2.2.2 ∈ lw_g := tw_946
theorem tw_950 : Cond.code yX7_ofPairs cX7_ofPairs 9 (some .int) ∈ lw_g := lg_in (List.mem_of_getElem? (i := 950) (by decide +kernel)) rfl
abbrev mX7_ofPairs : XD := (yX7_ofPairs, cX7_ofPairs, 9, (some .int))
theorem cdX7_ofPairs : Cond.code mX7_ofPairs.1 mX7_ofPairs.2.1 mX7_ofPairs.2.2.1 mX7_ofPairs.2.2.2 ∈ lw_g := tw_950
theorem tw_954 : Cond.code yX7_alike cX7_alike 5 (some .int) ∈ lw_g := lg_in (List.mem_of_getElem? (i := 954) (by decide +kernel)) rfl
abbrev mX7_alike : XD := (yX7_alike, cX7_alike, 5, (some .int))
theorem cdX7_alike : Cond.code mX7_alike.1 mX7_alike.2.1 mX7_alike.2.2.1 mX7_alike.2.2.2 ∈ lw_g := tw_954
theorem tw_958 : Cond.code yX7_saves cX7_saves 2 (some .int) ∈ lw_g := lg_in (List.mem_of_getElem? (i := 958) (by decide +kernel)) rfl
abbrev mX7_saves : XD := (yX7_saves, cX7_saves, 2, (some .int))
theorem cdX7_saves : Cond.code mX7_saves.1 mX7_saves.2.1 mX7_saves.2.2.1 mX7_saves.2.2.2 ∈ lw_g := tw_958
theorem tw_961 : Cond.code yX7_bits cX7_bits 3 (some .int) ∈ lw_g := lg_in (List.mem_of_getElem? (i := 961) (by decide +kernel)) rfl
abbrev mX7_bits : XD := (yX7_bits, cX7_bits, 3, (some .int))
theorem cdX7_bits : Cond.code mX7_bits.1 mX7_bits.2.1 mX7_bits.2.2.1 mX7_bits.2.2.2 ∈ lw_g := tw_961
theorem tw_965 : Cond.code yX7_bestSet cX7_bestSet 10 (some .int) ∈ lw_g := lg_in (List.mem_of_getElem? (i := 965) (by decide +kernel)) rfl
abbrev mX7_bestSet : XD := (yX7_bestSet, cX7_bestSet, 10, (some .int))
theorem cdX7_bestSet : Cond.code mX7_bestSet.1 mX7_bestSet.2.1 mX7_bestSet.2.2.1 mX7_bestSet.2.2.2 ∈ lw_g := tw_965
theorem tw_969 : Cond.code yX7_beginnings cX7_beginnings 3 (some .int) ∈ lw_g := lg_in (List.mem_of_getElem? (i := 969) (by decide +kernel)) rfl
abbrev mX7_beginnings : XD := (yX7_beginnings, cX7_beginnings, 3, (some .int))
theorem cdX7_beginnings : Cond.code mX7_beginnings.1 mX7_beginnings.2.1 mX7_beginnings.2.2.1 mX7_beginnings.2.2.2 ∈ lw_g := tw_969
theorem tw_973 : Cond.code yX7_put cX7_put 8 (some .int) ∈ lw_g := lg_in (List.mem_of_getElem? (i := 973) (by decide +kernel)) rfl
abbrev mX7_put : XD := (yX7_put, cX7_put, 8, (some .int))
theorem cdX7_put : Cond.code mX7_put.1 mX7_put.2.1 mX7_put.2.2.1 mX7_put.2.2.2 ∈ lw_g := tw_973
theorem tw_978 : Cond.code yX7_wipe cX7_wipe 2 (some .int) ∈ lw_g := lg_in (List.mem_of_getElem? (i := 978) (by decide +kernel)) rfl
abbrev mX7_wipe : XD := (yX7_wipe, cX7_wipe, 2, (some .int))
theorem cdX7_wipe : Cond.code mX7_wipe.1 mX7_wipe.2.1 mX7_wipe.2.2.1 mX7_wipe.2.2.2 ∈ lw_g := tw_978
theorem tw_982 : Cond.code yX7_fault cX7_fault 1 (some .int) ∈ lw_g := lg_in (List.mem_of_getElem? (i := 982) (by decide +kernel)) rfl
abbrev mX7_fault : XD := (yX7_fault, cX7_fault, 1, (some .int))
theorem cdX7_fault : Cond.code mX7_fault.1 mX7_fault.2.1 mX7_fault.2.2.1 mX7_fault.2.2.2 ∈ lw_g := tw_982
theorem tw_986 : Cond.code yX7_findFault cX7_findFault 1 (some .int) ∈ lw_g := lg_in (List.mem_of_getElem? (i := 986) (by decide +kernel)) rfl
abbrev mX7_findFault : XD := (yX7_findFault, cX7_findFault, 1, (some .int))
theorem cdX7_findFault : Cond.code mX7_findFault.1 mX7_findFault.2.1 mX7_findFault.2.2.1 mX7_findFault.2.2.2 ∈ lw_g := tw_986
theorem tw_990 : Cond.code yX7_readsOrder cX7_readsOrder 1 (some .boolean) ∈ lw_g := lg_in (List.mem_of_getElem? (i := 990) (by decide +kernel)) rfl
abbrev mX7_readsOrder : XD := (yX7_readsOrder, cX7_readsOrder, 1, (some .boolean))
theorem cdX7_readsOrder : Cond.code mX7_readsOrder.1 mX7_readsOrder.2.1 mX7_readsOrder.2.2.1 mX7_readsOrder.2.2.2 ∈ lw_g := tw_990
theorem tw_994 : Cond.code yX7_takeDigit cX7_takeDigit 3 (some .int) ∈ lw_g := lg_in (List.mem_of_getElem? (i := 994) (by decide +kernel)) rfl
abbrev mX7_takeDigit : XD := (yX7_takeDigit, cX7_takeDigit, 3, (some .int))
theorem cdX7_takeDigit : Cond.code mX7_takeDigit.1 mX7_takeDigit.2.1 mX7_takeDigit.2.2.1 mX7_takeDigit.2.2.2 ∈ lw_g := tw_994
theorem tw_998 : Cond.code yX7_character cX7_character 2 (some .int) ∈ lw_g := lg_in (List.mem_of_getElem? (i := 998) (by decide +kernel)) rfl
abbrev mX7_character : XD := (yX7_character, cX7_character, 2, (some .int))
theorem cdX7_character : Cond.code mX7_character.1 mX7_character.2.1 mX7_character.2.2.1 mX7_character.2.2.2 ∈ lw_g := tw_998
theorem tw_1002 : Cond.code yX7_readsRest cX7_readsRest 1 (some .boolean) ∈ lw_g := lg_in (List.mem_of_getElem? (i := 1002) (by decide +kernel)) rfl
abbrev mX7_readsRest : XD := (yX7_readsRest, cX7_readsRest, 1, (some .boolean))
theorem cdX7_readsRest : Cond.code mX7_readsRest.1 mX7_readsRest.2.1 mX7_readsRest.2.2.1 mX7_readsRest.2.2.2 ∈ lw_g := tw_1002
theorem tw_1006 : Cond.code yX7_readsRuns cX7_readsRuns 4 (some .boolean) ∈ lw_g := lg_in (List.mem_of_getElem? (i := 1006) (by decide +kernel)) rfl
abbrev mX7_readsRuns : XD := (yX7_readsRuns, cX7_readsRuns, 4, (some .boolean))
theorem cdX7_readsRuns : Cond.code mX7_readsRuns.1 mX7_readsRuns.2.1 mX7_readsRuns.2.2.1 mX7_readsRuns.2.2.2 ∈ lw_g := tw_1006
theorem tw_1010 : Cond.code yX7_isNext cX7_isNext 3 (some .boolean) ∈ lw_g := lg_in (List.mem_of_getElem? (i := 1010) (by decide +kernel)) rfl
abbrev mX7_isNext : XD := (yX7_isNext, cX7_isNext, 3, (some .boolean))
theorem cdX7_isNext : Cond.code mX7_isNext.1 mX7_isNext.2.1 mX7_isNext.2.2.1 mX7_isNext.2.2.2 ∈ lw_g := tw_1010
theorem tw_1014 : Cond.code yX7_takeNumber cX7_takeNumber 2 (some .int) ∈ lw_g := lg_in (List.mem_of_getElem? (i := 1014) (by decide +kernel)) rfl
abbrev mX7_takeNumber : XD := (yX7_takeNumber, cX7_takeNumber, 2, (some .int))
theorem cdX7_takeNumber : Cond.code mX7_takeNumber.1 mX7_takeNumber.2.1 mX7_takeNumber.2.2.1 mX7_takeNumber.2.2.2 ∈ lw_g := tw_1014
theorem tw_1018 : Cond.code yX7_carryOut cX7_carryOut 3 (some .int) ∈ lw_g := lg_in (List.mem_of_getElem? (i := 1018) (by decide +kernel)) rfl
abbrev mX7_carryOut : XD := (yX7_carryOut, cX7_carryOut, 3, (some .int))
theorem cdX7_carryOut : Cond.code mX7_carryOut.1 mX7_carryOut.2.1 mX7_carryOut.2.2.1 mX7_carryOut.2.2.2 ∈ lw_g := tw_1018
theorem tw_1022 : Cond.code yX7_doesOrder cX7_doesOrder 1 (some .boolean) ∈ lw_g := lg_in (List.mem_of_getElem? (i := 1022) (by decide +kernel)) rfl
abbrev mX7_doesOrder : XD := (yX7_doesOrder, cX7_doesOrder, 1, (some .boolean))
theorem cdX7_doesOrder : Cond.code mX7_doesOrder.1 mX7_doesOrder.2.1 mX7_doesOrder.2.2.1 mX7_doesOrder.2.2.2 ∈ lw_g := tw_1022
theorem tw_1026 : Cond.code yX7_layOutTold cX7_layOutTold 4 (some .int) ∈ lw_g := lg_in (List.mem_of_getElem? (i := 1026) (by decide +kernel)) rfl
abbrev mX7_layOutTold : XD := (yX7_layOutTold, cX7_layOutTold, 4, (some .int))
theorem cdX7_layOutTold : Cond.code mX7_layOutTold.1 mX7_layOutTold.2.1 mX7_layOutTold.2.2.1 mX7_layOutTold.2.2.2 ∈ lw_g := tw_1026
theorem tw_1030 : Cond.code yX7_undo cX7_undo 1 (some .int) ∈ lw_g := lg_in (List.mem_of_getElem? (i := 1030) (by decide +kernel)) rfl
abbrev mX7_undo : XD := (yX7_undo, cX7_undo, 1, (some .int))
theorem cdX7_undo : Cond.code mX7_undo.1 mX7_undo.2.1 mX7_undo.2.2.1 mX7_undo.2.2.2 ∈ lw_g := tw_1030
theorem tw_1034 : Cond.code yX7_save cX7_save 2 (some .int) ∈ lw_g := lg_in (List.mem_of_getElem? (i := 1034) (by decide +kernel)) rfl
abbrev mX7_save : XD := (yX7_save, cX7_save, 2, (some .int))
theorem cdX7_save : Cond.code mX7_save.1 mX7_save.2.1 mX7_save.2.2.1 mX7_save.2.2.2 ∈ lw_g := tw_1034
theorem tw_1038 : Cond.code yX7_restore cX7_restore 2 (some .int) ∈ lw_g := lg_in (List.mem_of_getElem? (i := 1038) (by decide +kernel)) rfl
abbrev mX7_restore : XD := (yX7_restore, cX7_restore, 2, (some .int))
theorem cdX7_restore : Cond.code mX7_restore.1 mX7_restore.2.1 mX7_restore.2.2.1 mX7_restore.2.2.2 ∈ lw_g := tw_1038
abbrev mL_law : XD := (yL_law, code, maxLocals, ret)
def xLy (y : MethodName) (n : Nat) : Prop := Cond.initialized y.cls ∈ lw_g ∧ y.cls ≠ "java/lang/invoke/MethodHandle" ∧ y.cls ≠ "java/lang/invoke/VarHandle" ∧ (parseMethodDescriptor y.desc).map (fun d => d.parameters.length) = some n
def xLV (own : String) (idx : Nat) (y : MethodName) (n : Nat) : Prop := Cond.methodLink own idx y ∈ lw_g ∧ Cond.instanceMethod y ∈ lw_g ∧ Cond.selects y.cls y y ∈ lw_g ∧ xLy y n
def xLS (own : String) (idx : Nat) (y : MethodName) (n : Nat) : Prop := Cond.methodLink own idx y ∈ lw_g ∧ Cond.static y ∈ lw_g ∧ xLy y n
def xLI (own : String) (idx : Nat) (y : MethodName) (n : Nat) : Prop := Cond.methodLink own idx y ∈ lw_g ∧ Cond.instanceMethod y ∈ lw_g ∧ y.name = "<init>" ∧ xLy y n
def xnests : List (String × Nat × MethodName × String) := [(RX6, 33, yX0_init, RX6), (RX6, 40, yX2_init, RX6), (RX2, 11, yX3_init, RX6), (RX5, 17, yX0_init, RX6)]
theorem xnests_in : ∀ q ∈ xnests, Cond.methodLinkNest q.1 q.2.1 q.2.2.1 q.2.2.2 ∈ lw_tbl := by decide +kernel
def xLN (own : String) (idx : Nat) (y : MethodName) (n : Nat) : Prop := ∃ host, (own, idx, y, host) ∈ xnests ∧ Cond.instanceMethod y ∈ lw_g ∧ y.name = "<init>" ∧ xLy y n
theorem tw_76 : Cond.methodLink RX6 3 objectInit ∈ lw_g := lg_in (List.mem_of_getElem? (i := 76) (by decide +kernel)) rfl
theorem tw_60 : Cond.initialized RX5 ∈ lw_g := lg_in (List.mem_of_getElem? (i := 60) (by decide +kernel)) rfl
theorem lyX5_init : xLy yX5_init 0 := ⟨tw_60, by decide, by decide, by decide +kernel⟩
theorem tw_81 : Cond.methodLink RX6 11 yX5_init ∈ lw_g := lg_in (List.mem_of_getElem? (i := 81) (by decide +kernel)) rfl
theorem tw_82 : Cond.instanceMethod yX5_init ∈ lw_g := lg_in (List.mem_of_getElem? (i := 82) (by decide +kernel)) rfl
theorem lk_X6_11 : xLI RX6 11 yX5_init 0 := ⟨tw_81, tw_82, rfl, lyX5_init⟩
theorem tw_62 : Cond.initialized RX1 ∈ lw_g := lg_in (List.mem_of_getElem? (i := 62) (by decide +kernel)) rfl
theorem lyX1_init : xLy yX1_init 0 := ⟨tw_62, by decide, by decide, by decide +kernel⟩
theorem tw_115 : Cond.methodLink RX6 18 yX1_init ∈ lw_g := lg_in (List.mem_of_getElem? (i := 115) (by decide +kernel)) rfl
theorem tw_116 : Cond.instanceMethod yX1_init ∈ lw_g := lg_in (List.mem_of_getElem? (i := 116) (by decide +kernel)) rfl
theorem lk_X6_18 : xLI RX6 18 yX1_init 0 := ⟨tw_115, tw_116, rfl, lyX1_init⟩
theorem tw_63 : Cond.initialized RX2 ∈ lw_g := lg_in (List.mem_of_getElem? (i := 63) (by decide +kernel)) rfl
theorem lyX2_pad : xLy yX2_pad 0 := ⟨tw_63, by decide, by decide, by decide +kernel⟩
theorem tw_186 : Cond.methodLink RX6 45 yX2_pad ∈ lw_g := lg_in (List.mem_of_getElem? (i := 186) (by decide +kernel)) rfl
theorem tw_187 : Cond.instanceMethod yX2_pad ∈ lw_g := lg_in (List.mem_of_getElem? (i := 187) (by decide +kernel)) rfl
theorem tw_188 : Cond.selects RX2 yX2_pad yX2_pad ∈ lw_g := lg_in (List.mem_of_getElem? (i := 188) (by decide +kernel)) rfl
theorem lk_X6_45 : xLV RX6 45 yX2_pad 0 := ⟨tw_186, tw_187, tw_188, lyX2_pad⟩
theorem tw_59 : Cond.initialized RX6 ∈ lw_g := lg_in (List.mem_of_getElem? (i := 59) (by decide +kernel)) rfl
theorem lyX6_draftAppend : xLy yX6_draftAppend 3 := ⟨tw_59, by decide, by decide, by decide +kernel⟩
theorem tw_219 : Cond.methodLink RX6 56 yX6_draftAppend ∈ lw_g := lg_in (List.mem_of_getElem? (i := 219) (by decide +kernel)) rfl
theorem tw_221 : Cond.instanceMethod yX6_draftAppend ∈ lw_g := lg_in (List.mem_of_getElem? (i := 221) (by decide +kernel)) rfl
theorem tw_0 : Cond.selects RX6 yX6_draftAppend yX6_draftAppend ∈ lw_g := lg_in (List.mem_of_getElem? (i := 0) (by decide +kernel)) rfl
theorem lk_X6_56 : xLV RX6 56 yX6_draftAppend 3 := ⟨tw_219, tw_221, tw_0, lyX6_draftAppend⟩
theorem lyX6_recordAndTakeDraft : xLy yX6_recordAndTakeDraft 1 := ⟨tw_59, by decide, by decide, by decide +kernel⟩
theorem tw_255 : Cond.methodLink RX6 60 yX6_recordAndTakeDraft ∈ lw_g := lg_in (List.mem_of_getElem? (i := 255) (by decide +kernel)) rfl
theorem tw_257 : Cond.instanceMethod yX6_recordAndTakeDraft ∈ lw_g := lg_in (List.mem_of_getElem? (i := 257) (by decide +kernel)) rfl
theorem tw_2 : Cond.selects RX6 yX6_recordAndTakeDraft yX6_recordAndTakeDraft ∈ lw_g := lg_in (List.mem_of_getElem? (i := 2) (by decide +kernel)) rfl
theorem lk_X6_60 : xLV RX6 60 yX6_recordAndTakeDraft 1 := ⟨tw_255, tw_257, tw_2, lyX6_recordAndTakeDraft⟩
theorem lyX5_column : xLy yX5_column 1 := ⟨tw_60, by decide, by decide, by decide +kernel⟩
theorem tw_232 : Cond.methodLink RX6 64 yX5_column ∈ lw_g := lg_in (List.mem_of_getElem? (i := 232) (by decide +kernel)) rfl
theorem tw_233 : Cond.instanceMethod yX5_column ∈ lw_g := lg_in (List.mem_of_getElem? (i := 233) (by decide +kernel)) rfl
theorem tw_234 : Cond.selects RX5 yX5_column yX5_column ∈ lw_g := lg_in (List.mem_of_getElem? (i := 234) (by decide +kernel)) rfl
theorem lk_X6_64 : xLV RX6 64 yX5_column 1 := ⟨tw_232, tw_233, tw_234, lyX5_column⟩
theorem tw_61 : Cond.initialized RX0 ∈ lw_g := lg_in (List.mem_of_getElem? (i := 61) (by decide +kernel)) rfl
theorem lyX0_rows : xLy yX0_rows 0 := ⟨tw_61, by decide, by decide, by decide +kernel⟩
theorem tw_268 : Cond.methodLink RX6 68 yX0_rows ∈ lw_g := lg_in (List.mem_of_getElem? (i := 268) (by decide +kernel)) rfl
theorem tw_269 : Cond.instanceMethod yX0_rows ∈ lw_g := lg_in (List.mem_of_getElem? (i := 269) (by decide +kernel)) rfl
theorem tw_270 : Cond.selects RX0 yX0_rows yX0_rows ∈ lw_g := lg_in (List.mem_of_getElem? (i := 270) (by decide +kernel)) rfl
theorem lk_X6_68 : xLV RX6 68 yX0_rows 0 := ⟨tw_268, tw_269, tw_270, lyX0_rows⟩
theorem lyX6_draftInsert : xLy yX6_draftInsert 4 := ⟨tw_59, by decide, by decide, by decide +kernel⟩
theorem tw_276 : Cond.methodLink RX6 72 yX6_draftInsert ∈ lw_g := lg_in (List.mem_of_getElem? (i := 276) (by decide +kernel)) rfl
theorem tw_278 : Cond.instanceMethod yX6_draftInsert ∈ lw_g := lg_in (List.mem_of_getElem? (i := 278) (by decide +kernel)) rfl
theorem tw_3 : Cond.selects RX6 yX6_draftInsert yX6_draftInsert ∈ lw_g := lg_in (List.mem_of_getElem? (i := 3) (by decide +kernel)) rfl
theorem lk_X6_72 : xLV RX6 72 yX6_draftInsert 4 := ⟨tw_276, tw_278, tw_3, lyX6_draftInsert⟩
theorem lyX0_runs : xLy yX0_runs 0 := ⟨tw_61, by decide, by decide, by decide +kernel⟩
theorem tw_295 : Cond.methodLink RX6 76 yX0_runs ∈ lw_g := lg_in (List.mem_of_getElem? (i := 295) (by decide +kernel)) rfl
theorem tw_296 : Cond.instanceMethod yX0_runs ∈ lw_g := lg_in (List.mem_of_getElem? (i := 296) (by decide +kernel)) rfl
theorem tw_297 : Cond.selects RX0 yX0_runs yX0_runs ∈ lw_g := lg_in (List.mem_of_getElem? (i := 297) (by decide +kernel)) rfl
theorem lk_X6_76 : xLV RX6 76 yX0_runs 0 := ⟨tw_295, tw_296, tw_297, lyX0_runs⟩
theorem lyX6_draftRemove : xLy yX6_draftRemove 3 := ⟨tw_59, by decide, by decide, by decide +kernel⟩
theorem tw_303 : Cond.methodLink RX6 79 yX6_draftRemove ∈ lw_g := lg_in (List.mem_of_getElem? (i := 303) (by decide +kernel)) rfl
theorem tw_305 : Cond.instanceMethod yX6_draftRemove ∈ lw_g := lg_in (List.mem_of_getElem? (i := 305) (by decide +kernel)) rfl
theorem tw_4 : Cond.selects RX6 yX6_draftRemove yX6_draftRemove ∈ lw_g := lg_in (List.mem_of_getElem? (i := 4) (by decide +kernel)) rfl
theorem lk_X6_79 : xLV RX6 79 yX6_draftRemove 3 := ⟨tw_303, tw_305, tw_4, lyX6_draftRemove⟩
theorem lyX6_draftSet : xLy yX6_draftSet 3 := ⟨tw_59, by decide, by decide, by decide +kernel⟩
theorem tw_315 : Cond.methodLink RX6 82 yX6_draftSet ∈ lw_g := lg_in (List.mem_of_getElem? (i := 315) (by decide +kernel)) rfl
theorem tw_317 : Cond.instanceMethod yX6_draftSet ∈ lw_g := lg_in (List.mem_of_getElem? (i := 317) (by decide +kernel)) rfl
theorem tw_6 : Cond.selects RX6 yX6_draftSet yX6_draftSet ∈ lw_g := lg_in (List.mem_of_getElem? (i := 6) (by decide +kernel)) rfl
theorem lk_X6_82 : xLV RX6 82 yX6_draftSet 3 := ⟨tw_315, tw_317, tw_6, lyX6_draftSet⟩
theorem lyX0_valueOfRow : xLy yX0_valueOfRow 1 := ⟨tw_61, by decide, by decide, by decide +kernel⟩
theorem tw_319 : Cond.methodLink RX6 85 yX0_valueOfRow ∈ lw_g := lg_in (List.mem_of_getElem? (i := 319) (by decide +kernel)) rfl
theorem tw_320 : Cond.instanceMethod yX0_valueOfRow ∈ lw_g := lg_in (List.mem_of_getElem? (i := 320) (by decide +kernel)) rfl
theorem tw_321 : Cond.selects RX0 yX0_valueOfRow yX0_valueOfRow ∈ lw_g := lg_in (List.mem_of_getElem? (i := 321) (by decide +kernel)) rfl
theorem lk_X6_85 : xLV RX6 85 yX0_valueOfRow 1 := ⟨tw_319, tw_320, tw_321, lyX0_valueOfRow⟩
theorem lyX6_draftSort : xLy yX6_draftSort 1 := ⟨tw_59, by decide, by decide, by decide +kernel⟩
theorem tw_335 : Cond.methodLink RX6 89 yX6_draftSort ∈ lw_g := lg_in (List.mem_of_getElem? (i := 335) (by decide +kernel)) rfl
theorem tw_337 : Cond.instanceMethod yX6_draftSort ∈ lw_g := lg_in (List.mem_of_getElem? (i := 337) (by decide +kernel)) rfl
theorem tw_7 : Cond.selects RX6 yX6_draftSort yX6_draftSort ∈ lw_g := lg_in (List.mem_of_getElem? (i := 7) (by decide +kernel)) rfl
theorem lk_X6_89 : xLV RX6 89 yX6_draftSort 1 := ⟨tw_335, tw_337, tw_7, lyX6_draftSort⟩
theorem lyX6_isColumn : xLy yX6_isColumn 1 := ⟨tw_59, by decide, by decide, by decide +kernel⟩
theorem tw_223 : Cond.methodLink RX6 92 yX6_isColumn ∈ lw_g := lg_in (List.mem_of_getElem? (i := 223) (by decide +kernel)) rfl
theorem tw_224 : Cond.static yX6_isColumn ∈ lw_g := lg_in (List.mem_of_getElem? (i := 224) (by decide +kernel)) rfl
theorem lk_X6_92 : xLS RX6 92 yX6_isColumn 1 := ⟨tw_223, tw_224, lyX6_isColumn⟩
theorem lyX0_clear : xLy yX0_clear 0 := ⟨tw_61, by decide, by decide, by decide +kernel⟩
theorem tw_280 : Cond.methodLink RX6 96 yX0_clear ∈ lw_g := lg_in (List.mem_of_getElem? (i := 280) (by decide +kernel)) rfl
theorem tw_281 : Cond.instanceMethod yX0_clear ∈ lw_g := lg_in (List.mem_of_getElem? (i := 281) (by decide +kernel)) rfl
theorem tw_282 : Cond.selects RX0 yX0_clear yX0_clear ∈ lw_g := lg_in (List.mem_of_getElem? (i := 282) (by decide +kernel)) rfl
theorem lk_X6_96 : xLV RX6 96 yX0_clear 0 := ⟨tw_280, tw_281, tw_282, lyX0_clear⟩
theorem lyX0_addTurned : xLy yX0_addTurned 1 := ⟨tw_61, by decide, by decide, by decide +kernel⟩
theorem tw_347 : Cond.methodLink RX6 99 yX0_addTurned ∈ lw_g := lg_in (List.mem_of_getElem? (i := 347) (by decide +kernel)) rfl
theorem tw_348 : Cond.instanceMethod yX0_addTurned ∈ lw_g := lg_in (List.mem_of_getElem? (i := 348) (by decide +kernel)) rfl
theorem tw_349 : Cond.selects RX0 yX0_addTurned yX0_addTurned ∈ lw_g := lg_in (List.mem_of_getElem? (i := 349) (by decide +kernel)) rfl
theorem lk_X6_99 : xLV RX6 99 yX0_addTurned 1 := ⟨tw_347, tw_348, tw_349, lyX0_addTurned⟩
theorem lyX6_draftMerge : xLy yX6_draftMerge 4 := ⟨tw_59, by decide, by decide, by decide +kernel⟩
theorem tw_355 : Cond.methodLink RX6 103 yX6_draftMerge ∈ lw_g := lg_in (List.mem_of_getElem? (i := 355) (by decide +kernel)) rfl
theorem tw_357 : Cond.instanceMethod yX6_draftMerge ∈ lw_g := lg_in (List.mem_of_getElem? (i := 357) (by decide +kernel)) rfl
theorem tw_8 : Cond.selects RX6 yX6_draftMerge yX6_draftMerge ∈ lw_g := lg_in (List.mem_of_getElem? (i := 8) (by decide +kernel)) rfl
theorem lk_X6_103 : xLV RX6 103 yX6_draftMerge 4 := ⟨tw_355, tw_357, tw_8, lyX6_draftMerge⟩
theorem lyX0_valueOfRun : xLy yX0_valueOfRun 1 := ⟨tw_61, by decide, by decide, by decide +kernel⟩
theorem tw_433 : Cond.methodLink RX6 106 yX0_valueOfRun ∈ lw_g := lg_in (List.mem_of_getElem? (i := 433) (by decide +kernel)) rfl
theorem tw_328 : Cond.instanceMethod yX0_valueOfRun ∈ lw_g := lg_in (List.mem_of_getElem? (i := 328) (by decide +kernel)) rfl
theorem tw_329 : Cond.selects RX0 yX0_valueOfRun yX0_valueOfRun ∈ lw_g := lg_in (List.mem_of_getElem? (i := 329) (by decide +kernel)) rfl
theorem lk_X6_106 : xLV RX6 106 yX0_valueOfRun 1 := ⟨tw_433, tw_328, tw_329, lyX0_valueOfRun⟩
theorem lyX0_lengthOfRun : xLy yX0_lengthOfRun 1 := ⟨tw_61, by decide, by decide, by decide +kernel⟩
theorem tw_434 : Cond.methodLink RX6 109 yX0_lengthOfRun ∈ lw_g := lg_in (List.mem_of_getElem? (i := 434) (by decide +kernel)) rfl
theorem tw_407 : Cond.instanceMethod yX0_lengthOfRun ∈ lw_g := lg_in (List.mem_of_getElem? (i := 407) (by decide +kernel)) rfl
theorem tw_408 : Cond.selects RX0 yX0_lengthOfRun yX0_lengthOfRun ∈ lw_g := lg_in (List.mem_of_getElem? (i := 408) (by decide +kernel)) rfl
theorem lk_X6_109 : xLV RX6 109 yX0_lengthOfRun 1 := ⟨tw_434, tw_407, tw_408, lyX0_lengthOfRun⟩
theorem lyX0_firstRowOfRun : xLy yX0_firstRowOfRun 1 := ⟨tw_61, by decide, by decide, by decide +kernel⟩
theorem tw_435 : Cond.methodLink RX6 112 yX0_firstRowOfRun ∈ lw_g := lg_in (List.mem_of_getElem? (i := 435) (by decide +kernel)) rfl
theorem tw_436 : Cond.instanceMethod yX0_firstRowOfRun ∈ lw_g := lg_in (List.mem_of_getElem? (i := 436) (by decide +kernel)) rfl
theorem tw_437 : Cond.selects RX0 yX0_firstRowOfRun yX0_firstRowOfRun ∈ lw_g := lg_in (List.mem_of_getElem? (i := 437) (by decide +kernel)) rfl
theorem lk_X6_112 : xLV RX6 112 yX0_firstRowOfRun 1 := ⟨tw_435, tw_436, tw_437, lyX0_firstRowOfRun⟩
theorem lyX6_isRow : xLy yX6_isRow 2 := ⟨tw_59, by decide, by decide, by decide +kernel⟩
theorem tw_307 : Cond.methodLink RX6 115 yX6_isRow ∈ lw_g := lg_in (List.mem_of_getElem? (i := 307) (by decide +kernel)) rfl
theorem tw_309 : Cond.instanceMethod yX6_isRow ∈ lw_g := lg_in (List.mem_of_getElem? (i := 309) (by decide +kernel)) rfl
theorem tw_5 : Cond.selects RX6 yX6_isRow yX6_isRow ∈ lw_g := lg_in (List.mem_of_getElem? (i := 5) (by decide +kernel)) rfl
theorem lk_X6_115 : xLV RX6 115 yX6_isRow 2 := ⟨tw_307, tw_309, tw_5, lyX6_isRow⟩
theorem lyX6_isValue : xLy yX6_isValue 1 := ⟨tw_59, by decide, by decide, by decide +kernel⟩
theorem tw_226 : Cond.methodLink RX6 119 yX6_isValue ∈ lw_g := lg_in (List.mem_of_getElem? (i := 226) (by decide +kernel)) rfl
theorem tw_227 : Cond.static yX6_isValue ∈ lw_g := lg_in (List.mem_of_getElem? (i := 227) (by decide +kernel)) rfl
theorem lk_X6_119 : xLS RX6 119 yX6_isValue 1 := ⟨tw_226, tw_227, lyX6_isValue⟩
theorem lyX0_rowOfRank : xLy yX0_rowOfRank 2 := ⟨tw_61, by decide, by decide, by decide +kernel⟩
theorem tw_447 : Cond.methodLink RX6 122 yX0_rowOfRank ∈ lw_g := lg_in (List.mem_of_getElem? (i := 447) (by decide +kernel)) rfl
theorem tw_448 : Cond.instanceMethod yX0_rowOfRank ∈ lw_g := lg_in (List.mem_of_getElem? (i := 448) (by decide +kernel)) rfl
theorem tw_449 : Cond.selects RX0 yX0_rowOfRank yX0_rowOfRank ∈ lw_g := lg_in (List.mem_of_getElem? (i := 449) (by decide +kernel)) rfl
theorem lk_X6_122 : xLV RX6 122 yX0_rowOfRank 2 := ⟨tw_447, tw_448, tw_449, lyX0_rowOfRank⟩
theorem lyX0_sum : xLy yX0_sum 0 := ⟨tw_61, by decide, by decide, by decide +kernel⟩
theorem tw_455 : Cond.methodLink RX6 126 yX0_sum ∈ lw_g := lg_in (List.mem_of_getElem? (i := 455) (by decide +kernel)) rfl
theorem tw_456 : Cond.instanceMethod yX0_sum ∈ lw_g := lg_in (List.mem_of_getElem? (i := 456) (by decide +kernel)) rfl
theorem tw_457 : Cond.selects RX0 yX0_sum yX0_sum ∈ lw_g := lg_in (List.mem_of_getElem? (i := 457) (by decide +kernel)) rfl
theorem lk_X6_126 : xLV RX6 126 yX0_sum 0 := ⟨tw_455, tw_456, tw_457, lyX0_sum⟩
theorem lyX0_longest : xLy yX0_longest 0 := ⟨tw_61, by decide, by decide, by decide +kernel⟩
theorem tw_459 : Cond.methodLink RX6 129 yX0_longest ∈ lw_g := lg_in (List.mem_of_getElem? (i := 459) (by decide +kernel)) rfl
theorem tw_460 : Cond.instanceMethod yX0_longest ∈ lw_g := lg_in (List.mem_of_getElem? (i := 460) (by decide +kernel)) rfl
theorem tw_461 : Cond.selects RX0 yX0_longest yX0_longest ∈ lw_g := lg_in (List.mem_of_getElem? (i := 461) (by decide +kernel)) rfl
theorem lk_X6_129 : xLV RX6 129 yX0_longest 0 := ⟨tw_459, tw_460, tw_461, lyX0_longest⟩
theorem lyX0_valueSet : xLy yX0_valueSet 0 := ⟨tw_61, by decide, by decide, by decide +kernel⟩
theorem tw_463 : Cond.methodLink RX6 132 yX0_valueSet ∈ lw_g := lg_in (List.mem_of_getElem? (i := 463) (by decide +kernel)) rfl
theorem tw_464 : Cond.instanceMethod yX0_valueSet ∈ lw_g := lg_in (List.mem_of_getElem? (i := 464) (by decide +kernel)) rfl
theorem tw_465 : Cond.selects RX0 yX0_valueSet yX0_valueSet ∈ lw_g := lg_in (List.mem_of_getElem? (i := 465) (by decide +kernel)) rfl
theorem lk_X6_132 : xLV RX6 132 yX0_valueSet 0 := ⟨tw_463, tw_464, tw_465, lyX0_valueSet⟩
theorem lyX0_neverFalls : xLy yX0_neverFalls 0 := ⟨tw_61, by decide, by decide, by decide +kernel⟩
theorem tw_467 : Cond.methodLink RX6 135 yX0_neverFalls ∈ lw_g := lg_in (List.mem_of_getElem? (i := 467) (by decide +kernel)) rfl
theorem tw_468 : Cond.instanceMethod yX0_neverFalls ∈ lw_g := lg_in (List.mem_of_getElem? (i := 468) (by decide +kernel)) rfl
theorem tw_469 : Cond.selects RX0 yX0_neverFalls yX0_neverFalls ∈ lw_g := lg_in (List.mem_of_getElem? (i := 469) (by decide +kernel)) rfl
theorem lk_X6_135 : xLV RX6 135 yX0_neverFalls 0 := ⟨tw_467, tw_468, tw_469, lyX0_neverFalls⟩
theorem lyX0_neverRises : xLy yX0_neverRises 0 := ⟨tw_61, by decide, by decide, by decide +kernel⟩
theorem tw_471 : Cond.methodLink RX6 139 yX0_neverRises ∈ lw_g := lg_in (List.mem_of_getElem? (i := 471) (by decide +kernel)) rfl
theorem tw_472 : Cond.instanceMethod yX0_neverRises ∈ lw_g := lg_in (List.mem_of_getElem? (i := 472) (by decide +kernel)) rfl
theorem tw_473 : Cond.selects RX0 yX0_neverRises yX0_neverRises ∈ lw_g := lg_in (List.mem_of_getElem? (i := 473) (by decide +kernel)) rfl
theorem lk_X6_139 : xLV RX6 139 yX0_neverRises 0 := ⟨tw_471, tw_472, tw_473, lyX0_neverRises⟩
theorem lyX0_rowsOf : xLy yX0_rowsOf 1 := ⟨tw_61, by decide, by decide, by decide +kernel⟩
theorem tw_339 : Cond.methodLink RX6 142 yX0_rowsOf ∈ lw_g := lg_in (List.mem_of_getElem? (i := 339) (by decide +kernel)) rfl
theorem tw_340 : Cond.instanceMethod yX0_rowsOf ∈ lw_g := lg_in (List.mem_of_getElem? (i := 340) (by decide +kernel)) rfl
theorem tw_341 : Cond.selects RX0 yX0_rowsOf yX0_rowsOf ∈ lw_g := lg_in (List.mem_of_getElem? (i := 341) (by decide +kernel)) rfl
theorem lk_X6_142 : xLV RX6 142 yX0_rowsOf 1 := ⟨tw_339, tw_340, tw_341, lyX0_rowsOf⟩
theorem lyX0_runsOf : xLy yX0_runsOf 1 := ⟨tw_61, by decide, by decide, by decide +kernel⟩
theorem tw_479 : Cond.methodLink RX6 145 yX0_runsOf ∈ lw_g := lg_in (List.mem_of_getElem? (i := 479) (by decide +kernel)) rfl
theorem tw_480 : Cond.instanceMethod yX0_runsOf ∈ lw_g := lg_in (List.mem_of_getElem? (i := 480) (by decide +kernel)) rfl
theorem tw_481 : Cond.selects RX0 yX0_runsOf yX0_runsOf ∈ lw_g := lg_in (List.mem_of_getElem? (i := 481) (by decide +kernel)) rfl
theorem lk_X6_145 : xLV RX6 145 yX0_runsOf 1 := ⟨tw_479, tw_480, tw_481, lyX0_runsOf⟩
theorem lyX0_longestOf : xLy yX0_longestOf 1 := ⟨tw_61, by decide, by decide, by decide +kernel⟩
theorem tw_483 : Cond.methodLink RX6 148 yX0_longestOf ∈ lw_g := lg_in (List.mem_of_getElem? (i := 483) (by decide +kernel)) rfl
theorem tw_484 : Cond.instanceMethod yX0_longestOf ∈ lw_g := lg_in (List.mem_of_getElem? (i := 484) (by decide +kernel)) rfl
theorem tw_485 : Cond.selects RX0 yX0_longestOf yX0_longestOf ∈ lw_g := lg_in (List.mem_of_getElem? (i := 485) (by decide +kernel)) rfl
theorem lk_X6_148 : xLV RX6 148 yX0_longestOf 1 := ⟨tw_483, tw_484, tw_485, lyX0_longestOf⟩
theorem lyX5_allRows : xLy yX5_allRows 0 := ⟨tw_60, by decide, by decide, by decide +kernel⟩
theorem tw_491 : Cond.methodLink RX6 151 yX5_allRows ∈ lw_g := lg_in (List.mem_of_getElem? (i := 491) (by decide +kernel)) rfl
theorem tw_492 : Cond.instanceMethod yX5_allRows ∈ lw_g := lg_in (List.mem_of_getElem? (i := 492) (by decide +kernel)) rfl
theorem tw_493 : Cond.selects RX5 yX5_allRows yX5_allRows ∈ lw_g := lg_in (List.mem_of_getElem? (i := 493) (by decide +kernel)) rfl
theorem lk_X6_151 : xLV RX6 151 yX5_allRows 0 := ⟨tw_491, tw_492, tw_493, lyX5_allRows⟩
theorem lyX5_allRuns : xLy yX5_allRuns 0 := ⟨tw_60, by decide, by decide, by decide +kernel⟩
theorem tw_496 : Cond.methodLink RX6 154 yX5_allRuns ∈ lw_g := lg_in (List.mem_of_getElem? (i := 496) (by decide +kernel)) rfl
theorem tw_497 : Cond.instanceMethod yX5_allRuns ∈ lw_g := lg_in (List.mem_of_getElem? (i := 497) (by decide +kernel)) rfl
theorem tw_498 : Cond.selects RX5 yX5_allRuns yX5_allRuns ∈ lw_g := lg_in (List.mem_of_getElem? (i := 498) (by decide +kernel)) rfl
theorem lk_X6_154 : xLV RX6 154 yX5_allRuns 0 := ⟨tw_496, tw_497, tw_498, lyX5_allRuns⟩
theorem tw_64 : Cond.initialized RX3 ∈ lw_g := lg_in (List.mem_of_getElem? (i := 64) (by decide +kernel)) rfl
theorem lyX3_length : xLy yX3_length 0 := ⟨tw_64, by decide, by decide, by decide +kernel⟩
theorem tw_501 : Cond.methodLink RX6 157 yX3_length ∈ lw_g := lg_in (List.mem_of_getElem? (i := 501) (by decide +kernel)) rfl
theorem tw_502 : Cond.instanceMethod yX3_length ∈ lw_g := lg_in (List.mem_of_getElem? (i := 502) (by decide +kernel)) rfl
theorem tw_503 : Cond.selects RX3 yX3_length yX3_length ∈ lw_g := lg_in (List.mem_of_getElem? (i := 503) (by decide +kernel)) rfl
theorem lk_X6_157 : xLV RX6 157 yX3_length 0 := ⟨tw_501, tw_502, tw_503, lyX3_length⟩
theorem lyX1_kept : xLy yX1_kept 0 := ⟨tw_62, by decide, by decide, by decide +kernel⟩
theorem tw_505 : Cond.methodLink RX6 162 yX1_kept ∈ lw_g := lg_in (List.mem_of_getElem? (i := 505) (by decide +kernel)) rfl
theorem tw_506 : Cond.instanceMethod yX1_kept ∈ lw_g := lg_in (List.mem_of_getElem? (i := 506) (by decide +kernel)) rfl
theorem tw_507 : Cond.selects RX1 yX1_kept yX1_kept ∈ lw_g := lg_in (List.mem_of_getElem? (i := 507) (by decide +kernel)) rfl
theorem lk_X6_162 : xLV RX6 162 yX1_kept 0 := ⟨tw_505, tw_506, tw_507, lyX1_kept⟩
theorem lyX6_walkOver : xLy yX6_walkOver 2 := ⟨tw_59, by decide, by decide, by decide +kernel⟩
theorem tw_359 : Cond.methodLink RX6 165 yX6_walkOver ∈ lw_g := lg_in (List.mem_of_getElem? (i := 359) (by decide +kernel)) rfl
theorem tw_361 : Cond.instanceMethod yX6_walkOver ∈ lw_g := lg_in (List.mem_of_getElem? (i := 361) (by decide +kernel)) rfl
theorem tw_9 : Cond.selects RX6 yX6_walkOver yX6_walkOver ∈ lw_g := lg_in (List.mem_of_getElem? (i := 9) (by decide +kernel)) rfl
theorem lk_X6_165 : xLV RX6 165 yX6_walkOver 2 := ⟨tw_359, tw_361, tw_9, lyX6_walkOver⟩
theorem tw_68 : Cond.initialized RX4 ∈ lw_g := lg_in (List.mem_of_getElem? (i := 68) (by decide +kernel)) rfl
theorem lyX4_advance : xLy yX4_advance 0 := ⟨tw_68, by decide, by decide, by decide +kernel⟩
theorem tw_400 : Cond.methodLink RX6 169 yX4_advance ∈ lw_g := lg_in (List.mem_of_getElem? (i := 400) (by decide +kernel)) rfl
theorem tw_401 : Cond.instanceMethod yX4_advance ∈ lw_g := lg_in (List.mem_of_getElem? (i := 401) (by decide +kernel)) rfl
theorem tw_402 : Cond.selects RX4 yX4_advance yX4_advance ∈ lw_g := lg_in (List.mem_of_getElem? (i := 402) (by decide +kernel)) rfl
theorem lk_X6_169 : xLV RX6 169 yX4_advance 0 := ⟨tw_400, tw_401, tw_402, lyX4_advance⟩
theorem lyX4_valueOfOne : xLy yX4_valueOfOne 0 := ⟨tw_68, by decide, by decide, by decide +kernel⟩
theorem tw_411 : Cond.methodLink RX6 174 yX4_valueOfOne ∈ lw_g := lg_in (List.mem_of_getElem? (i := 411) (by decide +kernel)) rfl
theorem tw_412 : Cond.instanceMethod yX4_valueOfOne ∈ lw_g := lg_in (List.mem_of_getElem? (i := 412) (by decide +kernel)) rfl
theorem tw_413 : Cond.selects RX4 yX4_valueOfOne yX4_valueOfOne ∈ lw_g := lg_in (List.mem_of_getElem? (i := 413) (by decide +kernel)) rfl
theorem lk_X6_174 : xLV RX6 174 yX4_valueOfOne 0 := ⟨tw_411, tw_412, tw_413, lyX4_valueOfOne⟩
theorem lyX4_valueOfOther : xLy yX4_valueOfOther 0 := ⟨tw_68, by decide, by decide, by decide +kernel⟩
theorem tw_415 : Cond.methodLink RX6 177 yX4_valueOfOther ∈ lw_g := lg_in (List.mem_of_getElem? (i := 415) (by decide +kernel)) rfl
theorem tw_416 : Cond.instanceMethod yX4_valueOfOther ∈ lw_g := lg_in (List.mem_of_getElem? (i := 416) (by decide +kernel)) rfl
theorem tw_417 : Cond.selects RX4 yX4_valueOfOther yX4_valueOfOther ∈ lw_g := lg_in (List.mem_of_getElem? (i := 417) (by decide +kernel)) rfl
theorem lk_X6_177 : xLV RX6 177 yX4_valueOfOther 0 := ⟨tw_415, tw_416, tw_417, lyX4_valueOfOther⟩
theorem lyX4_length : xLy yX4_length 0 := ⟨tw_68, by decide, by decide, by decide +kernel⟩
theorem tw_420 : Cond.methodLink RX6 180 yX4_length ∈ lw_g := lg_in (List.mem_of_getElem? (i := 420) (by decide +kernel)) rfl
theorem tw_421 : Cond.instanceMethod yX4_length ∈ lw_g := lg_in (List.mem_of_getElem? (i := 421) (by decide +kernel)) rfl
theorem tw_422 : Cond.selects RX4 yX4_length yX4_length ∈ lw_g := lg_in (List.mem_of_getElem? (i := 422) (by decide +kernel)) rfl
theorem lk_X6_180 : xLV RX6 180 yX4_length 0 := ⟨tw_420, tw_421, tw_422, lyX4_length⟩
theorem lyX4_firstRow : xLy yX4_firstRow 0 := ⟨tw_68, by decide, by decide, by decide +kernel⟩
theorem tw_513 : Cond.methodLink RX6 181 yX4_firstRow ∈ lw_g := lg_in (List.mem_of_getElem? (i := 513) (by decide +kernel)) rfl
theorem tw_514 : Cond.instanceMethod yX4_firstRow ∈ lw_g := lg_in (List.mem_of_getElem? (i := 514) (by decide +kernel)) rfl
theorem tw_515 : Cond.selects RX4 yX4_firstRow yX4_firstRow ∈ lw_g := lg_in (List.mem_of_getElem? (i := 515) (by decide +kernel)) rfl
theorem lk_X6_181 : xLV RX6 181 yX4_firstRow 0 := ⟨tw_513, tw_514, tw_515, lyX4_firstRow⟩
theorem tw_67 : Cond.initialized RJ9 ∈ lw_g := lg_in (List.mem_of_getElem? (i := 67) (by decide +kernel)) rfl
theorem lyJ9_min_7cf53 : xLy yJ9_min_7cf53 2 := ⟨tw_67, by decide, by decide, by decide +kernel⟩
theorem tw_419 : Cond.methodLink RX6 184 yJ9_min_7cf53 ∈ lw_g := lg_in (List.mem_of_getElem? (i := 419) (by decide +kernel)) rfl
theorem tw_289 : Cond.static yJ9_min_7cf53 ∈ lw_g := lg_in (List.mem_of_getElem? (i := 289) (by decide +kernel)) rfl
theorem lk_X6_184 : xLS RX6 184 yJ9_min_7cf53 2 := ⟨tw_419, tw_289, lyJ9_min_7cf53⟩
theorem lyX6_runsOfPairs : xLy yX6_runsOfPairs 1 := ⟨tw_59, by decide, by decide, by decide +kernel⟩
theorem tw_521 : Cond.methodLink RX6 189 yX6_runsOfPairs ∈ lw_g := lg_in (List.mem_of_getElem? (i := 521) (by decide +kernel)) rfl
theorem tw_522 : Cond.static yX6_runsOfPairs ∈ lw_g := lg_in (List.mem_of_getElem? (i := 522) (by decide +kernel)) rfl
theorem lk_X6_189 : xLS RX6 189 yX6_runsOfPairs 1 := ⟨tw_521, tw_522, lyX6_runsOfPairs⟩
theorem lyX6_rowsAlike : xLy yX6_rowsAlike 1 := ⟨tw_59, by decide, by decide, by decide +kernel⟩
theorem tw_524 : Cond.methodLink RX6 193 yX6_rowsAlike ∈ lw_g := lg_in (List.mem_of_getElem? (i := 524) (by decide +kernel)) rfl
theorem tw_525 : Cond.static yX6_rowsAlike ∈ lw_g := lg_in (List.mem_of_getElem? (i := 525) (by decide +kernel)) rfl
theorem lk_X6_193 : xLS RX6 193 yX6_rowsAlike 1 := ⟨tw_524, tw_525, lyX6_rowsAlike⟩
theorem lyX6_sumOfProducts : xLy yX6_sumOfProducts 1 := ⟨tw_59, by decide, by decide, by decide +kernel⟩
theorem tw_527 : Cond.methodLink RX6 196 yX6_sumOfProducts ∈ lw_g := lg_in (List.mem_of_getElem? (i := 527) (by decide +kernel)) rfl
theorem tw_528 : Cond.static yX6_sumOfProducts ∈ lw_g := lg_in (List.mem_of_getElem? (i := 528) (by decide +kernel)) rfl
theorem lk_X6_196 : xLS RX6 196 yX6_sumOfProducts 1 := ⟨tw_527, tw_528, lyX6_sumOfProducts⟩
theorem lyX6_unlikePairs : xLy yX6_unlikePairs 1 := ⟨tw_59, by decide, by decide, by decide +kernel⟩
theorem tw_530 : Cond.methodLink RX6 199 yX6_unlikePairs ∈ lw_g := lg_in (List.mem_of_getElem? (i := 530) (by decide +kernel)) rfl
theorem tw_532 : Cond.instanceMethod yX6_unlikePairs ∈ lw_g := lg_in (List.mem_of_getElem? (i := 532) (by decide +kernel)) rfl
theorem tw_10 : Cond.selects RX6 yX6_unlikePairs yX6_unlikePairs ∈ lw_g := lg_in (List.mem_of_getElem? (i := 10) (by decide +kernel)) rfl
theorem lk_X6_199 : xLV RX6 199 yX6_unlikePairs 1 := ⟨tw_530, tw_532, tw_10, lyX6_unlikePairs⟩
theorem tw_70 : Cond.initialized RJ6 ∈ lw_g := lg_in (List.mem_of_getElem? (i := 70) (by decide +kernel)) rfl
theorem lyJ6_bitCount_0f7a4 : xLy yJ6_bitCount_0f7a4 1 := ⟨tw_70, by decide, by decide, by decide +kernel⟩
theorem tw_537 : Cond.methodLink RX6 202 yJ6_bitCount_0f7a4 ∈ lw_g := lg_in (List.mem_of_getElem? (i := 537) (by decide +kernel)) rfl
theorem tw_538 : Cond.static yJ6_bitCount_0f7a4 ∈ lw_g := lg_in (List.mem_of_getElem? (i := 538) (by decide +kernel)) rfl
theorem lk_X6_202 : xLS RX6 202 yJ6_bitCount_0f7a4 1 := ⟨tw_537, tw_538, lyJ6_bitCount_0f7a4⟩
theorem lyX0_bestRowToSet : xLy yX0_bestRowToSet 1 := ⟨tw_61, by decide, by decide, by decide +kernel⟩
theorem tw_555 : Cond.methodLink RX6 207 yX0_bestRowToSet ∈ lw_g := lg_in (List.mem_of_getElem? (i := 555) (by decide +kernel)) rfl
theorem tw_556 : Cond.instanceMethod yX0_bestRowToSet ∈ lw_g := lg_in (List.mem_of_getElem? (i := 556) (by decide +kernel)) rfl
theorem tw_557 : Cond.selects RX0 yX0_bestRowToSet yX0_bestRowToSet ∈ lw_g := lg_in (List.mem_of_getElem? (i := 557) (by decide +kernel)) rfl
theorem lk_X6_207 : xLV RX6 207 yX0_bestRowToSet 1 := ⟨tw_555, tw_556, tw_557, lyX0_bestRowToSet⟩
theorem lyX0_runsAfterSet : xLy yX0_runsAfterSet 2 := ⟨tw_61, by decide, by decide, by decide +kernel⟩
theorem tw_565 : Cond.methodLink RX6 210 yX0_runsAfterSet ∈ lw_g := lg_in (List.mem_of_getElem? (i := 565) (by decide +kernel)) rfl
theorem tw_560 : Cond.instanceMethod yX0_runsAfterSet ∈ lw_g := lg_in (List.mem_of_getElem? (i := 560) (by decide +kernel)) rfl
theorem tw_561 : Cond.selects RX0 yX0_runsAfterSet yX0_runsAfterSet ∈ lw_g := lg_in (List.mem_of_getElem? (i := 561) (by decide +kernel)) rfl
theorem lk_X6_210 : xLV RX6 210 yX0_runsAfterSet 2 := ⟨tw_565, tw_560, tw_561, lyX0_runsAfterSet⟩
theorem lyX6_charactersIn : xLy yX6_charactersIn 1 := ⟨tw_59, by decide, by decide, by decide +kernel⟩
theorem tw_570 : Cond.methodLink RX6 213 yX6_charactersIn ∈ lw_g := lg_in (List.mem_of_getElem? (i := 570) (by decide +kernel)) rfl
theorem tw_571 : Cond.static yX6_charactersIn ∈ lw_g := lg_in (List.mem_of_getElem? (i := 571) (by decide +kernel)) rfl
theorem lk_X6_213 : xLS RX6 213 yX6_charactersIn 1 := ⟨tw_570, tw_571, lyX6_charactersIn⟩
theorem lyX3_add : xLy yX3_add 1 := ⟨tw_64, by decide, by decide, by decide +kernel⟩
theorem tw_576 : Cond.methodLink RX6 219 yX3_add ∈ lw_g := lg_in (List.mem_of_getElem? (i := 576) (by decide +kernel)) rfl
theorem tw_577 : Cond.instanceMethod yX3_add ∈ lw_g := lg_in (List.mem_of_getElem? (i := 577) (by decide +kernel)) rfl
theorem tw_578 : Cond.selects RX3 yX3_add yX3_add ∈ lw_g := lg_in (List.mem_of_getElem? (i := 578) (by decide +kernel)) rfl
theorem lk_X6_219 : xLV RX6 219 yX3_add 1 := ⟨tw_576, tw_577, tw_578, lyX3_add⟩
theorem lyX3_clear : xLy yX3_clear 0 := ⟨tw_64, by decide, by decide, by decide +kernel⟩
theorem tw_584 : Cond.methodLink RX6 223 yX3_clear ∈ lw_g := lg_in (List.mem_of_getElem? (i := 584) (by decide +kernel)) rfl
theorem tw_585 : Cond.instanceMethod yX3_clear ∈ lw_g := lg_in (List.mem_of_getElem? (i := 585) (by decide +kernel)) rfl
theorem tw_586 : Cond.selects RX3 yX3_clear yX3_clear ∈ lw_g := lg_in (List.mem_of_getElem? (i := 586) (by decide +kernel)) rfl
theorem lk_X6_223 : xLV RX6 223 yX3_clear 0 := ⟨tw_584, tw_585, tw_586, lyX3_clear⟩
theorem lyX2_firstFault : xLy yX2_firstFault 0 := ⟨tw_63, by decide, by decide, by decide +kernel⟩
theorem tw_592 : Cond.methodLink RX6 224 yX2_firstFault ∈ lw_g := lg_in (List.mem_of_getElem? (i := 592) (by decide +kernel)) rfl
theorem tw_593 : Cond.instanceMethod yX2_firstFault ∈ lw_g := lg_in (List.mem_of_getElem? (i := 593) (by decide +kernel)) rfl
theorem tw_594 : Cond.selects RX2 yX2_firstFault yX2_firstFault ∈ lw_g := lg_in (List.mem_of_getElem? (i := 594) (by decide +kernel)) rfl
theorem lk_X6_224 : xLV RX6 224 yX2_firstFault 0 := ⟨tw_592, tw_593, tw_594, lyX2_firstFault⟩
theorem lyX1_record : xLy yX1_record 1 := ⟨tw_62, by decide, by decide, by decide +kernel⟩
theorem tw_259 : Cond.methodLink RX6 227 yX1_record ∈ lw_g := lg_in (List.mem_of_getElem? (i := 259) (by decide +kernel)) rfl
theorem tw_260 : Cond.instanceMethod yX1_record ∈ lw_g := lg_in (List.mem_of_getElem? (i := 260) (by decide +kernel)) rfl
theorem tw_261 : Cond.selects RX1 yX1_record yX1_record ∈ lw_g := lg_in (List.mem_of_getElem? (i := 261) (by decide +kernel)) rfl
theorem lk_X6_227 : xLV RX6 227 yX1_record 1 := ⟨tw_259, tw_260, tw_261, lyX1_record⟩
theorem lyX6_obeyOrders : xLy yX6_obeyOrders 0 := ⟨tw_59, by decide, by decide, by decide +kernel⟩
theorem tw_637 : Cond.methodLink RX6 231 yX6_obeyOrders ∈ lw_g := lg_in (List.mem_of_getElem? (i := 637) (by decide +kernel)) rfl
theorem tw_639 : Cond.instanceMethod yX6_obeyOrders ∈ lw_g := lg_in (List.mem_of_getElem? (i := 639) (by decide +kernel)) rfl
theorem tw_16 : Cond.selects RX6 yX6_obeyOrders yX6_obeyOrders ∈ lw_g := lg_in (List.mem_of_getElem? (i := 16) (by decide +kernel)) rfl
theorem lk_X6_231 : xLV RX6 231 yX6_obeyOrders 0 := ⟨tw_637, tw_639, tw_16, lyX6_obeyOrders⟩
theorem lyX1_takeBack : xLy yX1_takeBack 1 := ⟨tw_62, by decide, by decide, by decide +kernel⟩
theorem tw_684 : Cond.methodLink RX6 234 yX1_takeBack ∈ lw_g := lg_in (List.mem_of_getElem? (i := 684) (by decide +kernel)) rfl
theorem tw_685 : Cond.instanceMethod yX1_takeBack ∈ lw_g := lg_in (List.mem_of_getElem? (i := 685) (by decide +kernel)) rfl
theorem tw_686 : Cond.selects RX1 yX1_takeBack yX1_takeBack ∈ lw_g := lg_in (List.mem_of_getElem? (i := 686) (by decide +kernel)) rfl
theorem lk_X6_234 : xLV RX6 234 yX1_takeBack 1 := ⟨tw_684, tw_685, tw_686, lyX1_takeBack⟩
theorem lyX6_isSlot : xLy yX6_isSlot 1 := ⟨tw_59, by decide, by decide, by decide +kernel⟩
theorem tw_692 : Cond.methodLink RX6 237 yX6_isSlot ∈ lw_g := lg_in (List.mem_of_getElem? (i := 692) (by decide +kernel)) rfl
theorem tw_693 : Cond.static yX6_isSlot ∈ lw_g := lg_in (List.mem_of_getElem? (i := 693) (by decide +kernel)) rfl
theorem lk_X6_237 : xLS RX6 237 yX6_isSlot 1 := ⟨tw_692, tw_693, lyX6_isSlot⟩
theorem lyX5_copyFrom : xLy yX5_copyFrom 1 := ⟨tw_60, by decide, by decide, by decide +kernel⟩
theorem tw_695 : Cond.methodLink RX6 240 yX5_copyFrom ∈ lw_g := lg_in (List.mem_of_getElem? (i := 695) (by decide +kernel)) rfl
theorem tw_264 : Cond.instanceMethod yX5_copyFrom ∈ lw_g := lg_in (List.mem_of_getElem? (i := 264) (by decide +kernel)) rfl
theorem tw_265 : Cond.selects RX5 yX5_copyFrom yX5_copyFrom ∈ lw_g := lg_in (List.mem_of_getElem? (i := 265) (by decide +kernel)) rfl
theorem lk_X6_240 : xLV RX6 240 yX5_copyFrom 1 := ⟨tw_695, tw_264, tw_265, lyX5_copyFrom⟩
theorem lyX6_isLength : xLy yX6_isLength 1 := ⟨tw_59, by decide, by decide, by decide +kernel⟩
theorem tw_229 : Cond.methodLink RX6 243 yX6_isLength ∈ lw_g := lg_in (List.mem_of_getElem? (i := 229) (by decide +kernel)) rfl
theorem tw_230 : Cond.static yX6_isLength ∈ lw_g := lg_in (List.mem_of_getElem? (i := 230) (by decide +kernel)) rfl
theorem lk_X6_243 : xLS RX6 243 yX6_isLength 1 := ⟨tw_229, tw_230, lyX6_isLength⟩
theorem lyX0_copyFrom : xLy yX0_copyFrom 1 := ⟨tw_61, by decide, by decide, by decide +kernel⟩
theorem tw_236 : Cond.methodLink RX6 246 yX0_copyFrom ∈ lw_g := lg_in (List.mem_of_getElem? (i := 236) (by decide +kernel)) rfl
theorem tw_237 : Cond.instanceMethod yX0_copyFrom ∈ lw_g := lg_in (List.mem_of_getElem? (i := 237) (by decide +kernel)) rfl
theorem tw_238 : Cond.selects RX0 yX0_copyFrom yX0_copyFrom ∈ lw_g := lg_in (List.mem_of_getElem? (i := 238) (by decide +kernel)) rfl
theorem lk_X6_246 : xLV RX6 246 yX0_copyFrom 1 := ⟨tw_236, tw_237, tw_238, lyX0_copyFrom⟩
theorem lyX0_addRun : xLy yX0_addRun 2 := ⟨tw_61, by decide, by decide, by decide +kernel⟩
theorem tw_243 : Cond.methodLink RX6 248 yX0_addRun ∈ lw_g := lg_in (List.mem_of_getElem? (i := 243) (by decide +kernel)) rfl
theorem tw_244 : Cond.instanceMethod yX0_addRun ∈ lw_g := lg_in (List.mem_of_getElem? (i := 244) (by decide +kernel)) rfl
theorem tw_245 : Cond.selects RX0 yX0_addRun yX0_addRun ∈ lw_g := lg_in (List.mem_of_getElem? (i := 245) (by decide +kernel)) rfl
theorem lk_X6_248 : xLV RX6 248 yX0_addRun 2 := ⟨tw_243, tw_244, tw_245, lyX0_addRun⟩
theorem lyX6_errorOfDraft : xLy yX6_errorOfDraft 0 := ⟨tw_59, by decide, by decide, by decide +kernel⟩
theorem tw_247 : Cond.methodLink RX6 252 yX6_errorOfDraft ∈ lw_g := lg_in (List.mem_of_getElem? (i := 247) (by decide +kernel)) rfl
theorem tw_249 : Cond.instanceMethod yX6_errorOfDraft ∈ lw_g := lg_in (List.mem_of_getElem? (i := 249) (by decide +kernel)) rfl
theorem tw_1 : Cond.selects RX6 yX6_errorOfDraft yX6_errorOfDraft ∈ lw_g := lg_in (List.mem_of_getElem? (i := 1) (by decide +kernel)) rfl
theorem lk_X6_252 : xLV RX6 252 yX6_errorOfDraft 0 := ⟨tw_247, tw_249, tw_1, lyX6_errorOfDraft⟩
theorem lyX0_addRows : xLy yX0_addRows 3 := ⟨tw_61, by decide, by decide, by decide +kernel⟩
theorem tw_284 : Cond.methodLink RX6 255 yX0_addRows ∈ lw_g := lg_in (List.mem_of_getElem? (i := 284) (by decide +kernel)) rfl
theorem tw_285 : Cond.instanceMethod yX0_addRows ∈ lw_g := lg_in (List.mem_of_getElem? (i := 285) (by decide +kernel)) rfl
theorem tw_286 : Cond.selects RX0 yX0_addRows yX0_addRows ∈ lw_g := lg_in (List.mem_of_getElem? (i := 286) (by decide +kernel)) rfl
theorem lk_X6_255 : xLV RX6 255 yX0_addRows 3 := ⟨tw_284, tw_285, tw_286, lyX0_addRows⟩
theorem lyJ9_max_7cf53 : xLy yJ9_max_7cf53 2 := ⟨tw_67, by decide, by decide, by decide +kernel⟩
theorem tw_424 : Cond.methodLink RX6 259 yJ9_max_7cf53 ∈ lw_g := lg_in (List.mem_of_getElem? (i := 424) (by decide +kernel)) rfl
theorem tw_292 : Cond.static yJ9_max_7cf53 ∈ lw_g := lg_in (List.mem_of_getElem? (i := 292) (by decide +kernel)) rfl
theorem lk_X6_259 : xLS RX6 259 yJ9_max_7cf53 2 := ⟨tw_424, tw_292, lyJ9_max_7cf53⟩
theorem lyX4_isAlike : xLy yX4_isAlike 0 := ⟨tw_68, by decide, by decide, by decide +kernel⟩
theorem tw_425 : Cond.methodLink RX6 262 yX4_isAlike ∈ lw_g := lg_in (List.mem_of_getElem? (i := 425) (by decide +kernel)) rfl
theorem tw_426 : Cond.instanceMethod yX4_isAlike ∈ lw_g := lg_in (List.mem_of_getElem? (i := 426) (by decide +kernel)) rfl
theorem tw_427 : Cond.selects RX4 yX4_isAlike yX4_isAlike ∈ lw_g := lg_in (List.mem_of_getElem? (i := 427) (by decide +kernel)) rfl
theorem lk_X6_262 : xLV RX6 262 yX4_isAlike 0 := ⟨tw_425, tw_426, tw_427, lyX4_isAlike⟩
theorem lyX2_column : xLy yX2_column 0 := ⟨tw_63, by decide, by decide, by decide +kernel⟩
theorem tw_647 : Cond.methodLink RX6 265 yX2_column ∈ lw_g := lg_in (List.mem_of_getElem? (i := 647) (by decide +kernel)) rfl
theorem tw_648 : Cond.instanceMethod yX2_column ∈ lw_g := lg_in (List.mem_of_getElem? (i := 648) (by decide +kernel)) rfl
theorem tw_649 : Cond.selects RX2 yX2_column yX2_column ∈ lw_g := lg_in (List.mem_of_getElem? (i := 649) (by decide +kernel)) rfl
theorem lk_X6_265 : xLV RX6 265 yX2_column 0 := ⟨tw_647, tw_648, tw_649, lyX2_column⟩
theorem lyX2_kind : xLy yX2_kind 0 := ⟨tw_63, by decide, by decide, by decide +kernel⟩
theorem tw_651 : Cond.methodLink RX6 267 yX2_kind ∈ lw_g := lg_in (List.mem_of_getElem? (i := 651) (by decide +kernel)) rfl
theorem tw_652 : Cond.instanceMethod yX2_kind ∈ lw_g := lg_in (List.mem_of_getElem? (i := 652) (by decide +kernel)) rfl
theorem tw_653 : Cond.selects RX2 yX2_kind yX2_kind ∈ lw_g := lg_in (List.mem_of_getElem? (i := 653) (by decide +kernel)) rfl
theorem lk_X6_267 : xLV RX6 267 yX2_kind 0 := ⟨tw_651, tw_652, tw_653, lyX2_kind⟩
theorem lyX2_row : xLy yX2_row 0 := ⟨tw_63, by decide, by decide, by decide +kernel⟩
theorem tw_655 : Cond.methodLink RX6 271 yX2_row ∈ lw_g := lg_in (List.mem_of_getElem? (i := 655) (by decide +kernel)) rfl
theorem tw_656 : Cond.instanceMethod yX2_row ∈ lw_g := lg_in (List.mem_of_getElem? (i := 656) (by decide +kernel)) rfl
theorem tw_657 : Cond.selects RX2 yX2_row yX2_row ∈ lw_g := lg_in (List.mem_of_getElem? (i := 657) (by decide +kernel)) rfl
theorem lk_X6_271 : xLV RX6 271 yX2_row 0 := ⟨tw_655, tw_656, tw_657, lyX2_row⟩
theorem lyX2_operand : xLy yX2_operand 0 := ⟨tw_63, by decide, by decide, by decide +kernel⟩
theorem tw_659 : Cond.methodLink RX6 274 yX2_operand ∈ lw_g := lg_in (List.mem_of_getElem? (i := 659) (by decide +kernel)) rfl
theorem tw_660 : Cond.instanceMethod yX2_operand ∈ lw_g := lg_in (List.mem_of_getElem? (i := 660) (by decide +kernel)) rfl
theorem tw_661 : Cond.selects RX2 yX2_operand yX2_operand ∈ lw_g := lg_in (List.mem_of_getElem? (i := 661) (by decide +kernel)) rfl
theorem lk_X6_274 : xLV RX6 274 yX2_operand 0 := ⟨tw_659, tw_660, tw_661, lyX2_operand⟩
theorem lyX6_draftRunsOfOrder : xLy yX6_draftRunsOfOrder 0 := ⟨tw_59, by decide, by decide, by decide +kernel⟩
theorem tw_663 : Cond.methodLink RX6 277 yX6_draftRunsOfOrder ∈ lw_g := lg_in (List.mem_of_getElem? (i := 663) (by decide +kernel)) rfl
theorem tw_665 : Cond.instanceMethod yX6_draftRunsOfOrder ∈ lw_g := lg_in (List.mem_of_getElem? (i := 665) (by decide +kernel)) rfl
theorem tw_18 : Cond.selects RX6 yX6_draftRunsOfOrder yX6_draftRunsOfOrder ∈ lw_g := lg_in (List.mem_of_getElem? (i := 18) (by decide +kernel)) rfl
theorem lk_X6_277 : xLV RX6 277 yX6_draftRunsOfOrder 0 := ⟨tw_663, tw_665, tw_18, lyX6_draftRunsOfOrder⟩
theorem lyX2_runs : xLy yX2_runs 0 := ⟨tw_63, by decide, by decide, by decide +kernel⟩
theorem tw_667 : Cond.methodLink RX6 280 yX2_runs ∈ lw_g := lg_in (List.mem_of_getElem? (i := 667) (by decide +kernel)) rfl
theorem tw_668 : Cond.instanceMethod yX2_runs ∈ lw_g := lg_in (List.mem_of_getElem? (i := 668) (by decide +kernel)) rfl
theorem tw_669 : Cond.selects RX2 yX2_runs yX2_runs ∈ lw_g := lg_in (List.mem_of_getElem? (i := 669) (by decide +kernel)) rfl
theorem lk_X6_280 : xLV RX6 280 yX2_runs 0 := ⟨tw_667, tw_668, tw_669, lyX2_runs⟩
theorem lyX2_lengthOfRun : xLy yX2_lengthOfRun 1 := ⟨tw_63, by decide, by decide, by decide +kernel⟩
theorem tw_671 : Cond.methodLink RX6 281 yX2_lengthOfRun ∈ lw_g := lg_in (List.mem_of_getElem? (i := 671) (by decide +kernel)) rfl
theorem tw_672 : Cond.instanceMethod yX2_lengthOfRun ∈ lw_g := lg_in (List.mem_of_getElem? (i := 672) (by decide +kernel)) rfl
theorem tw_673 : Cond.selects RX2 yX2_lengthOfRun yX2_lengthOfRun ∈ lw_g := lg_in (List.mem_of_getElem? (i := 673) (by decide +kernel)) rfl
theorem lk_X6_281 : xLV RX6 281 yX2_lengthOfRun 1 := ⟨tw_671, tw_672, tw_673, lyX2_lengthOfRun⟩
theorem lyX2_valueOfRun : xLy yX2_valueOfRun 1 := ⟨tw_63, by decide, by decide, by decide +kernel⟩
theorem tw_675 : Cond.methodLink RX6 282 yX2_valueOfRun ∈ lw_g := lg_in (List.mem_of_getElem? (i := 675) (by decide +kernel)) rfl
theorem tw_676 : Cond.instanceMethod yX2_valueOfRun ∈ lw_g := lg_in (List.mem_of_getElem? (i := 676) (by decide +kernel)) rfl
theorem tw_677 : Cond.selects RX2 yX2_valueOfRun yX2_valueOfRun ∈ lw_g := lg_in (List.mem_of_getElem? (i := 677) (by decide +kernel)) rfl
theorem lk_X6_282 : xLV RX6 282 yX2_valueOfRun 1 := ⟨tw_675, tw_676, tw_677, lyX2_valueOfRun⟩
theorem lyX0_isOverfull : xLy yX0_isOverfull 0 := ⟨tw_61, by decide, by decide, by decide +kernel⟩
theorem tw_251 : Cond.methodLink RX6 283 yX0_isOverfull ∈ lw_g := lg_in (List.mem_of_getElem? (i := 251) (by decide +kernel)) rfl
theorem tw_252 : Cond.instanceMethod yX0_isOverfull ∈ lw_g := lg_in (List.mem_of_getElem? (i := 252) (by decide +kernel)) rfl
theorem tw_253 : Cond.selects RX0 yX0_isOverfull yX0_isOverfull ∈ lw_g := lg_in (List.mem_of_getElem? (i := 253) (by decide +kernel)) rfl
theorem lk_X6_283 : xLV RX6 283 yX0_isOverfull 0 := ⟨tw_251, tw_252, tw_253, lyX0_isOverfull⟩
theorem lyX2_start : xLy yX2_start 0 := ⟨tw_63, by decide, by decide, by decide +kernel⟩
theorem tw_641 : Cond.methodLink RX6 286 yX2_start ∈ lw_g := lg_in (List.mem_of_getElem? (i := 641) (by decide +kernel)) rfl
theorem tw_597 : Cond.instanceMethod yX2_start ∈ lw_g := lg_in (List.mem_of_getElem? (i := 597) (by decide +kernel)) rfl
theorem tw_598 : Cond.selects RX2 yX2_start yX2_start ∈ lw_g := lg_in (List.mem_of_getElem? (i := 598) (by decide +kernel)) rfl
theorem lk_X6_286 : xLV RX6 286 yX2_start 0 := ⟨tw_641, tw_597, tw_598, lyX2_start⟩
theorem lyX2_readOrder : xLy yX2_readOrder 0 := ⟨tw_63, by decide, by decide, by decide +kernel⟩
theorem tw_642 : Cond.methodLink RX6 289 yX2_readOrder ∈ lw_g := lg_in (List.mem_of_getElem? (i := 642) (by decide +kernel)) rfl
theorem tw_601 : Cond.instanceMethod yX2_readOrder ∈ lw_g := lg_in (List.mem_of_getElem? (i := 601) (by decide +kernel)) rfl
theorem tw_602 : Cond.selects RX2 yX2_readOrder yX2_readOrder ∈ lw_g := lg_in (List.mem_of_getElem? (i := 602) (by decide +kernel)) rfl
theorem lk_X6_289 : xLV RX6 289 yX2_readOrder 0 := ⟨tw_642, tw_601, tw_602, lyX2_readOrder⟩
theorem lyX6_draftOrder : xLy yX6_draftOrder 0 := ⟨tw_59, by decide, by decide, by decide +kernel⟩
theorem tw_643 : Cond.methodLink RX6 292 yX6_draftOrder ∈ lw_g := lg_in (List.mem_of_getElem? (i := 643) (by decide +kernel)) rfl
theorem tw_645 : Cond.instanceMethod yX6_draftOrder ∈ lw_g := lg_in (List.mem_of_getElem? (i := 645) (by decide +kernel)) rfl
theorem tw_17 : Cond.selects RX6 yX6_draftOrder yX6_draftOrder ∈ lw_g := lg_in (List.mem_of_getElem? (i := 17) (by decide +kernel)) rfl
theorem lk_X6_292 : xLV RX6 292 yX6_draftOrder 0 := ⟨tw_643, tw_645, tw_17, lyX6_draftOrder⟩
theorem lyX2_passes : xLy yX2_passes 1 := ⟨tw_63, by decide, by decide, by decide +kernel⟩
theorem tw_679 : Cond.methodLink RX6 295 yX2_passes ∈ lw_g := lg_in (List.mem_of_getElem? (i := 679) (by decide +kernel)) rfl
theorem tw_613 : Cond.instanceMethod yX2_passes ∈ lw_g := lg_in (List.mem_of_getElem? (i := 613) (by decide +kernel)) rfl
theorem tw_614 : Cond.selects RX2 yX2_passes yX2_passes ∈ lw_g := lg_in (List.mem_of_getElem? (i := 614) (by decide +kernel)) rfl
theorem lk_X6_295 : xLV RX6 295 yX2_passes 1 := ⟨tw_679, tw_613, tw_614, lyX2_passes⟩
theorem lyX4_init : xLy yX4_init 2 := ⟨tw_68, by decide, by decide, by decide +kernel⟩
theorem tw_365 : Cond.methodLink RX6 299 yX4_init ∈ lw_g := lg_in (List.mem_of_getElem? (i := 365) (by decide +kernel)) rfl
theorem tw_366 : Cond.instanceMethod yX4_init ∈ lw_g := lg_in (List.mem_of_getElem? (i := 366) (by decide +kernel)) rfl
theorem lk_X6_299 : xLI RX6 299 yX4_init 2 := ⟨tw_365, tw_366, rfl, lyX4_init⟩
theorem tw_69 : Cond.initialized RJ7 ∈ lw_g := lg_in (List.mem_of_getElem? (i := 69) (by decide +kernel)) rfl
theorem lyJ7_fill_53178 : xLy yJ7_fill_53178 2 := ⟨tw_69, by decide, by decide, by decide +kernel⟩
theorem tw_534 : Cond.methodLink RX6 302 yJ7_fill_53178 ∈ lw_g := lg_in (List.mem_of_getElem? (i := 534) (by decide +kernel)) rfl
theorem tw_535 : Cond.static yJ7_fill_53178 ∈ lw_g := lg_in (List.mem_of_getElem? (i := 535) (by decide +kernel)) rfl
theorem lk_X6_302 : xLS RX6 302 yJ7_fill_53178 2 := ⟨tw_534, tw_535, lyJ7_fill_53178⟩
theorem tw_91 : Cond.methodLink RX0 3 objectInit ∈ lw_g := lg_in (List.mem_of_getElem? (i := 91) (by decide +kernel)) rfl
theorem lyX0_runOfRow : xLy yX0_runOfRow 1 := ⟨tw_61, by decide, by decide, by decide +kernel⟩
theorem tw_323 : Cond.methodLink RX0 29 yX0_runOfRow ∈ lw_g := lg_in (List.mem_of_getElem? (i := 323) (by decide +kernel)) rfl
theorem tw_324 : Cond.instanceMethod yX0_runOfRow ∈ lw_g := lg_in (List.mem_of_getElem? (i := 324) (by decide +kernel)) rfl
theorem tw_325 : Cond.selects RX0 yX0_runOfRow yX0_runOfRow ∈ lw_g := lg_in (List.mem_of_getElem? (i := 325) (by decide +kernel)) rfl
theorem lk_X0_29 : xLV RX0 29 yX0_runOfRow 1 := ⟨tw_323, tw_324, tw_325, lyX0_runOfRow⟩
theorem tw_327 : Cond.methodLink RX0 33 yX0_valueOfRun ∈ lw_g := lg_in (List.mem_of_getElem? (i := 327) (by decide +kernel)) rfl
theorem lk_X0_33 : xLV RX0 33 yX0_valueOfRun 1 := ⟨tw_327, tw_328, tw_329, lyX0_valueOfRun⟩
theorem tw_291 : Cond.methodLink RX0 36 yJ9_max_7cf53 ∈ lw_g := lg_in (List.mem_of_getElem? (i := 291) (by decide +kernel)) rfl
theorem lk_X0_36 : xLS RX0 36 yJ9_max_7cf53 2 := ⟨tw_291, tw_292, lyJ9_max_7cf53⟩
theorem tw_563 : Cond.methodLink RX0 42 yX0_firstRowOfRun ∈ lw_g := lg_in (List.mem_of_getElem? (i := 563) (by decide +kernel)) rfl
theorem lk_X0_42 : xLV RX0 42 yX0_firstRowOfRun 1 := ⟨tw_563, tw_436, tw_437, lyX0_firstRowOfRun⟩
theorem tw_564 : Cond.methodLink RX0 45 yX0_lengthOfRun ∈ lw_g := lg_in (List.mem_of_getElem? (i := 564) (by decide +kernel)) rfl
theorem lk_X0_45 : xLV RX0 45 yX0_lengthOfRun 1 := ⟨tw_564, tw_407, tw_408, lyX0_lengthOfRun⟩
theorem tw_559 : Cond.methodLink RX0 48 yX0_runsAfterSet ∈ lw_g := lg_in (List.mem_of_getElem? (i := 559) (by decide +kernel)) rfl
theorem lk_X0_48 : xLV RX0 48 yX0_runsAfterSet 2 := ⟨tw_559, tw_560, tw_561, lyX0_runsAfterSet⟩
theorem tw_240 : Cond.methodLink RX0 51 arraycopyName ∈ lw_g := lg_in (List.mem_of_getElem? (i := 240) (by decide +kernel)) rfl
theorem tw_288 : Cond.methodLink RX0 57 yJ9_min_7cf53 ∈ lw_g := lg_in (List.mem_of_getElem? (i := 288) (by decide +kernel)) rfl
theorem lk_X0_57 : xLS RX0 57 yJ9_min_7cf53 2 := ⟨tw_288, tw_289, lyJ9_min_7cf53⟩
theorem tw_294 : Cond.methodLink RX0 60 yX0_addRun ∈ lw_g := lg_in (List.mem_of_getElem? (i := 294) (by decide +kernel)) rfl
theorem lk_X0_60 : xLV RX0 60 yX0_addRun 2 := ⟨tw_294, tw_244, tw_245, lyX0_addRun⟩
theorem tw_118 : Cond.methodLink RX1 3 objectInit ∈ lw_g := lg_in (List.mem_of_getElem? (i := 118) (by decide +kernel)) rfl
theorem tw_121 : Cond.methodLink RX1 17 yX5_init ∈ lw_g := lg_in (List.mem_of_getElem? (i := 121) (by decide +kernel)) rfl
theorem lk_X1_17 : xLI RX1 17 yX5_init 0 := ⟨tw_121, tw_82, rfl, lyX5_init⟩
theorem tw_263 : Cond.methodLink RX1 25 yX5_copyFrom ∈ lw_g := lg_in (List.mem_of_getElem? (i := 263) (by decide +kernel)) rfl
theorem lk_X1_25 : xLV RX1 25 yX5_copyFrom 1 := ⟨tw_263, tw_264, tw_265, lyX5_copyFrom⟩
theorem tw_139 : Cond.methodLink RX2 3 objectInit ∈ lw_g := lg_in (List.mem_of_getElem? (i := 139) (by decide +kernel)) rfl
theorem tw_596 : Cond.methodLink RX2 45 yX2_start ∈ lw_g := lg_in (List.mem_of_getElem? (i := 596) (by decide +kernel)) rfl
theorem lk_X2_45 : xLV RX2 45 yX2_start 0 := ⟨tw_596, tw_597, tw_598, lyX2_start⟩
theorem tw_600 : Cond.methodLink RX2 48 yX2_readOrder ∈ lw_g := lg_in (List.mem_of_getElem? (i := 600) (by decide +kernel)) rfl
theorem lk_X2_48 : xLV RX2 48 yX2_readOrder 0 := ⟨tw_600, tw_601, tw_602, lyX2_readOrder⟩
theorem tw_612 : Cond.methodLink RX2 52 yX2_passes ∈ lw_g := lg_in (List.mem_of_getElem? (i := 612) (by decide +kernel)) rfl
theorem lk_X2_52 : xLV RX2 52 yX2_passes 1 := ⟨tw_612, tw_613, tw_614, lyX2_passes⟩
theorem tw_632 : Cond.methodLink RX2 56 yX3_length ∈ lw_g := lg_in (List.mem_of_getElem? (i := 632) (by decide +kernel)) rfl
theorem lk_X2_56 : xLV RX2 56 yX3_length 0 := ⟨tw_632, tw_502, tw_503, lyX3_length⟩
theorem lyX2_readDigit : xLy yX2_readDigit 1 := ⟨tw_63, by decide, by decide, by decide +kernel⟩
theorem tw_604 : Cond.methodLink RX2 60 yX2_readDigit ∈ lw_g := lg_in (List.mem_of_getElem? (i := 604) (by decide +kernel)) rfl
theorem tw_606 : Cond.instanceMethod yX2_readDigit ∈ lw_g := lg_in (List.mem_of_getElem? (i := 606) (by decide +kernel)) rfl
theorem tw_11 : Cond.selects RX2 yX2_readDigit yX2_readDigit ∈ lw_g := lg_in (List.mem_of_getElem? (i := 11) (by decide +kernel)) rfl
theorem lk_X2_60 : xLV RX2 60 yX2_readDigit 1 := ⟨tw_604, tw_606, tw_11, lyX2_readDigit⟩
theorem lyX3_signAt : xLy yX3_signAt 1 := ⟨tw_64, by decide, by decide, by decide +kernel⟩
theorem tw_608 : Cond.methodLink RX2 67 yX3_signAt ∈ lw_g := lg_in (List.mem_of_getElem? (i := 608) (by decide +kernel)) rfl
theorem tw_609 : Cond.instanceMethod yX3_signAt ∈ lw_g := lg_in (List.mem_of_getElem? (i := 609) (by decide +kernel)) rfl
theorem tw_610 : Cond.selects RX3 yX3_signAt yX3_signAt ∈ lw_g := lg_in (List.mem_of_getElem? (i := 610) (by decide +kernel)) rfl
theorem lk_X2_67 : xLV RX2 67 yX3_signAt 1 := ⟨tw_608, tw_609, tw_610, lyX3_signAt⟩
theorem lyX2_readRuns : xLy yX2_readRuns 0 := ⟨tw_63, by decide, by decide, by decide +kernel⟩
theorem tw_616 : Cond.methodLink RX2 71 yX2_readRuns ∈ lw_g := lg_in (List.mem_of_getElem? (i := 616) (by decide +kernel)) rfl
theorem tw_618 : Cond.instanceMethod yX2_readRuns ∈ lw_g := lg_in (List.mem_of_getElem? (i := 618) (by decide +kernel)) rfl
theorem tw_12 : Cond.selects RX2 yX2_readRuns yX2_readRuns ∈ lw_g := lg_in (List.mem_of_getElem? (i := 12) (by decide +kernel)) rfl
theorem lk_X2_71 : xLV RX2 71 yX2_readRuns 0 := ⟨tw_616, tw_618, tw_12, lyX2_readRuns⟩
theorem lyX2_readRow : xLy yX2_readRow 0 := ⟨tw_63, by decide, by decide, by decide +kernel⟩
theorem tw_624 : Cond.methodLink RX2 74 yX2_readRow ∈ lw_g := lg_in (List.mem_of_getElem? (i := 624) (by decide +kernel)) rfl
theorem tw_626 : Cond.instanceMethod yX2_readRow ∈ lw_g := lg_in (List.mem_of_getElem? (i := 626) (by decide +kernel)) rfl
theorem tw_14 : Cond.selects RX2 yX2_readRow yX2_readRow ∈ lw_g := lg_in (List.mem_of_getElem? (i := 14) (by decide +kernel)) rfl
theorem lk_X2_74 : xLV RX2 74 yX2_readRow 0 := ⟨tw_624, tw_626, tw_14, lyX2_readRow⟩
theorem lyX2_readNumber : xLy yX2_readNumber 0 := ⟨tw_63, by decide, by decide, by decide +kernel⟩
theorem tw_620 : Cond.methodLink RX2 77 yX2_readNumber ∈ lw_g := lg_in (List.mem_of_getElem? (i := 620) (by decide +kernel)) rfl
theorem tw_622 : Cond.instanceMethod yX2_readNumber ∈ lw_g := lg_in (List.mem_of_getElem? (i := 622) (by decide +kernel)) rfl
theorem tw_13 : Cond.selects RX2 yX2_readNumber yX2_readNumber ∈ lw_g := lg_in (List.mem_of_getElem? (i := 13) (by decide +kernel)) rfl
theorem lk_X2_77 : xLV RX2 77 yX2_readNumber 0 := ⟨tw_620, tw_622, tw_13, lyX2_readNumber⟩
theorem lyX2_keepOperand : xLy yX2_keepOperand 0 := ⟨tw_63, by decide, by decide, by decide +kernel⟩
theorem tw_628 : Cond.methodLink RX2 80 yX2_keepOperand ∈ lw_g := lg_in (List.mem_of_getElem? (i := 628) (by decide +kernel)) rfl
theorem tw_630 : Cond.instanceMethod yX2_keepOperand ∈ lw_g := lg_in (List.mem_of_getElem? (i := 630) (by decide +kernel)) rfl
theorem tw_15 : Cond.selects RX2 yX2_keepOperand yX2_keepOperand ∈ lw_g := lg_in (List.mem_of_getElem? (i := 15) (by decide +kernel)) rfl
theorem lk_X2_80 : xLV RX2 80 yX2_keepOperand 0 := ⟨tw_628, tw_630, tw_15, lyX2_keepOperand⟩
theorem tw_145 : Cond.methodLink RX3 3 objectInit ∈ lw_g := lg_in (List.mem_of_getElem? (i := 145) (by decide +kernel)) rfl
theorem tw_368 : Cond.methodLink RX4 1 objectInit ∈ lw_g := lg_in (List.mem_of_getElem? (i := 368) (by decide +kernel)) rfl
theorem tw_404 : Cond.methodLink RX4 32 yX0_runs ∈ lw_g := lg_in (List.mem_of_getElem? (i := 404) (by decide +kernel)) rfl
theorem lk_X4_32 : xLV RX4 32 yX0_runs 0 := ⟨tw_404, tw_296, tw_297, lyX0_runs⟩
theorem tw_405 : Cond.methodLink RX4 41 yX0_valueOfRun ∈ lw_g := lg_in (List.mem_of_getElem? (i := 405) (by decide +kernel)) rfl
theorem lk_X4_41 : xLV RX4 41 yX0_valueOfRun 1 := ⟨tw_405, tw_328, tw_329, lyX0_valueOfRun⟩
theorem tw_406 : Cond.methodLink RX4 45 yX0_lengthOfRun ∈ lw_g := lg_in (List.mem_of_getElem? (i := 406) (by decide +kernel)) rfl
theorem lk_X4_45 : xLV RX4 45 yX0_lengthOfRun 1 := ⟨tw_406, tw_407, tw_408, lyX0_lengthOfRun⟩
theorem tw_410 : Cond.methodLink RX4 54 yJ9_min_7cf53 ∈ lw_g := lg_in (List.mem_of_getElem? (i := 410) (by decide +kernel)) rfl
theorem lk_X4_54 : xLS RX4 54 yJ9_min_7cf53 2 := ⟨tw_410, tw_289, lyJ9_min_7cf53⟩
theorem tw_84 : Cond.methodLink RX5 3 objectInit ∈ lw_g := lg_in (List.mem_of_getElem? (i := 84) (by decide +kernel)) rfl
theorem tw_495 : Cond.methodLink RX5 18 yX0_rows ∈ lw_g := lg_in (List.mem_of_getElem? (i := 495) (by decide +kernel)) rfl
theorem lk_X5_18 : xLV RX5 18 yX0_rows 0 := ⟨tw_495, tw_269, tw_270, lyX0_rows⟩
theorem tw_500 : Cond.methodLink RX5 22 yX0_runs ∈ lw_g := lg_in (List.mem_of_getElem? (i := 500) (by decide +kernel)) rfl
theorem lk_X5_22 : xLV RX5 22 yX0_runs 0 := ⟨tw_500, tw_296, tw_297, lyX0_runs⟩
theorem tw_267 : Cond.methodLink RX5 25 yX0_copyFrom ∈ lw_g := lg_in (List.mem_of_getElem? (i := 267) (by decide +kernel)) rfl
theorem lk_X5_25 : xLV RX5 25 yX0_copyFrom 1 := ⟨tw_267, tw_237, tw_238, lyX0_copyFrom⟩
theorem lyX6_init : xLy yX6_init 0 := ⟨tw_59, by decide, by decide, by decide +kernel⟩
theorem tw_73 : Cond.methodLink RL 9 yX6_init ∈ lw_g := lg_in (List.mem_of_getElem? (i := 73) (by decide +kernel)) rfl
theorem tw_74 : Cond.instanceMethod yX6_init ∈ lw_g := lg_in (List.mem_of_getElem? (i := 74) (by decide +kernel)) rfl
theorem lk_L_9 : xLI RL 9 yX6_init 0 := ⟨tw_73, tw_74, rfl, lyX6_init⟩
theorem tw_65 : Cond.initialized RX7 ∈ lw_g := lg_in (List.mem_of_getElem? (i := 65) (by decide +kernel)) rfl
theorem lyX7_init : xLy yX7_init 0 := ⟨tw_65, by decide, by decide, by decide +kernel⟩
theorem tw_702 : Cond.methodLink RL 12 yX7_init ∈ lw_g := lg_in (List.mem_of_getElem? (i := 702) (by decide +kernel)) rfl
theorem tw_703 : Cond.instanceMethod yX7_init ∈ lw_g := lg_in (List.mem_of_getElem? (i := 703) (by decide +kernel)) rfl
theorem lk_L_12 : xLI RL 12 yX7_init 0 := ⟨tw_702, tw_703, rfl, lyX7_init⟩
theorem lyX6_append : xLy yX6_append 3 := ⟨tw_59, by decide, by decide, by decide +kernel⟩
theorem tw_215 : Cond.methodLink RL 13 yX6_append ∈ lw_g := lg_in (List.mem_of_getElem? (i := 215) (by decide +kernel)) rfl
theorem tw_216 : Cond.instanceMethod yX6_append ∈ lw_g := lg_in (List.mem_of_getElem? (i := 216) (by decide +kernel)) rfl
theorem tw_217 : Cond.selects RX6 yX6_append yX6_append ∈ lw_g := lg_in (List.mem_of_getElem? (i := 217) (by decide +kernel)) rfl
theorem lk_L_13 : xLV RL 13 yX6_append 3 := ⟨tw_215, tw_216, tw_217, lyX6_append⟩
theorem lyX7_append : xLy yX7_append 3 := ⟨tw_65, by decide, by decide, by decide +kernel⟩
theorem tw_767 : Cond.methodLink RL 17 yX7_append ∈ lw_g := lg_in (List.mem_of_getElem? (i := 767) (by decide +kernel)) rfl
theorem tw_768 : Cond.instanceMethod yX7_append ∈ lw_g := lg_in (List.mem_of_getElem? (i := 768) (by decide +kernel)) rfl
theorem tw_769 : Cond.selects RX7 yX7_append yX7_append ∈ lw_g := lg_in (List.mem_of_getElem? (i := 769) (by decide +kernel)) rfl
theorem lk_L_17 : xLV RL 17 yX7_append 3 := ⟨tw_767, tw_768, tw_769, lyX7_append⟩
theorem lyX6_insert : xLy yX6_insert 4 := ⟨tw_59, by decide, by decide, by decide +kernel⟩
theorem tw_272 : Cond.methodLink RL 18 yX6_insert ∈ lw_g := lg_in (List.mem_of_getElem? (i := 272) (by decide +kernel)) rfl
theorem tw_273 : Cond.instanceMethod yX6_insert ∈ lw_g := lg_in (List.mem_of_getElem? (i := 273) (by decide +kernel)) rfl
theorem tw_274 : Cond.selects RX6 yX6_insert yX6_insert ∈ lw_g := lg_in (List.mem_of_getElem? (i := 274) (by decide +kernel)) rfl
theorem lk_L_18 : xLV RL 18 yX6_insert 4 := ⟨tw_272, tw_273, tw_274, lyX6_insert⟩
theorem lyX7_insert : xLy yX7_insert 4 := ⟨tw_65, by decide, by decide, by decide +kernel⟩
theorem tw_819 : Cond.methodLink RL 22 yX7_insert ∈ lw_g := lg_in (List.mem_of_getElem? (i := 819) (by decide +kernel)) rfl
theorem tw_820 : Cond.instanceMethod yX7_insert ∈ lw_g := lg_in (List.mem_of_getElem? (i := 820) (by decide +kernel)) rfl
theorem tw_821 : Cond.selects RX7 yX7_insert yX7_insert ∈ lw_g := lg_in (List.mem_of_getElem? (i := 821) (by decide +kernel)) rfl
theorem lk_L_22 : xLV RL 22 yX7_insert 4 := ⟨tw_819, tw_820, tw_821, lyX7_insert⟩
theorem lyX6_remove : xLy yX6_remove 3 := ⟨tw_59, by decide, by decide, by decide +kernel⟩
theorem tw_299 : Cond.methodLink RL 23 yX6_remove ∈ lw_g := lg_in (List.mem_of_getElem? (i := 299) (by decide +kernel)) rfl
theorem tw_300 : Cond.instanceMethod yX6_remove ∈ lw_g := lg_in (List.mem_of_getElem? (i := 300) (by decide +kernel)) rfl
theorem tw_301 : Cond.selects RX6 yX6_remove yX6_remove ∈ lw_g := lg_in (List.mem_of_getElem? (i := 301) (by decide +kernel)) rfl
theorem lk_L_23 : xLV RL 23 yX6_remove 3 := ⟨tw_299, tw_300, tw_301, lyX6_remove⟩
theorem lyX7_remove : xLy yX7_remove 3 := ⟨tw_65, by decide, by decide, by decide +kernel⟩
theorem tw_827 : Cond.methodLink RL 26 yX7_remove ∈ lw_g := lg_in (List.mem_of_getElem? (i := 827) (by decide +kernel)) rfl
theorem tw_828 : Cond.instanceMethod yX7_remove ∈ lw_g := lg_in (List.mem_of_getElem? (i := 828) (by decide +kernel)) rfl
theorem tw_829 : Cond.selects RX7 yX7_remove yX7_remove ∈ lw_g := lg_in (List.mem_of_getElem? (i := 829) (by decide +kernel)) rfl
theorem lk_L_26 : xLV RL 26 yX7_remove 3 := ⟨tw_827, tw_828, tw_829, lyX7_remove⟩
theorem lyX6_set : xLy yX6_set 3 := ⟨tw_59, by decide, by decide, by decide +kernel⟩
theorem tw_311 : Cond.methodLink RL 27 yX6_set ∈ lw_g := lg_in (List.mem_of_getElem? (i := 311) (by decide +kernel)) rfl
theorem tw_312 : Cond.instanceMethod yX6_set ∈ lw_g := lg_in (List.mem_of_getElem? (i := 312) (by decide +kernel)) rfl
theorem tw_313 : Cond.selects RX6 yX6_set yX6_set ∈ lw_g := lg_in (List.mem_of_getElem? (i := 313) (by decide +kernel)) rfl
theorem lk_L_27 : xLV RL 27 yX6_set 3 := ⟨tw_311, tw_312, tw_313, lyX6_set⟩
theorem lyX7_set : xLy yX7_set 3 := ⟨tw_65, by decide, by decide, by decide +kernel⟩
theorem tw_843 : Cond.methodLink RL 30 yX7_set ∈ lw_g := lg_in (List.mem_of_getElem? (i := 843) (by decide +kernel)) rfl
theorem tw_844 : Cond.instanceMethod yX7_set ∈ lw_g := lg_in (List.mem_of_getElem? (i := 844) (by decide +kernel)) rfl
theorem tw_845 : Cond.selects RX7 yX7_set yX7_set ∈ lw_g := lg_in (List.mem_of_getElem? (i := 845) (by decide +kernel)) rfl
theorem lk_L_30 : xLV RL 30 yX7_set 3 := ⟨tw_843, tw_844, tw_845, lyX7_set⟩
theorem lyX6_sort : xLy yX6_sort 1 := ⟨tw_59, by decide, by decide, by decide +kernel⟩
theorem tw_331 : Cond.methodLink RL 31 yX6_sort ∈ lw_g := lg_in (List.mem_of_getElem? (i := 331) (by decide +kernel)) rfl
theorem tw_332 : Cond.instanceMethod yX6_sort ∈ lw_g := lg_in (List.mem_of_getElem? (i := 332) (by decide +kernel)) rfl
theorem tw_333 : Cond.selects RX6 yX6_sort yX6_sort ∈ lw_g := lg_in (List.mem_of_getElem? (i := 333) (by decide +kernel)) rfl
theorem lk_L_31 : xLV RL 31 yX6_sort 1 := ⟨tw_331, tw_332, tw_333, lyX6_sort⟩
theorem lyX7_sort : xLy yX7_sort 1 := ⟨tw_65, by decide, by decide, by decide +kernel⟩
theorem tw_855 : Cond.methodLink RL 35 yX7_sort ∈ lw_g := lg_in (List.mem_of_getElem? (i := 855) (by decide +kernel)) rfl
theorem tw_856 : Cond.instanceMethod yX7_sort ∈ lw_g := lg_in (List.mem_of_getElem? (i := 856) (by decide +kernel)) rfl
theorem tw_857 : Cond.selects RX7 yX7_sort yX7_sort ∈ lw_g := lg_in (List.mem_of_getElem? (i := 857) (by decide +kernel)) rfl
theorem lk_L_35 : xLV RL 35 yX7_sort 1 := ⟨tw_855, tw_856, tw_857, lyX7_sort⟩
theorem lyX6_turn : xLy yX6_turn 2 := ⟨tw_59, by decide, by decide, by decide +kernel⟩
theorem tw_343 : Cond.methodLink RL 36 yX6_turn ∈ lw_g := lg_in (List.mem_of_getElem? (i := 343) (by decide +kernel)) rfl
theorem tw_344 : Cond.instanceMethod yX6_turn ∈ lw_g := lg_in (List.mem_of_getElem? (i := 344) (by decide +kernel)) rfl
theorem tw_345 : Cond.selects RX6 yX6_turn yX6_turn ∈ lw_g := lg_in (List.mem_of_getElem? (i := 345) (by decide +kernel)) rfl
theorem lk_L_36 : xLV RL 36 yX6_turn 2 := ⟨tw_343, tw_344, tw_345, lyX6_turn⟩
theorem lyX7_turn : xLy yX7_turn 2 := ⟨tw_65, by decide, by decide, by decide +kernel⟩
theorem tw_867 : Cond.methodLink RL 40 yX7_turn ∈ lw_g := lg_in (List.mem_of_getElem? (i := 867) (by decide +kernel)) rfl
theorem tw_868 : Cond.instanceMethod yX7_turn ∈ lw_g := lg_in (List.mem_of_getElem? (i := 868) (by decide +kernel)) rfl
theorem tw_869 : Cond.selects RX7 yX7_turn yX7_turn ∈ lw_g := lg_in (List.mem_of_getElem? (i := 869) (by decide +kernel)) rfl
theorem lk_L_40 : xLV RL 40 yX7_turn 2 := ⟨tw_867, tw_868, tw_869, lyX7_turn⟩
theorem lyX6_merge : xLy yX6_merge 4 := ⟨tw_59, by decide, by decide, by decide +kernel⟩
theorem tw_351 : Cond.methodLink RL 41 yX6_merge ∈ lw_g := lg_in (List.mem_of_getElem? (i := 351) (by decide +kernel)) rfl
theorem tw_352 : Cond.instanceMethod yX6_merge ∈ lw_g := lg_in (List.mem_of_getElem? (i := 352) (by decide +kernel)) rfl
theorem tw_353 : Cond.selects RX6 yX6_merge yX6_merge ∈ lw_g := lg_in (List.mem_of_getElem? (i := 353) (by decide +kernel)) rfl
theorem lk_L_41 : xLV RL 41 yX6_merge 4 := ⟨tw_351, tw_352, tw_353, lyX6_merge⟩
theorem lyX7_merge : xLy yX7_merge 4 := ⟨tw_65, by decide, by decide, by decide +kernel⟩
theorem tw_871 : Cond.methodLink RL 44 yX7_merge ∈ lw_g := lg_in (List.mem_of_getElem? (i := 871) (by decide +kernel)) rfl
theorem tw_872 : Cond.instanceMethod yX7_merge ∈ lw_g := lg_in (List.mem_of_getElem? (i := 872) (by decide +kernel)) rfl
theorem tw_873 : Cond.selects RX7 yX7_merge yX7_merge ∈ lw_g := lg_in (List.mem_of_getElem? (i := 873) (by decide +kernel)) rfl
theorem lk_L_44 : xLV RL 44 yX7_merge 4 := ⟨tw_871, tw_872, tw_873, lyX7_merge⟩
theorem lyX6_run : xLy yX6_run 3 := ⟨tw_59, by decide, by decide, by decide +kernel⟩
theorem tw_429 : Cond.methodLink RL 45 yX6_run ∈ lw_g := lg_in (List.mem_of_getElem? (i := 429) (by decide +kernel)) rfl
theorem tw_430 : Cond.instanceMethod yX6_run ∈ lw_g := lg_in (List.mem_of_getElem? (i := 430) (by decide +kernel)) rfl
theorem tw_431 : Cond.selects RX6 yX6_run yX6_run ∈ lw_g := lg_in (List.mem_of_getElem? (i := 431) (by decide +kernel)) rfl
theorem lk_L_45 : xLV RL 45 yX6_run 3 := ⟨tw_429, tw_430, tw_431, lyX6_run⟩
theorem lyX7_run : xLy yX7_run 3 := ⟨tw_65, by decide, by decide, by decide +kernel⟩
theorem tw_879 : Cond.methodLink RL 48 yX7_run ∈ lw_g := lg_in (List.mem_of_getElem? (i := 879) (by decide +kernel)) rfl
theorem tw_880 : Cond.instanceMethod yX7_run ∈ lw_g := lg_in (List.mem_of_getElem? (i := 880) (by decide +kernel)) rfl
theorem tw_881 : Cond.selects RX7 yX7_run yX7_run ∈ lw_g := lg_in (List.mem_of_getElem? (i := 881) (by decide +kernel)) rfl
theorem lk_L_48 : xLV RL 48 yX7_run 3 := ⟨tw_879, tw_880, tw_881, lyX7_run⟩
theorem lyX6_value : xLy yX6_value 2 := ⟨tw_59, by decide, by decide, by decide +kernel⟩
theorem tw_439 : Cond.methodLink RL 49 yX6_value ∈ lw_g := lg_in (List.mem_of_getElem? (i := 439) (by decide +kernel)) rfl
theorem tw_440 : Cond.instanceMethod yX6_value ∈ lw_g := lg_in (List.mem_of_getElem? (i := 440) (by decide +kernel)) rfl
theorem tw_441 : Cond.selects RX6 yX6_value yX6_value ∈ lw_g := lg_in (List.mem_of_getElem? (i := 441) (by decide +kernel)) rfl
theorem lk_L_49 : xLV RL 49 yX6_value 2 := ⟨tw_439, tw_440, tw_441, lyX6_value⟩
theorem lyX7_value : xLy yX7_value 2 := ⟨tw_65, by decide, by decide, by decide +kernel⟩
theorem tw_887 : Cond.methodLink RL 52 yX7_value ∈ lw_g := lg_in (List.mem_of_getElem? (i := 887) (by decide +kernel)) rfl
theorem tw_888 : Cond.instanceMethod yX7_value ∈ lw_g := lg_in (List.mem_of_getElem? (i := 888) (by decide +kernel)) rfl
theorem tw_889 : Cond.selects RX7 yX7_value yX7_value ∈ lw_g := lg_in (List.mem_of_getElem? (i := 889) (by decide +kernel)) rfl
theorem lk_L_52 : xLV RL 52 yX7_value 2 := ⟨tw_887, tw_888, tw_889, lyX7_value⟩
theorem lyX6_find : xLy yX6_find 3 := ⟨tw_59, by decide, by decide, by decide +kernel⟩
theorem tw_443 : Cond.methodLink RL 53 yX6_find ∈ lw_g := lg_in (List.mem_of_getElem? (i := 443) (by decide +kernel)) rfl
theorem tw_444 : Cond.instanceMethod yX6_find ∈ lw_g := lg_in (List.mem_of_getElem? (i := 444) (by decide +kernel)) rfl
theorem tw_445 : Cond.selects RX6 yX6_find yX6_find ∈ lw_g := lg_in (List.mem_of_getElem? (i := 445) (by decide +kernel)) rfl
theorem lk_L_53 : xLV RL 53 yX6_find 3 := ⟨tw_443, tw_444, tw_445, lyX6_find⟩
theorem lyX7_find : xLy yX7_find 3 := ⟨tw_65, by decide, by decide, by decide +kernel⟩
theorem tw_891 : Cond.methodLink RL 56 yX7_find ∈ lw_g := lg_in (List.mem_of_getElem? (i := 891) (by decide +kernel)) rfl
theorem tw_892 : Cond.instanceMethod yX7_find ∈ lw_g := lg_in (List.mem_of_getElem? (i := 892) (by decide +kernel)) rfl
theorem tw_893 : Cond.selects RX7 yX7_find yX7_find ∈ lw_g := lg_in (List.mem_of_getElem? (i := 893) (by decide +kernel)) rfl
theorem lk_L_56 : xLV RL 56 yX7_find 3 := ⟨tw_891, tw_892, tw_893, lyX7_find⟩
theorem lyX6_ofColumn : xLy yX6_ofColumn 2 := ⟨tw_59, by decide, by decide, by decide +kernel⟩
theorem tw_451 : Cond.methodLink RL 57 yX6_ofColumn ∈ lw_g := lg_in (List.mem_of_getElem? (i := 451) (by decide +kernel)) rfl
theorem tw_452 : Cond.instanceMethod yX6_ofColumn ∈ lw_g := lg_in (List.mem_of_getElem? (i := 452) (by decide +kernel)) rfl
theorem tw_453 : Cond.selects RX6 yX6_ofColumn yX6_ofColumn ∈ lw_g := lg_in (List.mem_of_getElem? (i := 453) (by decide +kernel)) rfl
theorem lk_L_57 : xLV RL 57 yX6_ofColumn 2 := ⟨tw_451, tw_452, tw_453, lyX6_ofColumn⟩
theorem lyX7_ofColumn : xLy yX7_ofColumn 2 := ⟨tw_65, by decide, by decide, by decide +kernel⟩
theorem tw_895 : Cond.methodLink RL 60 yX7_ofColumn ∈ lw_g := lg_in (List.mem_of_getElem? (i := 895) (by decide +kernel)) rfl
theorem tw_896 : Cond.instanceMethod yX7_ofColumn ∈ lw_g := lg_in (List.mem_of_getElem? (i := 896) (by decide +kernel)) rfl
theorem tw_897 : Cond.selects RX7 yX7_ofColumn yX7_ofColumn ∈ lw_g := lg_in (List.mem_of_getElem? (i := 897) (by decide +kernel)) rfl
theorem lk_L_60 : xLV RL 60 yX7_ofColumn 2 := ⟨tw_895, tw_896, tw_897, lyX7_ofColumn⟩
theorem lyX6_group : xLy yX6_group 3 := ⟨tw_59, by decide, by decide, by decide +kernel⟩
theorem tw_475 : Cond.methodLink RL 61 yX6_group ∈ lw_g := lg_in (List.mem_of_getElem? (i := 475) (by decide +kernel)) rfl
theorem tw_476 : Cond.instanceMethod yX6_group ∈ lw_g := lg_in (List.mem_of_getElem? (i := 476) (by decide +kernel)) rfl
theorem tw_477 : Cond.selects RX6 yX6_group yX6_group ∈ lw_g := lg_in (List.mem_of_getElem? (i := 477) (by decide +kernel)) rfl
theorem lk_L_61 : xLV RL 61 yX6_group 3 := ⟨tw_475, tw_476, tw_477, lyX6_group⟩
theorem lyX7_group : xLy yX7_group 3 := ⟨tw_65, by decide, by decide, by decide +kernel⟩
theorem tw_915 : Cond.methodLink RL 64 yX7_group ∈ lw_g := lg_in (List.mem_of_getElem? (i := 915) (by decide +kernel)) rfl
theorem tw_916 : Cond.instanceMethod yX7_group ∈ lw_g := lg_in (List.mem_of_getElem? (i := 916) (by decide +kernel)) rfl
theorem tw_917 : Cond.selects RX7 yX7_group yX7_group ∈ lw_g := lg_in (List.mem_of_getElem? (i := 917) (by decide +kernel)) rfl
theorem lk_L_64 : xLV RL 64 yX7_group 3 := ⟨tw_915, tw_916, tw_917, lyX7_group⟩
theorem lyX6_count : xLy yX6_count 1 := ⟨tw_59, by decide, by decide, by decide +kernel⟩
theorem tw_487 : Cond.methodLink RL 65 yX6_count ∈ lw_g := lg_in (List.mem_of_getElem? (i := 487) (by decide +kernel)) rfl
theorem tw_488 : Cond.instanceMethod yX6_count ∈ lw_g := lg_in (List.mem_of_getElem? (i := 488) (by decide +kernel)) rfl
theorem tw_489 : Cond.selects RX6 yX6_count yX6_count ∈ lw_g := lg_in (List.mem_of_getElem? (i := 489) (by decide +kernel)) rfl
theorem lk_L_65 : xLV RL 65 yX6_count 1 := ⟨tw_487, tw_488, tw_489, lyX6_count⟩
theorem lyX7_count : xLy yX7_count 1 := ⟨tw_65, by decide, by decide, by decide +kernel⟩
theorem tw_923 : Cond.methodLink RL 68 yX7_count ∈ lw_g := lg_in (List.mem_of_getElem? (i := 923) (by decide +kernel)) rfl
theorem tw_924 : Cond.instanceMethod yX7_count ∈ lw_g := lg_in (List.mem_of_getElem? (i := 924) (by decide +kernel)) rfl
theorem tw_925 : Cond.selects RX7 yX7_count yX7_count ∈ lw_g := lg_in (List.mem_of_getElem? (i := 925) (by decide +kernel)) rfl
theorem lk_L_68 : xLV RL 68 yX7_count 1 := ⟨tw_923, tw_924, tw_925, lyX7_count⟩
theorem lyX6_pair : xLy yX6_pair 4 := ⟨tw_59, by decide, by decide, by decide +kernel⟩
theorem tw_509 : Cond.methodLink RL 69 yX6_pair ∈ lw_g := lg_in (List.mem_of_getElem? (i := 509) (by decide +kernel)) rfl
theorem tw_510 : Cond.instanceMethod yX6_pair ∈ lw_g := lg_in (List.mem_of_getElem? (i := 510) (by decide +kernel)) rfl
theorem tw_511 : Cond.selects RX6 yX6_pair yX6_pair ∈ lw_g := lg_in (List.mem_of_getElem? (i := 511) (by decide +kernel)) rfl
theorem lk_L_69 : xLV RL 69 yX6_pair 4 := ⟨tw_509, tw_510, tw_511, lyX6_pair⟩
theorem lyX7_pair : xLy yX7_pair 4 := ⟨tw_65, by decide, by decide, by decide +kernel⟩
theorem tw_935 : Cond.methodLink RL 72 yX7_pair ∈ lw_g := lg_in (List.mem_of_getElem? (i := 935) (by decide +kernel)) rfl
theorem tw_936 : Cond.instanceMethod yX7_pair ∈ lw_g := lg_in (List.mem_of_getElem? (i := 936) (by decide +kernel)) rfl
theorem tw_937 : Cond.selects RX7 yX7_pair yX7_pair ∈ lw_g := lg_in (List.mem_of_getElem? (i := 937) (by decide +kernel)) rfl
theorem lk_L_72 : xLV RL 72 yX7_pair 4 := ⟨tw_935, tw_936, tw_937, lyX7_pair⟩
theorem lyX6_joined : xLy yX6_joined 3 := ⟨tw_59, by decide, by decide, by decide +kernel⟩
theorem tw_517 : Cond.methodLink RL 73 yX6_joined ∈ lw_g := lg_in (List.mem_of_getElem? (i := 517) (by decide +kernel)) rfl
theorem tw_518 : Cond.instanceMethod yX6_joined ∈ lw_g := lg_in (List.mem_of_getElem? (i := 518) (by decide +kernel)) rfl
theorem tw_519 : Cond.selects RX6 yX6_joined yX6_joined ∈ lw_g := lg_in (List.mem_of_getElem? (i := 519) (by decide +kernel)) rfl
theorem lk_L_73 : xLV RL 73 yX6_joined 3 := ⟨tw_517, tw_518, tw_519, lyX6_joined⟩
theorem lyX7_joined : xLy yX7_joined 3 := ⟨tw_65, by decide, by decide, by decide +kernel⟩
theorem tw_943 : Cond.methodLink RL 76 yX7_joined ∈ lw_g := lg_in (List.mem_of_getElem? (i := 943) (by decide +kernel)) rfl
theorem tw_944 : Cond.instanceMethod yX7_joined ∈ lw_g := lg_in (List.mem_of_getElem? (i := 944) (by decide +kernel)) rfl
theorem tw_945 : Cond.selects RX7 yX7_joined yX7_joined ∈ lw_g := lg_in (List.mem_of_getElem? (i := 945) (by decide +kernel)) rfl
theorem lk_L_76 : xLV RL 76 yX7_joined 3 := ⟨tw_943, tw_944, tw_945, lyX7_joined⟩
theorem lyX6_alike : xLy yX6_alike 2 := ⟨tw_59, by decide, by decide, by decide +kernel⟩
theorem tw_543 : Cond.methodLink RL 77 yX6_alike ∈ lw_g := lg_in (List.mem_of_getElem? (i := 543) (by decide +kernel)) rfl
theorem tw_544 : Cond.instanceMethod yX6_alike ∈ lw_g := lg_in (List.mem_of_getElem? (i := 544) (by decide +kernel)) rfl
theorem tw_545 : Cond.selects RX6 yX6_alike yX6_alike ∈ lw_g := lg_in (List.mem_of_getElem? (i := 545) (by decide +kernel)) rfl
theorem lk_L_77 : xLV RL 77 yX6_alike 2 := ⟨tw_543, tw_544, tw_545, lyX6_alike⟩
theorem lyX7_alike : xLy yX7_alike 2 := ⟨tw_65, by decide, by decide, by decide +kernel⟩
theorem tw_951 : Cond.methodLink RL 80 yX7_alike ∈ lw_g := lg_in (List.mem_of_getElem? (i := 951) (by decide +kernel)) rfl
theorem tw_952 : Cond.instanceMethod yX7_alike ∈ lw_g := lg_in (List.mem_of_getElem? (i := 952) (by decide +kernel)) rfl
theorem tw_953 : Cond.selects RX7 yX7_alike yX7_alike ∈ lw_g := lg_in (List.mem_of_getElem? (i := 953) (by decide +kernel)) rfl
theorem lk_L_80 : xLV RL 80 yX7_alike 2 := ⟨tw_951, tw_952, tw_953, lyX7_alike⟩
theorem lyX6_saves : xLy yX6_saves 1 := ⟨tw_59, by decide, by decide, by decide +kernel⟩
theorem tw_547 : Cond.methodLink RL 81 yX6_saves ∈ lw_g := lg_in (List.mem_of_getElem? (i := 547) (by decide +kernel)) rfl
theorem tw_548 : Cond.instanceMethod yX6_saves ∈ lw_g := lg_in (List.mem_of_getElem? (i := 548) (by decide +kernel)) rfl
theorem tw_549 : Cond.selects RX6 yX6_saves yX6_saves ∈ lw_g := lg_in (List.mem_of_getElem? (i := 549) (by decide +kernel)) rfl
theorem lk_L_81 : xLV RL 81 yX6_saves 1 := ⟨tw_547, tw_548, tw_549, lyX6_saves⟩
theorem lyX7_saves : xLy yX7_saves 1 := ⟨tw_65, by decide, by decide, by decide +kernel⟩
theorem tw_955 : Cond.methodLink RL 84 yX7_saves ∈ lw_g := lg_in (List.mem_of_getElem? (i := 955) (by decide +kernel)) rfl
theorem tw_956 : Cond.instanceMethod yX7_saves ∈ lw_g := lg_in (List.mem_of_getElem? (i := 956) (by decide +kernel)) rfl
theorem tw_957 : Cond.selects RX7 yX7_saves yX7_saves ∈ lw_g := lg_in (List.mem_of_getElem? (i := 957) (by decide +kernel)) rfl
theorem lk_L_84 : xLV RL 84 yX7_saves 1 := ⟨tw_955, tw_956, tw_957, lyX7_saves⟩
theorem lyX6_bestSet : xLy yX6_bestSet 3 := ⟨tw_59, by decide, by decide, by decide +kernel⟩
theorem tw_551 : Cond.methodLink RL 85 yX6_bestSet ∈ lw_g := lg_in (List.mem_of_getElem? (i := 551) (by decide +kernel)) rfl
theorem tw_552 : Cond.instanceMethod yX6_bestSet ∈ lw_g := lg_in (List.mem_of_getElem? (i := 552) (by decide +kernel)) rfl
theorem tw_553 : Cond.selects RX6 yX6_bestSet yX6_bestSet ∈ lw_g := lg_in (List.mem_of_getElem? (i := 553) (by decide +kernel)) rfl
theorem lk_L_85 : xLV RL 85 yX6_bestSet 3 := ⟨tw_551, tw_552, tw_553, lyX6_bestSet⟩
theorem lyX7_bestSet : xLy yX7_bestSet 3 := ⟨tw_65, by decide, by decide, by decide +kernel⟩
theorem tw_962 : Cond.methodLink RL 88 yX7_bestSet ∈ lw_g := lg_in (List.mem_of_getElem? (i := 962) (by decide +kernel)) rfl
theorem tw_963 : Cond.instanceMethod yX7_bestSet ∈ lw_g := lg_in (List.mem_of_getElem? (i := 963) (by decide +kernel)) rfl
theorem tw_964 : Cond.selects RX7 yX7_bestSet yX7_bestSet ∈ lw_g := lg_in (List.mem_of_getElem? (i := 964) (by decide +kernel)) rfl
theorem lk_L_88 : xLV RL 88 yX7_bestSet 3 := ⟨tw_962, tw_963, tw_964, lyX7_bestSet⟩
theorem lyX6_put : xLy yX6_put 1 := ⟨tw_59, by decide, by decide, by decide +kernel⟩
theorem tw_566 : Cond.methodLink RL 91 yX6_put ∈ lw_g := lg_in (List.mem_of_getElem? (i := 566) (by decide +kernel)) rfl
theorem tw_567 : Cond.instanceMethod yX6_put ∈ lw_g := lg_in (List.mem_of_getElem? (i := 567) (by decide +kernel)) rfl
theorem tw_568 : Cond.selects RX6 yX6_put yX6_put ∈ lw_g := lg_in (List.mem_of_getElem? (i := 568) (by decide +kernel)) rfl
theorem lk_L_91 : xLV RL 91 yX6_put 1 := ⟨tw_566, tw_567, tw_568, lyX6_put⟩
theorem lyX7_put : xLy yX7_put 1 := ⟨tw_65, by decide, by decide, by decide +kernel⟩
theorem tw_970 : Cond.methodLink RL 95 yX7_put ∈ lw_g := lg_in (List.mem_of_getElem? (i := 970) (by decide +kernel)) rfl
theorem tw_971 : Cond.instanceMethod yX7_put ∈ lw_g := lg_in (List.mem_of_getElem? (i := 971) (by decide +kernel)) rfl
theorem tw_972 : Cond.selects RX7 yX7_put yX7_put ∈ lw_g := lg_in (List.mem_of_getElem? (i := 972) (by decide +kernel)) rfl
theorem lk_L_95 : xLV RL 95 yX7_put 1 := ⟨tw_970, tw_971, tw_972, lyX7_put⟩
theorem lyX6_wipe : xLy yX6_wipe 0 := ⟨tw_59, by decide, by decide, by decide +kernel⟩
theorem tw_580 : Cond.methodLink RL 96 yX6_wipe ∈ lw_g := lg_in (List.mem_of_getElem? (i := 580) (by decide +kernel)) rfl
theorem tw_581 : Cond.instanceMethod yX6_wipe ∈ lw_g := lg_in (List.mem_of_getElem? (i := 581) (by decide +kernel)) rfl
theorem tw_582 : Cond.selects RX6 yX6_wipe yX6_wipe ∈ lw_g := lg_in (List.mem_of_getElem? (i := 582) (by decide +kernel)) rfl
theorem lk_L_96 : xLV RL 96 yX6_wipe 0 := ⟨tw_580, tw_581, tw_582, lyX6_wipe⟩
theorem lyX7_wipe : xLy yX7_wipe 0 := ⟨tw_65, by decide, by decide, by decide +kernel⟩
theorem tw_975 : Cond.methodLink RL 100 yX7_wipe ∈ lw_g := lg_in (List.mem_of_getElem? (i := 975) (by decide +kernel)) rfl
theorem tw_976 : Cond.instanceMethod yX7_wipe ∈ lw_g := lg_in (List.mem_of_getElem? (i := 976) (by decide +kernel)) rfl
theorem tw_977 : Cond.selects RX7 yX7_wipe yX7_wipe ∈ lw_g := lg_in (List.mem_of_getElem? (i := 977) (by decide +kernel)) rfl
theorem lk_L_100 : xLV RL 100 yX7_wipe 0 := ⟨tw_975, tw_976, tw_977, lyX7_wipe⟩
theorem lyX6_fault : xLy yX6_fault 0 := ⟨tw_59, by decide, by decide, by decide +kernel⟩
theorem tw_588 : Cond.methodLink RL 101 yX6_fault ∈ lw_g := lg_in (List.mem_of_getElem? (i := 588) (by decide +kernel)) rfl
theorem tw_589 : Cond.instanceMethod yX6_fault ∈ lw_g := lg_in (List.mem_of_getElem? (i := 589) (by decide +kernel)) rfl
theorem tw_590 : Cond.selects RX6 yX6_fault yX6_fault ∈ lw_g := lg_in (List.mem_of_getElem? (i := 590) (by decide +kernel)) rfl
theorem lk_L_101 : xLV RL 101 yX6_fault 0 := ⟨tw_588, tw_589, tw_590, lyX6_fault⟩
theorem lyX7_fault : xLy yX7_fault 0 := ⟨tw_65, by decide, by decide, by decide +kernel⟩
theorem tw_979 : Cond.methodLink RL 104 yX7_fault ∈ lw_g := lg_in (List.mem_of_getElem? (i := 979) (by decide +kernel)) rfl
theorem tw_980 : Cond.instanceMethod yX7_fault ∈ lw_g := lg_in (List.mem_of_getElem? (i := 980) (by decide +kernel)) rfl
theorem tw_981 : Cond.selects RX7 yX7_fault yX7_fault ∈ lw_g := lg_in (List.mem_of_getElem? (i := 981) (by decide +kernel)) rfl
theorem lk_L_104 : xLV RL 104 yX7_fault 0 := ⟨tw_979, tw_980, tw_981, lyX7_fault⟩
theorem lyX6_carryOut : xLy yX6_carryOut 0 := ⟨tw_59, by decide, by decide, by decide +kernel⟩
theorem tw_633 : Cond.methodLink RL 105 yX6_carryOut ∈ lw_g := lg_in (List.mem_of_getElem? (i := 633) (by decide +kernel)) rfl
theorem tw_634 : Cond.instanceMethod yX6_carryOut ∈ lw_g := lg_in (List.mem_of_getElem? (i := 634) (by decide +kernel)) rfl
theorem tw_635 : Cond.selects RX6 yX6_carryOut yX6_carryOut ∈ lw_g := lg_in (List.mem_of_getElem? (i := 635) (by decide +kernel)) rfl
theorem lk_L_105 : xLV RL 105 yX6_carryOut 0 := ⟨tw_633, tw_634, tw_635, lyX6_carryOut⟩
theorem lyX7_carryOut : xLy yX7_carryOut 0 := ⟨tw_65, by decide, by decide, by decide +kernel⟩
theorem tw_1015 : Cond.methodLink RL 108 yX7_carryOut ∈ lw_g := lg_in (List.mem_of_getElem? (i := 1015) (by decide +kernel)) rfl
theorem tw_1016 : Cond.instanceMethod yX7_carryOut ∈ lw_g := lg_in (List.mem_of_getElem? (i := 1016) (by decide +kernel)) rfl
theorem tw_1017 : Cond.selects RX7 yX7_carryOut yX7_carryOut ∈ lw_g := lg_in (List.mem_of_getElem? (i := 1017) (by decide +kernel)) rfl
theorem lk_L_108 : xLV RL 108 yX7_carryOut 0 := ⟨tw_1015, tw_1016, tw_1017, lyX7_carryOut⟩
theorem lyX6_undo : xLy yX6_undo 0 := ⟨tw_59, by decide, by decide, by decide +kernel⟩
theorem tw_680 : Cond.methodLink RL 109 yX6_undo ∈ lw_g := lg_in (List.mem_of_getElem? (i := 680) (by decide +kernel)) rfl
theorem tw_681 : Cond.instanceMethod yX6_undo ∈ lw_g := lg_in (List.mem_of_getElem? (i := 681) (by decide +kernel)) rfl
theorem tw_682 : Cond.selects RX6 yX6_undo yX6_undo ∈ lw_g := lg_in (List.mem_of_getElem? (i := 682) (by decide +kernel)) rfl
theorem lk_L_109 : xLV RL 109 yX6_undo 0 := ⟨tw_680, tw_681, tw_682, lyX6_undo⟩
theorem lyX7_undo : xLy yX7_undo 0 := ⟨tw_65, by decide, by decide, by decide +kernel⟩
theorem tw_1027 : Cond.methodLink RL 112 yX7_undo ∈ lw_g := lg_in (List.mem_of_getElem? (i := 1027) (by decide +kernel)) rfl
theorem tw_1028 : Cond.instanceMethod yX7_undo ∈ lw_g := lg_in (List.mem_of_getElem? (i := 1028) (by decide +kernel)) rfl
theorem tw_1029 : Cond.selects RX7 yX7_undo yX7_undo ∈ lw_g := lg_in (List.mem_of_getElem? (i := 1029) (by decide +kernel)) rfl
theorem lk_L_112 : xLV RL 112 yX7_undo 0 := ⟨tw_1027, tw_1028, tw_1029, lyX7_undo⟩
theorem lyX6_save : xLy yX6_save 1 := ⟨tw_59, by decide, by decide, by decide +kernel⟩
theorem tw_688 : Cond.methodLink RL 113 yX6_save ∈ lw_g := lg_in (List.mem_of_getElem? (i := 688) (by decide +kernel)) rfl
theorem tw_689 : Cond.instanceMethod yX6_save ∈ lw_g := lg_in (List.mem_of_getElem? (i := 689) (by decide +kernel)) rfl
theorem tw_690 : Cond.selects RX6 yX6_save yX6_save ∈ lw_g := lg_in (List.mem_of_getElem? (i := 690) (by decide +kernel)) rfl
theorem lk_L_113 : xLV RL 113 yX6_save 1 := ⟨tw_688, tw_689, tw_690, lyX6_save⟩
theorem lyX7_save : xLy yX7_save 1 := ⟨tw_65, by decide, by decide, by decide +kernel⟩
theorem tw_1031 : Cond.methodLink RL 116 yX7_save ∈ lw_g := lg_in (List.mem_of_getElem? (i := 1031) (by decide +kernel)) rfl
theorem tw_1032 : Cond.instanceMethod yX7_save ∈ lw_g := lg_in (List.mem_of_getElem? (i := 1032) (by decide +kernel)) rfl
theorem tw_1033 : Cond.selects RX7 yX7_save yX7_save ∈ lw_g := lg_in (List.mem_of_getElem? (i := 1033) (by decide +kernel)) rfl
theorem lk_L_116 : xLV RL 116 yX7_save 1 := ⟨tw_1031, tw_1032, tw_1033, lyX7_save⟩
theorem lyX6_restore : xLy yX6_restore 1 := ⟨tw_59, by decide, by decide, by decide +kernel⟩
theorem tw_696 : Cond.methodLink RL 117 yX6_restore ∈ lw_g := lg_in (List.mem_of_getElem? (i := 696) (by decide +kernel)) rfl
theorem tw_697 : Cond.instanceMethod yX6_restore ∈ lw_g := lg_in (List.mem_of_getElem? (i := 697) (by decide +kernel)) rfl
theorem tw_698 : Cond.selects RX6 yX6_restore yX6_restore ∈ lw_g := lg_in (List.mem_of_getElem? (i := 698) (by decide +kernel)) rfl
theorem lk_L_117 : xLV RL 117 yX6_restore 1 := ⟨tw_696, tw_697, tw_698, lyX6_restore⟩
theorem lyX7_restore : xLy yX7_restore 1 := ⟨tw_65, by decide, by decide, by decide +kernel⟩
theorem tw_1035 : Cond.methodLink RL 120 yX7_restore ∈ lw_g := lg_in (List.mem_of_getElem? (i := 1035) (by decide +kernel)) rfl
theorem tw_1036 : Cond.instanceMethod yX7_restore ∈ lw_g := lg_in (List.mem_of_getElem? (i := 1036) (by decide +kernel)) rfl
theorem tw_1037 : Cond.selects RX7 yX7_restore yX7_restore ∈ lw_g := lg_in (List.mem_of_getElem? (i := 1037) (by decide +kernel)) rfl
theorem lk_L_120 : xLV RL 120 yX7_restore 1 := ⟨tw_1035, tw_1036, tw_1037, lyX7_restore⟩
theorem tw_705 : Cond.methodLink RX7 1 objectInit ∈ lw_g := lg_in (List.mem_of_getElem? (i := 705) (by decide +kernel)) rfl
theorem lyX7_moves : xLy yX7_moves 4 := ⟨tw_65, by decide, by decide, by decide +kernel⟩
theorem tw_812 : Cond.methodLink RX7 44 yX7_moves ∈ lw_g := lg_in (List.mem_of_getElem? (i := 812) (by decide +kernel)) rfl
theorem tw_813 : Cond.static yX7_moves ∈ lw_g := lg_in (List.mem_of_getElem? (i := 813) (by decide +kernel)) rfl
theorem lk_X7_44 : xLS RX7 44 yX7_moves 4 := ⟨tw_812, tw_813, lyX7_moves⟩
theorem lyX7_within : xLy yX7_within 3 := ⟨tw_65, by decide, by decide, by decide +kernel⟩
theorem tw_774 : Cond.methodLink RX7 48 yX7_within ∈ lw_g := lg_in (List.mem_of_getElem? (i := 774) (by decide +kernel)) rfl
theorem tw_775 : Cond.static yX7_within ∈ lw_g := lg_in (List.mem_of_getElem? (i := 775) (by decide +kernel)) rfl
theorem lk_X7_48 : xLS RX7 48 yX7_within 3 := ⟨tw_774, tw_775, lyX7_within⟩
theorem lyX7_runsOf : xLy yX7_runsOf 1 := ⟨tw_65, by decide, by decide, by decide +kernel⟩
theorem tw_784 : Cond.methodLink RX7 52 yX7_runsOf ∈ lw_g := lg_in (List.mem_of_getElem? (i := 784) (by decide +kernel)) rfl
theorem tw_786 : Cond.instanceMethod yX7_runsOf ∈ lw_g := lg_in (List.mem_of_getElem? (i := 786) (by decide +kernel)) rfl
theorem tw_20 : Cond.selects RX7 yX7_runsOf yX7_runsOf ∈ lw_g := lg_in (List.mem_of_getElem? (i := 20) (by decide +kernel)) rfl
theorem lk_X7_52 : xLV RX7 52 yX7_runsOf 1 := ⟨tw_784, tw_786, tw_20, lyX7_runsOf⟩
theorem lyX7_lengthOf : xLy yX7_lengthOf 2 := ⟨tw_65, by decide, by decide, by decide +kernel⟩
theorem tw_788 : Cond.methodLink RX7 56 yX7_lengthOf ∈ lw_g := lg_in (List.mem_of_getElem? (i := 788) (by decide +kernel)) rfl
theorem tw_790 : Cond.instanceMethod yX7_lengthOf ∈ lw_g := lg_in (List.mem_of_getElem? (i := 790) (by decide +kernel)) rfl
theorem tw_21 : Cond.selects RX7 yX7_lengthOf yX7_lengthOf ∈ lw_g := lg_in (List.mem_of_getElem? (i := 21) (by decide +kernel)) rfl
theorem lk_X7_56 : xLV RX7 56 yX7_lengthOf 2 := ⟨tw_788, tw_790, tw_21, lyX7_lengthOf⟩
theorem lyX7_rowsOf : xLy yX7_rowsOf 1 := ⟨tw_65, by decide, by decide, by decide +kernel⟩
theorem tw_823 : Cond.methodLink RX7 60 yX7_rowsOf ∈ lw_g := lg_in (List.mem_of_getElem? (i := 823) (by decide +kernel)) rfl
theorem tw_825 : Cond.instanceMethod yX7_rowsOf ∈ lw_g := lg_in (List.mem_of_getElem? (i := 825) (by decide +kernel)) rfl
theorem tw_28 : Cond.selects RX7 yX7_rowsOf yX7_rowsOf ∈ lw_g := lg_in (List.mem_of_getElem? (i := 28) (by decide +kernel)) rfl
theorem lk_X7_60 : xLV RX7 60 yX7_rowsOf 1 := ⟨tw_823, tw_825, tw_28, lyX7_rowsOf⟩
theorem lyX7_valueOf : xLy yX7_valueOf 2 := ⟨tw_65, by decide, by decide, by decide +kernel⟩
theorem tw_792 : Cond.methodLink RX7 66 yX7_valueOf ∈ lw_g := lg_in (List.mem_of_getElem? (i := 792) (by decide +kernel)) rfl
theorem tw_794 : Cond.instanceMethod yX7_valueOf ∈ lw_g := lg_in (List.mem_of_getElem? (i := 794) (by decide +kernel)) rfl
theorem tw_22 : Cond.selects RX7 yX7_valueOf yX7_valueOf ∈ lw_g := lg_in (List.mem_of_getElem? (i := 22) (by decide +kernel)) rfl
theorem lk_X7_66 : xLV RX7 66 yX7_valueOf 2 := ⟨tw_792, tw_794, tw_22, lyX7_valueOf⟩
theorem lyX7_runsLaid : xLy yX7_runsLaid 0 := ⟨tw_65, by decide, by decide, by decide +kernel⟩
theorem tw_804 : Cond.methodLink RX7 72 yX7_runsLaid ∈ lw_g := lg_in (List.mem_of_getElem? (i := 804) (by decide +kernel)) rfl
theorem tw_806 : Cond.instanceMethod yX7_runsLaid ∈ lw_g := lg_in (List.mem_of_getElem? (i := 806) (by decide +kernel)) rfl
theorem tw_25 : Cond.selects RX7 yX7_runsLaid yX7_runsLaid ∈ lw_g := lg_in (List.mem_of_getElem? (i := 25) (by decide +kernel)) rfl
theorem lk_X7_72 : xLV RX7 72 yX7_runsLaid 0 := ⟨tw_804, tw_806, tw_25, lyX7_runsLaid⟩
theorem lyX7_isColumn : xLy yX7_isColumn 1 := ⟨tw_65, by decide, by decide, by decide +kernel⟩
theorem tw_771 : Cond.methodLink RX7 76 yX7_isColumn ∈ lw_g := lg_in (List.mem_of_getElem? (i := 771) (by decide +kernel)) rfl
theorem tw_772 : Cond.static yX7_isColumn ∈ lw_g := lg_in (List.mem_of_getElem? (i := 772) (by decide +kernel)) rfl
theorem lk_X7_76 : xLS RX7 76 yX7_isColumn 1 := ⟨tw_771, tw_772, lyX7_isColumn⟩
theorem lyX7_isValue : xLy yX7_isValue 1 := ⟨tw_65, by decide, by decide, by decide +kernel⟩
theorem tw_777 : Cond.methodLink RX7 80 yX7_isValue ∈ lw_g := lg_in (List.mem_of_getElem? (i := 777) (by decide +kernel)) rfl
theorem tw_778 : Cond.static yX7_isValue ∈ lw_g := lg_in (List.mem_of_getElem? (i := 778) (by decide +kernel)) rfl
theorem lk_X7_80 : xLS RX7 80 yX7_isValue 1 := ⟨tw_777, tw_778, lyX7_isValue⟩
theorem lyX7_layOut : xLy yX7_layOut 1 := ⟨tw_65, by decide, by decide, by decide +kernel⟩
theorem tw_780 : Cond.methodLink RX7 83 yX7_layOut ∈ lw_g := lg_in (List.mem_of_getElem? (i := 780) (by decide +kernel)) rfl
theorem tw_782 : Cond.instanceMethod yX7_layOut ∈ lw_g := lg_in (List.mem_of_getElem? (i := 782) (by decide +kernel)) rfl
theorem tw_19 : Cond.selects RX7 yX7_layOut yX7_layOut ∈ lw_g := lg_in (List.mem_of_getElem? (i := 19) (by decide +kernel)) rfl
theorem lk_X7_83 : xLV RX7 83 yX7_layOut 1 := ⟨tw_780, tw_782, tw_19, lyX7_layOut⟩
theorem lyX7_putIn : xLy yX7_putIn 3 := ⟨tw_65, by decide, by decide, by decide +kernel⟩
theorem tw_796 : Cond.methodLink RX7 87 yX7_putIn ∈ lw_g := lg_in (List.mem_of_getElem? (i := 796) (by decide +kernel)) rfl
theorem tw_798 : Cond.instanceMethod yX7_putIn ∈ lw_g := lg_in (List.mem_of_getElem? (i := 798) (by decide +kernel)) rfl
theorem tw_23 : Cond.selects RX7 yX7_putIn yX7_putIn ∈ lw_g := lg_in (List.mem_of_getElem? (i := 23) (by decide +kernel)) rfl
theorem lk_X7_87 : xLV RX7 87 yX7_putIn 3 := ⟨tw_796, tw_798, tw_23, lyX7_putIn⟩
theorem lyX7_isTooMany : xLy yX7_isTooMany 0 := ⟨tw_65, by decide, by decide, by decide +kernel⟩
theorem tw_800 : Cond.methodLink RX7 91 yX7_isTooMany ∈ lw_g := lg_in (List.mem_of_getElem? (i := 800) (by decide +kernel)) rfl
theorem tw_802 : Cond.instanceMethod yX7_isTooMany ∈ lw_g := lg_in (List.mem_of_getElem? (i := 802) (by decide +kernel)) rfl
theorem tw_24 : Cond.selects RX7 yX7_isTooMany yX7_isTooMany ∈ lw_g := lg_in (List.mem_of_getElem? (i := 24) (by decide +kernel)) rfl
theorem lk_X7_91 : xLV RX7 91 yX7_isTooMany 0 := ⟨tw_800, tw_802, tw_24, lyX7_isTooMany⟩
theorem lyX7_record : xLy yX7_record 0 := ⟨tw_65, by decide, by decide, by decide +kernel⟩
theorem tw_808 : Cond.methodLink RX7 95 yX7_record ∈ lw_g := lg_in (List.mem_of_getElem? (i := 808) (by decide +kernel)) rfl
theorem tw_810 : Cond.instanceMethod yX7_record ∈ lw_g := lg_in (List.mem_of_getElem? (i := 810) (by decide +kernel)) rfl
theorem tw_26 : Cond.selects RX7 yX7_record yX7_record ∈ lw_g := lg_in (List.mem_of_getElem? (i := 26) (by decide +kernel)) rfl
theorem lk_X7_95 : xLV RX7 95 yX7_record 0 := ⟨tw_808, tw_810, tw_26, lyX7_record⟩
theorem lyX7_gets : xLy yX7_gets 1 := ⟨tw_65, by decide, by decide, by decide +kernel⟩
theorem tw_815 : Cond.methodLink RX7 98 yX7_gets ∈ lw_g := lg_in (List.mem_of_getElem? (i := 815) (by decide +kernel)) rfl
theorem tw_817 : Cond.instanceMethod yX7_gets ∈ lw_g := lg_in (List.mem_of_getElem? (i := 817) (by decide +kernel)) rfl
theorem tw_27 : Cond.selects RX7 yX7_gets yX7_gets ∈ lw_g := lg_in (List.mem_of_getElem? (i := 27) (by decide +kernel)) rfl
theorem lk_X7_98 : xLV RX7 98 yX7_gets 1 := ⟨tw_815, tw_817, tw_27, lyX7_gets⟩
theorem lyX7_isRow : xLy yX7_isRow 2 := ⟨tw_65, by decide, by decide, by decide +kernel⟩
theorem tw_835 : Cond.methodLink RX7 101 yX7_isRow ∈ lw_g := lg_in (List.mem_of_getElem? (i := 835) (by decide +kernel)) rfl
theorem tw_837 : Cond.instanceMethod yX7_isRow ∈ lw_g := lg_in (List.mem_of_getElem? (i := 837) (by decide +kernel)) rfl
theorem tw_30 : Cond.selects RX7 yX7_isRow yX7_isRow ∈ lw_g := lg_in (List.mem_of_getElem? (i := 30) (by decide +kernel)) rfl
theorem lk_X7_101 : xLV RX7 101 yX7_isRow 2 := ⟨tw_835, tw_837, tw_30, lyX7_isRow⟩
theorem lyX7_whyNotRemoved : xLy yX7_whyNotRemoved 3 := ⟨tw_65, by decide, by decide, by decide +kernel⟩
theorem tw_831 : Cond.methodLink RX7 105 yX7_whyNotRemoved ∈ lw_g := lg_in (List.mem_of_getElem? (i := 831) (by decide +kernel)) rfl
theorem tw_833 : Cond.instanceMethod yX7_whyNotRemoved ∈ lw_g := lg_in (List.mem_of_getElem? (i := 833) (by decide +kernel)) rfl
theorem tw_29 : Cond.selects RX7 yX7_whyNotRemoved yX7_whyNotRemoved ∈ lw_g := lg_in (List.mem_of_getElem? (i := 29) (by decide +kernel)) rfl
theorem lk_X7_105 : xLV RX7 105 yX7_whyNotRemoved 3 := ⟨tw_831, tw_833, tw_29, lyX7_whyNotRemoved⟩
theorem lyX7_removes : xLy yX7_removes 3 := ⟨tw_65, by decide, by decide, by decide +kernel⟩
theorem tw_839 : Cond.methodLink RX7 109 yX7_removes ∈ lw_g := lg_in (List.mem_of_getElem? (i := 839) (by decide +kernel)) rfl
theorem tw_841 : Cond.instanceMethod yX7_removes ∈ lw_g := lg_in (List.mem_of_getElem? (i := 841) (by decide +kernel)) rfl
theorem tw_31 : Cond.selects RX7 yX7_removes yX7_removes ∈ lw_g := lg_in (List.mem_of_getElem? (i := 31) (by decide +kernel)) rfl
theorem lk_X7_109 : xLV RX7 109 yX7_removes 3 := ⟨tw_839, tw_841, tw_31, lyX7_removes⟩
theorem lyX7_whyNotSet : xLy yX7_whyNotSet 3 := ⟨tw_65, by decide, by decide, by decide +kernel⟩
theorem tw_847 : Cond.methodLink RX7 112 yX7_whyNotSet ∈ lw_g := lg_in (List.mem_of_getElem? (i := 847) (by decide +kernel)) rfl
theorem tw_849 : Cond.instanceMethod yX7_whyNotSet ∈ lw_g := lg_in (List.mem_of_getElem? (i := 849) (by decide +kernel)) rfl
theorem tw_32 : Cond.selects RX7 yX7_whyNotSet yX7_whyNotSet ∈ lw_g := lg_in (List.mem_of_getElem? (i := 32) (by decide +kernel)) rfl
theorem lk_X7_112 : xLV RX7 112 yX7_whyNotSet 3 := ⟨tw_847, tw_849, tw_32, lyX7_whyNotSet⟩
theorem lyX7_valueAt : xLy yX7_valueAt 2 := ⟨tw_65, by decide, by decide, by decide +kernel⟩
theorem tw_851 : Cond.methodLink RX7 115 yX7_valueAt ∈ lw_g := lg_in (List.mem_of_getElem? (i := 851) (by decide +kernel)) rfl
theorem tw_853 : Cond.instanceMethod yX7_valueAt ∈ lw_g := lg_in (List.mem_of_getElem? (i := 853) (by decide +kernel)) rfl
theorem tw_33 : Cond.selects RX7 yX7_valueAt yX7_valueAt ∈ lw_g := lg_in (List.mem_of_getElem? (i := 33) (by decide +kernel)) rfl
theorem lk_X7_115 : xLV RX7 115 yX7_valueAt 2 := ⟨tw_851, tw_853, tw_33, lyX7_valueAt⟩
theorem lyX7_layOutOther : xLy yX7_layOutOther 1 := ⟨tw_65, by decide, by decide, by decide +kernel⟩
theorem tw_863 : Cond.methodLink RX7 118 yX7_layOutOther ∈ lw_g := lg_in (List.mem_of_getElem? (i := 863) (by decide +kernel)) rfl
theorem tw_865 : Cond.instanceMethod yX7_layOutOther ∈ lw_g := lg_in (List.mem_of_getElem? (i := 865) (by decide +kernel)) rfl
theorem tw_35 : Cond.selects RX7 yX7_layOutOther yX7_layOutOther ∈ lw_g := lg_in (List.mem_of_getElem? (i := 35) (by decide +kernel)) rfl
theorem lk_X7_118 : xLV RX7 118 yX7_layOutOther 1 := ⟨tw_863, tw_865, tw_35, lyX7_layOutOther⟩
theorem lyX7_sorts : xLy yX7_sorts 1 := ⟨tw_65, by decide, by decide, by decide +kernel⟩
theorem tw_859 : Cond.methodLink RX7 121 yX7_sorts ∈ lw_g := lg_in (List.mem_of_getElem? (i := 859) (by decide +kernel)) rfl
theorem tw_861 : Cond.instanceMethod yX7_sorts ∈ lw_g := lg_in (List.mem_of_getElem? (i := 861) (by decide +kernel)) rfl
theorem tw_34 : Cond.selects RX7 yX7_sorts yX7_sorts ∈ lw_g := lg_in (List.mem_of_getElem? (i := 34) (by decide +kernel)) rfl
theorem lk_X7_121 : xLV RX7 121 yX7_sorts 1 := ⟨tw_859, tw_861, tw_34, lyX7_sorts⟩
theorem lyX7_layOutBoth : xLy yX7_layOutBoth 2 := ⟨tw_65, by decide, by decide, by decide +kernel⟩
theorem tw_875 : Cond.methodLink RX7 124 yX7_layOutBoth ∈ lw_g := lg_in (List.mem_of_getElem? (i := 875) (by decide +kernel)) rfl
theorem tw_877 : Cond.instanceMethod yX7_layOutBoth ∈ lw_g := lg_in (List.mem_of_getElem? (i := 877) (by decide +kernel)) rfl
theorem tw_36 : Cond.selects RX7 yX7_layOutBoth yX7_layOutBoth ∈ lw_g := lg_in (List.mem_of_getElem? (i := 36) (by decide +kernel)) rfl
theorem lk_X7_124 : xLV RX7 124 yX7_layOutBoth 2 := ⟨tw_875, tw_877, tw_36, lyX7_layOutBoth⟩
theorem lyX7_firstRow : xLy yX7_firstRow 2 := ⟨tw_65, by decide, by decide, by decide +kernel⟩
theorem tw_883 : Cond.methodLink RX7 127 yX7_firstRow ∈ lw_g := lg_in (List.mem_of_getElem? (i := 883) (by decide +kernel)) rfl
theorem tw_885 : Cond.instanceMethod yX7_firstRow ∈ lw_g := lg_in (List.mem_of_getElem? (i := 885) (by decide +kernel)) rfl
theorem tw_37 : Cond.selects RX7 yX7_firstRow yX7_firstRow ∈ lw_g := lg_in (List.mem_of_getElem? (i := 37) (by decide +kernel)) rfl
theorem lk_X7_127 : xLV RX7 127 yX7_firstRow 2 := ⟨tw_883, tw_885, tw_37, lyX7_firstRow⟩
theorem lyX7_sumOf : xLy yX7_sumOf 1 := ⟨tw_65, by decide, by decide, by decide +kernel⟩
theorem tw_899 : Cond.methodLink RX7 130 yX7_sumOf ∈ lw_g := lg_in (List.mem_of_getElem? (i := 899) (by decide +kernel)) rfl
theorem tw_901 : Cond.instanceMethod yX7_sumOf ∈ lw_g := lg_in (List.mem_of_getElem? (i := 901) (by decide +kernel)) rfl
theorem tw_38 : Cond.selects RX7 yX7_sumOf yX7_sumOf ∈ lw_g := lg_in (List.mem_of_getElem? (i := 38) (by decide +kernel)) rfl
theorem lk_X7_130 : xLV RX7 130 yX7_sumOf 1 := ⟨tw_899, tw_901, tw_38, lyX7_sumOf⟩
theorem lyX7_longest : xLy yX7_longest 2 := ⟨tw_65, by decide, by decide, by decide +kernel⟩
theorem tw_903 : Cond.methodLink RX7 133 yX7_longest ∈ lw_g := lg_in (List.mem_of_getElem? (i := 903) (by decide +kernel)) rfl
theorem tw_905 : Cond.instanceMethod yX7_longest ∈ lw_g := lg_in (List.mem_of_getElem? (i := 905) (by decide +kernel)) rfl
theorem tw_39 : Cond.selects RX7 yX7_longest yX7_longest ∈ lw_g := lg_in (List.mem_of_getElem? (i := 39) (by decide +kernel)) rfl
theorem lk_X7_133 : xLV RX7 133 yX7_longest 2 := ⟨tw_903, tw_905, tw_39, lyX7_longest⟩
theorem lyX7_valuesOf : xLy yX7_valuesOf 1 := ⟨tw_65, by decide, by decide, by decide +kernel⟩
theorem tw_907 : Cond.methodLink RX7 136 yX7_valuesOf ∈ lw_g := lg_in (List.mem_of_getElem? (i := 907) (by decide +kernel)) rfl
theorem tw_909 : Cond.instanceMethod yX7_valuesOf ∈ lw_g := lg_in (List.mem_of_getElem? (i := 909) (by decide +kernel)) rfl
theorem tw_40 : Cond.selects RX7 yX7_valuesOf yX7_valuesOf ∈ lw_g := lg_in (List.mem_of_getElem? (i := 40) (by decide +kernel)) rfl
theorem lk_X7_136 : xLV RX7 136 yX7_valuesOf 1 := ⟨tw_907, tw_909, tw_40, lyX7_valuesOf⟩
theorem lyX7_isInOrder : xLy yX7_isInOrder 2 := ⟨tw_65, by decide, by decide, by decide +kernel⟩
theorem tw_911 : Cond.methodLink RX7 139 yX7_isInOrder ∈ lw_g := lg_in (List.mem_of_getElem? (i := 911) (by decide +kernel)) rfl
theorem tw_913 : Cond.instanceMethod yX7_isInOrder ∈ lw_g := lg_in (List.mem_of_getElem? (i := 913) (by decide +kernel)) rfl
theorem tw_41 : Cond.selects RX7 yX7_isInOrder yX7_isInOrder ∈ lw_g := lg_in (List.mem_of_getElem? (i := 41) (by decide +kernel)) rfl
theorem lk_X7_139 : xLV RX7 139 yX7_isInOrder 2 := ⟨tw_911, tw_913, tw_41, lyX7_isInOrder⟩
theorem lyX7_ofValue : xLy yX7_ofValue 3 := ⟨tw_65, by decide, by decide, by decide +kernel⟩
theorem tw_919 : Cond.methodLink RX7 143 yX7_ofValue ∈ lw_g := lg_in (List.mem_of_getElem? (i := 919) (by decide +kernel)) rfl
theorem tw_921 : Cond.instanceMethod yX7_ofValue ∈ lw_g := lg_in (List.mem_of_getElem? (i := 921) (by decide +kernel)) rfl
theorem tw_42 : Cond.selects RX7 yX7_ofValue yX7_ofValue ∈ lw_g := lg_in (List.mem_of_getElem? (i := 42) (by decide +kernel)) rfl
theorem lk_X7_143 : xLV RX7 143 yX7_ofValue 3 := ⟨tw_919, tw_921, tw_42, lyX7_ofValue⟩
theorem lyX7_allRows : xLy yX7_allRows 0 := ⟨tw_65, by decide, by decide, by decide +kernel⟩
theorem tw_927 : Cond.methodLink RX7 147 yX7_allRows ∈ lw_g := lg_in (List.mem_of_getElem? (i := 927) (by decide +kernel)) rfl
theorem tw_929 : Cond.instanceMethod yX7_allRows ∈ lw_g := lg_in (List.mem_of_getElem? (i := 929) (by decide +kernel)) rfl
theorem tw_43 : Cond.selects RX7 yX7_allRows yX7_allRows ∈ lw_g := lg_in (List.mem_of_getElem? (i := 43) (by decide +kernel)) rfl
theorem lk_X7_147 : xLV RX7 147 yX7_allRows 0 := ⟨tw_927, tw_929, tw_43, lyX7_allRows⟩
theorem lyX7_allRuns : xLy yX7_allRuns 0 := ⟨tw_65, by decide, by decide, by decide +kernel⟩
theorem tw_931 : Cond.methodLink RX7 150 yX7_allRuns ∈ lw_g := lg_in (List.mem_of_getElem? (i := 931) (by decide +kernel)) rfl
theorem tw_933 : Cond.instanceMethod yX7_allRuns ∈ lw_g := lg_in (List.mem_of_getElem? (i := 933) (by decide +kernel)) rfl
theorem tw_44 : Cond.selects RX7 yX7_allRuns yX7_allRuns ∈ lw_g := lg_in (List.mem_of_getElem? (i := 44) (by decide +kernel)) rfl
theorem lk_X7_150 : xLV RX7 150 yX7_allRuns 0 := ⟨tw_931, tw_933, tw_44, lyX7_allRuns⟩
theorem lyX7_isFirstPair : xLy yX7_isFirstPair 1 := ⟨tw_65, by decide, by decide, by decide +kernel⟩
theorem tw_939 : Cond.methodLink RX7 156 yX7_isFirstPair ∈ lw_g := lg_in (List.mem_of_getElem? (i := 939) (by decide +kernel)) rfl
theorem tw_941 : Cond.instanceMethod yX7_isFirstPair ∈ lw_g := lg_in (List.mem_of_getElem? (i := 941) (by decide +kernel)) rfl
theorem tw_45 : Cond.selects RX7 yX7_isFirstPair yX7_isFirstPair ∈ lw_g := lg_in (List.mem_of_getElem? (i := 45) (by decide +kernel)) rfl
theorem lk_X7_156 : xLV RX7 156 yX7_isFirstPair 1 := ⟨tw_939, tw_941, tw_45, lyX7_isFirstPair⟩
theorem lyX7_ofPairs : xLy yX7_ofPairs 2 := ⟨tw_65, by decide, by decide, by decide +kernel⟩
theorem tw_947 : Cond.methodLink RX7 159 yX7_ofPairs ∈ lw_g := lg_in (List.mem_of_getElem? (i := 947) (by decide +kernel)) rfl
theorem tw_949 : Cond.instanceMethod yX7_ofPairs ∈ lw_g := lg_in (List.mem_of_getElem? (i := 949) (by decide +kernel)) rfl
theorem tw_46 : Cond.selects RX7 yX7_ofPairs yX7_ofPairs ∈ lw_g := lg_in (List.mem_of_getElem? (i := 46) (by decide +kernel)) rfl
theorem lk_X7_159 : xLV RX7 159 yX7_ofPairs 2 := ⟨tw_947, tw_949, tw_46, lyX7_ofPairs⟩
theorem lyX7_bits : xLy yX7_bits 1 := ⟨tw_65, by decide, by decide, by decide +kernel⟩
theorem tw_959 : Cond.methodLink RX7 162 yX7_bits ∈ lw_g := lg_in (List.mem_of_getElem? (i := 959) (by decide +kernel)) rfl
theorem tw_960 : Cond.static yX7_bits ∈ lw_g := lg_in (List.mem_of_getElem? (i := 960) (by decide +kernel)) rfl
theorem lk_X7_162 : xLS RX7 162 yX7_bits 1 := ⟨tw_959, tw_960, lyX7_bits⟩
theorem lyX7_beginnings : xLy yX7_beginnings 1 := ⟨tw_65, by decide, by decide, by decide +kernel⟩
theorem tw_966 : Cond.methodLink RX7 165 yX7_beginnings ∈ lw_g := lg_in (List.mem_of_getElem? (i := 966) (by decide +kernel)) rfl
theorem tw_968 : Cond.instanceMethod yX7_beginnings ∈ lw_g := lg_in (List.mem_of_getElem? (i := 968) (by decide +kernel)) rfl
theorem tw_47 : Cond.selects RX7 yX7_beginnings yX7_beginnings ∈ lw_g := lg_in (List.mem_of_getElem? (i := 47) (by decide +kernel)) rfl
theorem lk_X7_165 : xLV RX7 165 yX7_beginnings 1 := ⟨tw_966, tw_968, tw_47, lyX7_beginnings⟩
theorem lyX7_character : xLy yX7_character 1 := ⟨tw_65, by decide, by decide, by decide +kernel⟩
theorem tw_995 : Cond.methodLink RX7 173 yX7_character ∈ lw_g := lg_in (List.mem_of_getElem? (i := 995) (by decide +kernel)) rfl
theorem tw_997 : Cond.instanceMethod yX7_character ∈ lw_g := lg_in (List.mem_of_getElem? (i := 997) (by decide +kernel)) rfl
theorem tw_51 : Cond.selects RX7 yX7_character yX7_character ∈ lw_g := lg_in (List.mem_of_getElem? (i := 51) (by decide +kernel)) rfl
theorem lk_X7_173 : xLV RX7 173 yX7_character 1 := ⟨tw_995, tw_997, tw_51, lyX7_character⟩
theorem lyX7_takeDigit : xLy yX7_takeDigit 1 := ⟨tw_65, by decide, by decide, by decide +kernel⟩
theorem tw_991 : Cond.methodLink RX7 176 yX7_takeDigit ∈ lw_g := lg_in (List.mem_of_getElem? (i := 991) (by decide +kernel)) rfl
theorem tw_993 : Cond.instanceMethod yX7_takeDigit ∈ lw_g := lg_in (List.mem_of_getElem? (i := 993) (by decide +kernel)) rfl
theorem tw_50 : Cond.selects RX7 yX7_takeDigit yX7_takeDigit ∈ lw_g := lg_in (List.mem_of_getElem? (i := 50) (by decide +kernel)) rfl
theorem lk_X7_176 : xLV RX7 176 yX7_takeDigit 1 := ⟨tw_991, tw_993, tw_50, lyX7_takeDigit⟩
theorem lyX7_isNext : xLy yX7_isNext 1 := ⟨tw_65, by decide, by decide, by decide +kernel⟩
theorem tw_1007 : Cond.methodLink RX7 182 yX7_isNext ∈ lw_g := lg_in (List.mem_of_getElem? (i := 1007) (by decide +kernel)) rfl
theorem tw_1009 : Cond.instanceMethod yX7_isNext ∈ lw_g := lg_in (List.mem_of_getElem? (i := 1009) (by decide +kernel)) rfl
theorem tw_54 : Cond.selects RX7 yX7_isNext yX7_isNext ∈ lw_g := lg_in (List.mem_of_getElem? (i := 54) (by decide +kernel)) rfl
theorem lk_X7_182 : xLV RX7 182 yX7_isNext 1 := ⟨tw_1007, tw_1009, tw_54, lyX7_isNext⟩
theorem lyX7_takeNumber : xLy yX7_takeNumber 0 := ⟨tw_65, by decide, by decide, by decide +kernel⟩
theorem tw_1011 : Cond.methodLink RX7 185 yX7_takeNumber ∈ lw_g := lg_in (List.mem_of_getElem? (i := 1011) (by decide +kernel)) rfl
theorem tw_1013 : Cond.instanceMethod yX7_takeNumber ∈ lw_g := lg_in (List.mem_of_getElem? (i := 1013) (by decide +kernel)) rfl
theorem tw_55 : Cond.selects RX7 yX7_takeNumber yX7_takeNumber ∈ lw_g := lg_in (List.mem_of_getElem? (i := 55) (by decide +kernel)) rfl
theorem lk_X7_185 : xLV RX7 185 yX7_takeNumber 0 := ⟨tw_1011, tw_1013, tw_55, lyX7_takeNumber⟩
theorem lyX7_readsRuns : xLy yX7_readsRuns 0 := ⟨tw_65, by decide, by decide, by decide +kernel⟩
theorem tw_1003 : Cond.methodLink RX7 191 yX7_readsRuns ∈ lw_g := lg_in (List.mem_of_getElem? (i := 1003) (by decide +kernel)) rfl
theorem tw_1005 : Cond.instanceMethod yX7_readsRuns ∈ lw_g := lg_in (List.mem_of_getElem? (i := 1005) (by decide +kernel)) rfl
theorem tw_53 : Cond.selects RX7 yX7_readsRuns yX7_readsRuns ∈ lw_g := lg_in (List.mem_of_getElem? (i := 53) (by decide +kernel)) rfl
theorem lk_X7_191 : xLV RX7 191 yX7_readsRuns 0 := ⟨tw_1003, tw_1005, tw_53, lyX7_readsRuns⟩
theorem lyX7_readsRest : xLy yX7_readsRest 0 := ⟨tw_65, by decide, by decide, by decide +kernel⟩
theorem tw_999 : Cond.methodLink RX7 203 yX7_readsRest ∈ lw_g := lg_in (List.mem_of_getElem? (i := 999) (by decide +kernel)) rfl
theorem tw_1001 : Cond.instanceMethod yX7_readsRest ∈ lw_g := lg_in (List.mem_of_getElem? (i := 1001) (by decide +kernel)) rfl
theorem tw_52 : Cond.selects RX7 yX7_readsRest yX7_readsRest ∈ lw_g := lg_in (List.mem_of_getElem? (i := 52) (by decide +kernel)) rfl
theorem lk_X7_203 : xLV RX7 203 yX7_readsRest 0 := ⟨tw_999, tw_1001, tw_52, lyX7_readsRest⟩
theorem lyX7_readsOrder : xLy yX7_readsOrder 0 := ⟨tw_65, by decide, by decide, by decide +kernel⟩
theorem tw_987 : Cond.methodLink RX7 206 yX7_readsOrder ∈ lw_g := lg_in (List.mem_of_getElem? (i := 987) (by decide +kernel)) rfl
theorem tw_989 : Cond.instanceMethod yX7_readsOrder ∈ lw_g := lg_in (List.mem_of_getElem? (i := 989) (by decide +kernel)) rfl
theorem tw_49 : Cond.selects RX7 yX7_readsOrder yX7_readsOrder ∈ lw_g := lg_in (List.mem_of_getElem? (i := 49) (by decide +kernel)) rfl
theorem lk_X7_206 : xLV RX7 206 yX7_readsOrder 0 := ⟨tw_987, tw_989, tw_49, lyX7_readsOrder⟩
theorem lyX7_findFault : xLy yX7_findFault 0 := ⟨tw_65, by decide, by decide, by decide +kernel⟩
theorem tw_983 : Cond.methodLink RX7 209 yX7_findFault ∈ lw_g := lg_in (List.mem_of_getElem? (i := 983) (by decide +kernel)) rfl
theorem tw_985 : Cond.instanceMethod yX7_findFault ∈ lw_g := lg_in (List.mem_of_getElem? (i := 985) (by decide +kernel)) rfl
theorem tw_48 : Cond.selects RX7 yX7_findFault yX7_findFault ∈ lw_g := lg_in (List.mem_of_getElem? (i := 48) (by decide +kernel)) rfl
theorem lk_X7_209 : xLV RX7 209 yX7_findFault 0 := ⟨tw_983, tw_985, tw_48, lyX7_findFault⟩
theorem lyX7_layOutTold : xLy yX7_layOutTold 0 := ⟨tw_65, by decide, by decide, by decide +kernel⟩
theorem tw_1023 : Cond.methodLink RX7 212 yX7_layOutTold ∈ lw_g := lg_in (List.mem_of_getElem? (i := 1023) (by decide +kernel)) rfl
theorem tw_1025 : Cond.instanceMethod yX7_layOutTold ∈ lw_g := lg_in (List.mem_of_getElem? (i := 1025) (by decide +kernel)) rfl
theorem tw_57 : Cond.selects RX7 yX7_layOutTold yX7_layOutTold ∈ lw_g := lg_in (List.mem_of_getElem? (i := 57) (by decide +kernel)) rfl
theorem lk_X7_212 : xLV RX7 212 yX7_layOutTold 0 := ⟨tw_1023, tw_1025, tw_57, lyX7_layOutTold⟩
theorem lyX7_doesOrder : xLy yX7_doesOrder 0 := ⟨tw_65, by decide, by decide, by decide +kernel⟩
theorem tw_1019 : Cond.methodLink RX7 215 yX7_doesOrder ∈ lw_g := lg_in (List.mem_of_getElem? (i := 1019) (by decide +kernel)) rfl
theorem tw_1021 : Cond.instanceMethod yX7_doesOrder ∈ lw_g := lg_in (List.mem_of_getElem? (i := 1021) (by decide +kernel)) rfl
theorem tw_56 : Cond.selects RX7 yX7_doesOrder yX7_doesOrder ∈ lw_g := lg_in (List.mem_of_getElem? (i := 56) (by decide +kernel)) rfl
theorem lk_X7_215 : xLV RX7 215 yX7_doesOrder 0 := ⟨tw_1019, tw_1021, tw_56, lyX7_doesOrder⟩
theorem lyX0_init : xLy yX0_init 0 := ⟨tw_61, by decide, by decide, by decide +kernel⟩
theorem tw_89 : Cond.instanceMethod yX0_init ∈ lw_g := lg_in (List.mem_of_getElem? (i := 89) (by decide +kernel)) rfl
theorem lk_X6_33 : xLN RX6 33 yX0_init 0 := ⟨RX6, (by decide +kernel), tw_89, rfl, lyX0_init⟩
theorem lyX2_init : xLy yX2_init 0 := ⟨tw_63, by decide, by decide, by decide +kernel⟩
theorem tw_137 : Cond.instanceMethod yX2_init ∈ lw_g := lg_in (List.mem_of_getElem? (i := 137) (by decide +kernel)) rfl
theorem lk_X6_40 : xLN RX6 40 yX2_init 0 := ⟨RX6, (by decide +kernel), tw_137, rfl, lyX2_init⟩
theorem lyX3_init : xLy yX3_init 0 := ⟨tw_64, by decide, by decide, by decide +kernel⟩
theorem tw_143 : Cond.instanceMethod yX3_init ∈ lw_g := lg_in (List.mem_of_getElem? (i := 143) (by decide +kernel)) rfl
theorem lk_X2_11 : xLN RX2 11 yX3_init 0 := ⟨RX6, (by decide +kernel), tw_143, rfl, lyX3_init⟩
theorem lk_X5_17 : xLN RX5 17 yX0_init 0 := ⟨RX6, (by decide +kernel), tw_89, rfl, lyX0_init⟩
/-- a new object: class link, class, kind -/
def xLC (own : String) (idx ci N : Nat) : Prop := ∃ (C : String) (T : u_T) (tyf : Nat → FieldType), vwCl[ci]? = some (C, T, N) ∧ (∀ w ∈ u_ws C T N, w ∈ lw_g) ∧ (∀ k, k < N → parseFieldDescriptor (T k).2.2.1 = some (tyf k)) ∧ Cond.classLink own idx C ∈ lw_g ∧ Cond.instantiable C N ∈ lw_g ∧ Cond.initialized C ∈ lw_g
theorem tw_79 : Cond.classLink RX6 9 RX5 ∈ lw_g := lg_in (List.mem_of_getElem? (i := 79) (by decide +kernel)) rfl
theorem tw_80 : Cond.instantiable RX5 1 ∈ lw_g := lg_in (List.mem_of_getElem? (i := 80) (by decide +kernel)) rfl
theorem cl_X6_9 : xLC RX6 9 5 1 := ⟨RX5, TX5, tyX5, rfl, inT_X5, tyX5_ok, tw_79, tw_80, tw_60⟩
theorem tw_113 : Cond.classLink RX6 16 RX1 ∈ lw_g := lg_in (List.mem_of_getElem? (i := 113) (by decide +kernel)) rfl
theorem tw_114 : Cond.instantiable RX1 3 ∈ lw_g := lg_in (List.mem_of_getElem? (i := 114) (by decide +kernel)) rfl
theorem cl_X6_16 : xLC RX6 16 1 3 := ⟨RX1, TX1, tyX1, rfl, inT_X1, tyX1_ok, tw_113, tw_114, tw_62⟩
theorem tw_132 : Cond.classLink RX6 31 RX0 ∈ lw_g := lg_in (List.mem_of_getElem? (i := 132) (by decide +kernel)) rfl
theorem tw_87 : Cond.instantiable RX0 5 ∈ lw_g := lg_in (List.mem_of_getElem? (i := 87) (by decide +kernel)) rfl
theorem cl_X6_31 : xLC RX6 31 0 5 := ⟨RX0, TX0, tyX0, rfl, inT_X0, tyX0_ok, tw_132, tw_87, tw_61⟩
theorem tw_134 : Cond.classLink RX6 38 RX2 ∈ lw_g := lg_in (List.mem_of_getElem? (i := 134) (by decide +kernel)) rfl
theorem tw_135 : Cond.instantiable RX2 10 ∈ lw_g := lg_in (List.mem_of_getElem? (i := 135) (by decide +kernel)) rfl
theorem cl_X6_38 : xLC RX6 38 2 10 := ⟨RX2, TX2, tyX2, rfl, inT_X2, tyX2_ok, tw_134, tw_135, tw_63⟩
theorem tw_363 : Cond.classLink RX6 170 RX4 ∈ lw_g := lg_in (List.mem_of_getElem? (i := 363) (by decide +kernel)) rfl
theorem tw_364 : Cond.instantiable RX4 10 ∈ lw_g := lg_in (List.mem_of_getElem? (i := 364) (by decide +kernel)) rfl
theorem cl_X6_170 : xLC RX6 170 4 10 := ⟨RX4, TX4, tyX4, rfl, inT_X4, tyX4_ok, tw_363, tw_364, tw_68⟩
theorem tw_119 : Cond.classLink RX1 9 RX5 ∈ lw_g := lg_in (List.mem_of_getElem? (i := 119) (by decide +kernel)) rfl
theorem cl_X1_9 : xLC RX1 9 5 1 := ⟨RX5, TX5, tyX5, rfl, inT_X5, tyX5_ok, tw_119, tw_80, tw_60⟩
theorem tw_140 : Cond.classLink RX2 9 RX3 ∈ lw_g := lg_in (List.mem_of_getElem? (i := 140) (by decide +kernel)) rfl
theorem tw_141 : Cond.instantiable RX3 2 ∈ lw_g := lg_in (List.mem_of_getElem? (i := 141) (by decide +kernel)) rfl
theorem cl_X2_9 : xLC RX2 9 3 2 := ⟨RX3, TX3, tyX3, rfl, inT_X3, tyX3_ok, tw_140, tw_141, tw_64⟩
theorem tw_85 : Cond.classLink RX5 9 RX0 ∈ lw_g := lg_in (List.mem_of_getElem? (i := 85) (by decide +kernel)) rfl
theorem cl_X5_9 : xLC RX5 9 0 5 := ⟨RX0, TX0, tyX0, rfl, inT_X0, tyX0_ok, tw_85, tw_87, tw_61⟩
theorem tw_71 : Cond.classLink RL 7 RX6 ∈ lw_g := lg_in (List.mem_of_getElem? (i := 71) (by decide +kernel)) rfl
theorem tw_72 : Cond.instantiable RX6 8 ∈ lw_g := lg_in (List.mem_of_getElem? (i := 72) (by decide +kernel)) rfl
theorem cl_L_7 : xLC RL 7 6 8 := ⟨RX6, TX6, tyX6, rfl, inT_X6, tyX6_ok, tw_71, tw_72, tw_59⟩
theorem tw_700 : Cond.classLink RL 10 RX7 ∈ lw_g := lg_in (List.mem_of_getElem? (i := 700) (by decide +kernel)) rfl
theorem tw_701 : Cond.instantiable RX7 20 ∈ lw_g := lg_in (List.mem_of_getElem? (i := 701) (by decide +kernel)) rfl
theorem cl_L_10 : xLC RL 10 7 20 := ⟨RX7, TX7, tyX7, rfl, inT_X7, tyX7_ok, tw_700, tw_701, tw_65⟩
theorem tw_86 : Cond.arrayOver (.object RX0) ∈ lw_tbl := List.mem_of_getElem? (i := 86) (by decide +kernel)
theorem tw_108 : Cond.arrayClass .int ∈ lw_g := lg_in (List.mem_of_getElem? (i := 108) (by decide +kernel)) rfl
theorem tw_120 : Cond.arrayOver (.object RX5) ∈ lw_tbl := List.mem_of_getElem? (i := 120) (by decide +kernel)
theorem tw_153 : Cond.arrayClass .boolean ∈ lw_g := lg_in (List.mem_of_getElem? (i := 153) (by decide +kernel)) rfl
theorem tw_154 : Cond.arrayClass .char ∈ lw_g := lg_in (List.mem_of_getElem? (i := 154) (by decide +kernel)) rfl
theorem tw_242 : Cond.native arraycopyName ∈ lw_g := lg_in (List.mem_of_getElem? (i := 242) (by decide +kernel)) rfl
theorem tw_540 : Cond.constant RJ6 265 (1431655765) ∈ lw_g := lg_in (List.mem_of_getElem? (i := 540) (by decide +kernel)) rfl
theorem tw_541 : Cond.constant RJ6 266 (858993459) ∈ lw_g := lg_in (List.mem_of_getElem? (i := 541) (by decide +kernel)) rfl
theorem tw_542 : Cond.constant RJ6 267 (252645135) ∈ lw_g := lg_in (List.mem_of_getElem? (i := 542) (by decide +kernel)) rfl
theorem tw_573 : Cond.constantLong RX6 217 (255) ∈ lw_g := lg_in (List.mem_of_getElem? (i := 573) (by decide +kernel)) rfl
theorem tw_574 : Cond.constantLong RX6 308 (33) ∈ lw_g := lg_in (List.mem_of_getElem? (i := 574) (by decide +kernel)) rfl
theorem tw_575 : Cond.constantLong RX6 310 (126) ∈ lw_g := lg_in (List.mem_of_getElem? (i := 575) (by decide +kernel)) rfl
theorem tw_974 : Cond.constantLong RX7 168 (255) ∈ lw_g := lg_in (List.mem_of_getElem? (i := 974) (by decide +kernel)) rfl
theorem tw_1039 : Cond.constantLong RL 89 (4294967295) ∈ lw_g := lg_in (List.mem_of_getElem? (i := 1039) (by decide +kernel)) rfl
theorem tw_241 : Cond.static arraycopyName ∈ lw_g := lg_in (List.mem_of_getElem? (i := 241) (by decide +kernel)) rfl
theorem tw_58 : Cond.initialized RL ∈ lw_g := lg_in (List.mem_of_getElem? (i := 58) (by decide +kernel)) rfl
theorem tw_66 : Cond.initialized RJ10 ∈ lw_g := lg_in (List.mem_of_getElem? (i := 66) (by decide +kernel)) rfl
theorem tw_77 : Cond.instanceMethod objectInit ∈ lw_g := lg_in (List.mem_of_getElem? (i := 77) (by decide +kernel)) rfl
theorem tw_78 : Cond.code objectInit ⟨#[0xb1]⟩ 1 none ∈ lw_g := lg_in (List.mem_of_getElem? (i := 78) (by decide +kernel)) rfl
