section
-- ===== PART A: goes FIRST, ahead of the names: the tables' words, and 'selects' of the private methods out of them =====
/-- a private method of a class that the tables say can be made, by its rows of tables_1 -/
def lw_okq (q : MethodName × Nat) : Prop := (q.1.cls ≠ "java/lang/invoke/MethodHandle" ∧ q.1.cls ≠ "java/lang/invoke/VarHandle") ∧ Cond.instantiable q.1.cls q.2 ∈ tables_1 ∧ Cond.privateMethod q.1 ∈ tables_1 ∧ Cond.instanceMethod q.1 ∈ tables_1
theorem lw_p0 : lw_okq (⟨"JoinedRuns", "draftAppend", "(III)I"⟩, 8) := ⟨⟨by decide +kernel, by decide +kernel⟩, List.mem_of_getElem? (i := 14) (by decide +kernel), List.mem_of_getElem? (i := 158) (by decide +kernel), List.mem_of_getElem? (i := 159) (by decide +kernel)⟩
theorem lw_p1 : lw_okq (⟨"JoinedRuns", "errorOfDraft", "()I"⟩, 8) := ⟨⟨by decide +kernel, by decide +kernel⟩, List.mem_of_getElem? (i := 14) (by decide +kernel), List.mem_of_getElem? (i := 186) (by decide +kernel), List.mem_of_getElem? (i := 187) (by decide +kernel)⟩
theorem lw_p2 : lw_okq (⟨"JoinedRuns", "recordAndTakeDraft", "(I)V"⟩, 8) := ⟨⟨by decide +kernel, by decide +kernel⟩, List.mem_of_getElem? (i := 14) (by decide +kernel), List.mem_of_getElem? (i := 194) (by decide +kernel), List.mem_of_getElem? (i := 195) (by decide +kernel)⟩
theorem lw_p3 : lw_okq (⟨"JoinedRuns", "draftInsert", "(IIII)I"⟩, 8) := ⟨⟨by decide +kernel, by decide +kernel⟩, List.mem_of_getElem? (i := 14) (by decide +kernel), List.mem_of_getElem? (i := 215) (by decide +kernel), List.mem_of_getElem? (i := 216) (by decide +kernel)⟩
theorem lw_p4 : lw_okq (⟨"JoinedRuns", "draftRemove", "(III)I"⟩, 8) := ⟨⟨by decide +kernel, by decide +kernel⟩, List.mem_of_getElem? (i := 14) (by decide +kernel), List.mem_of_getElem? (i := 242) (by decide +kernel), List.mem_of_getElem? (i := 243) (by decide +kernel)⟩
theorem lw_p5 : lw_okq (⟨"JoinedRuns", "isRow", "(II)Z"⟩, 8) := ⟨⟨by decide +kernel, by decide +kernel⟩, List.mem_of_getElem? (i := 14) (by decide +kernel), List.mem_of_getElem? (i := 246) (by decide +kernel), List.mem_of_getElem? (i := 247) (by decide +kernel)⟩
theorem lw_p6 : lw_okq (⟨"JoinedRuns", "draftSet", "(III)I"⟩, 8) := ⟨⟨by decide +kernel, by decide +kernel⟩, List.mem_of_getElem? (i := 14) (by decide +kernel), List.mem_of_getElem? (i := 254) (by decide +kernel), List.mem_of_getElem? (i := 255) (by decide +kernel)⟩
theorem lw_p7 : lw_okq (⟨"JoinedRuns", "draftSort", "(I)I"⟩, 8) := ⟨⟨by decide +kernel, by decide +kernel⟩, List.mem_of_getElem? (i := 14) (by decide +kernel), List.mem_of_getElem? (i := 274) (by decide +kernel), List.mem_of_getElem? (i := 275) (by decide +kernel)⟩
theorem lw_p8 : lw_okq (⟨"JoinedRuns", "draftMerge", "(IIII)I"⟩, 8) := ⟨⟨by decide +kernel, by decide +kernel⟩, List.mem_of_getElem? (i := 14) (by decide +kernel), List.mem_of_getElem? (i := 294) (by decide +kernel), List.mem_of_getElem? (i := 295) (by decide +kernel)⟩
theorem lw_p9 : lw_okq (⟨"JoinedRuns", "walkOver", "(II)LJoinedRuns$PairWalk;"⟩, 8) := ⟨⟨by decide +kernel, by decide +kernel⟩, List.mem_of_getElem? (i := 14) (by decide +kernel), List.mem_of_getElem? (i := 298) (by decide +kernel), List.mem_of_getElem? (i := 299) (by decide +kernel)⟩
theorem lw_p10 : lw_okq (⟨"JoinedRuns", "unlikePairs", "(LJoinedRuns$PairWalk;)I"⟩, 8) := ⟨⟨by decide +kernel, by decide +kernel⟩, List.mem_of_getElem? (i := 14) (by decide +kernel), List.mem_of_getElem? (i := 469) (by decide +kernel), List.mem_of_getElem? (i := 470) (by decide +kernel)⟩
theorem lw_p11 : lw_okq (⟨"JoinedRuns$OrderReader", "readDigit", "(I)Z"⟩, 10) := ⟨⟨by decide +kernel, by decide +kernel⟩, List.mem_of_getElem? (i := 92) (by decide +kernel), List.mem_of_getElem? (i := 543) (by decide +kernel), List.mem_of_getElem? (i := 544) (by decide +kernel)⟩
theorem lw_p12 : lw_okq (⟨"JoinedRuns$OrderReader", "readRuns", "()Z"⟩, 10) := ⟨⟨by decide +kernel, by decide +kernel⟩, List.mem_of_getElem? (i := 92) (by decide +kernel), List.mem_of_getElem? (i := 555) (by decide +kernel), List.mem_of_getElem? (i := 556) (by decide +kernel)⟩
theorem lw_p13 : lw_okq (⟨"JoinedRuns$OrderReader", "readNumber", "()Z"⟩, 10) := ⟨⟨by decide +kernel, by decide +kernel⟩, List.mem_of_getElem? (i := 92) (by decide +kernel), List.mem_of_getElem? (i := 559) (by decide +kernel), List.mem_of_getElem? (i := 560) (by decide +kernel)⟩
theorem lw_p14 : lw_okq (⟨"JoinedRuns$OrderReader", "readRow", "()Z"⟩, 10) := ⟨⟨by decide +kernel, by decide +kernel⟩, List.mem_of_getElem? (i := 92) (by decide +kernel), List.mem_of_getElem? (i := 563) (by decide +kernel), List.mem_of_getElem? (i := 564) (by decide +kernel)⟩
theorem lw_p15 : lw_okq (⟨"JoinedRuns$OrderReader", "keepOperand", "()Z"⟩, 10) := ⟨⟨by decide +kernel, by decide +kernel⟩, List.mem_of_getElem? (i := 92) (by decide +kernel), List.mem_of_getElem? (i := 567) (by decide +kernel), List.mem_of_getElem? (i := 568) (by decide +kernel)⟩
def lw_privs_1 : List (MethodName × Nat) := [(⟨"JoinedRuns", "draftAppend", "(III)I"⟩, 8), (⟨"JoinedRuns", "errorOfDraft", "()I"⟩, 8), (⟨"JoinedRuns", "recordAndTakeDraft", "(I)V"⟩, 8), (⟨"JoinedRuns", "draftInsert", "(IIII)I"⟩, 8), (⟨"JoinedRuns", "draftRemove", "(III)I"⟩, 8), (⟨"JoinedRuns", "isRow", "(II)Z"⟩, 8), (⟨"JoinedRuns", "draftSet", "(III)I"⟩, 8), (⟨"JoinedRuns", "draftSort", "(I)I"⟩, 8), (⟨"JoinedRuns", "draftMerge", "(IIII)I"⟩, 8), (⟨"JoinedRuns", "walkOver", "(II)LJoinedRuns$PairWalk;"⟩, 8), (⟨"JoinedRuns", "unlikePairs", "(LJoinedRuns$PairWalk;)I"⟩, 8), (⟨"JoinedRuns$OrderReader", "readDigit", "(I)Z"⟩, 10), (⟨"JoinedRuns$OrderReader", "readRuns", "()Z"⟩, 10), (⟨"JoinedRuns$OrderReader", "readNumber", "()Z"⟩, 10), (⟨"JoinedRuns$OrderReader", "readRow", "()Z"⟩, 10), (⟨"JoinedRuns$OrderReader", "keepOperand", "()Z"⟩, 10)]
theorem lw_r1 : ∀ q ∈ lw_privs_1, lw_okq q := List.forall_mem_cons.mpr ⟨lw_p0, List.forall_mem_cons.mpr ⟨lw_p1, List.forall_mem_cons.mpr ⟨lw_p2, List.forall_mem_cons.mpr ⟨lw_p3, List.forall_mem_cons.mpr ⟨lw_p4, List.forall_mem_cons.mpr ⟨lw_p5, List.forall_mem_cons.mpr ⟨lw_p6, List.forall_mem_cons.mpr ⟨lw_p7, List.forall_mem_cons.mpr ⟨lw_p8, List.forall_mem_cons.mpr ⟨lw_p9, List.forall_mem_cons.mpr ⟨lw_p10, List.forall_mem_cons.mpr ⟨lw_p11, List.forall_mem_cons.mpr ⟨lw_p12, List.forall_mem_cons.mpr ⟨lw_p13, List.forall_mem_cons.mpr ⟨lw_p14, List.forall_mem_cons.mpr ⟨lw_p15, fun _ h => absurd h List.not_mem_nil⟩⟩⟩⟩⟩⟩⟩⟩⟩⟩⟩⟩⟩⟩⟩⟩
theorem lw_p16 : lw_okq (⟨"JoinedRuns", "obeyOrders", "()I"⟩, 8) := ⟨⟨by decide +kernel, by decide +kernel⟩, List.mem_of_getElem? (i := 14) (by decide +kernel), List.mem_of_getElem? (i := 576) (by decide +kernel), List.mem_of_getElem? (i := 577) (by decide +kernel)⟩
theorem lw_p17 : lw_okq (⟨"JoinedRuns", "draftOrder", "()I"⟩, 8) := ⟨⟨by decide +kernel, by decide +kernel⟩, List.mem_of_getElem? (i := 14) (by decide +kernel), List.mem_of_getElem? (i := 582) (by decide +kernel), List.mem_of_getElem? (i := 583) (by decide +kernel)⟩
theorem lw_p18 : lw_okq (⟨"JoinedRuns", "draftRunsOfOrder", "()I"⟩, 8) := ⟨⟨by decide +kernel, by decide +kernel⟩, List.mem_of_getElem? (i := 14) (by decide +kernel), List.mem_of_getElem? (i := 602) (by decide +kernel), List.mem_of_getElem? (i := 603) (by decide +kernel)⟩
theorem lw_p19 : lw_okq (⟨"JoinedRunsModel", "layOut", "(I)V"⟩, 20) := ⟨⟨by decide +kernel, by decide +kernel⟩, List.mem_of_getElem? (i := 639) (by decide +kernel), List.mem_of_getElem? (i := 719) (by decide +kernel), List.mem_of_getElem? (i := 720) (by decide +kernel)⟩
theorem lw_p20 : lw_okq (⟨"JoinedRunsModel", "runsOf", "(I)I"⟩, 20) := ⟨⟨by decide +kernel, by decide +kernel⟩, List.mem_of_getElem? (i := 639) (by decide +kernel), List.mem_of_getElem? (i := 723) (by decide +kernel), List.mem_of_getElem? (i := 724) (by decide +kernel)⟩
theorem lw_p21 : lw_okq (⟨"JoinedRunsModel", "lengthOf", "(II)I"⟩, 20) := ⟨⟨by decide +kernel, by decide +kernel⟩, List.mem_of_getElem? (i := 639) (by decide +kernel), List.mem_of_getElem? (i := 727) (by decide +kernel), List.mem_of_getElem? (i := 728) (by decide +kernel)⟩
theorem lw_p22 : lw_okq (⟨"JoinedRunsModel", "valueOf", "(II)I"⟩, 20) := ⟨⟨by decide +kernel, by decide +kernel⟩, List.mem_of_getElem? (i := 639) (by decide +kernel), List.mem_of_getElem? (i := 731) (by decide +kernel), List.mem_of_getElem? (i := 732) (by decide +kernel)⟩
theorem lw_p23 : lw_okq (⟨"JoinedRunsModel", "putIn", "(III)V"⟩, 20) := ⟨⟨by decide +kernel, by decide +kernel⟩, List.mem_of_getElem? (i := 639) (by decide +kernel), List.mem_of_getElem? (i := 735) (by decide +kernel), List.mem_of_getElem? (i := 736) (by decide +kernel)⟩
theorem lw_p24 : lw_okq (⟨"JoinedRunsModel", "isTooMany", "()Z"⟩, 20) := ⟨⟨by decide +kernel, by decide +kernel⟩, List.mem_of_getElem? (i := 639) (by decide +kernel), List.mem_of_getElem? (i := 739) (by decide +kernel), List.mem_of_getElem? (i := 740) (by decide +kernel)⟩
theorem lw_p25 : lw_okq (⟨"JoinedRunsModel", "runsLaid", "()I"⟩, 20) := ⟨⟨by decide +kernel, by decide +kernel⟩, List.mem_of_getElem? (i := 639) (by decide +kernel), List.mem_of_getElem? (i := 743) (by decide +kernel), List.mem_of_getElem? (i := 744) (by decide +kernel)⟩
theorem lw_p26 : lw_okq (⟨"JoinedRunsModel", "record", "()V"⟩, 20) := ⟨⟨by decide +kernel, by decide +kernel⟩, List.mem_of_getElem? (i := 639) (by decide +kernel), List.mem_of_getElem? (i := 747) (by decide +kernel), List.mem_of_getElem? (i := 748) (by decide +kernel)⟩
theorem lw_p27 : lw_okq (⟨"JoinedRunsModel", "gets", "(I)V"⟩, 20) := ⟨⟨by decide +kernel, by decide +kernel⟩, List.mem_of_getElem? (i := 639) (by decide +kernel), List.mem_of_getElem? (i := 754) (by decide +kernel), List.mem_of_getElem? (i := 755) (by decide +kernel)⟩
theorem lw_p28 : lw_okq (⟨"JoinedRunsModel", "rowsOf", "(I)I"⟩, 20) := ⟨⟨by decide +kernel, by decide +kernel⟩, List.mem_of_getElem? (i := 639) (by decide +kernel), List.mem_of_getElem? (i := 762) (by decide +kernel), List.mem_of_getElem? (i := 763) (by decide +kernel)⟩
theorem lw_p29 : lw_okq (⟨"JoinedRunsModel", "whyNotRemoved", "(III)I"⟩, 20) := ⟨⟨by decide +kernel, by decide +kernel⟩, List.mem_of_getElem? (i := 639) (by decide +kernel), List.mem_of_getElem? (i := 770) (by decide +kernel), List.mem_of_getElem? (i := 771) (by decide +kernel)⟩
theorem lw_p30 : lw_okq (⟨"JoinedRunsModel", "isRow", "(II)Z"⟩, 20) := ⟨⟨by decide +kernel, by decide +kernel⟩, List.mem_of_getElem? (i := 639) (by decide +kernel), List.mem_of_getElem? (i := 774) (by decide +kernel), List.mem_of_getElem? (i := 775) (by decide +kernel)⟩
theorem lw_p31 : lw_okq (⟨"JoinedRunsModel", "removes", "(III)I"⟩, 20) := ⟨⟨by decide +kernel, by decide +kernel⟩, List.mem_of_getElem? (i := 639) (by decide +kernel), List.mem_of_getElem? (i := 778) (by decide +kernel), List.mem_of_getElem? (i := 779) (by decide +kernel)⟩
def lw_privs_2 : List (MethodName × Nat) := [(⟨"JoinedRuns", "obeyOrders", "()I"⟩, 8), (⟨"JoinedRuns", "draftOrder", "()I"⟩, 8), (⟨"JoinedRuns", "draftRunsOfOrder", "()I"⟩, 8), (⟨"JoinedRunsModel", "layOut", "(I)V"⟩, 20), (⟨"JoinedRunsModel", "runsOf", "(I)I"⟩, 20), (⟨"JoinedRunsModel", "lengthOf", "(II)I"⟩, 20), (⟨"JoinedRunsModel", "valueOf", "(II)I"⟩, 20), (⟨"JoinedRunsModel", "putIn", "(III)V"⟩, 20), (⟨"JoinedRunsModel", "isTooMany", "()Z"⟩, 20), (⟨"JoinedRunsModel", "runsLaid", "()I"⟩, 20), (⟨"JoinedRunsModel", "record", "()V"⟩, 20), (⟨"JoinedRunsModel", "gets", "(I)V"⟩, 20), (⟨"JoinedRunsModel", "rowsOf", "(I)I"⟩, 20), (⟨"JoinedRunsModel", "whyNotRemoved", "(III)I"⟩, 20), (⟨"JoinedRunsModel", "isRow", "(II)Z"⟩, 20), (⟨"JoinedRunsModel", "removes", "(III)I"⟩, 20)]
theorem lw_r2 : ∀ q ∈ lw_privs_2, lw_okq q := List.forall_mem_cons.mpr ⟨lw_p16, List.forall_mem_cons.mpr ⟨lw_p17, List.forall_mem_cons.mpr ⟨lw_p18, List.forall_mem_cons.mpr ⟨lw_p19, List.forall_mem_cons.mpr ⟨lw_p20, List.forall_mem_cons.mpr ⟨lw_p21, List.forall_mem_cons.mpr ⟨lw_p22, List.forall_mem_cons.mpr ⟨lw_p23, List.forall_mem_cons.mpr ⟨lw_p24, List.forall_mem_cons.mpr ⟨lw_p25, List.forall_mem_cons.mpr ⟨lw_p26, List.forall_mem_cons.mpr ⟨lw_p27, List.forall_mem_cons.mpr ⟨lw_p28, List.forall_mem_cons.mpr ⟨lw_p29, List.forall_mem_cons.mpr ⟨lw_p30, List.forall_mem_cons.mpr ⟨lw_p31, fun _ h => absurd h List.not_mem_nil⟩⟩⟩⟩⟩⟩⟩⟩⟩⟩⟩⟩⟩⟩⟩⟩
theorem lw_p32 : lw_okq (⟨"JoinedRunsModel", "whyNotSet", "(III)I"⟩, 20) := ⟨⟨by decide +kernel, by decide +kernel⟩, List.mem_of_getElem? (i := 639) (by decide +kernel), List.mem_of_getElem? (i := 786) (by decide +kernel), List.mem_of_getElem? (i := 787) (by decide +kernel)⟩
theorem lw_p33 : lw_okq (⟨"JoinedRunsModel", "valueAt", "(II)I"⟩, 20) := ⟨⟨by decide +kernel, by decide +kernel⟩, List.mem_of_getElem? (i := 639) (by decide +kernel), List.mem_of_getElem? (i := 790) (by decide +kernel), List.mem_of_getElem? (i := 791) (by decide +kernel)⟩
theorem lw_p34 : lw_okq (⟨"JoinedRunsModel", "sorts", "(I)I"⟩, 20) := ⟨⟨by decide +kernel, by decide +kernel⟩, List.mem_of_getElem? (i := 639) (by decide +kernel), List.mem_of_getElem? (i := 798) (by decide +kernel), List.mem_of_getElem? (i := 799) (by decide +kernel)⟩
theorem lw_p35 : lw_okq (⟨"JoinedRunsModel", "layOutOther", "(I)V"⟩, 20) := ⟨⟨by decide +kernel, by decide +kernel⟩, List.mem_of_getElem? (i := 639) (by decide +kernel), List.mem_of_getElem? (i := 802) (by decide +kernel), List.mem_of_getElem? (i := 803) (by decide +kernel)⟩
theorem lw_p36 : lw_okq (⟨"JoinedRunsModel", "layOutBoth", "(II)I"⟩, 20) := ⟨⟨by decide +kernel, by decide +kernel⟩, List.mem_of_getElem? (i := 639) (by decide +kernel), List.mem_of_getElem? (i := 814) (by decide +kernel), List.mem_of_getElem? (i := 815) (by decide +kernel)⟩
theorem lw_p37 : lw_okq (⟨"JoinedRunsModel", "firstRow", "(II)I"⟩, 20) := ⟨⟨by decide +kernel, by decide +kernel⟩, List.mem_of_getElem? (i := 639) (by decide +kernel), List.mem_of_getElem? (i := 822) (by decide +kernel), List.mem_of_getElem? (i := 823) (by decide +kernel)⟩
theorem lw_p38 : lw_okq (⟨"JoinedRunsModel", "sumOf", "(I)I"⟩, 20) := ⟨⟨by decide +kernel, by decide +kernel⟩, List.mem_of_getElem? (i := 639) (by decide +kernel), List.mem_of_getElem? (i := 838) (by decide +kernel), List.mem_of_getElem? (i := 839) (by decide +kernel)⟩
theorem lw_p39 : lw_okq (⟨"JoinedRunsModel", "longest", "(II)I"⟩, 20) := ⟨⟨by decide +kernel, by decide +kernel⟩, List.mem_of_getElem? (i := 639) (by decide +kernel), List.mem_of_getElem? (i := 842) (by decide +kernel), List.mem_of_getElem? (i := 843) (by decide +kernel)⟩
theorem lw_p40 : lw_okq (⟨"JoinedRunsModel", "valuesOf", "(I)I"⟩, 20) := ⟨⟨by decide +kernel, by decide +kernel⟩, List.mem_of_getElem? (i := 639) (by decide +kernel), List.mem_of_getElem? (i := 846) (by decide +kernel), List.mem_of_getElem? (i := 847) (by decide +kernel)⟩
theorem lw_p41 : lw_okq (⟨"JoinedRunsModel", "isInOrder", "(IZ)Z"⟩, 20) := ⟨⟨by decide +kernel, by decide +kernel⟩, List.mem_of_getElem? (i := 639) (by decide +kernel), List.mem_of_getElem? (i := 850) (by decide +kernel), List.mem_of_getElem? (i := 851) (by decide +kernel)⟩
theorem lw_p42 : lw_okq (⟨"JoinedRunsModel", "ofValue", "(IIZ)I"⟩, 20) := ⟨⟨by decide +kernel, by decide +kernel⟩, List.mem_of_getElem? (i := 639) (by decide +kernel), List.mem_of_getElem? (i := 858) (by decide +kernel), List.mem_of_getElem? (i := 859) (by decide +kernel)⟩
theorem lw_p43 : lw_okq (⟨"JoinedRunsModel", "allRows", "()I"⟩, 20) := ⟨⟨by decide +kernel, by decide +kernel⟩, List.mem_of_getElem? (i := 639) (by decide +kernel), List.mem_of_getElem? (i := 866) (by decide +kernel), List.mem_of_getElem? (i := 867) (by decide +kernel)⟩
theorem lw_p44 : lw_okq (⟨"JoinedRunsModel", "allRuns", "()I"⟩, 20) := ⟨⟨by decide +kernel, by decide +kernel⟩, List.mem_of_getElem? (i := 639) (by decide +kernel), List.mem_of_getElem? (i := 870) (by decide +kernel), List.mem_of_getElem? (i := 871) (by decide +kernel)⟩
theorem lw_p45 : lw_okq (⟨"JoinedRunsModel", "isFirstPair", "(I)Z"⟩, 20) := ⟨⟨by decide +kernel, by decide +kernel⟩, List.mem_of_getElem? (i := 639) (by decide +kernel), List.mem_of_getElem? (i := 878) (by decide +kernel), List.mem_of_getElem? (i := 879) (by decide +kernel)⟩
theorem lw_p46 : lw_okq (⟨"JoinedRunsModel", "ofPairs", "(II)I"⟩, 20) := ⟨⟨by decide +kernel, by decide +kernel⟩, List.mem_of_getElem? (i := 639) (by decide +kernel), List.mem_of_getElem? (i := 886) (by decide +kernel), List.mem_of_getElem? (i := 887) (by decide +kernel)⟩
theorem lw_p47 : lw_okq (⟨"JoinedRunsModel", "beginnings", "(I)I"⟩, 20) := ⟨⟨by decide +kernel, by decide +kernel⟩, List.mem_of_getElem? (i := 639) (by decide +kernel), List.mem_of_getElem? (i := 905) (by decide +kernel), List.mem_of_getElem? (i := 906) (by decide +kernel)⟩
def lw_privs_3 : List (MethodName × Nat) := [(⟨"JoinedRunsModel", "whyNotSet", "(III)I"⟩, 20), (⟨"JoinedRunsModel", "valueAt", "(II)I"⟩, 20), (⟨"JoinedRunsModel", "sorts", "(I)I"⟩, 20), (⟨"JoinedRunsModel", "layOutOther", "(I)V"⟩, 20), (⟨"JoinedRunsModel", "layOutBoth", "(II)I"⟩, 20), (⟨"JoinedRunsModel", "firstRow", "(II)I"⟩, 20), (⟨"JoinedRunsModel", "sumOf", "(I)I"⟩, 20), (⟨"JoinedRunsModel", "longest", "(II)I"⟩, 20), (⟨"JoinedRunsModel", "valuesOf", "(I)I"⟩, 20), (⟨"JoinedRunsModel", "isInOrder", "(IZ)Z"⟩, 20), (⟨"JoinedRunsModel", "ofValue", "(IIZ)I"⟩, 20), (⟨"JoinedRunsModel", "allRows", "()I"⟩, 20), (⟨"JoinedRunsModel", "allRuns", "()I"⟩, 20), (⟨"JoinedRunsModel", "isFirstPair", "(I)Z"⟩, 20), (⟨"JoinedRunsModel", "ofPairs", "(II)I"⟩, 20), (⟨"JoinedRunsModel", "beginnings", "(I)I"⟩, 20)]
theorem lw_r3 : ∀ q ∈ lw_privs_3, lw_okq q := List.forall_mem_cons.mpr ⟨lw_p32, List.forall_mem_cons.mpr ⟨lw_p33, List.forall_mem_cons.mpr ⟨lw_p34, List.forall_mem_cons.mpr ⟨lw_p35, List.forall_mem_cons.mpr ⟨lw_p36, List.forall_mem_cons.mpr ⟨lw_p37, List.forall_mem_cons.mpr ⟨lw_p38, List.forall_mem_cons.mpr ⟨lw_p39, List.forall_mem_cons.mpr ⟨lw_p40, List.forall_mem_cons.mpr ⟨lw_p41, List.forall_mem_cons.mpr ⟨lw_p42, List.forall_mem_cons.mpr ⟨lw_p43, List.forall_mem_cons.mpr ⟨lw_p44, List.forall_mem_cons.mpr ⟨lw_p45, List.forall_mem_cons.mpr ⟨lw_p46, List.forall_mem_cons.mpr ⟨lw_p47, fun _ h => absurd h List.not_mem_nil⟩⟩⟩⟩⟩⟩⟩⟩⟩⟩⟩⟩⟩⟩⟩⟩
theorem lw_p48 : lw_okq (⟨"JoinedRunsModel", "findFault", "()I"⟩, 20) := ⟨⟨by decide +kernel, by decide +kernel⟩, List.mem_of_getElem? (i := 639) (by decide +kernel), List.mem_of_getElem? (i := 922) (by decide +kernel), List.mem_of_getElem? (i := 923) (by decide +kernel)⟩
theorem lw_p49 : lw_okq (⟨"JoinedRunsModel", "readsOrder", "()Z"⟩, 20) := ⟨⟨by decide +kernel, by decide +kernel⟩, List.mem_of_getElem? (i := 639) (by decide +kernel), List.mem_of_getElem? (i := 926) (by decide +kernel), List.mem_of_getElem? (i := 927) (by decide +kernel)⟩
theorem lw_p50 : lw_okq (⟨"JoinedRunsModel", "takeDigit", "(I)I"⟩, 20) := ⟨⟨by decide +kernel, by decide +kernel⟩, List.mem_of_getElem? (i := 639) (by decide +kernel), List.mem_of_getElem? (i := 930) (by decide +kernel), List.mem_of_getElem? (i := 931) (by decide +kernel)⟩
theorem lw_p51 : lw_okq (⟨"JoinedRunsModel", "character", "(I)I"⟩, 20) := ⟨⟨by decide +kernel, by decide +kernel⟩, List.mem_of_getElem? (i := 639) (by decide +kernel), List.mem_of_getElem? (i := 934) (by decide +kernel), List.mem_of_getElem? (i := 935) (by decide +kernel)⟩
theorem lw_p52 : lw_okq (⟨"JoinedRunsModel", "readsRest", "()Z"⟩, 20) := ⟨⟨by decide +kernel, by decide +kernel⟩, List.mem_of_getElem? (i := 639) (by decide +kernel), List.mem_of_getElem? (i := 938) (by decide +kernel), List.mem_of_getElem? (i := 939) (by decide +kernel)⟩
theorem lw_p53 : lw_okq (⟨"JoinedRunsModel", "readsRuns", "()Z"⟩, 20) := ⟨⟨by decide +kernel, by decide +kernel⟩, List.mem_of_getElem? (i := 639) (by decide +kernel), List.mem_of_getElem? (i := 942) (by decide +kernel), List.mem_of_getElem? (i := 943) (by decide +kernel)⟩
theorem lw_p54 : lw_okq (⟨"JoinedRunsModel", "isNext", "(I)Z"⟩, 20) := ⟨⟨by decide +kernel, by decide +kernel⟩, List.mem_of_getElem? (i := 639) (by decide +kernel), List.mem_of_getElem? (i := 946) (by decide +kernel), List.mem_of_getElem? (i := 947) (by decide +kernel)⟩
theorem lw_p55 : lw_okq (⟨"JoinedRunsModel", "takeNumber", "()I"⟩, 20) := ⟨⟨by decide +kernel, by decide +kernel⟩, List.mem_of_getElem? (i := 639) (by decide +kernel), List.mem_of_getElem? (i := 950) (by decide +kernel), List.mem_of_getElem? (i := 951) (by decide +kernel)⟩
theorem lw_p56 : lw_okq (⟨"JoinedRunsModel", "doesOrder", "()Z"⟩, 20) := ⟨⟨by decide +kernel, by decide +kernel⟩, List.mem_of_getElem? (i := 639) (by decide +kernel), List.mem_of_getElem? (i := 958) (by decide +kernel), List.mem_of_getElem? (i := 959) (by decide +kernel)⟩
theorem lw_p57 : lw_okq (⟨"JoinedRunsModel", "layOutTold", "()I"⟩, 20) := ⟨⟨by decide +kernel, by decide +kernel⟩, List.mem_of_getElem? (i := 639) (by decide +kernel), List.mem_of_getElem? (i := 962) (by decide +kernel), List.mem_of_getElem? (i := 963) (by decide +kernel)⟩
def lw_privs_4 : List (MethodName × Nat) := [(⟨"JoinedRunsModel", "findFault", "()I"⟩, 20), (⟨"JoinedRunsModel", "readsOrder", "()Z"⟩, 20), (⟨"JoinedRunsModel", "takeDigit", "(I)I"⟩, 20), (⟨"JoinedRunsModel", "character", "(I)I"⟩, 20), (⟨"JoinedRunsModel", "readsRest", "()Z"⟩, 20), (⟨"JoinedRunsModel", "readsRuns", "()Z"⟩, 20), (⟨"JoinedRunsModel", "isNext", "(I)Z"⟩, 20), (⟨"JoinedRunsModel", "takeNumber", "()I"⟩, 20), (⟨"JoinedRunsModel", "doesOrder", "()Z"⟩, 20), (⟨"JoinedRunsModel", "layOutTold", "()I"⟩, 20)]
theorem lw_r4 : ∀ q ∈ lw_privs_4, lw_okq q := List.forall_mem_cons.mpr ⟨lw_p48, List.forall_mem_cons.mpr ⟨lw_p49, List.forall_mem_cons.mpr ⟨lw_p50, List.forall_mem_cons.mpr ⟨lw_p51, List.forall_mem_cons.mpr ⟨lw_p52, List.forall_mem_cons.mpr ⟨lw_p53, List.forall_mem_cons.mpr ⟨lw_p54, List.forall_mem_cons.mpr ⟨lw_p55, List.forall_mem_cons.mpr ⟨lw_p56, List.forall_mem_cons.mpr ⟨lw_p57, fun _ h => absurd h List.not_mem_nil⟩⟩⟩⟩⟩⟩⟩⟩⟩⟩
def lw_privs : List (MethodName × Nat) := lw_privs_1 ++ (lw_privs_2 ++ (lw_privs_3 ++ (lw_privs_4)))
def lw_tbl : List Cond := k2_sels lw_privs ++ tables_1
theorem lw_privs_ok : ∀ q ∈ lw_privs, lw_okq q := by
  show ∀ q ∈ lw_privs_1 ++ (lw_privs_2 ++ (lw_privs_3 ++ (lw_privs_4))), lw_okq q
  exact List.forall_mem_append.mpr ⟨lw_r1, List.forall_mem_append.mpr ⟨lw_r2, List.forall_mem_append.mpr ⟨lw_r3, lw_r4⟩⟩⟩
end
section
def RX0 : String := "JoinedRuns$Column"
def TX0 : u_T := fun k => match k with
  | 0 => ("JoinedRuns$Column", "values", "[I", true)
  | 1 => ("JoinedRuns$Column", "lengths", "[I", true)
  | 2 => ("JoinedRuns$Column", "runs", "I", false)
  | 3 => ("JoinedRuns$Column", "rows", "I", false)
  | _ => ("JoinedRuns$Column", "overfull", "Z", false)
def tyX0 : Nat → FieldType := fun k => match k with
  | 0 => .array .int
  | 1 => .array .int
  | 2 => .int
  | 3 => .int
  | _ => .boolean
theorem nmX0 : ∀ a, a < 5 → ∀ b, b < 5 → a ≠ b → (TX0 a).2.1 ≠ (TX0 b).2.1 := by decide +kernel
theorem tyX0_ok : ∀ k, k < 5 → parseFieldDescriptor (TX0 k).2.2.1 = some (tyX0 k) := by decide +kernel
abbrev cX0_init : ByteArray := prog_2_method_1_code
def yX0_init : MethodName := ⟨RX0, "<init>", "()V"⟩
abbrev cX0_runs : ByteArray := prog_2_method_2_code
def yX0_runs : MethodName := ⟨RX0, "runs", "()I"⟩
abbrev cX0_rows : ByteArray := prog_2_method_3_code
def yX0_rows : MethodName := ⟨RX0, "rows", "()I"⟩
abbrev cX0_isOverfull : ByteArray := prog_2_method_4_code
def yX0_isOverfull : MethodName := ⟨RX0, "isOverfull", "()Z"⟩
abbrev cX0_valueOfRun : ByteArray := prog_2_method_5_code
def yX0_valueOfRun : MethodName := ⟨RX0, "valueOfRun", "(I)I"⟩
abbrev cX0_lengthOfRun : ByteArray := prog_2_method_6_code
def yX0_lengthOfRun : MethodName := ⟨RX0, "lengthOfRun", "(I)I"⟩
abbrev cX0_firstRowOfRun : ByteArray := prog_2_method_7_code
def yX0_firstRowOfRun : MethodName := ⟨RX0, "firstRowOfRun", "(I)I"⟩
abbrev cX0_runOfRow : ByteArray := prog_2_method_8_code
def yX0_runOfRow : MethodName := ⟨RX0, "runOfRow", "(I)I"⟩
abbrev cX0_valueOfRow : ByteArray := prog_2_method_9_code
def yX0_valueOfRow : MethodName := ⟨RX0, "valueOfRow", "(I)I"⟩
abbrev cX0_rowOfRank : ByteArray := prog_2_method_10_code
def yX0_rowOfRank : MethodName := ⟨RX0, "rowOfRank", "(II)I"⟩
abbrev cX0_sum : ByteArray := prog_2_method_11_code
def yX0_sum : MethodName := ⟨RX0, "sum", "()I"⟩
abbrev cX0_longest : ByteArray := prog_2_method_12_code
def yX0_longest : MethodName := ⟨RX0, "longest", "()I"⟩
abbrev cX0_valueSet : ByteArray := prog_2_method_13_code
def yX0_valueSet : MethodName := ⟨RX0, "valueSet", "()I"⟩
abbrev cX0_neverFalls : ByteArray := prog_2_method_14_code
def yX0_neverFalls : MethodName := ⟨RX0, "neverFalls", "()Z"⟩
abbrev cX0_neverRises : ByteArray := prog_2_method_15_code
def yX0_neverRises : MethodName := ⟨RX0, "neverRises", "()Z"⟩
abbrev cX0_rowsOf : ByteArray := prog_2_method_16_code
def yX0_rowsOf : MethodName := ⟨RX0, "rowsOf", "(I)I"⟩
abbrev cX0_runsOf : ByteArray := prog_2_method_17_code
def yX0_runsOf : MethodName := ⟨RX0, "runsOf", "(I)I"⟩
abbrev cX0_longestOf : ByteArray := prog_2_method_18_code
def yX0_longestOf : MethodName := ⟨RX0, "longestOf", "(I)I"⟩
abbrev cX0_runsAfterSet : ByteArray := prog_2_method_19_code
def yX0_runsAfterSet : MethodName := ⟨RX0, "runsAfterSet", "(II)I"⟩
abbrev cX0_bestRowToSet : ByteArray := prog_2_method_20_code
def yX0_bestRowToSet : MethodName := ⟨RX0, "bestRowToSet", "(I)I"⟩
abbrev cX0_clear : ByteArray := prog_2_method_21_code
def yX0_clear : MethodName := ⟨RX0, "clear", "()V"⟩
abbrev cX0_copyFrom : ByteArray := prog_2_method_22_code
def yX0_copyFrom : MethodName := ⟨RX0, "copyFrom", "(LJoinedRuns$Column;)V"⟩
abbrev cX0_addRun : ByteArray := prog_2_method_23_code
def yX0_addRun : MethodName := ⟨RX0, "addRun", "(II)V"⟩
abbrev cX0_addRows : ByteArray := prog_2_method_24_code
def yX0_addRows : MethodName := ⟨RX0, "addRows", "(LJoinedRuns$Column;II)V"⟩
abbrev cX0_addTurned : ByteArray := prog_2_method_25_code
def yX0_addTurned : MethodName := ⟨RX0, "addTurned", "(LJoinedRuns$Column;)V"⟩
def RX1 : String := "JoinedRuns$History"
def TX1 : u_T := fun k => match k with
  | 0 => ("JoinedRuns$History", "states", "[LJoinedRuns$State;", true)
  | 1 => ("JoinedRuns$History", "oldest", "I", false)
  | _ => ("JoinedRuns$History", "kept", "I", false)
def tyX1 : Nat → FieldType := fun k => match k with
  | 0 => .array (.object "JoinedRuns$State")
  | 1 => .int
  | _ => .int
theorem nmX1 : ∀ a, a < 3 → ∀ b, b < 3 → a ≠ b → (TX1 a).2.1 ≠ (TX1 b).2.1 := by decide +kernel
theorem tyX1_ok : ∀ k, k < 3 → parseFieldDescriptor (TX1 k).2.2.1 = some (tyX1 k) := by decide +kernel
abbrev cX1_init : ByteArray := prog_3_method_1_code
def yX1_init : MethodName := ⟨RX1, "<init>", "()V"⟩
abbrev cX1_kept : ByteArray := prog_3_method_2_code
def yX1_kept : MethodName := ⟨RX1, "kept", "()I"⟩
abbrev cX1_record : ByteArray := prog_3_method_3_code
def yX1_record : MethodName := ⟨RX1, "record", "(LJoinedRuns$State;)V"⟩
abbrev cX1_takeBack : ByteArray := prog_3_method_4_code
def yX1_takeBack : MethodName := ⟨RX1, "takeBack", "(LJoinedRuns$State;)V"⟩
def RX2 : String := "JoinedRuns$OrderReader"
def TX2 : u_T := fun k => match k with
  | 0 => ("JoinedRuns$OrderReader", "pad", "LJoinedRuns$Pad;", true)
  | 1 => ("JoinedRuns$OrderReader", "values", "[I", true)
  | 2 => ("JoinedRuns$OrderReader", "lengths", "[I", true)
  | 3 => ("JoinedRuns$OrderReader", "runs", "I", false)
  | 4 => ("JoinedRuns$OrderReader", "place", "I", false)
  | 5 => ("JoinedRuns$OrderReader", "column", "I", false)
  | 6 => ("JoinedRuns$OrderReader", "kind", "C", false)
  | 7 => ("JoinedRuns$OrderReader", "row", "I", false)
  | 8 => ("JoinedRuns$OrderReader", "operand", "I", false)
  | _ => ("JoinedRuns$OrderReader", "number", "I", false)
def tyX2 : Nat → FieldType := fun k => match k with
  | 0 => .object "JoinedRuns$Pad"
  | 1 => .array .int
  | 2 => .array .int
  | 3 => .int
  | 4 => .int
  | 5 => .int
  | 6 => .char
  | 7 => .int
  | 8 => .int
  | _ => .int
theorem nmX2 : ∀ a, a < 10 → ∀ b, b < 10 → a ≠ b → (TX2 a).2.1 ≠ (TX2 b).2.1 := by decide +kernel
theorem tyX2_ok : ∀ k, k < 10 → parseFieldDescriptor (TX2 k).2.2.1 = some (tyX2 k) := by decide +kernel
abbrev cX2_init : ByteArray := prog_4_method_1_code
def yX2_init : MethodName := ⟨RX2, "<init>", "(LJoinedRuns$Pad;)V"⟩
abbrev cX2_column : ByteArray := prog_4_method_2_code
def yX2_column : MethodName := ⟨RX2, "column", "()I"⟩
abbrev cX2_kind : ByteArray := prog_4_method_3_code
def yX2_kind : MethodName := ⟨RX2, "kind", "()C"⟩
abbrev cX2_row : ByteArray := prog_4_method_4_code
def yX2_row : MethodName := ⟨RX2, "row", "()I"⟩
abbrev cX2_operand : ByteArray := prog_4_method_5_code
def yX2_operand : MethodName := ⟨RX2, "operand", "()I"⟩
abbrev cX2_runs : ByteArray := prog_4_method_6_code
def yX2_runs : MethodName := ⟨RX2, "runs", "()I"⟩
abbrev cX2_valueOfRun : ByteArray := prog_4_method_7_code
def yX2_valueOfRun : MethodName := ⟨RX2, "valueOfRun", "(I)I"⟩
abbrev cX2_lengthOfRun : ByteArray := prog_4_method_8_code
def yX2_lengthOfRun : MethodName := ⟨RX2, "lengthOfRun", "(I)I"⟩
abbrev cX2_start : ByteArray := prog_4_method_9_code
def yX2_start : MethodName := ⟨RX2, "start", "()V"⟩
abbrev cX2_firstFault : ByteArray := prog_4_method_10_code
def yX2_firstFault : MethodName := ⟨RX2, "firstFault", "()I"⟩
abbrev cX2_readOrder : ByteArray := prog_4_method_11_code
def yX2_readOrder : MethodName := ⟨RX2, "readOrder", "()Z"⟩
abbrev cX2_passes : ByteArray := prog_4_method_12_code
def yX2_passes : MethodName := ⟨RX2, "passes", "(C)Z"⟩
abbrev cX2_readRow : ByteArray := prog_4_method_13_code
def yX2_readRow : MethodName := ⟨RX2, "readRow", "()Z"⟩
abbrev cX2_keepOperand : ByteArray := prog_4_method_14_code
def yX2_keepOperand : MethodName := ⟨RX2, "keepOperand", "()Z"⟩
abbrev cX2_readRuns : ByteArray := prog_4_method_15_code
def yX2_readRuns : MethodName := ⟨RX2, "readRuns", "()Z"⟩
abbrev cX2_readNumber : ByteArray := prog_4_method_16_code
def yX2_readNumber : MethodName := ⟨RX2, "readNumber", "()Z"⟩
abbrev cX2_readDigit : ByteArray := prog_4_method_17_code
def yX2_readDigit : MethodName := ⟨RX2, "readDigit", "(I)Z"⟩
def RX3 : String := "JoinedRuns$Pad"
def TX3 : u_T := fun k => match k with
  | 0 => ("JoinedRuns$Pad", "signs", "[C", true)
  | _ => ("JoinedRuns$Pad", "length", "I", false)
def tyX3 : Nat → FieldType := fun k => match k with
  | 0 => .array .char
  | _ => .int
theorem nmX3 : ∀ a, a < 2 → ∀ b, b < 2 → a ≠ b → (TX3 a).2.1 ≠ (TX3 b).2.1 := by decide +kernel
theorem tyX3_ok : ∀ k, k < 2 → parseFieldDescriptor (TX3 k).2.2.1 = some (tyX3 k) := by decide +kernel
abbrev cX3_init : ByteArray := prog_5_method_1_code
def yX3_init : MethodName := ⟨RX3, "<init>", "()V"⟩
abbrev cX3_length : ByteArray := prog_5_method_2_code
def yX3_length : MethodName := ⟨RX3, "length", "()I"⟩
abbrev cX3_signAt : ByteArray := prog_5_method_3_code
def yX3_signAt : MethodName := ⟨RX3, "signAt", "(I)C"⟩
abbrev cX3_add : ByteArray := prog_5_method_4_code
def yX3_add : MethodName := ⟨RX3, "add", "(C)V"⟩
abbrev cX3_clear : ByteArray := prog_5_method_5_code
def yX3_clear : MethodName := ⟨RX3, "clear", "()V"⟩
def RX4 : String := "JoinedRuns$PairWalk"
def TX4 : u_T := fun k => match k with
  | 0 => ("JoinedRuns$PairWalk", "one", "LJoinedRuns$Column;", true)
  | 1 => ("JoinedRuns$PairWalk", "other", "LJoinedRuns$Column;", true)
  | 2 => ("JoinedRuns$PairWalk", "runOfOne", "I", false)
  | 3 => ("JoinedRuns$PairWalk", "runOfOther", "I", false)
  | 4 => ("JoinedRuns$PairWalk", "passedOfOne", "I", false)
  | 5 => ("JoinedRuns$PairWalk", "passedOfOther", "I", false)
  | 6 => ("JoinedRuns$PairWalk", "valueOfOne", "I", false)
  | 7 => ("JoinedRuns$PairWalk", "valueOfOther", "I", false)
  | 8 => ("JoinedRuns$PairWalk", "firstRow", "I", false)
  | _ => ("JoinedRuns$PairWalk", "length", "I", false)
def tyX4 : Nat → FieldType := fun k => match k with
  | 0 => .object "JoinedRuns$Column"
  | 1 => .object "JoinedRuns$Column"
  | 2 => .int
  | 3 => .int
  | 4 => .int
  | 5 => .int
  | 6 => .int
  | 7 => .int
  | 8 => .int
  | _ => .int
theorem nmX4 : ∀ a, a < 10 → ∀ b, b < 10 → a ≠ b → (TX4 a).2.1 ≠ (TX4 b).2.1 := by decide +kernel
theorem tyX4_ok : ∀ k, k < 10 → parseFieldDescriptor (TX4 k).2.2.1 = some (tyX4 k) := by decide +kernel
abbrev cX4_init : ByteArray := prog_6_method_1_code
def yX4_init : MethodName := ⟨RX4, "<init>", "(LJoinedRuns$Column;LJoinedRuns$Column;)V"⟩
abbrev cX4_valueOfOne : ByteArray := prog_6_method_2_code
def yX4_valueOfOne : MethodName := ⟨RX4, "valueOfOne", "()I"⟩
abbrev cX4_valueOfOther : ByteArray := prog_6_method_3_code
def yX4_valueOfOther : MethodName := ⟨RX4, "valueOfOther", "()I"⟩
abbrev cX4_length : ByteArray := prog_6_method_4_code
def yX4_length : MethodName := ⟨RX4, "length", "()I"⟩
abbrev cX4_firstRow : ByteArray := prog_6_method_5_code
def yX4_firstRow : MethodName := ⟨RX4, "firstRow", "()I"⟩
abbrev cX4_isAlike : ByteArray := prog_6_method_6_code
def yX4_isAlike : MethodName := ⟨RX4, "isAlike", "()Z"⟩
abbrev cX4_advance : ByteArray := prog_6_method_7_code
def yX4_advance : MethodName := ⟨RX4, "advance", "()Z"⟩
def RX5 : String := "JoinedRuns$State"
def TX5 : u_T := fun k => match k with
  | _ => ("JoinedRuns$State", "columns", "[LJoinedRuns$Column;", true)
def tyX5 : Nat → FieldType := fun k => match k with
  | _ => .array (.object "JoinedRuns$Column")
theorem nmX5 : ∀ a, a < 1 → ∀ b, b < 1 → a ≠ b → (TX5 a).2.1 ≠ (TX5 b).2.1 := by decide +kernel
theorem tyX5_ok : ∀ k, k < 1 → parseFieldDescriptor (TX5 k).2.2.1 = some (tyX5 k) := by decide +kernel
abbrev cX5_init : ByteArray := prog_7_method_1_code
def yX5_init : MethodName := ⟨RX5, "<init>", "()V"⟩
abbrev cX5_column : ByteArray := prog_7_method_2_code
def yX5_column : MethodName := ⟨RX5, "column", "(I)LJoinedRuns$Column;"⟩
abbrev cX5_allRows : ByteArray := prog_7_method_3_code
def yX5_allRows : MethodName := ⟨RX5, "allRows", "()I"⟩
abbrev cX5_allRuns : ByteArray := prog_7_method_4_code
def yX5_allRuns : MethodName := ⟨RX5, "allRuns", "()I"⟩
abbrev cX5_copyFrom : ByteArray := prog_7_method_5_code
def yX5_copyFrom : MethodName := ⟨RX5, "copyFrom", "(LJoinedRuns$State;)V"⟩
def RX6 : String := "JoinedRuns"
def TX6 : u_T := fun k => match k with
  | 0 => ("JoinedRuns", "now", "LJoinedRuns$State;", true)
  | 1 => ("JoinedRuns", "history", "LJoinedRuns$History;", true)
  | 2 => ("JoinedRuns", "slots", "[LJoinedRuns$State;", true)
  | 3 => ("JoinedRuns", "saved", "[Z", true)
  | 4 => ("JoinedRuns", "draft", "LJoinedRuns$Column;", true)
  | 5 => ("JoinedRuns", "pad", "LJoinedRuns$Pad;", true)
  | 6 => ("JoinedRuns", "reader", "LJoinedRuns$OrderReader;", true)
  | _ => ("JoinedRuns", "partners", "[I", true)
def tyX6 : Nat → FieldType := fun k => match k with
  | 0 => .object "JoinedRuns$State"
  | 1 => .object "JoinedRuns$History"
  | 2 => .array (.object "JoinedRuns$State")
  | 3 => .array .boolean
  | 4 => .object "JoinedRuns$Column"
  | 5 => .object "JoinedRuns$Pad"
  | 6 => .object "JoinedRuns$OrderReader"
  | _ => .array .int
theorem nmX6 : ∀ a, a < 8 → ∀ b, b < 8 → a ≠ b → (TX6 a).2.1 ≠ (TX6 b).2.1 := by decide +kernel
theorem tyX6_ok : ∀ k, k < 8 → parseFieldDescriptor (TX6 k).2.2.1 = some (tyX6 k) := by decide +kernel
abbrev cX6_init : ByteArray := prog_1_method_1_code
def yX6_init : MethodName := ⟨RX6, "<init>", "()V"⟩
abbrev cX6_append : ByteArray := prog_1_method_2_code
def yX6_append : MethodName := ⟨RX6, "append", "(III)I"⟩
abbrev cX6_insert : ByteArray := prog_1_method_3_code
def yX6_insert : MethodName := ⟨RX6, "insert", "(IIII)I"⟩
abbrev cX6_remove : ByteArray := prog_1_method_4_code
def yX6_remove : MethodName := ⟨RX6, "remove", "(III)I"⟩
abbrev cX6_set : ByteArray := prog_1_method_5_code
def yX6_set : MethodName := ⟨RX6, "set", "(III)I"⟩
abbrev cX6_sort : ByteArray := prog_1_method_6_code
def yX6_sort : MethodName := ⟨RX6, "sort", "(I)I"⟩
abbrev cX6_turn : ByteArray := prog_1_method_7_code
def yX6_turn : MethodName := ⟨RX6, "turn", "(II)I"⟩
abbrev cX6_merge : ByteArray := prog_1_method_8_code
def yX6_merge : MethodName := ⟨RX6, "merge", "(IIII)I"⟩
abbrev cX6_run : ByteArray := prog_1_method_9_code
def yX6_run : MethodName := ⟨RX6, "run", "(III)I"⟩
abbrev cX6_value : ByteArray := prog_1_method_10_code
def yX6_value : MethodName := ⟨RX6, "value", "(II)I"⟩
abbrev cX6_find : ByteArray := prog_1_method_11_code
def yX6_find : MethodName := ⟨RX6, "find", "(III)I"⟩
abbrev cX6_ofColumn : ByteArray := prog_1_method_12_code
def yX6_ofColumn : MethodName := ⟨RX6, "ofColumn", "(II)I"⟩
abbrev cX6_group : ByteArray := prog_1_method_13_code
def yX6_group : MethodName := ⟨RX6, "group", "(III)I"⟩
abbrev cX6_count : ByteArray := prog_1_method_14_code
def yX6_count : MethodName := ⟨RX6, "count", "(I)I"⟩
abbrev cX6_pair : ByteArray := prog_1_method_15_code
def yX6_pair : MethodName := ⟨RX6, "pair", "(IIII)I"⟩
abbrev cX6_joined : ByteArray := prog_1_method_16_code
def yX6_joined : MethodName := ⟨RX6, "joined", "(III)I"⟩
abbrev cX6_alike : ByteArray := prog_1_method_17_code
def yX6_alike : MethodName := ⟨RX6, "alike", "(II)I"⟩
abbrev cX6_saves : ByteArray := prog_1_method_18_code
def yX6_saves : MethodName := ⟨RX6, "saves", "(I)I"⟩
abbrev cX6_bestSet : ByteArray := prog_1_method_19_code
def yX6_bestSet : MethodName := ⟨RX6, "bestSet", "(III)I"⟩
abbrev cX6_put : ByteArray := prog_1_method_20_code
def yX6_put : MethodName := ⟨RX6, "put", "(J)I"⟩
abbrev cX6_wipe : ByteArray := prog_1_method_21_code
def yX6_wipe : MethodName := ⟨RX6, "wipe", "()I"⟩
abbrev cX6_fault : ByteArray := prog_1_method_22_code
def yX6_fault : MethodName := ⟨RX6, "fault", "()I"⟩
abbrev cX6_carryOut : ByteArray := prog_1_method_23_code
def yX6_carryOut : MethodName := ⟨RX6, "carryOut", "()I"⟩
abbrev cX6_undo : ByteArray := prog_1_method_24_code
def yX6_undo : MethodName := ⟨RX6, "undo", "()I"⟩
abbrev cX6_save : ByteArray := prog_1_method_25_code
def yX6_save : MethodName := ⟨RX6, "save", "(I)I"⟩
abbrev cX6_restore : ByteArray := prog_1_method_26_code
def yX6_restore : MethodName := ⟨RX6, "restore", "(I)I"⟩
abbrev cX6_isColumn : ByteArray := prog_1_method_27_code
def yX6_isColumn : MethodName := ⟨RX6, "isColumn", "(I)Z"⟩
abbrev cX6_isValue : ByteArray := prog_1_method_28_code
def yX6_isValue : MethodName := ⟨RX6, "isValue", "(I)Z"⟩
abbrev cX6_isLength : ByteArray := prog_1_method_29_code
def yX6_isLength : MethodName := ⟨RX6, "isLength", "(I)Z"⟩
abbrev cX6_isSlot : ByteArray := prog_1_method_30_code
def yX6_isSlot : MethodName := ⟨RX6, "isSlot", "(I)Z"⟩
abbrev cX6_isRow : ByteArray := prog_1_method_31_code
def yX6_isRow : MethodName := ⟨RX6, "isRow", "(II)Z"⟩
abbrev cX6_draftAppend : ByteArray := prog_1_method_32_code
def yX6_draftAppend : MethodName := ⟨RX6, "draftAppend", "(III)I"⟩
abbrev cX6_draftInsert : ByteArray := prog_1_method_33_code
def yX6_draftInsert : MethodName := ⟨RX6, "draftInsert", "(IIII)I"⟩
abbrev cX6_draftRemove : ByteArray := prog_1_method_34_code
def yX6_draftRemove : MethodName := ⟨RX6, "draftRemove", "(III)I"⟩
abbrev cX6_draftSet : ByteArray := prog_1_method_35_code
def yX6_draftSet : MethodName := ⟨RX6, "draftSet", "(III)I"⟩
abbrev cX6_draftSort : ByteArray := prog_1_method_36_code
def yX6_draftSort : MethodName := ⟨RX6, "draftSort", "(I)I"⟩
abbrev cX6_draftMerge : ByteArray := prog_1_method_37_code
def yX6_draftMerge : MethodName := ⟨RX6, "draftMerge", "(IIII)I"⟩
abbrev cX6_draftOrder : ByteArray := prog_1_method_38_code
def yX6_draftOrder : MethodName := ⟨RX6, "draftOrder", "()I"⟩
abbrev cX6_draftRunsOfOrder : ByteArray := prog_1_method_39_code
def yX6_draftRunsOfOrder : MethodName := ⟨RX6, "draftRunsOfOrder", "()I"⟩
abbrev cX6_errorOfDraft : ByteArray := prog_1_method_40_code
def yX6_errorOfDraft : MethodName := ⟨RX6, "errorOfDraft", "()I"⟩
abbrev cX6_recordAndTakeDraft : ByteArray := prog_1_method_41_code
def yX6_recordAndTakeDraft : MethodName := ⟨RX6, "recordAndTakeDraft", "(I)V"⟩
abbrev cX6_obeyOrders : ByteArray := prog_1_method_42_code
def yX6_obeyOrders : MethodName := ⟨RX6, "obeyOrders", "()I"⟩
abbrev cX6_walkOver : ByteArray := prog_1_method_43_code
def yX6_walkOver : MethodName := ⟨RX6, "walkOver", "(II)LJoinedRuns$PairWalk;"⟩
abbrev cX6_runsOfPairs : ByteArray := prog_1_method_44_code
def yX6_runsOfPairs : MethodName := ⟨RX6, "runsOfPairs", "(LJoinedRuns$PairWalk;)I"⟩
abbrev cX6_rowsAlike : ByteArray := prog_1_method_45_code
def yX6_rowsAlike : MethodName := ⟨RX6, "rowsAlike", "(LJoinedRuns$PairWalk;)I"⟩
abbrev cX6_sumOfProducts : ByteArray := prog_1_method_46_code
def yX6_sumOfProducts : MethodName := ⟨RX6, "sumOfProducts", "(LJoinedRuns$PairWalk;)I"⟩
abbrev cX6_unlikePairs : ByteArray := prog_1_method_47_code
def yX6_unlikePairs : MethodName := ⟨RX6, "unlikePairs", "(LJoinedRuns$PairWalk;)I"⟩
abbrev cX6_charactersIn : ByteArray := prog_1_method_48_code
def yX6_charactersIn : MethodName := ⟨RX6, "charactersIn", "(J)I"⟩
def RX7 : String := "JoinedRunsModel"
def TX7 : u_T := fun k => match k with
  | 0 => ("JoinedRunsModel", "state", "[I", true)
  | 1 => ("JoinedRunsModel", "history", "[I", true)
  | 2 => ("JoinedRunsModel", "recorded", "I", false)
  | 3 => ("JoinedRunsModel", "slots", "[I", true)
  | 4 => ("JoinedRunsModel", "isSaved", "[I", true)
  | 5 => ("JoinedRunsModel", "pad", "[I", true)
  | 6 => ("JoinedRunsModel", "padLength", "I", false)
  | 7 => ("JoinedRunsModel", "rows", "[I", true)
  | 8 => ("JoinedRunsModel", "many", "I", false)
  | 9 => ("JoinedRunsModel", "others", "[I", true)
  | 10 => ("JoinedRunsModel", "othersMany", "I", false)
  | 11 => ("JoinedRunsModel", "isThere", "[I", true)
  | 12 => ("JoinedRunsModel", "at", "I", false)
  | 13 => ("JoinedRunsModel", "column", "I", false)
  | 14 => ("JoinedRunsModel", "letter", "I", false)
  | 15 => ("JoinedRunsModel", "first", "I", false)
  | 16 => ("JoinedRunsModel", "second", "I", false)
  | 17 => ("JoinedRunsModel", "toldValues", "[I", true)
  | 18 => ("JoinedRunsModel", "toldLengths", "[I", true)
  | _ => ("JoinedRunsModel", "toldMany", "I", false)
def tyX7 : Nat → FieldType := fun k => match k with
  | 0 => .array .int
  | 1 => .array .int
  | 2 => .int
  | 3 => .array .int
  | 4 => .array .int
  | 5 => .array .int
  | 6 => .int
  | 7 => .array .int
  | 8 => .int
  | 9 => .array .int
  | 10 => .int
  | 11 => .array .int
  | 12 => .int
  | 13 => .int
  | 14 => .int
  | 15 => .int
  | 16 => .int
  | 17 => .array .int
  | 18 => .array .int
  | _ => .int
theorem nmX7 : ∀ a, a < 20 → ∀ b, b < 20 → a ≠ b → (TX7 a).2.1 ≠ (TX7 b).2.1 := by decide +kernel
theorem tyX7_ok : ∀ k, k < 20 → parseFieldDescriptor (TX7 k).2.2.1 = some (tyX7 k) := by decide +kernel
abbrev cX7_init : ByteArray := prog_9_method_1_code
def yX7_init : MethodName := ⟨RX7, "<init>", "()V"⟩
abbrev cX7_moves : ByteArray := prog_9_method_3_code
def yX7_moves : MethodName := ⟨RX7, "moves", "([II[II)V"⟩
abbrev cX7_within : ByteArray := prog_9_method_4_code
def yX7_within : MethodName := ⟨RX7, "within", "(III)Z"⟩
abbrev cX7_record : ByteArray := prog_9_method_5_code
def yX7_record : MethodName := ⟨RX7, "record", "()V"⟩
abbrev cX7_isColumn : ByteArray := prog_9_method_6_code
def yX7_isColumn : MethodName := ⟨RX7, "isColumn", "(I)Z"⟩
abbrev cX7_isValue : ByteArray := prog_9_method_7_code
def yX7_isValue : MethodName := ⟨RX7, "isValue", "(I)Z"⟩
abbrev cX7_runsOf : ByteArray := prog_9_method_8_code
def yX7_runsOf : MethodName := ⟨RX7, "runsOf", "(I)I"⟩
abbrev cX7_valueOf : ByteArray := prog_9_method_9_code
def yX7_valueOf : MethodName := ⟨RX7, "valueOf", "(II)I"⟩
abbrev cX7_lengthOf : ByteArray := prog_9_method_10_code
def yX7_lengthOf : MethodName := ⟨RX7, "lengthOf", "(II)I"⟩
abbrev cX7_rowsOf : ByteArray := prog_9_method_11_code
def yX7_rowsOf : MethodName := ⟨RX7, "rowsOf", "(I)I"⟩
abbrev cX7_isRow : ByteArray := prog_9_method_12_code
def yX7_isRow : MethodName := ⟨RX7, "isRow", "(II)Z"⟩
abbrev cX7_layOut : ByteArray := prog_9_method_13_code
def yX7_layOut : MethodName := ⟨RX7, "layOut", "(I)V"⟩
abbrev cX7_layOutOther : ByteArray := prog_9_method_14_code
def yX7_layOutOther : MethodName := ⟨RX7, "layOutOther", "(I)V"⟩
abbrev cX7_runsLaid : ByteArray := prog_9_method_15_code
def yX7_runsLaid : MethodName := ⟨RX7, "runsLaid", "()I"⟩
abbrev cX7_isTooMany : ByteArray := prog_9_method_16_code
def yX7_isTooMany : MethodName := ⟨RX7, "isTooMany", "()Z"⟩
abbrev cX7_gets : ByteArray := prog_9_method_17_code
def yX7_gets : MethodName := ⟨RX7, "gets", "(I)V"⟩
abbrev cX7_putIn : ByteArray := prog_9_method_18_code
def yX7_putIn : MethodName := ⟨RX7, "putIn", "(III)V"⟩
abbrev cX7_append : ByteArray := prog_9_method_19_code
def yX7_append : MethodName := ⟨RX7, "append", "(III)I"⟩
abbrev cX7_insert : ByteArray := prog_9_method_20_code
def yX7_insert : MethodName := ⟨RX7, "insert", "(IIII)I"⟩
abbrev cX7_whyNotRemoved : ByteArray := prog_9_method_21_code
def yX7_whyNotRemoved : MethodName := ⟨RX7, "whyNotRemoved", "(III)I"⟩
abbrev cX7_removes : ByteArray := prog_9_method_22_code
def yX7_removes : MethodName := ⟨RX7, "removes", "(III)I"⟩
abbrev cX7_remove : ByteArray := prog_9_method_23_code
def yX7_remove : MethodName := ⟨RX7, "remove", "(III)I"⟩
abbrev cX7_whyNotSet : ByteArray := prog_9_method_24_code
def yX7_whyNotSet : MethodName := ⟨RX7, "whyNotSet", "(III)I"⟩
abbrev cX7_set : ByteArray := prog_9_method_25_code
def yX7_set : MethodName := ⟨RX7, "set", "(III)I"⟩
abbrev cX7_sorts : ByteArray := prog_9_method_26_code
def yX7_sorts : MethodName := ⟨RX7, "sorts", "(I)I"⟩
abbrev cX7_sort : ByteArray := prog_9_method_27_code
def yX7_sort : MethodName := ⟨RX7, "sort", "(I)I"⟩
abbrev cX7_turn : ByteArray := prog_9_method_28_code
def yX7_turn : MethodName := ⟨RX7, "turn", "(II)I"⟩
abbrev cX7_layOutBoth : ByteArray := prog_9_method_29_code
def yX7_layOutBoth : MethodName := ⟨RX7, "layOutBoth", "(II)I"⟩
abbrev cX7_merge : ByteArray := prog_9_method_30_code
def yX7_merge : MethodName := ⟨RX7, "merge", "(IIII)I"⟩
abbrev cX7_firstRow : ByteArray := prog_9_method_31_code
def yX7_firstRow : MethodName := ⟨RX7, "firstRow", "(II)I"⟩
abbrev cX7_run : ByteArray := prog_9_method_32_code
def yX7_run : MethodName := ⟨RX7, "run", "(III)I"⟩
abbrev cX7_valueAt : ByteArray := prog_9_method_33_code
def yX7_valueAt : MethodName := ⟨RX7, "valueAt", "(II)I"⟩
abbrev cX7_value : ByteArray := prog_9_method_34_code
def yX7_value : MethodName := ⟨RX7, "value", "(II)I"⟩
abbrev cX7_find : ByteArray := prog_9_method_35_code
def yX7_find : MethodName := ⟨RX7, "find", "(III)I"⟩
abbrev cX7_sumOf : ByteArray := prog_9_method_36_code
def yX7_sumOf : MethodName := ⟨RX7, "sumOf", "(I)I"⟩
abbrev cX7_valuesOf : ByteArray := prog_9_method_37_code
def yX7_valuesOf : MethodName := ⟨RX7, "valuesOf", "(I)I"⟩
abbrev cX7_bits : ByteArray := prog_9_method_38_code
def yX7_bits : MethodName := ⟨RX7, "bits", "(I)I"⟩
abbrev cX7_isInOrder : ByteArray := prog_9_method_39_code
def yX7_isInOrder : MethodName := ⟨RX7, "isInOrder", "(IZ)Z"⟩
abbrev cX7_longest : ByteArray := prog_9_method_40_code
def yX7_longest : MethodName := ⟨RX7, "longest", "(II)I"⟩
abbrev cX7_ofColumn : ByteArray := prog_9_method_41_code
def yX7_ofColumn : MethodName := ⟨RX7, "ofColumn", "(II)I"⟩
abbrev cX7_ofValue : ByteArray := prog_9_method_42_code
def yX7_ofValue : MethodName := ⟨RX7, "ofValue", "(IIZ)I"⟩
abbrev cX7_group : ByteArray := prog_9_method_43_code
def yX7_group : MethodName := ⟨RX7, "group", "(III)I"⟩
abbrev cX7_allRuns : ByteArray := prog_9_method_44_code
def yX7_allRuns : MethodName := ⟨RX7, "allRuns", "()I"⟩
abbrev cX7_allRows : ByteArray := prog_9_method_45_code
def yX7_allRows : MethodName := ⟨RX7, "allRows", "()I"⟩
abbrev cX7_count : ByteArray := prog_9_method_46_code
def yX7_count : MethodName := ⟨RX7, "count", "(I)I"⟩
abbrev cX7_isFirstPair : ByteArray := prog_9_method_47_code
def yX7_isFirstPair : MethodName := ⟨RX7, "isFirstPair", "(I)Z"⟩
abbrev cX7_pair : ByteArray := prog_9_method_48_code
def yX7_pair : MethodName := ⟨RX7, "pair", "(IIII)I"⟩
abbrev cX7_ofPairs : ByteArray := prog_9_method_49_code
def yX7_ofPairs : MethodName := ⟨RX7, "ofPairs", "(II)I"⟩
abbrev cX7_joined : ByteArray := prog_9_method_50_code
def yX7_joined : MethodName := ⟨RX7, "joined", "(III)I"⟩
abbrev cX7_alike : ByteArray := prog_9_method_51_code
def yX7_alike : MethodName := ⟨RX7, "alike", "(II)I"⟩
abbrev cX7_saves : ByteArray := prog_9_method_52_code
def yX7_saves : MethodName := ⟨RX7, "saves", "(I)I"⟩
abbrev cX7_beginnings : ByteArray := prog_9_method_53_code
def yX7_beginnings : MethodName := ⟨RX7, "beginnings", "(I)I"⟩
abbrev cX7_bestSet : ByteArray := prog_9_method_54_code
def yX7_bestSet : MethodName := ⟨RX7, "bestSet", "(III)I"⟩
abbrev cX7_put : ByteArray := prog_9_method_55_code
def yX7_put : MethodName := ⟨RX7, "put", "(J)I"⟩
abbrev cX7_wipe : ByteArray := prog_9_method_56_code
def yX7_wipe : MethodName := ⟨RX7, "wipe", "()I"⟩
abbrev cX7_character : ByteArray := prog_9_method_57_code
def yX7_character : MethodName := ⟨RX7, "character", "(I)I"⟩
abbrev cX7_isNext : ByteArray := prog_9_method_58_code
def yX7_isNext : MethodName := ⟨RX7, "isNext", "(I)Z"⟩
abbrev cX7_takeDigit : ByteArray := prog_9_method_59_code
def yX7_takeDigit : MethodName := ⟨RX7, "takeDigit", "(I)I"⟩
abbrev cX7_takeNumber : ByteArray := prog_9_method_60_code
def yX7_takeNumber : MethodName := ⟨RX7, "takeNumber", "()I"⟩
abbrev cX7_readsRuns : ByteArray := prog_9_method_61_code
def yX7_readsRuns : MethodName := ⟨RX7, "readsRuns", "()Z"⟩
abbrev cX7_readsRest : ByteArray := prog_9_method_62_code
def yX7_readsRest : MethodName := ⟨RX7, "readsRest", "()Z"⟩
abbrev cX7_readsOrder : ByteArray := prog_9_method_63_code
def yX7_readsOrder : MethodName := ⟨RX7, "readsOrder", "()Z"⟩
abbrev cX7_findFault : ByteArray := prog_9_method_64_code
def yX7_findFault : MethodName := ⟨RX7, "findFault", "()I"⟩
abbrev cX7_fault : ByteArray := prog_9_method_65_code
def yX7_fault : MethodName := ⟨RX7, "fault", "()I"⟩
abbrev cX7_layOutTold : ByteArray := prog_9_method_66_code
def yX7_layOutTold : MethodName := ⟨RX7, "layOutTold", "()I"⟩
abbrev cX7_doesOrder : ByteArray := prog_9_method_67_code
def yX7_doesOrder : MethodName := ⟨RX7, "doesOrder", "()Z"⟩
abbrev cX7_carryOut : ByteArray := prog_9_method_68_code
def yX7_carryOut : MethodName := ⟨RX7, "carryOut", "()I"⟩
abbrev cX7_undo : ByteArray := prog_9_method_69_code
def yX7_undo : MethodName := ⟨RX7, "undo", "()I"⟩
abbrev cX7_save : ByteArray := prog_9_method_70_code
def yX7_save : MethodName := ⟨RX7, "save", "(I)I"⟩
abbrev cX7_restore : ByteArray := prog_9_method_71_code
def yX7_restore : MethodName := ⟨RX7, "restore", "(I)I"⟩
def RJ6 : String := "java/lang/Integer"
def TJ6 : u_T := fun k => match k with
  | _ => ("", "", "", false)
def tyJ6 : Nat → FieldType := fun k => match k with
  | _ => .int
abbrev cJ6_bitCount_0f7a4 : ByteArray := prog_10_method_49_code
def yJ6_bitCount_0f7a4 : MethodName := ⟨RJ6, "bitCount", "(I)I"⟩
def RJ9 : String := "java/lang/Math"
def TJ9 : u_T := fun k => match k with
  | _ => ("", "", "", false)
def tyJ9 : Nat → FieldType := fun k => match k with
  | _ => .int
abbrev cJ9_max_7cf53 : ByteArray := prog_11_method_65_code
def yJ9_max_7cf53 : MethodName := ⟨RJ9, "max", "(II)I"⟩
abbrev cJ9_min_7cf53 : ByteArray := prog_11_method_69_code
def yJ9_min_7cf53 : MethodName := ⟨RJ9, "min", "(II)I"⟩
def RJ10 : String := "java/lang/System"
def TJ10 : u_T := fun k => match k with
  | _ => ("", "", "", false)
def tyJ10 : Nat → FieldType := fun k => match k with
  | _ => .int
def RJ7 : String := "java/util/Arrays"
def TJ7 : u_T := fun k => match k with
  | _ => ("", "", "", false)
def tyJ7 : Nat → FieldType := fun k => match k with
  | _ => .int
abbrev cJ7_fill_53178 : ByteArray := prog_13_method_103_code
def yJ7_fill_53178 : MethodName := ⟨RJ7, "fill", "([II)V"⟩
def RL : String := "JoinedRunsLaw"
abbrev cL_law : ByteArray := code
def yL_law : MethodName := ⟨RL, "law", "([I)Z"⟩
abbrev vwCl : List vw_C := [(RX0, TX0, 5), (RX1, TX1, 3), (RX2, TX2, 10), (RX3, TX3, 2), (RX4, TX4, 10), (RX5, TX5, 1), (RX6, TX6, 8), (RX7, TX7, 20)]
end
section
theorem dX0_init_0 : decode cX0_init 0 = .ok (.aload_n 0, 1) := by decide +kernel
theorem dX0_init_1 : decode cX0_init 1 = .ok (.invokespecial 3, 3) := by decide +kernel
theorem dX0_init_4 : decode cX0_init 4 = .ok (.aload_n 0, 1) := by decide +kernel
theorem dX0_init_5 : decode cX0_init 5 = .ok (.bipush 40, 2) := by decide +kernel
theorem dX0_init_7 : decode cX0_init 7 = .ok (.newarray .int, 2) := by decide +kernel
theorem dX0_init_9 : decode cX0_init 9 = .ok (.putfield 9, 3) := by decide +kernel
theorem dX0_init_12 : decode cX0_init 12 = .ok (.aload_n 0, 1) := by decide +kernel
theorem dX0_init_13 : decode cX0_init 13 = .ok (.bipush 40, 2) := by decide +kernel
theorem dX0_init_15 : decode cX0_init 15 = .ok (.newarray .int, 2) := by decide +kernel
theorem dX0_init_17 : decode cX0_init 17 = .ok (.putfield 15, 3) := by decide +kernel
theorem dX0_init_20 : decode cX0_init 20 = .ok (.return_, 1) := by decide +kernel
theorem dX0_runs_0 : decode cX0_runs 0 = .ok (.aload_n 0, 1) := by decide +kernel
theorem dX0_runs_1 : decode cX0_runs 1 = .ok (.getfield 18, 3) := by decide +kernel
theorem dX0_runs_4 : decode cX0_runs 4 = .ok (.ireturn, 1) := by decide +kernel
theorem dX0_rows_0 : decode cX0_rows 0 = .ok (.aload_n 0, 1) := by decide +kernel
theorem dX0_rows_1 : decode cX0_rows 1 = .ok (.getfield 22, 3) := by decide +kernel
theorem dX0_rows_4 : decode cX0_rows 4 = .ok (.ireturn, 1) := by decide +kernel
theorem dX0_isOverfull_0 : decode cX0_isOverfull 0 = .ok (.aload_n 0, 1) := by decide +kernel
theorem dX0_isOverfull_1 : decode cX0_isOverfull 1 = .ok (.getfield 25, 3) := by decide +kernel
theorem dX0_isOverfull_4 : decode cX0_isOverfull 4 = .ok (.ireturn, 1) := by decide +kernel
theorem dX0_valueOfRun_0 : decode cX0_valueOfRun 0 = .ok (.iload_n 1, 1) := by decide +kernel
theorem dX0_valueOfRun_1 : decode cX0_valueOfRun 1 = .ok (.ifCond .lt 20, 3) := by decide +kernel
theorem dX0_valueOfRun_4 : decode cX0_valueOfRun 4 = .ok (.iload_n 1, 1) := by decide +kernel
theorem dX0_valueOfRun_5 : decode cX0_valueOfRun 5 = .ok (.aload_n 0, 1) := by decide +kernel
theorem dX0_valueOfRun_6 : decode cX0_valueOfRun 6 = .ok (.getfield 18, 3) := by decide +kernel
theorem dX0_valueOfRun_9 : decode cX0_valueOfRun 9 = .ok (.if_icmp .ge 12, 3) := by decide +kernel
theorem dX0_valueOfRun_12 : decode cX0_valueOfRun 12 = .ok (.aload_n 0, 1) := by decide +kernel
theorem dX0_valueOfRun_13 : decode cX0_valueOfRun 13 = .ok (.getfield 9, 3) := by decide +kernel
theorem dX0_valueOfRun_16 : decode cX0_valueOfRun 16 = .ok (.iload_n 1, 1) := by decide +kernel
theorem dX0_valueOfRun_17 : decode cX0_valueOfRun 17 = .ok (.iaload, 1) := by decide +kernel
theorem dX0_valueOfRun_18 : decode cX0_valueOfRun 18 = .ok (.goto 5, 3) := by decide +kernel
theorem dX0_valueOfRun_21 : decode cX0_valueOfRun 21 = .ok (.bipush (-6), 2) := by decide +kernel
theorem dX0_valueOfRun_23 : decode cX0_valueOfRun 23 = .ok (.ireturn, 1) := by decide +kernel
theorem dX0_lengthOfRun_0 : decode cX0_lengthOfRun 0 = .ok (.iload_n 1, 1) := by decide +kernel
theorem dX0_lengthOfRun_1 : decode cX0_lengthOfRun 1 = .ok (.ifCond .lt 20, 3) := by decide +kernel
theorem dX0_lengthOfRun_4 : decode cX0_lengthOfRun 4 = .ok (.iload_n 1, 1) := by decide +kernel
theorem dX0_lengthOfRun_5 : decode cX0_lengthOfRun 5 = .ok (.aload_n 0, 1) := by decide +kernel
theorem dX0_lengthOfRun_6 : decode cX0_lengthOfRun 6 = .ok (.getfield 18, 3) := by decide +kernel
theorem dX0_lengthOfRun_9 : decode cX0_lengthOfRun 9 = .ok (.if_icmp .ge 12, 3) := by decide +kernel
theorem dX0_lengthOfRun_12 : decode cX0_lengthOfRun 12 = .ok (.aload_n 0, 1) := by decide +kernel
theorem dX0_lengthOfRun_13 : decode cX0_lengthOfRun 13 = .ok (.getfield 15, 3) := by decide +kernel
theorem dX0_lengthOfRun_16 : decode cX0_lengthOfRun 16 = .ok (.iload_n 1, 1) := by decide +kernel
theorem dX0_lengthOfRun_17 : decode cX0_lengthOfRun 17 = .ok (.iaload, 1) := by decide +kernel
theorem dX0_lengthOfRun_18 : decode cX0_lengthOfRun 18 = .ok (.goto 4, 3) := by decide +kernel
theorem dX0_lengthOfRun_21 : decode cX0_lengthOfRun 21 = .ok (.iconst 0, 1) := by decide +kernel
theorem dX0_lengthOfRun_22 : decode cX0_lengthOfRun 22 = .ok (.ireturn, 1) := by decide +kernel
theorem dX0_firstRowOfRun_0 : decode cX0_firstRowOfRun 0 = .ok (.iconst 0, 1) := by decide +kernel
theorem dX0_firstRowOfRun_1 : decode cX0_firstRowOfRun 1 = .ok (.istore_n 2, 1) := by decide +kernel
theorem dX0_firstRowOfRun_2 : decode cX0_firstRowOfRun 2 = .ok (.iconst 0, 1) := by decide +kernel
theorem dX0_firstRowOfRun_3 : decode cX0_firstRowOfRun 3 = .ok (.istore_n 3, 1) := by decide +kernel
theorem dX0_firstRowOfRun_4 : decode cX0_firstRowOfRun 4 = .ok (.iload_n 3, 1) := by decide +kernel
theorem dX0_firstRowOfRun_5 : decode cX0_firstRowOfRun 5 = .ok (.iload_n 1, 1) := by decide +kernel
theorem dX0_firstRowOfRun_6 : decode cX0_firstRowOfRun 6 = .ok (.if_icmp .ge 26, 3) := by decide +kernel
theorem dX0_firstRowOfRun_9 : decode cX0_firstRowOfRun 9 = .ok (.iload_n 3, 1) := by decide +kernel
theorem dX0_firstRowOfRun_10 : decode cX0_firstRowOfRun 10 = .ok (.aload_n 0, 1) := by decide +kernel
theorem dX0_firstRowOfRun_11 : decode cX0_firstRowOfRun 11 = .ok (.getfield 18, 3) := by decide +kernel
theorem dX0_firstRowOfRun_14 : decode cX0_firstRowOfRun 14 = .ok (.if_icmp .ge 18, 3) := by decide +kernel
theorem dX0_firstRowOfRun_17 : decode cX0_firstRowOfRun 17 = .ok (.iload_n 2, 1) := by decide +kernel
theorem dX0_firstRowOfRun_18 : decode cX0_firstRowOfRun 18 = .ok (.aload_n 0, 1) := by decide +kernel
theorem dX0_firstRowOfRun_19 : decode cX0_firstRowOfRun 19 = .ok (.getfield 15, 3) := by decide +kernel
theorem dX0_firstRowOfRun_22 : decode cX0_firstRowOfRun 22 = .ok (.iload_n 3, 1) := by decide +kernel
theorem dX0_firstRowOfRun_23 : decode cX0_firstRowOfRun 23 = .ok (.iaload, 1) := by decide +kernel
theorem dX0_firstRowOfRun_24 : decode cX0_firstRowOfRun 24 = .ok (.iadd, 1) := by decide +kernel
theorem dX0_firstRowOfRun_25 : decode cX0_firstRowOfRun 25 = .ok (.istore_n 2, 1) := by decide +kernel
theorem dX0_firstRowOfRun_26 : decode cX0_firstRowOfRun 26 = .ok (.iinc 3 1, 3) := by decide +kernel
theorem dX0_firstRowOfRun_29 : decode cX0_firstRowOfRun 29 = .ok (.goto (-25), 3) := by decide +kernel
theorem dX0_firstRowOfRun_32 : decode cX0_firstRowOfRun 32 = .ok (.iload_n 2, 1) := by decide +kernel
theorem dX0_firstRowOfRun_33 : decode cX0_firstRowOfRun 33 = .ok (.ireturn, 1) := by decide +kernel
theorem dX0_runOfRow_0 : decode cX0_runOfRow 0 = .ok (.iconst 0, 1) := by decide +kernel
theorem dX0_runOfRow_1 : decode cX0_runOfRow 1 = .ok (.istore_n 2, 1) := by decide +kernel
theorem dX0_runOfRow_2 : decode cX0_runOfRow 2 = .ok (.iconst 0, 1) := by decide +kernel
theorem dX0_runOfRow_3 : decode cX0_runOfRow 3 = .ok (.istore_n 3, 1) := by decide +kernel
theorem dX0_runOfRow_4 : decode cX0_runOfRow 4 = .ok (.iload_n 3, 1) := by decide +kernel
theorem dX0_runOfRow_5 : decode cX0_runOfRow 5 = .ok (.aload_n 0, 1) := by decide +kernel
theorem dX0_runOfRow_6 : decode cX0_runOfRow 6 = .ok (.getfield 18, 3) := by decide +kernel
theorem dX0_runOfRow_9 : decode cX0_runOfRow 9 = .ok (.if_icmp .ge 25, 3) := by decide +kernel
theorem dX0_runOfRow_12 : decode cX0_runOfRow 12 = .ok (.iload_n 2, 1) := by decide +kernel
theorem dX0_runOfRow_13 : decode cX0_runOfRow 13 = .ok (.aload_n 0, 1) := by decide +kernel
theorem dX0_runOfRow_14 : decode cX0_runOfRow 14 = .ok (.getfield 15, 3) := by decide +kernel
theorem dX0_runOfRow_17 : decode cX0_runOfRow 17 = .ok (.iload_n 3, 1) := by decide +kernel
theorem dX0_runOfRow_18 : decode cX0_runOfRow 18 = .ok (.iaload, 1) := by decide +kernel
theorem dX0_runOfRow_19 : decode cX0_runOfRow 19 = .ok (.iadd, 1) := by decide +kernel
theorem dX0_runOfRow_20 : decode cX0_runOfRow 20 = .ok (.istore_n 2, 1) := by decide +kernel
theorem dX0_runOfRow_21 : decode cX0_runOfRow 21 = .ok (.iload_n 1, 1) := by decide +kernel
theorem dX0_runOfRow_22 : decode cX0_runOfRow 22 = .ok (.iload_n 2, 1) := by decide +kernel
theorem dX0_runOfRow_23 : decode cX0_runOfRow 23 = .ok (.if_icmp .ge 5, 3) := by decide +kernel
theorem dX0_runOfRow_26 : decode cX0_runOfRow 26 = .ok (.iload_n 3, 1) := by decide +kernel
theorem dX0_runOfRow_27 : decode cX0_runOfRow 27 = .ok (.ireturn, 1) := by decide +kernel
theorem dX0_runOfRow_28 : decode cX0_runOfRow 28 = .ok (.iinc 3 1, 3) := by decide +kernel
theorem dX0_runOfRow_31 : decode cX0_runOfRow 31 = .ok (.goto (-27), 3) := by decide +kernel
theorem dX0_runOfRow_34 : decode cX0_runOfRow 34 = .ok (.aload_n 0, 1) := by decide +kernel
theorem dX0_runOfRow_35 : decode cX0_runOfRow 35 = .ok (.getfield 18, 3) := by decide +kernel
theorem dX0_runOfRow_38 : decode cX0_runOfRow 38 = .ok (.ireturn, 1) := by decide +kernel
theorem dX0_valueOfRow_0 : decode cX0_valueOfRow 0 = .ok (.aload_n 0, 1) := by decide +kernel
theorem dX0_valueOfRow_1 : decode cX0_valueOfRow 1 = .ok (.aload_n 0, 1) := by decide +kernel
theorem dX0_valueOfRow_2 : decode cX0_valueOfRow 2 = .ok (.iload_n 1, 1) := by decide +kernel
theorem dX0_valueOfRow_3 : decode cX0_valueOfRow 3 = .ok (.invokevirtual 29, 3) := by decide +kernel
theorem dX0_valueOfRow_6 : decode cX0_valueOfRow 6 = .ok (.invokevirtual 33, 3) := by decide +kernel
theorem dX0_valueOfRow_9 : decode cX0_valueOfRow 9 = .ok (.ireturn, 1) := by decide +kernel
theorem dX0_rowOfRank_0 : decode cX0_rowOfRank 0 = .ok (.iconst 0, 1) := by decide +kernel
theorem dX0_rowOfRank_1 : decode cX0_rowOfRank 1 = .ok (.istore_n 3, 1) := by decide +kernel
theorem dX0_rowOfRank_2 : decode cX0_rowOfRank 2 = .ok (.iload_n 2, 1) := by decide +kernel
theorem dX0_rowOfRank_3 : decode cX0_rowOfRank 3 = .ok (.istore 4, 2) := by decide +kernel
theorem dX0_rowOfRank_5 : decode cX0_rowOfRank 5 = .ok (.iconst 0, 1) := by decide +kernel
theorem dX0_rowOfRank_6 : decode cX0_rowOfRank 6 = .ok (.istore 5, 2) := by decide +kernel
theorem dX0_rowOfRank_8 : decode cX0_rowOfRank 8 = .ok (.iload 5, 2) := by decide +kernel
theorem dX0_rowOfRank_10 : decode cX0_rowOfRank 10 = .ok (.aload_n 0, 1) := by decide +kernel
theorem dX0_rowOfRank_11 : decode cX0_rowOfRank 11 = .ok (.getfield 18, 3) := by decide +kernel
theorem dX0_rowOfRank_14 : decode cX0_rowOfRank 14 = .ok (.if_icmp .ge 59, 3) := by decide +kernel
theorem dX0_rowOfRank_17 : decode cX0_rowOfRank 17 = .ok (.aload_n 0, 1) := by decide +kernel
theorem dX0_rowOfRank_18 : decode cX0_rowOfRank 18 = .ok (.getfield 9, 3) := by decide +kernel
theorem dX0_rowOfRank_21 : decode cX0_rowOfRank 21 = .ok (.iload 5, 2) := by decide +kernel
theorem dX0_rowOfRank_23 : decode cX0_rowOfRank 23 = .ok (.iaload, 1) := by decide +kernel
theorem dX0_rowOfRank_24 : decode cX0_rowOfRank 24 = .ok (.iload_n 1, 1) := by decide +kernel
theorem dX0_rowOfRank_25 : decode cX0_rowOfRank 25 = .ok (.if_icmp .ne 32, 3) := by decide +kernel
theorem dX0_rowOfRank_28 : decode cX0_rowOfRank 28 = .ok (.iload 4, 2) := by decide +kernel
theorem dX0_rowOfRank_30 : decode cX0_rowOfRank 30 = .ok (.aload_n 0, 1) := by decide +kernel
theorem dX0_rowOfRank_31 : decode cX0_rowOfRank 31 = .ok (.getfield 15, 3) := by decide +kernel
theorem dX0_rowOfRank_34 : decode cX0_rowOfRank 34 = .ok (.iload 5, 2) := by decide +kernel
theorem dX0_rowOfRank_36 : decode cX0_rowOfRank 36 = .ok (.iaload, 1) := by decide +kernel
theorem dX0_rowOfRank_37 : decode cX0_rowOfRank 37 = .ok (.if_icmp .ge 8, 3) := by decide +kernel
theorem dX0_rowOfRank_40 : decode cX0_rowOfRank 40 = .ok (.iload_n 3, 1) := by decide +kernel
theorem dX0_rowOfRank_41 : decode cX0_rowOfRank 41 = .ok (.iload 4, 2) := by decide +kernel
theorem dX0_rowOfRank_43 : decode cX0_rowOfRank 43 = .ok (.iadd, 1) := by decide +kernel
theorem dX0_rowOfRank_44 : decode cX0_rowOfRank 44 = .ok (.ireturn, 1) := by decide +kernel
theorem dX0_rowOfRank_45 : decode cX0_rowOfRank 45 = .ok (.iload 4, 2) := by decide +kernel
theorem dX0_rowOfRank_47 : decode cX0_rowOfRank 47 = .ok (.aload_n 0, 1) := by decide +kernel
theorem dX0_rowOfRank_48 : decode cX0_rowOfRank 48 = .ok (.getfield 15, 3) := by decide +kernel
theorem dX0_rowOfRank_51 : decode cX0_rowOfRank 51 = .ok (.iload 5, 2) := by decide +kernel
theorem dX0_rowOfRank_53 : decode cX0_rowOfRank 53 = .ok (.iaload, 1) := by decide +kernel
theorem dX0_rowOfRank_54 : decode cX0_rowOfRank 54 = .ok (.isub, 1) := by decide +kernel
theorem dX0_rowOfRank_55 : decode cX0_rowOfRank 55 = .ok (.istore 4, 2) := by decide +kernel
theorem dX0_rowOfRank_57 : decode cX0_rowOfRank 57 = .ok (.iload_n 3, 1) := by decide +kernel
theorem dX0_rowOfRank_58 : decode cX0_rowOfRank 58 = .ok (.aload_n 0, 1) := by decide +kernel
theorem dX0_rowOfRank_59 : decode cX0_rowOfRank 59 = .ok (.getfield 15, 3) := by decide +kernel
theorem dX0_rowOfRank_62 : decode cX0_rowOfRank 62 = .ok (.iload 5, 2) := by decide +kernel
theorem dX0_rowOfRank_64 : decode cX0_rowOfRank 64 = .ok (.iaload, 1) := by decide +kernel
theorem dX0_rowOfRank_65 : decode cX0_rowOfRank 65 = .ok (.iadd, 1) := by decide +kernel
theorem dX0_rowOfRank_66 : decode cX0_rowOfRank 66 = .ok (.istore_n 3, 1) := by decide +kernel
theorem dX0_rowOfRank_67 : decode cX0_rowOfRank 67 = .ok (.iinc 5 1, 3) := by decide +kernel
theorem dX0_rowOfRank_70 : decode cX0_rowOfRank 70 = .ok (.goto (-62), 3) := by decide +kernel
theorem dX0_rowOfRank_73 : decode cX0_rowOfRank 73 = .ok (.bipush (-6), 2) := by decide +kernel
theorem dX0_rowOfRank_75 : decode cX0_rowOfRank 75 = .ok (.ireturn, 1) := by decide +kernel
theorem dX0_sum_0 : decode cX0_sum 0 = .ok (.iconst 0, 1) := by decide +kernel
theorem dX0_sum_1 : decode cX0_sum 1 = .ok (.istore_n 1, 1) := by decide +kernel
theorem dX0_sum_2 : decode cX0_sum 2 = .ok (.iconst 0, 1) := by decide +kernel
theorem dX0_sum_3 : decode cX0_sum 3 = .ok (.istore_n 2, 1) := by decide +kernel
theorem dX0_sum_4 : decode cX0_sum 4 = .ok (.iload_n 2, 1) := by decide +kernel
theorem dX0_sum_5 : decode cX0_sum 5 = .ok (.aload_n 0, 1) := by decide +kernel
theorem dX0_sum_6 : decode cX0_sum 6 = .ok (.getfield 18, 3) := by decide +kernel
theorem dX0_sum_9 : decode cX0_sum 9 = .ok (.if_icmp .ge 25, 3) := by decide +kernel
theorem dX0_sum_12 : decode cX0_sum 12 = .ok (.iload_n 1, 1) := by decide +kernel
theorem dX0_sum_13 : decode cX0_sum 13 = .ok (.aload_n 0, 1) := by decide +kernel
theorem dX0_sum_14 : decode cX0_sum 14 = .ok (.getfield 9, 3) := by decide +kernel
theorem dX0_sum_17 : decode cX0_sum 17 = .ok (.iload_n 2, 1) := by decide +kernel
theorem dX0_sum_18 : decode cX0_sum 18 = .ok (.iaload, 1) := by decide +kernel
theorem dX0_sum_19 : decode cX0_sum 19 = .ok (.aload_n 0, 1) := by decide +kernel
theorem dX0_sum_20 : decode cX0_sum 20 = .ok (.getfield 15, 3) := by decide +kernel
theorem dX0_sum_23 : decode cX0_sum 23 = .ok (.iload_n 2, 1) := by decide +kernel
theorem dX0_sum_24 : decode cX0_sum 24 = .ok (.iaload, 1) := by decide +kernel
theorem dX0_sum_25 : decode cX0_sum 25 = .ok (.imul, 1) := by decide +kernel
theorem dX0_sum_26 : decode cX0_sum 26 = .ok (.iadd, 1) := by decide +kernel
theorem dX0_sum_27 : decode cX0_sum 27 = .ok (.istore_n 1, 1) := by decide +kernel
theorem dX0_sum_28 : decode cX0_sum 28 = .ok (.iinc 2 1, 3) := by decide +kernel
theorem dX0_sum_31 : decode cX0_sum 31 = .ok (.goto (-27), 3) := by decide +kernel
theorem dX0_sum_34 : decode cX0_sum 34 = .ok (.iload_n 1, 1) := by decide +kernel
theorem dX0_sum_35 : decode cX0_sum 35 = .ok (.ireturn, 1) := by decide +kernel
theorem dX0_longest_0 : decode cX0_longest 0 = .ok (.iconst 0, 1) := by decide +kernel
theorem dX0_longest_1 : decode cX0_longest 1 = .ok (.istore_n 1, 1) := by decide +kernel
theorem dX0_longest_2 : decode cX0_longest 2 = .ok (.iconst 0, 1) := by decide +kernel
theorem dX0_longest_3 : decode cX0_longest 3 = .ok (.istore_n 2, 1) := by decide +kernel
theorem dX0_longest_4 : decode cX0_longest 4 = .ok (.iload_n 2, 1) := by decide +kernel
theorem dX0_longest_5 : decode cX0_longest 5 = .ok (.aload_n 0, 1) := by decide +kernel
theorem dX0_longest_6 : decode cX0_longest 6 = .ok (.getfield 18, 3) := by decide +kernel
theorem dX0_longest_9 : decode cX0_longest 9 = .ok (.if_icmp .ge 20, 3) := by decide +kernel
theorem dX0_longest_12 : decode cX0_longest 12 = .ok (.iload_n 1, 1) := by decide +kernel
theorem dX0_longest_13 : decode cX0_longest 13 = .ok (.aload_n 0, 1) := by decide +kernel
theorem dX0_longest_14 : decode cX0_longest 14 = .ok (.getfield 15, 3) := by decide +kernel
theorem dX0_longest_17 : decode cX0_longest 17 = .ok (.iload_n 2, 1) := by decide +kernel
theorem dX0_longest_18 : decode cX0_longest 18 = .ok (.iaload, 1) := by decide +kernel
theorem dX0_longest_19 : decode cX0_longest 19 = .ok (.invokestatic 36, 3) := by decide +kernel
theorem dX0_longest_22 : decode cX0_longest 22 = .ok (.istore_n 1, 1) := by decide +kernel
theorem dX0_longest_23 : decode cX0_longest 23 = .ok (.iinc 2 1, 3) := by decide +kernel
theorem dX0_longest_26 : decode cX0_longest 26 = .ok (.goto (-22), 3) := by decide +kernel
theorem dX0_longest_29 : decode cX0_longest 29 = .ok (.iload_n 1, 1) := by decide +kernel
theorem dX0_longest_30 : decode cX0_longest 30 = .ok (.ireturn, 1) := by decide +kernel
theorem dX0_valueSet_0 : decode cX0_valueSet 0 = .ok (.iconst 0, 1) := by decide +kernel
theorem dX0_valueSet_1 : decode cX0_valueSet 1 = .ok (.istore_n 1, 1) := by decide +kernel
theorem dX0_valueSet_2 : decode cX0_valueSet 2 = .ok (.iconst 0, 1) := by decide +kernel
theorem dX0_valueSet_3 : decode cX0_valueSet 3 = .ok (.istore_n 2, 1) := by decide +kernel
theorem dX0_valueSet_4 : decode cX0_valueSet 4 = .ok (.iload_n 2, 1) := by decide +kernel
theorem dX0_valueSet_5 : decode cX0_valueSet 5 = .ok (.aload_n 0, 1) := by decide +kernel
theorem dX0_valueSet_6 : decode cX0_valueSet 6 = .ok (.getfield 18, 3) := by decide +kernel
theorem dX0_valueSet_9 : decode cX0_valueSet 9 = .ok (.if_icmp .ge 20, 3) := by decide +kernel
theorem dX0_valueSet_12 : decode cX0_valueSet 12 = .ok (.iload_n 1, 1) := by decide +kernel
theorem dX0_valueSet_13 : decode cX0_valueSet 13 = .ok (.iconst 1, 1) := by decide +kernel
theorem dX0_valueSet_14 : decode cX0_valueSet 14 = .ok (.aload_n 0, 1) := by decide +kernel
theorem dX0_valueSet_15 : decode cX0_valueSet 15 = .ok (.getfield 9, 3) := by decide +kernel
theorem dX0_valueSet_18 : decode cX0_valueSet 18 = .ok (.iload_n 2, 1) := by decide +kernel
theorem dX0_valueSet_19 : decode cX0_valueSet 19 = .ok (.iaload, 1) := by decide +kernel
theorem dX0_valueSet_20 : decode cX0_valueSet 20 = .ok (.ishl, 1) := by decide +kernel
theorem dX0_valueSet_21 : decode cX0_valueSet 21 = .ok (.ior, 1) := by decide +kernel
theorem dX0_valueSet_22 : decode cX0_valueSet 22 = .ok (.istore_n 1, 1) := by decide +kernel
theorem dX0_valueSet_23 : decode cX0_valueSet 23 = .ok (.iinc 2 1, 3) := by decide +kernel
theorem dX0_valueSet_26 : decode cX0_valueSet 26 = .ok (.goto (-22), 3) := by decide +kernel
theorem dX0_valueSet_29 : decode cX0_valueSet 29 = .ok (.iload_n 1, 1) := by decide +kernel
theorem dX0_valueSet_30 : decode cX0_valueSet 30 = .ok (.ireturn, 1) := by decide +kernel
theorem dX0_neverFalls_0 : decode cX0_neverFalls 0 = .ok (.iconst 1, 1) := by decide +kernel
theorem dX0_neverFalls_1 : decode cX0_neverFalls 1 = .ok (.istore_n 1, 1) := by decide +kernel
theorem dX0_neverFalls_2 : decode cX0_neverFalls 2 = .ok (.iload_n 1, 1) := by decide +kernel
theorem dX0_neverFalls_3 : decode cX0_neverFalls 3 = .ok (.aload_n 0, 1) := by decide +kernel
theorem dX0_neverFalls_4 : decode cX0_neverFalls 4 = .ok (.getfield 18, 3) := by decide +kernel
theorem dX0_neverFalls_7 : decode cX0_neverFalls 7 = .ok (.if_icmp .ge 28, 3) := by decide +kernel
theorem dX0_neverFalls_10 : decode cX0_neverFalls 10 = .ok (.aload_n 0, 1) := by decide +kernel
theorem dX0_neverFalls_11 : decode cX0_neverFalls 11 = .ok (.getfield 9, 3) := by decide +kernel
theorem dX0_neverFalls_14 : decode cX0_neverFalls 14 = .ok (.iload_n 1, 1) := by decide +kernel
theorem dX0_neverFalls_15 : decode cX0_neverFalls 15 = .ok (.iaload, 1) := by decide +kernel
theorem dX0_neverFalls_16 : decode cX0_neverFalls 16 = .ok (.aload_n 0, 1) := by decide +kernel
theorem dX0_neverFalls_17 : decode cX0_neverFalls 17 = .ok (.getfield 9, 3) := by decide +kernel
theorem dX0_neverFalls_20 : decode cX0_neverFalls 20 = .ok (.iload_n 1, 1) := by decide +kernel
theorem dX0_neverFalls_21 : decode cX0_neverFalls 21 = .ok (.iconst 1, 1) := by decide +kernel
theorem dX0_neverFalls_22 : decode cX0_neverFalls 22 = .ok (.isub, 1) := by decide +kernel
theorem dX0_neverFalls_23 : decode cX0_neverFalls 23 = .ok (.iaload, 1) := by decide +kernel
theorem dX0_neverFalls_24 : decode cX0_neverFalls 24 = .ok (.if_icmp .ge 5, 3) := by decide +kernel
theorem dX0_neverFalls_27 : decode cX0_neverFalls 27 = .ok (.iconst 0, 1) := by decide +kernel
theorem dX0_neverFalls_28 : decode cX0_neverFalls 28 = .ok (.ireturn, 1) := by decide +kernel
theorem dX0_neverFalls_29 : decode cX0_neverFalls 29 = .ok (.iinc 1 1, 3) := by decide +kernel
theorem dX0_neverFalls_32 : decode cX0_neverFalls 32 = .ok (.goto (-30), 3) := by decide +kernel
theorem dX0_neverFalls_35 : decode cX0_neverFalls 35 = .ok (.iconst 1, 1) := by decide +kernel
theorem dX0_neverFalls_36 : decode cX0_neverFalls 36 = .ok (.ireturn, 1) := by decide +kernel
theorem dX0_neverRises_0 : decode cX0_neverRises 0 = .ok (.iconst 1, 1) := by decide +kernel
theorem dX0_neverRises_1 : decode cX0_neverRises 1 = .ok (.istore_n 1, 1) := by decide +kernel
theorem dX0_neverRises_2 : decode cX0_neverRises 2 = .ok (.iload_n 1, 1) := by decide +kernel
theorem dX0_neverRises_3 : decode cX0_neverRises 3 = .ok (.aload_n 0, 1) := by decide +kernel
theorem dX0_neverRises_4 : decode cX0_neverRises 4 = .ok (.getfield 18, 3) := by decide +kernel
theorem dX0_neverRises_7 : decode cX0_neverRises 7 = .ok (.if_icmp .ge 28, 3) := by decide +kernel
theorem dX0_neverRises_10 : decode cX0_neverRises 10 = .ok (.aload_n 0, 1) := by decide +kernel
theorem dX0_neverRises_11 : decode cX0_neverRises 11 = .ok (.getfield 9, 3) := by decide +kernel
theorem dX0_neverRises_14 : decode cX0_neverRises 14 = .ok (.iload_n 1, 1) := by decide +kernel
theorem dX0_neverRises_15 : decode cX0_neverRises 15 = .ok (.iaload, 1) := by decide +kernel
theorem dX0_neverRises_16 : decode cX0_neverRises 16 = .ok (.aload_n 0, 1) := by decide +kernel
theorem dX0_neverRises_17 : decode cX0_neverRises 17 = .ok (.getfield 9, 3) := by decide +kernel
theorem dX0_neverRises_20 : decode cX0_neverRises 20 = .ok (.iload_n 1, 1) := by decide +kernel
theorem dX0_neverRises_21 : decode cX0_neverRises 21 = .ok (.iconst 1, 1) := by decide +kernel
theorem dX0_neverRises_22 : decode cX0_neverRises 22 = .ok (.isub, 1) := by decide +kernel
theorem dX0_neverRises_23 : decode cX0_neverRises 23 = .ok (.iaload, 1) := by decide +kernel
theorem dX0_neverRises_24 : decode cX0_neverRises 24 = .ok (.if_icmp .le 5, 3) := by decide +kernel
theorem dX0_neverRises_27 : decode cX0_neverRises 27 = .ok (.iconst 0, 1) := by decide +kernel
theorem dX0_neverRises_28 : decode cX0_neverRises 28 = .ok (.ireturn, 1) := by decide +kernel
theorem dX0_neverRises_29 : decode cX0_neverRises 29 = .ok (.iinc 1 1, 3) := by decide +kernel
theorem dX0_neverRises_32 : decode cX0_neverRises 32 = .ok (.goto (-30), 3) := by decide +kernel
theorem dX0_neverRises_35 : decode cX0_neverRises 35 = .ok (.iconst 1, 1) := by decide +kernel
theorem dX0_neverRises_36 : decode cX0_neverRises 36 = .ok (.ireturn, 1) := by decide +kernel
theorem dX0_rowsOf_0 : decode cX0_rowsOf 0 = .ok (.iconst 0, 1) := by decide +kernel
theorem dX0_rowsOf_1 : decode cX0_rowsOf 1 = .ok (.istore_n 2, 1) := by decide +kernel
theorem dX0_rowsOf_2 : decode cX0_rowsOf 2 = .ok (.iconst 0, 1) := by decide +kernel
theorem dX0_rowsOf_3 : decode cX0_rowsOf 3 = .ok (.istore_n 3, 1) := by decide +kernel
theorem dX0_rowsOf_4 : decode cX0_rowsOf 4 = .ok (.iload_n 3, 1) := by decide +kernel
theorem dX0_rowsOf_5 : decode cX0_rowsOf 5 = .ok (.aload_n 0, 1) := by decide +kernel
theorem dX0_rowsOf_6 : decode cX0_rowsOf 6 = .ok (.getfield 18, 3) := by decide +kernel
theorem dX0_rowsOf_9 : decode cX0_rowsOf 9 = .ok (.if_icmp .ge 28, 3) := by decide +kernel
theorem dX0_rowsOf_12 : decode cX0_rowsOf 12 = .ok (.aload_n 0, 1) := by decide +kernel
theorem dX0_rowsOf_13 : decode cX0_rowsOf 13 = .ok (.getfield 9, 3) := by decide +kernel
theorem dX0_rowsOf_16 : decode cX0_rowsOf 16 = .ok (.iload_n 3, 1) := by decide +kernel
theorem dX0_rowsOf_17 : decode cX0_rowsOf 17 = .ok (.iaload, 1) := by decide +kernel
theorem dX0_rowsOf_18 : decode cX0_rowsOf 18 = .ok (.iload_n 1, 1) := by decide +kernel
theorem dX0_rowsOf_19 : decode cX0_rowsOf 19 = .ok (.if_icmp .ne 12, 3) := by decide +kernel
theorem dX0_rowsOf_22 : decode cX0_rowsOf 22 = .ok (.iload_n 2, 1) := by decide +kernel
theorem dX0_rowsOf_23 : decode cX0_rowsOf 23 = .ok (.aload_n 0, 1) := by decide +kernel
theorem dX0_rowsOf_24 : decode cX0_rowsOf 24 = .ok (.getfield 15, 3) := by decide +kernel
theorem dX0_rowsOf_27 : decode cX0_rowsOf 27 = .ok (.iload_n 3, 1) := by decide +kernel
theorem dX0_rowsOf_28 : decode cX0_rowsOf 28 = .ok (.iaload, 1) := by decide +kernel
theorem dX0_rowsOf_29 : decode cX0_rowsOf 29 = .ok (.iadd, 1) := by decide +kernel
theorem dX0_rowsOf_30 : decode cX0_rowsOf 30 = .ok (.istore_n 2, 1) := by decide +kernel
theorem dX0_rowsOf_31 : decode cX0_rowsOf 31 = .ok (.iinc 3 1, 3) := by decide +kernel
theorem dX0_rowsOf_34 : decode cX0_rowsOf 34 = .ok (.goto (-30), 3) := by decide +kernel
theorem dX0_rowsOf_37 : decode cX0_rowsOf 37 = .ok (.iload_n 2, 1) := by decide +kernel
theorem dX0_rowsOf_38 : decode cX0_rowsOf 38 = .ok (.ireturn, 1) := by decide +kernel
theorem dX0_runsOf_0 : decode cX0_runsOf 0 = .ok (.iconst 0, 1) := by decide +kernel
theorem dX0_runsOf_1 : decode cX0_runsOf 1 = .ok (.istore_n 2, 1) := by decide +kernel
theorem dX0_runsOf_2 : decode cX0_runsOf 2 = .ok (.iconst 0, 1) := by decide +kernel
theorem dX0_runsOf_3 : decode cX0_runsOf 3 = .ok (.istore_n 3, 1) := by decide +kernel
theorem dX0_runsOf_4 : decode cX0_runsOf 4 = .ok (.iload_n 3, 1) := by decide +kernel
theorem dX0_runsOf_5 : decode cX0_runsOf 5 = .ok (.aload_n 0, 1) := by decide +kernel
theorem dX0_runsOf_6 : decode cX0_runsOf 6 = .ok (.getfield 18, 3) := by decide +kernel
theorem dX0_runsOf_9 : decode cX0_runsOf 9 = .ok (.if_icmp .ge 22, 3) := by decide +kernel
theorem dX0_runsOf_12 : decode cX0_runsOf 12 = .ok (.aload_n 0, 1) := by decide +kernel
theorem dX0_runsOf_13 : decode cX0_runsOf 13 = .ok (.getfield 9, 3) := by decide +kernel
theorem dX0_runsOf_16 : decode cX0_runsOf 16 = .ok (.iload_n 3, 1) := by decide +kernel
theorem dX0_runsOf_17 : decode cX0_runsOf 17 = .ok (.iaload, 1) := by decide +kernel
theorem dX0_runsOf_18 : decode cX0_runsOf 18 = .ok (.iload_n 1, 1) := by decide +kernel
theorem dX0_runsOf_19 : decode cX0_runsOf 19 = .ok (.if_icmp .ne 6, 3) := by decide +kernel
theorem dX0_runsOf_22 : decode cX0_runsOf 22 = .ok (.iinc 2 1, 3) := by decide +kernel
theorem dX0_runsOf_25 : decode cX0_runsOf 25 = .ok (.iinc 3 1, 3) := by decide +kernel
theorem dX0_runsOf_28 : decode cX0_runsOf 28 = .ok (.goto (-24), 3) := by decide +kernel
theorem dX0_runsOf_31 : decode cX0_runsOf 31 = .ok (.iload_n 2, 1) := by decide +kernel
theorem dX0_runsOf_32 : decode cX0_runsOf 32 = .ok (.ireturn, 1) := by decide +kernel
theorem dX0_longestOf_0 : decode cX0_longestOf 0 = .ok (.iconst 0, 1) := by decide +kernel
theorem dX0_longestOf_1 : decode cX0_longestOf 1 = .ok (.istore_n 2, 1) := by decide +kernel
theorem dX0_longestOf_2 : decode cX0_longestOf 2 = .ok (.iconst 0, 1) := by decide +kernel
theorem dX0_longestOf_3 : decode cX0_longestOf 3 = .ok (.istore_n 3, 1) := by decide +kernel
theorem dX0_longestOf_4 : decode cX0_longestOf 4 = .ok (.iload_n 3, 1) := by decide +kernel
theorem dX0_longestOf_5 : decode cX0_longestOf 5 = .ok (.aload_n 0, 1) := by decide +kernel
theorem dX0_longestOf_6 : decode cX0_longestOf 6 = .ok (.getfield 18, 3) := by decide +kernel
theorem dX0_longestOf_9 : decode cX0_longestOf 9 = .ok (.if_icmp .ge 30, 3) := by decide +kernel
theorem dX0_longestOf_12 : decode cX0_longestOf 12 = .ok (.aload_n 0, 1) := by decide +kernel
theorem dX0_longestOf_13 : decode cX0_longestOf 13 = .ok (.getfield 9, 3) := by decide +kernel
theorem dX0_longestOf_16 : decode cX0_longestOf 16 = .ok (.iload_n 3, 1) := by decide +kernel
theorem dX0_longestOf_17 : decode cX0_longestOf 17 = .ok (.iaload, 1) := by decide +kernel
theorem dX0_longestOf_18 : decode cX0_longestOf 18 = .ok (.iload_n 1, 1) := by decide +kernel
theorem dX0_longestOf_19 : decode cX0_longestOf 19 = .ok (.if_icmp .ne 14, 3) := by decide +kernel
theorem dX0_longestOf_22 : decode cX0_longestOf 22 = .ok (.iload_n 2, 1) := by decide +kernel
theorem dX0_longestOf_23 : decode cX0_longestOf 23 = .ok (.aload_n 0, 1) := by decide +kernel
theorem dX0_longestOf_24 : decode cX0_longestOf 24 = .ok (.getfield 15, 3) := by decide +kernel
theorem dX0_longestOf_27 : decode cX0_longestOf 27 = .ok (.iload_n 3, 1) := by decide +kernel
theorem dX0_longestOf_28 : decode cX0_longestOf 28 = .ok (.iaload, 1) := by decide +kernel
theorem dX0_longestOf_29 : decode cX0_longestOf 29 = .ok (.invokestatic 36, 3) := by decide +kernel
theorem dX0_longestOf_32 : decode cX0_longestOf 32 = .ok (.istore_n 2, 1) := by decide +kernel
theorem dX0_longestOf_33 : decode cX0_longestOf 33 = .ok (.iinc 3 1, 3) := by decide +kernel
theorem dX0_longestOf_36 : decode cX0_longestOf 36 = .ok (.goto (-32), 3) := by decide +kernel
theorem dX0_longestOf_39 : decode cX0_longestOf 39 = .ok (.iload_n 2, 1) := by decide +kernel
theorem dX0_longestOf_40 : decode cX0_longestOf 40 = .ok (.ireturn, 1) := by decide +kernel
theorem dX0_runsAfterSet_0 : decode cX0_runsAfterSet 0 = .ok (.aload_n 0, 1) := by decide +kernel
theorem dX0_runsAfterSet_1 : decode cX0_runsAfterSet 1 = .ok (.iload_n 1, 1) := by decide +kernel
theorem dX0_runsAfterSet_2 : decode cX0_runsAfterSet 2 = .ok (.invokevirtual 29, 3) := by decide +kernel
theorem dX0_runsAfterSet_5 : decode cX0_runsAfterSet 5 = .ok (.istore_n 3, 1) := by decide +kernel
theorem dX0_runsAfterSet_6 : decode cX0_runsAfterSet 6 = .ok (.aload_n 0, 1) := by decide +kernel
theorem dX0_runsAfterSet_7 : decode cX0_runsAfterSet 7 = .ok (.iload_n 3, 1) := by decide +kernel
theorem dX0_runsAfterSet_8 : decode cX0_runsAfterSet 8 = .ok (.invokevirtual 33, 3) := by decide +kernel
theorem dX0_runsAfterSet_11 : decode cX0_runsAfterSet 11 = .ok (.iload_n 2, 1) := by decide +kernel
theorem dX0_runsAfterSet_12 : decode cX0_runsAfterSet 12 = .ok (.if_icmp .ne 8, 3) := by decide +kernel
theorem dX0_runsAfterSet_15 : decode cX0_runsAfterSet 15 = .ok (.aload_n 0, 1) := by decide +kernel
theorem dX0_runsAfterSet_16 : decode cX0_runsAfterSet 16 = .ok (.getfield 18, 3) := by decide +kernel
theorem dX0_runsAfterSet_19 : decode cX0_runsAfterSet 19 = .ok (.ireturn, 1) := by decide +kernel
theorem dX0_runsAfterSet_20 : decode cX0_runsAfterSet 20 = .ok (.aload_n 0, 1) := by decide +kernel
theorem dX0_runsAfterSet_21 : decode cX0_runsAfterSet 21 = .ok (.iload_n 3, 1) := by decide +kernel
theorem dX0_runsAfterSet_22 : decode cX0_runsAfterSet 22 = .ok (.invokevirtual 42, 3) := by decide +kernel
theorem dX0_runsAfterSet_25 : decode cX0_runsAfterSet 25 = .ok (.istore 4, 2) := by decide +kernel
theorem dX0_runsAfterSet_27 : decode cX0_runsAfterSet 27 = .ok (.iload_n 1, 1) := by decide +kernel
theorem dX0_runsAfterSet_28 : decode cX0_runsAfterSet 28 = .ok (.iload 4, 2) := by decide +kernel
theorem dX0_runsAfterSet_30 : decode cX0_runsAfterSet 30 = .ok (.if_icmp .ne 7, 3) := by decide +kernel
theorem dX0_runsAfterSet_33 : decode cX0_runsAfterSet 33 = .ok (.iconst 1, 1) := by decide +kernel
theorem dX0_runsAfterSet_34 : decode cX0_runsAfterSet 34 = .ok (.goto 4, 3) := by decide +kernel
theorem dX0_runsAfterSet_37 : decode cX0_runsAfterSet 37 = .ok (.iconst 0, 1) := by decide +kernel
theorem dX0_runsAfterSet_38 : decode cX0_runsAfterSet 38 = .ok (.istore 5, 2) := by decide +kernel
theorem dX0_runsAfterSet_40 : decode cX0_runsAfterSet 40 = .ok (.iload_n 1, 1) := by decide +kernel
theorem dX0_runsAfterSet_41 : decode cX0_runsAfterSet 41 = .ok (.iload 4, 2) := by decide +kernel
theorem dX0_runsAfterSet_43 : decode cX0_runsAfterSet 43 = .ok (.aload_n 0, 1) := by decide +kernel
theorem dX0_runsAfterSet_44 : decode cX0_runsAfterSet 44 = .ok (.iload_n 3, 1) := by decide +kernel
theorem dX0_runsAfterSet_45 : decode cX0_runsAfterSet 45 = .ok (.invokevirtual 45, 3) := by decide +kernel
theorem dX0_runsAfterSet_48 : decode cX0_runsAfterSet 48 = .ok (.iadd, 1) := by decide +kernel
theorem dX0_runsAfterSet_49 : decode cX0_runsAfterSet 49 = .ok (.iconst 1, 1) := by decide +kernel
theorem dX0_runsAfterSet_50 : decode cX0_runsAfterSet 50 = .ok (.isub, 1) := by decide +kernel
theorem dX0_runsAfterSet_51 : decode cX0_runsAfterSet 51 = .ok (.if_icmp .ne 7, 3) := by decide +kernel
theorem dX0_runsAfterSet_54 : decode cX0_runsAfterSet 54 = .ok (.iconst 1, 1) := by decide +kernel
theorem dX0_runsAfterSet_55 : decode cX0_runsAfterSet 55 = .ok (.goto 4, 3) := by decide +kernel
theorem dX0_runsAfterSet_58 : decode cX0_runsAfterSet 58 = .ok (.iconst 0, 1) := by decide +kernel
theorem dX0_runsAfterSet_59 : decode cX0_runsAfterSet 59 = .ok (.istore 6, 2) := by decide +kernel
theorem dX0_runsAfterSet_61 : decode cX0_runsAfterSet 61 = .ok (.aload_n 0, 1) := by decide +kernel
theorem dX0_runsAfterSet_62 : decode cX0_runsAfterSet 62 = .ok (.getfield 18, 3) := by decide +kernel
theorem dX0_runsAfterSet_65 : decode cX0_runsAfterSet 65 = .ok (.istore 7, 2) := by decide +kernel
theorem dX0_runsAfterSet_67 : decode cX0_runsAfterSet 67 = .ok (.iload 5, 2) := by decide +kernel
theorem dX0_runsAfterSet_69 : decode cX0_runsAfterSet 69 = .ok (.ifCond .ne 9, 3) := by decide +kernel
theorem dX0_runsAfterSet_72 : decode cX0_runsAfterSet 72 = .ok (.iinc 7 1, 3) := by decide +kernel
theorem dX0_runsAfterSet_75 : decode cX0_runsAfterSet 75 = .ok (.goto 17, 3) := by decide +kernel
theorem dX0_runsAfterSet_78 : decode cX0_runsAfterSet 78 = .ok (.aload_n 0, 1) := by decide +kernel
theorem dX0_runsAfterSet_79 : decode cX0_runsAfterSet 79 = .ok (.iload_n 3, 1) := by decide +kernel
theorem dX0_runsAfterSet_80 : decode cX0_runsAfterSet 80 = .ok (.iconst 1, 1) := by decide +kernel
theorem dX0_runsAfterSet_81 : decode cX0_runsAfterSet 81 = .ok (.isub, 1) := by decide +kernel
theorem dX0_runsAfterSet_82 : decode cX0_runsAfterSet 82 = .ok (.invokevirtual 33, 3) := by decide +kernel
theorem dX0_runsAfterSet_85 : decode cX0_runsAfterSet 85 = .ok (.iload_n 2, 1) := by decide +kernel
theorem dX0_runsAfterSet_86 : decode cX0_runsAfterSet 86 = .ok (.if_icmp .ne 6, 3) := by decide +kernel
theorem dX0_runsAfterSet_89 : decode cX0_runsAfterSet 89 = .ok (.iinc 7 (-1), 3) := by decide +kernel
theorem dX0_runsAfterSet_92 : decode cX0_runsAfterSet 92 = .ok (.iload 6, 2) := by decide +kernel
theorem dX0_runsAfterSet_94 : decode cX0_runsAfterSet 94 = .ok (.ifCond .ne 9, 3) := by decide +kernel
theorem dX0_runsAfterSet_97 : decode cX0_runsAfterSet 97 = .ok (.iinc 7 1, 3) := by decide +kernel
theorem dX0_runsAfterSet_100 : decode cX0_runsAfterSet 100 = .ok (.goto 17, 3) := by decide +kernel
theorem dX0_runsAfterSet_103 : decode cX0_runsAfterSet 103 = .ok (.aload_n 0, 1) := by decide +kernel
theorem dX0_runsAfterSet_104 : decode cX0_runsAfterSet 104 = .ok (.iload_n 3, 1) := by decide +kernel
theorem dX0_runsAfterSet_105 : decode cX0_runsAfterSet 105 = .ok (.iconst 1, 1) := by decide +kernel
theorem dX0_runsAfterSet_106 : decode cX0_runsAfterSet 106 = .ok (.iadd, 1) := by decide +kernel
theorem dX0_runsAfterSet_107 : decode cX0_runsAfterSet 107 = .ok (.invokevirtual 33, 3) := by decide +kernel
theorem dX0_runsAfterSet_110 : decode cX0_runsAfterSet 110 = .ok (.iload_n 2, 1) := by decide +kernel
theorem dX0_runsAfterSet_111 : decode cX0_runsAfterSet 111 = .ok (.if_icmp .ne 6, 3) := by decide +kernel
theorem dX0_runsAfterSet_114 : decode cX0_runsAfterSet 114 = .ok (.iinc 7 (-1), 3) := by decide +kernel
theorem dX0_runsAfterSet_117 : decode cX0_runsAfterSet 117 = .ok (.iload 7, 2) := by decide +kernel
theorem dX0_runsAfterSet_119 : decode cX0_runsAfterSet 119 = .ok (.ireturn, 1) := by decide +kernel
theorem dX0_bestRowToSet_0 : decode cX0_bestRowToSet 0 = .ok (.iconst 0, 1) := by decide +kernel
theorem dX0_bestRowToSet_1 : decode cX0_bestRowToSet 1 = .ok (.istore_n 2, 1) := by decide +kernel
theorem dX0_bestRowToSet_2 : decode cX0_bestRowToSet 2 = .ok (.aload_n 0, 1) := by decide +kernel
theorem dX0_bestRowToSet_3 : decode cX0_bestRowToSet 3 = .ok (.iconst 0, 1) := by decide +kernel
theorem dX0_bestRowToSet_4 : decode cX0_bestRowToSet 4 = .ok (.iload_n 1, 1) := by decide +kernel
theorem dX0_bestRowToSet_5 : decode cX0_bestRowToSet 5 = .ok (.invokevirtual 48, 3) := by decide +kernel
theorem dX0_bestRowToSet_8 : decode cX0_bestRowToSet 8 = .ok (.istore_n 3, 1) := by decide +kernel
theorem dX0_bestRowToSet_9 : decode cX0_bestRowToSet 9 = .ok (.iconst 0, 1) := by decide +kernel
theorem dX0_bestRowToSet_10 : decode cX0_bestRowToSet 10 = .ok (.istore 4, 2) := by decide +kernel
theorem dX0_bestRowToSet_12 : decode cX0_bestRowToSet 12 = .ok (.iconst 0, 1) := by decide +kernel
theorem dX0_bestRowToSet_13 : decode cX0_bestRowToSet 13 = .ok (.istore 5, 2) := by decide +kernel
theorem dX0_bestRowToSet_15 : decode cX0_bestRowToSet 15 = .ok (.iload 5, 2) := by decide +kernel
theorem dX0_bestRowToSet_17 : decode cX0_bestRowToSet 17 = .ok (.aload_n 0, 1) := by decide +kernel
theorem dX0_bestRowToSet_18 : decode cX0_bestRowToSet 18 = .ok (.getfield 18, 3) := by decide +kernel
theorem dX0_bestRowToSet_21 : decode cX0_bestRowToSet 21 = .ok (.if_icmp .ge 73, 3) := by decide +kernel
theorem dX0_bestRowToSet_24 : decode cX0_bestRowToSet 24 = .ok (.iload 4, 2) := by decide +kernel
theorem dX0_bestRowToSet_26 : decode cX0_bestRowToSet 26 = .ok (.aload_n 0, 1) := by decide +kernel
theorem dX0_bestRowToSet_27 : decode cX0_bestRowToSet 27 = .ok (.getfield 15, 3) := by decide +kernel
theorem dX0_bestRowToSet_30 : decode cX0_bestRowToSet 30 = .ok (.iload 5, 2) := by decide +kernel
theorem dX0_bestRowToSet_32 : decode cX0_bestRowToSet 32 = .ok (.iaload, 1) := by decide +kernel
theorem dX0_bestRowToSet_33 : decode cX0_bestRowToSet 33 = .ok (.iadd, 1) := by decide +kernel
theorem dX0_bestRowToSet_34 : decode cX0_bestRowToSet 34 = .ok (.iconst 1, 1) := by decide +kernel
theorem dX0_bestRowToSet_35 : decode cX0_bestRowToSet 35 = .ok (.isub, 1) := by decide +kernel
theorem dX0_bestRowToSet_36 : decode cX0_bestRowToSet 36 = .ok (.istore 6, 2) := by decide +kernel
theorem dX0_bestRowToSet_38 : decode cX0_bestRowToSet 38 = .ok (.aload_n 0, 1) := by decide +kernel
theorem dX0_bestRowToSet_39 : decode cX0_bestRowToSet 39 = .ok (.iload 4, 2) := by decide +kernel
theorem dX0_bestRowToSet_41 : decode cX0_bestRowToSet 41 = .ok (.iload_n 1, 1) := by decide +kernel
theorem dX0_bestRowToSet_42 : decode cX0_bestRowToSet 42 = .ok (.invokevirtual 48, 3) := by decide +kernel
theorem dX0_bestRowToSet_45 : decode cX0_bestRowToSet 45 = .ok (.iload_n 3, 1) := by decide +kernel
theorem dX0_bestRowToSet_46 : decode cX0_bestRowToSet 46 = .ok (.if_icmp .ge 14, 3) := by decide +kernel
theorem dX0_bestRowToSet_49 : decode cX0_bestRowToSet 49 = .ok (.iload 4, 2) := by decide +kernel
theorem dX0_bestRowToSet_51 : decode cX0_bestRowToSet 51 = .ok (.istore_n 2, 1) := by decide +kernel
theorem dX0_bestRowToSet_52 : decode cX0_bestRowToSet 52 = .ok (.aload_n 0, 1) := by decide +kernel
theorem dX0_bestRowToSet_53 : decode cX0_bestRowToSet 53 = .ok (.iload 4, 2) := by decide +kernel
theorem dX0_bestRowToSet_55 : decode cX0_bestRowToSet 55 = .ok (.iload_n 1, 1) := by decide +kernel
theorem dX0_bestRowToSet_56 : decode cX0_bestRowToSet 56 = .ok (.invokevirtual 48, 3) := by decide +kernel
theorem dX0_bestRowToSet_59 : decode cX0_bestRowToSet 59 = .ok (.istore_n 3, 1) := by decide +kernel
theorem dX0_bestRowToSet_60 : decode cX0_bestRowToSet 60 = .ok (.aload_n 0, 1) := by decide +kernel
theorem dX0_bestRowToSet_61 : decode cX0_bestRowToSet 61 = .ok (.iload 6, 2) := by decide +kernel
theorem dX0_bestRowToSet_63 : decode cX0_bestRowToSet 63 = .ok (.iload_n 1, 1) := by decide +kernel
theorem dX0_bestRowToSet_64 : decode cX0_bestRowToSet 64 = .ok (.invokevirtual 48, 3) := by decide +kernel
theorem dX0_bestRowToSet_67 : decode cX0_bestRowToSet 67 = .ok (.iload_n 3, 1) := by decide +kernel
theorem dX0_bestRowToSet_68 : decode cX0_bestRowToSet 68 = .ok (.if_icmp .ge 14, 3) := by decide +kernel
theorem dX0_bestRowToSet_71 : decode cX0_bestRowToSet 71 = .ok (.iload 6, 2) := by decide +kernel
theorem dX0_bestRowToSet_73 : decode cX0_bestRowToSet 73 = .ok (.istore_n 2, 1) := by decide +kernel
theorem dX0_bestRowToSet_74 : decode cX0_bestRowToSet 74 = .ok (.aload_n 0, 1) := by decide +kernel
theorem dX0_bestRowToSet_75 : decode cX0_bestRowToSet 75 = .ok (.iload 6, 2) := by decide +kernel
theorem dX0_bestRowToSet_77 : decode cX0_bestRowToSet 77 = .ok (.iload_n 1, 1) := by decide +kernel
theorem dX0_bestRowToSet_78 : decode cX0_bestRowToSet 78 = .ok (.invokevirtual 48, 3) := by decide +kernel
theorem dX0_bestRowToSet_81 : decode cX0_bestRowToSet 81 = .ok (.istore_n 3, 1) := by decide +kernel
theorem dX0_bestRowToSet_82 : decode cX0_bestRowToSet 82 = .ok (.iload 6, 2) := by decide +kernel
theorem dX0_bestRowToSet_84 : decode cX0_bestRowToSet 84 = .ok (.iconst 1, 1) := by decide +kernel
theorem dX0_bestRowToSet_85 : decode cX0_bestRowToSet 85 = .ok (.iadd, 1) := by decide +kernel
theorem dX0_bestRowToSet_86 : decode cX0_bestRowToSet 86 = .ok (.istore 4, 2) := by decide +kernel
theorem dX0_bestRowToSet_88 : decode cX0_bestRowToSet 88 = .ok (.iinc 5 1, 3) := by decide +kernel
theorem dX0_bestRowToSet_91 : decode cX0_bestRowToSet 91 = .ok (.goto (-76), 3) := by decide +kernel
theorem dX0_bestRowToSet_94 : decode cX0_bestRowToSet 94 = .ok (.iload_n 2, 1) := by decide +kernel
theorem dX0_bestRowToSet_95 : decode cX0_bestRowToSet 95 = .ok (.ireturn, 1) := by decide +kernel
theorem dX0_clear_0 : decode cX0_clear 0 = .ok (.aload_n 0, 1) := by decide +kernel
theorem dX0_clear_1 : decode cX0_clear 1 = .ok (.iconst 0, 1) := by decide +kernel
theorem dX0_clear_2 : decode cX0_clear 2 = .ok (.putfield 18, 3) := by decide +kernel
theorem dX0_clear_5 : decode cX0_clear 5 = .ok (.aload_n 0, 1) := by decide +kernel
theorem dX0_clear_6 : decode cX0_clear 6 = .ok (.iconst 0, 1) := by decide +kernel
theorem dX0_clear_7 : decode cX0_clear 7 = .ok (.putfield 22, 3) := by decide +kernel
theorem dX0_clear_10 : decode cX0_clear 10 = .ok (.aload_n 0, 1) := by decide +kernel
theorem dX0_clear_11 : decode cX0_clear 11 = .ok (.iconst 0, 1) := by decide +kernel
theorem dX0_clear_12 : decode cX0_clear 12 = .ok (.putfield 25, 3) := by decide +kernel
theorem dX0_clear_15 : decode cX0_clear 15 = .ok (.return_, 1) := by decide +kernel
theorem dX0_copyFrom_0 : decode cX0_copyFrom 0 = .ok (.aload_n 1, 1) := by decide +kernel
theorem dX0_copyFrom_1 : decode cX0_copyFrom 1 = .ok (.getfield 9, 3) := by decide +kernel
theorem dX0_copyFrom_4 : decode cX0_copyFrom 4 = .ok (.iconst 0, 1) := by decide +kernel
theorem dX0_copyFrom_5 : decode cX0_copyFrom 5 = .ok (.aload_n 0, 1) := by decide +kernel
theorem dX0_copyFrom_6 : decode cX0_copyFrom 6 = .ok (.getfield 9, 3) := by decide +kernel
theorem dX0_copyFrom_9 : decode cX0_copyFrom 9 = .ok (.iconst 0, 1) := by decide +kernel
theorem dX0_copyFrom_10 : decode cX0_copyFrom 10 = .ok (.bipush 40, 2) := by decide +kernel
theorem dX0_copyFrom_12 : decode cX0_copyFrom 12 = .ok (.invokestatic 51, 3) := by decide +kernel
theorem dX0_copyFrom_15 : decode cX0_copyFrom 15 = .ok (.aload_n 1, 1) := by decide +kernel
theorem dX0_copyFrom_16 : decode cX0_copyFrom 16 = .ok (.getfield 15, 3) := by decide +kernel
theorem dX0_copyFrom_19 : decode cX0_copyFrom 19 = .ok (.iconst 0, 1) := by decide +kernel
theorem dX0_copyFrom_20 : decode cX0_copyFrom 20 = .ok (.aload_n 0, 1) := by decide +kernel
theorem dX0_copyFrom_21 : decode cX0_copyFrom 21 = .ok (.getfield 15, 3) := by decide +kernel
theorem dX0_copyFrom_24 : decode cX0_copyFrom 24 = .ok (.iconst 0, 1) := by decide +kernel
theorem dX0_copyFrom_25 : decode cX0_copyFrom 25 = .ok (.bipush 40, 2) := by decide +kernel
theorem dX0_copyFrom_27 : decode cX0_copyFrom 27 = .ok (.invokestatic 51, 3) := by decide +kernel
theorem dX0_copyFrom_30 : decode cX0_copyFrom 30 = .ok (.aload_n 0, 1) := by decide +kernel
theorem dX0_copyFrom_31 : decode cX0_copyFrom 31 = .ok (.aload_n 1, 1) := by decide +kernel
theorem dX0_copyFrom_32 : decode cX0_copyFrom 32 = .ok (.getfield 18, 3) := by decide +kernel
theorem dX0_copyFrom_35 : decode cX0_copyFrom 35 = .ok (.putfield 18, 3) := by decide +kernel
theorem dX0_copyFrom_38 : decode cX0_copyFrom 38 = .ok (.aload_n 0, 1) := by decide +kernel
theorem dX0_copyFrom_39 : decode cX0_copyFrom 39 = .ok (.aload_n 1, 1) := by decide +kernel
theorem dX0_copyFrom_40 : decode cX0_copyFrom 40 = .ok (.getfield 22, 3) := by decide +kernel
theorem dX0_copyFrom_43 : decode cX0_copyFrom 43 = .ok (.putfield 22, 3) := by decide +kernel
theorem dX0_copyFrom_46 : decode cX0_copyFrom 46 = .ok (.aload_n 0, 1) := by decide +kernel
theorem dX0_copyFrom_47 : decode cX0_copyFrom 47 = .ok (.aload_n 1, 1) := by decide +kernel
theorem dX0_copyFrom_48 : decode cX0_copyFrom 48 = .ok (.getfield 25, 3) := by decide +kernel
theorem dX0_copyFrom_51 : decode cX0_copyFrom 51 = .ok (.putfield 25, 3) := by decide +kernel
theorem dX0_copyFrom_54 : decode cX0_copyFrom 54 = .ok (.return_, 1) := by decide +kernel
theorem dX0_addRun_0 : decode cX0_addRun 0 = .ok (.iload_n 2, 1) := by decide +kernel
theorem dX0_addRun_1 : decode cX0_addRun 1 = .ok (.iconst 1, 1) := by decide +kernel
theorem dX0_addRun_2 : decode cX0_addRun 2 = .ok (.if_icmp .lt 10, 3) := by decide +kernel
theorem dX0_addRun_5 : decode cX0_addRun 5 = .ok (.aload_n 0, 1) := by decide +kernel
theorem dX0_addRun_6 : decode cX0_addRun 6 = .ok (.getfield 25, 3) := by decide +kernel
theorem dX0_addRun_9 : decode cX0_addRun 9 = .ok (.ifCond .eq 4, 3) := by decide +kernel
theorem dX0_addRun_12 : decode cX0_addRun 12 = .ok (.return_, 1) := by decide +kernel
theorem dX0_addRun_13 : decode cX0_addRun 13 = .ok (.iload_n 2, 1) := by decide +kernel
theorem dX0_addRun_14 : decode cX0_addRun 14 = .ok (.sipush 999, 3) := by decide +kernel
theorem dX0_addRun_17 : decode cX0_addRun 17 = .ok (.aload_n 0, 1) := by decide +kernel
theorem dX0_addRun_18 : decode cX0_addRun 18 = .ok (.getfield 22, 3) := by decide +kernel
theorem dX0_addRun_21 : decode cX0_addRun 21 = .ok (.isub, 1) := by decide +kernel
theorem dX0_addRun_22 : decode cX0_addRun 22 = .ok (.if_icmp .le 11, 3) := by decide +kernel
theorem dX0_addRun_25 : decode cX0_addRun 25 = .ok (.aload_n 0, 1) := by decide +kernel
theorem dX0_addRun_26 : decode cX0_addRun 26 = .ok (.iconst 1, 1) := by decide +kernel
theorem dX0_addRun_27 : decode cX0_addRun 27 = .ok (.putfield 25, 3) := by decide +kernel
theorem dX0_addRun_30 : decode cX0_addRun 30 = .ok (.goto 119, 3) := by decide +kernel
theorem dX0_addRun_33 : decode cX0_addRun 33 = .ok (.aload_n 0, 1) := by decide +kernel
theorem dX0_addRun_34 : decode cX0_addRun 34 = .ok (.getfield 18, 3) := by decide +kernel
theorem dX0_addRun_37 : decode cX0_addRun 37 = .ok (.ifCond .le 55, 3) := by decide +kernel
theorem dX0_addRun_40 : decode cX0_addRun 40 = .ok (.aload_n 0, 1) := by decide +kernel
theorem dX0_addRun_41 : decode cX0_addRun 41 = .ok (.getfield 18, 3) := by decide +kernel
theorem dX0_addRun_44 : decode cX0_addRun 44 = .ok (.bipush 40, 2) := by decide +kernel
theorem dX0_addRun_46 : decode cX0_addRun 46 = .ok (.if_icmp .gt 46, 3) := by decide +kernel
theorem dX0_addRun_49 : decode cX0_addRun 49 = .ok (.aload_n 0, 1) := by decide +kernel
theorem dX0_addRun_50 : decode cX0_addRun 50 = .ok (.getfield 9, 3) := by decide +kernel
theorem dX0_addRun_53 : decode cX0_addRun 53 = .ok (.aload_n 0, 1) := by decide +kernel
theorem dX0_addRun_54 : decode cX0_addRun 54 = .ok (.getfield 18, 3) := by decide +kernel
theorem dX0_addRun_57 : decode cX0_addRun 57 = .ok (.iconst 1, 1) := by decide +kernel
theorem dX0_addRun_58 : decode cX0_addRun 58 = .ok (.isub, 1) := by decide +kernel
theorem dX0_addRun_59 : decode cX0_addRun 59 = .ok (.iaload, 1) := by decide +kernel
theorem dX0_addRun_60 : decode cX0_addRun 60 = .ok (.iload_n 1, 1) := by decide +kernel
theorem dX0_addRun_61 : decode cX0_addRun 61 = .ok (.if_icmp .ne 31, 3) := by decide +kernel
theorem dX0_addRun_64 : decode cX0_addRun 64 = .ok (.aload_n 0, 1) := by decide +kernel
theorem dX0_addRun_65 : decode cX0_addRun 65 = .ok (.getfield 15, 3) := by decide +kernel
theorem dX0_addRun_68 : decode cX0_addRun 68 = .ok (.aload_n 0, 1) := by decide +kernel
theorem dX0_addRun_69 : decode cX0_addRun 69 = .ok (.getfield 18, 3) := by decide +kernel
theorem dX0_addRun_72 : decode cX0_addRun 72 = .ok (.iconst 1, 1) := by decide +kernel
theorem dX0_addRun_73 : decode cX0_addRun 73 = .ok (.isub, 1) := by decide +kernel
theorem dX0_addRun_74 : decode cX0_addRun 74 = .ok (.dup2, 1) := by decide +kernel
theorem dX0_addRun_75 : decode cX0_addRun 75 = .ok (.iaload, 1) := by decide +kernel
theorem dX0_addRun_76 : decode cX0_addRun 76 = .ok (.iload_n 2, 1) := by decide +kernel
theorem dX0_addRun_77 : decode cX0_addRun 77 = .ok (.iadd, 1) := by decide +kernel
theorem dX0_addRun_78 : decode cX0_addRun 78 = .ok (.iastore, 1) := by decide +kernel
theorem dX0_addRun_79 : decode cX0_addRun 79 = .ok (.aload_n 0, 1) := by decide +kernel
theorem dX0_addRun_80 : decode cX0_addRun 80 = .ok (.dup, 1) := by decide +kernel
theorem dX0_addRun_81 : decode cX0_addRun 81 = .ok (.getfield 22, 3) := by decide +kernel
theorem dX0_addRun_84 : decode cX0_addRun 84 = .ok (.iload_n 2, 1) := by decide +kernel
theorem dX0_addRun_85 : decode cX0_addRun 85 = .ok (.iadd, 1) := by decide +kernel
theorem dX0_addRun_86 : decode cX0_addRun 86 = .ok (.putfield 22, 3) := by decide +kernel
theorem dX0_addRun_89 : decode cX0_addRun 89 = .ok (.goto 60, 3) := by decide +kernel
theorem dX0_addRun_92 : decode cX0_addRun 92 = .ok (.aload_n 0, 1) := by decide +kernel
theorem dX0_addRun_93 : decode cX0_addRun 93 = .ok (.getfield 18, 3) := by decide +kernel
theorem dX0_addRun_96 : decode cX0_addRun 96 = .ok (.bipush 40, 2) := by decide +kernel
theorem dX0_addRun_98 : decode cX0_addRun 98 = .ok (.if_icmp .ge 46, 3) := by decide +kernel
theorem dX0_addRun_101 : decode cX0_addRun 101 = .ok (.aload_n 0, 1) := by decide +kernel
theorem dX0_addRun_102 : decode cX0_addRun 102 = .ok (.getfield 9, 3) := by decide +kernel
theorem dX0_addRun_105 : decode cX0_addRun 105 = .ok (.aload_n 0, 1) := by decide +kernel
theorem dX0_addRun_106 : decode cX0_addRun 106 = .ok (.getfield 18, 3) := by decide +kernel
theorem dX0_addRun_109 : decode cX0_addRun 109 = .ok (.iload_n 1, 1) := by decide +kernel
theorem dX0_addRun_110 : decode cX0_addRun 110 = .ok (.iastore, 1) := by decide +kernel
theorem dX0_addRun_111 : decode cX0_addRun 111 = .ok (.aload_n 0, 1) := by decide +kernel
theorem dX0_addRun_112 : decode cX0_addRun 112 = .ok (.getfield 15, 3) := by decide +kernel
theorem dX0_addRun_115 : decode cX0_addRun 115 = .ok (.aload_n 0, 1) := by decide +kernel
theorem dX0_addRun_116 : decode cX0_addRun 116 = .ok (.getfield 18, 3) := by decide +kernel
theorem dX0_addRun_119 : decode cX0_addRun 119 = .ok (.iload_n 2, 1) := by decide +kernel
theorem dX0_addRun_120 : decode cX0_addRun 120 = .ok (.iastore, 1) := by decide +kernel
theorem dX0_addRun_121 : decode cX0_addRun 121 = .ok (.aload_n 0, 1) := by decide +kernel
theorem dX0_addRun_122 : decode cX0_addRun 122 = .ok (.dup, 1) := by decide +kernel
theorem dX0_addRun_123 : decode cX0_addRun 123 = .ok (.getfield 18, 3) := by decide +kernel
theorem dX0_addRun_126 : decode cX0_addRun 126 = .ok (.iconst 1, 1) := by decide +kernel
theorem dX0_addRun_127 : decode cX0_addRun 127 = .ok (.iadd, 1) := by decide +kernel
theorem dX0_addRun_128 : decode cX0_addRun 128 = .ok (.putfield 18, 3) := by decide +kernel
theorem dX0_addRun_131 : decode cX0_addRun 131 = .ok (.aload_n 0, 1) := by decide +kernel
theorem dX0_addRun_132 : decode cX0_addRun 132 = .ok (.dup, 1) := by decide +kernel
theorem dX0_addRun_133 : decode cX0_addRun 133 = .ok (.getfield 22, 3) := by decide +kernel
theorem dX0_addRun_136 : decode cX0_addRun 136 = .ok (.iload_n 2, 1) := by decide +kernel
theorem dX0_addRun_137 : decode cX0_addRun 137 = .ok (.iadd, 1) := by decide +kernel
theorem dX0_addRun_138 : decode cX0_addRun 138 = .ok (.putfield 22, 3) := by decide +kernel
theorem dX0_addRun_141 : decode cX0_addRun 141 = .ok (.goto 8, 3) := by decide +kernel
theorem dX0_addRun_144 : decode cX0_addRun 144 = .ok (.aload_n 0, 1) := by decide +kernel
theorem dX0_addRun_145 : decode cX0_addRun 145 = .ok (.iconst 1, 1) := by decide +kernel
theorem dX0_addRun_146 : decode cX0_addRun 146 = .ok (.putfield 25, 3) := by decide +kernel
theorem dX0_addRun_149 : decode cX0_addRun 149 = .ok (.return_, 1) := by decide +kernel
theorem dX0_addRows_0 : decode cX0_addRows 0 = .ok (.iconst 0, 1) := by decide +kernel
theorem dX0_addRows_1 : decode cX0_addRows 1 = .ok (.istore 4, 2) := by decide +kernel
theorem dX0_addRows_3 : decode cX0_addRows 3 = .ok (.iconst 0, 1) := by decide +kernel
theorem dX0_addRows_4 : decode cX0_addRows 4 = .ok (.istore 5, 2) := by decide +kernel
theorem dX0_addRows_6 : decode cX0_addRows 6 = .ok (.iload 5, 2) := by decide +kernel
theorem dX0_addRows_8 : decode cX0_addRows 8 = .ok (.aload_n 1, 1) := by decide +kernel
theorem dX0_addRows_9 : decode cX0_addRows 9 = .ok (.getfield 18, 3) := by decide +kernel
theorem dX0_addRows_12 : decode cX0_addRows 12 = .ok (.if_icmp .ge 49, 3) := by decide +kernel
theorem dX0_addRows_15 : decode cX0_addRows 15 = .ok (.iload 4, 2) := by decide +kernel
theorem dX0_addRows_17 : decode cX0_addRows 17 = .ok (.aload_n 1, 1) := by decide +kernel
theorem dX0_addRows_18 : decode cX0_addRows 18 = .ok (.getfield 15, 3) := by decide +kernel
theorem dX0_addRows_21 : decode cX0_addRows 21 = .ok (.iload 5, 2) := by decide +kernel
theorem dX0_addRows_23 : decode cX0_addRows 23 = .ok (.iaload, 1) := by decide +kernel
theorem dX0_addRows_24 : decode cX0_addRows 24 = .ok (.iadd, 1) := by decide +kernel
theorem dX0_addRows_25 : decode cX0_addRows 25 = .ok (.istore 6, 2) := by decide +kernel
theorem dX0_addRows_27 : decode cX0_addRows 27 = .ok (.aload_n 0, 1) := by decide +kernel
theorem dX0_addRows_28 : decode cX0_addRows 28 = .ok (.aload_n 1, 1) := by decide +kernel
theorem dX0_addRows_29 : decode cX0_addRows 29 = .ok (.getfield 9, 3) := by decide +kernel
theorem dX0_addRows_32 : decode cX0_addRows 32 = .ok (.iload 5, 2) := by decide +kernel
theorem dX0_addRows_34 : decode cX0_addRows 34 = .ok (.iaload, 1) := by decide +kernel
theorem dX0_addRows_35 : decode cX0_addRows 35 = .ok (.iload 6, 2) := by decide +kernel
theorem dX0_addRows_37 : decode cX0_addRows 37 = .ok (.iload_n 3, 1) := by decide +kernel
theorem dX0_addRows_38 : decode cX0_addRows 38 = .ok (.invokestatic 57, 3) := by decide +kernel
theorem dX0_addRows_41 : decode cX0_addRows 41 = .ok (.iload 4, 2) := by decide +kernel
theorem dX0_addRows_43 : decode cX0_addRows 43 = .ok (.iload_n 2, 1) := by decide +kernel
theorem dX0_addRows_44 : decode cX0_addRows 44 = .ok (.invokestatic 36, 3) := by decide +kernel
theorem dX0_addRows_47 : decode cX0_addRows 47 = .ok (.isub, 1) := by decide +kernel
theorem dX0_addRows_48 : decode cX0_addRows 48 = .ok (.invokevirtual 60, 3) := by decide +kernel
theorem dX0_addRows_51 : decode cX0_addRows 51 = .ok (.iload 6, 2) := by decide +kernel
theorem dX0_addRows_53 : decode cX0_addRows 53 = .ok (.istore 4, 2) := by decide +kernel
theorem dX0_addRows_55 : decode cX0_addRows 55 = .ok (.iinc 5 1, 3) := by decide +kernel
theorem dX0_addRows_58 : decode cX0_addRows 58 = .ok (.goto (-52), 3) := by decide +kernel
theorem dX0_addRows_61 : decode cX0_addRows 61 = .ok (.return_, 1) := by decide +kernel
theorem dX0_addTurned_0 : decode cX0_addTurned 0 = .ok (.aload_n 1, 1) := by decide +kernel
theorem dX0_addTurned_1 : decode cX0_addTurned 1 = .ok (.getfield 18, 3) := by decide +kernel
theorem dX0_addTurned_4 : decode cX0_addTurned 4 = .ok (.iconst 1, 1) := by decide +kernel
theorem dX0_addTurned_5 : decode cX0_addTurned 5 = .ok (.isub, 1) := by decide +kernel
theorem dX0_addTurned_6 : decode cX0_addTurned 6 = .ok (.istore_n 2, 1) := by decide +kernel
theorem dX0_addTurned_7 : decode cX0_addTurned 7 = .ok (.iload_n 2, 1) := by decide +kernel
theorem dX0_addTurned_8 : decode cX0_addTurned 8 = .ok (.ifCond .lt 25, 3) := by decide +kernel
theorem dX0_addTurned_11 : decode cX0_addTurned 11 = .ok (.aload_n 0, 1) := by decide +kernel
theorem dX0_addTurned_12 : decode cX0_addTurned 12 = .ok (.aload_n 1, 1) := by decide +kernel
theorem dX0_addTurned_13 : decode cX0_addTurned 13 = .ok (.getfield 9, 3) := by decide +kernel
theorem dX0_addTurned_16 : decode cX0_addTurned 16 = .ok (.iload_n 2, 1) := by decide +kernel
theorem dX0_addTurned_17 : decode cX0_addTurned 17 = .ok (.iaload, 1) := by decide +kernel
theorem dX0_addTurned_18 : decode cX0_addTurned 18 = .ok (.aload_n 1, 1) := by decide +kernel
theorem dX0_addTurned_19 : decode cX0_addTurned 19 = .ok (.getfield 15, 3) := by decide +kernel
theorem dX0_addTurned_22 : decode cX0_addTurned 22 = .ok (.iload_n 2, 1) := by decide +kernel
theorem dX0_addTurned_23 : decode cX0_addTurned 23 = .ok (.iaload, 1) := by decide +kernel
theorem dX0_addTurned_24 : decode cX0_addTurned 24 = .ok (.invokevirtual 60, 3) := by decide +kernel
theorem dX0_addTurned_27 : decode cX0_addTurned 27 = .ok (.iinc 2 (-1), 3) := by decide +kernel
theorem dX0_addTurned_30 : decode cX0_addTurned 30 = .ok (.goto (-23), 3) := by decide +kernel
theorem dX0_addTurned_33 : decode cX0_addTurned 33 = .ok (.return_, 1) := by decide +kernel
theorem dX1_init_0 : decode cX1_init 0 = .ok (.aload_n 0, 1) := by decide +kernel
theorem dX1_init_1 : decode cX1_init 1 = .ok (.invokespecial 3, 3) := by decide +kernel
theorem dX1_init_4 : decode cX1_init 4 = .ok (.aload_n 0, 1) := by decide +kernel
theorem dX1_init_5 : decode cX1_init 5 = .ok (.bipush 6, 2) := by decide +kernel
theorem dX1_init_7 : decode cX1_init 7 = .ok (.anewarray 9, 3) := by decide +kernel
theorem dX1_init_10 : decode cX1_init 10 = .ok (.putfield 11, 3) := by decide +kernel
theorem dX1_init_13 : decode cX1_init 13 = .ok (.iconst 0, 1) := by decide +kernel
theorem dX1_init_14 : decode cX1_init 14 = .ok (.istore_n 1, 1) := by decide +kernel
theorem dX1_init_15 : decode cX1_init 15 = .ok (.iload_n 1, 1) := by decide +kernel
theorem dX1_init_16 : decode cX1_init 16 = .ok (.bipush 6, 2) := by decide +kernel
theorem dX1_init_18 : decode cX1_init 18 = .ok (.if_icmp .ge 22, 3) := by decide +kernel
theorem dX1_init_21 : decode cX1_init 21 = .ok (.aload_n 0, 1) := by decide +kernel
theorem dX1_init_22 : decode cX1_init 22 = .ok (.getfield 11, 3) := by decide +kernel
theorem dX1_init_25 : decode cX1_init 25 = .ok (.iload_n 1, 1) := by decide +kernel
theorem dX1_init_26 : decode cX1_init 26 = .ok (.new 9, 3) := by decide +kernel
theorem dX1_init_29 : decode cX1_init 29 = .ok (.dup, 1) := by decide +kernel
theorem dX1_init_30 : decode cX1_init 30 = .ok (.invokespecial 17, 3) := by decide +kernel
theorem dX1_init_33 : decode cX1_init 33 = .ok (.aastore, 1) := by decide +kernel
theorem dX1_init_34 : decode cX1_init 34 = .ok (.iinc 1 1, 3) := by decide +kernel
theorem dX1_init_37 : decode cX1_init 37 = .ok (.goto (-22), 3) := by decide +kernel
theorem dX1_init_40 : decode cX1_init 40 = .ok (.return_, 1) := by decide +kernel
theorem dX1_kept_0 : decode cX1_kept 0 = .ok (.aload_n 0, 1) := by decide +kernel
theorem dX1_kept_1 : decode cX1_kept 1 = .ok (.getfield 18, 3) := by decide +kernel
theorem dX1_kept_4 : decode cX1_kept 4 = .ok (.ireturn, 1) := by decide +kernel
theorem dX1_record_0 : decode cX1_record 0 = .ok (.aload_n 0, 1) := by decide +kernel
theorem dX1_record_1 : decode cX1_record 1 = .ok (.getfield 11, 3) := by decide +kernel
theorem dX1_record_4 : decode cX1_record 4 = .ok (.aload_n 0, 1) := by decide +kernel
theorem dX1_record_5 : decode cX1_record 5 = .ok (.getfield 22, 3) := by decide +kernel
theorem dX1_record_8 : decode cX1_record 8 = .ok (.aload_n 0, 1) := by decide +kernel
theorem dX1_record_9 : decode cX1_record 9 = .ok (.getfield 18, 3) := by decide +kernel
theorem dX1_record_12 : decode cX1_record 12 = .ok (.iadd, 1) := by decide +kernel
theorem dX1_record_13 : decode cX1_record 13 = .ok (.bipush 6, 2) := by decide +kernel
theorem dX1_record_15 : decode cX1_record 15 = .ok (.irem, 1) := by decide +kernel
theorem dX1_record_16 : decode cX1_record 16 = .ok (.aaload, 1) := by decide +kernel
theorem dX1_record_17 : decode cX1_record 17 = .ok (.aload_n 1, 1) := by decide +kernel
theorem dX1_record_18 : decode cX1_record 18 = .ok (.invokevirtual 25, 3) := by decide +kernel
theorem dX1_record_21 : decode cX1_record 21 = .ok (.aload_n 0, 1) := by decide +kernel
theorem dX1_record_22 : decode cX1_record 22 = .ok (.getfield 18, 3) := by decide +kernel
theorem dX1_record_25 : decode cX1_record 25 = .ok (.bipush 6, 2) := by decide +kernel
theorem dX1_record_27 : decode cX1_record 27 = .ok (.if_icmp .ge 16, 3) := by decide +kernel
theorem dX1_record_30 : decode cX1_record 30 = .ok (.aload_n 0, 1) := by decide +kernel
theorem dX1_record_31 : decode cX1_record 31 = .ok (.dup, 1) := by decide +kernel
theorem dX1_record_32 : decode cX1_record 32 = .ok (.getfield 18, 3) := by decide +kernel
theorem dX1_record_35 : decode cX1_record 35 = .ok (.iconst 1, 1) := by decide +kernel
theorem dX1_record_36 : decode cX1_record 36 = .ok (.iadd, 1) := by decide +kernel
theorem dX1_record_37 : decode cX1_record 37 = .ok (.putfield 18, 3) := by decide +kernel
theorem dX1_record_40 : decode cX1_record 40 = .ok (.goto 16, 3) := by decide +kernel
theorem dX1_record_43 : decode cX1_record 43 = .ok (.aload_n 0, 1) := by decide +kernel
theorem dX1_record_44 : decode cX1_record 44 = .ok (.aload_n 0, 1) := by decide +kernel
theorem dX1_record_45 : decode cX1_record 45 = .ok (.getfield 22, 3) := by decide +kernel
theorem dX1_record_48 : decode cX1_record 48 = .ok (.iconst 1, 1) := by decide +kernel
theorem dX1_record_49 : decode cX1_record 49 = .ok (.iadd, 1) := by decide +kernel
theorem dX1_record_50 : decode cX1_record 50 = .ok (.bipush 6, 2) := by decide +kernel
theorem dX1_record_52 : decode cX1_record 52 = .ok (.irem, 1) := by decide +kernel
theorem dX1_record_53 : decode cX1_record 53 = .ok (.putfield 22, 3) := by decide +kernel
theorem dX1_record_56 : decode cX1_record 56 = .ok (.return_, 1) := by decide +kernel
theorem dX1_takeBack_0 : decode cX1_takeBack 0 = .ok (.aload_n 0, 1) := by decide +kernel
theorem dX1_takeBack_1 : decode cX1_takeBack 1 = .ok (.getfield 18, 3) := by decide +kernel
theorem dX1_takeBack_4 : decode cX1_takeBack 4 = .ok (.ifCond .le 34, 3) := by decide +kernel
theorem dX1_takeBack_7 : decode cX1_takeBack 7 = .ok (.aload_n 0, 1) := by decide +kernel
theorem dX1_takeBack_8 : decode cX1_takeBack 8 = .ok (.dup, 1) := by decide +kernel
theorem dX1_takeBack_9 : decode cX1_takeBack 9 = .ok (.getfield 18, 3) := by decide +kernel
theorem dX1_takeBack_12 : decode cX1_takeBack 12 = .ok (.iconst 1, 1) := by decide +kernel
theorem dX1_takeBack_13 : decode cX1_takeBack 13 = .ok (.isub, 1) := by decide +kernel
theorem dX1_takeBack_14 : decode cX1_takeBack 14 = .ok (.putfield 18, 3) := by decide +kernel
theorem dX1_takeBack_17 : decode cX1_takeBack 17 = .ok (.aload_n 1, 1) := by decide +kernel
theorem dX1_takeBack_18 : decode cX1_takeBack 18 = .ok (.aload_n 0, 1) := by decide +kernel
theorem dX1_takeBack_19 : decode cX1_takeBack 19 = .ok (.getfield 11, 3) := by decide +kernel
theorem dX1_takeBack_22 : decode cX1_takeBack 22 = .ok (.aload_n 0, 1) := by decide +kernel
theorem dX1_takeBack_23 : decode cX1_takeBack 23 = .ok (.getfield 22, 3) := by decide +kernel
theorem dX1_takeBack_26 : decode cX1_takeBack 26 = .ok (.aload_n 0, 1) := by decide +kernel
theorem dX1_takeBack_27 : decode cX1_takeBack 27 = .ok (.getfield 18, 3) := by decide +kernel
theorem dX1_takeBack_30 : decode cX1_takeBack 30 = .ok (.iadd, 1) := by decide +kernel
theorem dX1_takeBack_31 : decode cX1_takeBack 31 = .ok (.bipush 6, 2) := by decide +kernel
theorem dX1_takeBack_33 : decode cX1_takeBack 33 = .ok (.irem, 1) := by decide +kernel
theorem dX1_takeBack_34 : decode cX1_takeBack 34 = .ok (.aaload, 1) := by decide +kernel
theorem dX1_takeBack_35 : decode cX1_takeBack 35 = .ok (.invokevirtual 25, 3) := by decide +kernel
theorem dX1_takeBack_38 : decode cX1_takeBack 38 = .ok (.return_, 1) := by decide +kernel
theorem dX2_init_0 : decode cX2_init 0 = .ok (.aload_n 0, 1) := by decide +kernel
theorem dX2_init_1 : decode cX2_init 1 = .ok (.invokespecial 3, 3) := by decide +kernel
theorem dX2_init_4 : decode cX2_init 4 = .ok (.aload_n 0, 1) := by decide +kernel
theorem dX2_init_5 : decode cX2_init 5 = .ok (.bipush 40, 2) := by decide +kernel
theorem dX2_init_7 : decode cX2_init 7 = .ok (.newarray .int, 2) := by decide +kernel
theorem dX2_init_9 : decode cX2_init 9 = .ok (.putfield 9, 3) := by decide +kernel
theorem dX2_init_12 : decode cX2_init 12 = .ok (.aload_n 0, 1) := by decide +kernel
theorem dX2_init_13 : decode cX2_init 13 = .ok (.bipush 40, 2) := by decide +kernel
theorem dX2_init_15 : decode cX2_init 15 = .ok (.newarray .int, 2) := by decide +kernel
theorem dX2_init_17 : decode cX2_init 17 = .ok (.putfield 15, 3) := by decide +kernel
theorem dX2_init_20 : decode cX2_init 20 = .ok (.aload_n 0, 1) := by decide +kernel
theorem dX2_init_21 : decode cX2_init 21 = .ok (.aload_n 1, 1) := by decide +kernel
theorem dX2_init_22 : decode cX2_init 22 = .ok (.putfield 18, 3) := by decide +kernel
theorem dX2_init_25 : decode cX2_init 25 = .ok (.return_, 1) := by decide +kernel
theorem dX2_column_0 : decode cX2_column 0 = .ok (.aload_n 0, 1) := by decide +kernel
theorem dX2_column_1 : decode cX2_column 1 = .ok (.getfield 22, 3) := by decide +kernel
theorem dX2_column_4 : decode cX2_column 4 = .ok (.ireturn, 1) := by decide +kernel
theorem dX2_kind_0 : decode cX2_kind 0 = .ok (.aload_n 0, 1) := by decide +kernel
theorem dX2_kind_1 : decode cX2_kind 1 = .ok (.getfield 26, 3) := by decide +kernel
theorem dX2_kind_4 : decode cX2_kind 4 = .ok (.ireturn, 1) := by decide +kernel
theorem dX2_row_0 : decode cX2_row 0 = .ok (.aload_n 0, 1) := by decide +kernel
theorem dX2_row_1 : decode cX2_row 1 = .ok (.getfield 30, 3) := by decide +kernel
theorem dX2_row_4 : decode cX2_row 4 = .ok (.ireturn, 1) := by decide +kernel
theorem dX2_operand_0 : decode cX2_operand 0 = .ok (.aload_n 0, 1) := by decide +kernel
theorem dX2_operand_1 : decode cX2_operand 1 = .ok (.getfield 33, 3) := by decide +kernel
theorem dX2_operand_4 : decode cX2_operand 4 = .ok (.ireturn, 1) := by decide +kernel
theorem dX2_runs_0 : decode cX2_runs 0 = .ok (.aload_n 0, 1) := by decide +kernel
theorem dX2_runs_1 : decode cX2_runs 1 = .ok (.getfield 36, 3) := by decide +kernel
theorem dX2_runs_4 : decode cX2_runs 4 = .ok (.ireturn, 1) := by decide +kernel
theorem dX2_valueOfRun_0 : decode cX2_valueOfRun 0 = .ok (.iload_n 1, 1) := by decide +kernel
theorem dX2_valueOfRun_1 : decode cX2_valueOfRun 1 = .ok (.ifCond .lt 20, 3) := by decide +kernel
theorem dX2_valueOfRun_4 : decode cX2_valueOfRun 4 = .ok (.iload_n 1, 1) := by decide +kernel
theorem dX2_valueOfRun_5 : decode cX2_valueOfRun 5 = .ok (.aload_n 0, 1) := by decide +kernel
theorem dX2_valueOfRun_6 : decode cX2_valueOfRun 6 = .ok (.getfield 36, 3) := by decide +kernel
theorem dX2_valueOfRun_9 : decode cX2_valueOfRun 9 = .ok (.if_icmp .ge 12, 3) := by decide +kernel
theorem dX2_valueOfRun_12 : decode cX2_valueOfRun 12 = .ok (.aload_n 0, 1) := by decide +kernel
theorem dX2_valueOfRun_13 : decode cX2_valueOfRun 13 = .ok (.getfield 9, 3) := by decide +kernel
theorem dX2_valueOfRun_16 : decode cX2_valueOfRun 16 = .ok (.iload_n 1, 1) := by decide +kernel
theorem dX2_valueOfRun_17 : decode cX2_valueOfRun 17 = .ok (.iaload, 1) := by decide +kernel
theorem dX2_valueOfRun_18 : decode cX2_valueOfRun 18 = .ok (.goto 5, 3) := by decide +kernel
theorem dX2_valueOfRun_21 : decode cX2_valueOfRun 21 = .ok (.bipush (-6), 2) := by decide +kernel
theorem dX2_valueOfRun_23 : decode cX2_valueOfRun 23 = .ok (.ireturn, 1) := by decide +kernel
theorem dX2_lengthOfRun_0 : decode cX2_lengthOfRun 0 = .ok (.iload_n 1, 1) := by decide +kernel
theorem dX2_lengthOfRun_1 : decode cX2_lengthOfRun 1 = .ok (.ifCond .lt 20, 3) := by decide +kernel
theorem dX2_lengthOfRun_4 : decode cX2_lengthOfRun 4 = .ok (.iload_n 1, 1) := by decide +kernel
theorem dX2_lengthOfRun_5 : decode cX2_lengthOfRun 5 = .ok (.aload_n 0, 1) := by decide +kernel
theorem dX2_lengthOfRun_6 : decode cX2_lengthOfRun 6 = .ok (.getfield 36, 3) := by decide +kernel
theorem dX2_lengthOfRun_9 : decode cX2_lengthOfRun 9 = .ok (.if_icmp .ge 12, 3) := by decide +kernel
theorem dX2_lengthOfRun_12 : decode cX2_lengthOfRun 12 = .ok (.aload_n 0, 1) := by decide +kernel
theorem dX2_lengthOfRun_13 : decode cX2_lengthOfRun 13 = .ok (.getfield 15, 3) := by decide +kernel
theorem dX2_lengthOfRun_16 : decode cX2_lengthOfRun 16 = .ok (.iload_n 1, 1) := by decide +kernel
theorem dX2_lengthOfRun_17 : decode cX2_lengthOfRun 17 = .ok (.iaload, 1) := by decide +kernel
theorem dX2_lengthOfRun_18 : decode cX2_lengthOfRun 18 = .ok (.goto 4, 3) := by decide +kernel
theorem dX2_lengthOfRun_21 : decode cX2_lengthOfRun 21 = .ok (.iconst 0, 1) := by decide +kernel
theorem dX2_lengthOfRun_22 : decode cX2_lengthOfRun 22 = .ok (.ireturn, 1) := by decide +kernel
theorem dX2_start_0 : decode cX2_start 0 = .ok (.aload_n 0, 1) := by decide +kernel
theorem dX2_start_1 : decode cX2_start 1 = .ok (.iconst 0, 1) := by decide +kernel
theorem dX2_start_2 : decode cX2_start 2 = .ok (.putfield 39, 3) := by decide +kernel
theorem dX2_start_5 : decode cX2_start 5 = .ok (.return_, 1) := by decide +kernel
theorem dX2_firstFault_0 : decode cX2_firstFault 0 = .ok (.aload_n 0, 1) := by decide +kernel
theorem dX2_firstFault_1 : decode cX2_firstFault 1 = .ok (.invokevirtual 42, 3) := by decide +kernel
theorem dX2_firstFault_4 : decode cX2_firstFault 4 = .ok (.iconst 0, 1) := by decide +kernel
theorem dX2_firstFault_5 : decode cX2_firstFault 5 = .ok (.istore_n 1, 1) := by decide +kernel
theorem dX2_firstFault_6 : decode cX2_firstFault 6 = .ok (.iload_n 1, 1) := by decide +kernel
theorem dX2_firstFault_7 : decode cX2_firstFault 7 = .ok (.bipush 80, 2) := by decide +kernel
theorem dX2_firstFault_9 : decode cX2_firstFault 9 = .ok (.if_icmp .ge 54, 3) := by decide +kernel
theorem dX2_firstFault_12 : decode cX2_firstFault 12 = .ok (.aload_n 0, 1) := by decide +kernel
theorem dX2_firstFault_13 : decode cX2_firstFault 13 = .ok (.invokevirtual 45, 3) := by decide +kernel
theorem dX2_firstFault_16 : decode cX2_firstFault 16 = .ok (.ifCond .ne 8, 3) := by decide +kernel
theorem dX2_firstFault_19 : decode cX2_firstFault 19 = .ok (.aload_n 0, 1) := by decide +kernel
theorem dX2_firstFault_20 : decode cX2_firstFault 20 = .ok (.getfield 39, 3) := by decide +kernel
theorem dX2_firstFault_23 : decode cX2_firstFault 23 = .ok (.ireturn, 1) := by decide +kernel
theorem dX2_firstFault_24 : decode cX2_firstFault 24 = .ok (.aload_n 0, 1) := by decide +kernel
theorem dX2_firstFault_25 : decode cX2_firstFault 25 = .ok (.bipush 59, 2) := by decide +kernel
theorem dX2_firstFault_27 : decode cX2_firstFault 27 = .ok (.invokevirtual 49, 3) := by decide +kernel
theorem dX2_firstFault_30 : decode cX2_firstFault 30 = .ok (.ifCond .ne 27, 3) := by decide +kernel
theorem dX2_firstFault_33 : decode cX2_firstFault 33 = .ok (.aload_n 0, 1) := by decide +kernel
theorem dX2_firstFault_34 : decode cX2_firstFault 34 = .ok (.getfield 39, 3) := by decide +kernel
theorem dX2_firstFault_37 : decode cX2_firstFault 37 = .ok (.aload_n 0, 1) := by decide +kernel
theorem dX2_firstFault_38 : decode cX2_firstFault 38 = .ok (.getfield 18, 3) := by decide +kernel
theorem dX2_firstFault_41 : decode cX2_firstFault 41 = .ok (.invokevirtual 53, 3) := by decide +kernel
theorem dX2_firstFault_44 : decode cX2_firstFault 44 = .ok (.if_icmp .ne 8, 3) := by decide +kernel
theorem dX2_firstFault_47 : decode cX2_firstFault 47 = .ok (.bipush (-6), 2) := by decide +kernel
theorem dX2_firstFault_49 : decode cX2_firstFault 49 = .ok (.goto 7, 3) := by decide +kernel
theorem dX2_firstFault_52 : decode cX2_firstFault 52 = .ok (.aload_n 0, 1) := by decide +kernel
theorem dX2_firstFault_53 : decode cX2_firstFault 53 = .ok (.getfield 39, 3) := by decide +kernel
theorem dX2_firstFault_56 : decode cX2_firstFault 56 = .ok (.ireturn, 1) := by decide +kernel
theorem dX2_firstFault_57 : decode cX2_firstFault 57 = .ok (.iinc 1 1, 3) := by decide +kernel
theorem dX2_firstFault_60 : decode cX2_firstFault 60 = .ok (.goto (-54), 3) := by decide +kernel
theorem dX2_firstFault_63 : decode cX2_firstFault 63 = .ok (.aload_n 0, 1) := by decide +kernel
theorem dX2_firstFault_64 : decode cX2_firstFault 64 = .ok (.getfield 39, 3) := by decide +kernel
theorem dX2_firstFault_67 : decode cX2_firstFault 67 = .ok (.ireturn, 1) := by decide +kernel
theorem dX2_readOrder_0 : decode cX2_readOrder 0 = .ok (.aload_n 0, 1) := by decide +kernel
theorem dX2_readOrder_1 : decode cX2_readOrder 1 = .ok (.iconst 3, 1) := by decide +kernel
theorem dX2_readOrder_2 : decode cX2_readOrder 2 = .ok (.invokevirtual 59, 3) := by decide +kernel
theorem dX2_readOrder_5 : decode cX2_readOrder 5 = .ok (.ifCond .ne 5, 3) := by decide +kernel
theorem dX2_readOrder_8 : decode cX2_readOrder 8 = .ok (.iconst 0, 1) := by decide +kernel
theorem dX2_readOrder_9 : decode cX2_readOrder 9 = .ok (.ireturn, 1) := by decide +kernel
theorem dX2_readOrder_10 : decode cX2_readOrder 10 = .ok (.aload_n 0, 1) := by decide +kernel
theorem dX2_readOrder_11 : decode cX2_readOrder 11 = .ok (.aload_n 0, 1) := by decide +kernel
theorem dX2_readOrder_12 : decode cX2_readOrder 12 = .ok (.getfield 63, 3) := by decide +kernel
theorem dX2_readOrder_15 : decode cX2_readOrder 15 = .ok (.putfield 22, 3) := by decide +kernel
theorem dX2_readOrder_18 : decode cX2_readOrder 18 = .ok (.aload_n 0, 1) := by decide +kernel
theorem dX2_readOrder_19 : decode cX2_readOrder 19 = .ok (.aload_n 0, 1) := by decide +kernel
theorem dX2_readOrder_20 : decode cX2_readOrder 20 = .ok (.getfield 18, 3) := by decide +kernel
theorem dX2_readOrder_23 : decode cX2_readOrder 23 = .ok (.aload_n 0, 1) := by decide +kernel
theorem dX2_readOrder_24 : decode cX2_readOrder 24 = .ok (.getfield 39, 3) := by decide +kernel
theorem dX2_readOrder_27 : decode cX2_readOrder 27 = .ok (.invokevirtual 66, 3) := by decide +kernel
theorem dX2_readOrder_30 : decode cX2_readOrder 30 = .ok (.putfield 26, 3) := by decide +kernel
theorem dX2_readOrder_33 : decode cX2_readOrder 33 = .ok (.aload_n 0, 1) := by decide +kernel
theorem dX2_readOrder_34 : decode cX2_readOrder 34 = .ok (.bipush 61, 2) := by decide +kernel
theorem dX2_readOrder_36 : decode cX2_readOrder 36 = .ok (.invokevirtual 49, 3) := by decide +kernel
theorem dX2_readOrder_39 : decode cX2_readOrder 39 = .ok (.ifCond .ne 12, 3) := by decide +kernel
theorem dX2_readOrder_42 : decode cX2_readOrder 42 = .ok (.aload_n 0, 1) := by decide +kernel
theorem dX2_readOrder_43 : decode cX2_readOrder 43 = .ok (.bipush 43, 2) := by decide +kernel
theorem dX2_readOrder_45 : decode cX2_readOrder 45 = .ok (.invokevirtual 49, 3) := by decide +kernel
theorem dX2_readOrder_48 : decode cX2_readOrder 48 = .ok (.ifCond .eq 8, 3) := by decide +kernel
theorem dX2_readOrder_51 : decode cX2_readOrder 51 = .ok (.aload_n 0, 1) := by decide +kernel
theorem dX2_readOrder_52 : decode cX2_readOrder 52 = .ok (.invokevirtual 70, 3) := by decide +kernel
theorem dX2_readOrder_55 : decode cX2_readOrder 55 = .ok (.ireturn, 1) := by decide +kernel
theorem dX2_readOrder_56 : decode cX2_readOrder 56 = .ok (.aload_n 0, 1) := by decide +kernel
theorem dX2_readOrder_57 : decode cX2_readOrder 57 = .ok (.bipush 45, 2) := by decide +kernel
theorem dX2_readOrder_59 : decode cX2_readOrder 59 = .ok (.invokevirtual 49, 3) := by decide +kernel
theorem dX2_readOrder_62 : decode cX2_readOrder 62 = .ok (.ifCond .eq 39, 3) := by decide +kernel
theorem dX2_readOrder_65 : decode cX2_readOrder 65 = .ok (.aload_n 0, 1) := by decide +kernel
theorem dX2_readOrder_66 : decode cX2_readOrder 66 = .ok (.invokevirtual 73, 3) := by decide +kernel
theorem dX2_readOrder_69 : decode cX2_readOrder 69 = .ok (.ifCond .eq 30, 3) := by decide +kernel
theorem dX2_readOrder_72 : decode cX2_readOrder 72 = .ok (.aload_n 0, 1) := by decide +kernel
theorem dX2_readOrder_73 : decode cX2_readOrder 73 = .ok (.bipush 42, 2) := by decide +kernel
theorem dX2_readOrder_75 : decode cX2_readOrder 75 = .ok (.invokevirtual 49, 3) := by decide +kernel
theorem dX2_readOrder_78 : decode cX2_readOrder 78 = .ok (.ifCond .eq 21, 3) := by decide +kernel
theorem dX2_readOrder_81 : decode cX2_readOrder 81 = .ok (.aload_n 0, 1) := by decide +kernel
theorem dX2_readOrder_82 : decode cX2_readOrder 82 = .ok (.invokevirtual 76, 3) := by decide +kernel
theorem dX2_readOrder_85 : decode cX2_readOrder 85 = .ok (.ifCond .eq 14, 3) := by decide +kernel
theorem dX2_readOrder_88 : decode cX2_readOrder 88 = .ok (.aload_n 0, 1) := by decide +kernel
theorem dX2_readOrder_89 : decode cX2_readOrder 89 = .ok (.invokevirtual 79, 3) := by decide +kernel
theorem dX2_readOrder_92 : decode cX2_readOrder 92 = .ok (.ifCond .eq 7, 3) := by decide +kernel
theorem dX2_readOrder_95 : decode cX2_readOrder 95 = .ok (.iconst 1, 1) := by decide +kernel
theorem dX2_readOrder_96 : decode cX2_readOrder 96 = .ok (.goto 4, 3) := by decide +kernel
theorem dX2_readOrder_99 : decode cX2_readOrder 99 = .ok (.iconst 0, 1) := by decide +kernel
theorem dX2_readOrder_100 : decode cX2_readOrder 100 = .ok (.ireturn, 1) := by decide +kernel
theorem dX2_readOrder_101 : decode cX2_readOrder 101 = .ok (.aload_n 0, 1) := by decide +kernel
theorem dX2_readOrder_102 : decode cX2_readOrder 102 = .ok (.bipush 64, 2) := by decide +kernel
theorem dX2_readOrder_104 : decode cX2_readOrder 104 = .ok (.invokevirtual 49, 3) := by decide +kernel
theorem dX2_readOrder_107 : decode cX2_readOrder 107 = .ok (.ifCond .eq 41, 3) := by decide +kernel
theorem dX2_readOrder_110 : decode cX2_readOrder 110 = .ok (.aload_n 0, 1) := by decide +kernel
theorem dX2_readOrder_111 : decode cX2_readOrder 111 = .ok (.invokevirtual 73, 3) := by decide +kernel
theorem dX2_readOrder_114 : decode cX2_readOrder 114 = .ok (.ifCond .eq 32, 3) := by decide +kernel
theorem dX2_readOrder_117 : decode cX2_readOrder 117 = .ok (.aload_n 0, 1) := by decide +kernel
theorem dX2_readOrder_118 : decode cX2_readOrder 118 = .ok (.bipush 61, 2) := by decide +kernel
theorem dX2_readOrder_120 : decode cX2_readOrder 120 = .ok (.invokevirtual 49, 3) := by decide +kernel
theorem dX2_readOrder_123 : decode cX2_readOrder 123 = .ok (.ifCond .eq 23, 3) := by decide +kernel
theorem dX2_readOrder_126 : decode cX2_readOrder 126 = .ok (.aload_n 0, 1) := by decide +kernel
theorem dX2_readOrder_127 : decode cX2_readOrder 127 = .ok (.bipush 9, 2) := by decide +kernel
theorem dX2_readOrder_129 : decode cX2_readOrder 129 = .ok (.invokevirtual 59, 3) := by decide +kernel
theorem dX2_readOrder_132 : decode cX2_readOrder 132 = .ok (.ifCond .eq 14, 3) := by decide +kernel
theorem dX2_readOrder_135 : decode cX2_readOrder 135 = .ok (.aload_n 0, 1) := by decide +kernel
theorem dX2_readOrder_136 : decode cX2_readOrder 136 = .ok (.invokevirtual 79, 3) := by decide +kernel
theorem dX2_readOrder_139 : decode cX2_readOrder 139 = .ok (.ifCond .eq 7, 3) := by decide +kernel
theorem dX2_readOrder_142 : decode cX2_readOrder 142 = .ok (.iconst 1, 1) := by decide +kernel
theorem dX2_readOrder_143 : decode cX2_readOrder 143 = .ok (.goto 4, 3) := by decide +kernel
theorem dX2_readOrder_146 : decode cX2_readOrder 146 = .ok (.iconst 0, 1) := by decide +kernel
theorem dX2_readOrder_147 : decode cX2_readOrder 147 = .ok (.ireturn, 1) := by decide +kernel
theorem dX2_readOrder_148 : decode cX2_readOrder 148 = .ok (.aload_n 0, 1) := by decide +kernel
theorem dX2_readOrder_149 : decode cX2_readOrder 149 = .ok (.bipush 33, 2) := by decide +kernel
theorem dX2_readOrder_151 : decode cX2_readOrder 151 = .ok (.invokevirtual 49, 3) := by decide +kernel
theorem dX2_readOrder_154 : decode cX2_readOrder 154 = .ok (.ireturn, 1) := by decide +kernel
theorem dX2_passes_0 : decode cX2_passes 0 = .ok (.aload_n 0, 1) := by decide +kernel
theorem dX2_passes_1 : decode cX2_passes 1 = .ok (.getfield 18, 3) := by decide +kernel
theorem dX2_passes_4 : decode cX2_passes 4 = .ok (.aload_n 0, 1) := by decide +kernel
theorem dX2_passes_5 : decode cX2_passes 5 = .ok (.getfield 39, 3) := by decide +kernel
theorem dX2_passes_8 : decode cX2_passes 8 = .ok (.invokevirtual 66, 3) := by decide +kernel
theorem dX2_passes_11 : decode cX2_passes 11 = .ok (.iload_n 1, 1) := by decide +kernel
theorem dX2_passes_12 : decode cX2_passes 12 = .ok (.if_icmp .eq 5, 3) := by decide +kernel
theorem dX2_passes_15 : decode cX2_passes 15 = .ok (.iconst 0, 1) := by decide +kernel
theorem dX2_passes_16 : decode cX2_passes 16 = .ok (.ireturn, 1) := by decide +kernel
theorem dX2_passes_17 : decode cX2_passes 17 = .ok (.aload_n 0, 1) := by decide +kernel
theorem dX2_passes_18 : decode cX2_passes 18 = .ok (.dup, 1) := by decide +kernel
theorem dX2_passes_19 : decode cX2_passes 19 = .ok (.getfield 39, 3) := by decide +kernel
theorem dX2_passes_22 : decode cX2_passes 22 = .ok (.iconst 1, 1) := by decide +kernel
theorem dX2_passes_23 : decode cX2_passes 23 = .ok (.iadd, 1) := by decide +kernel
theorem dX2_passes_24 : decode cX2_passes 24 = .ok (.putfield 39, 3) := by decide +kernel
theorem dX2_passes_27 : decode cX2_passes 27 = .ok (.iconst 1, 1) := by decide +kernel
theorem dX2_passes_28 : decode cX2_passes 28 = .ok (.ireturn, 1) := by decide +kernel
theorem dX2_readRow_0 : decode cX2_readRow 0 = .ok (.aload_n 0, 1) := by decide +kernel
theorem dX2_readRow_1 : decode cX2_readRow 1 = .ok (.invokevirtual 76, 3) := by decide +kernel
theorem dX2_readRow_4 : decode cX2_readRow 4 = .ok (.ifCond .ne 5, 3) := by decide +kernel
theorem dX2_readRow_7 : decode cX2_readRow 7 = .ok (.iconst 0, 1) := by decide +kernel
theorem dX2_readRow_8 : decode cX2_readRow 8 = .ok (.ireturn, 1) := by decide +kernel
theorem dX2_readRow_9 : decode cX2_readRow 9 = .ok (.aload_n 0, 1) := by decide +kernel
theorem dX2_readRow_10 : decode cX2_readRow 10 = .ok (.aload_n 0, 1) := by decide +kernel
theorem dX2_readRow_11 : decode cX2_readRow 11 = .ok (.getfield 63, 3) := by decide +kernel
theorem dX2_readRow_14 : decode cX2_readRow 14 = .ok (.putfield 30, 3) := by decide +kernel
theorem dX2_readRow_17 : decode cX2_readRow 17 = .ok (.iconst 1, 1) := by decide +kernel
theorem dX2_readRow_18 : decode cX2_readRow 18 = .ok (.ireturn, 1) := by decide +kernel
theorem dX2_keepOperand_0 : decode cX2_keepOperand 0 = .ok (.aload_n 0, 1) := by decide +kernel
theorem dX2_keepOperand_1 : decode cX2_keepOperand 1 = .ok (.aload_n 0, 1) := by decide +kernel
theorem dX2_keepOperand_2 : decode cX2_keepOperand 2 = .ok (.getfield 63, 3) := by decide +kernel
theorem dX2_keepOperand_5 : decode cX2_keepOperand 5 = .ok (.putfield 33, 3) := by decide +kernel
theorem dX2_keepOperand_8 : decode cX2_keepOperand 8 = .ok (.iconst 1, 1) := by decide +kernel
theorem dX2_keepOperand_9 : decode cX2_keepOperand 9 = .ok (.ireturn, 1) := by decide +kernel
theorem dX2_readRuns_0 : decode cX2_readRuns 0 = .ok (.aload_n 0, 1) := by decide +kernel
theorem dX2_readRuns_1 : decode cX2_readRuns 1 = .ok (.iconst 0, 1) := by decide +kernel
theorem dX2_readRuns_2 : decode cX2_readRuns 2 = .ok (.putfield 36, 3) := by decide +kernel
theorem dX2_readRuns_5 : decode cX2_readRuns 5 = .ok (.iconst 0, 1) := by decide +kernel
theorem dX2_readRuns_6 : decode cX2_readRuns 6 = .ok (.istore_n 1, 1) := by decide +kernel
theorem dX2_readRuns_7 : decode cX2_readRuns 7 = .ok (.iload_n 1, 1) := by decide +kernel
theorem dX2_readRuns_8 : decode cX2_readRuns 8 = .ok (.bipush 40, 2) := by decide +kernel
theorem dX2_readRuns_10 : decode cX2_readRuns 10 = .ok (.if_icmp .ge 83, 3) := by decide +kernel
theorem dX2_readRuns_13 : decode cX2_readRuns 13 = .ok (.aload_n 0, 1) := by decide +kernel
theorem dX2_readRuns_14 : decode cX2_readRuns 14 = .ok (.bipush 9, 2) := by decide +kernel
theorem dX2_readRuns_16 : decode cX2_readRuns 16 = .ok (.invokevirtual 59, 3) := by decide +kernel
theorem dX2_readRuns_19 : decode cX2_readRuns 19 = .ok (.ifCond .ne 5, 3) := by decide +kernel
theorem dX2_readRuns_22 : decode cX2_readRuns 22 = .ok (.iconst 0, 1) := by decide +kernel
theorem dX2_readRuns_23 : decode cX2_readRuns 23 = .ok (.ireturn, 1) := by decide +kernel
theorem dX2_readRuns_24 : decode cX2_readRuns 24 = .ok (.aload_n 0, 1) := by decide +kernel
theorem dX2_readRuns_25 : decode cX2_readRuns 25 = .ok (.getfield 9, 3) := by decide +kernel
theorem dX2_readRuns_28 : decode cX2_readRuns 28 = .ok (.iload_n 1, 1) := by decide +kernel
theorem dX2_readRuns_29 : decode cX2_readRuns 29 = .ok (.aload_n 0, 1) := by decide +kernel
theorem dX2_readRuns_30 : decode cX2_readRuns 30 = .ok (.getfield 63, 3) := by decide +kernel
theorem dX2_readRuns_33 : decode cX2_readRuns 33 = .ok (.iastore, 1) := by decide +kernel
theorem dX2_readRuns_34 : decode cX2_readRuns 34 = .ok (.aload_n 0, 1) := by decide +kernel
theorem dX2_readRuns_35 : decode cX2_readRuns 35 = .ok (.getfield 15, 3) := by decide +kernel
theorem dX2_readRuns_38 : decode cX2_readRuns 38 = .ok (.iload_n 1, 1) := by decide +kernel
theorem dX2_readRuns_39 : decode cX2_readRuns 39 = .ok (.iconst 1, 1) := by decide +kernel
theorem dX2_readRuns_40 : decode cX2_readRuns 40 = .ok (.iastore, 1) := by decide +kernel
theorem dX2_readRuns_41 : decode cX2_readRuns 41 = .ok (.aload_n 0, 1) := by decide +kernel
theorem dX2_readRuns_42 : decode cX2_readRuns 42 = .ok (.bipush 42, 2) := by decide +kernel
theorem dX2_readRuns_44 : decode cX2_readRuns 44 = .ok (.invokevirtual 49, 3) := by decide +kernel
theorem dX2_readRuns_47 : decode cX2_readRuns 47 = .ok (.ifCond .eq 22, 3) := by decide +kernel
theorem dX2_readRuns_50 : decode cX2_readRuns 50 = .ok (.aload_n 0, 1) := by decide +kernel
theorem dX2_readRuns_51 : decode cX2_readRuns 51 = .ok (.invokevirtual 76, 3) := by decide +kernel
theorem dX2_readRuns_54 : decode cX2_readRuns 54 = .ok (.ifCond .ne 5, 3) := by decide +kernel
theorem dX2_readRuns_57 : decode cX2_readRuns 57 = .ok (.iconst 0, 1) := by decide +kernel
theorem dX2_readRuns_58 : decode cX2_readRuns 58 = .ok (.ireturn, 1) := by decide +kernel
theorem dX2_readRuns_59 : decode cX2_readRuns 59 = .ok (.aload_n 0, 1) := by decide +kernel
theorem dX2_readRuns_60 : decode cX2_readRuns 60 = .ok (.getfield 15, 3) := by decide +kernel
theorem dX2_readRuns_63 : decode cX2_readRuns 63 = .ok (.iload_n 1, 1) := by decide +kernel
theorem dX2_readRuns_64 : decode cX2_readRuns 64 = .ok (.aload_n 0, 1) := by decide +kernel
theorem dX2_readRuns_65 : decode cX2_readRuns 65 = .ok (.getfield 63, 3) := by decide +kernel
theorem dX2_readRuns_68 : decode cX2_readRuns 68 = .ok (.iastore, 1) := by decide +kernel
theorem dX2_readRuns_69 : decode cX2_readRuns 69 = .ok (.aload_n 0, 1) := by decide +kernel
theorem dX2_readRuns_70 : decode cX2_readRuns 70 = .ok (.iload_n 1, 1) := by decide +kernel
theorem dX2_readRuns_71 : decode cX2_readRuns 71 = .ok (.iconst 1, 1) := by decide +kernel
theorem dX2_readRuns_72 : decode cX2_readRuns 72 = .ok (.iadd, 1) := by decide +kernel
theorem dX2_readRuns_73 : decode cX2_readRuns 73 = .ok (.putfield 36, 3) := by decide +kernel
theorem dX2_readRuns_76 : decode cX2_readRuns 76 = .ok (.aload_n 0, 1) := by decide +kernel
theorem dX2_readRuns_77 : decode cX2_readRuns 77 = .ok (.bipush 44, 2) := by decide +kernel
theorem dX2_readRuns_79 : decode cX2_readRuns 79 = .ok (.invokevirtual 49, 3) := by decide +kernel
theorem dX2_readRuns_82 : decode cX2_readRuns 82 = .ok (.ifCond .ne 5, 3) := by decide +kernel
theorem dX2_readRuns_85 : decode cX2_readRuns 85 = .ok (.iconst 1, 1) := by decide +kernel
theorem dX2_readRuns_86 : decode cX2_readRuns 86 = .ok (.ireturn, 1) := by decide +kernel
theorem dX2_readRuns_87 : decode cX2_readRuns 87 = .ok (.iinc 1 1, 3) := by decide +kernel
theorem dX2_readRuns_90 : decode cX2_readRuns 90 = .ok (.goto (-83), 3) := by decide +kernel
theorem dX2_readRuns_93 : decode cX2_readRuns 93 = .ok (.iconst 0, 1) := by decide +kernel
theorem dX2_readRuns_94 : decode cX2_readRuns 94 = .ok (.ireturn, 1) := by decide +kernel
theorem dX2_readNumber_0 : decode cX2_readNumber 0 = .ok (.aload_n 0, 1) := by decide +kernel
theorem dX2_readNumber_1 : decode cX2_readNumber 1 = .ok (.bipush 9, 2) := by decide +kernel
theorem dX2_readNumber_3 : decode cX2_readNumber 3 = .ok (.invokevirtual 59, 3) := by decide +kernel
theorem dX2_readNumber_6 : decode cX2_readNumber 6 = .ok (.ifCond .ne 5, 3) := by decide +kernel
theorem dX2_readNumber_9 : decode cX2_readNumber 9 = .ok (.iconst 0, 1) := by decide +kernel
theorem dX2_readNumber_10 : decode cX2_readNumber 10 = .ok (.ireturn, 1) := by decide +kernel
theorem dX2_readNumber_11 : decode cX2_readNumber 11 = .ok (.aload_n 0, 1) := by decide +kernel
theorem dX2_readNumber_12 : decode cX2_readNumber 12 = .ok (.getfield 63, 3) := by decide +kernel
theorem dX2_readNumber_15 : decode cX2_readNumber 15 = .ok (.istore_n 1, 1) := by decide +kernel
theorem dX2_readNumber_16 : decode cX2_readNumber 16 = .ok (.iconst 0, 1) := by decide +kernel
theorem dX2_readNumber_17 : decode cX2_readNumber 17 = .ok (.istore_n 2, 1) := by decide +kernel
theorem dX2_readNumber_18 : decode cX2_readNumber 18 = .ok (.iload_n 2, 1) := by decide +kernel
theorem dX2_readNumber_19 : decode cX2_readNumber 19 = .ok (.iconst 2, 1) := by decide +kernel
theorem dX2_readNumber_20 : decode cX2_readNumber 20 = .ok (.if_icmp .ge 32, 3) := by decide +kernel
theorem dX2_readNumber_23 : decode cX2_readNumber 23 = .ok (.iload_n 1, 1) := by decide +kernel
theorem dX2_readNumber_24 : decode cX2_readNumber 24 = .ok (.ifCond .le 28, 3) := by decide +kernel
theorem dX2_readNumber_27 : decode cX2_readNumber 27 = .ok (.aload_n 0, 1) := by decide +kernel
theorem dX2_readNumber_28 : decode cX2_readNumber 28 = .ok (.bipush 9, 2) := by decide +kernel
theorem dX2_readNumber_30 : decode cX2_readNumber 30 = .ok (.invokevirtual 59, 3) := by decide +kernel
theorem dX2_readNumber_33 : decode cX2_readNumber 33 = .ok (.ifCond .eq 19, 3) := by decide +kernel
theorem dX2_readNumber_36 : decode cX2_readNumber 36 = .ok (.bipush 10, 2) := by decide +kernel
theorem dX2_readNumber_38 : decode cX2_readNumber 38 = .ok (.iload_n 1, 1) := by decide +kernel
theorem dX2_readNumber_39 : decode cX2_readNumber 39 = .ok (.imul, 1) := by decide +kernel
theorem dX2_readNumber_40 : decode cX2_readNumber 40 = .ok (.aload_n 0, 1) := by decide +kernel
theorem dX2_readNumber_41 : decode cX2_readNumber 41 = .ok (.getfield 63, 3) := by decide +kernel
theorem dX2_readNumber_44 : decode cX2_readNumber 44 = .ok (.iadd, 1) := by decide +kernel
theorem dX2_readNumber_45 : decode cX2_readNumber 45 = .ok (.istore_n 1, 1) := by decide +kernel
theorem dX2_readNumber_46 : decode cX2_readNumber 46 = .ok (.iinc 2 1, 3) := by decide +kernel
theorem dX2_readNumber_49 : decode cX2_readNumber 49 = .ok (.goto (-31), 3) := by decide +kernel
theorem dX2_readNumber_52 : decode cX2_readNumber 52 = .ok (.aload_n 0, 1) := by decide +kernel
theorem dX2_readNumber_53 : decode cX2_readNumber 53 = .ok (.iload_n 1, 1) := by decide +kernel
theorem dX2_readNumber_54 : decode cX2_readNumber 54 = .ok (.putfield 63, 3) := by decide +kernel
theorem dX2_readNumber_57 : decode cX2_readNumber 57 = .ok (.iconst 1, 1) := by decide +kernel
theorem dX2_readNumber_58 : decode cX2_readNumber 58 = .ok (.ireturn, 1) := by decide +kernel
theorem dX2_readDigit_0 : decode cX2_readDigit 0 = .ok (.aload_n 0, 1) := by decide +kernel
theorem dX2_readDigit_1 : decode cX2_readDigit 1 = .ok (.getfield 18, 3) := by decide +kernel
theorem dX2_readDigit_4 : decode cX2_readDigit 4 = .ok (.aload_n 0, 1) := by decide +kernel
theorem dX2_readDigit_5 : decode cX2_readDigit 5 = .ok (.getfield 39, 3) := by decide +kernel
theorem dX2_readDigit_8 : decode cX2_readDigit 8 = .ok (.invokevirtual 66, 3) := by decide +kernel
theorem dX2_readDigit_11 : decode cX2_readDigit 11 = .ok (.bipush 48, 2) := by decide +kernel
theorem dX2_readDigit_13 : decode cX2_readDigit 13 = .ok (.isub, 1) := by decide +kernel
theorem dX2_readDigit_14 : decode cX2_readDigit 14 = .ok (.istore_n 2, 1) := by decide +kernel
theorem dX2_readDigit_15 : decode cX2_readDigit 15 = .ok (.iload_n 2, 1) := by decide +kernel
theorem dX2_readDigit_16 : decode cX2_readDigit 16 = .ok (.ifCond .lt 8, 3) := by decide +kernel
theorem dX2_readDigit_19 : decode cX2_readDigit 19 = .ok (.iload_n 2, 1) := by decide +kernel
theorem dX2_readDigit_20 : decode cX2_readDigit 20 = .ok (.iload_n 1, 1) := by decide +kernel
theorem dX2_readDigit_21 : decode cX2_readDigit 21 = .ok (.if_icmp .le 5, 3) := by decide +kernel
theorem dX2_readDigit_24 : decode cX2_readDigit 24 = .ok (.iconst 0, 1) := by decide +kernel
theorem dX2_readDigit_25 : decode cX2_readDigit 25 = .ok (.ireturn, 1) := by decide +kernel
theorem dX2_readDigit_26 : decode cX2_readDigit 26 = .ok (.aload_n 0, 1) := by decide +kernel
theorem dX2_readDigit_27 : decode cX2_readDigit 27 = .ok (.iload_n 2, 1) := by decide +kernel
theorem dX2_readDigit_28 : decode cX2_readDigit 28 = .ok (.putfield 63, 3) := by decide +kernel
theorem dX2_readDigit_31 : decode cX2_readDigit 31 = .ok (.aload_n 0, 1) := by decide +kernel
theorem dX2_readDigit_32 : decode cX2_readDigit 32 = .ok (.dup, 1) := by decide +kernel
theorem dX2_readDigit_33 : decode cX2_readDigit 33 = .ok (.getfield 39, 3) := by decide +kernel
theorem dX2_readDigit_36 : decode cX2_readDigit 36 = .ok (.iconst 1, 1) := by decide +kernel
theorem dX2_readDigit_37 : decode cX2_readDigit 37 = .ok (.iadd, 1) := by decide +kernel
theorem dX2_readDigit_38 : decode cX2_readDigit 38 = .ok (.putfield 39, 3) := by decide +kernel
theorem dX2_readDigit_41 : decode cX2_readDigit 41 = .ok (.iconst 1, 1) := by decide +kernel
theorem dX2_readDigit_42 : decode cX2_readDigit 42 = .ok (.ireturn, 1) := by decide +kernel
theorem dX3_init_0 : decode cX3_init 0 = .ok (.aload_n 0, 1) := by decide +kernel
theorem dX3_init_1 : decode cX3_init 1 = .ok (.invokespecial 3, 3) := by decide +kernel
theorem dX3_init_4 : decode cX3_init 4 = .ok (.aload_n 0, 1) := by decide +kernel
theorem dX3_init_5 : decode cX3_init 5 = .ok (.bipush 80, 2) := by decide +kernel
theorem dX3_init_7 : decode cX3_init 7 = .ok (.newarray .char, 2) := by decide +kernel
theorem dX3_init_9 : decode cX3_init 9 = .ok (.putfield 9, 3) := by decide +kernel
theorem dX3_init_12 : decode cX3_init 12 = .ok (.return_, 1) := by decide +kernel
theorem dX3_length_0 : decode cX3_length 0 = .ok (.aload_n 0, 1) := by decide +kernel
theorem dX3_length_1 : decode cX3_length 1 = .ok (.getfield 15, 3) := by decide +kernel
theorem dX3_length_4 : decode cX3_length 4 = .ok (.ireturn, 1) := by decide +kernel
theorem dX3_signAt_0 : decode cX3_signAt 0 = .ok (.iload_n 1, 1) := by decide +kernel
theorem dX3_signAt_1 : decode cX3_signAt 1 = .ok (.ifCond .lt 20, 3) := by decide +kernel
theorem dX3_signAt_4 : decode cX3_signAt 4 = .ok (.iload_n 1, 1) := by decide +kernel
theorem dX3_signAt_5 : decode cX3_signAt 5 = .ok (.aload_n 0, 1) := by decide +kernel
theorem dX3_signAt_6 : decode cX3_signAt 6 = .ok (.getfield 15, 3) := by decide +kernel
theorem dX3_signAt_9 : decode cX3_signAt 9 = .ok (.if_icmp .ge 12, 3) := by decide +kernel
theorem dX3_signAt_12 : decode cX3_signAt 12 = .ok (.aload_n 0, 1) := by decide +kernel
theorem dX3_signAt_13 : decode cX3_signAt 13 = .ok (.getfield 9, 3) := by decide +kernel
theorem dX3_signAt_16 : decode cX3_signAt 16 = .ok (.iload_n 1, 1) := by decide +kernel
theorem dX3_signAt_17 : decode cX3_signAt 17 = .ok (.caload, 1) := by decide +kernel
theorem dX3_signAt_18 : decode cX3_signAt 18 = .ok (.goto 4, 3) := by decide +kernel
theorem dX3_signAt_21 : decode cX3_signAt 21 = .ok (.iconst 0, 1) := by decide +kernel
theorem dX3_signAt_22 : decode cX3_signAt 22 = .ok (.ireturn, 1) := by decide +kernel
theorem dX3_add_0 : decode cX3_add 0 = .ok (.aload_n 0, 1) := by decide +kernel
theorem dX3_add_1 : decode cX3_add 1 = .ok (.getfield 15, 3) := by decide +kernel
theorem dX3_add_4 : decode cX3_add 4 = .ok (.bipush 80, 2) := by decide +kernel
theorem dX3_add_6 : decode cX3_add 6 = .ok (.if_icmp .ge 23, 3) := by decide +kernel
theorem dX3_add_9 : decode cX3_add 9 = .ok (.aload_n 0, 1) := by decide +kernel
theorem dX3_add_10 : decode cX3_add 10 = .ok (.getfield 9, 3) := by decide +kernel
theorem dX3_add_13 : decode cX3_add 13 = .ok (.aload_n 0, 1) := by decide +kernel
theorem dX3_add_14 : decode cX3_add 14 = .ok (.getfield 15, 3) := by decide +kernel
theorem dX3_add_17 : decode cX3_add 17 = .ok (.iload_n 1, 1) := by decide +kernel
theorem dX3_add_18 : decode cX3_add 18 = .ok (.castore, 1) := by decide +kernel
theorem dX3_add_19 : decode cX3_add 19 = .ok (.aload_n 0, 1) := by decide +kernel
theorem dX3_add_20 : decode cX3_add 20 = .ok (.dup, 1) := by decide +kernel
theorem dX3_add_21 : decode cX3_add 21 = .ok (.getfield 15, 3) := by decide +kernel
theorem dX3_add_24 : decode cX3_add 24 = .ok (.iconst 1, 1) := by decide +kernel
theorem dX3_add_25 : decode cX3_add 25 = .ok (.iadd, 1) := by decide +kernel
theorem dX3_add_26 : decode cX3_add 26 = .ok (.putfield 15, 3) := by decide +kernel
theorem dX3_add_29 : decode cX3_add 29 = .ok (.return_, 1) := by decide +kernel
theorem dX3_clear_0 : decode cX3_clear 0 = .ok (.aload_n 0, 1) := by decide +kernel
theorem dX3_clear_1 : decode cX3_clear 1 = .ok (.iconst 0, 1) := by decide +kernel
theorem dX3_clear_2 : decode cX3_clear 2 = .ok (.putfield 15, 3) := by decide +kernel
theorem dX3_clear_5 : decode cX3_clear 5 = .ok (.return_, 1) := by decide +kernel
theorem dX4_init_0 : decode cX4_init 0 = .ok (.aload_n 0, 1) := by decide +kernel
theorem dX4_init_1 : decode cX4_init 1 = .ok (.invokespecial 1, 3) := by decide +kernel
theorem dX4_init_4 : decode cX4_init 4 = .ok (.aload_n 0, 1) := by decide +kernel
theorem dX4_init_5 : decode cX4_init 5 = .ok (.aload_n 1, 1) := by decide +kernel
theorem dX4_init_6 : decode cX4_init 6 = .ok (.putfield 7, 3) := by decide +kernel
theorem dX4_init_9 : decode cX4_init 9 = .ok (.aload_n 0, 1) := by decide +kernel
theorem dX4_init_10 : decode cX4_init 10 = .ok (.aload_n 2, 1) := by decide +kernel
theorem dX4_init_11 : decode cX4_init 11 = .ok (.putfield 13, 3) := by decide +kernel
theorem dX4_init_14 : decode cX4_init 14 = .ok (.return_, 1) := by decide +kernel
theorem dX4_valueOfOne_0 : decode cX4_valueOfOne 0 = .ok (.aload_n 0, 1) := by decide +kernel
theorem dX4_valueOfOne_1 : decode cX4_valueOfOne 1 = .ok (.getfield 16, 3) := by decide +kernel
theorem dX4_valueOfOne_4 : decode cX4_valueOfOne 4 = .ok (.ireturn, 1) := by decide +kernel
theorem dX4_valueOfOther_0 : decode cX4_valueOfOther 0 = .ok (.aload_n 0, 1) := by decide +kernel
theorem dX4_valueOfOther_1 : decode cX4_valueOfOther 1 = .ok (.getfield 20, 3) := by decide +kernel
theorem dX4_valueOfOther_4 : decode cX4_valueOfOther 4 = .ok (.ireturn, 1) := by decide +kernel
theorem dX4_length_0 : decode cX4_length 0 = .ok (.aload_n 0, 1) := by decide +kernel
theorem dX4_length_1 : decode cX4_length 1 = .ok (.getfield 23, 3) := by decide +kernel
theorem dX4_length_4 : decode cX4_length 4 = .ok (.ireturn, 1) := by decide +kernel
theorem dX4_firstRow_0 : decode cX4_firstRow 0 = .ok (.aload_n 0, 1) := by decide +kernel
theorem dX4_firstRow_1 : decode cX4_firstRow 1 = .ok (.getfield 26, 3) := by decide +kernel
theorem dX4_firstRow_4 : decode cX4_firstRow 4 = .ok (.ireturn, 1) := by decide +kernel
theorem dX4_isAlike_0 : decode cX4_isAlike 0 = .ok (.aload_n 0, 1) := by decide +kernel
theorem dX4_isAlike_1 : decode cX4_isAlike 1 = .ok (.getfield 16, 3) := by decide +kernel
theorem dX4_isAlike_4 : decode cX4_isAlike 4 = .ok (.aload_n 0, 1) := by decide +kernel
theorem dX4_isAlike_5 : decode cX4_isAlike 5 = .ok (.getfield 20, 3) := by decide +kernel
theorem dX4_isAlike_8 : decode cX4_isAlike 8 = .ok (.if_icmp .ne 7, 3) := by decide +kernel
theorem dX4_isAlike_11 : decode cX4_isAlike 11 = .ok (.iconst 1, 1) := by decide +kernel
theorem dX4_isAlike_12 : decode cX4_isAlike 12 = .ok (.goto 4, 3) := by decide +kernel
theorem dX4_isAlike_15 : decode cX4_isAlike 15 = .ok (.iconst 0, 1) := by decide +kernel
theorem dX4_isAlike_16 : decode cX4_isAlike 16 = .ok (.ireturn, 1) := by decide +kernel
theorem dX4_advance_0 : decode cX4_advance 0 = .ok (.aload_n 0, 1) := by decide +kernel
theorem dX4_advance_1 : decode cX4_advance 1 = .ok (.getfield 29, 3) := by decide +kernel
theorem dX4_advance_4 : decode cX4_advance 4 = .ok (.aload_n 0, 1) := by decide +kernel
theorem dX4_advance_5 : decode cX4_advance 5 = .ok (.getfield 7, 3) := by decide +kernel
theorem dX4_advance_8 : decode cX4_advance 8 = .ok (.invokevirtual 32, 3) := by decide +kernel
theorem dX4_advance_11 : decode cX4_advance 11 = .ok (.if_icmp .ge 17, 3) := by decide +kernel
theorem dX4_advance_14 : decode cX4_advance 14 = .ok (.aload_n 0, 1) := by decide +kernel
theorem dX4_advance_15 : decode cX4_advance 15 = .ok (.getfield 38, 3) := by decide +kernel
theorem dX4_advance_18 : decode cX4_advance 18 = .ok (.aload_n 0, 1) := by decide +kernel
theorem dX4_advance_19 : decode cX4_advance 19 = .ok (.getfield 13, 3) := by decide +kernel
theorem dX4_advance_22 : decode cX4_advance 22 = .ok (.invokevirtual 32, 3) := by decide +kernel
theorem dX4_advance_25 : decode cX4_advance 25 = .ok (.if_icmp .lt 5, 3) := by decide +kernel
theorem dX4_advance_28 : decode cX4_advance 28 = .ok (.iconst 0, 1) := by decide +kernel
theorem dX4_advance_29 : decode cX4_advance 29 = .ok (.ireturn, 1) := by decide +kernel
theorem dX4_advance_30 : decode cX4_advance 30 = .ok (.aload_n 0, 1) := by decide +kernel
theorem dX4_advance_31 : decode cX4_advance 31 = .ok (.dup, 1) := by decide +kernel
theorem dX4_advance_32 : decode cX4_advance 32 = .ok (.getfield 26, 3) := by decide +kernel
theorem dX4_advance_35 : decode cX4_advance 35 = .ok (.aload_n 0, 1) := by decide +kernel
theorem dX4_advance_36 : decode cX4_advance 36 = .ok (.getfield 23, 3) := by decide +kernel
theorem dX4_advance_39 : decode cX4_advance 39 = .ok (.iadd, 1) := by decide +kernel
theorem dX4_advance_40 : decode cX4_advance 40 = .ok (.putfield 26, 3) := by decide +kernel
theorem dX4_advance_43 : decode cX4_advance 43 = .ok (.aload_n 0, 1) := by decide +kernel
theorem dX4_advance_44 : decode cX4_advance 44 = .ok (.aload_n 0, 1) := by decide +kernel
theorem dX4_advance_45 : decode cX4_advance 45 = .ok (.getfield 7, 3) := by decide +kernel
theorem dX4_advance_48 : decode cX4_advance 48 = .ok (.aload_n 0, 1) := by decide +kernel
theorem dX4_advance_49 : decode cX4_advance 49 = .ok (.getfield 29, 3) := by decide +kernel
theorem dX4_advance_52 : decode cX4_advance 52 = .ok (.invokevirtual 41, 3) := by decide +kernel
theorem dX4_advance_55 : decode cX4_advance 55 = .ok (.putfield 16, 3) := by decide +kernel
theorem dX4_advance_58 : decode cX4_advance 58 = .ok (.aload_n 0, 1) := by decide +kernel
theorem dX4_advance_59 : decode cX4_advance 59 = .ok (.aload_n 0, 1) := by decide +kernel
theorem dX4_advance_60 : decode cX4_advance 60 = .ok (.getfield 13, 3) := by decide +kernel
theorem dX4_advance_63 : decode cX4_advance 63 = .ok (.aload_n 0, 1) := by decide +kernel
theorem dX4_advance_64 : decode cX4_advance 64 = .ok (.getfield 38, 3) := by decide +kernel
theorem dX4_advance_67 : decode cX4_advance 67 = .ok (.invokevirtual 41, 3) := by decide +kernel
theorem dX4_advance_70 : decode cX4_advance 70 = .ok (.putfield 20, 3) := by decide +kernel
theorem dX4_advance_73 : decode cX4_advance 73 = .ok (.aload_n 0, 1) := by decide +kernel
theorem dX4_advance_74 : decode cX4_advance 74 = .ok (.getfield 7, 3) := by decide +kernel
theorem dX4_advance_77 : decode cX4_advance 77 = .ok (.aload_n 0, 1) := by decide +kernel
theorem dX4_advance_78 : decode cX4_advance 78 = .ok (.getfield 29, 3) := by decide +kernel
theorem dX4_advance_81 : decode cX4_advance 81 = .ok (.invokevirtual 45, 3) := by decide +kernel
theorem dX4_advance_84 : decode cX4_advance 84 = .ok (.aload_n 0, 1) := by decide +kernel
theorem dX4_advance_85 : decode cX4_advance 85 = .ok (.getfield 48, 3) := by decide +kernel
theorem dX4_advance_88 : decode cX4_advance 88 = .ok (.isub, 1) := by decide +kernel
theorem dX4_advance_89 : decode cX4_advance 89 = .ok (.istore_n 1, 1) := by decide +kernel
theorem dX4_advance_90 : decode cX4_advance 90 = .ok (.aload_n 0, 1) := by decide +kernel
theorem dX4_advance_91 : decode cX4_advance 91 = .ok (.getfield 13, 3) := by decide +kernel
theorem dX4_advance_94 : decode cX4_advance 94 = .ok (.aload_n 0, 1) := by decide +kernel
theorem dX4_advance_95 : decode cX4_advance 95 = .ok (.getfield 38, 3) := by decide +kernel
theorem dX4_advance_98 : decode cX4_advance 98 = .ok (.invokevirtual 45, 3) := by decide +kernel
theorem dX4_advance_101 : decode cX4_advance 101 = .ok (.aload_n 0, 1) := by decide +kernel
theorem dX4_advance_102 : decode cX4_advance 102 = .ok (.getfield 51, 3) := by decide +kernel
theorem dX4_advance_105 : decode cX4_advance 105 = .ok (.isub, 1) := by decide +kernel
theorem dX4_advance_106 : decode cX4_advance 106 = .ok (.istore_n 2, 1) := by decide +kernel
theorem dX4_advance_107 : decode cX4_advance 107 = .ok (.aload_n 0, 1) := by decide +kernel
theorem dX4_advance_108 : decode cX4_advance 108 = .ok (.iload_n 1, 1) := by decide +kernel
theorem dX4_advance_109 : decode cX4_advance 109 = .ok (.iload_n 2, 1) := by decide +kernel
theorem dX4_advance_110 : decode cX4_advance 110 = .ok (.invokestatic 54, 3) := by decide +kernel
theorem dX4_advance_113 : decode cX4_advance 113 = .ok (.putfield 23, 3) := by decide +kernel
theorem dX4_advance_116 : decode cX4_advance 116 = .ok (.aload_n 0, 1) := by decide +kernel
theorem dX4_advance_117 : decode cX4_advance 117 = .ok (.dup, 1) := by decide +kernel
theorem dX4_advance_118 : decode cX4_advance 118 = .ok (.getfield 48, 3) := by decide +kernel
theorem dX4_advance_121 : decode cX4_advance 121 = .ok (.aload_n 0, 1) := by decide +kernel
theorem dX4_advance_122 : decode cX4_advance 122 = .ok (.getfield 23, 3) := by decide +kernel
theorem dX4_advance_125 : decode cX4_advance 125 = .ok (.iadd, 1) := by decide +kernel
theorem dX4_advance_126 : decode cX4_advance 126 = .ok (.putfield 48, 3) := by decide +kernel
theorem dX4_advance_129 : decode cX4_advance 129 = .ok (.aload_n 0, 1) := by decide +kernel
theorem dX4_advance_130 : decode cX4_advance 130 = .ok (.dup, 1) := by decide +kernel
theorem dX4_advance_131 : decode cX4_advance 131 = .ok (.getfield 51, 3) := by decide +kernel
theorem dX4_advance_134 : decode cX4_advance 134 = .ok (.aload_n 0, 1) := by decide +kernel
theorem dX4_advance_135 : decode cX4_advance 135 = .ok (.getfield 23, 3) := by decide +kernel
theorem dX4_advance_138 : decode cX4_advance 138 = .ok (.iadd, 1) := by decide +kernel
theorem dX4_advance_139 : decode cX4_advance 139 = .ok (.putfield 51, 3) := by decide +kernel
theorem dX4_advance_142 : decode cX4_advance 142 = .ok (.aload_n 0, 1) := by decide +kernel
theorem dX4_advance_143 : decode cX4_advance 143 = .ok (.getfield 23, 3) := by decide +kernel
theorem dX4_advance_146 : decode cX4_advance 146 = .ok (.iload_n 1, 1) := by decide +kernel
theorem dX4_advance_147 : decode cX4_advance 147 = .ok (.if_icmp .ne 18, 3) := by decide +kernel
theorem dX4_advance_150 : decode cX4_advance 150 = .ok (.aload_n 0, 1) := by decide +kernel
theorem dX4_advance_151 : decode cX4_advance 151 = .ok (.dup, 1) := by decide +kernel
theorem dX4_advance_152 : decode cX4_advance 152 = .ok (.getfield 29, 3) := by decide +kernel
theorem dX4_advance_155 : decode cX4_advance 155 = .ok (.iconst 1, 1) := by decide +kernel
theorem dX4_advance_156 : decode cX4_advance 156 = .ok (.iadd, 1) := by decide +kernel
theorem dX4_advance_157 : decode cX4_advance 157 = .ok (.putfield 29, 3) := by decide +kernel
theorem dX4_advance_160 : decode cX4_advance 160 = .ok (.aload_n 0, 1) := by decide +kernel
theorem dX4_advance_161 : decode cX4_advance 161 = .ok (.iconst 0, 1) := by decide +kernel
theorem dX4_advance_162 : decode cX4_advance 162 = .ok (.putfield 48, 3) := by decide +kernel
theorem dX4_advance_165 : decode cX4_advance 165 = .ok (.aload_n 0, 1) := by decide +kernel
theorem dX4_advance_166 : decode cX4_advance 166 = .ok (.getfield 23, 3) := by decide +kernel
theorem dX4_advance_169 : decode cX4_advance 169 = .ok (.iload_n 2, 1) := by decide +kernel
theorem dX4_advance_170 : decode cX4_advance 170 = .ok (.if_icmp .ne 18, 3) := by decide +kernel
theorem dX4_advance_173 : decode cX4_advance 173 = .ok (.aload_n 0, 1) := by decide +kernel
theorem dX4_advance_174 : decode cX4_advance 174 = .ok (.dup, 1) := by decide +kernel
theorem dX4_advance_175 : decode cX4_advance 175 = .ok (.getfield 38, 3) := by decide +kernel
theorem dX4_advance_178 : decode cX4_advance 178 = .ok (.iconst 1, 1) := by decide +kernel
theorem dX4_advance_179 : decode cX4_advance 179 = .ok (.iadd, 1) := by decide +kernel
theorem dX4_advance_180 : decode cX4_advance 180 = .ok (.putfield 38, 3) := by decide +kernel
theorem dX4_advance_183 : decode cX4_advance 183 = .ok (.aload_n 0, 1) := by decide +kernel
theorem dX4_advance_184 : decode cX4_advance 184 = .ok (.iconst 0, 1) := by decide +kernel
theorem dX4_advance_185 : decode cX4_advance 185 = .ok (.putfield 51, 3) := by decide +kernel
theorem dX4_advance_188 : decode cX4_advance 188 = .ok (.iconst 1, 1) := by decide +kernel
theorem dX4_advance_189 : decode cX4_advance 189 = .ok (.ireturn, 1) := by decide +kernel
theorem dX5_init_0 : decode cX5_init 0 = .ok (.aload_n 0, 1) := by decide +kernel
theorem dX5_init_1 : decode cX5_init 1 = .ok (.invokespecial 3, 3) := by decide +kernel
theorem dX5_init_4 : decode cX5_init 4 = .ok (.aload_n 0, 1) := by decide +kernel
theorem dX5_init_5 : decode cX5_init 5 = .ok (.iconst 4, 1) := by decide +kernel
theorem dX5_init_6 : decode cX5_init 6 = .ok (.anewarray 9, 3) := by decide +kernel
theorem dX5_init_9 : decode cX5_init 9 = .ok (.putfield 11, 3) := by decide +kernel
theorem dX5_init_12 : decode cX5_init 12 = .ok (.iconst 0, 1) := by decide +kernel
theorem dX5_init_13 : decode cX5_init 13 = .ok (.istore_n 1, 1) := by decide +kernel
theorem dX5_init_14 : decode cX5_init 14 = .ok (.iload_n 1, 1) := by decide +kernel
theorem dX5_init_15 : decode cX5_init 15 = .ok (.iconst 4, 1) := by decide +kernel
theorem dX5_init_16 : decode cX5_init 16 = .ok (.if_icmp .ge 22, 3) := by decide +kernel
theorem dX5_init_19 : decode cX5_init 19 = .ok (.aload_n 0, 1) := by decide +kernel
theorem dX5_init_20 : decode cX5_init 20 = .ok (.getfield 11, 3) := by decide +kernel
theorem dX5_init_23 : decode cX5_init 23 = .ok (.iload_n 1, 1) := by decide +kernel
theorem dX5_init_24 : decode cX5_init 24 = .ok (.new 9, 3) := by decide +kernel
theorem dX5_init_27 : decode cX5_init 27 = .ok (.dup, 1) := by decide +kernel
theorem dX5_init_28 : decode cX5_init 28 = .ok (.invokespecial 17, 3) := by decide +kernel
theorem dX5_init_31 : decode cX5_init 31 = .ok (.aastore, 1) := by decide +kernel
theorem dX5_init_32 : decode cX5_init 32 = .ok (.iinc 1 1, 3) := by decide +kernel
theorem dX5_init_35 : decode cX5_init 35 = .ok (.goto (-21), 3) := by decide +kernel
theorem dX5_init_38 : decode cX5_init 38 = .ok (.return_, 1) := by decide +kernel
theorem dX5_column_0 : decode cX5_column 0 = .ok (.aload_n 0, 1) := by decide +kernel
theorem dX5_column_1 : decode cX5_column 1 = .ok (.getfield 11, 3) := by decide +kernel
theorem dX5_column_4 : decode cX5_column 4 = .ok (.iload_n 1, 1) := by decide +kernel
theorem dX5_column_5 : decode cX5_column 5 = .ok (.aaload, 1) := by decide +kernel
theorem dX5_column_6 : decode cX5_column 6 = .ok (.areturn, 1) := by decide +kernel
theorem dX5_allRows_0 : decode cX5_allRows 0 = .ok (.iconst 0, 1) := by decide +kernel
theorem dX5_allRows_1 : decode cX5_allRows 1 = .ok (.istore_n 1, 1) := by decide +kernel
theorem dX5_allRows_2 : decode cX5_allRows 2 = .ok (.iconst 0, 1) := by decide +kernel
theorem dX5_allRows_3 : decode cX5_allRows 3 = .ok (.istore_n 2, 1) := by decide +kernel
theorem dX5_allRows_4 : decode cX5_allRows 4 = .ok (.iload_n 2, 1) := by decide +kernel
theorem dX5_allRows_5 : decode cX5_allRows 5 = .ok (.iconst 4, 1) := by decide +kernel
theorem dX5_allRows_6 : decode cX5_allRows 6 = .ok (.if_icmp .ge 21, 3) := by decide +kernel
theorem dX5_allRows_9 : decode cX5_allRows 9 = .ok (.iload_n 1, 1) := by decide +kernel
theorem dX5_allRows_10 : decode cX5_allRows 10 = .ok (.aload_n 0, 1) := by decide +kernel
theorem dX5_allRows_11 : decode cX5_allRows 11 = .ok (.getfield 11, 3) := by decide +kernel
theorem dX5_allRows_14 : decode cX5_allRows 14 = .ok (.iload_n 2, 1) := by decide +kernel
theorem dX5_allRows_15 : decode cX5_allRows 15 = .ok (.aaload, 1) := by decide +kernel
theorem dX5_allRows_16 : decode cX5_allRows 16 = .ok (.invokevirtual 18, 3) := by decide +kernel
theorem dX5_allRows_19 : decode cX5_allRows 19 = .ok (.iadd, 1) := by decide +kernel
theorem dX5_allRows_20 : decode cX5_allRows 20 = .ok (.istore_n 1, 1) := by decide +kernel
theorem dX5_allRows_21 : decode cX5_allRows 21 = .ok (.iinc 2 1, 3) := by decide +kernel
theorem dX5_allRows_24 : decode cX5_allRows 24 = .ok (.goto (-20), 3) := by decide +kernel
theorem dX5_allRows_27 : decode cX5_allRows 27 = .ok (.iload_n 1, 1) := by decide +kernel
theorem dX5_allRows_28 : decode cX5_allRows 28 = .ok (.ireturn, 1) := by decide +kernel
theorem dX5_allRuns_0 : decode cX5_allRuns 0 = .ok (.iconst 0, 1) := by decide +kernel
theorem dX5_allRuns_1 : decode cX5_allRuns 1 = .ok (.istore_n 1, 1) := by decide +kernel
theorem dX5_allRuns_2 : decode cX5_allRuns 2 = .ok (.iconst 0, 1) := by decide +kernel
theorem dX5_allRuns_3 : decode cX5_allRuns 3 = .ok (.istore_n 2, 1) := by decide +kernel
theorem dX5_allRuns_4 : decode cX5_allRuns 4 = .ok (.iload_n 2, 1) := by decide +kernel
theorem dX5_allRuns_5 : decode cX5_allRuns 5 = .ok (.iconst 4, 1) := by decide +kernel
theorem dX5_allRuns_6 : decode cX5_allRuns 6 = .ok (.if_icmp .ge 21, 3) := by decide +kernel
theorem dX5_allRuns_9 : decode cX5_allRuns 9 = .ok (.iload_n 1, 1) := by decide +kernel
theorem dX5_allRuns_10 : decode cX5_allRuns 10 = .ok (.aload_n 0, 1) := by decide +kernel
theorem dX5_allRuns_11 : decode cX5_allRuns 11 = .ok (.getfield 11, 3) := by decide +kernel
theorem dX5_allRuns_14 : decode cX5_allRuns 14 = .ok (.iload_n 2, 1) := by decide +kernel
theorem dX5_allRuns_15 : decode cX5_allRuns 15 = .ok (.aaload, 1) := by decide +kernel
theorem dX5_allRuns_16 : decode cX5_allRuns 16 = .ok (.invokevirtual 22, 3) := by decide +kernel
theorem dX5_allRuns_19 : decode cX5_allRuns 19 = .ok (.iadd, 1) := by decide +kernel
theorem dX5_allRuns_20 : decode cX5_allRuns 20 = .ok (.istore_n 1, 1) := by decide +kernel
theorem dX5_allRuns_21 : decode cX5_allRuns 21 = .ok (.iinc 2 1, 3) := by decide +kernel
theorem dX5_allRuns_24 : decode cX5_allRuns 24 = .ok (.goto (-20), 3) := by decide +kernel
theorem dX5_allRuns_27 : decode cX5_allRuns 27 = .ok (.iload_n 1, 1) := by decide +kernel
theorem dX5_allRuns_28 : decode cX5_allRuns 28 = .ok (.ireturn, 1) := by decide +kernel
theorem dX5_copyFrom_0 : decode cX5_copyFrom 0 = .ok (.iconst 0, 1) := by decide +kernel
theorem dX5_copyFrom_1 : decode cX5_copyFrom 1 = .ok (.istore_n 2, 1) := by decide +kernel
theorem dX5_copyFrom_2 : decode cX5_copyFrom 2 = .ok (.iload_n 2, 1) := by decide +kernel
theorem dX5_copyFrom_3 : decode cX5_copyFrom 3 = .ok (.iconst 4, 1) := by decide +kernel
theorem dX5_copyFrom_4 : decode cX5_copyFrom 4 = .ok (.if_icmp .ge 24, 3) := by decide +kernel
theorem dX5_copyFrom_7 : decode cX5_copyFrom 7 = .ok (.aload_n 0, 1) := by decide +kernel
theorem dX5_copyFrom_8 : decode cX5_copyFrom 8 = .ok (.getfield 11, 3) := by decide +kernel
theorem dX5_copyFrom_11 : decode cX5_copyFrom 11 = .ok (.iload_n 2, 1) := by decide +kernel
theorem dX5_copyFrom_12 : decode cX5_copyFrom 12 = .ok (.aaload, 1) := by decide +kernel
theorem dX5_copyFrom_13 : decode cX5_copyFrom 13 = .ok (.aload_n 1, 1) := by decide +kernel
theorem dX5_copyFrom_14 : decode cX5_copyFrom 14 = .ok (.getfield 11, 3) := by decide +kernel
theorem dX5_copyFrom_17 : decode cX5_copyFrom 17 = .ok (.iload_n 2, 1) := by decide +kernel
theorem dX5_copyFrom_18 : decode cX5_copyFrom 18 = .ok (.aaload, 1) := by decide +kernel
theorem dX5_copyFrom_19 : decode cX5_copyFrom 19 = .ok (.invokevirtual 25, 3) := by decide +kernel
theorem dX5_copyFrom_22 : decode cX5_copyFrom 22 = .ok (.iinc 2 1, 3) := by decide +kernel
theorem dX5_copyFrom_25 : decode cX5_copyFrom 25 = .ok (.goto (-23), 3) := by decide +kernel
theorem dX5_copyFrom_28 : decode cX5_copyFrom 28 = .ok (.return_, 1) := by decide +kernel
theorem dX6_init_0 : decode cX6_init 0 = .ok (.aload_n 0, 1) := by decide +kernel
theorem dX6_init_1 : decode cX6_init 1 = .ok (.invokespecial 3, 3) := by decide +kernel
theorem dX6_init_4 : decode cX6_init 4 = .ok (.aload_n 0, 1) := by decide +kernel
theorem dX6_init_5 : decode cX6_init 5 = .ok (.new 9, 3) := by decide +kernel
theorem dX6_init_8 : decode cX6_init 8 = .ok (.dup, 1) := by decide +kernel
theorem dX6_init_9 : decode cX6_init 9 = .ok (.invokespecial 11, 3) := by decide +kernel
theorem dX6_init_12 : decode cX6_init 12 = .ok (.putfield 12, 3) := by decide +kernel
theorem dX6_init_15 : decode cX6_init 15 = .ok (.aload_n 0, 1) := by decide +kernel
theorem dX6_init_16 : decode cX6_init 16 = .ok (.new 16, 3) := by decide +kernel
theorem dX6_init_19 : decode cX6_init 19 = .ok (.dup, 1) := by decide +kernel
theorem dX6_init_20 : decode cX6_init 20 = .ok (.invokespecial 18, 3) := by decide +kernel
theorem dX6_init_23 : decode cX6_init 23 = .ok (.putfield 19, 3) := by decide +kernel
theorem dX6_init_26 : decode cX6_init 26 = .ok (.aload_n 0, 1) := by decide +kernel
theorem dX6_init_27 : decode cX6_init 27 = .ok (.iconst 2, 1) := by decide +kernel
theorem dX6_init_28 : decode cX6_init 28 = .ok (.anewarray 9, 3) := by decide +kernel
theorem dX6_init_31 : decode cX6_init 31 = .ok (.putfield 23, 3) := by decide +kernel
theorem dX6_init_34 : decode cX6_init 34 = .ok (.aload_n 0, 1) := by decide +kernel
theorem dX6_init_35 : decode cX6_init 35 = .ok (.iconst 2, 1) := by decide +kernel
theorem dX6_init_36 : decode cX6_init 36 = .ok (.newarray .boolean, 2) := by decide +kernel
theorem dX6_init_38 : decode cX6_init 38 = .ok (.putfield 27, 3) := by decide +kernel
theorem dX6_init_41 : decode cX6_init 41 = .ok (.aload_n 0, 1) := by decide +kernel
theorem dX6_init_42 : decode cX6_init 42 = .ok (.new 31, 3) := by decide +kernel
theorem dX6_init_45 : decode cX6_init 45 = .ok (.dup, 1) := by decide +kernel
theorem dX6_init_46 : decode cX6_init 46 = .ok (.invokespecial 33, 3) := by decide +kernel
theorem dX6_init_49 : decode cX6_init 49 = .ok (.putfield 34, 3) := by decide +kernel
theorem dX6_init_52 : decode cX6_init 52 = .ok (.aload_n 0, 1) := by decide +kernel
theorem dX6_init_53 : decode cX6_init 53 = .ok (.new 38, 3) := by decide +kernel
theorem dX6_init_56 : decode cX6_init 56 = .ok (.dup, 1) := by decide +kernel
theorem dX6_init_57 : decode cX6_init 57 = .ok (.invokespecial 40, 3) := by decide +kernel
theorem dX6_init_60 : decode cX6_init 60 = .ok (.putfield 41, 3) := by decide +kernel
theorem dX6_init_63 : decode cX6_init 63 = .ok (.aload_n 0, 1) := by decide +kernel
theorem dX6_init_64 : decode cX6_init 64 = .ok (.new 45, 3) := by decide +kernel
theorem dX6_init_67 : decode cX6_init 67 = .ok (.dup, 1) := by decide +kernel
theorem dX6_init_68 : decode cX6_init 68 = .ok (.aload_n 0, 1) := by decide +kernel
theorem dX6_init_69 : decode cX6_init 69 = .ok (.getfield 41, 3) := by decide +kernel
theorem dX6_init_72 : decode cX6_init 72 = .ok (.invokespecial 47, 3) := by decide +kernel
theorem dX6_init_75 : decode cX6_init 75 = .ok (.putfield 50, 3) := by decide +kernel
theorem dX6_init_78 : decode cX6_init 78 = .ok (.aload_n 0, 1) := by decide +kernel
theorem dX6_init_79 : decode cX6_init 79 = .ok (.bipush 10, 2) := by decide +kernel
theorem dX6_init_81 : decode cX6_init 81 = .ok (.newarray .int, 2) := by decide +kernel
theorem dX6_init_83 : decode cX6_init 83 = .ok (.putfield 54, 3) := by decide +kernel
theorem dX6_init_86 : decode cX6_init 86 = .ok (.iconst 0, 1) := by decide +kernel
theorem dX6_init_87 : decode cX6_init 87 = .ok (.istore_n 1, 1) := by decide +kernel
theorem dX6_init_88 : decode cX6_init 88 = .ok (.iload_n 1, 1) := by decide +kernel
theorem dX6_init_89 : decode cX6_init 89 = .ok (.iconst 2, 1) := by decide +kernel
theorem dX6_init_90 : decode cX6_init 90 = .ok (.if_icmp .ge 22, 3) := by decide +kernel
theorem dX6_init_93 : decode cX6_init 93 = .ok (.aload_n 0, 1) := by decide +kernel
theorem dX6_init_94 : decode cX6_init 94 = .ok (.getfield 23, 3) := by decide +kernel
theorem dX6_init_97 : decode cX6_init 97 = .ok (.iload_n 1, 1) := by decide +kernel
theorem dX6_init_98 : decode cX6_init 98 = .ok (.new 9, 3) := by decide +kernel
theorem dX6_init_101 : decode cX6_init 101 = .ok (.dup, 1) := by decide +kernel
theorem dX6_init_102 : decode cX6_init 102 = .ok (.invokespecial 11, 3) := by decide +kernel
theorem dX6_init_105 : decode cX6_init 105 = .ok (.aastore, 1) := by decide +kernel
theorem dX6_init_106 : decode cX6_init 106 = .ok (.iinc 1 1, 3) := by decide +kernel
theorem dX6_init_109 : decode cX6_init 109 = .ok (.goto (-21), 3) := by decide +kernel
theorem dX6_init_112 : decode cX6_init 112 = .ok (.return_, 1) := by decide +kernel
theorem dX6_append_0 : decode cX6_append 0 = .ok (.aload_n 0, 1) := by decide +kernel
theorem dX6_append_1 : decode cX6_append 1 = .ok (.iload_n 1, 1) := by decide +kernel
theorem dX6_append_2 : decode cX6_append 2 = .ok (.iload_n 2, 1) := by decide +kernel
theorem dX6_append_3 : decode cX6_append 3 = .ok (.iload_n 3, 1) := by decide +kernel
theorem dX6_append_4 : decode cX6_append 4 = .ok (.invokevirtual 58, 3) := by decide +kernel
theorem dX6_append_7 : decode cX6_append 7 = .ok (.istore 4, 2) := by decide +kernel
theorem dX6_append_9 : decode cX6_append 9 = .ok (.iload 4, 2) := by decide +kernel
theorem dX6_append_11 : decode cX6_append 11 = .ok (.ifCond .eq 6, 3) := by decide +kernel
theorem dX6_append_14 : decode cX6_append 14 = .ok (.iload 4, 2) := by decide +kernel
theorem dX6_append_16 : decode cX6_append 16 = .ok (.ireturn, 1) := by decide +kernel
theorem dX6_append_17 : decode cX6_append 17 = .ok (.aload_n 0, 1) := by decide +kernel
theorem dX6_append_18 : decode cX6_append 18 = .ok (.iload_n 1, 1) := by decide +kernel
theorem dX6_append_19 : decode cX6_append 19 = .ok (.invokevirtual 62, 3) := by decide +kernel
theorem dX6_append_22 : decode cX6_append 22 = .ok (.aload_n 0, 1) := by decide +kernel
theorem dX6_append_23 : decode cX6_append 23 = .ok (.getfield 12, 3) := by decide +kernel
theorem dX6_append_26 : decode cX6_append 26 = .ok (.iload_n 1, 1) := by decide +kernel
theorem dX6_append_27 : decode cX6_append 27 = .ok (.invokevirtual 66, 3) := by decide +kernel
theorem dX6_append_30 : decode cX6_append 30 = .ok (.invokevirtual 70, 3) := by decide +kernel
theorem dX6_append_33 : decode cX6_append 33 = .ok (.ireturn, 1) := by decide +kernel
theorem dX6_insert_0 : decode cX6_insert 0 = .ok (.aload_n 0, 1) := by decide +kernel
theorem dX6_insert_1 : decode cX6_insert 1 = .ok (.iload_n 1, 1) := by decide +kernel
theorem dX6_insert_2 : decode cX6_insert 2 = .ok (.iload_n 2, 1) := by decide +kernel
theorem dX6_insert_3 : decode cX6_insert 3 = .ok (.iload_n 3, 1) := by decide +kernel
theorem dX6_insert_4 : decode cX6_insert 4 = .ok (.iload 4, 2) := by decide +kernel
theorem dX6_insert_6 : decode cX6_insert 6 = .ok (.invokevirtual 74, 3) := by decide +kernel
theorem dX6_insert_9 : decode cX6_insert 9 = .ok (.istore 5, 2) := by decide +kernel
theorem dX6_insert_11 : decode cX6_insert 11 = .ok (.iload 5, 2) := by decide +kernel
theorem dX6_insert_13 : decode cX6_insert 13 = .ok (.ifCond .eq 6, 3) := by decide +kernel
theorem dX6_insert_16 : decode cX6_insert 16 = .ok (.iload 5, 2) := by decide +kernel
theorem dX6_insert_18 : decode cX6_insert 18 = .ok (.ireturn, 1) := by decide +kernel
theorem dX6_insert_19 : decode cX6_insert 19 = .ok (.aload_n 0, 1) := by decide +kernel
theorem dX6_insert_20 : decode cX6_insert 20 = .ok (.iload_n 1, 1) := by decide +kernel
theorem dX6_insert_21 : decode cX6_insert 21 = .ok (.invokevirtual 62, 3) := by decide +kernel
theorem dX6_insert_24 : decode cX6_insert 24 = .ok (.aload_n 0, 1) := by decide +kernel
theorem dX6_insert_25 : decode cX6_insert 25 = .ok (.getfield 12, 3) := by decide +kernel
theorem dX6_insert_28 : decode cX6_insert 28 = .ok (.iload_n 1, 1) := by decide +kernel
theorem dX6_insert_29 : decode cX6_insert 29 = .ok (.invokevirtual 66, 3) := by decide +kernel
theorem dX6_insert_32 : decode cX6_insert 32 = .ok (.invokevirtual 78, 3) := by decide +kernel
theorem dX6_insert_35 : decode cX6_insert 35 = .ok (.ireturn, 1) := by decide +kernel
theorem dX6_remove_0 : decode cX6_remove 0 = .ok (.aload_n 0, 1) := by decide +kernel
theorem dX6_remove_1 : decode cX6_remove 1 = .ok (.iload_n 1, 1) := by decide +kernel
theorem dX6_remove_2 : decode cX6_remove 2 = .ok (.iload_n 2, 1) := by decide +kernel
theorem dX6_remove_3 : decode cX6_remove 3 = .ok (.iload_n 3, 1) := by decide +kernel
theorem dX6_remove_4 : decode cX6_remove 4 = .ok (.invokevirtual 81, 3) := by decide +kernel
theorem dX6_remove_7 : decode cX6_remove 7 = .ok (.istore 4, 2) := by decide +kernel
theorem dX6_remove_9 : decode cX6_remove 9 = .ok (.iload 4, 2) := by decide +kernel
theorem dX6_remove_11 : decode cX6_remove 11 = .ok (.ifCond .eq 6, 3) := by decide +kernel
theorem dX6_remove_14 : decode cX6_remove 14 = .ok (.iload 4, 2) := by decide +kernel
theorem dX6_remove_16 : decode cX6_remove 16 = .ok (.ireturn, 1) := by decide +kernel
theorem dX6_remove_17 : decode cX6_remove 17 = .ok (.aload_n 0, 1) := by decide +kernel
theorem dX6_remove_18 : decode cX6_remove 18 = .ok (.iload_n 1, 1) := by decide +kernel
theorem dX6_remove_19 : decode cX6_remove 19 = .ok (.invokevirtual 62, 3) := by decide +kernel
theorem dX6_remove_22 : decode cX6_remove 22 = .ok (.aload_n 0, 1) := by decide +kernel
theorem dX6_remove_23 : decode cX6_remove 23 = .ok (.getfield 12, 3) := by decide +kernel
theorem dX6_remove_26 : decode cX6_remove 26 = .ok (.iload_n 1, 1) := by decide +kernel
theorem dX6_remove_27 : decode cX6_remove 27 = .ok (.invokevirtual 66, 3) := by decide +kernel
theorem dX6_remove_30 : decode cX6_remove 30 = .ok (.invokevirtual 78, 3) := by decide +kernel
theorem dX6_remove_33 : decode cX6_remove 33 = .ok (.ireturn, 1) := by decide +kernel
theorem dX6_set_0 : decode cX6_set 0 = .ok (.aload_n 0, 1) := by decide +kernel
theorem dX6_set_1 : decode cX6_set 1 = .ok (.iload_n 1, 1) := by decide +kernel
theorem dX6_set_2 : decode cX6_set 2 = .ok (.iload_n 2, 1) := by decide +kernel
theorem dX6_set_3 : decode cX6_set 3 = .ok (.iload_n 3, 1) := by decide +kernel
theorem dX6_set_4 : decode cX6_set 4 = .ok (.invokevirtual 84, 3) := by decide +kernel
theorem dX6_set_7 : decode cX6_set 7 = .ok (.istore 4, 2) := by decide +kernel
theorem dX6_set_9 : decode cX6_set 9 = .ok (.iload 4, 2) := by decide +kernel
theorem dX6_set_11 : decode cX6_set 11 = .ok (.ifCond .eq 6, 3) := by decide +kernel
theorem dX6_set_14 : decode cX6_set 14 = .ok (.iload 4, 2) := by decide +kernel
theorem dX6_set_16 : decode cX6_set 16 = .ok (.ireturn, 1) := by decide +kernel
theorem dX6_set_17 : decode cX6_set 17 = .ok (.aload_n 0, 1) := by decide +kernel
theorem dX6_set_18 : decode cX6_set 18 = .ok (.getfield 12, 3) := by decide +kernel
theorem dX6_set_21 : decode cX6_set 21 = .ok (.iload_n 1, 1) := by decide +kernel
theorem dX6_set_22 : decode cX6_set 22 = .ok (.invokevirtual 66, 3) := by decide +kernel
theorem dX6_set_25 : decode cX6_set 25 = .ok (.iload_n 2, 1) := by decide +kernel
theorem dX6_set_26 : decode cX6_set 26 = .ok (.invokevirtual 87, 3) := by decide +kernel
theorem dX6_set_29 : decode cX6_set 29 = .ok (.istore 5, 2) := by decide +kernel
theorem dX6_set_31 : decode cX6_set 31 = .ok (.aload_n 0, 1) := by decide +kernel
theorem dX6_set_32 : decode cX6_set 32 = .ok (.iload_n 1, 1) := by decide +kernel
theorem dX6_set_33 : decode cX6_set 33 = .ok (.invokevirtual 62, 3) := by decide +kernel
theorem dX6_set_36 : decode cX6_set 36 = .ok (.iload 5, 2) := by decide +kernel
theorem dX6_set_38 : decode cX6_set 38 = .ok (.ireturn, 1) := by decide +kernel
theorem dX6_sort_0 : decode cX6_sort 0 = .ok (.aload_n 0, 1) := by decide +kernel
theorem dX6_sort_1 : decode cX6_sort 1 = .ok (.iload_n 1, 1) := by decide +kernel
theorem dX6_sort_2 : decode cX6_sort 2 = .ok (.invokevirtual 91, 3) := by decide +kernel
theorem dX6_sort_5 : decode cX6_sort 5 = .ok (.istore_n 2, 1) := by decide +kernel
theorem dX6_sort_6 : decode cX6_sort 6 = .ok (.iload_n 2, 1) := by decide +kernel
theorem dX6_sort_7 : decode cX6_sort 7 = .ok (.ifCond .eq 5, 3) := by decide +kernel
theorem dX6_sort_10 : decode cX6_sort 10 = .ok (.iload_n 2, 1) := by decide +kernel
theorem dX6_sort_11 : decode cX6_sort 11 = .ok (.ireturn, 1) := by decide +kernel
theorem dX6_sort_12 : decode cX6_sort 12 = .ok (.aload_n 0, 1) := by decide +kernel
theorem dX6_sort_13 : decode cX6_sort 13 = .ok (.iload_n 1, 1) := by decide +kernel
theorem dX6_sort_14 : decode cX6_sort 14 = .ok (.invokevirtual 62, 3) := by decide +kernel
theorem dX6_sort_17 : decode cX6_sort 17 = .ok (.aload_n 0, 1) := by decide +kernel
theorem dX6_sort_18 : decode cX6_sort 18 = .ok (.getfield 12, 3) := by decide +kernel
theorem dX6_sort_21 : decode cX6_sort 21 = .ok (.iload_n 1, 1) := by decide +kernel
theorem dX6_sort_22 : decode cX6_sort 22 = .ok (.invokevirtual 66, 3) := by decide +kernel
theorem dX6_sort_25 : decode cX6_sort 25 = .ok (.invokevirtual 78, 3) := by decide +kernel
theorem dX6_sort_28 : decode cX6_sort 28 = .ok (.ireturn, 1) := by decide +kernel
theorem dX6_turn_0 : decode cX6_turn 0 = .ok (.iload_n 1, 1) := by decide +kernel
theorem dX6_turn_1 : decode cX6_turn 1 = .ok (.invokestatic 94, 3) := by decide +kernel
theorem dX6_turn_4 : decode cX6_turn 4 = .ok (.ifCond .eq 10, 3) := by decide +kernel
theorem dX6_turn_7 : decode cX6_turn 7 = .ok (.iload_n 2, 1) := by decide +kernel
theorem dX6_turn_8 : decode cX6_turn 8 = .ok (.invokestatic 94, 3) := by decide +kernel
theorem dX6_turn_11 : decode cX6_turn 11 = .ok (.ifCond .ne 5, 3) := by decide +kernel
theorem dX6_turn_14 : decode cX6_turn 14 = .ok (.iconst (-1), 1) := by decide +kernel
theorem dX6_turn_15 : decode cX6_turn 15 = .ok (.ireturn, 1) := by decide +kernel
theorem dX6_turn_16 : decode cX6_turn 16 = .ok (.aload_n 0, 1) := by decide +kernel
theorem dX6_turn_17 : decode cX6_turn 17 = .ok (.getfield 34, 3) := by decide +kernel
theorem dX6_turn_20 : decode cX6_turn 20 = .ok (.invokevirtual 98, 3) := by decide +kernel
theorem dX6_turn_23 : decode cX6_turn 23 = .ok (.aload_n 0, 1) := by decide +kernel
theorem dX6_turn_24 : decode cX6_turn 24 = .ok (.getfield 34, 3) := by decide +kernel
theorem dX6_turn_27 : decode cX6_turn 27 = .ok (.aload_n 0, 1) := by decide +kernel
theorem dX6_turn_28 : decode cX6_turn 28 = .ok (.getfield 12, 3) := by decide +kernel
theorem dX6_turn_31 : decode cX6_turn 31 = .ok (.iload_n 2, 1) := by decide +kernel
theorem dX6_turn_32 : decode cX6_turn 32 = .ok (.invokevirtual 66, 3) := by decide +kernel
theorem dX6_turn_35 : decode cX6_turn 35 = .ok (.invokevirtual 101, 3) := by decide +kernel
theorem dX6_turn_38 : decode cX6_turn 38 = .ok (.aload_n 0, 1) := by decide +kernel
theorem dX6_turn_39 : decode cX6_turn 39 = .ok (.iload_n 1, 1) := by decide +kernel
theorem dX6_turn_40 : decode cX6_turn 40 = .ok (.invokevirtual 62, 3) := by decide +kernel
theorem dX6_turn_43 : decode cX6_turn 43 = .ok (.aload_n 0, 1) := by decide +kernel
theorem dX6_turn_44 : decode cX6_turn 44 = .ok (.getfield 12, 3) := by decide +kernel
theorem dX6_turn_47 : decode cX6_turn 47 = .ok (.iload_n 1, 1) := by decide +kernel
theorem dX6_turn_48 : decode cX6_turn 48 = .ok (.invokevirtual 66, 3) := by decide +kernel
theorem dX6_turn_51 : decode cX6_turn 51 = .ok (.invokevirtual 70, 3) := by decide +kernel
theorem dX6_turn_54 : decode cX6_turn 54 = .ok (.ireturn, 1) := by decide +kernel
theorem dX6_merge_0 : decode cX6_merge 0 = .ok (.aload_n 0, 1) := by decide +kernel
theorem dX6_merge_1 : decode cX6_merge 1 = .ok (.iload_n 1, 1) := by decide +kernel
theorem dX6_merge_2 : decode cX6_merge 2 = .ok (.iload_n 2, 1) := by decide +kernel
theorem dX6_merge_3 : decode cX6_merge 3 = .ok (.iload_n 3, 1) := by decide +kernel
theorem dX6_merge_4 : decode cX6_merge 4 = .ok (.iload 4, 2) := by decide +kernel
theorem dX6_merge_6 : decode cX6_merge 6 = .ok (.invokevirtual 105, 3) := by decide +kernel
theorem dX6_merge_9 : decode cX6_merge 9 = .ok (.istore 5, 2) := by decide +kernel
theorem dX6_merge_11 : decode cX6_merge 11 = .ok (.iload 5, 2) := by decide +kernel
theorem dX6_merge_13 : decode cX6_merge 13 = .ok (.ifCond .eq 6, 3) := by decide +kernel
theorem dX6_merge_16 : decode cX6_merge 16 = .ok (.iload 5, 2) := by decide +kernel
theorem dX6_merge_18 : decode cX6_merge 18 = .ok (.ireturn, 1) := by decide +kernel
theorem dX6_merge_19 : decode cX6_merge 19 = .ok (.aload_n 0, 1) := by decide +kernel
theorem dX6_merge_20 : decode cX6_merge 20 = .ok (.iload_n 1, 1) := by decide +kernel
theorem dX6_merge_21 : decode cX6_merge 21 = .ok (.invokevirtual 62, 3) := by decide +kernel
theorem dX6_merge_24 : decode cX6_merge 24 = .ok (.aload_n 0, 1) := by decide +kernel
theorem dX6_merge_25 : decode cX6_merge 25 = .ok (.getfield 12, 3) := by decide +kernel
theorem dX6_merge_28 : decode cX6_merge 28 = .ok (.iload_n 1, 1) := by decide +kernel
theorem dX6_merge_29 : decode cX6_merge 29 = .ok (.invokevirtual 66, 3) := by decide +kernel
theorem dX6_merge_32 : decode cX6_merge 32 = .ok (.invokevirtual 70, 3) := by decide +kernel
theorem dX6_merge_35 : decode cX6_merge 35 = .ok (.ireturn, 1) := by decide +kernel
theorem dX6_run_0 : decode cX6_run 0 = .ok (.iload_n 1, 1) := by decide +kernel
theorem dX6_run_1 : decode cX6_run 1 = .ok (.invokestatic 94, 3) := by decide +kernel
theorem dX6_run_4 : decode cX6_run 4 = .ok (.ifCond .ne 5, 3) := by decide +kernel
theorem dX6_run_7 : decode cX6_run 7 = .ok (.iconst (-1), 1) := by decide +kernel
theorem dX6_run_8 : decode cX6_run 8 = .ok (.ireturn, 1) := by decide +kernel
theorem dX6_run_9 : decode cX6_run 9 = .ok (.aload_n 0, 1) := by decide +kernel
theorem dX6_run_10 : decode cX6_run 10 = .ok (.getfield 12, 3) := by decide +kernel
theorem dX6_run_13 : decode cX6_run 13 = .ok (.iload_n 1, 1) := by decide +kernel
theorem dX6_run_14 : decode cX6_run 14 = .ok (.invokevirtual 66, 3) := by decide +kernel
theorem dX6_run_17 : decode cX6_run 17 = .ok (.astore 4, 2) := by decide +kernel
theorem dX6_run_19 : decode cX6_run 19 = .ok (.iload_n 2, 1) := by decide +kernel
theorem dX6_run_20 : decode cX6_run 20 = .ok (.ifCond .lt 12, 3) := by decide +kernel
theorem dX6_run_23 : decode cX6_run 23 = .ok (.iload_n 2, 1) := by decide +kernel
theorem dX6_run_24 : decode cX6_run 24 = .ok (.aload 4, 2) := by decide +kernel
theorem dX6_run_26 : decode cX6_run 26 = .ok (.invokevirtual 78, 3) := by decide +kernel
theorem dX6_run_29 : decode cX6_run 29 = .ok (.if_icmp .lt 5, 3) := by decide +kernel
theorem dX6_run_32 : decode cX6_run 32 = .ok (.iconst (-1), 1) := by decide +kernel
theorem dX6_run_33 : decode cX6_run 33 = .ok (.ireturn, 1) := by decide +kernel
theorem dX6_run_34 : decode cX6_run 34 = .ok (.iload_n 3, 1) := by decide +kernel
theorem dX6_run_35 : decode cX6_run 35 = .ok (.tableswitch 46 0 2 #[25, 32, 39], 25) := by decide +kernel
theorem dX6_run_60 : decode cX6_run 60 = .ok (.aload 4, 2) := by decide +kernel
theorem dX6_run_62 : decode cX6_run 62 = .ok (.iload_n 2, 1) := by decide +kernel
theorem dX6_run_63 : decode cX6_run 63 = .ok (.invokevirtual 108, 3) := by decide +kernel
theorem dX6_run_66 : decode cX6_run 66 = .ok (.ireturn, 1) := by decide +kernel
theorem dX6_run_67 : decode cX6_run 67 = .ok (.aload 4, 2) := by decide +kernel
theorem dX6_run_69 : decode cX6_run 69 = .ok (.iload_n 2, 1) := by decide +kernel
theorem dX6_run_70 : decode cX6_run 70 = .ok (.invokevirtual 111, 3) := by decide +kernel
theorem dX6_run_73 : decode cX6_run 73 = .ok (.ireturn, 1) := by decide +kernel
theorem dX6_run_74 : decode cX6_run 74 = .ok (.aload 4, 2) := by decide +kernel
theorem dX6_run_76 : decode cX6_run 76 = .ok (.iload_n 2, 1) := by decide +kernel
theorem dX6_run_77 : decode cX6_run 77 = .ok (.invokevirtual 114, 3) := by decide +kernel
theorem dX6_run_80 : decode cX6_run 80 = .ok (.ireturn, 1) := by decide +kernel
theorem dX6_run_81 : decode cX6_run 81 = .ok (.bipush (-2), 2) := by decide +kernel
theorem dX6_run_83 : decode cX6_run 83 = .ok (.ireturn, 1) := by decide +kernel
theorem dX6_value_0 : decode cX6_value 0 = .ok (.aload_n 0, 1) := by decide +kernel
theorem dX6_value_1 : decode cX6_value 1 = .ok (.iload_n 1, 1) := by decide +kernel
theorem dX6_value_2 : decode cX6_value 2 = .ok (.iload_n 2, 1) := by decide +kernel
theorem dX6_value_3 : decode cX6_value 3 = .ok (.invokevirtual 117, 3) := by decide +kernel
theorem dX6_value_6 : decode cX6_value 6 = .ok (.ifCond .ne 5, 3) := by decide +kernel
theorem dX6_value_9 : decode cX6_value 9 = .ok (.iconst (-1), 1) := by decide +kernel
theorem dX6_value_10 : decode cX6_value 10 = .ok (.ireturn, 1) := by decide +kernel
theorem dX6_value_11 : decode cX6_value 11 = .ok (.aload_n 0, 1) := by decide +kernel
theorem dX6_value_12 : decode cX6_value 12 = .ok (.getfield 12, 3) := by decide +kernel
theorem dX6_value_15 : decode cX6_value 15 = .ok (.iload_n 1, 1) := by decide +kernel
theorem dX6_value_16 : decode cX6_value 16 = .ok (.invokevirtual 66, 3) := by decide +kernel
theorem dX6_value_19 : decode cX6_value 19 = .ok (.iload_n 2, 1) := by decide +kernel
theorem dX6_value_20 : decode cX6_value 20 = .ok (.invokevirtual 87, 3) := by decide +kernel
theorem dX6_value_23 : decode cX6_value 23 = .ok (.ireturn, 1) := by decide +kernel
theorem dX6_find_0 : decode cX6_find 0 = .ok (.iload_n 1, 1) := by decide +kernel
theorem dX6_find_1 : decode cX6_find 1 = .ok (.invokestatic 94, 3) := by decide +kernel
theorem dX6_find_4 : decode cX6_find 4 = .ok (.ifCond .ne 5, 3) := by decide +kernel
theorem dX6_find_7 : decode cX6_find 7 = .ok (.iconst (-1), 1) := by decide +kernel
theorem dX6_find_8 : decode cX6_find 8 = .ok (.ireturn, 1) := by decide +kernel
theorem dX6_find_9 : decode cX6_find 9 = .ok (.iload_n 2, 1) := by decide +kernel
theorem dX6_find_10 : decode cX6_find 10 = .ok (.invokestatic 121, 3) := by decide +kernel
theorem dX6_find_13 : decode cX6_find 13 = .ok (.ifCond .eq 7, 3) := by decide +kernel
theorem dX6_find_16 : decode cX6_find 16 = .ok (.iload_n 3, 1) := by decide +kernel
theorem dX6_find_17 : decode cX6_find 17 = .ok (.ifCond .ge 6, 3) := by decide +kernel
theorem dX6_find_20 : decode cX6_find 20 = .ok (.bipush (-2), 2) := by decide +kernel
theorem dX6_find_22 : decode cX6_find 22 = .ok (.ireturn, 1) := by decide +kernel
theorem dX6_find_23 : decode cX6_find 23 = .ok (.aload_n 0, 1) := by decide +kernel
theorem dX6_find_24 : decode cX6_find 24 = .ok (.getfield 12, 3) := by decide +kernel
theorem dX6_find_27 : decode cX6_find 27 = .ok (.iload_n 1, 1) := by decide +kernel
theorem dX6_find_28 : decode cX6_find 28 = .ok (.invokevirtual 66, 3) := by decide +kernel
theorem dX6_find_31 : decode cX6_find 31 = .ok (.iload_n 2, 1) := by decide +kernel
theorem dX6_find_32 : decode cX6_find 32 = .ok (.iload_n 3, 1) := by decide +kernel
theorem dX6_find_33 : decode cX6_find 33 = .ok (.invokevirtual 124, 3) := by decide +kernel
theorem dX6_find_36 : decode cX6_find 36 = .ok (.ireturn, 1) := by decide +kernel
theorem dX6_ofColumn_0 : decode cX6_ofColumn 0 = .ok (.iload_n 1, 1) := by decide +kernel
theorem dX6_ofColumn_1 : decode cX6_ofColumn 1 = .ok (.invokestatic 94, 3) := by decide +kernel
theorem dX6_ofColumn_4 : decode cX6_ofColumn 4 = .ok (.ifCond .ne 5, 3) := by decide +kernel
theorem dX6_ofColumn_7 : decode cX6_ofColumn 7 = .ok (.iconst (-1), 1) := by decide +kernel
theorem dX6_ofColumn_8 : decode cX6_ofColumn 8 = .ok (.ireturn, 1) := by decide +kernel
theorem dX6_ofColumn_9 : decode cX6_ofColumn 9 = .ok (.aload_n 0, 1) := by decide +kernel
theorem dX6_ofColumn_10 : decode cX6_ofColumn 10 = .ok (.getfield 12, 3) := by decide +kernel
theorem dX6_ofColumn_13 : decode cX6_ofColumn 13 = .ok (.iload_n 1, 1) := by decide +kernel
theorem dX6_ofColumn_14 : decode cX6_ofColumn 14 = .ok (.invokevirtual 66, 3) := by decide +kernel
theorem dX6_ofColumn_17 : decode cX6_ofColumn 17 = .ok (.astore_n 3, 1) := by decide +kernel
theorem dX6_ofColumn_18 : decode cX6_ofColumn 18 = .ok (.iload_n 2, 1) := by decide +kernel
theorem dX6_ofColumn_19 : decode cX6_ofColumn 19 = .ok (.tableswitch 92 0 6 #[41, 46, 51, 56, 61, 66, 79], 41) := by decide +kernel
theorem dX6_ofColumn_60 : decode cX6_ofColumn 60 = .ok (.aload_n 3, 1) := by decide +kernel
theorem dX6_ofColumn_61 : decode cX6_ofColumn 61 = .ok (.invokevirtual 70, 3) := by decide +kernel
theorem dX6_ofColumn_64 : decode cX6_ofColumn 64 = .ok (.ireturn, 1) := by decide +kernel
theorem dX6_ofColumn_65 : decode cX6_ofColumn 65 = .ok (.aload_n 3, 1) := by decide +kernel
theorem dX6_ofColumn_66 : decode cX6_ofColumn 66 = .ok (.invokevirtual 78, 3) := by decide +kernel
theorem dX6_ofColumn_69 : decode cX6_ofColumn 69 = .ok (.ireturn, 1) := by decide +kernel
theorem dX6_ofColumn_70 : decode cX6_ofColumn 70 = .ok (.aload_n 3, 1) := by decide +kernel
theorem dX6_ofColumn_71 : decode cX6_ofColumn 71 = .ok (.invokevirtual 128, 3) := by decide +kernel
theorem dX6_ofColumn_74 : decode cX6_ofColumn 74 = .ok (.ireturn, 1) := by decide +kernel
theorem dX6_ofColumn_75 : decode cX6_ofColumn 75 = .ok (.aload_n 3, 1) := by decide +kernel
theorem dX6_ofColumn_76 : decode cX6_ofColumn 76 = .ok (.invokevirtual 131, 3) := by decide +kernel
theorem dX6_ofColumn_79 : decode cX6_ofColumn 79 = .ok (.ireturn, 1) := by decide +kernel
theorem dX6_ofColumn_80 : decode cX6_ofColumn 80 = .ok (.aload_n 3, 1) := by decide +kernel
theorem dX6_ofColumn_81 : decode cX6_ofColumn 81 = .ok (.invokevirtual 134, 3) := by decide +kernel
theorem dX6_ofColumn_84 : decode cX6_ofColumn 84 = .ok (.ireturn, 1) := by decide +kernel
theorem dX6_ofColumn_85 : decode cX6_ofColumn 85 = .ok (.aload_n 3, 1) := by decide +kernel
theorem dX6_ofColumn_86 : decode cX6_ofColumn 86 = .ok (.invokevirtual 137, 3) := by decide +kernel
theorem dX6_ofColumn_89 : decode cX6_ofColumn 89 = .ok (.ifCond .eq 7, 3) := by decide +kernel
theorem dX6_ofColumn_92 : decode cX6_ofColumn 92 = .ok (.iconst 1, 1) := by decide +kernel
theorem dX6_ofColumn_93 : decode cX6_ofColumn 93 = .ok (.goto 4, 3) := by decide +kernel
theorem dX6_ofColumn_96 : decode cX6_ofColumn 96 = .ok (.iconst 0, 1) := by decide +kernel
theorem dX6_ofColumn_97 : decode cX6_ofColumn 97 = .ok (.ireturn, 1) := by decide +kernel
theorem dX6_ofColumn_98 : decode cX6_ofColumn 98 = .ok (.aload_n 3, 1) := by decide +kernel
theorem dX6_ofColumn_99 : decode cX6_ofColumn 99 = .ok (.invokevirtual 141, 3) := by decide +kernel
theorem dX6_ofColumn_102 : decode cX6_ofColumn 102 = .ok (.ifCond .eq 7, 3) := by decide +kernel
theorem dX6_ofColumn_105 : decode cX6_ofColumn 105 = .ok (.iconst 1, 1) := by decide +kernel
theorem dX6_ofColumn_106 : decode cX6_ofColumn 106 = .ok (.goto 4, 3) := by decide +kernel
theorem dX6_ofColumn_109 : decode cX6_ofColumn 109 = .ok (.iconst 0, 1) := by decide +kernel
theorem dX6_ofColumn_110 : decode cX6_ofColumn 110 = .ok (.ireturn, 1) := by decide +kernel
theorem dX6_ofColumn_111 : decode cX6_ofColumn 111 = .ok (.bipush (-2), 2) := by decide +kernel
theorem dX6_ofColumn_113 : decode cX6_ofColumn 113 = .ok (.ireturn, 1) := by decide +kernel
theorem dX6_group_0 : decode cX6_group 0 = .ok (.iload_n 1, 1) := by decide +kernel
theorem dX6_group_1 : decode cX6_group 1 = .ok (.invokestatic 94, 3) := by decide +kernel
theorem dX6_group_4 : decode cX6_group 4 = .ok (.ifCond .ne 5, 3) := by decide +kernel
theorem dX6_group_7 : decode cX6_group 7 = .ok (.iconst (-1), 1) := by decide +kernel
theorem dX6_group_8 : decode cX6_group 8 = .ok (.ireturn, 1) := by decide +kernel
theorem dX6_group_9 : decode cX6_group 9 = .ok (.iload_n 2, 1) := by decide +kernel
theorem dX6_group_10 : decode cX6_group 10 = .ok (.invokestatic 121, 3) := by decide +kernel
theorem dX6_group_13 : decode cX6_group 13 = .ok (.ifCond .ne 6, 3) := by decide +kernel
theorem dX6_group_16 : decode cX6_group 16 = .ok (.bipush (-2), 2) := by decide +kernel
theorem dX6_group_18 : decode cX6_group 18 = .ok (.ireturn, 1) := by decide +kernel
theorem dX6_group_19 : decode cX6_group 19 = .ok (.aload_n 0, 1) := by decide +kernel
theorem dX6_group_20 : decode cX6_group 20 = .ok (.getfield 12, 3) := by decide +kernel
theorem dX6_group_23 : decode cX6_group 23 = .ok (.iload_n 1, 1) := by decide +kernel
theorem dX6_group_24 : decode cX6_group 24 = .ok (.invokevirtual 66, 3) := by decide +kernel
theorem dX6_group_27 : decode cX6_group 27 = .ok (.astore 4, 2) := by decide +kernel
theorem dX6_group_29 : decode cX6_group 29 = .ok (.iload_n 3, 1) := by decide +kernel
theorem dX6_group_30 : decode cX6_group 30 = .ok (.tableswitch 47 0 2 #[26, 33, 40], 26) := by decide +kernel
theorem dX6_group_56 : decode cX6_group 56 = .ok (.aload 4, 2) := by decide +kernel
theorem dX6_group_58 : decode cX6_group 58 = .ok (.iload_n 2, 1) := by decide +kernel
theorem dX6_group_59 : decode cX6_group 59 = .ok (.invokevirtual 144, 3) := by decide +kernel
theorem dX6_group_62 : decode cX6_group 62 = .ok (.ireturn, 1) := by decide +kernel
theorem dX6_group_63 : decode cX6_group 63 = .ok (.aload 4, 2) := by decide +kernel
theorem dX6_group_65 : decode cX6_group 65 = .ok (.iload_n 2, 1) := by decide +kernel
theorem dX6_group_66 : decode cX6_group 66 = .ok (.invokevirtual 147, 3) := by decide +kernel
theorem dX6_group_69 : decode cX6_group 69 = .ok (.ireturn, 1) := by decide +kernel
theorem dX6_group_70 : decode cX6_group 70 = .ok (.aload 4, 2) := by decide +kernel
theorem dX6_group_72 : decode cX6_group 72 = .ok (.iload_n 2, 1) := by decide +kernel
theorem dX6_group_73 : decode cX6_group 73 = .ok (.invokevirtual 150, 3) := by decide +kernel
theorem dX6_group_76 : decode cX6_group 76 = .ok (.ireturn, 1) := by decide +kernel
theorem dX6_group_77 : decode cX6_group 77 = .ok (.bipush (-2), 2) := by decide +kernel
theorem dX6_group_79 : decode cX6_group 79 = .ok (.ireturn, 1) := by decide +kernel
theorem dX6_count_0 : decode cX6_count 0 = .ok (.iload_n 1, 1) := by decide +kernel
theorem dX6_count_1 : decode cX6_count 1 = .ok (.tableswitch 63 0 3 #[31, 39, 47, 55], 31) := by decide +kernel
theorem dX6_count_32 : decode cX6_count 32 = .ok (.aload_n 0, 1) := by decide +kernel
theorem dX6_count_33 : decode cX6_count 33 = .ok (.getfield 12, 3) := by decide +kernel
theorem dX6_count_36 : decode cX6_count 36 = .ok (.invokevirtual 153, 3) := by decide +kernel
theorem dX6_count_39 : decode cX6_count 39 = .ok (.ireturn, 1) := by decide +kernel
theorem dX6_count_40 : decode cX6_count 40 = .ok (.aload_n 0, 1) := by decide +kernel
theorem dX6_count_41 : decode cX6_count 41 = .ok (.getfield 12, 3) := by decide +kernel
theorem dX6_count_44 : decode cX6_count 44 = .ok (.invokevirtual 156, 3) := by decide +kernel
theorem dX6_count_47 : decode cX6_count 47 = .ok (.ireturn, 1) := by decide +kernel
theorem dX6_count_48 : decode cX6_count 48 = .ok (.aload_n 0, 1) := by decide +kernel
theorem dX6_count_49 : decode cX6_count 49 = .ok (.getfield 41, 3) := by decide +kernel
theorem dX6_count_52 : decode cX6_count 52 = .ok (.invokevirtual 159, 3) := by decide +kernel
theorem dX6_count_55 : decode cX6_count 55 = .ok (.ireturn, 1) := by decide +kernel
theorem dX6_count_56 : decode cX6_count 56 = .ok (.aload_n 0, 1) := by decide +kernel
theorem dX6_count_57 : decode cX6_count 57 = .ok (.getfield 19, 3) := by decide +kernel
theorem dX6_count_60 : decode cX6_count 60 = .ok (.invokevirtual 162, 3) := by decide +kernel
theorem dX6_count_63 : decode cX6_count 63 = .ok (.ireturn, 1) := by decide +kernel
theorem dX6_count_64 : decode cX6_count 64 = .ok (.bipush (-2), 2) := by decide +kernel
theorem dX6_count_66 : decode cX6_count 66 = .ok (.ireturn, 1) := by decide +kernel
theorem dX6_pair_0 : decode cX6_pair 0 = .ok (.iload_n 1, 1) := by decide +kernel
theorem dX6_pair_1 : decode cX6_pair 1 = .ok (.invokestatic 94, 3) := by decide +kernel
theorem dX6_pair_4 : decode cX6_pair 4 = .ok (.ifCond .eq 20, 3) := by decide +kernel
theorem dX6_pair_7 : decode cX6_pair 7 = .ok (.iload_n 2, 1) := by decide +kernel
theorem dX6_pair_8 : decode cX6_pair 8 = .ok (.invokestatic 94, 3) := by decide +kernel
theorem dX6_pair_11 : decode cX6_pair 11 = .ok (.ifCond .eq 13, 3) := by decide +kernel
theorem dX6_pair_14 : decode cX6_pair 14 = .ok (.iload_n 3, 1) := by decide +kernel
theorem dX6_pair_15 : decode cX6_pair 15 = .ok (.ifCond .lt 9, 3) := by decide +kernel
theorem dX6_pair_18 : decode cX6_pair 18 = .ok (.iload_n 3, 1) := by decide +kernel
theorem dX6_pair_19 : decode cX6_pair 19 = .ok (.bipush 80, 2) := by decide +kernel
theorem dX6_pair_21 : decode cX6_pair 21 = .ok (.if_icmp .lt 5, 3) := by decide +kernel
theorem dX6_pair_24 : decode cX6_pair 24 = .ok (.iconst (-1), 1) := by decide +kernel
theorem dX6_pair_25 : decode cX6_pair 25 = .ok (.ireturn, 1) := by decide +kernel
theorem dX6_pair_26 : decode cX6_pair 26 = .ok (.aload_n 0, 1) := by decide +kernel
theorem dX6_pair_27 : decode cX6_pair 27 = .ok (.iload_n 1, 1) := by decide +kernel
theorem dX6_pair_28 : decode cX6_pair 28 = .ok (.iload_n 2, 1) := by decide +kernel
theorem dX6_pair_29 : decode cX6_pair 29 = .ok (.invokevirtual 165, 3) := by decide +kernel
theorem dX6_pair_32 : decode cX6_pair 32 = .ok (.astore 5, 2) := by decide +kernel
theorem dX6_pair_34 : decode cX6_pair 34 = .ok (.iconst 0, 1) := by decide +kernel
theorem dX6_pair_35 : decode cX6_pair 35 = .ok (.istore 6, 2) := by decide +kernel
theorem dX6_pair_37 : decode cX6_pair 37 = .ok (.iload 6, 2) := by decide +kernel
theorem dX6_pair_39 : decode cX6_pair 39 = .ok (.iload_n 3, 1) := by decide +kernel
theorem dX6_pair_40 : decode cX6_pair 40 = .ok (.if_icmp .gt 19, 3) := by decide +kernel
theorem dX6_pair_43 : decode cX6_pair 43 = .ok (.aload 5, 2) := by decide +kernel
theorem dX6_pair_45 : decode cX6_pair 45 = .ok (.invokevirtual 169, 3) := by decide +kernel
theorem dX6_pair_48 : decode cX6_pair 48 = .ok (.ifCond .ne 5, 3) := by decide +kernel
theorem dX6_pair_51 : decode cX6_pair 51 = .ok (.iconst (-1), 1) := by decide +kernel
theorem dX6_pair_52 : decode cX6_pair 52 = .ok (.ireturn, 1) := by decide +kernel
theorem dX6_pair_53 : decode cX6_pair 53 = .ok (.iinc 6 1, 3) := by decide +kernel
theorem dX6_pair_56 : decode cX6_pair 56 = .ok (.goto (-19), 3) := by decide +kernel
theorem dX6_pair_59 : decode cX6_pair 59 = .ok (.iload 4, 2) := by decide +kernel
theorem dX6_pair_61 : decode cX6_pair 61 = .ok (.tableswitch 55 0 3 #[31, 37, 43, 49], 31) := by decide +kernel
theorem dX6_pair_92 : decode cX6_pair 92 = .ok (.aload 5, 2) := by decide +kernel
theorem dX6_pair_94 : decode cX6_pair 94 = .ok (.invokevirtual 174, 3) := by decide +kernel
theorem dX6_pair_97 : decode cX6_pair 97 = .ok (.ireturn, 1) := by decide +kernel
theorem dX6_pair_98 : decode cX6_pair 98 = .ok (.aload 5, 2) := by decide +kernel
theorem dX6_pair_100 : decode cX6_pair 100 = .ok (.invokevirtual 177, 3) := by decide +kernel
theorem dX6_pair_103 : decode cX6_pair 103 = .ok (.ireturn, 1) := by decide +kernel
theorem dX6_pair_104 : decode cX6_pair 104 = .ok (.aload 5, 2) := by decide +kernel
theorem dX6_pair_106 : decode cX6_pair 106 = .ok (.invokevirtual 180, 3) := by decide +kernel
theorem dX6_pair_109 : decode cX6_pair 109 = .ok (.ireturn, 1) := by decide +kernel
theorem dX6_pair_110 : decode cX6_pair 110 = .ok (.aload 5, 2) := by decide +kernel
theorem dX6_pair_112 : decode cX6_pair 112 = .ok (.invokevirtual 181, 3) := by decide +kernel
theorem dX6_pair_115 : decode cX6_pair 115 = .ok (.ireturn, 1) := by decide +kernel
theorem dX6_pair_116 : decode cX6_pair 116 = .ok (.bipush (-2), 2) := by decide +kernel
theorem dX6_pair_118 : decode cX6_pair 118 = .ok (.ireturn, 1) := by decide +kernel
theorem dX6_joined_0 : decode cX6_joined 0 = .ok (.iload_n 1, 1) := by decide +kernel
theorem dX6_joined_1 : decode cX6_joined 1 = .ok (.invokestatic 94, 3) := by decide +kernel
theorem dX6_joined_4 : decode cX6_joined 4 = .ok (.ifCond .eq 10, 3) := by decide +kernel
theorem dX6_joined_7 : decode cX6_joined 7 = .ok (.iload_n 2, 1) := by decide +kernel
theorem dX6_joined_8 : decode cX6_joined 8 = .ok (.invokestatic 94, 3) := by decide +kernel
theorem dX6_joined_11 : decode cX6_joined 11 = .ok (.ifCond .ne 5, 3) := by decide +kernel
theorem dX6_joined_14 : decode cX6_joined 14 = .ok (.iconst (-1), 1) := by decide +kernel
theorem dX6_joined_15 : decode cX6_joined 15 = .ok (.ireturn, 1) := by decide +kernel
theorem dX6_joined_16 : decode cX6_joined 16 = .ok (.iload_n 3, 1) := by decide +kernel
theorem dX6_joined_17 : decode cX6_joined 17 = .ok (.tableswitch 102 0 4 #[35, 61, 71, 81, 91], 35) := by decide +kernel
theorem dX6_joined_52 : decode cX6_joined 52 = .ok (.aload_n 0, 1) := by decide +kernel
theorem dX6_joined_53 : decode cX6_joined 53 = .ok (.getfield 12, 3) := by decide +kernel
theorem dX6_joined_56 : decode cX6_joined 56 = .ok (.iload_n 1, 1) := by decide +kernel
theorem dX6_joined_57 : decode cX6_joined 57 = .ok (.invokevirtual 66, 3) := by decide +kernel
theorem dX6_joined_60 : decode cX6_joined 60 = .ok (.invokevirtual 70, 3) := by decide +kernel
theorem dX6_joined_63 : decode cX6_joined 63 = .ok (.aload_n 0, 1) := by decide +kernel
theorem dX6_joined_64 : decode cX6_joined 64 = .ok (.getfield 12, 3) := by decide +kernel
theorem dX6_joined_67 : decode cX6_joined 67 = .ok (.iload_n 2, 1) := by decide +kernel
theorem dX6_joined_68 : decode cX6_joined 68 = .ok (.invokevirtual 66, 3) := by decide +kernel
theorem dX6_joined_71 : decode cX6_joined 71 = .ok (.invokevirtual 70, 3) := by decide +kernel
theorem dX6_joined_74 : decode cX6_joined 74 = .ok (.invokestatic 184, 3) := by decide +kernel
theorem dX6_joined_77 : decode cX6_joined 77 = .ok (.ireturn, 1) := by decide +kernel
theorem dX6_joined_78 : decode cX6_joined 78 = .ok (.aload_n 0, 1) := by decide +kernel
theorem dX6_joined_79 : decode cX6_joined 79 = .ok (.iload_n 1, 1) := by decide +kernel
theorem dX6_joined_80 : decode cX6_joined 80 = .ok (.iload_n 2, 1) := by decide +kernel
theorem dX6_joined_81 : decode cX6_joined 81 = .ok (.invokevirtual 165, 3) := by decide +kernel
theorem dX6_joined_84 : decode cX6_joined 84 = .ok (.invokestatic 189, 3) := by decide +kernel
theorem dX6_joined_87 : decode cX6_joined 87 = .ok (.ireturn, 1) := by decide +kernel
theorem dX6_joined_88 : decode cX6_joined 88 = .ok (.aload_n 0, 1) := by decide +kernel
theorem dX6_joined_89 : decode cX6_joined 89 = .ok (.iload_n 1, 1) := by decide +kernel
theorem dX6_joined_90 : decode cX6_joined 90 = .ok (.iload_n 2, 1) := by decide +kernel
theorem dX6_joined_91 : decode cX6_joined 91 = .ok (.invokevirtual 165, 3) := by decide +kernel
theorem dX6_joined_94 : decode cX6_joined 94 = .ok (.invokestatic 193, 3) := by decide +kernel
theorem dX6_joined_97 : decode cX6_joined 97 = .ok (.ireturn, 1) := by decide +kernel
theorem dX6_joined_98 : decode cX6_joined 98 = .ok (.aload_n 0, 1) := by decide +kernel
theorem dX6_joined_99 : decode cX6_joined 99 = .ok (.iload_n 1, 1) := by decide +kernel
theorem dX6_joined_100 : decode cX6_joined 100 = .ok (.iload_n 2, 1) := by decide +kernel
theorem dX6_joined_101 : decode cX6_joined 101 = .ok (.invokevirtual 165, 3) := by decide +kernel
theorem dX6_joined_104 : decode cX6_joined 104 = .ok (.invokestatic 196, 3) := by decide +kernel
theorem dX6_joined_107 : decode cX6_joined 107 = .ok (.ireturn, 1) := by decide +kernel
theorem dX6_joined_108 : decode cX6_joined 108 = .ok (.aload_n 0, 1) := by decide +kernel
theorem dX6_joined_109 : decode cX6_joined 109 = .ok (.aload_n 0, 1) := by decide +kernel
theorem dX6_joined_110 : decode cX6_joined 110 = .ok (.iload_n 1, 1) := by decide +kernel
theorem dX6_joined_111 : decode cX6_joined 111 = .ok (.iload_n 2, 1) := by decide +kernel
theorem dX6_joined_112 : decode cX6_joined 112 = .ok (.invokevirtual 165, 3) := by decide +kernel
theorem dX6_joined_115 : decode cX6_joined 115 = .ok (.invokevirtual 199, 3) := by decide +kernel
theorem dX6_joined_118 : decode cX6_joined 118 = .ok (.ireturn, 1) := by decide +kernel
theorem dX6_joined_119 : decode cX6_joined 119 = .ok (.bipush (-2), 2) := by decide +kernel
theorem dX6_joined_121 : decode cX6_joined 121 = .ok (.ireturn, 1) := by decide +kernel
theorem dX6_alike_0 : decode cX6_alike 0 = .ok (.iload_n 1, 1) := by decide +kernel
theorem dX6_alike_1 : decode cX6_alike 1 = .ok (.invokestatic 94, 3) := by decide +kernel
theorem dX6_alike_4 : decode cX6_alike 4 = .ok (.ifCond .eq 10, 3) := by decide +kernel
theorem dX6_alike_7 : decode cX6_alike 7 = .ok (.iload_n 2, 1) := by decide +kernel
theorem dX6_alike_8 : decode cX6_alike 8 = .ok (.invokestatic 94, 3) := by decide +kernel
theorem dX6_alike_11 : decode cX6_alike 11 = .ok (.ifCond .ne 5, 3) := by decide +kernel
theorem dX6_alike_14 : decode cX6_alike 14 = .ok (.iconst (-1), 1) := by decide +kernel
theorem dX6_alike_15 : decode cX6_alike 15 = .ok (.ireturn, 1) := by decide +kernel
theorem dX6_alike_16 : decode cX6_alike 16 = .ok (.iconst 0, 1) := by decide +kernel
theorem dX6_alike_17 : decode cX6_alike 17 = .ok (.istore_n 3, 1) := by decide +kernel
theorem dX6_alike_18 : decode cX6_alike 18 = .ok (.iconst 0, 1) := by decide +kernel
theorem dX6_alike_19 : decode cX6_alike 19 = .ok (.istore 4, 2) := by decide +kernel
theorem dX6_alike_21 : decode cX6_alike 21 = .ok (.iload 4, 2) := by decide +kernel
theorem dX6_alike_23 : decode cX6_alike 23 = .ok (.bipush 10, 2) := by decide +kernel
theorem dX6_alike_25 : decode cX6_alike 25 = .ok (.if_icmp .ge 39, 3) := by decide +kernel
theorem dX6_alike_28 : decode cX6_alike 28 = .ok (.iload_n 3, 1) := by decide +kernel
theorem dX6_alike_29 : decode cX6_alike 29 = .ok (.aload_n 0, 1) := by decide +kernel
theorem dX6_alike_30 : decode cX6_alike 30 = .ok (.getfield 12, 3) := by decide +kernel
theorem dX6_alike_33 : decode cX6_alike 33 = .ok (.iload_n 1, 1) := by decide +kernel
theorem dX6_alike_34 : decode cX6_alike 34 = .ok (.invokevirtual 66, 3) := by decide +kernel
theorem dX6_alike_37 : decode cX6_alike 37 = .ok (.iload 4, 2) := by decide +kernel
theorem dX6_alike_39 : decode cX6_alike 39 = .ok (.invokevirtual 144, 3) := by decide +kernel
theorem dX6_alike_42 : decode cX6_alike 42 = .ok (.aload_n 0, 1) := by decide +kernel
theorem dX6_alike_43 : decode cX6_alike 43 = .ok (.getfield 12, 3) := by decide +kernel
theorem dX6_alike_46 : decode cX6_alike 46 = .ok (.iload_n 2, 1) := by decide +kernel
theorem dX6_alike_47 : decode cX6_alike 47 = .ok (.invokevirtual 66, 3) := by decide +kernel
theorem dX6_alike_50 : decode cX6_alike 50 = .ok (.iload 4, 2) := by decide +kernel
theorem dX6_alike_52 : decode cX6_alike 52 = .ok (.invokevirtual 144, 3) := by decide +kernel
theorem dX6_alike_55 : decode cX6_alike 55 = .ok (.imul, 1) := by decide +kernel
theorem dX6_alike_56 : decode cX6_alike 56 = .ok (.iadd, 1) := by decide +kernel
theorem dX6_alike_57 : decode cX6_alike 57 = .ok (.istore_n 3, 1) := by decide +kernel
theorem dX6_alike_58 : decode cX6_alike 58 = .ok (.iinc 4 1, 3) := by decide +kernel
theorem dX6_alike_61 : decode cX6_alike 61 = .ok (.goto (-40), 3) := by decide +kernel
theorem dX6_alike_64 : decode cX6_alike 64 = .ok (.iload_n 3, 1) := by decide +kernel
theorem dX6_alike_65 : decode cX6_alike 65 = .ok (.ireturn, 1) := by decide +kernel
theorem dX6_saves_0 : decode cX6_saves 0 = .ok (.iload_n 1, 1) := by decide +kernel
theorem dX6_saves_1 : decode cX6_saves 1 = .ok (.invokestatic 94, 3) := by decide +kernel
theorem dX6_saves_4 : decode cX6_saves 4 = .ok (.ifCond .ne 5, 3) := by decide +kernel
theorem dX6_saves_7 : decode cX6_saves 7 = .ok (.iconst (-1), 1) := by decide +kernel
theorem dX6_saves_8 : decode cX6_saves 8 = .ok (.ireturn, 1) := by decide +kernel
theorem dX6_saves_9 : decode cX6_saves 9 = .ok (.aload_n 0, 1) := by decide +kernel
theorem dX6_saves_10 : decode cX6_saves 10 = .ok (.getfield 12, 3) := by decide +kernel
theorem dX6_saves_13 : decode cX6_saves 13 = .ok (.iload_n 1, 1) := by decide +kernel
theorem dX6_saves_14 : decode cX6_saves 14 = .ok (.invokevirtual 66, 3) := by decide +kernel
theorem dX6_saves_17 : decode cX6_saves 17 = .ok (.astore_n 2, 1) := by decide +kernel
theorem dX6_saves_18 : decode cX6_saves 18 = .ok (.aload_n 2, 1) := by decide +kernel
theorem dX6_saves_19 : decode cX6_saves 19 = .ok (.invokevirtual 78, 3) := by decide +kernel
theorem dX6_saves_22 : decode cX6_saves 22 = .ok (.aload_n 2, 1) := by decide +kernel
theorem dX6_saves_23 : decode cX6_saves 23 = .ok (.invokevirtual 134, 3) := by decide +kernel
theorem dX6_saves_26 : decode cX6_saves 26 = .ok (.invokestatic 202, 3) := by decide +kernel
theorem dX6_saves_29 : decode cX6_saves 29 = .ok (.isub, 1) := by decide +kernel
theorem dX6_saves_30 : decode cX6_saves 30 = .ok (.ireturn, 1) := by decide +kernel
theorem dX6_bestSet_0 : decode cX6_bestSet 0 = .ok (.iload_n 1, 1) := by decide +kernel
theorem dX6_bestSet_1 : decode cX6_bestSet 1 = .ok (.invokestatic 94, 3) := by decide +kernel
theorem dX6_bestSet_4 : decode cX6_bestSet 4 = .ok (.ifCond .ne 5, 3) := by decide +kernel
theorem dX6_bestSet_7 : decode cX6_bestSet 7 = .ok (.iconst (-1), 1) := by decide +kernel
theorem dX6_bestSet_8 : decode cX6_bestSet 8 = .ok (.ireturn, 1) := by decide +kernel
theorem dX6_bestSet_9 : decode cX6_bestSet 9 = .ok (.iload_n 2, 1) := by decide +kernel
theorem dX6_bestSet_10 : decode cX6_bestSet 10 = .ok (.invokestatic 121, 3) := by decide +kernel
theorem dX6_bestSet_13 : decode cX6_bestSet 13 = .ok (.ifCond .eq 12, 3) := by decide +kernel
theorem dX6_bestSet_16 : decode cX6_bestSet 16 = .ok (.iload_n 3, 1) := by decide +kernel
theorem dX6_bestSet_17 : decode cX6_bestSet 17 = .ok (.ifCond .lt 8, 3) := by decide +kernel
theorem dX6_bestSet_20 : decode cX6_bestSet 20 = .ok (.iload_n 3, 1) := by decide +kernel
theorem dX6_bestSet_21 : decode cX6_bestSet 21 = .ok (.iconst 1, 1) := by decide +kernel
theorem dX6_bestSet_22 : decode cX6_bestSet 22 = .ok (.if_icmp .le 6, 3) := by decide +kernel
theorem dX6_bestSet_25 : decode cX6_bestSet 25 = .ok (.bipush (-2), 2) := by decide +kernel
theorem dX6_bestSet_27 : decode cX6_bestSet 27 = .ok (.ireturn, 1) := by decide +kernel
theorem dX6_bestSet_28 : decode cX6_bestSet 28 = .ok (.aload_n 0, 1) := by decide +kernel
theorem dX6_bestSet_29 : decode cX6_bestSet 29 = .ok (.getfield 12, 3) := by decide +kernel
theorem dX6_bestSet_32 : decode cX6_bestSet 32 = .ok (.iload_n 1, 1) := by decide +kernel
theorem dX6_bestSet_33 : decode cX6_bestSet 33 = .ok (.invokevirtual 66, 3) := by decide +kernel
theorem dX6_bestSet_36 : decode cX6_bestSet 36 = .ok (.astore 4, 2) := by decide +kernel
theorem dX6_bestSet_38 : decode cX6_bestSet 38 = .ok (.aload 4, 2) := by decide +kernel
theorem dX6_bestSet_40 : decode cX6_bestSet 40 = .ok (.invokevirtual 70, 3) := by decide +kernel
theorem dX6_bestSet_43 : decode cX6_bestSet 43 = .ok (.ifCond .ne 6, 3) := by decide +kernel
theorem dX6_bestSet_46 : decode cX6_bestSet 46 = .ok (.bipush (-6), 2) := by decide +kernel
theorem dX6_bestSet_48 : decode cX6_bestSet 48 = .ok (.ireturn, 1) := by decide +kernel
theorem dX6_bestSet_49 : decode cX6_bestSet 49 = .ok (.aload 4, 2) := by decide +kernel
theorem dX6_bestSet_51 : decode cX6_bestSet 51 = .ok (.iload_n 2, 1) := by decide +kernel
theorem dX6_bestSet_52 : decode cX6_bestSet 52 = .ok (.invokevirtual 207, 3) := by decide +kernel
theorem dX6_bestSet_55 : decode cX6_bestSet 55 = .ok (.istore 5, 2) := by decide +kernel
theorem dX6_bestSet_57 : decode cX6_bestSet 57 = .ok (.iload_n 3, 1) := by decide +kernel
theorem dX6_bestSet_58 : decode cX6_bestSet 58 = .ok (.ifCond .ne 8, 3) := by decide +kernel
theorem dX6_bestSet_61 : decode cX6_bestSet 61 = .ok (.iload 5, 2) := by decide +kernel
theorem dX6_bestSet_63 : decode cX6_bestSet 63 = .ok (.goto 11, 3) := by decide +kernel
theorem dX6_bestSet_66 : decode cX6_bestSet 66 = .ok (.aload 4, 2) := by decide +kernel
theorem dX6_bestSet_68 : decode cX6_bestSet 68 = .ok (.iload 5, 2) := by decide +kernel
theorem dX6_bestSet_70 : decode cX6_bestSet 70 = .ok (.iload_n 2, 1) := by decide +kernel
theorem dX6_bestSet_71 : decode cX6_bestSet 71 = .ok (.invokevirtual 210, 3) := by decide +kernel
theorem dX6_bestSet_74 : decode cX6_bestSet 74 = .ok (.ireturn, 1) := by decide +kernel
theorem dX6_put_0 : decode cX6_put 0 = .ok (.lload_n 1, 1) := by decide +kernel
theorem dX6_put_1 : decode cX6_put 1 = .ok (.invokestatic 213, 3) := by decide +kernel
theorem dX6_put_4 : decode cX6_put 4 = .ok (.istore_n 3, 1) := by decide +kernel
theorem dX6_put_5 : decode cX6_put 5 = .ok (.iload_n 3, 1) := by decide +kernel
theorem dX6_put_6 : decode cX6_put 6 = .ok (.iconst 1, 1) := by decide +kernel
theorem dX6_put_7 : decode cX6_put 7 = .ok (.if_icmp .ge 6, 3) := by decide +kernel
theorem dX6_put_10 : decode cX6_put 10 = .ok (.bipush (-2), 2) := by decide +kernel
theorem dX6_put_12 : decode cX6_put 12 = .ok (.ireturn, 1) := by decide +kernel
theorem dX6_put_13 : decode cX6_put 13 = .ok (.iload_n 3, 1) := by decide +kernel
theorem dX6_put_14 : decode cX6_put 14 = .ok (.bipush 80, 2) := by decide +kernel
theorem dX6_put_16 : decode cX6_put 16 = .ok (.aload_n 0, 1) := by decide +kernel
theorem dX6_put_17 : decode cX6_put 17 = .ok (.getfield 41, 3) := by decide +kernel
theorem dX6_put_20 : decode cX6_put 20 = .ok (.invokevirtual 159, 3) := by decide +kernel
theorem dX6_put_23 : decode cX6_put 23 = .ok (.isub, 1) := by decide +kernel
theorem dX6_put_24 : decode cX6_put 24 = .ok (.if_icmp .le 6, 3) := by decide +kernel
theorem dX6_put_27 : decode cX6_put 27 = .ok (.bipush (-4), 2) := by decide +kernel
theorem dX6_put_29 : decode cX6_put 29 = .ok (.ireturn, 1) := by decide +kernel
theorem dX6_put_30 : decode cX6_put 30 = .ok (.iload_n 3, 1) := by decide +kernel
theorem dX6_put_31 : decode cX6_put 31 = .ok (.iconst 1, 1) := by decide +kernel
theorem dX6_put_32 : decode cX6_put 32 = .ok (.isub, 1) := by decide +kernel
theorem dX6_put_33 : decode cX6_put 33 = .ok (.istore 4, 2) := by decide +kernel
theorem dX6_put_35 : decode cX6_put 35 = .ok (.iload 4, 2) := by decide +kernel
theorem dX6_put_37 : decode cX6_put 37 = .ok (.ifCond .lt 29, 3) := by decide +kernel
theorem dX6_put_40 : decode cX6_put 40 = .ok (.aload_n 0, 1) := by decide +kernel
theorem dX6_put_41 : decode cX6_put 41 = .ok (.getfield 41, 3) := by decide +kernel
theorem dX6_put_44 : decode cX6_put 44 = .ok (.lload_n 1, 1) := by decide +kernel
theorem dX6_put_45 : decode cX6_put 45 = .ok (.bipush 8, 2) := by decide +kernel
theorem dX6_put_47 : decode cX6_put 47 = .ok (.iload 4, 2) := by decide +kernel
theorem dX6_put_49 : decode cX6_put 49 = .ok (.imul, 1) := by decide +kernel
theorem dX6_put_50 : decode cX6_put 50 = .ok (.lushr, 1) := by decide +kernel
theorem dX6_put_51 : decode cX6_put 51 = .ok (.ldc2_w 217, 3) := by decide +kernel
theorem dX6_put_54 : decode cX6_put 54 = .ok (.land, 1) := by decide +kernel
theorem dX6_put_55 : decode cX6_put 55 = .ok (.l2i, 1) := by decide +kernel
theorem dX6_put_56 : decode cX6_put 56 = .ok (.i2c, 1) := by decide +kernel
theorem dX6_put_57 : decode cX6_put 57 = .ok (.invokevirtual 219, 3) := by decide +kernel
theorem dX6_put_60 : decode cX6_put 60 = .ok (.iinc 4 (-1), 3) := by decide +kernel
theorem dX6_put_63 : decode cX6_put 63 = .ok (.goto (-28), 3) := by decide +kernel
theorem dX6_put_66 : decode cX6_put 66 = .ok (.aload_n 0, 1) := by decide +kernel
theorem dX6_put_67 : decode cX6_put 67 = .ok (.getfield 41, 3) := by decide +kernel
theorem dX6_put_70 : decode cX6_put 70 = .ok (.invokevirtual 159, 3) := by decide +kernel
theorem dX6_put_73 : decode cX6_put 73 = .ok (.ireturn, 1) := by decide +kernel
theorem dX6_wipe_0 : decode cX6_wipe 0 = .ok (.aload_n 0, 1) := by decide +kernel
theorem dX6_wipe_1 : decode cX6_wipe 1 = .ok (.getfield 41, 3) := by decide +kernel
theorem dX6_wipe_4 : decode cX6_wipe 4 = .ok (.invokevirtual 159, 3) := by decide +kernel
theorem dX6_wipe_7 : decode cX6_wipe 7 = .ok (.istore_n 1, 1) := by decide +kernel
theorem dX6_wipe_8 : decode cX6_wipe 8 = .ok (.aload_n 0, 1) := by decide +kernel
theorem dX6_wipe_9 : decode cX6_wipe 9 = .ok (.getfield 41, 3) := by decide +kernel
theorem dX6_wipe_12 : decode cX6_wipe 12 = .ok (.invokevirtual 223, 3) := by decide +kernel
theorem dX6_wipe_15 : decode cX6_wipe 15 = .ok (.iload_n 1, 1) := by decide +kernel
theorem dX6_wipe_16 : decode cX6_wipe 16 = .ok (.ireturn, 1) := by decide +kernel
theorem dX6_fault_0 : decode cX6_fault 0 = .ok (.aload_n 0, 1) := by decide +kernel
theorem dX6_fault_1 : decode cX6_fault 1 = .ok (.getfield 50, 3) := by decide +kernel
theorem dX6_fault_4 : decode cX6_fault 4 = .ok (.invokevirtual 224, 3) := by decide +kernel
theorem dX6_fault_7 : decode cX6_fault 7 = .ok (.ireturn, 1) := by decide +kernel
theorem dX6_carryOut_0 : decode cX6_carryOut 0 = .ok (.aload_n 0, 1) := by decide +kernel
theorem dX6_carryOut_1 : decode cX6_carryOut 1 = .ok (.getfield 50, 3) := by decide +kernel
theorem dX6_carryOut_4 : decode cX6_carryOut 4 = .ok (.invokevirtual 224, 3) := by decide +kernel
theorem dX6_carryOut_7 : decode cX6_carryOut 7 = .ok (.bipush (-6), 2) := by decide +kernel
theorem dX6_carryOut_9 : decode cX6_carryOut 9 = .ok (.if_icmp .eq 6, 3) := by decide +kernel
theorem dX6_carryOut_12 : decode cX6_carryOut 12 = .ok (.bipush (-3), 2) := by decide +kernel
theorem dX6_carryOut_14 : decode cX6_carryOut 14 = .ok (.ireturn, 1) := by decide +kernel
theorem dX6_carryOut_15 : decode cX6_carryOut 15 = .ok (.aload_n 0, 1) := by decide +kernel
theorem dX6_carryOut_16 : decode cX6_carryOut 16 = .ok (.getfield 19, 3) := by decide +kernel
theorem dX6_carryOut_19 : decode cX6_carryOut 19 = .ok (.aload_n 0, 1) := by decide +kernel
theorem dX6_carryOut_20 : decode cX6_carryOut 20 = .ok (.getfield 12, 3) := by decide +kernel
theorem dX6_carryOut_23 : decode cX6_carryOut 23 = .ok (.invokevirtual 227, 3) := by decide +kernel
theorem dX6_carryOut_26 : decode cX6_carryOut 26 = .ok (.aload_n 0, 1) := by decide +kernel
theorem dX6_carryOut_27 : decode cX6_carryOut 27 = .ok (.invokevirtual 231, 3) := by decide +kernel
theorem dX6_carryOut_30 : decode cX6_carryOut 30 = .ok (.istore_n 1, 1) := by decide +kernel
theorem dX6_carryOut_31 : decode cX6_carryOut 31 = .ok (.aload_n 0, 1) := by decide +kernel
theorem dX6_carryOut_32 : decode cX6_carryOut 32 = .ok (.getfield 41, 3) := by decide +kernel
theorem dX6_carryOut_35 : decode cX6_carryOut 35 = .ok (.invokevirtual 223, 3) := by decide +kernel
theorem dX6_carryOut_38 : decode cX6_carryOut 38 = .ok (.iload_n 1, 1) := by decide +kernel
theorem dX6_carryOut_39 : decode cX6_carryOut 39 = .ok (.ireturn, 1) := by decide +kernel
theorem dX6_undo_0 : decode cX6_undo 0 = .ok (.aload_n 0, 1) := by decide +kernel
theorem dX6_undo_1 : decode cX6_undo 1 = .ok (.getfield 19, 3) := by decide +kernel
theorem dX6_undo_4 : decode cX6_undo 4 = .ok (.invokevirtual 162, 3) := by decide +kernel
theorem dX6_undo_7 : decode cX6_undo 7 = .ok (.ifCond .ne 6, 3) := by decide +kernel
theorem dX6_undo_10 : decode cX6_undo 10 = .ok (.bipush (-5), 2) := by decide +kernel
theorem dX6_undo_12 : decode cX6_undo 12 = .ok (.ireturn, 1) := by decide +kernel
theorem dX6_undo_13 : decode cX6_undo 13 = .ok (.aload_n 0, 1) := by decide +kernel
theorem dX6_undo_14 : decode cX6_undo 14 = .ok (.getfield 19, 3) := by decide +kernel
theorem dX6_undo_17 : decode cX6_undo 17 = .ok (.aload_n 0, 1) := by decide +kernel
theorem dX6_undo_18 : decode cX6_undo 18 = .ok (.getfield 12, 3) := by decide +kernel
theorem dX6_undo_21 : decode cX6_undo 21 = .ok (.invokevirtual 234, 3) := by decide +kernel
theorem dX6_undo_24 : decode cX6_undo 24 = .ok (.aload_n 0, 1) := by decide +kernel
theorem dX6_undo_25 : decode cX6_undo 25 = .ok (.getfield 19, 3) := by decide +kernel
theorem dX6_undo_28 : decode cX6_undo 28 = .ok (.invokevirtual 162, 3) := by decide +kernel
theorem dX6_undo_31 : decode cX6_undo 31 = .ok (.ireturn, 1) := by decide +kernel
theorem dX6_save_0 : decode cX6_save 0 = .ok (.iload_n 1, 1) := by decide +kernel
theorem dX6_save_1 : decode cX6_save 1 = .ok (.invokestatic 237, 3) := by decide +kernel
theorem dX6_save_4 : decode cX6_save 4 = .ok (.ifCond .ne 6, 3) := by decide +kernel
theorem dX6_save_7 : decode cX6_save 7 = .ok (.bipush (-2), 2) := by decide +kernel
theorem dX6_save_9 : decode cX6_save 9 = .ok (.ireturn, 1) := by decide +kernel
theorem dX6_save_10 : decode cX6_save 10 = .ok (.aload_n 0, 1) := by decide +kernel
theorem dX6_save_11 : decode cX6_save 11 = .ok (.getfield 23, 3) := by decide +kernel
theorem dX6_save_14 : decode cX6_save 14 = .ok (.iload_n 1, 1) := by decide +kernel
theorem dX6_save_15 : decode cX6_save 15 = .ok (.aaload, 1) := by decide +kernel
theorem dX6_save_16 : decode cX6_save 16 = .ok (.aload_n 0, 1) := by decide +kernel
theorem dX6_save_17 : decode cX6_save 17 = .ok (.getfield 12, 3) := by decide +kernel
theorem dX6_save_20 : decode cX6_save 20 = .ok (.invokevirtual 240, 3) := by decide +kernel
theorem dX6_save_23 : decode cX6_save 23 = .ok (.aload_n 0, 1) := by decide +kernel
theorem dX6_save_24 : decode cX6_save 24 = .ok (.getfield 27, 3) := by decide +kernel
theorem dX6_save_27 : decode cX6_save 27 = .ok (.iload_n 1, 1) := by decide +kernel
theorem dX6_save_28 : decode cX6_save 28 = .ok (.iconst 1, 1) := by decide +kernel
theorem dX6_save_29 : decode cX6_save 29 = .ok (.bastore, 1) := by decide +kernel
theorem dX6_save_30 : decode cX6_save 30 = .ok (.aload_n 0, 1) := by decide +kernel
theorem dX6_save_31 : decode cX6_save 31 = .ok (.getfield 12, 3) := by decide +kernel
theorem dX6_save_34 : decode cX6_save 34 = .ok (.invokevirtual 156, 3) := by decide +kernel
theorem dX6_save_37 : decode cX6_save 37 = .ok (.ireturn, 1) := by decide +kernel
theorem dX6_restore_0 : decode cX6_restore 0 = .ok (.iload_n 1, 1) := by decide +kernel
theorem dX6_restore_1 : decode cX6_restore 1 = .ok (.invokestatic 237, 3) := by decide +kernel
theorem dX6_restore_4 : decode cX6_restore 4 = .ok (.ifCond .ne 6, 3) := by decide +kernel
theorem dX6_restore_7 : decode cX6_restore 7 = .ok (.bipush (-2), 2) := by decide +kernel
theorem dX6_restore_9 : decode cX6_restore 9 = .ok (.ireturn, 1) := by decide +kernel
theorem dX6_restore_10 : decode cX6_restore 10 = .ok (.aload_n 0, 1) := by decide +kernel
theorem dX6_restore_11 : decode cX6_restore 11 = .ok (.getfield 27, 3) := by decide +kernel
theorem dX6_restore_14 : decode cX6_restore 14 = .ok (.iload_n 1, 1) := by decide +kernel
theorem dX6_restore_15 : decode cX6_restore 15 = .ok (.baload, 1) := by decide +kernel
theorem dX6_restore_16 : decode cX6_restore 16 = .ok (.ifCond .ne 6, 3) := by decide +kernel
theorem dX6_restore_19 : decode cX6_restore 19 = .ok (.bipush (-5), 2) := by decide +kernel
theorem dX6_restore_21 : decode cX6_restore 21 = .ok (.ireturn, 1) := by decide +kernel
theorem dX6_restore_22 : decode cX6_restore 22 = .ok (.aload_n 0, 1) := by decide +kernel
theorem dX6_restore_23 : decode cX6_restore 23 = .ok (.getfield 19, 3) := by decide +kernel
theorem dX6_restore_26 : decode cX6_restore 26 = .ok (.aload_n 0, 1) := by decide +kernel
theorem dX6_restore_27 : decode cX6_restore 27 = .ok (.getfield 12, 3) := by decide +kernel
theorem dX6_restore_30 : decode cX6_restore 30 = .ok (.invokevirtual 227, 3) := by decide +kernel
theorem dX6_restore_33 : decode cX6_restore 33 = .ok (.aload_n 0, 1) := by decide +kernel
theorem dX6_restore_34 : decode cX6_restore 34 = .ok (.getfield 12, 3) := by decide +kernel
theorem dX6_restore_37 : decode cX6_restore 37 = .ok (.aload_n 0, 1) := by decide +kernel
theorem dX6_restore_38 : decode cX6_restore 38 = .ok (.getfield 23, 3) := by decide +kernel
theorem dX6_restore_41 : decode cX6_restore 41 = .ok (.iload_n 1, 1) := by decide +kernel
theorem dX6_restore_42 : decode cX6_restore 42 = .ok (.aaload, 1) := by decide +kernel
theorem dX6_restore_43 : decode cX6_restore 43 = .ok (.invokevirtual 240, 3) := by decide +kernel
theorem dX6_restore_46 : decode cX6_restore 46 = .ok (.aload_n 0, 1) := by decide +kernel
theorem dX6_restore_47 : decode cX6_restore 47 = .ok (.getfield 12, 3) := by decide +kernel
theorem dX6_restore_50 : decode cX6_restore 50 = .ok (.invokevirtual 156, 3) := by decide +kernel
theorem dX6_restore_53 : decode cX6_restore 53 = .ok (.ireturn, 1) := by decide +kernel
theorem dX6_isColumn_0 : decode cX6_isColumn 0 = .ok (.iload_n 0, 1) := by decide +kernel
theorem dX6_isColumn_1 : decode cX6_isColumn 1 = .ok (.ifCond .lt 12, 3) := by decide +kernel
theorem dX6_isColumn_4 : decode cX6_isColumn 4 = .ok (.iload_n 0, 1) := by decide +kernel
theorem dX6_isColumn_5 : decode cX6_isColumn 5 = .ok (.iconst 4, 1) := by decide +kernel
theorem dX6_isColumn_6 : decode cX6_isColumn 6 = .ok (.if_icmp .ge 7, 3) := by decide +kernel
theorem dX6_isColumn_9 : decode cX6_isColumn 9 = .ok (.iconst 1, 1) := by decide +kernel
theorem dX6_isColumn_10 : decode cX6_isColumn 10 = .ok (.goto 4, 3) := by decide +kernel
theorem dX6_isColumn_13 : decode cX6_isColumn 13 = .ok (.iconst 0, 1) := by decide +kernel
theorem dX6_isColumn_14 : decode cX6_isColumn 14 = .ok (.ireturn, 1) := by decide +kernel
theorem dX6_isValue_0 : decode cX6_isValue 0 = .ok (.iload_n 0, 1) := by decide +kernel
theorem dX6_isValue_1 : decode cX6_isValue 1 = .ok (.ifCond .lt 13, 3) := by decide +kernel
theorem dX6_isValue_4 : decode cX6_isValue 4 = .ok (.iload_n 0, 1) := by decide +kernel
theorem dX6_isValue_5 : decode cX6_isValue 5 = .ok (.bipush 10, 2) := by decide +kernel
theorem dX6_isValue_7 : decode cX6_isValue 7 = .ok (.if_icmp .ge 7, 3) := by decide +kernel
theorem dX6_isValue_10 : decode cX6_isValue 10 = .ok (.iconst 1, 1) := by decide +kernel
theorem dX6_isValue_11 : decode cX6_isValue 11 = .ok (.goto 4, 3) := by decide +kernel
theorem dX6_isValue_14 : decode cX6_isValue 14 = .ok (.iconst 0, 1) := by decide +kernel
theorem dX6_isValue_15 : decode cX6_isValue 15 = .ok (.ireturn, 1) := by decide +kernel
theorem dX6_isLength_0 : decode cX6_isLength 0 = .ok (.iload_n 0, 1) := by decide +kernel
theorem dX6_isLength_1 : decode cX6_isLength 1 = .ok (.iconst 1, 1) := by decide +kernel
theorem dX6_isLength_2 : decode cX6_isLength 2 = .ok (.if_icmp .lt 14, 3) := by decide +kernel
theorem dX6_isLength_5 : decode cX6_isLength 5 = .ok (.iload_n 0, 1) := by decide +kernel
theorem dX6_isLength_6 : decode cX6_isLength 6 = .ok (.sipush 999, 3) := by decide +kernel
theorem dX6_isLength_9 : decode cX6_isLength 9 = .ok (.if_icmp .gt 7, 3) := by decide +kernel
theorem dX6_isLength_12 : decode cX6_isLength 12 = .ok (.iconst 1, 1) := by decide +kernel
theorem dX6_isLength_13 : decode cX6_isLength 13 = .ok (.goto 4, 3) := by decide +kernel
theorem dX6_isLength_16 : decode cX6_isLength 16 = .ok (.iconst 0, 1) := by decide +kernel
theorem dX6_isLength_17 : decode cX6_isLength 17 = .ok (.ireturn, 1) := by decide +kernel
theorem dX6_isSlot_0 : decode cX6_isSlot 0 = .ok (.iload_n 0, 1) := by decide +kernel
theorem dX6_isSlot_1 : decode cX6_isSlot 1 = .ok (.ifCond .lt 12, 3) := by decide +kernel
theorem dX6_isSlot_4 : decode cX6_isSlot 4 = .ok (.iload_n 0, 1) := by decide +kernel
theorem dX6_isSlot_5 : decode cX6_isSlot 5 = .ok (.iconst 2, 1) := by decide +kernel
theorem dX6_isSlot_6 : decode cX6_isSlot 6 = .ok (.if_icmp .ge 7, 3) := by decide +kernel
theorem dX6_isSlot_9 : decode cX6_isSlot 9 = .ok (.iconst 1, 1) := by decide +kernel
theorem dX6_isSlot_10 : decode cX6_isSlot 10 = .ok (.goto 4, 3) := by decide +kernel
theorem dX6_isSlot_13 : decode cX6_isSlot 13 = .ok (.iconst 0, 1) := by decide +kernel
theorem dX6_isSlot_14 : decode cX6_isSlot 14 = .ok (.ireturn, 1) := by decide +kernel
theorem dX6_isRow_0 : decode cX6_isRow 0 = .ok (.iload_n 1, 1) := by decide +kernel
theorem dX6_isRow_1 : decode cX6_isRow 1 = .ok (.invokestatic 94, 3) := by decide +kernel
theorem dX6_isRow_4 : decode cX6_isRow 4 = .ok (.ifCond .eq 26, 3) := by decide +kernel
theorem dX6_isRow_7 : decode cX6_isRow 7 = .ok (.iload_n 2, 1) := by decide +kernel
theorem dX6_isRow_8 : decode cX6_isRow 8 = .ok (.ifCond .lt 22, 3) := by decide +kernel
theorem dX6_isRow_11 : decode cX6_isRow 11 = .ok (.iload_n 2, 1) := by decide +kernel
theorem dX6_isRow_12 : decode cX6_isRow 12 = .ok (.aload_n 0, 1) := by decide +kernel
theorem dX6_isRow_13 : decode cX6_isRow 13 = .ok (.getfield 12, 3) := by decide +kernel
theorem dX6_isRow_16 : decode cX6_isRow 16 = .ok (.iload_n 1, 1) := by decide +kernel
theorem dX6_isRow_17 : decode cX6_isRow 17 = .ok (.invokevirtual 66, 3) := by decide +kernel
theorem dX6_isRow_20 : decode cX6_isRow 20 = .ok (.invokevirtual 70, 3) := by decide +kernel
theorem dX6_isRow_23 : decode cX6_isRow 23 = .ok (.if_icmp .ge 7, 3) := by decide +kernel
theorem dX6_isRow_26 : decode cX6_isRow 26 = .ok (.iconst 1, 1) := by decide +kernel
theorem dX6_isRow_27 : decode cX6_isRow 27 = .ok (.goto 4, 3) := by decide +kernel
theorem dX6_isRow_30 : decode cX6_isRow 30 = .ok (.iconst 0, 1) := by decide +kernel
theorem dX6_isRow_31 : decode cX6_isRow 31 = .ok (.ireturn, 1) := by decide +kernel
theorem dX6_draftAppend_0 : decode cX6_draftAppend 0 = .ok (.iload_n 1, 1) := by decide +kernel
theorem dX6_draftAppend_1 : decode cX6_draftAppend 1 = .ok (.invokestatic 94, 3) := by decide +kernel
theorem dX6_draftAppend_4 : decode cX6_draftAppend 4 = .ok (.ifCond .ne 5, 3) := by decide +kernel
theorem dX6_draftAppend_7 : decode cX6_draftAppend 7 = .ok (.iconst (-1), 1) := by decide +kernel
theorem dX6_draftAppend_8 : decode cX6_draftAppend 8 = .ok (.ireturn, 1) := by decide +kernel
theorem dX6_draftAppend_9 : decode cX6_draftAppend 9 = .ok (.iload_n 2, 1) := by decide +kernel
theorem dX6_draftAppend_10 : decode cX6_draftAppend 10 = .ok (.invokestatic 121, 3) := by decide +kernel
theorem dX6_draftAppend_13 : decode cX6_draftAppend 13 = .ok (.ifCond .eq 10, 3) := by decide +kernel
theorem dX6_draftAppend_16 : decode cX6_draftAppend 16 = .ok (.iload_n 3, 1) := by decide +kernel
theorem dX6_draftAppend_17 : decode cX6_draftAppend 17 = .ok (.invokestatic 243, 3) := by decide +kernel
theorem dX6_draftAppend_20 : decode cX6_draftAppend 20 = .ok (.ifCond .ne 6, 3) := by decide +kernel
theorem dX6_draftAppend_23 : decode cX6_draftAppend 23 = .ok (.bipush (-2), 2) := by decide +kernel
theorem dX6_draftAppend_25 : decode cX6_draftAppend 25 = .ok (.ireturn, 1) := by decide +kernel
theorem dX6_draftAppend_26 : decode cX6_draftAppend 26 = .ok (.aload_n 0, 1) := by decide +kernel
theorem dX6_draftAppend_27 : decode cX6_draftAppend 27 = .ok (.getfield 34, 3) := by decide +kernel
theorem dX6_draftAppend_30 : decode cX6_draftAppend 30 = .ok (.aload_n 0, 1) := by decide +kernel
theorem dX6_draftAppend_31 : decode cX6_draftAppend 31 = .ok (.getfield 12, 3) := by decide +kernel
theorem dX6_draftAppend_34 : decode cX6_draftAppend 34 = .ok (.iload_n 1, 1) := by decide +kernel
theorem dX6_draftAppend_35 : decode cX6_draftAppend 35 = .ok (.invokevirtual 66, 3) := by decide +kernel
theorem dX6_draftAppend_38 : decode cX6_draftAppend 38 = .ok (.invokevirtual 246, 3) := by decide +kernel
theorem dX6_draftAppend_41 : decode cX6_draftAppend 41 = .ok (.aload_n 0, 1) := by decide +kernel
theorem dX6_draftAppend_42 : decode cX6_draftAppend 42 = .ok (.getfield 34, 3) := by decide +kernel
theorem dX6_draftAppend_45 : decode cX6_draftAppend 45 = .ok (.iload_n 2, 1) := by decide +kernel
theorem dX6_draftAppend_46 : decode cX6_draftAppend 46 = .ok (.iload_n 3, 1) := by decide +kernel
theorem dX6_draftAppend_47 : decode cX6_draftAppend 47 = .ok (.invokevirtual 248, 3) := by decide +kernel
theorem dX6_draftAppend_50 : decode cX6_draftAppend 50 = .ok (.aload_n 0, 1) := by decide +kernel
theorem dX6_draftAppend_51 : decode cX6_draftAppend 51 = .ok (.invokevirtual 252, 3) := by decide +kernel
theorem dX6_draftAppend_54 : decode cX6_draftAppend 54 = .ok (.ireturn, 1) := by decide +kernel
theorem dX6_draftInsert_0 : decode cX6_draftInsert 0 = .ok (.iload_n 1, 1) := by decide +kernel
theorem dX6_draftInsert_1 : decode cX6_draftInsert 1 = .ok (.invokestatic 94, 3) := by decide +kernel
theorem dX6_draftInsert_4 : decode cX6_draftInsert 4 = .ok (.ifCond .ne 5, 3) := by decide +kernel
theorem dX6_draftInsert_7 : decode cX6_draftInsert 7 = .ok (.iconst (-1), 1) := by decide +kernel
theorem dX6_draftInsert_8 : decode cX6_draftInsert 8 = .ok (.ireturn, 1) := by decide +kernel
theorem dX6_draftInsert_9 : decode cX6_draftInsert 9 = .ok (.aload_n 0, 1) := by decide +kernel
theorem dX6_draftInsert_10 : decode cX6_draftInsert 10 = .ok (.getfield 12, 3) := by decide +kernel
theorem dX6_draftInsert_13 : decode cX6_draftInsert 13 = .ok (.iload_n 1, 1) := by decide +kernel
theorem dX6_draftInsert_14 : decode cX6_draftInsert 14 = .ok (.invokevirtual 66, 3) := by decide +kernel
theorem dX6_draftInsert_17 : decode cX6_draftInsert 17 = .ok (.astore 5, 2) := by decide +kernel
theorem dX6_draftInsert_19 : decode cX6_draftInsert 19 = .ok (.iload_n 2, 1) := by decide +kernel
theorem dX6_draftInsert_20 : decode cX6_draftInsert 20 = .ok (.ifCond .lt 27, 3) := by decide +kernel
theorem dX6_draftInsert_23 : decode cX6_draftInsert 23 = .ok (.iload_n 2, 1) := by decide +kernel
theorem dX6_draftInsert_24 : decode cX6_draftInsert 24 = .ok (.aload 5, 2) := by decide +kernel
theorem dX6_draftInsert_26 : decode cX6_draftInsert 26 = .ok (.invokevirtual 70, 3) := by decide +kernel
theorem dX6_draftInsert_29 : decode cX6_draftInsert 29 = .ok (.if_icmp .gt 18, 3) := by decide +kernel
theorem dX6_draftInsert_32 : decode cX6_draftInsert 32 = .ok (.iload_n 3, 1) := by decide +kernel
theorem dX6_draftInsert_33 : decode cX6_draftInsert 33 = .ok (.invokestatic 121, 3) := by decide +kernel
theorem dX6_draftInsert_36 : decode cX6_draftInsert 36 = .ok (.ifCond .eq 11, 3) := by decide +kernel
theorem dX6_draftInsert_39 : decode cX6_draftInsert 39 = .ok (.iload 4, 2) := by decide +kernel
theorem dX6_draftInsert_41 : decode cX6_draftInsert 41 = .ok (.invokestatic 243, 3) := by decide +kernel
theorem dX6_draftInsert_44 : decode cX6_draftInsert 44 = .ok (.ifCond .ne 6, 3) := by decide +kernel
theorem dX6_draftInsert_47 : decode cX6_draftInsert 47 = .ok (.bipush (-2), 2) := by decide +kernel
theorem dX6_draftInsert_49 : decode cX6_draftInsert 49 = .ok (.ireturn, 1) := by decide +kernel
theorem dX6_draftInsert_50 : decode cX6_draftInsert 50 = .ok (.aload_n 0, 1) := by decide +kernel
theorem dX6_draftInsert_51 : decode cX6_draftInsert 51 = .ok (.getfield 34, 3) := by decide +kernel
theorem dX6_draftInsert_54 : decode cX6_draftInsert 54 = .ok (.invokevirtual 98, 3) := by decide +kernel
theorem dX6_draftInsert_57 : decode cX6_draftInsert 57 = .ok (.aload_n 0, 1) := by decide +kernel
theorem dX6_draftInsert_58 : decode cX6_draftInsert 58 = .ok (.getfield 34, 3) := by decide +kernel
theorem dX6_draftInsert_61 : decode cX6_draftInsert 61 = .ok (.aload 5, 2) := by decide +kernel
theorem dX6_draftInsert_63 : decode cX6_draftInsert 63 = .ok (.iconst 0, 1) := by decide +kernel
theorem dX6_draftInsert_64 : decode cX6_draftInsert 64 = .ok (.iload_n 2, 1) := by decide +kernel
theorem dX6_draftInsert_65 : decode cX6_draftInsert 65 = .ok (.invokevirtual 255, 3) := by decide +kernel
theorem dX6_draftInsert_68 : decode cX6_draftInsert 68 = .ok (.aload_n 0, 1) := by decide +kernel
theorem dX6_draftInsert_69 : decode cX6_draftInsert 69 = .ok (.getfield 34, 3) := by decide +kernel
theorem dX6_draftInsert_72 : decode cX6_draftInsert 72 = .ok (.iload_n 3, 1) := by decide +kernel
theorem dX6_draftInsert_73 : decode cX6_draftInsert 73 = .ok (.iload 4, 2) := by decide +kernel
theorem dX6_draftInsert_75 : decode cX6_draftInsert 75 = .ok (.invokevirtual 248, 3) := by decide +kernel
theorem dX6_draftInsert_78 : decode cX6_draftInsert 78 = .ok (.aload_n 0, 1) := by decide +kernel
theorem dX6_draftInsert_79 : decode cX6_draftInsert 79 = .ok (.getfield 34, 3) := by decide +kernel
theorem dX6_draftInsert_82 : decode cX6_draftInsert 82 = .ok (.aload 5, 2) := by decide +kernel
theorem dX6_draftInsert_84 : decode cX6_draftInsert 84 = .ok (.iload_n 2, 1) := by decide +kernel
theorem dX6_draftInsert_85 : decode cX6_draftInsert 85 = .ok (.aload 5, 2) := by decide +kernel
theorem dX6_draftInsert_87 : decode cX6_draftInsert 87 = .ok (.invokevirtual 70, 3) := by decide +kernel
theorem dX6_draftInsert_90 : decode cX6_draftInsert 90 = .ok (.invokevirtual 255, 3) := by decide +kernel
theorem dX6_draftInsert_93 : decode cX6_draftInsert 93 = .ok (.aload_n 0, 1) := by decide +kernel
theorem dX6_draftInsert_94 : decode cX6_draftInsert 94 = .ok (.invokevirtual 252, 3) := by decide +kernel
theorem dX6_draftInsert_97 : decode cX6_draftInsert 97 = .ok (.ireturn, 1) := by decide +kernel
theorem dX6_draftRemove_0 : decode cX6_draftRemove 0 = .ok (.aload_n 0, 1) := by decide +kernel
theorem dX6_draftRemove_1 : decode cX6_draftRemove 1 = .ok (.iload_n 1, 1) := by decide +kernel
theorem dX6_draftRemove_2 : decode cX6_draftRemove 2 = .ok (.iload_n 2, 1) := by decide +kernel
theorem dX6_draftRemove_3 : decode cX6_draftRemove 3 = .ok (.invokevirtual 117, 3) := by decide +kernel
theorem dX6_draftRemove_6 : decode cX6_draftRemove 6 = .ok (.ifCond .ne 5, 3) := by decide +kernel
theorem dX6_draftRemove_9 : decode cX6_draftRemove 9 = .ok (.iconst (-1), 1) := by decide +kernel
theorem dX6_draftRemove_10 : decode cX6_draftRemove 10 = .ok (.ireturn, 1) := by decide +kernel
theorem dX6_draftRemove_11 : decode cX6_draftRemove 11 = .ok (.iload_n 3, 1) := by decide +kernel
theorem dX6_draftRemove_12 : decode cX6_draftRemove 12 = .ok (.iconst 1, 1) := by decide +kernel
theorem dX6_draftRemove_13 : decode cX6_draftRemove 13 = .ok (.if_icmp .ge 6, 3) := by decide +kernel
theorem dX6_draftRemove_16 : decode cX6_draftRemove 16 = .ok (.bipush (-2), 2) := by decide +kernel
theorem dX6_draftRemove_18 : decode cX6_draftRemove 18 = .ok (.ireturn, 1) := by decide +kernel
theorem dX6_draftRemove_19 : decode cX6_draftRemove 19 = .ok (.aload_n 0, 1) := by decide +kernel
theorem dX6_draftRemove_20 : decode cX6_draftRemove 20 = .ok (.getfield 12, 3) := by decide +kernel
theorem dX6_draftRemove_23 : decode cX6_draftRemove 23 = .ok (.iload_n 1, 1) := by decide +kernel
theorem dX6_draftRemove_24 : decode cX6_draftRemove 24 = .ok (.invokevirtual 66, 3) := by decide +kernel
theorem dX6_draftRemove_27 : decode cX6_draftRemove 27 = .ok (.astore 4, 2) := by decide +kernel
theorem dX6_draftRemove_29 : decode cX6_draftRemove 29 = .ok (.iload_n 3, 1) := by decide +kernel
theorem dX6_draftRemove_30 : decode cX6_draftRemove 30 = .ok (.aload 4, 2) := by decide +kernel
theorem dX6_draftRemove_32 : decode cX6_draftRemove 32 = .ok (.invokevirtual 70, 3) := by decide +kernel
theorem dX6_draftRemove_35 : decode cX6_draftRemove 35 = .ok (.iload_n 2, 1) := by decide +kernel
theorem dX6_draftRemove_36 : decode cX6_draftRemove 36 = .ok (.isub, 1) := by decide +kernel
theorem dX6_draftRemove_37 : decode cX6_draftRemove 37 = .ok (.if_icmp .le 6, 3) := by decide +kernel
theorem dX6_draftRemove_40 : decode cX6_draftRemove 40 = .ok (.bipush (-5), 2) := by decide +kernel
theorem dX6_draftRemove_42 : decode cX6_draftRemove 42 = .ok (.ireturn, 1) := by decide +kernel
theorem dX6_draftRemove_43 : decode cX6_draftRemove 43 = .ok (.aload_n 0, 1) := by decide +kernel
theorem dX6_draftRemove_44 : decode cX6_draftRemove 44 = .ok (.getfield 34, 3) := by decide +kernel
theorem dX6_draftRemove_47 : decode cX6_draftRemove 47 = .ok (.invokevirtual 98, 3) := by decide +kernel
theorem dX6_draftRemove_50 : decode cX6_draftRemove 50 = .ok (.aload_n 0, 1) := by decide +kernel
theorem dX6_draftRemove_51 : decode cX6_draftRemove 51 = .ok (.getfield 34, 3) := by decide +kernel
theorem dX6_draftRemove_54 : decode cX6_draftRemove 54 = .ok (.aload 4, 2) := by decide +kernel
theorem dX6_draftRemove_56 : decode cX6_draftRemove 56 = .ok (.iconst 0, 1) := by decide +kernel
theorem dX6_draftRemove_57 : decode cX6_draftRemove 57 = .ok (.iload_n 2, 1) := by decide +kernel
theorem dX6_draftRemove_58 : decode cX6_draftRemove 58 = .ok (.invokevirtual 255, 3) := by decide +kernel
theorem dX6_draftRemove_61 : decode cX6_draftRemove 61 = .ok (.aload_n 0, 1) := by decide +kernel
theorem dX6_draftRemove_62 : decode cX6_draftRemove 62 = .ok (.getfield 34, 3) := by decide +kernel
theorem dX6_draftRemove_65 : decode cX6_draftRemove 65 = .ok (.aload 4, 2) := by decide +kernel
theorem dX6_draftRemove_67 : decode cX6_draftRemove 67 = .ok (.iload_n 2, 1) := by decide +kernel
theorem dX6_draftRemove_68 : decode cX6_draftRemove 68 = .ok (.iload_n 3, 1) := by decide +kernel
theorem dX6_draftRemove_69 : decode cX6_draftRemove 69 = .ok (.iadd, 1) := by decide +kernel
theorem dX6_draftRemove_70 : decode cX6_draftRemove 70 = .ok (.aload 4, 2) := by decide +kernel
theorem dX6_draftRemove_72 : decode cX6_draftRemove 72 = .ok (.invokevirtual 70, 3) := by decide +kernel
theorem dX6_draftRemove_75 : decode cX6_draftRemove 75 = .ok (.invokevirtual 255, 3) := by decide +kernel
theorem dX6_draftRemove_78 : decode cX6_draftRemove 78 = .ok (.aload_n 0, 1) := by decide +kernel
theorem dX6_draftRemove_79 : decode cX6_draftRemove 79 = .ok (.invokevirtual 252, 3) := by decide +kernel
theorem dX6_draftRemove_82 : decode cX6_draftRemove 82 = .ok (.ireturn, 1) := by decide +kernel
theorem dX6_draftSet_0 : decode cX6_draftSet 0 = .ok (.aload_n 0, 1) := by decide +kernel
theorem dX6_draftSet_1 : decode cX6_draftSet 1 = .ok (.iload_n 1, 1) := by decide +kernel
theorem dX6_draftSet_2 : decode cX6_draftSet 2 = .ok (.iload_n 2, 1) := by decide +kernel
theorem dX6_draftSet_3 : decode cX6_draftSet 3 = .ok (.invokevirtual 117, 3) := by decide +kernel
theorem dX6_draftSet_6 : decode cX6_draftSet 6 = .ok (.ifCond .ne 5, 3) := by decide +kernel
theorem dX6_draftSet_9 : decode cX6_draftSet 9 = .ok (.iconst (-1), 1) := by decide +kernel
theorem dX6_draftSet_10 : decode cX6_draftSet 10 = .ok (.ireturn, 1) := by decide +kernel
theorem dX6_draftSet_11 : decode cX6_draftSet 11 = .ok (.iload_n 3, 1) := by decide +kernel
theorem dX6_draftSet_12 : decode cX6_draftSet 12 = .ok (.invokestatic 121, 3) := by decide +kernel
theorem dX6_draftSet_15 : decode cX6_draftSet 15 = .ok (.ifCond .ne 6, 3) := by decide +kernel
theorem dX6_draftSet_18 : decode cX6_draftSet 18 = .ok (.bipush (-2), 2) := by decide +kernel
theorem dX6_draftSet_20 : decode cX6_draftSet 20 = .ok (.ireturn, 1) := by decide +kernel
theorem dX6_draftSet_21 : decode cX6_draftSet 21 = .ok (.aload_n 0, 1) := by decide +kernel
theorem dX6_draftSet_22 : decode cX6_draftSet 22 = .ok (.getfield 12, 3) := by decide +kernel
theorem dX6_draftSet_25 : decode cX6_draftSet 25 = .ok (.iload_n 1, 1) := by decide +kernel
theorem dX6_draftSet_26 : decode cX6_draftSet 26 = .ok (.invokevirtual 66, 3) := by decide +kernel
theorem dX6_draftSet_29 : decode cX6_draftSet 29 = .ok (.astore 4, 2) := by decide +kernel
theorem dX6_draftSet_31 : decode cX6_draftSet 31 = .ok (.aload_n 0, 1) := by decide +kernel
theorem dX6_draftSet_32 : decode cX6_draftSet 32 = .ok (.getfield 34, 3) := by decide +kernel
theorem dX6_draftSet_35 : decode cX6_draftSet 35 = .ok (.invokevirtual 98, 3) := by decide +kernel
theorem dX6_draftSet_38 : decode cX6_draftSet 38 = .ok (.aload_n 0, 1) := by decide +kernel
theorem dX6_draftSet_39 : decode cX6_draftSet 39 = .ok (.getfield 34, 3) := by decide +kernel
theorem dX6_draftSet_42 : decode cX6_draftSet 42 = .ok (.aload 4, 2) := by decide +kernel
theorem dX6_draftSet_44 : decode cX6_draftSet 44 = .ok (.iconst 0, 1) := by decide +kernel
theorem dX6_draftSet_45 : decode cX6_draftSet 45 = .ok (.iload_n 2, 1) := by decide +kernel
theorem dX6_draftSet_46 : decode cX6_draftSet 46 = .ok (.invokevirtual 255, 3) := by decide +kernel
theorem dX6_draftSet_49 : decode cX6_draftSet 49 = .ok (.aload_n 0, 1) := by decide +kernel
theorem dX6_draftSet_50 : decode cX6_draftSet 50 = .ok (.getfield 34, 3) := by decide +kernel
theorem dX6_draftSet_53 : decode cX6_draftSet 53 = .ok (.iload_n 3, 1) := by decide +kernel
theorem dX6_draftSet_54 : decode cX6_draftSet 54 = .ok (.iconst 1, 1) := by decide +kernel
theorem dX6_draftSet_55 : decode cX6_draftSet 55 = .ok (.invokevirtual 248, 3) := by decide +kernel
theorem dX6_draftSet_58 : decode cX6_draftSet 58 = .ok (.aload_n 0, 1) := by decide +kernel
theorem dX6_draftSet_59 : decode cX6_draftSet 59 = .ok (.getfield 34, 3) := by decide +kernel
theorem dX6_draftSet_62 : decode cX6_draftSet 62 = .ok (.aload 4, 2) := by decide +kernel
theorem dX6_draftSet_64 : decode cX6_draftSet 64 = .ok (.iload_n 2, 1) := by decide +kernel
theorem dX6_draftSet_65 : decode cX6_draftSet 65 = .ok (.iconst 1, 1) := by decide +kernel
theorem dX6_draftSet_66 : decode cX6_draftSet 66 = .ok (.iadd, 1) := by decide +kernel
theorem dX6_draftSet_67 : decode cX6_draftSet 67 = .ok (.aload 4, 2) := by decide +kernel
theorem dX6_draftSet_69 : decode cX6_draftSet 69 = .ok (.invokevirtual 70, 3) := by decide +kernel
theorem dX6_draftSet_72 : decode cX6_draftSet 72 = .ok (.invokevirtual 255, 3) := by decide +kernel
theorem dX6_draftSet_75 : decode cX6_draftSet 75 = .ok (.aload_n 0, 1) := by decide +kernel
theorem dX6_draftSet_76 : decode cX6_draftSet 76 = .ok (.invokevirtual 252, 3) := by decide +kernel
theorem dX6_draftSet_79 : decode cX6_draftSet 79 = .ok (.ireturn, 1) := by decide +kernel
theorem dX6_draftSort_0 : decode cX6_draftSort 0 = .ok (.iload_n 1, 1) := by decide +kernel
theorem dX6_draftSort_1 : decode cX6_draftSort 1 = .ok (.invokestatic 94, 3) := by decide +kernel
theorem dX6_draftSort_4 : decode cX6_draftSort 4 = .ok (.ifCond .ne 5, 3) := by decide +kernel
theorem dX6_draftSort_7 : decode cX6_draftSort 7 = .ok (.iconst (-1), 1) := by decide +kernel
theorem dX6_draftSort_8 : decode cX6_draftSort 8 = .ok (.ireturn, 1) := by decide +kernel
theorem dX6_draftSort_9 : decode cX6_draftSort 9 = .ok (.aload_n 0, 1) := by decide +kernel
theorem dX6_draftSort_10 : decode cX6_draftSort 10 = .ok (.getfield 12, 3) := by decide +kernel
theorem dX6_draftSort_13 : decode cX6_draftSort 13 = .ok (.iload_n 1, 1) := by decide +kernel
theorem dX6_draftSort_14 : decode cX6_draftSort 14 = .ok (.invokevirtual 66, 3) := by decide +kernel
theorem dX6_draftSort_17 : decode cX6_draftSort 17 = .ok (.astore_n 2, 1) := by decide +kernel
theorem dX6_draftSort_18 : decode cX6_draftSort 18 = .ok (.aload_n 0, 1) := by decide +kernel
theorem dX6_draftSort_19 : decode cX6_draftSort 19 = .ok (.getfield 34, 3) := by decide +kernel
theorem dX6_draftSort_22 : decode cX6_draftSort 22 = .ok (.invokevirtual 98, 3) := by decide +kernel
theorem dX6_draftSort_25 : decode cX6_draftSort 25 = .ok (.iconst 0, 1) := by decide +kernel
theorem dX6_draftSort_26 : decode cX6_draftSort 26 = .ok (.istore_n 3, 1) := by decide +kernel
theorem dX6_draftSort_27 : decode cX6_draftSort 27 = .ok (.iload_n 3, 1) := by decide +kernel
theorem dX6_draftSort_28 : decode cX6_draftSort 28 = .ok (.bipush 10, 2) := by decide +kernel
theorem dX6_draftSort_30 : decode cX6_draftSort 30 = .ok (.if_icmp .ge 22, 3) := by decide +kernel
theorem dX6_draftSort_33 : decode cX6_draftSort 33 = .ok (.aload_n 0, 1) := by decide +kernel
theorem dX6_draftSort_34 : decode cX6_draftSort 34 = .ok (.getfield 34, 3) := by decide +kernel
theorem dX6_draftSort_37 : decode cX6_draftSort 37 = .ok (.iload_n 3, 1) := by decide +kernel
theorem dX6_draftSort_38 : decode cX6_draftSort 38 = .ok (.aload_n 2, 1) := by decide +kernel
theorem dX6_draftSort_39 : decode cX6_draftSort 39 = .ok (.iload_n 3, 1) := by decide +kernel
theorem dX6_draftSort_40 : decode cX6_draftSort 40 = .ok (.invokevirtual 144, 3) := by decide +kernel
theorem dX6_draftSort_43 : decode cX6_draftSort 43 = .ok (.invokevirtual 248, 3) := by decide +kernel
theorem dX6_draftSort_46 : decode cX6_draftSort 46 = .ok (.iinc 3 1, 3) := by decide +kernel
theorem dX6_draftSort_49 : decode cX6_draftSort 49 = .ok (.goto (-22), 3) := by decide +kernel
theorem dX6_draftSort_52 : decode cX6_draftSort 52 = .ok (.aload_n 0, 1) := by decide +kernel
theorem dX6_draftSort_53 : decode cX6_draftSort 53 = .ok (.invokevirtual 252, 3) := by decide +kernel
theorem dX6_draftSort_56 : decode cX6_draftSort 56 = .ok (.ireturn, 1) := by decide +kernel
theorem dX6_draftMerge_0 : decode cX6_draftMerge 0 = .ok (.iload_n 1, 1) := by decide +kernel
theorem dX6_draftMerge_1 : decode cX6_draftMerge 1 = .ok (.invokestatic 94, 3) := by decide +kernel
theorem dX6_draftMerge_4 : decode cX6_draftMerge 4 = .ok (.ifCond .eq 17, 3) := by decide +kernel
theorem dX6_draftMerge_7 : decode cX6_draftMerge 7 = .ok (.iload_n 2, 1) := by decide +kernel
theorem dX6_draftMerge_8 : decode cX6_draftMerge 8 = .ok (.invokestatic 94, 3) := by decide +kernel
theorem dX6_draftMerge_11 : decode cX6_draftMerge 11 = .ok (.ifCond .eq 10, 3) := by decide +kernel
theorem dX6_draftMerge_14 : decode cX6_draftMerge 14 = .ok (.iload_n 3, 1) := by decide +kernel
theorem dX6_draftMerge_15 : decode cX6_draftMerge 15 = .ok (.invokestatic 94, 3) := by decide +kernel
theorem dX6_draftMerge_18 : decode cX6_draftMerge 18 = .ok (.ifCond .ne 5, 3) := by decide +kernel
theorem dX6_draftMerge_21 : decode cX6_draftMerge 21 = .ok (.iconst (-1), 1) := by decide +kernel
theorem dX6_draftMerge_22 : decode cX6_draftMerge 22 = .ok (.ireturn, 1) := by decide +kernel
theorem dX6_draftMerge_23 : decode cX6_draftMerge 23 = .ok (.iload 4, 2) := by decide +kernel
theorem dX6_draftMerge_25 : decode cX6_draftMerge 25 = .ok (.ifCond .lt 9, 3) := by decide +kernel
theorem dX6_draftMerge_28 : decode cX6_draftMerge 28 = .ok (.iload 4, 2) := by decide +kernel
theorem dX6_draftMerge_30 : decode cX6_draftMerge 30 = .ok (.iconst 2, 1) := by decide +kernel
theorem dX6_draftMerge_31 : decode cX6_draftMerge 31 = .ok (.if_icmp .le 6, 3) := by decide +kernel
theorem dX6_draftMerge_34 : decode cX6_draftMerge 34 = .ok (.bipush (-2), 2) := by decide +kernel
theorem dX6_draftMerge_36 : decode cX6_draftMerge 36 = .ok (.ireturn, 1) := by decide +kernel
theorem dX6_draftMerge_37 : decode cX6_draftMerge 37 = .ok (.aload_n 0, 1) := by decide +kernel
theorem dX6_draftMerge_38 : decode cX6_draftMerge 38 = .ok (.iload_n 2, 1) := by decide +kernel
theorem dX6_draftMerge_39 : decode cX6_draftMerge 39 = .ok (.iload_n 3, 1) := by decide +kernel
theorem dX6_draftMerge_40 : decode cX6_draftMerge 40 = .ok (.invokevirtual 165, 3) := by decide +kernel
theorem dX6_draftMerge_43 : decode cX6_draftMerge 43 = .ok (.astore 5, 2) := by decide +kernel
theorem dX6_draftMerge_45 : decode cX6_draftMerge 45 = .ok (.aload_n 0, 1) := by decide +kernel
theorem dX6_draftMerge_46 : decode cX6_draftMerge 46 = .ok (.getfield 34, 3) := by decide +kernel
theorem dX6_draftMerge_49 : decode cX6_draftMerge 49 = .ok (.invokevirtual 98, 3) := by decide +kernel
theorem dX6_draftMerge_52 : decode cX6_draftMerge 52 = .ok (.iconst 0, 1) := by decide +kernel
theorem dX6_draftMerge_53 : decode cX6_draftMerge 53 = .ok (.istore 6, 2) := by decide +kernel
theorem dX6_draftMerge_55 : decode cX6_draftMerge 55 = .ok (.iload 6, 2) := by decide +kernel
theorem dX6_draftMerge_57 : decode cX6_draftMerge 57 = .ok (.bipush 80, 2) := by decide +kernel
theorem dX6_draftMerge_59 : decode cX6_draftMerge 59 = .ok (.if_icmp .ge 109, 3) := by decide +kernel
theorem dX6_draftMerge_62 : decode cX6_draftMerge 62 = .ok (.aload 5, 2) := by decide +kernel
theorem dX6_draftMerge_64 : decode cX6_draftMerge 64 = .ok (.invokevirtual 169, 3) := by decide +kernel
theorem dX6_draftMerge_67 : decode cX6_draftMerge 67 = .ok (.ifCond .eq 101, 3) := by decide +kernel
theorem dX6_draftMerge_70 : decode cX6_draftMerge 70 = .ok (.iload 4, 2) := by decide +kernel
theorem dX6_draftMerge_72 : decode cX6_draftMerge 72 = .ok (.ifCond .ne 31, 3) := by decide +kernel
theorem dX6_draftMerge_75 : decode cX6_draftMerge 75 = .ok (.aload_n 0, 1) := by decide +kernel
theorem dX6_draftMerge_76 : decode cX6_draftMerge 76 = .ok (.getfield 34, 3) := by decide +kernel
theorem dX6_draftMerge_79 : decode cX6_draftMerge 79 = .ok (.aload 5, 2) := by decide +kernel
theorem dX6_draftMerge_81 : decode cX6_draftMerge 81 = .ok (.invokevirtual 174, 3) := by decide +kernel
theorem dX6_draftMerge_84 : decode cX6_draftMerge 84 = .ok (.aload 5, 2) := by decide +kernel
theorem dX6_draftMerge_86 : decode cX6_draftMerge 86 = .ok (.invokevirtual 177, 3) := by decide +kernel
theorem dX6_draftMerge_89 : decode cX6_draftMerge 89 = .ok (.invokestatic 184, 3) := by decide +kernel
theorem dX6_draftMerge_92 : decode cX6_draftMerge 92 = .ok (.aload 5, 2) := by decide +kernel
theorem dX6_draftMerge_94 : decode cX6_draftMerge 94 = .ok (.invokevirtual 180, 3) := by decide +kernel
theorem dX6_draftMerge_97 : decode cX6_draftMerge 97 = .ok (.invokevirtual 248, 3) := by decide +kernel
theorem dX6_draftMerge_100 : decode cX6_draftMerge 100 = .ok (.goto 62, 3) := by decide +kernel
theorem dX6_draftMerge_103 : decode cX6_draftMerge 103 = .ok (.iload 4, 2) := by decide +kernel
theorem dX6_draftMerge_105 : decode cX6_draftMerge 105 = .ok (.iconst 1, 1) := by decide +kernel
theorem dX6_draftMerge_106 : decode cX6_draftMerge 106 = .ok (.if_icmp .ne 31, 3) := by decide +kernel
theorem dX6_draftMerge_109 : decode cX6_draftMerge 109 = .ok (.aload_n 0, 1) := by decide +kernel
theorem dX6_draftMerge_110 : decode cX6_draftMerge 110 = .ok (.getfield 34, 3) := by decide +kernel
theorem dX6_draftMerge_113 : decode cX6_draftMerge 113 = .ok (.aload 5, 2) := by decide +kernel
theorem dX6_draftMerge_115 : decode cX6_draftMerge 115 = .ok (.invokevirtual 174, 3) := by decide +kernel
theorem dX6_draftMerge_118 : decode cX6_draftMerge 118 = .ok (.aload 5, 2) := by decide +kernel
theorem dX6_draftMerge_120 : decode cX6_draftMerge 120 = .ok (.invokevirtual 177, 3) := by decide +kernel
theorem dX6_draftMerge_123 : decode cX6_draftMerge 123 = .ok (.invokestatic 259, 3) := by decide +kernel
theorem dX6_draftMerge_126 : decode cX6_draftMerge 126 = .ok (.aload 5, 2) := by decide +kernel
theorem dX6_draftMerge_128 : decode cX6_draftMerge 128 = .ok (.invokevirtual 180, 3) := by decide +kernel
theorem dX6_draftMerge_131 : decode cX6_draftMerge 131 = .ok (.invokevirtual 248, 3) := by decide +kernel
theorem dX6_draftMerge_134 : decode cX6_draftMerge 134 = .ok (.goto 28, 3) := by decide +kernel
theorem dX6_draftMerge_137 : decode cX6_draftMerge 137 = .ok (.aload 5, 2) := by decide +kernel
theorem dX6_draftMerge_139 : decode cX6_draftMerge 139 = .ok (.invokevirtual 262, 3) := by decide +kernel
theorem dX6_draftMerge_142 : decode cX6_draftMerge 142 = .ok (.ifCond .eq 20, 3) := by decide +kernel
theorem dX6_draftMerge_145 : decode cX6_draftMerge 145 = .ok (.aload_n 0, 1) := by decide +kernel
theorem dX6_draftMerge_146 : decode cX6_draftMerge 146 = .ok (.getfield 34, 3) := by decide +kernel
theorem dX6_draftMerge_149 : decode cX6_draftMerge 149 = .ok (.aload 5, 2) := by decide +kernel
theorem dX6_draftMerge_151 : decode cX6_draftMerge 151 = .ok (.invokevirtual 174, 3) := by decide +kernel
theorem dX6_draftMerge_154 : decode cX6_draftMerge 154 = .ok (.aload 5, 2) := by decide +kernel
theorem dX6_draftMerge_156 : decode cX6_draftMerge 156 = .ok (.invokevirtual 180, 3) := by decide +kernel
theorem dX6_draftMerge_159 : decode cX6_draftMerge 159 = .ok (.invokevirtual 248, 3) := by decide +kernel
theorem dX6_draftMerge_162 : decode cX6_draftMerge 162 = .ok (.iinc 6 1, 3) := by decide +kernel
theorem dX6_draftMerge_165 : decode cX6_draftMerge 165 = .ok (.goto (-110), 3) := by decide +kernel
theorem dX6_draftMerge_168 : decode cX6_draftMerge 168 = .ok (.aload_n 0, 1) := by decide +kernel
theorem dX6_draftMerge_169 : decode cX6_draftMerge 169 = .ok (.invokevirtual 252, 3) := by decide +kernel
theorem dX6_draftMerge_172 : decode cX6_draftMerge 172 = .ok (.ireturn, 1) := by decide +kernel
theorem dX6_draftOrder_0 : decode cX6_draftOrder 0 = .ok (.aload_n 0, 1) := by decide +kernel
theorem dX6_draftOrder_1 : decode cX6_draftOrder 1 = .ok (.getfield 50, 3) := by decide +kernel
theorem dX6_draftOrder_4 : decode cX6_draftOrder 4 = .ok (.invokevirtual 265, 3) := by decide +kernel
theorem dX6_draftOrder_7 : decode cX6_draftOrder 7 = .ok (.istore_n 1, 1) := by decide +kernel
theorem dX6_draftOrder_8 : decode cX6_draftOrder 8 = .ok (.aload_n 0, 1) := by decide +kernel
theorem dX6_draftOrder_9 : decode cX6_draftOrder 9 = .ok (.getfield 50, 3) := by decide +kernel
theorem dX6_draftOrder_12 : decode cX6_draftOrder 12 = .ok (.invokevirtual 267, 3) := by decide +kernel
theorem dX6_draftOrder_15 : decode cX6_draftOrder 15 = .ok (.istore_n 2, 1) := by decide +kernel
theorem dX6_draftOrder_16 : decode cX6_draftOrder 16 = .ok (.iload_n 2, 1) := by decide +kernel
theorem dX6_draftOrder_17 : decode cX6_draftOrder 17 = .ok (.bipush 33, 2) := by decide +kernel
theorem dX6_draftOrder_19 : decode cX6_draftOrder 19 = .ok (.if_icmp .ne 9, 3) := by decide +kernel
theorem dX6_draftOrder_22 : decode cX6_draftOrder 22 = .ok (.aload_n 0, 1) := by decide +kernel
theorem dX6_draftOrder_23 : decode cX6_draftOrder 23 = .ok (.iload_n 1, 1) := by decide +kernel
theorem dX6_draftOrder_24 : decode cX6_draftOrder 24 = .ok (.invokevirtual 91, 3) := by decide +kernel
theorem dX6_draftOrder_27 : decode cX6_draftOrder 27 = .ok (.ireturn, 1) := by decide +kernel
theorem dX6_draftOrder_28 : decode cX6_draftOrder 28 = .ok (.iload_n 2, 1) := by decide +kernel
theorem dX6_draftOrder_29 : decode cX6_draftOrder 29 = .ok (.bipush 45, 2) := by decide +kernel
theorem dX6_draftOrder_31 : decode cX6_draftOrder 31 = .ok (.if_icmp .ne 23, 3) := by decide +kernel
theorem dX6_draftOrder_34 : decode cX6_draftOrder 34 = .ok (.aload_n 0, 1) := by decide +kernel
theorem dX6_draftOrder_35 : decode cX6_draftOrder 35 = .ok (.iload_n 1, 1) := by decide +kernel
theorem dX6_draftOrder_36 : decode cX6_draftOrder 36 = .ok (.aload_n 0, 1) := by decide +kernel
theorem dX6_draftOrder_37 : decode cX6_draftOrder 37 = .ok (.getfield 50, 3) := by decide +kernel
theorem dX6_draftOrder_40 : decode cX6_draftOrder 40 = .ok (.invokevirtual 271, 3) := by decide +kernel
theorem dX6_draftOrder_43 : decode cX6_draftOrder 43 = .ok (.aload_n 0, 1) := by decide +kernel
theorem dX6_draftOrder_44 : decode cX6_draftOrder 44 = .ok (.getfield 50, 3) := by decide +kernel
theorem dX6_draftOrder_47 : decode cX6_draftOrder 47 = .ok (.invokevirtual 274, 3) := by decide +kernel
theorem dX6_draftOrder_50 : decode cX6_draftOrder 50 = .ok (.invokevirtual 81, 3) := by decide +kernel
theorem dX6_draftOrder_53 : decode cX6_draftOrder 53 = .ok (.ireturn, 1) := by decide +kernel
theorem dX6_draftOrder_54 : decode cX6_draftOrder 54 = .ok (.iload_n 2, 1) := by decide +kernel
theorem dX6_draftOrder_55 : decode cX6_draftOrder 55 = .ok (.bipush 64, 2) := by decide +kernel
theorem dX6_draftOrder_57 : decode cX6_draftOrder 57 = .ok (.if_icmp .ne 23, 3) := by decide +kernel
theorem dX6_draftOrder_60 : decode cX6_draftOrder 60 = .ok (.aload_n 0, 1) := by decide +kernel
theorem dX6_draftOrder_61 : decode cX6_draftOrder 61 = .ok (.iload_n 1, 1) := by decide +kernel
theorem dX6_draftOrder_62 : decode cX6_draftOrder 62 = .ok (.aload_n 0, 1) := by decide +kernel
theorem dX6_draftOrder_63 : decode cX6_draftOrder 63 = .ok (.getfield 50, 3) := by decide +kernel
theorem dX6_draftOrder_66 : decode cX6_draftOrder 66 = .ok (.invokevirtual 271, 3) := by decide +kernel
theorem dX6_draftOrder_69 : decode cX6_draftOrder 69 = .ok (.aload_n 0, 1) := by decide +kernel
theorem dX6_draftOrder_70 : decode cX6_draftOrder 70 = .ok (.getfield 50, 3) := by decide +kernel
theorem dX6_draftOrder_73 : decode cX6_draftOrder 73 = .ok (.invokevirtual 274, 3) := by decide +kernel
theorem dX6_draftOrder_76 : decode cX6_draftOrder 76 = .ok (.invokevirtual 84, 3) := by decide +kernel
theorem dX6_draftOrder_79 : decode cX6_draftOrder 79 = .ok (.ireturn, 1) := by decide +kernel
theorem dX6_draftOrder_80 : decode cX6_draftOrder 80 = .ok (.aload_n 0, 1) := by decide +kernel
theorem dX6_draftOrder_81 : decode cX6_draftOrder 81 = .ok (.getfield 34, 3) := by decide +kernel
theorem dX6_draftOrder_84 : decode cX6_draftOrder 84 = .ok (.invokevirtual 98, 3) := by decide +kernel
theorem dX6_draftOrder_87 : decode cX6_draftOrder 87 = .ok (.iload_n 2, 1) := by decide +kernel
theorem dX6_draftOrder_88 : decode cX6_draftOrder 88 = .ok (.bipush 43, 2) := by decide +kernel
theorem dX6_draftOrder_90 : decode cX6_draftOrder 90 = .ok (.if_icmp .ne 18, 3) := by decide +kernel
theorem dX6_draftOrder_93 : decode cX6_draftOrder 93 = .ok (.aload_n 0, 1) := by decide +kernel
theorem dX6_draftOrder_94 : decode cX6_draftOrder 94 = .ok (.getfield 34, 3) := by decide +kernel
theorem dX6_draftOrder_97 : decode cX6_draftOrder 97 = .ok (.aload_n 0, 1) := by decide +kernel
theorem dX6_draftOrder_98 : decode cX6_draftOrder 98 = .ok (.getfield 12, 3) := by decide +kernel
theorem dX6_draftOrder_101 : decode cX6_draftOrder 101 = .ok (.iload_n 1, 1) := by decide +kernel
theorem dX6_draftOrder_102 : decode cX6_draftOrder 102 = .ok (.invokevirtual 66, 3) := by decide +kernel
theorem dX6_draftOrder_105 : decode cX6_draftOrder 105 = .ok (.invokevirtual 246, 3) := by decide +kernel
theorem dX6_draftOrder_108 : decode cX6_draftOrder 108 = .ok (.aload_n 0, 1) := by decide +kernel
theorem dX6_draftOrder_109 : decode cX6_draftOrder 109 = .ok (.invokevirtual 277, 3) := by decide +kernel
theorem dX6_draftOrder_112 : decode cX6_draftOrder 112 = .ok (.ireturn, 1) := by decide +kernel
theorem dX6_draftRunsOfOrder_0 : decode cX6_draftRunsOfOrder 0 = .ok (.iconst 0, 1) := by decide +kernel
theorem dX6_draftRunsOfOrder_1 : decode cX6_draftRunsOfOrder 1 = .ok (.istore_n 1, 1) := by decide +kernel
theorem dX6_draftRunsOfOrder_2 : decode cX6_draftRunsOfOrder 2 = .ok (.iload_n 1, 1) := by decide +kernel
theorem dX6_draftRunsOfOrder_3 : decode cX6_draftRunsOfOrder 3 = .ok (.aload_n 0, 1) := by decide +kernel
theorem dX6_draftRunsOfOrder_4 : decode cX6_draftRunsOfOrder 4 = .ok (.getfield 50, 3) := by decide +kernel
theorem dX6_draftRunsOfOrder_7 : decode cX6_draftRunsOfOrder 7 = .ok (.invokevirtual 280, 3) := by decide +kernel
theorem dX6_draftRunsOfOrder_10 : decode cX6_draftRunsOfOrder 10 = .ok (.if_icmp .ge 49, 3) := by decide +kernel
theorem dX6_draftRunsOfOrder_13 : decode cX6_draftRunsOfOrder 13 = .ok (.aload_n 0, 1) := by decide +kernel
theorem dX6_draftRunsOfOrder_14 : decode cX6_draftRunsOfOrder 14 = .ok (.getfield 50, 3) := by decide +kernel
theorem dX6_draftRunsOfOrder_17 : decode cX6_draftRunsOfOrder 17 = .ok (.iload_n 1, 1) := by decide +kernel
theorem dX6_draftRunsOfOrder_18 : decode cX6_draftRunsOfOrder 18 = .ok (.invokevirtual 281, 3) := by decide +kernel
theorem dX6_draftRunsOfOrder_21 : decode cX6_draftRunsOfOrder 21 = .ok (.invokestatic 243, 3) := by decide +kernel
theorem dX6_draftRunsOfOrder_24 : decode cX6_draftRunsOfOrder 24 = .ok (.ifCond .ne 6, 3) := by decide +kernel
theorem dX6_draftRunsOfOrder_27 : decode cX6_draftRunsOfOrder 27 = .ok (.bipush (-2), 2) := by decide +kernel
theorem dX6_draftRunsOfOrder_29 : decode cX6_draftRunsOfOrder 29 = .ok (.ireturn, 1) := by decide +kernel
theorem dX6_draftRunsOfOrder_30 : decode cX6_draftRunsOfOrder 30 = .ok (.aload_n 0, 1) := by decide +kernel
theorem dX6_draftRunsOfOrder_31 : decode cX6_draftRunsOfOrder 31 = .ok (.getfield 34, 3) := by decide +kernel
theorem dX6_draftRunsOfOrder_34 : decode cX6_draftRunsOfOrder 34 = .ok (.aload_n 0, 1) := by decide +kernel
theorem dX6_draftRunsOfOrder_35 : decode cX6_draftRunsOfOrder 35 = .ok (.getfield 50, 3) := by decide +kernel
theorem dX6_draftRunsOfOrder_38 : decode cX6_draftRunsOfOrder 38 = .ok (.iload_n 1, 1) := by decide +kernel
theorem dX6_draftRunsOfOrder_39 : decode cX6_draftRunsOfOrder 39 = .ok (.invokevirtual 282, 3) := by decide +kernel
theorem dX6_draftRunsOfOrder_42 : decode cX6_draftRunsOfOrder 42 = .ok (.aload_n 0, 1) := by decide +kernel
theorem dX6_draftRunsOfOrder_43 : decode cX6_draftRunsOfOrder 43 = .ok (.getfield 50, 3) := by decide +kernel
theorem dX6_draftRunsOfOrder_46 : decode cX6_draftRunsOfOrder 46 = .ok (.iload_n 1, 1) := by decide +kernel
theorem dX6_draftRunsOfOrder_47 : decode cX6_draftRunsOfOrder 47 = .ok (.invokevirtual 281, 3) := by decide +kernel
theorem dX6_draftRunsOfOrder_50 : decode cX6_draftRunsOfOrder 50 = .ok (.invokevirtual 248, 3) := by decide +kernel
theorem dX6_draftRunsOfOrder_53 : decode cX6_draftRunsOfOrder 53 = .ok (.iinc 1 1, 3) := by decide +kernel
theorem dX6_draftRunsOfOrder_56 : decode cX6_draftRunsOfOrder 56 = .ok (.goto (-54), 3) := by decide +kernel
theorem dX6_draftRunsOfOrder_59 : decode cX6_draftRunsOfOrder 59 = .ok (.aload_n 0, 1) := by decide +kernel
theorem dX6_draftRunsOfOrder_60 : decode cX6_draftRunsOfOrder 60 = .ok (.invokevirtual 252, 3) := by decide +kernel
theorem dX6_draftRunsOfOrder_63 : decode cX6_draftRunsOfOrder 63 = .ok (.ireturn, 1) := by decide +kernel
theorem dX6_errorOfDraft_0 : decode cX6_errorOfDraft 0 = .ok (.aload_n 0, 1) := by decide +kernel
theorem dX6_errorOfDraft_1 : decode cX6_errorOfDraft 1 = .ok (.getfield 34, 3) := by decide +kernel
theorem dX6_errorOfDraft_4 : decode cX6_errorOfDraft 4 = .ok (.invokevirtual 283, 3) := by decide +kernel
theorem dX6_errorOfDraft_7 : decode cX6_errorOfDraft 7 = .ok (.ifCond .eq 8, 3) := by decide +kernel
theorem dX6_errorOfDraft_10 : decode cX6_errorOfDraft 10 = .ok (.bipush (-4), 2) := by decide +kernel
theorem dX6_errorOfDraft_12 : decode cX6_errorOfDraft 12 = .ok (.goto 4, 3) := by decide +kernel
theorem dX6_errorOfDraft_15 : decode cX6_errorOfDraft 15 = .ok (.iconst 0, 1) := by decide +kernel
theorem dX6_errorOfDraft_16 : decode cX6_errorOfDraft 16 = .ok (.ireturn, 1) := by decide +kernel
theorem dX6_recordAndTakeDraft_0 : decode cX6_recordAndTakeDraft 0 = .ok (.aload_n 0, 1) := by decide +kernel
theorem dX6_recordAndTakeDraft_1 : decode cX6_recordAndTakeDraft 1 = .ok (.getfield 19, 3) := by decide +kernel
theorem dX6_recordAndTakeDraft_4 : decode cX6_recordAndTakeDraft 4 = .ok (.aload_n 0, 1) := by decide +kernel
theorem dX6_recordAndTakeDraft_5 : decode cX6_recordAndTakeDraft 5 = .ok (.getfield 12, 3) := by decide +kernel
theorem dX6_recordAndTakeDraft_8 : decode cX6_recordAndTakeDraft 8 = .ok (.invokevirtual 227, 3) := by decide +kernel
theorem dX6_recordAndTakeDraft_11 : decode cX6_recordAndTakeDraft 11 = .ok (.aload_n 0, 1) := by decide +kernel
theorem dX6_recordAndTakeDraft_12 : decode cX6_recordAndTakeDraft 12 = .ok (.getfield 12, 3) := by decide +kernel
theorem dX6_recordAndTakeDraft_15 : decode cX6_recordAndTakeDraft 15 = .ok (.iload_n 1, 1) := by decide +kernel
theorem dX6_recordAndTakeDraft_16 : decode cX6_recordAndTakeDraft 16 = .ok (.invokevirtual 66, 3) := by decide +kernel
theorem dX6_recordAndTakeDraft_19 : decode cX6_recordAndTakeDraft 19 = .ok (.aload_n 0, 1) := by decide +kernel
theorem dX6_recordAndTakeDraft_20 : decode cX6_recordAndTakeDraft 20 = .ok (.getfield 34, 3) := by decide +kernel
theorem dX6_recordAndTakeDraft_23 : decode cX6_recordAndTakeDraft 23 = .ok (.invokevirtual 246, 3) := by decide +kernel
theorem dX6_recordAndTakeDraft_26 : decode cX6_recordAndTakeDraft 26 = .ok (.return_, 1) := by decide +kernel
theorem dX6_obeyOrders_0 : decode cX6_obeyOrders 0 = .ok (.iconst 0, 1) := by decide +kernel
theorem dX6_obeyOrders_1 : decode cX6_obeyOrders 1 = .ok (.istore_n 1, 1) := by decide +kernel
theorem dX6_obeyOrders_2 : decode cX6_obeyOrders 2 = .ok (.aload_n 0, 1) := by decide +kernel
theorem dX6_obeyOrders_3 : decode cX6_obeyOrders 3 = .ok (.getfield 50, 3) := by decide +kernel
theorem dX6_obeyOrders_6 : decode cX6_obeyOrders 6 = .ok (.invokevirtual 286, 3) := by decide +kernel
theorem dX6_obeyOrders_9 : decode cX6_obeyOrders 9 = .ok (.iconst 0, 1) := by decide +kernel
theorem dX6_obeyOrders_10 : decode cX6_obeyOrders 10 = .ok (.istore_n 2, 1) := by decide +kernel
theorem dX6_obeyOrders_11 : decode cX6_obeyOrders 11 = .ok (.iload_n 2, 1) := by decide +kernel
theorem dX6_obeyOrders_12 : decode cX6_obeyOrders 12 = .ok (.bipush 80, 2) := by decide +kernel
theorem dX6_obeyOrders_14 : decode cX6_obeyOrders 14 = .ok (.if_icmp .ge 66, 3) := by decide +kernel
theorem dX6_obeyOrders_17 : decode cX6_obeyOrders 17 = .ok (.aload_n 0, 1) := by decide +kernel
theorem dX6_obeyOrders_18 : decode cX6_obeyOrders 18 = .ok (.getfield 50, 3) := by decide +kernel
theorem dX6_obeyOrders_21 : decode cX6_obeyOrders 21 = .ok (.invokevirtual 289, 3) := by decide +kernel
theorem dX6_obeyOrders_24 : decode cX6_obeyOrders 24 = .ok (.ifCond .eq 10, 3) := by decide +kernel
theorem dX6_obeyOrders_27 : decode cX6_obeyOrders 27 = .ok (.aload_n 0, 1) := by decide +kernel
theorem dX6_obeyOrders_28 : decode cX6_obeyOrders 28 = .ok (.invokevirtual 292, 3) := by decide +kernel
theorem dX6_obeyOrders_31 : decode cX6_obeyOrders 31 = .ok (.ifCond .eq 5, 3) := by decide +kernel
theorem dX6_obeyOrders_34 : decode cX6_obeyOrders 34 = .ok (.iload_n 1, 1) := by decide +kernel
theorem dX6_obeyOrders_35 : decode cX6_obeyOrders 35 = .ok (.ireturn, 1) := by decide +kernel
theorem dX6_obeyOrders_36 : decode cX6_obeyOrders 36 = .ok (.aload_n 0, 1) := by decide +kernel
theorem dX6_obeyOrders_37 : decode cX6_obeyOrders 37 = .ok (.getfield 12, 3) := by decide +kernel
theorem dX6_obeyOrders_40 : decode cX6_obeyOrders 40 = .ok (.aload_n 0, 1) := by decide +kernel
theorem dX6_obeyOrders_41 : decode cX6_obeyOrders 41 = .ok (.getfield 50, 3) := by decide +kernel
theorem dX6_obeyOrders_44 : decode cX6_obeyOrders 44 = .ok (.invokevirtual 265, 3) := by decide +kernel
theorem dX6_obeyOrders_47 : decode cX6_obeyOrders 47 = .ok (.invokevirtual 66, 3) := by decide +kernel
theorem dX6_obeyOrders_50 : decode cX6_obeyOrders 50 = .ok (.aload_n 0, 1) := by decide +kernel
theorem dX6_obeyOrders_51 : decode cX6_obeyOrders 51 = .ok (.getfield 34, 3) := by decide +kernel
theorem dX6_obeyOrders_54 : decode cX6_obeyOrders 54 = .ok (.invokevirtual 246, 3) := by decide +kernel
theorem dX6_obeyOrders_57 : decode cX6_obeyOrders 57 = .ok (.iinc 1 1, 3) := by decide +kernel
theorem dX6_obeyOrders_60 : decode cX6_obeyOrders 60 = .ok (.aload_n 0, 1) := by decide +kernel
theorem dX6_obeyOrders_61 : decode cX6_obeyOrders 61 = .ok (.getfield 50, 3) := by decide +kernel
theorem dX6_obeyOrders_64 : decode cX6_obeyOrders 64 = .ok (.bipush 59, 2) := by decide +kernel
theorem dX6_obeyOrders_66 : decode cX6_obeyOrders 66 = .ok (.invokevirtual 295, 3) := by decide +kernel
theorem dX6_obeyOrders_69 : decode cX6_obeyOrders 69 = .ok (.ifCond .ne 5, 3) := by decide +kernel
theorem dX6_obeyOrders_72 : decode cX6_obeyOrders 72 = .ok (.iload_n 1, 1) := by decide +kernel
theorem dX6_obeyOrders_73 : decode cX6_obeyOrders 73 = .ok (.ireturn, 1) := by decide +kernel
theorem dX6_obeyOrders_74 : decode cX6_obeyOrders 74 = .ok (.iinc 2 1, 3) := by decide +kernel
theorem dX6_obeyOrders_77 : decode cX6_obeyOrders 77 = .ok (.goto (-66), 3) := by decide +kernel
theorem dX6_obeyOrders_80 : decode cX6_obeyOrders 80 = .ok (.iload_n 1, 1) := by decide +kernel
theorem dX6_obeyOrders_81 : decode cX6_obeyOrders 81 = .ok (.ireturn, 1) := by decide +kernel
theorem dX6_walkOver_0 : decode cX6_walkOver 0 = .ok (.new 170, 3) := by decide +kernel
theorem dX6_walkOver_3 : decode cX6_walkOver 3 = .ok (.dup, 1) := by decide +kernel
theorem dX6_walkOver_4 : decode cX6_walkOver 4 = .ok (.aload_n 0, 1) := by decide +kernel
theorem dX6_walkOver_5 : decode cX6_walkOver 5 = .ok (.getfield 12, 3) := by decide +kernel
theorem dX6_walkOver_8 : decode cX6_walkOver 8 = .ok (.iload_n 1, 1) := by decide +kernel
theorem dX6_walkOver_9 : decode cX6_walkOver 9 = .ok (.invokevirtual 66, 3) := by decide +kernel
theorem dX6_walkOver_12 : decode cX6_walkOver 12 = .ok (.aload_n 0, 1) := by decide +kernel
theorem dX6_walkOver_13 : decode cX6_walkOver 13 = .ok (.getfield 12, 3) := by decide +kernel
theorem dX6_walkOver_16 : decode cX6_walkOver 16 = .ok (.iload_n 2, 1) := by decide +kernel
theorem dX6_walkOver_17 : decode cX6_walkOver 17 = .ok (.invokevirtual 66, 3) := by decide +kernel
theorem dX6_walkOver_20 : decode cX6_walkOver 20 = .ok (.invokespecial 299, 3) := by decide +kernel
theorem dX6_walkOver_23 : decode cX6_walkOver 23 = .ok (.areturn, 1) := by decide +kernel
theorem dX6_runsOfPairs_0 : decode cX6_runsOfPairs 0 = .ok (.iconst 0, 1) := by decide +kernel
theorem dX6_runsOfPairs_1 : decode cX6_runsOfPairs 1 = .ok (.istore_n 1, 1) := by decide +kernel
theorem dX6_runsOfPairs_2 : decode cX6_runsOfPairs 2 = .ok (.iconst 0, 1) := by decide +kernel
theorem dX6_runsOfPairs_3 : decode cX6_runsOfPairs 3 = .ok (.istore_n 2, 1) := by decide +kernel
theorem dX6_runsOfPairs_4 : decode cX6_runsOfPairs 4 = .ok (.iload_n 2, 1) := by decide +kernel
theorem dX6_runsOfPairs_5 : decode cX6_runsOfPairs 5 = .ok (.bipush 80, 2) := by decide +kernel
theorem dX6_runsOfPairs_7 : decode cX6_runsOfPairs 7 = .ok (.if_icmp .ge 19, 3) := by decide +kernel
theorem dX6_runsOfPairs_10 : decode cX6_runsOfPairs 10 = .ok (.aload_n 0, 1) := by decide +kernel
theorem dX6_runsOfPairs_11 : decode cX6_runsOfPairs 11 = .ok (.invokevirtual 169, 3) := by decide +kernel
theorem dX6_runsOfPairs_14 : decode cX6_runsOfPairs 14 = .ok (.ifCond .eq 12, 3) := by decide +kernel
theorem dX6_runsOfPairs_17 : decode cX6_runsOfPairs 17 = .ok (.iinc 1 1, 3) := by decide +kernel
theorem dX6_runsOfPairs_20 : decode cX6_runsOfPairs 20 = .ok (.iinc 2 1, 3) := by decide +kernel
theorem dX6_runsOfPairs_23 : decode cX6_runsOfPairs 23 = .ok (.goto (-19), 3) := by decide +kernel
theorem dX6_runsOfPairs_26 : decode cX6_runsOfPairs 26 = .ok (.iload_n 1, 1) := by decide +kernel
theorem dX6_runsOfPairs_27 : decode cX6_runsOfPairs 27 = .ok (.ireturn, 1) := by decide +kernel
theorem dX6_rowsAlike_0 : decode cX6_rowsAlike 0 = .ok (.iconst 0, 1) := by decide +kernel
theorem dX6_rowsAlike_1 : decode cX6_rowsAlike 1 = .ok (.istore_n 1, 1) := by decide +kernel
theorem dX6_rowsAlike_2 : decode cX6_rowsAlike 2 = .ok (.iconst 0, 1) := by decide +kernel
theorem dX6_rowsAlike_3 : decode cX6_rowsAlike 3 = .ok (.istore_n 2, 1) := by decide +kernel
theorem dX6_rowsAlike_4 : decode cX6_rowsAlike 4 = .ok (.iload_n 2, 1) := by decide +kernel
theorem dX6_rowsAlike_5 : decode cX6_rowsAlike 5 = .ok (.bipush 80, 2) := by decide +kernel
theorem dX6_rowsAlike_7 : decode cX6_rowsAlike 7 = .ok (.if_icmp .ge 30, 3) := by decide +kernel
theorem dX6_rowsAlike_10 : decode cX6_rowsAlike 10 = .ok (.aload_n 0, 1) := by decide +kernel
theorem dX6_rowsAlike_11 : decode cX6_rowsAlike 11 = .ok (.invokevirtual 169, 3) := by decide +kernel
theorem dX6_rowsAlike_14 : decode cX6_rowsAlike 14 = .ok (.ifCond .eq 23, 3) := by decide +kernel
theorem dX6_rowsAlike_17 : decode cX6_rowsAlike 17 = .ok (.aload_n 0, 1) := by decide +kernel
theorem dX6_rowsAlike_18 : decode cX6_rowsAlike 18 = .ok (.invokevirtual 262, 3) := by decide +kernel
theorem dX6_rowsAlike_21 : decode cX6_rowsAlike 21 = .ok (.ifCond .eq 10, 3) := by decide +kernel
theorem dX6_rowsAlike_24 : decode cX6_rowsAlike 24 = .ok (.iload_n 1, 1) := by decide +kernel
theorem dX6_rowsAlike_25 : decode cX6_rowsAlike 25 = .ok (.aload_n 0, 1) := by decide +kernel
theorem dX6_rowsAlike_26 : decode cX6_rowsAlike 26 = .ok (.invokevirtual 180, 3) := by decide +kernel
theorem dX6_rowsAlike_29 : decode cX6_rowsAlike 29 = .ok (.iadd, 1) := by decide +kernel
theorem dX6_rowsAlike_30 : decode cX6_rowsAlike 30 = .ok (.istore_n 1, 1) := by decide +kernel
theorem dX6_rowsAlike_31 : decode cX6_rowsAlike 31 = .ok (.iinc 2 1, 3) := by decide +kernel
theorem dX6_rowsAlike_34 : decode cX6_rowsAlike 34 = .ok (.goto (-30), 3) := by decide +kernel
theorem dX6_rowsAlike_37 : decode cX6_rowsAlike 37 = .ok (.iload_n 1, 1) := by decide +kernel
theorem dX6_rowsAlike_38 : decode cX6_rowsAlike 38 = .ok (.ireturn, 1) := by decide +kernel
theorem dX6_sumOfProducts_0 : decode cX6_sumOfProducts 0 = .ok (.iconst 0, 1) := by decide +kernel
theorem dX6_sumOfProducts_1 : decode cX6_sumOfProducts 1 = .ok (.istore_n 1, 1) := by decide +kernel
theorem dX6_sumOfProducts_2 : decode cX6_sumOfProducts 2 = .ok (.iconst 0, 1) := by decide +kernel
theorem dX6_sumOfProducts_3 : decode cX6_sumOfProducts 3 = .ok (.istore_n 2, 1) := by decide +kernel
theorem dX6_sumOfProducts_4 : decode cX6_sumOfProducts 4 = .ok (.iload_n 2, 1) := by decide +kernel
theorem dX6_sumOfProducts_5 : decode cX6_sumOfProducts 5 = .ok (.bipush 80, 2) := by decide +kernel
theorem dX6_sumOfProducts_7 : decode cX6_sumOfProducts 7 = .ok (.if_icmp .ge 33, 3) := by decide +kernel
theorem dX6_sumOfProducts_10 : decode cX6_sumOfProducts 10 = .ok (.aload_n 0, 1) := by decide +kernel
theorem dX6_sumOfProducts_11 : decode cX6_sumOfProducts 11 = .ok (.invokevirtual 169, 3) := by decide +kernel
theorem dX6_sumOfProducts_14 : decode cX6_sumOfProducts 14 = .ok (.ifCond .eq 26, 3) := by decide +kernel
theorem dX6_sumOfProducts_17 : decode cX6_sumOfProducts 17 = .ok (.iload_n 1, 1) := by decide +kernel
theorem dX6_sumOfProducts_18 : decode cX6_sumOfProducts 18 = .ok (.aload_n 0, 1) := by decide +kernel
theorem dX6_sumOfProducts_19 : decode cX6_sumOfProducts 19 = .ok (.invokevirtual 174, 3) := by decide +kernel
theorem dX6_sumOfProducts_22 : decode cX6_sumOfProducts 22 = .ok (.aload_n 0, 1) := by decide +kernel
theorem dX6_sumOfProducts_23 : decode cX6_sumOfProducts 23 = .ok (.invokevirtual 177, 3) := by decide +kernel
theorem dX6_sumOfProducts_26 : decode cX6_sumOfProducts 26 = .ok (.imul, 1) := by decide +kernel
theorem dX6_sumOfProducts_27 : decode cX6_sumOfProducts 27 = .ok (.aload_n 0, 1) := by decide +kernel
theorem dX6_sumOfProducts_28 : decode cX6_sumOfProducts 28 = .ok (.invokevirtual 180, 3) := by decide +kernel
theorem dX6_sumOfProducts_31 : decode cX6_sumOfProducts 31 = .ok (.imul, 1) := by decide +kernel
theorem dX6_sumOfProducts_32 : decode cX6_sumOfProducts 32 = .ok (.iadd, 1) := by decide +kernel
theorem dX6_sumOfProducts_33 : decode cX6_sumOfProducts 33 = .ok (.istore_n 1, 1) := by decide +kernel
theorem dX6_sumOfProducts_34 : decode cX6_sumOfProducts 34 = .ok (.iinc 2 1, 3) := by decide +kernel
theorem dX6_sumOfProducts_37 : decode cX6_sumOfProducts 37 = .ok (.goto (-33), 3) := by decide +kernel
theorem dX6_sumOfProducts_40 : decode cX6_sumOfProducts 40 = .ok (.iload_n 1, 1) := by decide +kernel
theorem dX6_sumOfProducts_41 : decode cX6_sumOfProducts 41 = .ok (.ireturn, 1) := by decide +kernel
theorem dX6_unlikePairs_0 : decode cX6_unlikePairs 0 = .ok (.aload_n 0, 1) := by decide +kernel
theorem dX6_unlikePairs_1 : decode cX6_unlikePairs 1 = .ok (.getfield 54, 3) := by decide +kernel
theorem dX6_unlikePairs_4 : decode cX6_unlikePairs 4 = .ok (.iconst 0, 1) := by decide +kernel
theorem dX6_unlikePairs_5 : decode cX6_unlikePairs 5 = .ok (.invokestatic 302, 3) := by decide +kernel
theorem dX6_unlikePairs_8 : decode cX6_unlikePairs 8 = .ok (.iconst 0, 1) := by decide +kernel
theorem dX6_unlikePairs_9 : decode cX6_unlikePairs 9 = .ok (.istore_n 2, 1) := by decide +kernel
theorem dX6_unlikePairs_10 : decode cX6_unlikePairs 10 = .ok (.iload_n 2, 1) := by decide +kernel
theorem dX6_unlikePairs_11 : decode cX6_unlikePairs 11 = .ok (.bipush 80, 2) := by decide +kernel
theorem dX6_unlikePairs_13 : decode cX6_unlikePairs 13 = .ok (.if_icmp .ge 43, 3) := by decide +kernel
theorem dX6_unlikePairs_16 : decode cX6_unlikePairs 16 = .ok (.aload_n 1, 1) := by decide +kernel
theorem dX6_unlikePairs_17 : decode cX6_unlikePairs 17 = .ok (.invokevirtual 169, 3) := by decide +kernel
theorem dX6_unlikePairs_20 : decode cX6_unlikePairs 20 = .ok (.ifCond .eq 36, 3) := by decide +kernel
theorem dX6_unlikePairs_23 : decode cX6_unlikePairs 23 = .ok (.aload_n 1, 1) := by decide +kernel
theorem dX6_unlikePairs_24 : decode cX6_unlikePairs 24 = .ok (.invokevirtual 174, 3) := by decide +kernel
theorem dX6_unlikePairs_27 : decode cX6_unlikePairs 27 = .ok (.istore_n 3, 1) := by decide +kernel
theorem dX6_unlikePairs_28 : decode cX6_unlikePairs 28 = .ok (.iload_n 3, 1) := by decide +kernel
theorem dX6_unlikePairs_29 : decode cX6_unlikePairs 29 = .ok (.invokestatic 121, 3) := by decide +kernel
theorem dX6_unlikePairs_32 : decode cX6_unlikePairs 32 = .ok (.ifCond .eq 18, 3) := by decide +kernel
theorem dX6_unlikePairs_35 : decode cX6_unlikePairs 35 = .ok (.aload_n 0, 1) := by decide +kernel
theorem dX6_unlikePairs_36 : decode cX6_unlikePairs 36 = .ok (.getfield 54, 3) := by decide +kernel
theorem dX6_unlikePairs_39 : decode cX6_unlikePairs 39 = .ok (.iload_n 3, 1) := by decide +kernel
theorem dX6_unlikePairs_40 : decode cX6_unlikePairs 40 = .ok (.dup2, 1) := by decide +kernel
theorem dX6_unlikePairs_41 : decode cX6_unlikePairs 41 = .ok (.iaload, 1) := by decide +kernel
theorem dX6_unlikePairs_42 : decode cX6_unlikePairs 42 = .ok (.iconst 1, 1) := by decide +kernel
theorem dX6_unlikePairs_43 : decode cX6_unlikePairs 43 = .ok (.aload_n 1, 1) := by decide +kernel
theorem dX6_unlikePairs_44 : decode cX6_unlikePairs 44 = .ok (.invokevirtual 177, 3) := by decide +kernel
theorem dX6_unlikePairs_47 : decode cX6_unlikePairs 47 = .ok (.ishl, 1) := by decide +kernel
theorem dX6_unlikePairs_48 : decode cX6_unlikePairs 48 = .ok (.ior, 1) := by decide +kernel
theorem dX6_unlikePairs_49 : decode cX6_unlikePairs 49 = .ok (.iastore, 1) := by decide +kernel
theorem dX6_unlikePairs_50 : decode cX6_unlikePairs 50 = .ok (.iinc 2 1, 3) := by decide +kernel
theorem dX6_unlikePairs_53 : decode cX6_unlikePairs 53 = .ok (.goto (-43), 3) := by decide +kernel
theorem dX6_unlikePairs_56 : decode cX6_unlikePairs 56 = .ok (.iconst 0, 1) := by decide +kernel
theorem dX6_unlikePairs_57 : decode cX6_unlikePairs 57 = .ok (.istore_n 2, 1) := by decide +kernel
theorem dX6_unlikePairs_58 : decode cX6_unlikePairs 58 = .ok (.iconst 0, 1) := by decide +kernel
theorem dX6_unlikePairs_59 : decode cX6_unlikePairs 59 = .ok (.istore_n 3, 1) := by decide +kernel
theorem dX6_unlikePairs_60 : decode cX6_unlikePairs 60 = .ok (.iload_n 3, 1) := by decide +kernel
theorem dX6_unlikePairs_61 : decode cX6_unlikePairs 61 = .ok (.bipush 10, 2) := by decide +kernel
theorem dX6_unlikePairs_63 : decode cX6_unlikePairs 63 = .ok (.if_icmp .ge 21, 3) := by decide +kernel
theorem dX6_unlikePairs_66 : decode cX6_unlikePairs 66 = .ok (.iload_n 2, 1) := by decide +kernel
theorem dX6_unlikePairs_67 : decode cX6_unlikePairs 67 = .ok (.aload_n 0, 1) := by decide +kernel
theorem dX6_unlikePairs_68 : decode cX6_unlikePairs 68 = .ok (.getfield 54, 3) := by decide +kernel
theorem dX6_unlikePairs_71 : decode cX6_unlikePairs 71 = .ok (.iload_n 3, 1) := by decide +kernel
theorem dX6_unlikePairs_72 : decode cX6_unlikePairs 72 = .ok (.iaload, 1) := by decide +kernel
theorem dX6_unlikePairs_73 : decode cX6_unlikePairs 73 = .ok (.invokestatic 202, 3) := by decide +kernel
theorem dX6_unlikePairs_76 : decode cX6_unlikePairs 76 = .ok (.iadd, 1) := by decide +kernel
theorem dX6_unlikePairs_77 : decode cX6_unlikePairs 77 = .ok (.istore_n 2, 1) := by decide +kernel
theorem dX6_unlikePairs_78 : decode cX6_unlikePairs 78 = .ok (.iinc 3 1, 3) := by decide +kernel
theorem dX6_unlikePairs_81 : decode cX6_unlikePairs 81 = .ok (.goto (-21), 3) := by decide +kernel
theorem dX6_unlikePairs_84 : decode cX6_unlikePairs 84 = .ok (.iload_n 2, 1) := by decide +kernel
theorem dX6_unlikePairs_85 : decode cX6_unlikePairs 85 = .ok (.ireturn, 1) := by decide +kernel
theorem dX6_charactersIn_0 : decode cX6_charactersIn 0 = .ok (.lload_n 0, 1) := by decide +kernel
theorem dX6_charactersIn_1 : decode cX6_charactersIn 1 = .ok (.lstore_n 2, 1) := by decide +kernel
theorem dX6_charactersIn_2 : decode cX6_charactersIn 2 = .ok (.iconst 0, 1) := by decide +kernel
theorem dX6_charactersIn_3 : decode cX6_charactersIn 3 = .ok (.istore 4, 2) := by decide +kernel
theorem dX6_charactersIn_5 : decode cX6_charactersIn 5 = .ok (.iconst 0, 1) := by decide +kernel
theorem dX6_charactersIn_6 : decode cX6_charactersIn 6 = .ok (.istore 5, 2) := by decide +kernel
theorem dX6_charactersIn_8 : decode cX6_charactersIn 8 = .ok (.iload 5, 2) := by decide +kernel
theorem dX6_charactersIn_10 : decode cX6_charactersIn 10 = .ok (.bipush 8, 2) := by decide +kernel
theorem dX6_charactersIn_12 : decode cX6_charactersIn 12 = .ok (.if_icmp .ge 55, 3) := by decide +kernel
theorem dX6_charactersIn_15 : decode cX6_charactersIn 15 = .ok (.lload_n 2, 1) := by decide +kernel
theorem dX6_charactersIn_16 : decode cX6_charactersIn 16 = .ok (.ldc2_w 217, 3) := by decide +kernel
theorem dX6_charactersIn_19 : decode cX6_charactersIn 19 = .ok (.land, 1) := by decide +kernel
theorem dX6_charactersIn_20 : decode cX6_charactersIn 20 = .ok (.lconst 0, 1) := by decide +kernel
theorem dX6_charactersIn_21 : decode cX6_charactersIn 21 = .ok (.lcmp, 1) := by decide +kernel
theorem dX6_charactersIn_22 : decode cX6_charactersIn 22 = .ok (.ifCond .eq 45, 3) := by decide +kernel
theorem dX6_charactersIn_25 : decode cX6_charactersIn 25 = .ok (.lload_n 2, 1) := by decide +kernel
theorem dX6_charactersIn_26 : decode cX6_charactersIn 26 = .ok (.ldc2_w 217, 3) := by decide +kernel
theorem dX6_charactersIn_29 : decode cX6_charactersIn 29 = .ok (.land, 1) := by decide +kernel
theorem dX6_charactersIn_30 : decode cX6_charactersIn 30 = .ok (.lstore 6, 2) := by decide +kernel
theorem dX6_charactersIn_32 : decode cX6_charactersIn 32 = .ok (.lload 6, 2) := by decide +kernel
theorem dX6_charactersIn_34 : decode cX6_charactersIn 34 = .ok (.ldc2_w 308, 3) := by decide +kernel
theorem dX6_charactersIn_37 : decode cX6_charactersIn 37 = .ok (.lcmp, 1) := by decide +kernel
theorem dX6_charactersIn_38 : decode cX6_charactersIn 38 = .ok (.ifCond .lt 12, 3) := by decide +kernel
theorem dX6_charactersIn_41 : decode cX6_charactersIn 41 = .ok (.lload 6, 2) := by decide +kernel
theorem dX6_charactersIn_43 : decode cX6_charactersIn 43 = .ok (.ldc2_w 310, 3) := by decide +kernel
theorem dX6_charactersIn_46 : decode cX6_charactersIn 46 = .ok (.lcmp, 1) := by decide +kernel
theorem dX6_charactersIn_47 : decode cX6_charactersIn 47 = .ok (.ifCond .le 6, 3) := by decide +kernel
theorem dX6_charactersIn_50 : decode cX6_charactersIn 50 = .ok (.bipush (-2), 2) := by decide +kernel
theorem dX6_charactersIn_52 : decode cX6_charactersIn 52 = .ok (.ireturn, 1) := by decide +kernel
theorem dX6_charactersIn_53 : decode cX6_charactersIn 53 = .ok (.iinc 4 1, 3) := by decide +kernel
theorem dX6_charactersIn_56 : decode cX6_charactersIn 56 = .ok (.lload_n 2, 1) := by decide +kernel
theorem dX6_charactersIn_57 : decode cX6_charactersIn 57 = .ok (.bipush 8, 2) := by decide +kernel
theorem dX6_charactersIn_59 : decode cX6_charactersIn 59 = .ok (.lushr, 1) := by decide +kernel
theorem dX6_charactersIn_60 : decode cX6_charactersIn 60 = .ok (.lstore_n 2, 1) := by decide +kernel
theorem dX6_charactersIn_61 : decode cX6_charactersIn 61 = .ok (.iinc 5 1, 3) := by decide +kernel
theorem dX6_charactersIn_64 : decode cX6_charactersIn 64 = .ok (.goto (-56), 3) := by decide +kernel
theorem dX6_charactersIn_67 : decode cX6_charactersIn 67 = .ok (.lload_n 2, 1) := by decide +kernel
theorem dX6_charactersIn_68 : decode cX6_charactersIn 68 = .ok (.lconst 0, 1) := by decide +kernel
theorem dX6_charactersIn_69 : decode cX6_charactersIn 69 = .ok (.lcmp, 1) := by decide +kernel
theorem dX6_charactersIn_70 : decode cX6_charactersIn 70 = .ok (.ifCond .ne 8, 3) := by decide +kernel
theorem dX6_charactersIn_73 : decode cX6_charactersIn 73 = .ok (.iload 4, 2) := by decide +kernel
theorem dX6_charactersIn_75 : decode cX6_charactersIn 75 = .ok (.goto 5, 3) := by decide +kernel
theorem dX6_charactersIn_78 : decode cX6_charactersIn 78 = .ok (.bipush (-2), 2) := by decide +kernel
theorem dX6_charactersIn_80 : decode cX6_charactersIn 80 = .ok (.ireturn, 1) := by decide +kernel
theorem dX7_init_0 : decode cX7_init 0 = .ok (.aload_n 0, 1) := by decide +kernel
theorem dX7_init_1 : decode cX7_init 1 = .ok (.invokespecial 1, 3) := by decide +kernel
theorem dX7_init_4 : decode cX7_init 4 = .ok (.aload_n 0, 1) := by decide +kernel
theorem dX7_init_5 : decode cX7_init 5 = .ok (.sipush 324, 3) := by decide +kernel
theorem dX7_init_8 : decode cX7_init 8 = .ok (.newarray .int, 2) := by decide +kernel
theorem dX7_init_10 : decode cX7_init 10 = .ok (.putfield 7, 3) := by decide +kernel
theorem dX7_init_13 : decode cX7_init 13 = .ok (.aload_n 0, 1) := by decide +kernel
theorem dX7_init_14 : decode cX7_init 14 = .ok (.sipush 1944, 3) := by decide +kernel
theorem dX7_init_17 : decode cX7_init 17 = .ok (.newarray .int, 2) := by decide +kernel
theorem dX7_init_19 : decode cX7_init 19 = .ok (.putfield 13, 3) := by decide +kernel
theorem dX7_init_22 : decode cX7_init 22 = .ok (.aload_n 0, 1) := by decide +kernel
theorem dX7_init_23 : decode cX7_init 23 = .ok (.sipush 648, 3) := by decide +kernel
theorem dX7_init_26 : decode cX7_init 26 = .ok (.newarray .int, 2) := by decide +kernel
theorem dX7_init_28 : decode cX7_init 28 = .ok (.putfield 16, 3) := by decide +kernel
theorem dX7_init_31 : decode cX7_init 31 = .ok (.aload_n 0, 1) := by decide +kernel
theorem dX7_init_32 : decode cX7_init 32 = .ok (.iconst 2, 1) := by decide +kernel
theorem dX7_init_33 : decode cX7_init 33 = .ok (.newarray .int, 2) := by decide +kernel
theorem dX7_init_35 : decode cX7_init 35 = .ok (.putfield 19, 3) := by decide +kernel
theorem dX7_init_38 : decode cX7_init 38 = .ok (.aload_n 0, 1) := by decide +kernel
theorem dX7_init_39 : decode cX7_init 39 = .ok (.bipush 80, 2) := by decide +kernel
theorem dX7_init_41 : decode cX7_init 41 = .ok (.newarray .int, 2) := by decide +kernel
theorem dX7_init_43 : decode cX7_init 43 = .ok (.putfield 22, 3) := by decide +kernel
theorem dX7_init_46 : decode cX7_init 46 = .ok (.aload_n 0, 1) := by decide +kernel
theorem dX7_init_47 : decode cX7_init 47 = .ok (.sipush 1998, 3) := by decide +kernel
theorem dX7_init_50 : decode cX7_init 50 = .ok (.newarray .int, 2) := by decide +kernel
theorem dX7_init_52 : decode cX7_init 52 = .ok (.putfield 25, 3) := by decide +kernel
theorem dX7_init_55 : decode cX7_init 55 = .ok (.aload_n 0, 1) := by decide +kernel
theorem dX7_init_56 : decode cX7_init 56 = .ok (.sipush 999, 3) := by decide +kernel
theorem dX7_init_59 : decode cX7_init 59 = .ok (.newarray .int, 2) := by decide +kernel
theorem dX7_init_61 : decode cX7_init 61 = .ok (.putfield 28, 3) := by decide +kernel
theorem dX7_init_64 : decode cX7_init 64 = .ok (.aload_n 0, 1) := by decide +kernel
theorem dX7_init_65 : decode cX7_init 65 = .ok (.bipush 100, 2) := by decide +kernel
theorem dX7_init_67 : decode cX7_init 67 = .ok (.newarray .int, 2) := by decide +kernel
theorem dX7_init_69 : decode cX7_init 69 = .ok (.putfield 31, 3) := by decide +kernel
theorem dX7_init_72 : decode cX7_init 72 = .ok (.aload_n 0, 1) := by decide +kernel
theorem dX7_init_73 : decode cX7_init 73 = .ok (.bipush 40, 2) := by decide +kernel
theorem dX7_init_75 : decode cX7_init 75 = .ok (.newarray .int, 2) := by decide +kernel
theorem dX7_init_77 : decode cX7_init 77 = .ok (.putfield 34, 3) := by decide +kernel
theorem dX7_init_80 : decode cX7_init 80 = .ok (.aload_n 0, 1) := by decide +kernel
theorem dX7_init_81 : decode cX7_init 81 = .ok (.bipush 40, 2) := by decide +kernel
theorem dX7_init_83 : decode cX7_init 83 = .ok (.newarray .int, 2) := by decide +kernel
theorem dX7_init_85 : decode cX7_init 85 = .ok (.putfield 37, 3) := by decide +kernel
theorem dX7_init_88 : decode cX7_init 88 = .ok (.aload_n 0, 1) := by decide +kernel
theorem dX7_init_89 : decode cX7_init 89 = .ok (.getfield 7, 3) := by decide +kernel
theorem dX7_init_92 : decode cX7_init 92 = .ok (.iconst 0, 1) := by decide +kernel
theorem dX7_init_93 : decode cX7_init 93 = .ok (.iconst 0, 1) := by decide +kernel
theorem dX7_init_94 : decode cX7_init 94 = .ok (.iastore, 1) := by decide +kernel
theorem dX7_init_95 : decode cX7_init 95 = .ok (.return_, 1) := by decide +kernel
theorem dX7_moves_0 : decode cX7_moves 0 = .ok (.iconst 0, 1) := by decide +kernel
theorem dX7_moves_1 : decode cX7_moves 1 = .ok (.istore 4, 2) := by decide +kernel
theorem dX7_moves_3 : decode cX7_moves 3 = .ok (.iload 4, 2) := by decide +kernel
theorem dX7_moves_5 : decode cX7_moves 5 = .ok (.sipush 324, 3) := by decide +kernel
theorem dX7_moves_8 : decode cX7_moves 8 = .ok (.if_icmp .ge 21, 3) := by decide +kernel
theorem dX7_moves_11 : decode cX7_moves 11 = .ok (.aload_n 2, 1) := by decide +kernel
theorem dX7_moves_12 : decode cX7_moves 12 = .ok (.iload_n 3, 1) := by decide +kernel
theorem dX7_moves_13 : decode cX7_moves 13 = .ok (.iload 4, 2) := by decide +kernel
theorem dX7_moves_15 : decode cX7_moves 15 = .ok (.iadd, 1) := by decide +kernel
theorem dX7_moves_16 : decode cX7_moves 16 = .ok (.aload_n 0, 1) := by decide +kernel
theorem dX7_moves_17 : decode cX7_moves 17 = .ok (.iload_n 1, 1) := by decide +kernel
theorem dX7_moves_18 : decode cX7_moves 18 = .ok (.iload 4, 2) := by decide +kernel
theorem dX7_moves_20 : decode cX7_moves 20 = .ok (.iadd, 1) := by decide +kernel
theorem dX7_moves_21 : decode cX7_moves 21 = .ok (.iaload, 1) := by decide +kernel
theorem dX7_moves_22 : decode cX7_moves 22 = .ok (.iastore, 1) := by decide +kernel
theorem dX7_moves_23 : decode cX7_moves 23 = .ok (.iinc 4 1, 3) := by decide +kernel
theorem dX7_moves_26 : decode cX7_moves 26 = .ok (.goto (-23), 3) := by decide +kernel
theorem dX7_moves_29 : decode cX7_moves 29 = .ok (.return_, 1) := by decide +kernel
theorem dX7_within_0 : decode cX7_within 0 = .ok (.iload_n 0, 1) := by decide +kernel
theorem dX7_within_1 : decode cX7_within 1 = .ok (.iload_n 1, 1) := by decide +kernel
theorem dX7_within_2 : decode cX7_within 2 = .ok (.if_icmp .lt 12, 3) := by decide +kernel
theorem dX7_within_5 : decode cX7_within 5 = .ok (.iload_n 0, 1) := by decide +kernel
theorem dX7_within_6 : decode cX7_within 6 = .ok (.iload_n 2, 1) := by decide +kernel
theorem dX7_within_7 : decode cX7_within 7 = .ok (.if_icmp .gt 7, 3) := by decide +kernel
theorem dX7_within_10 : decode cX7_within 10 = .ok (.iconst 1, 1) := by decide +kernel
theorem dX7_within_11 : decode cX7_within 11 = .ok (.goto 4, 3) := by decide +kernel
theorem dX7_within_14 : decode cX7_within 14 = .ok (.iconst 0, 1) := by decide +kernel
theorem dX7_within_15 : decode cX7_within 15 = .ok (.ireturn, 1) := by decide +kernel
theorem dX7_record_0 : decode cX7_record 0 = .ok (.aload_n 0, 1) := by decide +kernel
theorem dX7_record_1 : decode cX7_record 1 = .ok (.getfield 40, 3) := by decide +kernel
theorem dX7_record_4 : decode cX7_record 4 = .ok (.bipush 6, 2) := by decide +kernel
theorem dX7_record_6 : decode cX7_record 6 = .ok (.if_icmp .ne 44, 3) := by decide +kernel
theorem dX7_record_9 : decode cX7_record 9 = .ok (.iconst 0, 1) := by decide +kernel
theorem dX7_record_10 : decode cX7_record 10 = .ok (.istore_n 1, 1) := by decide +kernel
theorem dX7_record_11 : decode cX7_record 11 = .ok (.iload_n 1, 1) := by decide +kernel
theorem dX7_record_12 : decode cX7_record 12 = .ok (.sipush 1620, 3) := by decide +kernel
theorem dX7_record_15 : decode cX7_record 15 = .ok (.if_icmp .ge 25, 3) := by decide +kernel
theorem dX7_record_18 : decode cX7_record 18 = .ok (.aload_n 0, 1) := by decide +kernel
theorem dX7_record_19 : decode cX7_record 19 = .ok (.getfield 13, 3) := by decide +kernel
theorem dX7_record_22 : decode cX7_record 22 = .ok (.iload_n 1, 1) := by decide +kernel
theorem dX7_record_23 : decode cX7_record 23 = .ok (.aload_n 0, 1) := by decide +kernel
theorem dX7_record_24 : decode cX7_record 24 = .ok (.getfield 13, 3) := by decide +kernel
theorem dX7_record_27 : decode cX7_record 27 = .ok (.iload_n 1, 1) := by decide +kernel
theorem dX7_record_28 : decode cX7_record 28 = .ok (.sipush 324, 3) := by decide +kernel
theorem dX7_record_31 : decode cX7_record 31 = .ok (.iadd, 1) := by decide +kernel
theorem dX7_record_32 : decode cX7_record 32 = .ok (.iaload, 1) := by decide +kernel
theorem dX7_record_33 : decode cX7_record 33 = .ok (.iastore, 1) := by decide +kernel
theorem dX7_record_34 : decode cX7_record 34 = .ok (.iinc 1 1, 3) := by decide +kernel
theorem dX7_record_37 : decode cX7_record 37 = .ok (.goto (-26), 3) := by decide +kernel
theorem dX7_record_40 : decode cX7_record 40 = .ok (.aload_n 0, 1) := by decide +kernel
theorem dX7_record_41 : decode cX7_record 41 = .ok (.dup, 1) := by decide +kernel
theorem dX7_record_42 : decode cX7_record 42 = .ok (.getfield 40, 3) := by decide +kernel
theorem dX7_record_45 : decode cX7_record 45 = .ok (.iconst 1, 1) := by decide +kernel
theorem dX7_record_46 : decode cX7_record 46 = .ok (.isub, 1) := by decide +kernel
theorem dX7_record_47 : decode cX7_record 47 = .ok (.putfield 40, 3) := by decide +kernel
theorem dX7_record_50 : decode cX7_record 50 = .ok (.aload_n 0, 1) := by decide +kernel
theorem dX7_record_51 : decode cX7_record 51 = .ok (.getfield 7, 3) := by decide +kernel
theorem dX7_record_54 : decode cX7_record 54 = .ok (.iconst 0, 1) := by decide +kernel
theorem dX7_record_55 : decode cX7_record 55 = .ok (.aload_n 0, 1) := by decide +kernel
theorem dX7_record_56 : decode cX7_record 56 = .ok (.getfield 13, 3) := by decide +kernel
theorem dX7_record_59 : decode cX7_record 59 = .ok (.aload_n 0, 1) := by decide +kernel
theorem dX7_record_60 : decode cX7_record 60 = .ok (.getfield 40, 3) := by decide +kernel
theorem dX7_record_63 : decode cX7_record 63 = .ok (.sipush 324, 3) := by decide +kernel
theorem dX7_record_66 : decode cX7_record 66 = .ok (.imul, 1) := by decide +kernel
theorem dX7_record_67 : decode cX7_record 67 = .ok (.invokestatic 44, 3) := by decide +kernel
theorem dX7_record_70 : decode cX7_record 70 = .ok (.aload_n 0, 1) := by decide +kernel
theorem dX7_record_71 : decode cX7_record 71 = .ok (.dup, 1) := by decide +kernel
theorem dX7_record_72 : decode cX7_record 72 = .ok (.getfield 40, 3) := by decide +kernel
theorem dX7_record_75 : decode cX7_record 75 = .ok (.iconst 1, 1) := by decide +kernel
theorem dX7_record_76 : decode cX7_record 76 = .ok (.iadd, 1) := by decide +kernel
theorem dX7_record_77 : decode cX7_record 77 = .ok (.putfield 40, 3) := by decide +kernel
theorem dX7_record_80 : decode cX7_record 80 = .ok (.return_, 1) := by decide +kernel
theorem dX7_isColumn_0 : decode cX7_isColumn 0 = .ok (.iload_n 0, 1) := by decide +kernel
theorem dX7_isColumn_1 : decode cX7_isColumn 1 = .ok (.iconst 0, 1) := by decide +kernel
theorem dX7_isColumn_2 : decode cX7_isColumn 2 = .ok (.iconst 3, 1) := by decide +kernel
theorem dX7_isColumn_3 : decode cX7_isColumn 3 = .ok (.invokestatic 48, 3) := by decide +kernel
theorem dX7_isColumn_6 : decode cX7_isColumn 6 = .ok (.ireturn, 1) := by decide +kernel
theorem dX7_isValue_0 : decode cX7_isValue 0 = .ok (.iload_n 0, 1) := by decide +kernel
theorem dX7_isValue_1 : decode cX7_isValue 1 = .ok (.iconst 0, 1) := by decide +kernel
theorem dX7_isValue_2 : decode cX7_isValue 2 = .ok (.bipush 9, 2) := by decide +kernel
theorem dX7_isValue_4 : decode cX7_isValue 4 = .ok (.invokestatic 48, 3) := by decide +kernel
theorem dX7_isValue_7 : decode cX7_isValue 7 = .ok (.ireturn, 1) := by decide +kernel
theorem dX7_runsOf_0 : decode cX7_runsOf 0 = .ok (.aload_n 0, 1) := by decide +kernel
theorem dX7_runsOf_1 : decode cX7_runsOf 1 = .ok (.getfield 7, 3) := by decide +kernel
theorem dX7_runsOf_4 : decode cX7_runsOf 4 = .ok (.bipush 81, 2) := by decide +kernel
theorem dX7_runsOf_6 : decode cX7_runsOf 6 = .ok (.iload_n 1, 1) := by decide +kernel
theorem dX7_runsOf_7 : decode cX7_runsOf 7 = .ok (.imul, 1) := by decide +kernel
theorem dX7_runsOf_8 : decode cX7_runsOf 8 = .ok (.iaload, 1) := by decide +kernel
theorem dX7_runsOf_9 : decode cX7_runsOf 9 = .ok (.ireturn, 1) := by decide +kernel
theorem dX7_valueOf_0 : decode cX7_valueOf 0 = .ok (.aload_n 0, 1) := by decide +kernel
theorem dX7_valueOf_1 : decode cX7_valueOf 1 = .ok (.getfield 7, 3) := by decide +kernel
theorem dX7_valueOf_4 : decode cX7_valueOf 4 = .ok (.bipush 81, 2) := by decide +kernel
theorem dX7_valueOf_6 : decode cX7_valueOf 6 = .ok (.iload_n 1, 1) := by decide +kernel
theorem dX7_valueOf_7 : decode cX7_valueOf 7 = .ok (.imul, 1) := by decide +kernel
theorem dX7_valueOf_8 : decode cX7_valueOf 8 = .ok (.iconst 1, 1) := by decide +kernel
theorem dX7_valueOf_9 : decode cX7_valueOf 9 = .ok (.iadd, 1) := by decide +kernel
theorem dX7_valueOf_10 : decode cX7_valueOf 10 = .ok (.iconst 2, 1) := by decide +kernel
theorem dX7_valueOf_11 : decode cX7_valueOf 11 = .ok (.iload_n 2, 1) := by decide +kernel
theorem dX7_valueOf_12 : decode cX7_valueOf 12 = .ok (.imul, 1) := by decide +kernel
theorem dX7_valueOf_13 : decode cX7_valueOf 13 = .ok (.iadd, 1) := by decide +kernel
theorem dX7_valueOf_14 : decode cX7_valueOf 14 = .ok (.iaload, 1) := by decide +kernel
theorem dX7_valueOf_15 : decode cX7_valueOf 15 = .ok (.ireturn, 1) := by decide +kernel
theorem dX7_lengthOf_0 : decode cX7_lengthOf 0 = .ok (.aload_n 0, 1) := by decide +kernel
theorem dX7_lengthOf_1 : decode cX7_lengthOf 1 = .ok (.getfield 7, 3) := by decide +kernel
theorem dX7_lengthOf_4 : decode cX7_lengthOf 4 = .ok (.bipush 81, 2) := by decide +kernel
theorem dX7_lengthOf_6 : decode cX7_lengthOf 6 = .ok (.iload_n 1, 1) := by decide +kernel
theorem dX7_lengthOf_7 : decode cX7_lengthOf 7 = .ok (.imul, 1) := by decide +kernel
theorem dX7_lengthOf_8 : decode cX7_lengthOf 8 = .ok (.iconst 2, 1) := by decide +kernel
theorem dX7_lengthOf_9 : decode cX7_lengthOf 9 = .ok (.iadd, 1) := by decide +kernel
theorem dX7_lengthOf_10 : decode cX7_lengthOf 10 = .ok (.iconst 2, 1) := by decide +kernel
theorem dX7_lengthOf_11 : decode cX7_lengthOf 11 = .ok (.iload_n 2, 1) := by decide +kernel
theorem dX7_lengthOf_12 : decode cX7_lengthOf 12 = .ok (.imul, 1) := by decide +kernel
theorem dX7_lengthOf_13 : decode cX7_lengthOf 13 = .ok (.iadd, 1) := by decide +kernel
theorem dX7_lengthOf_14 : decode cX7_lengthOf 14 = .ok (.iaload, 1) := by decide +kernel
theorem dX7_lengthOf_15 : decode cX7_lengthOf 15 = .ok (.ireturn, 1) := by decide +kernel
theorem dX7_rowsOf_0 : decode cX7_rowsOf 0 = .ok (.iconst 0, 1) := by decide +kernel
theorem dX7_rowsOf_1 : decode cX7_rowsOf 1 = .ok (.istore_n 2, 1) := by decide +kernel
theorem dX7_rowsOf_2 : decode cX7_rowsOf 2 = .ok (.iconst 0, 1) := by decide +kernel
theorem dX7_rowsOf_3 : decode cX7_rowsOf 3 = .ok (.istore_n 3, 1) := by decide +kernel
theorem dX7_rowsOf_4 : decode cX7_rowsOf 4 = .ok (.iload_n 3, 1) := by decide +kernel
theorem dX7_rowsOf_5 : decode cX7_rowsOf 5 = .ok (.aload_n 0, 1) := by decide +kernel
theorem dX7_rowsOf_6 : decode cX7_rowsOf 6 = .ok (.iload_n 1, 1) := by decide +kernel
theorem dX7_rowsOf_7 : decode cX7_rowsOf 7 = .ok (.invokevirtual 52, 3) := by decide +kernel
theorem dX7_rowsOf_10 : decode cX7_rowsOf 10 = .ok (.if_icmp .ge 18, 3) := by decide +kernel
theorem dX7_rowsOf_13 : decode cX7_rowsOf 13 = .ok (.iload_n 2, 1) := by decide +kernel
theorem dX7_rowsOf_14 : decode cX7_rowsOf 14 = .ok (.aload_n 0, 1) := by decide +kernel
theorem dX7_rowsOf_15 : decode cX7_rowsOf 15 = .ok (.iload_n 1, 1) := by decide +kernel
theorem dX7_rowsOf_16 : decode cX7_rowsOf 16 = .ok (.iload_n 3, 1) := by decide +kernel
theorem dX7_rowsOf_17 : decode cX7_rowsOf 17 = .ok (.invokevirtual 56, 3) := by decide +kernel
theorem dX7_rowsOf_20 : decode cX7_rowsOf 20 = .ok (.iadd, 1) := by decide +kernel
theorem dX7_rowsOf_21 : decode cX7_rowsOf 21 = .ok (.istore_n 2, 1) := by decide +kernel
theorem dX7_rowsOf_22 : decode cX7_rowsOf 22 = .ok (.iinc 3 1, 3) := by decide +kernel
theorem dX7_rowsOf_25 : decode cX7_rowsOf 25 = .ok (.goto (-21), 3) := by decide +kernel
theorem dX7_rowsOf_28 : decode cX7_rowsOf 28 = .ok (.iload_n 2, 1) := by decide +kernel
theorem dX7_rowsOf_29 : decode cX7_rowsOf 29 = .ok (.ireturn, 1) := by decide +kernel
theorem dX7_isRow_0 : decode cX7_isRow 0 = .ok (.iload_n 2, 1) := by decide +kernel
theorem dX7_isRow_1 : decode cX7_isRow 1 = .ok (.iconst 0, 1) := by decide +kernel
theorem dX7_isRow_2 : decode cX7_isRow 2 = .ok (.aload_n 0, 1) := by decide +kernel
theorem dX7_isRow_3 : decode cX7_isRow 3 = .ok (.iload_n 1, 1) := by decide +kernel
theorem dX7_isRow_4 : decode cX7_isRow 4 = .ok (.invokevirtual 60, 3) := by decide +kernel
theorem dX7_isRow_7 : decode cX7_isRow 7 = .ok (.iconst 1, 1) := by decide +kernel
theorem dX7_isRow_8 : decode cX7_isRow 8 = .ok (.isub, 1) := by decide +kernel
theorem dX7_isRow_9 : decode cX7_isRow 9 = .ok (.invokestatic 48, 3) := by decide +kernel
theorem dX7_isRow_12 : decode cX7_isRow 12 = .ok (.ireturn, 1) := by decide +kernel
theorem dX7_layOut_0 : decode cX7_layOut 0 = .ok (.aload_n 0, 1) := by decide +kernel
theorem dX7_layOut_1 : decode cX7_layOut 1 = .ok (.iconst 0, 1) := by decide +kernel
theorem dX7_layOut_2 : decode cX7_layOut 2 = .ok (.putfield 63, 3) := by decide +kernel
theorem dX7_layOut_5 : decode cX7_layOut 5 = .ok (.iconst 0, 1) := by decide +kernel
theorem dX7_layOut_6 : decode cX7_layOut 6 = .ok (.istore_n 2, 1) := by decide +kernel
theorem dX7_layOut_7 : decode cX7_layOut 7 = .ok (.iload_n 2, 1) := by decide +kernel
theorem dX7_layOut_8 : decode cX7_layOut 8 = .ok (.aload_n 0, 1) := by decide +kernel
theorem dX7_layOut_9 : decode cX7_layOut 9 = .ok (.iload_n 1, 1) := by decide +kernel
theorem dX7_layOut_10 : decode cX7_layOut 10 = .ok (.invokevirtual 52, 3) := by decide +kernel
theorem dX7_layOut_13 : decode cX7_layOut 13 = .ok (.if_icmp .ge 52, 3) := by decide +kernel
theorem dX7_layOut_16 : decode cX7_layOut 16 = .ok (.iconst 0, 1) := by decide +kernel
theorem dX7_layOut_17 : decode cX7_layOut 17 = .ok (.istore_n 3, 1) := by decide +kernel
theorem dX7_layOut_18 : decode cX7_layOut 18 = .ok (.iload_n 3, 1) := by decide +kernel
theorem dX7_layOut_19 : decode cX7_layOut 19 = .ok (.aload_n 0, 1) := by decide +kernel
theorem dX7_layOut_20 : decode cX7_layOut 20 = .ok (.iload_n 1, 1) := by decide +kernel
theorem dX7_layOut_21 : decode cX7_layOut 21 = .ok (.iload_n 2, 1) := by decide +kernel
theorem dX7_layOut_22 : decode cX7_layOut 22 = .ok (.invokevirtual 56, 3) := by decide +kernel
theorem dX7_layOut_25 : decode cX7_layOut 25 = .ok (.if_icmp .ge 34, 3) := by decide +kernel
theorem dX7_layOut_28 : decode cX7_layOut 28 = .ok (.aload_n 0, 1) := by decide +kernel
theorem dX7_layOut_29 : decode cX7_layOut 29 = .ok (.getfield 25, 3) := by decide +kernel
theorem dX7_layOut_32 : decode cX7_layOut 32 = .ok (.aload_n 0, 1) := by decide +kernel
theorem dX7_layOut_33 : decode cX7_layOut 33 = .ok (.getfield 63, 3) := by decide +kernel
theorem dX7_layOut_36 : decode cX7_layOut 36 = .ok (.aload_n 0, 1) := by decide +kernel
theorem dX7_layOut_37 : decode cX7_layOut 37 = .ok (.iload_n 1, 1) := by decide +kernel
theorem dX7_layOut_38 : decode cX7_layOut 38 = .ok (.iload_n 2, 1) := by decide +kernel
theorem dX7_layOut_39 : decode cX7_layOut 39 = .ok (.invokevirtual 66, 3) := by decide +kernel
theorem dX7_layOut_42 : decode cX7_layOut 42 = .ok (.iastore, 1) := by decide +kernel
theorem dX7_layOut_43 : decode cX7_layOut 43 = .ok (.aload_n 0, 1) := by decide +kernel
theorem dX7_layOut_44 : decode cX7_layOut 44 = .ok (.dup, 1) := by decide +kernel
theorem dX7_layOut_45 : decode cX7_layOut 45 = .ok (.getfield 63, 3) := by decide +kernel
theorem dX7_layOut_48 : decode cX7_layOut 48 = .ok (.iconst 1, 1) := by decide +kernel
theorem dX7_layOut_49 : decode cX7_layOut 49 = .ok (.iadd, 1) := by decide +kernel
theorem dX7_layOut_50 : decode cX7_layOut 50 = .ok (.putfield 63, 3) := by decide +kernel
theorem dX7_layOut_53 : decode cX7_layOut 53 = .ok (.iinc 3 1, 3) := by decide +kernel
theorem dX7_layOut_56 : decode cX7_layOut 56 = .ok (.goto (-38), 3) := by decide +kernel
theorem dX7_layOut_59 : decode cX7_layOut 59 = .ok (.iinc 2 1, 3) := by decide +kernel
theorem dX7_layOut_62 : decode cX7_layOut 62 = .ok (.goto (-55), 3) := by decide +kernel
theorem dX7_layOut_65 : decode cX7_layOut 65 = .ok (.return_, 1) := by decide +kernel
theorem dX7_layOutOther_0 : decode cX7_layOutOther 0 = .ok (.aload_n 0, 1) := by decide +kernel
theorem dX7_layOutOther_1 : decode cX7_layOutOther 1 = .ok (.iconst 0, 1) := by decide +kernel
theorem dX7_layOutOther_2 : decode cX7_layOutOther 2 = .ok (.putfield 69, 3) := by decide +kernel
theorem dX7_layOutOther_5 : decode cX7_layOutOther 5 = .ok (.iconst 0, 1) := by decide +kernel
theorem dX7_layOutOther_6 : decode cX7_layOutOther 6 = .ok (.istore_n 2, 1) := by decide +kernel
theorem dX7_layOutOther_7 : decode cX7_layOutOther 7 = .ok (.iload_n 2, 1) := by decide +kernel
theorem dX7_layOutOther_8 : decode cX7_layOutOther 8 = .ok (.aload_n 0, 1) := by decide +kernel
theorem dX7_layOutOther_9 : decode cX7_layOutOther 9 = .ok (.iload_n 1, 1) := by decide +kernel
theorem dX7_layOutOther_10 : decode cX7_layOutOther 10 = .ok (.invokevirtual 52, 3) := by decide +kernel
theorem dX7_layOutOther_13 : decode cX7_layOutOther 13 = .ok (.if_icmp .ge 52, 3) := by decide +kernel
theorem dX7_layOutOther_16 : decode cX7_layOutOther 16 = .ok (.iconst 0, 1) := by decide +kernel
theorem dX7_layOutOther_17 : decode cX7_layOutOther 17 = .ok (.istore_n 3, 1) := by decide +kernel
theorem dX7_layOutOther_18 : decode cX7_layOutOther 18 = .ok (.iload_n 3, 1) := by decide +kernel
theorem dX7_layOutOther_19 : decode cX7_layOutOther 19 = .ok (.aload_n 0, 1) := by decide +kernel
theorem dX7_layOutOther_20 : decode cX7_layOutOther 20 = .ok (.iload_n 1, 1) := by decide +kernel
theorem dX7_layOutOther_21 : decode cX7_layOutOther 21 = .ok (.iload_n 2, 1) := by decide +kernel
theorem dX7_layOutOther_22 : decode cX7_layOutOther 22 = .ok (.invokevirtual 56, 3) := by decide +kernel
theorem dX7_layOutOther_25 : decode cX7_layOutOther 25 = .ok (.if_icmp .ge 34, 3) := by decide +kernel
theorem dX7_layOutOther_28 : decode cX7_layOutOther 28 = .ok (.aload_n 0, 1) := by decide +kernel
theorem dX7_layOutOther_29 : decode cX7_layOutOther 29 = .ok (.getfield 28, 3) := by decide +kernel
theorem dX7_layOutOther_32 : decode cX7_layOutOther 32 = .ok (.aload_n 0, 1) := by decide +kernel
theorem dX7_layOutOther_33 : decode cX7_layOutOther 33 = .ok (.getfield 69, 3) := by decide +kernel
theorem dX7_layOutOther_36 : decode cX7_layOutOther 36 = .ok (.aload_n 0, 1) := by decide +kernel
theorem dX7_layOutOther_37 : decode cX7_layOutOther 37 = .ok (.iload_n 1, 1) := by decide +kernel
theorem dX7_layOutOther_38 : decode cX7_layOutOther 38 = .ok (.iload_n 2, 1) := by decide +kernel
theorem dX7_layOutOther_39 : decode cX7_layOutOther 39 = .ok (.invokevirtual 66, 3) := by decide +kernel
theorem dX7_layOutOther_42 : decode cX7_layOutOther 42 = .ok (.iastore, 1) := by decide +kernel
theorem dX7_layOutOther_43 : decode cX7_layOutOther 43 = .ok (.aload_n 0, 1) := by decide +kernel
theorem dX7_layOutOther_44 : decode cX7_layOutOther 44 = .ok (.dup, 1) := by decide +kernel
theorem dX7_layOutOther_45 : decode cX7_layOutOther 45 = .ok (.getfield 69, 3) := by decide +kernel
theorem dX7_layOutOther_48 : decode cX7_layOutOther 48 = .ok (.iconst 1, 1) := by decide +kernel
theorem dX7_layOutOther_49 : decode cX7_layOutOther 49 = .ok (.iadd, 1) := by decide +kernel
theorem dX7_layOutOther_50 : decode cX7_layOutOther 50 = .ok (.putfield 69, 3) := by decide +kernel
theorem dX7_layOutOther_53 : decode cX7_layOutOther 53 = .ok (.iinc 3 1, 3) := by decide +kernel
theorem dX7_layOutOther_56 : decode cX7_layOutOther 56 = .ok (.goto (-38), 3) := by decide +kernel
theorem dX7_layOutOther_59 : decode cX7_layOutOther 59 = .ok (.iinc 2 1, 3) := by decide +kernel
theorem dX7_layOutOther_62 : decode cX7_layOutOther 62 = .ok (.goto (-55), 3) := by decide +kernel
theorem dX7_layOutOther_65 : decode cX7_layOutOther 65 = .ok (.return_, 1) := by decide +kernel
theorem dX7_runsLaid_0 : decode cX7_runsLaid 0 = .ok (.iconst 0, 1) := by decide +kernel
theorem dX7_runsLaid_1 : decode cX7_runsLaid 1 = .ok (.istore_n 1, 1) := by decide +kernel
theorem dX7_runsLaid_2 : decode cX7_runsLaid 2 = .ok (.iconst 0, 1) := by decide +kernel
theorem dX7_runsLaid_3 : decode cX7_runsLaid 3 = .ok (.istore_n 2, 1) := by decide +kernel
theorem dX7_runsLaid_4 : decode cX7_runsLaid 4 = .ok (.iload_n 2, 1) := by decide +kernel
theorem dX7_runsLaid_5 : decode cX7_runsLaid 5 = .ok (.aload_n 0, 1) := by decide +kernel
theorem dX7_runsLaid_6 : decode cX7_runsLaid 6 = .ok (.getfield 63, 3) := by decide +kernel
theorem dX7_runsLaid_9 : decode cX7_runsLaid 9 = .ok (.if_icmp .ge 38, 3) := by decide +kernel
theorem dX7_runsLaid_12 : decode cX7_runsLaid 12 = .ok (.iload_n 1, 1) := by decide +kernel
theorem dX7_runsLaid_13 : decode cX7_runsLaid 13 = .ok (.iload_n 2, 1) := by decide +kernel
theorem dX7_runsLaid_14 : decode cX7_runsLaid 14 = .ok (.ifCond .eq 20, 3) := by decide +kernel
theorem dX7_runsLaid_17 : decode cX7_runsLaid 17 = .ok (.aload_n 0, 1) := by decide +kernel
theorem dX7_runsLaid_18 : decode cX7_runsLaid 18 = .ok (.getfield 25, 3) := by decide +kernel
theorem dX7_runsLaid_21 : decode cX7_runsLaid 21 = .ok (.iload_n 2, 1) := by decide +kernel
theorem dX7_runsLaid_22 : decode cX7_runsLaid 22 = .ok (.iaload, 1) := by decide +kernel
theorem dX7_runsLaid_23 : decode cX7_runsLaid 23 = .ok (.aload_n 0, 1) := by decide +kernel
theorem dX7_runsLaid_24 : decode cX7_runsLaid 24 = .ok (.getfield 25, 3) := by decide +kernel
theorem dX7_runsLaid_27 : decode cX7_runsLaid 27 = .ok (.iload_n 2, 1) := by decide +kernel
theorem dX7_runsLaid_28 : decode cX7_runsLaid 28 = .ok (.iconst 1, 1) := by decide +kernel
theorem dX7_runsLaid_29 : decode cX7_runsLaid 29 = .ok (.isub, 1) := by decide +kernel
theorem dX7_runsLaid_30 : decode cX7_runsLaid 30 = .ok (.iaload, 1) := by decide +kernel
theorem dX7_runsLaid_31 : decode cX7_runsLaid 31 = .ok (.if_icmp .eq 7, 3) := by decide +kernel
theorem dX7_runsLaid_34 : decode cX7_runsLaid 34 = .ok (.iconst 1, 1) := by decide +kernel
theorem dX7_runsLaid_35 : decode cX7_runsLaid 35 = .ok (.goto 4, 3) := by decide +kernel
theorem dX7_runsLaid_38 : decode cX7_runsLaid 38 = .ok (.iconst 0, 1) := by decide +kernel
theorem dX7_runsLaid_39 : decode cX7_runsLaid 39 = .ok (.iadd, 1) := by decide +kernel
theorem dX7_runsLaid_40 : decode cX7_runsLaid 40 = .ok (.istore_n 1, 1) := by decide +kernel
theorem dX7_runsLaid_41 : decode cX7_runsLaid 41 = .ok (.iinc 2 1, 3) := by decide +kernel
theorem dX7_runsLaid_44 : decode cX7_runsLaid 44 = .ok (.goto (-40), 3) := by decide +kernel
theorem dX7_runsLaid_47 : decode cX7_runsLaid 47 = .ok (.iload_n 1, 1) := by decide +kernel
theorem dX7_runsLaid_48 : decode cX7_runsLaid 48 = .ok (.ireturn, 1) := by decide +kernel
theorem dX7_isTooMany_0 : decode cX7_isTooMany 0 = .ok (.aload_n 0, 1) := by decide +kernel
theorem dX7_isTooMany_1 : decode cX7_isTooMany 1 = .ok (.getfield 63, 3) := by decide +kernel
theorem dX7_isTooMany_4 : decode cX7_isTooMany 4 = .ok (.sipush 999, 3) := by decide +kernel
theorem dX7_isTooMany_7 : decode cX7_isTooMany 7 = .ok (.if_icmp .gt 12, 3) := by decide +kernel
theorem dX7_isTooMany_10 : decode cX7_isTooMany 10 = .ok (.aload_n 0, 1) := by decide +kernel
theorem dX7_isTooMany_11 : decode cX7_isTooMany 11 = .ok (.invokevirtual 72, 3) := by decide +kernel
theorem dX7_isTooMany_14 : decode cX7_isTooMany 14 = .ok (.bipush 40, 2) := by decide +kernel
theorem dX7_isTooMany_16 : decode cX7_isTooMany 16 = .ok (.if_icmp .le 7, 3) := by decide +kernel
theorem dX7_isTooMany_19 : decode cX7_isTooMany 19 = .ok (.iconst 1, 1) := by decide +kernel
theorem dX7_isTooMany_20 : decode cX7_isTooMany 20 = .ok (.goto 4, 3) := by decide +kernel
theorem dX7_isTooMany_23 : decode cX7_isTooMany 23 = .ok (.iconst 0, 1) := by decide +kernel
theorem dX7_isTooMany_24 : decode cX7_isTooMany 24 = .ok (.ireturn, 1) := by decide +kernel
theorem dX7_gets_0 : decode cX7_gets 0 = .ok (.iconst 0, 1) := by decide +kernel
theorem dX7_gets_1 : decode cX7_gets 1 = .ok (.istore_n 2, 1) := by decide +kernel
theorem dX7_gets_2 : decode cX7_gets 2 = .ok (.iconst 0, 1) := by decide +kernel
theorem dX7_gets_3 : decode cX7_gets 3 = .ok (.istore_n 3, 1) := by decide +kernel
theorem dX7_gets_4 : decode cX7_gets 4 = .ok (.iload_n 3, 1) := by decide +kernel
theorem dX7_gets_5 : decode cX7_gets 5 = .ok (.bipush 81, 2) := by decide +kernel
theorem dX7_gets_7 : decode cX7_gets 7 = .ok (.if_icmp .ge 21, 3) := by decide +kernel
theorem dX7_gets_10 : decode cX7_gets 10 = .ok (.aload_n 0, 1) := by decide +kernel
theorem dX7_gets_11 : decode cX7_gets 11 = .ok (.getfield 7, 3) := by decide +kernel
theorem dX7_gets_14 : decode cX7_gets 14 = .ok (.bipush 81, 2) := by decide +kernel
theorem dX7_gets_16 : decode cX7_gets 16 = .ok (.iload_n 1, 1) := by decide +kernel
theorem dX7_gets_17 : decode cX7_gets 17 = .ok (.imul, 1) := by decide +kernel
theorem dX7_gets_18 : decode cX7_gets 18 = .ok (.iload_n 3, 1) := by decide +kernel
theorem dX7_gets_19 : decode cX7_gets 19 = .ok (.iadd, 1) := by decide +kernel
theorem dX7_gets_20 : decode cX7_gets 20 = .ok (.iconst 0, 1) := by decide +kernel
theorem dX7_gets_21 : decode cX7_gets 21 = .ok (.iastore, 1) := by decide +kernel
theorem dX7_gets_22 : decode cX7_gets 22 = .ok (.iinc 3 1, 3) := by decide +kernel
theorem dX7_gets_25 : decode cX7_gets 25 = .ok (.goto (-21), 3) := by decide +kernel
theorem dX7_gets_28 : decode cX7_gets 28 = .ok (.iconst 0, 1) := by decide +kernel
theorem dX7_gets_29 : decode cX7_gets 29 = .ok (.istore_n 3, 1) := by decide +kernel
theorem dX7_gets_30 : decode cX7_gets 30 = .ok (.iload_n 3, 1) := by decide +kernel
theorem dX7_gets_31 : decode cX7_gets 31 = .ok (.aload_n 0, 1) := by decide +kernel
theorem dX7_gets_32 : decode cX7_gets 32 = .ok (.getfield 63, 3) := by decide +kernel
theorem dX7_gets_35 : decode cX7_gets 35 = .ok (.if_icmp .ge 76, 3) := by decide +kernel
theorem dX7_gets_38 : decode cX7_gets 38 = .ok (.iload_n 2, 1) := by decide +kernel
theorem dX7_gets_39 : decode cX7_gets 39 = .ok (.iload_n 3, 1) := by decide +kernel
theorem dX7_gets_40 : decode cX7_gets 40 = .ok (.ifCond .eq 20, 3) := by decide +kernel
theorem dX7_gets_43 : decode cX7_gets 43 = .ok (.aload_n 0, 1) := by decide +kernel
theorem dX7_gets_44 : decode cX7_gets 44 = .ok (.getfield 25, 3) := by decide +kernel
theorem dX7_gets_47 : decode cX7_gets 47 = .ok (.iload_n 3, 1) := by decide +kernel
theorem dX7_gets_48 : decode cX7_gets 48 = .ok (.iaload, 1) := by decide +kernel
theorem dX7_gets_49 : decode cX7_gets 49 = .ok (.aload_n 0, 1) := by decide +kernel
theorem dX7_gets_50 : decode cX7_gets 50 = .ok (.getfield 25, 3) := by decide +kernel
theorem dX7_gets_53 : decode cX7_gets 53 = .ok (.iload_n 3, 1) := by decide +kernel
theorem dX7_gets_54 : decode cX7_gets 54 = .ok (.iconst 1, 1) := by decide +kernel
theorem dX7_gets_55 : decode cX7_gets 55 = .ok (.isub, 1) := by decide +kernel
theorem dX7_gets_56 : decode cX7_gets 56 = .ok (.iaload, 1) := by decide +kernel
theorem dX7_gets_57 : decode cX7_gets 57 = .ok (.if_icmp .eq 7, 3) := by decide +kernel
theorem dX7_gets_60 : decode cX7_gets 60 = .ok (.iconst 1, 1) := by decide +kernel
theorem dX7_gets_61 : decode cX7_gets 61 = .ok (.goto 4, 3) := by decide +kernel
theorem dX7_gets_64 : decode cX7_gets 64 = .ok (.iconst 0, 1) := by decide +kernel
theorem dX7_gets_65 : decode cX7_gets 65 = .ok (.iadd, 1) := by decide +kernel
theorem dX7_gets_66 : decode cX7_gets 66 = .ok (.istore_n 2, 1) := by decide +kernel
theorem dX7_gets_67 : decode cX7_gets 67 = .ok (.aload_n 0, 1) := by decide +kernel
theorem dX7_gets_68 : decode cX7_gets 68 = .ok (.getfield 7, 3) := by decide +kernel
theorem dX7_gets_71 : decode cX7_gets 71 = .ok (.bipush 81, 2) := by decide +kernel
theorem dX7_gets_73 : decode cX7_gets 73 = .ok (.iload_n 1, 1) := by decide +kernel
theorem dX7_gets_74 : decode cX7_gets 74 = .ok (.imul, 1) := by decide +kernel
theorem dX7_gets_75 : decode cX7_gets 75 = .ok (.iconst 2, 1) := by decide +kernel
theorem dX7_gets_76 : decode cX7_gets 76 = .ok (.iload_n 2, 1) := by decide +kernel
theorem dX7_gets_77 : decode cX7_gets 77 = .ok (.imul, 1) := by decide +kernel
theorem dX7_gets_78 : decode cX7_gets 78 = .ok (.iadd, 1) := by decide +kernel
theorem dX7_gets_79 : decode cX7_gets 79 = .ok (.iconst 1, 1) := by decide +kernel
theorem dX7_gets_80 : decode cX7_gets 80 = .ok (.isub, 1) := by decide +kernel
theorem dX7_gets_81 : decode cX7_gets 81 = .ok (.aload_n 0, 1) := by decide +kernel
theorem dX7_gets_82 : decode cX7_gets 82 = .ok (.getfield 25, 3) := by decide +kernel
theorem dX7_gets_85 : decode cX7_gets 85 = .ok (.iload_n 3, 1) := by decide +kernel
theorem dX7_gets_86 : decode cX7_gets 86 = .ok (.iaload, 1) := by decide +kernel
theorem dX7_gets_87 : decode cX7_gets 87 = .ok (.iastore, 1) := by decide +kernel
theorem dX7_gets_88 : decode cX7_gets 88 = .ok (.aload_n 0, 1) := by decide +kernel
theorem dX7_gets_89 : decode cX7_gets 89 = .ok (.getfield 7, 3) := by decide +kernel
theorem dX7_gets_92 : decode cX7_gets 92 = .ok (.bipush 81, 2) := by decide +kernel
theorem dX7_gets_94 : decode cX7_gets 94 = .ok (.iload_n 1, 1) := by decide +kernel
theorem dX7_gets_95 : decode cX7_gets 95 = .ok (.imul, 1) := by decide +kernel
theorem dX7_gets_96 : decode cX7_gets 96 = .ok (.iconst 2, 1) := by decide +kernel
theorem dX7_gets_97 : decode cX7_gets 97 = .ok (.iload_n 2, 1) := by decide +kernel
theorem dX7_gets_98 : decode cX7_gets 98 = .ok (.imul, 1) := by decide +kernel
theorem dX7_gets_99 : decode cX7_gets 99 = .ok (.iadd, 1) := by decide +kernel
theorem dX7_gets_100 : decode cX7_gets 100 = .ok (.dup2, 1) := by decide +kernel
theorem dX7_gets_101 : decode cX7_gets 101 = .ok (.iaload, 1) := by decide +kernel
theorem dX7_gets_102 : decode cX7_gets 102 = .ok (.iconst 1, 1) := by decide +kernel
theorem dX7_gets_103 : decode cX7_gets 103 = .ok (.iadd, 1) := by decide +kernel
theorem dX7_gets_104 : decode cX7_gets 104 = .ok (.iastore, 1) := by decide +kernel
theorem dX7_gets_105 : decode cX7_gets 105 = .ok (.iinc 3 1, 3) := by decide +kernel
theorem dX7_gets_108 : decode cX7_gets 108 = .ok (.goto (-78), 3) := by decide +kernel
theorem dX7_gets_111 : decode cX7_gets 111 = .ok (.aload_n 0, 1) := by decide +kernel
theorem dX7_gets_112 : decode cX7_gets 112 = .ok (.getfield 7, 3) := by decide +kernel
theorem dX7_gets_115 : decode cX7_gets 115 = .ok (.bipush 81, 2) := by decide +kernel
theorem dX7_gets_117 : decode cX7_gets 117 = .ok (.iload_n 1, 1) := by decide +kernel
theorem dX7_gets_118 : decode cX7_gets 118 = .ok (.imul, 1) := by decide +kernel
theorem dX7_gets_119 : decode cX7_gets 119 = .ok (.iload_n 2, 1) := by decide +kernel
theorem dX7_gets_120 : decode cX7_gets 120 = .ok (.iastore, 1) := by decide +kernel
theorem dX7_gets_121 : decode cX7_gets 121 = .ok (.return_, 1) := by decide +kernel
theorem dX7_putIn_0 : decode cX7_putIn 0 = .ok (.aload_n 0, 1) := by decide +kernel
theorem dX7_putIn_1 : decode cX7_putIn 1 = .ok (.getfield 63, 3) := by decide +kernel
theorem dX7_putIn_4 : decode cX7_putIn 4 = .ok (.iconst 1, 1) := by decide +kernel
theorem dX7_putIn_5 : decode cX7_putIn 5 = .ok (.isub, 1) := by decide +kernel
theorem dX7_putIn_6 : decode cX7_putIn 6 = .ok (.istore 4, 2) := by decide +kernel
theorem dX7_putIn_8 : decode cX7_putIn 8 = .ok (.iload 4, 2) := by decide +kernel
theorem dX7_putIn_10 : decode cX7_putIn 10 = .ok (.iload_n 1, 1) := by decide +kernel
theorem dX7_putIn_11 : decode cX7_putIn 11 = .ok (.if_icmp .lt 25, 3) := by decide +kernel
theorem dX7_putIn_14 : decode cX7_putIn 14 = .ok (.aload_n 0, 1) := by decide +kernel
theorem dX7_putIn_15 : decode cX7_putIn 15 = .ok (.getfield 25, 3) := by decide +kernel
theorem dX7_putIn_18 : decode cX7_putIn 18 = .ok (.iload 4, 2) := by decide +kernel
theorem dX7_putIn_20 : decode cX7_putIn 20 = .ok (.iload_n 3, 1) := by decide +kernel
theorem dX7_putIn_21 : decode cX7_putIn 21 = .ok (.iadd, 1) := by decide +kernel
theorem dX7_putIn_22 : decode cX7_putIn 22 = .ok (.aload_n 0, 1) := by decide +kernel
theorem dX7_putIn_23 : decode cX7_putIn 23 = .ok (.getfield 25, 3) := by decide +kernel
theorem dX7_putIn_26 : decode cX7_putIn 26 = .ok (.iload 4, 2) := by decide +kernel
theorem dX7_putIn_28 : decode cX7_putIn 28 = .ok (.iaload, 1) := by decide +kernel
theorem dX7_putIn_29 : decode cX7_putIn 29 = .ok (.iastore, 1) := by decide +kernel
theorem dX7_putIn_30 : decode cX7_putIn 30 = .ok (.iinc 4 (-1), 3) := by decide +kernel
theorem dX7_putIn_33 : decode cX7_putIn 33 = .ok (.goto (-25), 3) := by decide +kernel
theorem dX7_putIn_36 : decode cX7_putIn 36 = .ok (.iconst 0, 1) := by decide +kernel
theorem dX7_putIn_37 : decode cX7_putIn 37 = .ok (.istore 4, 2) := by decide +kernel
theorem dX7_putIn_39 : decode cX7_putIn 39 = .ok (.iload 4, 2) := by decide +kernel
theorem dX7_putIn_41 : decode cX7_putIn 41 = .ok (.iload_n 3, 1) := by decide +kernel
theorem dX7_putIn_42 : decode cX7_putIn 42 = .ok (.if_icmp .ge 19, 3) := by decide +kernel
theorem dX7_putIn_45 : decode cX7_putIn 45 = .ok (.aload_n 0, 1) := by decide +kernel
theorem dX7_putIn_46 : decode cX7_putIn 46 = .ok (.getfield 25, 3) := by decide +kernel
theorem dX7_putIn_49 : decode cX7_putIn 49 = .ok (.iload_n 1, 1) := by decide +kernel
theorem dX7_putIn_50 : decode cX7_putIn 50 = .ok (.iload 4, 2) := by decide +kernel
theorem dX7_putIn_52 : decode cX7_putIn 52 = .ok (.iadd, 1) := by decide +kernel
theorem dX7_putIn_53 : decode cX7_putIn 53 = .ok (.iload_n 2, 1) := by decide +kernel
theorem dX7_putIn_54 : decode cX7_putIn 54 = .ok (.iastore, 1) := by decide +kernel
theorem dX7_putIn_55 : decode cX7_putIn 55 = .ok (.iinc 4 1, 3) := by decide +kernel
theorem dX7_putIn_58 : decode cX7_putIn 58 = .ok (.goto (-19), 3) := by decide +kernel
theorem dX7_putIn_61 : decode cX7_putIn 61 = .ok (.aload_n 0, 1) := by decide +kernel
theorem dX7_putIn_62 : decode cX7_putIn 62 = .ok (.dup, 1) := by decide +kernel
theorem dX7_putIn_63 : decode cX7_putIn 63 = .ok (.getfield 63, 3) := by decide +kernel
theorem dX7_putIn_66 : decode cX7_putIn 66 = .ok (.iload_n 3, 1) := by decide +kernel
theorem dX7_putIn_67 : decode cX7_putIn 67 = .ok (.iadd, 1) := by decide +kernel
theorem dX7_putIn_68 : decode cX7_putIn 68 = .ok (.putfield 63, 3) := by decide +kernel
theorem dX7_putIn_71 : decode cX7_putIn 71 = .ok (.return_, 1) := by decide +kernel
theorem dX7_append_0 : decode cX7_append 0 = .ok (.iload_n 1, 1) := by decide +kernel
theorem dX7_append_1 : decode cX7_append 1 = .ok (.invokestatic 76, 3) := by decide +kernel
theorem dX7_append_4 : decode cX7_append 4 = .ok (.ifCond .ne 5, 3) := by decide +kernel
theorem dX7_append_7 : decode cX7_append 7 = .ok (.iconst (-1), 1) := by decide +kernel
theorem dX7_append_8 : decode cX7_append 8 = .ok (.ireturn, 1) := by decide +kernel
theorem dX7_append_9 : decode cX7_append 9 = .ok (.iload_n 2, 1) := by decide +kernel
theorem dX7_append_10 : decode cX7_append 10 = .ok (.invokestatic 80, 3) := by decide +kernel
theorem dX7_append_13 : decode cX7_append 13 = .ok (.ifCond .eq 14, 3) := by decide +kernel
theorem dX7_append_16 : decode cX7_append 16 = .ok (.iload_n 3, 1) := by decide +kernel
theorem dX7_append_17 : decode cX7_append 17 = .ok (.iconst 1, 1) := by decide +kernel
theorem dX7_append_18 : decode cX7_append 18 = .ok (.sipush 999, 3) := by decide +kernel
theorem dX7_append_21 : decode cX7_append 21 = .ok (.invokestatic 48, 3) := by decide +kernel
theorem dX7_append_24 : decode cX7_append 24 = .ok (.ifCond .ne 6, 3) := by decide +kernel
theorem dX7_append_27 : decode cX7_append 27 = .ok (.bipush (-2), 2) := by decide +kernel
theorem dX7_append_29 : decode cX7_append 29 = .ok (.ireturn, 1) := by decide +kernel
theorem dX7_append_30 : decode cX7_append 30 = .ok (.aload_n 0, 1) := by decide +kernel
theorem dX7_append_31 : decode cX7_append 31 = .ok (.iload_n 1, 1) := by decide +kernel
theorem dX7_append_32 : decode cX7_append 32 = .ok (.invokevirtual 83, 3) := by decide +kernel
theorem dX7_append_35 : decode cX7_append 35 = .ok (.aload_n 0, 1) := by decide +kernel
theorem dX7_append_36 : decode cX7_append 36 = .ok (.aload_n 0, 1) := by decide +kernel
theorem dX7_append_37 : decode cX7_append 37 = .ok (.getfield 63, 3) := by decide +kernel
theorem dX7_append_40 : decode cX7_append 40 = .ok (.iload_n 2, 1) := by decide +kernel
theorem dX7_append_41 : decode cX7_append 41 = .ok (.iload_n 3, 1) := by decide +kernel
theorem dX7_append_42 : decode cX7_append 42 = .ok (.invokevirtual 87, 3) := by decide +kernel
theorem dX7_append_45 : decode cX7_append 45 = .ok (.aload_n 0, 1) := by decide +kernel
theorem dX7_append_46 : decode cX7_append 46 = .ok (.invokevirtual 91, 3) := by decide +kernel
theorem dX7_append_49 : decode cX7_append 49 = .ok (.ifCond .eq 6, 3) := by decide +kernel
theorem dX7_append_52 : decode cX7_append 52 = .ok (.bipush (-4), 2) := by decide +kernel
theorem dX7_append_54 : decode cX7_append 54 = .ok (.ireturn, 1) := by decide +kernel
theorem dX7_append_55 : decode cX7_append 55 = .ok (.aload_n 0, 1) := by decide +kernel
theorem dX7_append_56 : decode cX7_append 56 = .ok (.invokevirtual 95, 3) := by decide +kernel
theorem dX7_append_59 : decode cX7_append 59 = .ok (.aload_n 0, 1) := by decide +kernel
theorem dX7_append_60 : decode cX7_append 60 = .ok (.iload_n 1, 1) := by decide +kernel
theorem dX7_append_61 : decode cX7_append 61 = .ok (.invokevirtual 98, 3) := by decide +kernel
theorem dX7_append_64 : decode cX7_append 64 = .ok (.aload_n 0, 1) := by decide +kernel
theorem dX7_append_65 : decode cX7_append 65 = .ok (.getfield 63, 3) := by decide +kernel
theorem dX7_append_68 : decode cX7_append 68 = .ok (.ireturn, 1) := by decide +kernel
theorem dX7_insert_0 : decode cX7_insert 0 = .ok (.iload_n 1, 1) := by decide +kernel
theorem dX7_insert_1 : decode cX7_insert 1 = .ok (.invokestatic 76, 3) := by decide +kernel
theorem dX7_insert_4 : decode cX7_insert 4 = .ok (.ifCond .ne 5, 3) := by decide +kernel
theorem dX7_insert_7 : decode cX7_insert 7 = .ok (.iconst (-1), 1) := by decide +kernel
theorem dX7_insert_8 : decode cX7_insert 8 = .ok (.ireturn, 1) := by decide +kernel
theorem dX7_insert_9 : decode cX7_insert 9 = .ok (.iload_n 2, 1) := by decide +kernel
theorem dX7_insert_10 : decode cX7_insert 10 = .ok (.iconst 0, 1) := by decide +kernel
theorem dX7_insert_11 : decode cX7_insert 11 = .ok (.aload_n 0, 1) := by decide +kernel
theorem dX7_insert_12 : decode cX7_insert 12 = .ok (.iload_n 1, 1) := by decide +kernel
theorem dX7_insert_13 : decode cX7_insert 13 = .ok (.invokevirtual 60, 3) := by decide +kernel
theorem dX7_insert_16 : decode cX7_insert 16 = .ok (.invokestatic 48, 3) := by decide +kernel
theorem dX7_insert_19 : decode cX7_insert 19 = .ok (.ifCond .eq 22, 3) := by decide +kernel
theorem dX7_insert_22 : decode cX7_insert 22 = .ok (.iload_n 3, 1) := by decide +kernel
theorem dX7_insert_23 : decode cX7_insert 23 = .ok (.invokestatic 80, 3) := by decide +kernel
theorem dX7_insert_26 : decode cX7_insert 26 = .ok (.ifCond .eq 15, 3) := by decide +kernel
theorem dX7_insert_29 : decode cX7_insert 29 = .ok (.iload 4, 2) := by decide +kernel
theorem dX7_insert_31 : decode cX7_insert 31 = .ok (.iconst 1, 1) := by decide +kernel
theorem dX7_insert_32 : decode cX7_insert 32 = .ok (.sipush 999, 3) := by decide +kernel
theorem dX7_insert_35 : decode cX7_insert 35 = .ok (.invokestatic 48, 3) := by decide +kernel
theorem dX7_insert_38 : decode cX7_insert 38 = .ok (.ifCond .ne 6, 3) := by decide +kernel
theorem dX7_insert_41 : decode cX7_insert 41 = .ok (.bipush (-2), 2) := by decide +kernel
theorem dX7_insert_43 : decode cX7_insert 43 = .ok (.ireturn, 1) := by decide +kernel
theorem dX7_insert_44 : decode cX7_insert 44 = .ok (.aload_n 0, 1) := by decide +kernel
theorem dX7_insert_45 : decode cX7_insert 45 = .ok (.iload_n 1, 1) := by decide +kernel
theorem dX7_insert_46 : decode cX7_insert 46 = .ok (.invokevirtual 83, 3) := by decide +kernel
theorem dX7_insert_49 : decode cX7_insert 49 = .ok (.aload_n 0, 1) := by decide +kernel
theorem dX7_insert_50 : decode cX7_insert 50 = .ok (.iload_n 2, 1) := by decide +kernel
theorem dX7_insert_51 : decode cX7_insert 51 = .ok (.iload_n 3, 1) := by decide +kernel
theorem dX7_insert_52 : decode cX7_insert 52 = .ok (.iload 4, 2) := by decide +kernel
theorem dX7_insert_54 : decode cX7_insert 54 = .ok (.invokevirtual 87, 3) := by decide +kernel
theorem dX7_insert_57 : decode cX7_insert 57 = .ok (.aload_n 0, 1) := by decide +kernel
theorem dX7_insert_58 : decode cX7_insert 58 = .ok (.invokevirtual 91, 3) := by decide +kernel
theorem dX7_insert_61 : decode cX7_insert 61 = .ok (.ifCond .eq 6, 3) := by decide +kernel
theorem dX7_insert_64 : decode cX7_insert 64 = .ok (.bipush (-4), 2) := by decide +kernel
theorem dX7_insert_66 : decode cX7_insert 66 = .ok (.ireturn, 1) := by decide +kernel
theorem dX7_insert_67 : decode cX7_insert 67 = .ok (.aload_n 0, 1) := by decide +kernel
theorem dX7_insert_68 : decode cX7_insert 68 = .ok (.invokevirtual 95, 3) := by decide +kernel
theorem dX7_insert_71 : decode cX7_insert 71 = .ok (.aload_n 0, 1) := by decide +kernel
theorem dX7_insert_72 : decode cX7_insert 72 = .ok (.iload_n 1, 1) := by decide +kernel
theorem dX7_insert_73 : decode cX7_insert 73 = .ok (.invokevirtual 98, 3) := by decide +kernel
theorem dX7_insert_76 : decode cX7_insert 76 = .ok (.aload_n 0, 1) := by decide +kernel
theorem dX7_insert_77 : decode cX7_insert 77 = .ok (.iload_n 1, 1) := by decide +kernel
theorem dX7_insert_78 : decode cX7_insert 78 = .ok (.invokevirtual 52, 3) := by decide +kernel
theorem dX7_insert_81 : decode cX7_insert 81 = .ok (.ireturn, 1) := by decide +kernel
theorem dX7_whyNotRemoved_0 : decode cX7_whyNotRemoved 0 = .ok (.iload_n 1, 1) := by decide +kernel
theorem dX7_whyNotRemoved_1 : decode cX7_whyNotRemoved 1 = .ok (.invokestatic 76, 3) := by decide +kernel
theorem dX7_whyNotRemoved_4 : decode cX7_whyNotRemoved 4 = .ok (.ifCond .eq 12, 3) := by decide +kernel
theorem dX7_whyNotRemoved_7 : decode cX7_whyNotRemoved 7 = .ok (.aload_n 0, 1) := by decide +kernel
theorem dX7_whyNotRemoved_8 : decode cX7_whyNotRemoved 8 = .ok (.iload_n 1, 1) := by decide +kernel
theorem dX7_whyNotRemoved_9 : decode cX7_whyNotRemoved 9 = .ok (.iload_n 2, 1) := by decide +kernel
theorem dX7_whyNotRemoved_10 : decode cX7_whyNotRemoved 10 = .ok (.invokevirtual 101, 3) := by decide +kernel
theorem dX7_whyNotRemoved_13 : decode cX7_whyNotRemoved 13 = .ok (.ifCond .ne 5, 3) := by decide +kernel
theorem dX7_whyNotRemoved_16 : decode cX7_whyNotRemoved 16 = .ok (.iconst (-1), 1) := by decide +kernel
theorem dX7_whyNotRemoved_17 : decode cX7_whyNotRemoved 17 = .ok (.ireturn, 1) := by decide +kernel
theorem dX7_whyNotRemoved_18 : decode cX7_whyNotRemoved 18 = .ok (.iload_n 3, 1) := by decide +kernel
theorem dX7_whyNotRemoved_19 : decode cX7_whyNotRemoved 19 = .ok (.iconst 1, 1) := by decide +kernel
theorem dX7_whyNotRemoved_20 : decode cX7_whyNotRemoved 20 = .ok (.if_icmp .ge 8, 3) := by decide +kernel
theorem dX7_whyNotRemoved_23 : decode cX7_whyNotRemoved 23 = .ok (.bipush (-2), 2) := by decide +kernel
theorem dX7_whyNotRemoved_25 : decode cX7_whyNotRemoved 25 = .ok (.goto 20, 3) := by decide +kernel
theorem dX7_whyNotRemoved_28 : decode cX7_whyNotRemoved 28 = .ok (.iload_n 3, 1) := by decide +kernel
theorem dX7_whyNotRemoved_29 : decode cX7_whyNotRemoved 29 = .ok (.aload_n 0, 1) := by decide +kernel
theorem dX7_whyNotRemoved_30 : decode cX7_whyNotRemoved 30 = .ok (.iload_n 1, 1) := by decide +kernel
theorem dX7_whyNotRemoved_31 : decode cX7_whyNotRemoved 31 = .ok (.invokevirtual 60, 3) := by decide +kernel
theorem dX7_whyNotRemoved_34 : decode cX7_whyNotRemoved 34 = .ok (.iload_n 2, 1) := by decide +kernel
theorem dX7_whyNotRemoved_35 : decode cX7_whyNotRemoved 35 = .ok (.isub, 1) := by decide +kernel
theorem dX7_whyNotRemoved_36 : decode cX7_whyNotRemoved 36 = .ok (.if_icmp .le 8, 3) := by decide +kernel
theorem dX7_whyNotRemoved_39 : decode cX7_whyNotRemoved 39 = .ok (.bipush (-5), 2) := by decide +kernel
theorem dX7_whyNotRemoved_41 : decode cX7_whyNotRemoved 41 = .ok (.goto 4, 3) := by decide +kernel
theorem dX7_whyNotRemoved_44 : decode cX7_whyNotRemoved 44 = .ok (.iconst 0, 1) := by decide +kernel
theorem dX7_whyNotRemoved_45 : decode cX7_whyNotRemoved 45 = .ok (.ireturn, 1) := by decide +kernel
theorem dX7_removes_0 : decode cX7_removes 0 = .ok (.aload_n 0, 1) := by decide +kernel
theorem dX7_removes_1 : decode cX7_removes 1 = .ok (.iload_n 1, 1) := by decide +kernel
theorem dX7_removes_2 : decode cX7_removes 2 = .ok (.invokevirtual 83, 3) := by decide +kernel
theorem dX7_removes_5 : decode cX7_removes 5 = .ok (.aload_n 0, 1) := by decide +kernel
theorem dX7_removes_6 : decode cX7_removes 6 = .ok (.dup, 1) := by decide +kernel
theorem dX7_removes_7 : decode cX7_removes 7 = .ok (.getfield 63, 3) := by decide +kernel
theorem dX7_removes_10 : decode cX7_removes 10 = .ok (.iload_n 3, 1) := by decide +kernel
theorem dX7_removes_11 : decode cX7_removes 11 = .ok (.isub, 1) := by decide +kernel
theorem dX7_removes_12 : decode cX7_removes 12 = .ok (.putfield 63, 3) := by decide +kernel
theorem dX7_removes_15 : decode cX7_removes 15 = .ok (.iload_n 2, 1) := by decide +kernel
theorem dX7_removes_16 : decode cX7_removes 16 = .ok (.istore 4, 2) := by decide +kernel
theorem dX7_removes_18 : decode cX7_removes 18 = .ok (.iload 4, 2) := by decide +kernel
theorem dX7_removes_20 : decode cX7_removes 20 = .ok (.aload_n 0, 1) := by decide +kernel
theorem dX7_removes_21 : decode cX7_removes 21 = .ok (.getfield 63, 3) := by decide +kernel
theorem dX7_removes_24 : decode cX7_removes 24 = .ok (.if_icmp .ge 25, 3) := by decide +kernel
theorem dX7_removes_27 : decode cX7_removes 27 = .ok (.aload_n 0, 1) := by decide +kernel
theorem dX7_removes_28 : decode cX7_removes 28 = .ok (.getfield 25, 3) := by decide +kernel
theorem dX7_removes_31 : decode cX7_removes 31 = .ok (.iload 4, 2) := by decide +kernel
theorem dX7_removes_33 : decode cX7_removes 33 = .ok (.aload_n 0, 1) := by decide +kernel
theorem dX7_removes_34 : decode cX7_removes 34 = .ok (.getfield 25, 3) := by decide +kernel
theorem dX7_removes_37 : decode cX7_removes 37 = .ok (.iload 4, 2) := by decide +kernel
theorem dX7_removes_39 : decode cX7_removes 39 = .ok (.iload_n 3, 1) := by decide +kernel
theorem dX7_removes_40 : decode cX7_removes 40 = .ok (.iadd, 1) := by decide +kernel
theorem dX7_removes_41 : decode cX7_removes 41 = .ok (.iaload, 1) := by decide +kernel
theorem dX7_removes_42 : decode cX7_removes 42 = .ok (.iastore, 1) := by decide +kernel
theorem dX7_removes_43 : decode cX7_removes 43 = .ok (.iinc 4 1, 3) := by decide +kernel
theorem dX7_removes_46 : decode cX7_removes 46 = .ok (.goto (-28), 3) := by decide +kernel
theorem dX7_removes_49 : decode cX7_removes 49 = .ok (.aload_n 0, 1) := by decide +kernel
theorem dX7_removes_50 : decode cX7_removes 50 = .ok (.iload_n 1, 1) := by decide +kernel
theorem dX7_removes_51 : decode cX7_removes 51 = .ok (.invokevirtual 98, 3) := by decide +kernel
theorem dX7_removes_54 : decode cX7_removes 54 = .ok (.aload_n 0, 1) := by decide +kernel
theorem dX7_removes_55 : decode cX7_removes 55 = .ok (.iload_n 1, 1) := by decide +kernel
theorem dX7_removes_56 : decode cX7_removes 56 = .ok (.invokevirtual 52, 3) := by decide +kernel
theorem dX7_removes_59 : decode cX7_removes 59 = .ok (.ireturn, 1) := by decide +kernel
theorem dX7_remove_0 : decode cX7_remove 0 = .ok (.aload_n 0, 1) := by decide +kernel
theorem dX7_remove_1 : decode cX7_remove 1 = .ok (.iload_n 1, 1) := by decide +kernel
theorem dX7_remove_2 : decode cX7_remove 2 = .ok (.iload_n 2, 1) := by decide +kernel
theorem dX7_remove_3 : decode cX7_remove 3 = .ok (.iload_n 3, 1) := by decide +kernel
theorem dX7_remove_4 : decode cX7_remove 4 = .ok (.invokevirtual 105, 3) := by decide +kernel
theorem dX7_remove_7 : decode cX7_remove 7 = .ok (.istore 4, 2) := by decide +kernel
theorem dX7_remove_9 : decode cX7_remove 9 = .ok (.iload 4, 2) := by decide +kernel
theorem dX7_remove_11 : decode cX7_remove 11 = .ok (.ifCond .ge 6, 3) := by decide +kernel
theorem dX7_remove_14 : decode cX7_remove 14 = .ok (.iload 4, 2) := by decide +kernel
theorem dX7_remove_16 : decode cX7_remove 16 = .ok (.ireturn, 1) := by decide +kernel
theorem dX7_remove_17 : decode cX7_remove 17 = .ok (.aload_n 0, 1) := by decide +kernel
theorem dX7_remove_18 : decode cX7_remove 18 = .ok (.invokevirtual 95, 3) := by decide +kernel
theorem dX7_remove_21 : decode cX7_remove 21 = .ok (.aload_n 0, 1) := by decide +kernel
theorem dX7_remove_22 : decode cX7_remove 22 = .ok (.iload_n 1, 1) := by decide +kernel
theorem dX7_remove_23 : decode cX7_remove 23 = .ok (.iload_n 2, 1) := by decide +kernel
theorem dX7_remove_24 : decode cX7_remove 24 = .ok (.iload_n 3, 1) := by decide +kernel
theorem dX7_remove_25 : decode cX7_remove 25 = .ok (.invokevirtual 109, 3) := by decide +kernel
theorem dX7_remove_28 : decode cX7_remove 28 = .ok (.ireturn, 1) := by decide +kernel
theorem dX7_whyNotSet_0 : decode cX7_whyNotSet 0 = .ok (.iload_n 1, 1) := by decide +kernel
theorem dX7_whyNotSet_1 : decode cX7_whyNotSet 1 = .ok (.invokestatic 76, 3) := by decide +kernel
theorem dX7_whyNotSet_4 : decode cX7_whyNotSet 4 = .ok (.ifCond .eq 12, 3) := by decide +kernel
theorem dX7_whyNotSet_7 : decode cX7_whyNotSet 7 = .ok (.aload_n 0, 1) := by decide +kernel
theorem dX7_whyNotSet_8 : decode cX7_whyNotSet 8 = .ok (.iload_n 1, 1) := by decide +kernel
theorem dX7_whyNotSet_9 : decode cX7_whyNotSet 9 = .ok (.iload_n 2, 1) := by decide +kernel
theorem dX7_whyNotSet_10 : decode cX7_whyNotSet 10 = .ok (.invokevirtual 101, 3) := by decide +kernel
theorem dX7_whyNotSet_13 : decode cX7_whyNotSet 13 = .ok (.ifCond .ne 5, 3) := by decide +kernel
theorem dX7_whyNotSet_16 : decode cX7_whyNotSet 16 = .ok (.iconst (-1), 1) := by decide +kernel
theorem dX7_whyNotSet_17 : decode cX7_whyNotSet 17 = .ok (.ireturn, 1) := by decide +kernel
theorem dX7_whyNotSet_18 : decode cX7_whyNotSet 18 = .ok (.iload_n 3, 1) := by decide +kernel
theorem dX7_whyNotSet_19 : decode cX7_whyNotSet 19 = .ok (.invokestatic 80, 3) := by decide +kernel
theorem dX7_whyNotSet_22 : decode cX7_whyNotSet 22 = .ok (.ifCond .ne 6, 3) := by decide +kernel
theorem dX7_whyNotSet_25 : decode cX7_whyNotSet 25 = .ok (.bipush (-2), 2) := by decide +kernel
theorem dX7_whyNotSet_27 : decode cX7_whyNotSet 27 = .ok (.ireturn, 1) := by decide +kernel
theorem dX7_whyNotSet_28 : decode cX7_whyNotSet 28 = .ok (.aload_n 0, 1) := by decide +kernel
theorem dX7_whyNotSet_29 : decode cX7_whyNotSet 29 = .ok (.iload_n 1, 1) := by decide +kernel
theorem dX7_whyNotSet_30 : decode cX7_whyNotSet 30 = .ok (.invokevirtual 83, 3) := by decide +kernel
theorem dX7_whyNotSet_33 : decode cX7_whyNotSet 33 = .ok (.aload_n 0, 1) := by decide +kernel
theorem dX7_whyNotSet_34 : decode cX7_whyNotSet 34 = .ok (.getfield 25, 3) := by decide +kernel
theorem dX7_whyNotSet_37 : decode cX7_whyNotSet 37 = .ok (.iload_n 2, 1) := by decide +kernel
theorem dX7_whyNotSet_38 : decode cX7_whyNotSet 38 = .ok (.iload_n 3, 1) := by decide +kernel
theorem dX7_whyNotSet_39 : decode cX7_whyNotSet 39 = .ok (.iastore, 1) := by decide +kernel
theorem dX7_whyNotSet_40 : decode cX7_whyNotSet 40 = .ok (.aload_n 0, 1) := by decide +kernel
theorem dX7_whyNotSet_41 : decode cX7_whyNotSet 41 = .ok (.invokevirtual 91, 3) := by decide +kernel
theorem dX7_whyNotSet_44 : decode cX7_whyNotSet 44 = .ok (.ifCond .eq 8, 3) := by decide +kernel
theorem dX7_whyNotSet_47 : decode cX7_whyNotSet 47 = .ok (.bipush (-4), 2) := by decide +kernel
theorem dX7_whyNotSet_49 : decode cX7_whyNotSet 49 = .ok (.goto 4, 3) := by decide +kernel
theorem dX7_whyNotSet_52 : decode cX7_whyNotSet 52 = .ok (.iconst 0, 1) := by decide +kernel
theorem dX7_whyNotSet_53 : decode cX7_whyNotSet 53 = .ok (.ireturn, 1) := by decide +kernel
theorem dX7_set_0 : decode cX7_set 0 = .ok (.aload_n 0, 1) := by decide +kernel
theorem dX7_set_1 : decode cX7_set 1 = .ok (.iload_n 1, 1) := by decide +kernel
theorem dX7_set_2 : decode cX7_set 2 = .ok (.iload_n 2, 1) := by decide +kernel
theorem dX7_set_3 : decode cX7_set 3 = .ok (.iload_n 3, 1) := by decide +kernel
theorem dX7_set_4 : decode cX7_set 4 = .ok (.invokevirtual 112, 3) := by decide +kernel
theorem dX7_set_7 : decode cX7_set 7 = .ok (.istore 4, 2) := by decide +kernel
theorem dX7_set_9 : decode cX7_set 9 = .ok (.iload 4, 2) := by decide +kernel
theorem dX7_set_11 : decode cX7_set 11 = .ok (.ifCond .ge 6, 3) := by decide +kernel
theorem dX7_set_14 : decode cX7_set 14 = .ok (.iload 4, 2) := by decide +kernel
theorem dX7_set_16 : decode cX7_set 16 = .ok (.ireturn, 1) := by decide +kernel
theorem dX7_set_17 : decode cX7_set 17 = .ok (.aload_n 0, 1) := by decide +kernel
theorem dX7_set_18 : decode cX7_set 18 = .ok (.invokevirtual 95, 3) := by decide +kernel
theorem dX7_set_21 : decode cX7_set 21 = .ok (.aload_n 0, 1) := by decide +kernel
theorem dX7_set_22 : decode cX7_set 22 = .ok (.iload_n 1, 1) := by decide +kernel
theorem dX7_set_23 : decode cX7_set 23 = .ok (.iload_n 2, 1) := by decide +kernel
theorem dX7_set_24 : decode cX7_set 24 = .ok (.invokevirtual 115, 3) := by decide +kernel
theorem dX7_set_27 : decode cX7_set 27 = .ok (.istore 5, 2) := by decide +kernel
theorem dX7_set_29 : decode cX7_set 29 = .ok (.aload_n 0, 1) := by decide +kernel
theorem dX7_set_30 : decode cX7_set 30 = .ok (.iload_n 1, 1) := by decide +kernel
theorem dX7_set_31 : decode cX7_set 31 = .ok (.invokevirtual 98, 3) := by decide +kernel
theorem dX7_set_34 : decode cX7_set 34 = .ok (.iload 5, 2) := by decide +kernel
theorem dX7_set_36 : decode cX7_set 36 = .ok (.ireturn, 1) := by decide +kernel
theorem dX7_sorts_0 : decode cX7_sorts 0 = .ok (.aload_n 0, 1) := by decide +kernel
theorem dX7_sorts_1 : decode cX7_sorts 1 = .ok (.iload_n 1, 1) := by decide +kernel
theorem dX7_sorts_2 : decode cX7_sorts 2 = .ok (.invokevirtual 118, 3) := by decide +kernel
theorem dX7_sorts_5 : decode cX7_sorts 5 = .ok (.aload_n 0, 1) := by decide +kernel
theorem dX7_sorts_6 : decode cX7_sorts 6 = .ok (.iconst 0, 1) := by decide +kernel
theorem dX7_sorts_7 : decode cX7_sorts 7 = .ok (.putfield 63, 3) := by decide +kernel
theorem dX7_sorts_10 : decode cX7_sorts 10 = .ok (.iconst 0, 1) := by decide +kernel
theorem dX7_sorts_11 : decode cX7_sorts 11 = .ok (.istore_n 2, 1) := by decide +kernel
theorem dX7_sorts_12 : decode cX7_sorts 12 = .ok (.iload_n 2, 1) := by decide +kernel
theorem dX7_sorts_13 : decode cX7_sorts 13 = .ok (.bipush 10, 2) := by decide +kernel
theorem dX7_sorts_15 : decode cX7_sorts 15 = .ok (.if_icmp .ge 55, 3) := by decide +kernel
theorem dX7_sorts_18 : decode cX7_sorts 18 = .ok (.iconst 0, 1) := by decide +kernel
theorem dX7_sorts_19 : decode cX7_sorts 19 = .ok (.istore_n 3, 1) := by decide +kernel
theorem dX7_sorts_20 : decode cX7_sorts 20 = .ok (.iload_n 3, 1) := by decide +kernel
theorem dX7_sorts_21 : decode cX7_sorts 21 = .ok (.aload_n 0, 1) := by decide +kernel
theorem dX7_sorts_22 : decode cX7_sorts 22 = .ok (.getfield 69, 3) := by decide +kernel
theorem dX7_sorts_25 : decode cX7_sorts 25 = .ok (.if_icmp .ge 39, 3) := by decide +kernel
theorem dX7_sorts_28 : decode cX7_sorts 28 = .ok (.aload_n 0, 1) := by decide +kernel
theorem dX7_sorts_29 : decode cX7_sorts 29 = .ok (.getfield 28, 3) := by decide +kernel
theorem dX7_sorts_32 : decode cX7_sorts 32 = .ok (.iload_n 3, 1) := by decide +kernel
theorem dX7_sorts_33 : decode cX7_sorts 33 = .ok (.iaload, 1) := by decide +kernel
theorem dX7_sorts_34 : decode cX7_sorts 34 = .ok (.iload_n 2, 1) := by decide +kernel
theorem dX7_sorts_35 : decode cX7_sorts 35 = .ok (.if_icmp .ne 23, 3) := by decide +kernel
theorem dX7_sorts_38 : decode cX7_sorts 38 = .ok (.aload_n 0, 1) := by decide +kernel
theorem dX7_sorts_39 : decode cX7_sorts 39 = .ok (.getfield 25, 3) := by decide +kernel
theorem dX7_sorts_42 : decode cX7_sorts 42 = .ok (.aload_n 0, 1) := by decide +kernel
theorem dX7_sorts_43 : decode cX7_sorts 43 = .ok (.getfield 63, 3) := by decide +kernel
theorem dX7_sorts_46 : decode cX7_sorts 46 = .ok (.iload_n 2, 1) := by decide +kernel
theorem dX7_sorts_47 : decode cX7_sorts 47 = .ok (.iastore, 1) := by decide +kernel
theorem dX7_sorts_48 : decode cX7_sorts 48 = .ok (.aload_n 0, 1) := by decide +kernel
theorem dX7_sorts_49 : decode cX7_sorts 49 = .ok (.dup, 1) := by decide +kernel
theorem dX7_sorts_50 : decode cX7_sorts 50 = .ok (.getfield 63, 3) := by decide +kernel
theorem dX7_sorts_53 : decode cX7_sorts 53 = .ok (.iconst 1, 1) := by decide +kernel
theorem dX7_sorts_54 : decode cX7_sorts 54 = .ok (.iadd, 1) := by decide +kernel
theorem dX7_sorts_55 : decode cX7_sorts 55 = .ok (.putfield 63, 3) := by decide +kernel
theorem dX7_sorts_58 : decode cX7_sorts 58 = .ok (.iinc 3 1, 3) := by decide +kernel
theorem dX7_sorts_61 : decode cX7_sorts 61 = .ok (.goto (-41), 3) := by decide +kernel
theorem dX7_sorts_64 : decode cX7_sorts 64 = .ok (.iinc 2 1, 3) := by decide +kernel
theorem dX7_sorts_67 : decode cX7_sorts 67 = .ok (.goto (-55), 3) := by decide +kernel
theorem dX7_sorts_70 : decode cX7_sorts 70 = .ok (.aload_n 0, 1) := by decide +kernel
theorem dX7_sorts_71 : decode cX7_sorts 71 = .ok (.iload_n 1, 1) := by decide +kernel
theorem dX7_sorts_72 : decode cX7_sorts 72 = .ok (.invokevirtual 98, 3) := by decide +kernel
theorem dX7_sorts_75 : decode cX7_sorts 75 = .ok (.aload_n 0, 1) := by decide +kernel
theorem dX7_sorts_76 : decode cX7_sorts 76 = .ok (.iload_n 1, 1) := by decide +kernel
theorem dX7_sorts_77 : decode cX7_sorts 77 = .ok (.invokevirtual 52, 3) := by decide +kernel
theorem dX7_sorts_80 : decode cX7_sorts 80 = .ok (.ireturn, 1) := by decide +kernel
theorem dX7_sort_0 : decode cX7_sort 0 = .ok (.iload_n 1, 1) := by decide +kernel
theorem dX7_sort_1 : decode cX7_sort 1 = .ok (.invokestatic 76, 3) := by decide +kernel
theorem dX7_sort_4 : decode cX7_sort 4 = .ok (.ifCond .ne 5, 3) := by decide +kernel
theorem dX7_sort_7 : decode cX7_sort 7 = .ok (.iconst (-1), 1) := by decide +kernel
theorem dX7_sort_8 : decode cX7_sort 8 = .ok (.ireturn, 1) := by decide +kernel
theorem dX7_sort_9 : decode cX7_sort 9 = .ok (.aload_n 0, 1) := by decide +kernel
theorem dX7_sort_10 : decode cX7_sort 10 = .ok (.invokevirtual 95, 3) := by decide +kernel
theorem dX7_sort_13 : decode cX7_sort 13 = .ok (.aload_n 0, 1) := by decide +kernel
theorem dX7_sort_14 : decode cX7_sort 14 = .ok (.iload_n 1, 1) := by decide +kernel
theorem dX7_sort_15 : decode cX7_sort 15 = .ok (.invokevirtual 121, 3) := by decide +kernel
theorem dX7_sort_18 : decode cX7_sort 18 = .ok (.ireturn, 1) := by decide +kernel
theorem dX7_turn_0 : decode cX7_turn 0 = .ok (.iload_n 1, 1) := by decide +kernel
theorem dX7_turn_1 : decode cX7_turn 1 = .ok (.invokestatic 76, 3) := by decide +kernel
theorem dX7_turn_4 : decode cX7_turn 4 = .ok (.ifCond .eq 10, 3) := by decide +kernel
theorem dX7_turn_7 : decode cX7_turn 7 = .ok (.iload_n 2, 1) := by decide +kernel
theorem dX7_turn_8 : decode cX7_turn 8 = .ok (.invokestatic 76, 3) := by decide +kernel
theorem dX7_turn_11 : decode cX7_turn 11 = .ok (.ifCond .ne 5, 3) := by decide +kernel
theorem dX7_turn_14 : decode cX7_turn 14 = .ok (.iconst (-1), 1) := by decide +kernel
theorem dX7_turn_15 : decode cX7_turn 15 = .ok (.ireturn, 1) := by decide +kernel
theorem dX7_turn_16 : decode cX7_turn 16 = .ok (.aload_n 0, 1) := by decide +kernel
theorem dX7_turn_17 : decode cX7_turn 17 = .ok (.invokevirtual 95, 3) := by decide +kernel
theorem dX7_turn_20 : decode cX7_turn 20 = .ok (.aload_n 0, 1) := by decide +kernel
theorem dX7_turn_21 : decode cX7_turn 21 = .ok (.iload_n 2, 1) := by decide +kernel
theorem dX7_turn_22 : decode cX7_turn 22 = .ok (.invokevirtual 118, 3) := by decide +kernel
theorem dX7_turn_25 : decode cX7_turn 25 = .ok (.aload_n 0, 1) := by decide +kernel
theorem dX7_turn_26 : decode cX7_turn 26 = .ok (.aload_n 0, 1) := by decide +kernel
theorem dX7_turn_27 : decode cX7_turn 27 = .ok (.getfield 69, 3) := by decide +kernel
theorem dX7_turn_30 : decode cX7_turn 30 = .ok (.putfield 63, 3) := by decide +kernel
theorem dX7_turn_33 : decode cX7_turn 33 = .ok (.iconst 0, 1) := by decide +kernel
theorem dX7_turn_34 : decode cX7_turn 34 = .ok (.istore_n 3, 1) := by decide +kernel
theorem dX7_turn_35 : decode cX7_turn 35 = .ok (.iload_n 3, 1) := by decide +kernel
theorem dX7_turn_36 : decode cX7_turn 36 = .ok (.aload_n 0, 1) := by decide +kernel
theorem dX7_turn_37 : decode cX7_turn 37 = .ok (.getfield 63, 3) := by decide +kernel
theorem dX7_turn_40 : decode cX7_turn 40 = .ok (.if_icmp .ge 28, 3) := by decide +kernel
theorem dX7_turn_43 : decode cX7_turn 43 = .ok (.aload_n 0, 1) := by decide +kernel
theorem dX7_turn_44 : decode cX7_turn 44 = .ok (.getfield 25, 3) := by decide +kernel
theorem dX7_turn_47 : decode cX7_turn 47 = .ok (.iload_n 3, 1) := by decide +kernel
theorem dX7_turn_48 : decode cX7_turn 48 = .ok (.aload_n 0, 1) := by decide +kernel
theorem dX7_turn_49 : decode cX7_turn 49 = .ok (.getfield 28, 3) := by decide +kernel
theorem dX7_turn_52 : decode cX7_turn 52 = .ok (.aload_n 0, 1) := by decide +kernel
theorem dX7_turn_53 : decode cX7_turn 53 = .ok (.getfield 63, 3) := by decide +kernel
theorem dX7_turn_56 : decode cX7_turn 56 = .ok (.iconst 1, 1) := by decide +kernel
theorem dX7_turn_57 : decode cX7_turn 57 = .ok (.isub, 1) := by decide +kernel
theorem dX7_turn_58 : decode cX7_turn 58 = .ok (.iload_n 3, 1) := by decide +kernel
theorem dX7_turn_59 : decode cX7_turn 59 = .ok (.isub, 1) := by decide +kernel
theorem dX7_turn_60 : decode cX7_turn 60 = .ok (.iaload, 1) := by decide +kernel
theorem dX7_turn_61 : decode cX7_turn 61 = .ok (.iastore, 1) := by decide +kernel
theorem dX7_turn_62 : decode cX7_turn 62 = .ok (.iinc 3 1, 3) := by decide +kernel
theorem dX7_turn_65 : decode cX7_turn 65 = .ok (.goto (-30), 3) := by decide +kernel
theorem dX7_turn_68 : decode cX7_turn 68 = .ok (.aload_n 0, 1) := by decide +kernel
theorem dX7_turn_69 : decode cX7_turn 69 = .ok (.iload_n 1, 1) := by decide +kernel
theorem dX7_turn_70 : decode cX7_turn 70 = .ok (.invokevirtual 98, 3) := by decide +kernel
theorem dX7_turn_73 : decode cX7_turn 73 = .ok (.aload_n 0, 1) := by decide +kernel
theorem dX7_turn_74 : decode cX7_turn 74 = .ok (.getfield 63, 3) := by decide +kernel
theorem dX7_turn_77 : decode cX7_turn 77 = .ok (.ireturn, 1) := by decide +kernel
theorem dX7_layOutBoth_0 : decode cX7_layOutBoth 0 = .ok (.aload_n 0, 1) := by decide +kernel
theorem dX7_layOutBoth_1 : decode cX7_layOutBoth 1 = .ok (.iload_n 1, 1) := by decide +kernel
theorem dX7_layOutBoth_2 : decode cX7_layOutBoth 2 = .ok (.invokevirtual 83, 3) := by decide +kernel
theorem dX7_layOutBoth_5 : decode cX7_layOutBoth 5 = .ok (.aload_n 0, 1) := by decide +kernel
theorem dX7_layOutBoth_6 : decode cX7_layOutBoth 6 = .ok (.iload_n 2, 1) := by decide +kernel
theorem dX7_layOutBoth_7 : decode cX7_layOutBoth 7 = .ok (.invokevirtual 118, 3) := by decide +kernel
theorem dX7_layOutBoth_10 : decode cX7_layOutBoth 10 = .ok (.aload_n 0, 1) := by decide +kernel
theorem dX7_layOutBoth_11 : decode cX7_layOutBoth 11 = .ok (.getfield 63, 3) := by decide +kernel
theorem dX7_layOutBoth_14 : decode cX7_layOutBoth 14 = .ok (.aload_n 0, 1) := by decide +kernel
theorem dX7_layOutBoth_15 : decode cX7_layOutBoth 15 = .ok (.getfield 69, 3) := by decide +kernel
theorem dX7_layOutBoth_18 : decode cX7_layOutBoth 18 = .ok (.if_icmp .ge 10, 3) := by decide +kernel
theorem dX7_layOutBoth_21 : decode cX7_layOutBoth 21 = .ok (.aload_n 0, 1) := by decide +kernel
theorem dX7_layOutBoth_22 : decode cX7_layOutBoth 22 = .ok (.getfield 63, 3) := by decide +kernel
theorem dX7_layOutBoth_25 : decode cX7_layOutBoth 25 = .ok (.goto 7, 3) := by decide +kernel
theorem dX7_layOutBoth_28 : decode cX7_layOutBoth 28 = .ok (.aload_n 0, 1) := by decide +kernel
theorem dX7_layOutBoth_29 : decode cX7_layOutBoth 29 = .ok (.getfield 69, 3) := by decide +kernel
theorem dX7_layOutBoth_32 : decode cX7_layOutBoth 32 = .ok (.ireturn, 1) := by decide +kernel
theorem dX7_merge_0 : decode cX7_merge 0 = .ok (.iload_n 1, 1) := by decide +kernel
theorem dX7_merge_1 : decode cX7_merge 1 = .ok (.invokestatic 76, 3) := by decide +kernel
theorem dX7_merge_4 : decode cX7_merge 4 = .ok (.ifCond .eq 17, 3) := by decide +kernel
theorem dX7_merge_7 : decode cX7_merge 7 = .ok (.iload_n 2, 1) := by decide +kernel
theorem dX7_merge_8 : decode cX7_merge 8 = .ok (.invokestatic 76, 3) := by decide +kernel
theorem dX7_merge_11 : decode cX7_merge 11 = .ok (.ifCond .eq 10, 3) := by decide +kernel
theorem dX7_merge_14 : decode cX7_merge 14 = .ok (.iload_n 3, 1) := by decide +kernel
theorem dX7_merge_15 : decode cX7_merge 15 = .ok (.invokestatic 76, 3) := by decide +kernel
theorem dX7_merge_18 : decode cX7_merge 18 = .ok (.ifCond .ne 5, 3) := by decide +kernel
theorem dX7_merge_21 : decode cX7_merge 21 = .ok (.iconst (-1), 1) := by decide +kernel
theorem dX7_merge_22 : decode cX7_merge 22 = .ok (.ireturn, 1) := by decide +kernel
theorem dX7_merge_23 : decode cX7_merge 23 = .ok (.iload 4, 2) := by decide +kernel
theorem dX7_merge_25 : decode cX7_merge 25 = .ok (.iconst 0, 1) := by decide +kernel
theorem dX7_merge_26 : decode cX7_merge 26 = .ok (.iconst 2, 1) := by decide +kernel
theorem dX7_merge_27 : decode cX7_merge 27 = .ok (.invokestatic 48, 3) := by decide +kernel
theorem dX7_merge_30 : decode cX7_merge 30 = .ok (.ifCond .ne 6, 3) := by decide +kernel
theorem dX7_merge_33 : decode cX7_merge 33 = .ok (.bipush (-2), 2) := by decide +kernel
theorem dX7_merge_35 : decode cX7_merge 35 = .ok (.ireturn, 1) := by decide +kernel
theorem dX7_merge_36 : decode cX7_merge 36 = .ok (.aload_n 0, 1) := by decide +kernel
theorem dX7_merge_37 : decode cX7_merge 37 = .ok (.iload_n 2, 1) := by decide +kernel
theorem dX7_merge_38 : decode cX7_merge 38 = .ok (.iload_n 3, 1) := by decide +kernel
theorem dX7_merge_39 : decode cX7_merge 39 = .ok (.invokevirtual 124, 3) := by decide +kernel
theorem dX7_merge_42 : decode cX7_merge 42 = .ok (.istore 5, 2) := by decide +kernel
theorem dX7_merge_44 : decode cX7_merge 44 = .ok (.aload_n 0, 1) := by decide +kernel
theorem dX7_merge_45 : decode cX7_merge 45 = .ok (.iconst 0, 1) := by decide +kernel
theorem dX7_merge_46 : decode cX7_merge 46 = .ok (.putfield 63, 3) := by decide +kernel
theorem dX7_merge_49 : decode cX7_merge 49 = .ok (.iconst 0, 1) := by decide +kernel
theorem dX7_merge_50 : decode cX7_merge 50 = .ok (.istore 6, 2) := by decide +kernel
theorem dX7_merge_52 : decode cX7_merge 52 = .ok (.iload 6, 2) := by decide +kernel
theorem dX7_merge_54 : decode cX7_merge 54 = .ok (.iload 5, 2) := by decide +kernel
theorem dX7_merge_56 : decode cX7_merge 56 = .ok (.if_icmp .ge 91, 3) := by decide +kernel
theorem dX7_merge_59 : decode cX7_merge 59 = .ok (.aload_n 0, 1) := by decide +kernel
theorem dX7_merge_60 : decode cX7_merge 60 = .ok (.getfield 25, 3) := by decide +kernel
theorem dX7_merge_63 : decode cX7_merge 63 = .ok (.iload 6, 2) := by decide +kernel
theorem dX7_merge_65 : decode cX7_merge 65 = .ok (.iaload, 1) := by decide +kernel
theorem dX7_merge_66 : decode cX7_merge 66 = .ok (.istore 7, 2) := by decide +kernel
theorem dX7_merge_68 : decode cX7_merge 68 = .ok (.aload_n 0, 1) := by decide +kernel
theorem dX7_merge_69 : decode cX7_merge 69 = .ok (.getfield 28, 3) := by decide +kernel
theorem dX7_merge_72 : decode cX7_merge 72 = .ok (.iload 6, 2) := by decide +kernel
theorem dX7_merge_74 : decode cX7_merge 74 = .ok (.iaload, 1) := by decide +kernel
theorem dX7_merge_75 : decode cX7_merge 75 = .ok (.istore 8, 2) := by decide +kernel
theorem dX7_merge_77 : decode cX7_merge 77 = .ok (.iload 4, 2) := by decide +kernel
theorem dX7_merge_79 : decode cX7_merge 79 = .ok (.iconst 2, 1) := by decide +kernel
theorem dX7_merge_80 : decode cX7_merge 80 = .ok (.if_icmp .lt 10, 3) := by decide +kernel
theorem dX7_merge_83 : decode cX7_merge 83 = .ok (.iload 7, 2) := by decide +kernel
theorem dX7_merge_85 : decode cX7_merge 85 = .ok (.iload 8, 2) := by decide +kernel
theorem dX7_merge_87 : decode cX7_merge 87 = .ok (.if_icmp .ne 54, 3) := by decide +kernel
theorem dX7_merge_90 : decode cX7_merge 90 = .ok (.aload_n 0, 1) := by decide +kernel
theorem dX7_merge_91 : decode cX7_merge 91 = .ok (.getfield 25, 3) := by decide +kernel
theorem dX7_merge_94 : decode cX7_merge 94 = .ok (.aload_n 0, 1) := by decide +kernel
theorem dX7_merge_95 : decode cX7_merge 95 = .ok (.getfield 63, 3) := by decide +kernel
theorem dX7_merge_98 : decode cX7_merge 98 = .ok (.iload 4, 2) := by decide +kernel
theorem dX7_merge_100 : decode cX7_merge 100 = .ok (.ifCond .ne 7, 3) := by decide +kernel
theorem dX7_merge_103 : decode cX7_merge 103 = .ok (.iconst 1, 1) := by decide +kernel
theorem dX7_merge_104 : decode cX7_merge 104 = .ok (.goto 4, 3) := by decide +kernel
theorem dX7_merge_107 : decode cX7_merge 107 = .ok (.iconst 0, 1) := by decide +kernel
theorem dX7_merge_108 : decode cX7_merge 108 = .ok (.iload 7, 2) := by decide +kernel
theorem dX7_merge_110 : decode cX7_merge 110 = .ok (.iload 8, 2) := by decide +kernel
theorem dX7_merge_112 : decode cX7_merge 112 = .ok (.if_icmp .ge 7, 3) := by decide +kernel
theorem dX7_merge_115 : decode cX7_merge 115 = .ok (.iconst 1, 1) := by decide +kernel
theorem dX7_merge_116 : decode cX7_merge 116 = .ok (.goto 4, 3) := by decide +kernel
theorem dX7_merge_119 : decode cX7_merge 119 = .ok (.iconst 0, 1) := by decide +kernel
theorem dX7_merge_120 : decode cX7_merge 120 = .ok (.if_icmp .ne 8, 3) := by decide +kernel
theorem dX7_merge_123 : decode cX7_merge 123 = .ok (.iload 7, 2) := by decide +kernel
theorem dX7_merge_125 : decode cX7_merge 125 = .ok (.goto 5, 3) := by decide +kernel
theorem dX7_merge_128 : decode cX7_merge 128 = .ok (.iload 8, 2) := by decide +kernel
theorem dX7_merge_130 : decode cX7_merge 130 = .ok (.iastore, 1) := by decide +kernel
theorem dX7_merge_131 : decode cX7_merge 131 = .ok (.aload_n 0, 1) := by decide +kernel
theorem dX7_merge_132 : decode cX7_merge 132 = .ok (.dup, 1) := by decide +kernel
theorem dX7_merge_133 : decode cX7_merge 133 = .ok (.getfield 63, 3) := by decide +kernel
theorem dX7_merge_136 : decode cX7_merge 136 = .ok (.iconst 1, 1) := by decide +kernel
theorem dX7_merge_137 : decode cX7_merge 137 = .ok (.iadd, 1) := by decide +kernel
theorem dX7_merge_138 : decode cX7_merge 138 = .ok (.putfield 63, 3) := by decide +kernel
theorem dX7_merge_141 : decode cX7_merge 141 = .ok (.iinc 6 1, 3) := by decide +kernel
theorem dX7_merge_144 : decode cX7_merge 144 = .ok (.goto (-92), 3) := by decide +kernel
theorem dX7_merge_147 : decode cX7_merge 147 = .ok (.aload_n 0, 1) := by decide +kernel
theorem dX7_merge_148 : decode cX7_merge 148 = .ok (.invokevirtual 91, 3) := by decide +kernel
theorem dX7_merge_151 : decode cX7_merge 151 = .ok (.ifCond .eq 6, 3) := by decide +kernel
theorem dX7_merge_154 : decode cX7_merge 154 = .ok (.bipush (-4), 2) := by decide +kernel
theorem dX7_merge_156 : decode cX7_merge 156 = .ok (.ireturn, 1) := by decide +kernel
theorem dX7_merge_157 : decode cX7_merge 157 = .ok (.aload_n 0, 1) := by decide +kernel
theorem dX7_merge_158 : decode cX7_merge 158 = .ok (.invokevirtual 95, 3) := by decide +kernel
theorem dX7_merge_161 : decode cX7_merge 161 = .ok (.aload_n 0, 1) := by decide +kernel
theorem dX7_merge_162 : decode cX7_merge 162 = .ok (.iload_n 1, 1) := by decide +kernel
theorem dX7_merge_163 : decode cX7_merge 163 = .ok (.invokevirtual 98, 3) := by decide +kernel
theorem dX7_merge_166 : decode cX7_merge 166 = .ok (.aload_n 0, 1) := by decide +kernel
theorem dX7_merge_167 : decode cX7_merge 167 = .ok (.getfield 63, 3) := by decide +kernel
theorem dX7_merge_170 : decode cX7_merge 170 = .ok (.ireturn, 1) := by decide +kernel
theorem dX7_firstRow_0 : decode cX7_firstRow 0 = .ok (.iconst 0, 1) := by decide +kernel
theorem dX7_firstRow_1 : decode cX7_firstRow 1 = .ok (.istore_n 3, 1) := by decide +kernel
theorem dX7_firstRow_2 : decode cX7_firstRow 2 = .ok (.iconst 0, 1) := by decide +kernel
theorem dX7_firstRow_3 : decode cX7_firstRow 3 = .ok (.istore 4, 2) := by decide +kernel
theorem dX7_firstRow_5 : decode cX7_firstRow 5 = .ok (.iload 4, 2) := by decide +kernel
theorem dX7_firstRow_7 : decode cX7_firstRow 7 = .ok (.iload_n 2, 1) := by decide +kernel
theorem dX7_firstRow_8 : decode cX7_firstRow 8 = .ok (.if_icmp .ge 19, 3) := by decide +kernel
theorem dX7_firstRow_11 : decode cX7_firstRow 11 = .ok (.iload_n 3, 1) := by decide +kernel
theorem dX7_firstRow_12 : decode cX7_firstRow 12 = .ok (.aload_n 0, 1) := by decide +kernel
theorem dX7_firstRow_13 : decode cX7_firstRow 13 = .ok (.iload_n 1, 1) := by decide +kernel
theorem dX7_firstRow_14 : decode cX7_firstRow 14 = .ok (.iload 4, 2) := by decide +kernel
theorem dX7_firstRow_16 : decode cX7_firstRow 16 = .ok (.invokevirtual 56, 3) := by decide +kernel
theorem dX7_firstRow_19 : decode cX7_firstRow 19 = .ok (.iadd, 1) := by decide +kernel
theorem dX7_firstRow_20 : decode cX7_firstRow 20 = .ok (.istore_n 3, 1) := by decide +kernel
theorem dX7_firstRow_21 : decode cX7_firstRow 21 = .ok (.iinc 4 1, 3) := by decide +kernel
theorem dX7_firstRow_24 : decode cX7_firstRow 24 = .ok (.goto (-19), 3) := by decide +kernel
theorem dX7_firstRow_27 : decode cX7_firstRow 27 = .ok (.iload_n 3, 1) := by decide +kernel
theorem dX7_firstRow_28 : decode cX7_firstRow 28 = .ok (.ireturn, 1) := by decide +kernel
theorem dX7_run_0 : decode cX7_run 0 = .ok (.iload_n 1, 1) := by decide +kernel
theorem dX7_run_1 : decode cX7_run 1 = .ok (.invokestatic 76, 3) := by decide +kernel
theorem dX7_run_4 : decode cX7_run 4 = .ok (.ifCond .eq 18, 3) := by decide +kernel
theorem dX7_run_7 : decode cX7_run 7 = .ok (.iload_n 2, 1) := by decide +kernel
theorem dX7_run_8 : decode cX7_run 8 = .ok (.iconst 0, 1) := by decide +kernel
theorem dX7_run_9 : decode cX7_run 9 = .ok (.aload_n 0, 1) := by decide +kernel
theorem dX7_run_10 : decode cX7_run 10 = .ok (.iload_n 1, 1) := by decide +kernel
theorem dX7_run_11 : decode cX7_run 11 = .ok (.invokevirtual 52, 3) := by decide +kernel
theorem dX7_run_14 : decode cX7_run 14 = .ok (.iconst 1, 1) := by decide +kernel
theorem dX7_run_15 : decode cX7_run 15 = .ok (.isub, 1) := by decide +kernel
theorem dX7_run_16 : decode cX7_run 16 = .ok (.invokestatic 48, 3) := by decide +kernel
theorem dX7_run_19 : decode cX7_run 19 = .ok (.ifCond .ne 5, 3) := by decide +kernel
theorem dX7_run_22 : decode cX7_run 22 = .ok (.iconst (-1), 1) := by decide +kernel
theorem dX7_run_23 : decode cX7_run 23 = .ok (.ireturn, 1) := by decide +kernel
theorem dX7_run_24 : decode cX7_run 24 = .ok (.iload_n 3, 1) := by decide +kernel
theorem dX7_run_25 : decode cX7_run 25 = .ok (.tableswitch 48 0 2 #[27, 34, 41], 27) := by decide +kernel
theorem dX7_run_52 : decode cX7_run 52 = .ok (.aload_n 0, 1) := by decide +kernel
theorem dX7_run_53 : decode cX7_run 53 = .ok (.iload_n 1, 1) := by decide +kernel
theorem dX7_run_54 : decode cX7_run 54 = .ok (.iload_n 2, 1) := by decide +kernel
theorem dX7_run_55 : decode cX7_run 55 = .ok (.invokevirtual 66, 3) := by decide +kernel
theorem dX7_run_58 : decode cX7_run 58 = .ok (.ireturn, 1) := by decide +kernel
theorem dX7_run_59 : decode cX7_run 59 = .ok (.aload_n 0, 1) := by decide +kernel
theorem dX7_run_60 : decode cX7_run 60 = .ok (.iload_n 1, 1) := by decide +kernel
theorem dX7_run_61 : decode cX7_run 61 = .ok (.iload_n 2, 1) := by decide +kernel
theorem dX7_run_62 : decode cX7_run 62 = .ok (.invokevirtual 56, 3) := by decide +kernel
theorem dX7_run_65 : decode cX7_run 65 = .ok (.ireturn, 1) := by decide +kernel
theorem dX7_run_66 : decode cX7_run 66 = .ok (.aload_n 0, 1) := by decide +kernel
theorem dX7_run_67 : decode cX7_run 67 = .ok (.iload_n 1, 1) := by decide +kernel
theorem dX7_run_68 : decode cX7_run 68 = .ok (.iload_n 2, 1) := by decide +kernel
theorem dX7_run_69 : decode cX7_run 69 = .ok (.invokevirtual 127, 3) := by decide +kernel
theorem dX7_run_72 : decode cX7_run 72 = .ok (.ireturn, 1) := by decide +kernel
theorem dX7_run_73 : decode cX7_run 73 = .ok (.bipush (-2), 2) := by decide +kernel
theorem dX7_run_75 : decode cX7_run 75 = .ok (.ireturn, 1) := by decide +kernel
theorem dX7_valueAt_0 : decode cX7_valueAt 0 = .ok (.iconst 0, 1) := by decide +kernel
theorem dX7_valueAt_1 : decode cX7_valueAt 1 = .ok (.istore_n 3, 1) := by decide +kernel
theorem dX7_valueAt_2 : decode cX7_valueAt 2 = .ok (.iload_n 2, 1) := by decide +kernel
theorem dX7_valueAt_3 : decode cX7_valueAt 3 = .ok (.istore 4, 2) := by decide +kernel
theorem dX7_valueAt_5 : decode cX7_valueAt 5 = .ok (.iload 4, 2) := by decide +kernel
theorem dX7_valueAt_7 : decode cX7_valueAt 7 = .ok (.aload_n 0, 1) := by decide +kernel
theorem dX7_valueAt_8 : decode cX7_valueAt 8 = .ok (.iload_n 1, 1) := by decide +kernel
theorem dX7_valueAt_9 : decode cX7_valueAt 9 = .ok (.iload_n 3, 1) := by decide +kernel
theorem dX7_valueAt_10 : decode cX7_valueAt 10 = .ok (.invokevirtual 56, 3) := by decide +kernel
theorem dX7_valueAt_13 : decode cX7_valueAt 13 = .ok (.if_icmp .lt 20, 3) := by decide +kernel
theorem dX7_valueAt_16 : decode cX7_valueAt 16 = .ok (.iload 4, 2) := by decide +kernel
theorem dX7_valueAt_18 : decode cX7_valueAt 18 = .ok (.aload_n 0, 1) := by decide +kernel
theorem dX7_valueAt_19 : decode cX7_valueAt 19 = .ok (.iload_n 1, 1) := by decide +kernel
theorem dX7_valueAt_20 : decode cX7_valueAt 20 = .ok (.iload_n 3, 1) := by decide +kernel
theorem dX7_valueAt_21 : decode cX7_valueAt 21 = .ok (.invokevirtual 56, 3) := by decide +kernel
theorem dX7_valueAt_24 : decode cX7_valueAt 24 = .ok (.isub, 1) := by decide +kernel
theorem dX7_valueAt_25 : decode cX7_valueAt 25 = .ok (.istore 4, 2) := by decide +kernel
theorem dX7_valueAt_27 : decode cX7_valueAt 27 = .ok (.iinc 3 1, 3) := by decide +kernel
theorem dX7_valueAt_30 : decode cX7_valueAt 30 = .ok (.goto (-25), 3) := by decide +kernel
theorem dX7_valueAt_33 : decode cX7_valueAt 33 = .ok (.aload_n 0, 1) := by decide +kernel
theorem dX7_valueAt_34 : decode cX7_valueAt 34 = .ok (.iload_n 1, 1) := by decide +kernel
theorem dX7_valueAt_35 : decode cX7_valueAt 35 = .ok (.iload_n 3, 1) := by decide +kernel
theorem dX7_valueAt_36 : decode cX7_valueAt 36 = .ok (.invokevirtual 66, 3) := by decide +kernel
theorem dX7_valueAt_39 : decode cX7_valueAt 39 = .ok (.ireturn, 1) := by decide +kernel
theorem dX7_value_0 : decode cX7_value 0 = .ok (.iload_n 1, 1) := by decide +kernel
theorem dX7_value_1 : decode cX7_value 1 = .ok (.invokestatic 76, 3) := by decide +kernel
theorem dX7_value_4 : decode cX7_value 4 = .ok (.ifCond .eq 21, 3) := by decide +kernel
theorem dX7_value_7 : decode cX7_value 7 = .ok (.aload_n 0, 1) := by decide +kernel
theorem dX7_value_8 : decode cX7_value 8 = .ok (.iload_n 1, 1) := by decide +kernel
theorem dX7_value_9 : decode cX7_value 9 = .ok (.iload_n 2, 1) := by decide +kernel
theorem dX7_value_10 : decode cX7_value 10 = .ok (.invokevirtual 101, 3) := by decide +kernel
theorem dX7_value_13 : decode cX7_value 13 = .ok (.ifCond .eq 12, 3) := by decide +kernel
theorem dX7_value_16 : decode cX7_value 16 = .ok (.aload_n 0, 1) := by decide +kernel
theorem dX7_value_17 : decode cX7_value 17 = .ok (.iload_n 1, 1) := by decide +kernel
theorem dX7_value_18 : decode cX7_value 18 = .ok (.iload_n 2, 1) := by decide +kernel
theorem dX7_value_19 : decode cX7_value 19 = .ok (.invokevirtual 115, 3) := by decide +kernel
theorem dX7_value_22 : decode cX7_value 22 = .ok (.goto 4, 3) := by decide +kernel
theorem dX7_value_25 : decode cX7_value 25 = .ok (.iconst (-1), 1) := by decide +kernel
theorem dX7_value_26 : decode cX7_value 26 = .ok (.ireturn, 1) := by decide +kernel
theorem dX7_find_0 : decode cX7_find 0 = .ok (.iload_n 1, 1) := by decide +kernel
theorem dX7_find_1 : decode cX7_find 1 = .ok (.invokestatic 76, 3) := by decide +kernel
theorem dX7_find_4 : decode cX7_find 4 = .ok (.ifCond .ne 5, 3) := by decide +kernel
theorem dX7_find_7 : decode cX7_find 7 = .ok (.iconst (-1), 1) := by decide +kernel
theorem dX7_find_8 : decode cX7_find 8 = .ok (.ireturn, 1) := by decide +kernel
theorem dX7_find_9 : decode cX7_find 9 = .ok (.iload_n 2, 1) := by decide +kernel
theorem dX7_find_10 : decode cX7_find 10 = .ok (.invokestatic 80, 3) := by decide +kernel
theorem dX7_find_13 : decode cX7_find 13 = .ok (.ifCond .eq 7, 3) := by decide +kernel
theorem dX7_find_16 : decode cX7_find 16 = .ok (.iload_n 3, 1) := by decide +kernel
theorem dX7_find_17 : decode cX7_find 17 = .ok (.ifCond .ge 6, 3) := by decide +kernel
theorem dX7_find_20 : decode cX7_find 20 = .ok (.bipush (-2), 2) := by decide +kernel
theorem dX7_find_22 : decode cX7_find 22 = .ok (.ireturn, 1) := by decide +kernel
theorem dX7_find_23 : decode cX7_find 23 = .ok (.aload_n 0, 1) := by decide +kernel
theorem dX7_find_24 : decode cX7_find 24 = .ok (.iload_n 1, 1) := by decide +kernel
theorem dX7_find_25 : decode cX7_find 25 = .ok (.invokevirtual 83, 3) := by decide +kernel
theorem dX7_find_28 : decode cX7_find 28 = .ok (.iload_n 3, 1) := by decide +kernel
theorem dX7_find_29 : decode cX7_find 29 = .ok (.istore 4, 2) := by decide +kernel
theorem dX7_find_31 : decode cX7_find 31 = .ok (.iconst 0, 1) := by decide +kernel
theorem dX7_find_32 : decode cX7_find 32 = .ok (.istore 5, 2) := by decide +kernel
theorem dX7_find_34 : decode cX7_find 34 = .ok (.iload 5, 2) := by decide +kernel
theorem dX7_find_36 : decode cX7_find 36 = .ok (.aload_n 0, 1) := by decide +kernel
theorem dX7_find_37 : decode cX7_find 37 = .ok (.getfield 63, 3) := by decide +kernel
theorem dX7_find_40 : decode cX7_find 40 = .ok (.if_icmp .ge 49, 3) := by decide +kernel
theorem dX7_find_43 : decode cX7_find 43 = .ok (.aload_n 0, 1) := by decide +kernel
theorem dX7_find_44 : decode cX7_find 44 = .ok (.getfield 25, 3) := by decide +kernel
theorem dX7_find_47 : decode cX7_find 47 = .ok (.iload 5, 2) := by decide +kernel
theorem dX7_find_49 : decode cX7_find 49 = .ok (.iaload, 1) := by decide +kernel
theorem dX7_find_50 : decode cX7_find 50 = .ok (.iload_n 2, 1) := by decide +kernel
theorem dX7_find_51 : decode cX7_find 51 = .ok (.if_icmp .ne 11, 3) := by decide +kernel
theorem dX7_find_54 : decode cX7_find 54 = .ok (.iload 4, 2) := by decide +kernel
theorem dX7_find_56 : decode cX7_find 56 = .ok (.ifCond .ne 6, 3) := by decide +kernel
theorem dX7_find_59 : decode cX7_find 59 = .ok (.iload 5, 2) := by decide +kernel
theorem dX7_find_61 : decode cX7_find 61 = .ok (.ireturn, 1) := by decide +kernel
theorem dX7_find_62 : decode cX7_find 62 = .ok (.iload 4, 2) := by decide +kernel
theorem dX7_find_64 : decode cX7_find 64 = .ok (.aload_n 0, 1) := by decide +kernel
theorem dX7_find_65 : decode cX7_find 65 = .ok (.getfield 25, 3) := by decide +kernel
theorem dX7_find_68 : decode cX7_find 68 = .ok (.iload 5, 2) := by decide +kernel
theorem dX7_find_70 : decode cX7_find 70 = .ok (.iaload, 1) := by decide +kernel
theorem dX7_find_71 : decode cX7_find 71 = .ok (.iload_n 2, 1) := by decide +kernel
theorem dX7_find_72 : decode cX7_find 72 = .ok (.if_icmp .ne 7, 3) := by decide +kernel
theorem dX7_find_75 : decode cX7_find 75 = .ok (.iconst 1, 1) := by decide +kernel
theorem dX7_find_76 : decode cX7_find 76 = .ok (.goto 4, 3) := by decide +kernel
theorem dX7_find_79 : decode cX7_find 79 = .ok (.iconst 0, 1) := by decide +kernel
theorem dX7_find_80 : decode cX7_find 80 = .ok (.isub, 1) := by decide +kernel
theorem dX7_find_81 : decode cX7_find 81 = .ok (.istore 4, 2) := by decide +kernel
theorem dX7_find_83 : decode cX7_find 83 = .ok (.iinc 5 1, 3) := by decide +kernel
theorem dX7_find_86 : decode cX7_find 86 = .ok (.goto (-52), 3) := by decide +kernel
theorem dX7_find_89 : decode cX7_find 89 = .ok (.bipush (-6), 2) := by decide +kernel
theorem dX7_find_91 : decode cX7_find 91 = .ok (.ireturn, 1) := by decide +kernel
theorem dX7_sumOf_0 : decode cX7_sumOf 0 = .ok (.iconst 0, 1) := by decide +kernel
theorem dX7_sumOf_1 : decode cX7_sumOf 1 = .ok (.istore_n 2, 1) := by decide +kernel
theorem dX7_sumOf_2 : decode cX7_sumOf 2 = .ok (.iconst 0, 1) := by decide +kernel
theorem dX7_sumOf_3 : decode cX7_sumOf 3 = .ok (.istore_n 3, 1) := by decide +kernel
theorem dX7_sumOf_4 : decode cX7_sumOf 4 = .ok (.iload_n 3, 1) := by decide +kernel
theorem dX7_sumOf_5 : decode cX7_sumOf 5 = .ok (.aload_n 0, 1) := by decide +kernel
theorem dX7_sumOf_6 : decode cX7_sumOf 6 = .ok (.iload_n 1, 1) := by decide +kernel
theorem dX7_sumOf_7 : decode cX7_sumOf 7 = .ok (.invokevirtual 52, 3) := by decide +kernel
theorem dX7_sumOf_10 : decode cX7_sumOf 10 = .ok (.if_icmp .ge 25, 3) := by decide +kernel
theorem dX7_sumOf_13 : decode cX7_sumOf 13 = .ok (.iload_n 2, 1) := by decide +kernel
theorem dX7_sumOf_14 : decode cX7_sumOf 14 = .ok (.aload_n 0, 1) := by decide +kernel
theorem dX7_sumOf_15 : decode cX7_sumOf 15 = .ok (.iload_n 1, 1) := by decide +kernel
theorem dX7_sumOf_16 : decode cX7_sumOf 16 = .ok (.iload_n 3, 1) := by decide +kernel
theorem dX7_sumOf_17 : decode cX7_sumOf 17 = .ok (.invokevirtual 66, 3) := by decide +kernel
theorem dX7_sumOf_20 : decode cX7_sumOf 20 = .ok (.aload_n 0, 1) := by decide +kernel
theorem dX7_sumOf_21 : decode cX7_sumOf 21 = .ok (.iload_n 1, 1) := by decide +kernel
theorem dX7_sumOf_22 : decode cX7_sumOf 22 = .ok (.iload_n 3, 1) := by decide +kernel
theorem dX7_sumOf_23 : decode cX7_sumOf 23 = .ok (.invokevirtual 56, 3) := by decide +kernel
theorem dX7_sumOf_26 : decode cX7_sumOf 26 = .ok (.imul, 1) := by decide +kernel
theorem dX7_sumOf_27 : decode cX7_sumOf 27 = .ok (.iadd, 1) := by decide +kernel
theorem dX7_sumOf_28 : decode cX7_sumOf 28 = .ok (.istore_n 2, 1) := by decide +kernel
theorem dX7_sumOf_29 : decode cX7_sumOf 29 = .ok (.iinc 3 1, 3) := by decide +kernel
theorem dX7_sumOf_32 : decode cX7_sumOf 32 = .ok (.goto (-28), 3) := by decide +kernel
theorem dX7_sumOf_35 : decode cX7_sumOf 35 = .ok (.iload_n 2, 1) := by decide +kernel
theorem dX7_sumOf_36 : decode cX7_sumOf 36 = .ok (.ireturn, 1) := by decide +kernel
theorem dX7_valuesOf_0 : decode cX7_valuesOf 0 = .ok (.iconst 0, 1) := by decide +kernel
theorem dX7_valuesOf_1 : decode cX7_valuesOf 1 = .ok (.istore_n 2, 1) := by decide +kernel
theorem dX7_valuesOf_2 : decode cX7_valuesOf 2 = .ok (.iconst 0, 1) := by decide +kernel
theorem dX7_valuesOf_3 : decode cX7_valuesOf 3 = .ok (.istore_n 3, 1) := by decide +kernel
theorem dX7_valuesOf_4 : decode cX7_valuesOf 4 = .ok (.iload_n 3, 1) := by decide +kernel
theorem dX7_valuesOf_5 : decode cX7_valuesOf 5 = .ok (.aload_n 0, 1) := by decide +kernel
theorem dX7_valuesOf_6 : decode cX7_valuesOf 6 = .ok (.iload_n 1, 1) := by decide +kernel
theorem dX7_valuesOf_7 : decode cX7_valuesOf 7 = .ok (.invokevirtual 52, 3) := by decide +kernel
theorem dX7_valuesOf_10 : decode cX7_valuesOf 10 = .ok (.if_icmp .ge 20, 3) := by decide +kernel
theorem dX7_valuesOf_13 : decode cX7_valuesOf 13 = .ok (.iload_n 2, 1) := by decide +kernel
theorem dX7_valuesOf_14 : decode cX7_valuesOf 14 = .ok (.iconst 1, 1) := by decide +kernel
theorem dX7_valuesOf_15 : decode cX7_valuesOf 15 = .ok (.aload_n 0, 1) := by decide +kernel
theorem dX7_valuesOf_16 : decode cX7_valuesOf 16 = .ok (.iload_n 1, 1) := by decide +kernel
theorem dX7_valuesOf_17 : decode cX7_valuesOf 17 = .ok (.iload_n 3, 1) := by decide +kernel
theorem dX7_valuesOf_18 : decode cX7_valuesOf 18 = .ok (.invokevirtual 66, 3) := by decide +kernel
theorem dX7_valuesOf_21 : decode cX7_valuesOf 21 = .ok (.ishl, 1) := by decide +kernel
theorem dX7_valuesOf_22 : decode cX7_valuesOf 22 = .ok (.ior, 1) := by decide +kernel
theorem dX7_valuesOf_23 : decode cX7_valuesOf 23 = .ok (.istore_n 2, 1) := by decide +kernel
theorem dX7_valuesOf_24 : decode cX7_valuesOf 24 = .ok (.iinc 3 1, 3) := by decide +kernel
theorem dX7_valuesOf_27 : decode cX7_valuesOf 27 = .ok (.goto (-23), 3) := by decide +kernel
theorem dX7_valuesOf_30 : decode cX7_valuesOf 30 = .ok (.iload_n 2, 1) := by decide +kernel
theorem dX7_valuesOf_31 : decode cX7_valuesOf 31 = .ok (.ireturn, 1) := by decide +kernel
theorem dX7_bits_0 : decode cX7_bits 0 = .ok (.iconst 0, 1) := by decide +kernel
theorem dX7_bits_1 : decode cX7_bits 1 = .ok (.istore_n 1, 1) := by decide +kernel
theorem dX7_bits_2 : decode cX7_bits 2 = .ok (.iconst 0, 1) := by decide +kernel
theorem dX7_bits_3 : decode cX7_bits 3 = .ok (.istore_n 2, 1) := by decide +kernel
theorem dX7_bits_4 : decode cX7_bits 4 = .ok (.iload_n 2, 1) := by decide +kernel
theorem dX7_bits_5 : decode cX7_bits 5 = .ok (.bipush 10, 2) := by decide +kernel
theorem dX7_bits_7 : decode cX7_bits 7 = .ok (.if_icmp .ge 17, 3) := by decide +kernel
theorem dX7_bits_10 : decode cX7_bits 10 = .ok (.iload_n 1, 1) := by decide +kernel
theorem dX7_bits_11 : decode cX7_bits 11 = .ok (.iload_n 0, 1) := by decide +kernel
theorem dX7_bits_12 : decode cX7_bits 12 = .ok (.iload_n 2, 1) := by decide +kernel
theorem dX7_bits_13 : decode cX7_bits 13 = .ok (.ishr, 1) := by decide +kernel
theorem dX7_bits_14 : decode cX7_bits 14 = .ok (.iconst 1, 1) := by decide +kernel
theorem dX7_bits_15 : decode cX7_bits 15 = .ok (.iand, 1) := by decide +kernel
theorem dX7_bits_16 : decode cX7_bits 16 = .ok (.iadd, 1) := by decide +kernel
theorem dX7_bits_17 : decode cX7_bits 17 = .ok (.istore_n 1, 1) := by decide +kernel
theorem dX7_bits_18 : decode cX7_bits 18 = .ok (.iinc 2 1, 3) := by decide +kernel
theorem dX7_bits_21 : decode cX7_bits 21 = .ok (.goto (-17), 3) := by decide +kernel
theorem dX7_bits_24 : decode cX7_bits 24 = .ok (.iload_n 1, 1) := by decide +kernel
theorem dX7_bits_25 : decode cX7_bits 25 = .ok (.ireturn, 1) := by decide +kernel
theorem dX7_isInOrder_0 : decode cX7_isInOrder 0 = .ok (.iconst 1, 1) := by decide +kernel
theorem dX7_isInOrder_1 : decode cX7_isInOrder 1 = .ok (.istore_n 3, 1) := by decide +kernel
theorem dX7_isInOrder_2 : decode cX7_isInOrder 2 = .ok (.iconst 1, 1) := by decide +kernel
theorem dX7_isInOrder_3 : decode cX7_isInOrder 3 = .ok (.istore 4, 2) := by decide +kernel
theorem dX7_isInOrder_5 : decode cX7_isInOrder 5 = .ok (.iload 4, 2) := by decide +kernel
theorem dX7_isInOrder_7 : decode cX7_isInOrder 7 = .ok (.aload_n 0, 1) := by decide +kernel
theorem dX7_isInOrder_8 : decode cX7_isInOrder 8 = .ok (.iload_n 1, 1) := by decide +kernel
theorem dX7_isInOrder_9 : decode cX7_isInOrder 9 = .ok (.invokevirtual 52, 3) := by decide +kernel
theorem dX7_isInOrder_12 : decode cX7_isInOrder 12 = .ok (.if_icmp .ge 64, 3) := by decide +kernel
theorem dX7_isInOrder_15 : decode cX7_isInOrder 15 = .ok (.iload_n 3, 1) := by decide +kernel
theorem dX7_isInOrder_16 : decode cX7_isInOrder 16 = .ok (.ifCond .eq 52, 3) := by decide +kernel
theorem dX7_isInOrder_19 : decode cX7_isInOrder 19 = .ok (.iload_n 2, 1) := by decide +kernel
theorem dX7_isInOrder_20 : decode cX7_isInOrder 20 = .ok (.ifCond .eq 25, 3) := by decide +kernel
theorem dX7_isInOrder_23 : decode cX7_isInOrder 23 = .ok (.aload_n 0, 1) := by decide +kernel
theorem dX7_isInOrder_24 : decode cX7_isInOrder 24 = .ok (.iload_n 1, 1) := by decide +kernel
theorem dX7_isInOrder_25 : decode cX7_isInOrder 25 = .ok (.iload 4, 2) := by decide +kernel
theorem dX7_isInOrder_27 : decode cX7_isInOrder 27 = .ok (.invokevirtual 66, 3) := by decide +kernel
theorem dX7_isInOrder_30 : decode cX7_isInOrder 30 = .ok (.aload_n 0, 1) := by decide +kernel
theorem dX7_isInOrder_31 : decode cX7_isInOrder 31 = .ok (.iload_n 1, 1) := by decide +kernel
theorem dX7_isInOrder_32 : decode cX7_isInOrder 32 = .ok (.iload 4, 2) := by decide +kernel
theorem dX7_isInOrder_34 : decode cX7_isInOrder 34 = .ok (.iconst 1, 1) := by decide +kernel
theorem dX7_isInOrder_35 : decode cX7_isInOrder 35 = .ok (.isub, 1) := by decide +kernel
theorem dX7_isInOrder_36 : decode cX7_isInOrder 36 = .ok (.invokevirtual 66, 3) := by decide +kernel
theorem dX7_isInOrder_39 : decode cX7_isInOrder 39 = .ok (.if_icmp .le 29, 3) := by decide +kernel
theorem dX7_isInOrder_42 : decode cX7_isInOrder 42 = .ok (.goto 22, 3) := by decide +kernel
theorem dX7_isInOrder_45 : decode cX7_isInOrder 45 = .ok (.aload_n 0, 1) := by decide +kernel
theorem dX7_isInOrder_46 : decode cX7_isInOrder 46 = .ok (.iload_n 1, 1) := by decide +kernel
theorem dX7_isInOrder_47 : decode cX7_isInOrder 47 = .ok (.iload 4, 2) := by decide +kernel
theorem dX7_isInOrder_49 : decode cX7_isInOrder 49 = .ok (.invokevirtual 66, 3) := by decide +kernel
theorem dX7_isInOrder_52 : decode cX7_isInOrder 52 = .ok (.aload_n 0, 1) := by decide +kernel
theorem dX7_isInOrder_53 : decode cX7_isInOrder 53 = .ok (.iload_n 1, 1) := by decide +kernel
theorem dX7_isInOrder_54 : decode cX7_isInOrder 54 = .ok (.iload 4, 2) := by decide +kernel
theorem dX7_isInOrder_56 : decode cX7_isInOrder 56 = .ok (.iconst 1, 1) := by decide +kernel
theorem dX7_isInOrder_57 : decode cX7_isInOrder 57 = .ok (.isub, 1) := by decide +kernel
theorem dX7_isInOrder_58 : decode cX7_isInOrder 58 = .ok (.invokevirtual 66, 3) := by decide +kernel
theorem dX7_isInOrder_61 : decode cX7_isInOrder 61 = .ok (.if_icmp .ge 7, 3) := by decide +kernel
theorem dX7_isInOrder_64 : decode cX7_isInOrder 64 = .ok (.iconst 1, 1) := by decide +kernel
theorem dX7_isInOrder_65 : decode cX7_isInOrder 65 = .ok (.goto 4, 3) := by decide +kernel
theorem dX7_isInOrder_68 : decode cX7_isInOrder 68 = .ok (.iconst 0, 1) := by decide +kernel
theorem dX7_isInOrder_69 : decode cX7_isInOrder 69 = .ok (.istore_n 3, 1) := by decide +kernel
theorem dX7_isInOrder_70 : decode cX7_isInOrder 70 = .ok (.iinc 4 1, 3) := by decide +kernel
theorem dX7_isInOrder_73 : decode cX7_isInOrder 73 = .ok (.goto (-68), 3) := by decide +kernel
theorem dX7_isInOrder_76 : decode cX7_isInOrder 76 = .ok (.iload_n 3, 1) := by decide +kernel
theorem dX7_isInOrder_77 : decode cX7_isInOrder 77 = .ok (.ireturn, 1) := by decide +kernel
theorem dX7_longest_0 : decode cX7_longest 0 = .ok (.iconst 0, 1) := by decide +kernel
theorem dX7_longest_1 : decode cX7_longest 1 = .ok (.istore_n 3, 1) := by decide +kernel
theorem dX7_longest_2 : decode cX7_longest 2 = .ok (.iconst 0, 1) := by decide +kernel
theorem dX7_longest_3 : decode cX7_longest 3 = .ok (.istore 4, 2) := by decide +kernel
theorem dX7_longest_5 : decode cX7_longest 5 = .ok (.iload 4, 2) := by decide +kernel
theorem dX7_longest_7 : decode cX7_longest 7 = .ok (.aload_n 0, 1) := by decide +kernel
theorem dX7_longest_8 : decode cX7_longest 8 = .ok (.iload_n 1, 1) := by decide +kernel
theorem dX7_longest_9 : decode cX7_longest 9 = .ok (.invokevirtual 52, 3) := by decide +kernel
theorem dX7_longest_12 : decode cX7_longest 12 = .ok (.if_icmp .ge 59, 3) := by decide +kernel
theorem dX7_longest_15 : decode cX7_longest 15 = .ok (.iload_n 2, 1) := by decide +kernel
theorem dX7_longest_16 : decode cX7_longest 16 = .ok (.ifCond .lt 14, 3) := by decide +kernel
theorem dX7_longest_19 : decode cX7_longest 19 = .ok (.aload_n 0, 1) := by decide +kernel
theorem dX7_longest_20 : decode cX7_longest 20 = .ok (.iload_n 1, 1) := by decide +kernel
theorem dX7_longest_21 : decode cX7_longest 21 = .ok (.iload 4, 2) := by decide +kernel
theorem dX7_longest_23 : decode cX7_longest 23 = .ok (.invokevirtual 66, 3) := by decide +kernel
theorem dX7_longest_26 : decode cX7_longest 26 = .ok (.iload_n 2, 1) := by decide +kernel
theorem dX7_longest_27 : decode cX7_longest 27 = .ok (.if_icmp .ne 7, 3) := by decide +kernel
theorem dX7_longest_30 : decode cX7_longest 30 = .ok (.iconst 1, 1) := by decide +kernel
theorem dX7_longest_31 : decode cX7_longest 31 = .ok (.goto 4, 3) := by decide +kernel
theorem dX7_longest_34 : decode cX7_longest 34 = .ok (.iconst 0, 1) := by decide +kernel
theorem dX7_longest_35 : decode cX7_longest 35 = .ok (.istore 5, 2) := by decide +kernel
theorem dX7_longest_37 : decode cX7_longest 37 = .ok (.iload 5, 2) := by decide +kernel
theorem dX7_longest_39 : decode cX7_longest 39 = .ok (.ifCond .eq 24, 3) := by decide +kernel
theorem dX7_longest_42 : decode cX7_longest 42 = .ok (.aload_n 0, 1) := by decide +kernel
theorem dX7_longest_43 : decode cX7_longest 43 = .ok (.iload_n 1, 1) := by decide +kernel
theorem dX7_longest_44 : decode cX7_longest 44 = .ok (.iload 4, 2) := by decide +kernel
theorem dX7_longest_46 : decode cX7_longest 46 = .ok (.invokevirtual 56, 3) := by decide +kernel
theorem dX7_longest_49 : decode cX7_longest 49 = .ok (.iload_n 3, 1) := by decide +kernel
theorem dX7_longest_50 : decode cX7_longest 50 = .ok (.if_icmp .le 13, 3) := by decide +kernel
theorem dX7_longest_53 : decode cX7_longest 53 = .ok (.aload_n 0, 1) := by decide +kernel
theorem dX7_longest_54 : decode cX7_longest 54 = .ok (.iload_n 1, 1) := by decide +kernel
theorem dX7_longest_55 : decode cX7_longest 55 = .ok (.iload 4, 2) := by decide +kernel
theorem dX7_longest_57 : decode cX7_longest 57 = .ok (.invokevirtual 56, 3) := by decide +kernel
theorem dX7_longest_60 : decode cX7_longest 60 = .ok (.goto 4, 3) := by decide +kernel
theorem dX7_longest_63 : decode cX7_longest 63 = .ok (.iload_n 3, 1) := by decide +kernel
theorem dX7_longest_64 : decode cX7_longest 64 = .ok (.istore_n 3, 1) := by decide +kernel
theorem dX7_longest_65 : decode cX7_longest 65 = .ok (.iinc 4 1, 3) := by decide +kernel
theorem dX7_longest_68 : decode cX7_longest 68 = .ok (.goto (-63), 3) := by decide +kernel
theorem dX7_longest_71 : decode cX7_longest 71 = .ok (.iload_n 3, 1) := by decide +kernel
theorem dX7_longest_72 : decode cX7_longest 72 = .ok (.ireturn, 1) := by decide +kernel
theorem dX7_ofColumn_0 : decode cX7_ofColumn 0 = .ok (.iload_n 1, 1) := by decide +kernel
theorem dX7_ofColumn_1 : decode cX7_ofColumn 1 = .ok (.invokestatic 76, 3) := by decide +kernel
theorem dX7_ofColumn_4 : decode cX7_ofColumn 4 = .ok (.ifCond .ne 5, 3) := by decide +kernel
theorem dX7_ofColumn_7 : decode cX7_ofColumn 7 = .ok (.iconst (-1), 1) := by decide +kernel
theorem dX7_ofColumn_8 : decode cX7_ofColumn 8 = .ok (.ireturn, 1) := by decide +kernel
theorem dX7_ofColumn_9 : decode cX7_ofColumn 9 = .ok (.iload_n 2, 1) := by decide +kernel
theorem dX7_ofColumn_10 : decode cX7_ofColumn 10 = .ok (.tableswitch 104 0 6 #[42, 48, 54, 60, 68, 74, 89], 42) := by decide +kernel
theorem dX7_ofColumn_52 : decode cX7_ofColumn 52 = .ok (.aload_n 0, 1) := by decide +kernel
theorem dX7_ofColumn_53 : decode cX7_ofColumn 53 = .ok (.iload_n 1, 1) := by decide +kernel
theorem dX7_ofColumn_54 : decode cX7_ofColumn 54 = .ok (.invokevirtual 60, 3) := by decide +kernel
theorem dX7_ofColumn_57 : decode cX7_ofColumn 57 = .ok (.ireturn, 1) := by decide +kernel
theorem dX7_ofColumn_58 : decode cX7_ofColumn 58 = .ok (.aload_n 0, 1) := by decide +kernel
theorem dX7_ofColumn_59 : decode cX7_ofColumn 59 = .ok (.iload_n 1, 1) := by decide +kernel
theorem dX7_ofColumn_60 : decode cX7_ofColumn 60 = .ok (.invokevirtual 52, 3) := by decide +kernel
theorem dX7_ofColumn_63 : decode cX7_ofColumn 63 = .ok (.ireturn, 1) := by decide +kernel
theorem dX7_ofColumn_64 : decode cX7_ofColumn 64 = .ok (.aload_n 0, 1) := by decide +kernel
theorem dX7_ofColumn_65 : decode cX7_ofColumn 65 = .ok (.iload_n 1, 1) := by decide +kernel
theorem dX7_ofColumn_66 : decode cX7_ofColumn 66 = .ok (.invokevirtual 130, 3) := by decide +kernel
theorem dX7_ofColumn_69 : decode cX7_ofColumn 69 = .ok (.ireturn, 1) := by decide +kernel
theorem dX7_ofColumn_70 : decode cX7_ofColumn 70 = .ok (.aload_n 0, 1) := by decide +kernel
theorem dX7_ofColumn_71 : decode cX7_ofColumn 71 = .ok (.iload_n 1, 1) := by decide +kernel
theorem dX7_ofColumn_72 : decode cX7_ofColumn 72 = .ok (.bipush (-6), 2) := by decide +kernel
theorem dX7_ofColumn_74 : decode cX7_ofColumn 74 = .ok (.invokevirtual 133, 3) := by decide +kernel
theorem dX7_ofColumn_77 : decode cX7_ofColumn 77 = .ok (.ireturn, 1) := by decide +kernel
theorem dX7_ofColumn_78 : decode cX7_ofColumn 78 = .ok (.aload_n 0, 1) := by decide +kernel
theorem dX7_ofColumn_79 : decode cX7_ofColumn 79 = .ok (.iload_n 1, 1) := by decide +kernel
theorem dX7_ofColumn_80 : decode cX7_ofColumn 80 = .ok (.invokevirtual 136, 3) := by decide +kernel
theorem dX7_ofColumn_83 : decode cX7_ofColumn 83 = .ok (.ireturn, 1) := by decide +kernel
theorem dX7_ofColumn_84 : decode cX7_ofColumn 84 = .ok (.aload_n 0, 1) := by decide +kernel
theorem dX7_ofColumn_85 : decode cX7_ofColumn 85 = .ok (.iload_n 1, 1) := by decide +kernel
theorem dX7_ofColumn_86 : decode cX7_ofColumn 86 = .ok (.iconst 1, 1) := by decide +kernel
theorem dX7_ofColumn_87 : decode cX7_ofColumn 87 = .ok (.invokevirtual 139, 3) := by decide +kernel
theorem dX7_ofColumn_90 : decode cX7_ofColumn 90 = .ok (.ifCond .eq 7, 3) := by decide +kernel
theorem dX7_ofColumn_93 : decode cX7_ofColumn 93 = .ok (.iconst 1, 1) := by decide +kernel
theorem dX7_ofColumn_94 : decode cX7_ofColumn 94 = .ok (.goto 4, 3) := by decide +kernel
theorem dX7_ofColumn_97 : decode cX7_ofColumn 97 = .ok (.iconst 0, 1) := by decide +kernel
theorem dX7_ofColumn_98 : decode cX7_ofColumn 98 = .ok (.ireturn, 1) := by decide +kernel
theorem dX7_ofColumn_99 : decode cX7_ofColumn 99 = .ok (.aload_n 0, 1) := by decide +kernel
theorem dX7_ofColumn_100 : decode cX7_ofColumn 100 = .ok (.iload_n 1, 1) := by decide +kernel
theorem dX7_ofColumn_101 : decode cX7_ofColumn 101 = .ok (.iconst 0, 1) := by decide +kernel
theorem dX7_ofColumn_102 : decode cX7_ofColumn 102 = .ok (.invokevirtual 139, 3) := by decide +kernel
theorem dX7_ofColumn_105 : decode cX7_ofColumn 105 = .ok (.ifCond .eq 7, 3) := by decide +kernel
theorem dX7_ofColumn_108 : decode cX7_ofColumn 108 = .ok (.iconst 1, 1) := by decide +kernel
theorem dX7_ofColumn_109 : decode cX7_ofColumn 109 = .ok (.goto 4, 3) := by decide +kernel
theorem dX7_ofColumn_112 : decode cX7_ofColumn 112 = .ok (.iconst 0, 1) := by decide +kernel
theorem dX7_ofColumn_113 : decode cX7_ofColumn 113 = .ok (.ireturn, 1) := by decide +kernel
theorem dX7_ofColumn_114 : decode cX7_ofColumn 114 = .ok (.bipush (-2), 2) := by decide +kernel
theorem dX7_ofColumn_116 : decode cX7_ofColumn 116 = .ok (.ireturn, 1) := by decide +kernel
theorem dX7_ofValue_0 : decode cX7_ofValue 0 = .ok (.iconst 0, 1) := by decide +kernel
theorem dX7_ofValue_1 : decode cX7_ofValue 1 = .ok (.istore 4, 2) := by decide +kernel
theorem dX7_ofValue_3 : decode cX7_ofValue 3 = .ok (.iconst 0, 1) := by decide +kernel
theorem dX7_ofValue_4 : decode cX7_ofValue 4 = .ok (.istore 5, 2) := by decide +kernel
theorem dX7_ofValue_6 : decode cX7_ofValue 6 = .ok (.iload 5, 2) := by decide +kernel
theorem dX7_ofValue_8 : decode cX7_ofValue 8 = .ok (.aload_n 0, 1) := by decide +kernel
theorem dX7_ofValue_9 : decode cX7_ofValue 9 = .ok (.iload_n 1, 1) := by decide +kernel
theorem dX7_ofValue_10 : decode cX7_ofValue 10 = .ok (.invokevirtual 52, 3) := by decide +kernel
theorem dX7_ofValue_13 : decode cX7_ofValue 13 = .ok (.if_icmp .ge 48, 3) := by decide +kernel
theorem dX7_ofValue_16 : decode cX7_ofValue 16 = .ok (.iload_n 3, 1) := by decide +kernel
theorem dX7_ofValue_17 : decode cX7_ofValue 17 = .ok (.ifCond .eq 7, 3) := by decide +kernel
theorem dX7_ofValue_20 : decode cX7_ofValue 20 = .ok (.iconst 1, 1) := by decide +kernel
theorem dX7_ofValue_21 : decode cX7_ofValue 21 = .ok (.goto 10, 3) := by decide +kernel
theorem dX7_ofValue_24 : decode cX7_ofValue 24 = .ok (.aload_n 0, 1) := by decide +kernel
theorem dX7_ofValue_25 : decode cX7_ofValue 25 = .ok (.iload_n 1, 1) := by decide +kernel
theorem dX7_ofValue_26 : decode cX7_ofValue 26 = .ok (.iload 5, 2) := by decide +kernel
theorem dX7_ofValue_28 : decode cX7_ofValue 28 = .ok (.invokevirtual 56, 3) := by decide +kernel
theorem dX7_ofValue_31 : decode cX7_ofValue 31 = .ok (.istore 6, 2) := by decide +kernel
theorem dX7_ofValue_33 : decode cX7_ofValue 33 = .ok (.iload 4, 2) := by decide +kernel
theorem dX7_ofValue_35 : decode cX7_ofValue 35 = .ok (.aload_n 0, 1) := by decide +kernel
theorem dX7_ofValue_36 : decode cX7_ofValue 36 = .ok (.iload_n 1, 1) := by decide +kernel
theorem dX7_ofValue_37 : decode cX7_ofValue 37 = .ok (.iload 5, 2) := by decide +kernel
theorem dX7_ofValue_39 : decode cX7_ofValue 39 = .ok (.invokevirtual 66, 3) := by decide +kernel
theorem dX7_ofValue_42 : decode cX7_ofValue 42 = .ok (.iload_n 2, 1) := by decide +kernel
theorem dX7_ofValue_43 : decode cX7_ofValue 43 = .ok (.if_icmp .ne 8, 3) := by decide +kernel
theorem dX7_ofValue_46 : decode cX7_ofValue 46 = .ok (.iload 6, 2) := by decide +kernel
theorem dX7_ofValue_48 : decode cX7_ofValue 48 = .ok (.goto 4, 3) := by decide +kernel
theorem dX7_ofValue_51 : decode cX7_ofValue 51 = .ok (.iconst 0, 1) := by decide +kernel
theorem dX7_ofValue_52 : decode cX7_ofValue 52 = .ok (.iadd, 1) := by decide +kernel
theorem dX7_ofValue_53 : decode cX7_ofValue 53 = .ok (.istore 4, 2) := by decide +kernel
theorem dX7_ofValue_55 : decode cX7_ofValue 55 = .ok (.iinc 5 1, 3) := by decide +kernel
theorem dX7_ofValue_58 : decode cX7_ofValue 58 = .ok (.goto (-52), 3) := by decide +kernel
theorem dX7_ofValue_61 : decode cX7_ofValue 61 = .ok (.iload 4, 2) := by decide +kernel
theorem dX7_ofValue_63 : decode cX7_ofValue 63 = .ok (.ireturn, 1) := by decide +kernel
theorem dX7_group_0 : decode cX7_group 0 = .ok (.iload_n 1, 1) := by decide +kernel
theorem dX7_group_1 : decode cX7_group 1 = .ok (.invokestatic 76, 3) := by decide +kernel
theorem dX7_group_4 : decode cX7_group 4 = .ok (.ifCond .ne 5, 3) := by decide +kernel
theorem dX7_group_7 : decode cX7_group 7 = .ok (.iconst (-1), 1) := by decide +kernel
theorem dX7_group_8 : decode cX7_group 8 = .ok (.ireturn, 1) := by decide +kernel
theorem dX7_group_9 : decode cX7_group 9 = .ok (.iload_n 2, 1) := by decide +kernel
theorem dX7_group_10 : decode cX7_group 10 = .ok (.invokestatic 80, 3) := by decide +kernel
theorem dX7_group_13 : decode cX7_group 13 = .ok (.ifCond .eq 12, 3) := by decide +kernel
theorem dX7_group_16 : decode cX7_group 16 = .ok (.iload_n 3, 1) := by decide +kernel
theorem dX7_group_17 : decode cX7_group 17 = .ok (.iconst 0, 1) := by decide +kernel
theorem dX7_group_18 : decode cX7_group 18 = .ok (.iconst 2, 1) := by decide +kernel
theorem dX7_group_19 : decode cX7_group 19 = .ok (.invokestatic 48, 3) := by decide +kernel
theorem dX7_group_22 : decode cX7_group 22 = .ok (.ifCond .ne 6, 3) := by decide +kernel
theorem dX7_group_25 : decode cX7_group 25 = .ok (.bipush (-2), 2) := by decide +kernel
theorem dX7_group_27 : decode cX7_group 27 = .ok (.ireturn, 1) := by decide +kernel
theorem dX7_group_28 : decode cX7_group 28 = .ok (.iload_n 3, 1) := by decide +kernel
theorem dX7_group_29 : decode cX7_group 29 = .ok (.iconst 2, 1) := by decide +kernel
theorem dX7_group_30 : decode cX7_group 30 = .ok (.if_icmp .ne 12, 3) := by decide +kernel
theorem dX7_group_33 : decode cX7_group 33 = .ok (.aload_n 0, 1) := by decide +kernel
theorem dX7_group_34 : decode cX7_group 34 = .ok (.iload_n 1, 1) := by decide +kernel
theorem dX7_group_35 : decode cX7_group 35 = .ok (.iload_n 2, 1) := by decide +kernel
theorem dX7_group_36 : decode cX7_group 36 = .ok (.invokevirtual 133, 3) := by decide +kernel
theorem dX7_group_39 : decode cX7_group 39 = .ok (.goto 19, 3) := by decide +kernel
theorem dX7_group_42 : decode cX7_group 42 = .ok (.aload_n 0, 1) := by decide +kernel
theorem dX7_group_43 : decode cX7_group 43 = .ok (.iload_n 1, 1) := by decide +kernel
theorem dX7_group_44 : decode cX7_group 44 = .ok (.iload_n 2, 1) := by decide +kernel
theorem dX7_group_45 : decode cX7_group 45 = .ok (.iload_n 3, 1) := by decide +kernel
theorem dX7_group_46 : decode cX7_group 46 = .ok (.iconst 1, 1) := by decide +kernel
theorem dX7_group_47 : decode cX7_group 47 = .ok (.if_icmp .ne 7, 3) := by decide +kernel
theorem dX7_group_50 : decode cX7_group 50 = .ok (.iconst 1, 1) := by decide +kernel
theorem dX7_group_51 : decode cX7_group 51 = .ok (.goto 4, 3) := by decide +kernel
theorem dX7_group_54 : decode cX7_group 54 = .ok (.iconst 0, 1) := by decide +kernel
theorem dX7_group_55 : decode cX7_group 55 = .ok (.invokevirtual 143, 3) := by decide +kernel
theorem dX7_group_58 : decode cX7_group 58 = .ok (.ireturn, 1) := by decide +kernel
theorem dX7_allRuns_0 : decode cX7_allRuns 0 = .ok (.iconst 0, 1) := by decide +kernel
theorem dX7_allRuns_1 : decode cX7_allRuns 1 = .ok (.istore_n 1, 1) := by decide +kernel
theorem dX7_allRuns_2 : decode cX7_allRuns 2 = .ok (.iconst 0, 1) := by decide +kernel
theorem dX7_allRuns_3 : decode cX7_allRuns 3 = .ok (.istore_n 2, 1) := by decide +kernel
theorem dX7_allRuns_4 : decode cX7_allRuns 4 = .ok (.iload_n 2, 1) := by decide +kernel
theorem dX7_allRuns_5 : decode cX7_allRuns 5 = .ok (.iconst 4, 1) := by decide +kernel
theorem dX7_allRuns_6 : decode cX7_allRuns 6 = .ok (.if_icmp .ge 17, 3) := by decide +kernel
theorem dX7_allRuns_9 : decode cX7_allRuns 9 = .ok (.iload_n 1, 1) := by decide +kernel
theorem dX7_allRuns_10 : decode cX7_allRuns 10 = .ok (.aload_n 0, 1) := by decide +kernel
theorem dX7_allRuns_11 : decode cX7_allRuns 11 = .ok (.iload_n 2, 1) := by decide +kernel
theorem dX7_allRuns_12 : decode cX7_allRuns 12 = .ok (.invokevirtual 52, 3) := by decide +kernel
theorem dX7_allRuns_15 : decode cX7_allRuns 15 = .ok (.iadd, 1) := by decide +kernel
theorem dX7_allRuns_16 : decode cX7_allRuns 16 = .ok (.istore_n 1, 1) := by decide +kernel
theorem dX7_allRuns_17 : decode cX7_allRuns 17 = .ok (.iinc 2 1, 3) := by decide +kernel
theorem dX7_allRuns_20 : decode cX7_allRuns 20 = .ok (.goto (-16), 3) := by decide +kernel
theorem dX7_allRuns_23 : decode cX7_allRuns 23 = .ok (.iload_n 1, 1) := by decide +kernel
theorem dX7_allRuns_24 : decode cX7_allRuns 24 = .ok (.ireturn, 1) := by decide +kernel
theorem dX7_allRows_0 : decode cX7_allRows 0 = .ok (.iconst 0, 1) := by decide +kernel
theorem dX7_allRows_1 : decode cX7_allRows 1 = .ok (.istore_n 1, 1) := by decide +kernel
theorem dX7_allRows_2 : decode cX7_allRows 2 = .ok (.iconst 0, 1) := by decide +kernel
theorem dX7_allRows_3 : decode cX7_allRows 3 = .ok (.istore_n 2, 1) := by decide +kernel
theorem dX7_allRows_4 : decode cX7_allRows 4 = .ok (.iload_n 2, 1) := by decide +kernel
theorem dX7_allRows_5 : decode cX7_allRows 5 = .ok (.iconst 4, 1) := by decide +kernel
theorem dX7_allRows_6 : decode cX7_allRows 6 = .ok (.if_icmp .ge 17, 3) := by decide +kernel
theorem dX7_allRows_9 : decode cX7_allRows 9 = .ok (.iload_n 1, 1) := by decide +kernel
theorem dX7_allRows_10 : decode cX7_allRows 10 = .ok (.aload_n 0, 1) := by decide +kernel
theorem dX7_allRows_11 : decode cX7_allRows 11 = .ok (.iload_n 2, 1) := by decide +kernel
theorem dX7_allRows_12 : decode cX7_allRows 12 = .ok (.invokevirtual 60, 3) := by decide +kernel
theorem dX7_allRows_15 : decode cX7_allRows 15 = .ok (.iadd, 1) := by decide +kernel
theorem dX7_allRows_16 : decode cX7_allRows 16 = .ok (.istore_n 1, 1) := by decide +kernel
theorem dX7_allRows_17 : decode cX7_allRows 17 = .ok (.iinc 2 1, 3) := by decide +kernel
theorem dX7_allRows_20 : decode cX7_allRows 20 = .ok (.goto (-16), 3) := by decide +kernel
theorem dX7_allRows_23 : decode cX7_allRows 23 = .ok (.iload_n 1, 1) := by decide +kernel
theorem dX7_allRows_24 : decode cX7_allRows 24 = .ok (.ireturn, 1) := by decide +kernel
theorem dX7_count_0 : decode cX7_count 0 = .ok (.iload_n 1, 1) := by decide +kernel
theorem dX7_count_1 : decode cX7_count 1 = .ok (.tableswitch 51 0 3 #[31, 36, 41, 46], 31) := by decide +kernel
theorem dX7_count_32 : decode cX7_count 32 = .ok (.aload_n 0, 1) := by decide +kernel
theorem dX7_count_33 : decode cX7_count 33 = .ok (.invokevirtual 147, 3) := by decide +kernel
theorem dX7_count_36 : decode cX7_count 36 = .ok (.ireturn, 1) := by decide +kernel
theorem dX7_count_37 : decode cX7_count 37 = .ok (.aload_n 0, 1) := by decide +kernel
theorem dX7_count_38 : decode cX7_count 38 = .ok (.invokevirtual 150, 3) := by decide +kernel
theorem dX7_count_41 : decode cX7_count 41 = .ok (.ireturn, 1) := by decide +kernel
theorem dX7_count_42 : decode cX7_count 42 = .ok (.aload_n 0, 1) := by decide +kernel
theorem dX7_count_43 : decode cX7_count 43 = .ok (.getfield 153, 3) := by decide +kernel
theorem dX7_count_46 : decode cX7_count 46 = .ok (.ireturn, 1) := by decide +kernel
theorem dX7_count_47 : decode cX7_count 47 = .ok (.aload_n 0, 1) := by decide +kernel
theorem dX7_count_48 : decode cX7_count 48 = .ok (.getfield 40, 3) := by decide +kernel
theorem dX7_count_51 : decode cX7_count 51 = .ok (.ireturn, 1) := by decide +kernel
theorem dX7_count_52 : decode cX7_count 52 = .ok (.bipush (-2), 2) := by decide +kernel
theorem dX7_count_54 : decode cX7_count 54 = .ok (.ireturn, 1) := by decide +kernel
theorem dX7_isFirstPair_0 : decode cX7_isFirstPair 0 = .ok (.iload_n 1, 1) := by decide +kernel
theorem dX7_isFirstPair_1 : decode cX7_isFirstPair 1 = .ok (.ifCond .eq 37, 3) := by decide +kernel
theorem dX7_isFirstPair_4 : decode cX7_isFirstPair 4 = .ok (.aload_n 0, 1) := by decide +kernel
theorem dX7_isFirstPair_5 : decode cX7_isFirstPair 5 = .ok (.getfield 25, 3) := by decide +kernel
theorem dX7_isFirstPair_8 : decode cX7_isFirstPair 8 = .ok (.iload_n 1, 1) := by decide +kernel
theorem dX7_isFirstPair_9 : decode cX7_isFirstPair 9 = .ok (.iaload, 1) := by decide +kernel
theorem dX7_isFirstPair_10 : decode cX7_isFirstPair 10 = .ok (.aload_n 0, 1) := by decide +kernel
theorem dX7_isFirstPair_11 : decode cX7_isFirstPair 11 = .ok (.getfield 25, 3) := by decide +kernel
theorem dX7_isFirstPair_14 : decode cX7_isFirstPair 14 = .ok (.iload_n 1, 1) := by decide +kernel
theorem dX7_isFirstPair_15 : decode cX7_isFirstPair 15 = .ok (.iconst 1, 1) := by decide +kernel
theorem dX7_isFirstPair_16 : decode cX7_isFirstPair 16 = .ok (.isub, 1) := by decide +kernel
theorem dX7_isFirstPair_17 : decode cX7_isFirstPair 17 = .ok (.iaload, 1) := by decide +kernel
theorem dX7_isFirstPair_18 : decode cX7_isFirstPair 18 = .ok (.if_icmp .ne 20, 3) := by decide +kernel
theorem dX7_isFirstPair_21 : decode cX7_isFirstPair 21 = .ok (.aload_n 0, 1) := by decide +kernel
theorem dX7_isFirstPair_22 : decode cX7_isFirstPair 22 = .ok (.getfield 28, 3) := by decide +kernel
theorem dX7_isFirstPair_25 : decode cX7_isFirstPair 25 = .ok (.iload_n 1, 1) := by decide +kernel
theorem dX7_isFirstPair_26 : decode cX7_isFirstPair 26 = .ok (.iaload, 1) := by decide +kernel
theorem dX7_isFirstPair_27 : decode cX7_isFirstPair 27 = .ok (.aload_n 0, 1) := by decide +kernel
theorem dX7_isFirstPair_28 : decode cX7_isFirstPair 28 = .ok (.getfield 28, 3) := by decide +kernel
theorem dX7_isFirstPair_31 : decode cX7_isFirstPair 31 = .ok (.iload_n 1, 1) := by decide +kernel
theorem dX7_isFirstPair_32 : decode cX7_isFirstPair 32 = .ok (.iconst 1, 1) := by decide +kernel
theorem dX7_isFirstPair_33 : decode cX7_isFirstPair 33 = .ok (.isub, 1) := by decide +kernel
theorem dX7_isFirstPair_34 : decode cX7_isFirstPair 34 = .ok (.iaload, 1) := by decide +kernel
theorem dX7_isFirstPair_35 : decode cX7_isFirstPair 35 = .ok (.if_icmp .eq 7, 3) := by decide +kernel
theorem dX7_isFirstPair_38 : decode cX7_isFirstPair 38 = .ok (.iconst 1, 1) := by decide +kernel
theorem dX7_isFirstPair_39 : decode cX7_isFirstPair 39 = .ok (.goto 4, 3) := by decide +kernel
theorem dX7_isFirstPair_42 : decode cX7_isFirstPair 42 = .ok (.iconst 0, 1) := by decide +kernel
theorem dX7_isFirstPair_43 : decode cX7_isFirstPair 43 = .ok (.ireturn, 1) := by decide +kernel
theorem dX7_pair_0 : decode cX7_pair 0 = .ok (.iload_n 1, 1) := by decide +kernel
theorem dX7_pair_1 : decode cX7_pair 1 = .ok (.invokestatic 76, 3) := by decide +kernel
theorem dX7_pair_4 : decode cX7_pair 4 = .ok (.ifCond .eq 14, 3) := by decide +kernel
theorem dX7_pair_7 : decode cX7_pair 7 = .ok (.iload_n 2, 1) := by decide +kernel
theorem dX7_pair_8 : decode cX7_pair 8 = .ok (.invokestatic 76, 3) := by decide +kernel
theorem dX7_pair_11 : decode cX7_pair 11 = .ok (.ifCond .eq 7, 3) := by decide +kernel
theorem dX7_pair_14 : decode cX7_pair 14 = .ok (.iload_n 3, 1) := by decide +kernel
theorem dX7_pair_15 : decode cX7_pair 15 = .ok (.ifCond .ge 5, 3) := by decide +kernel
theorem dX7_pair_18 : decode cX7_pair 18 = .ok (.iconst (-1), 1) := by decide +kernel
theorem dX7_pair_19 : decode cX7_pair 19 = .ok (.ireturn, 1) := by decide +kernel
theorem dX7_pair_20 : decode cX7_pair 20 = .ok (.aload_n 0, 1) := by decide +kernel
theorem dX7_pair_21 : decode cX7_pair 21 = .ok (.iload_n 1, 1) := by decide +kernel
theorem dX7_pair_22 : decode cX7_pair 22 = .ok (.iload_n 2, 1) := by decide +kernel
theorem dX7_pair_23 : decode cX7_pair 23 = .ok (.invokevirtual 124, 3) := by decide +kernel
theorem dX7_pair_26 : decode cX7_pair 26 = .ok (.istore 5, 2) := by decide +kernel
theorem dX7_pair_28 : decode cX7_pair 28 = .ok (.iload_n 3, 1) := by decide +kernel
theorem dX7_pair_29 : decode cX7_pair 29 = .ok (.istore 6, 2) := by decide +kernel
theorem dX7_pair_31 : decode cX7_pair 31 = .ok (.bipush (-6), 2) := by decide +kernel
theorem dX7_pair_33 : decode cX7_pair 33 = .ok (.istore 7, 2) := by decide +kernel
theorem dX7_pair_35 : decode cX7_pair 35 = .ok (.iconst 0, 1) := by decide +kernel
theorem dX7_pair_36 : decode cX7_pair 36 = .ok (.istore 8, 2) := by decide +kernel
theorem dX7_pair_38 : decode cX7_pair 38 = .ok (.iconst 0, 1) := by decide +kernel
theorem dX7_pair_39 : decode cX7_pair 39 = .ok (.istore 9, 2) := by decide +kernel
theorem dX7_pair_41 : decode cX7_pair 41 = .ok (.iload 9, 2) := by decide +kernel
theorem dX7_pair_43 : decode cX7_pair 43 = .ok (.iload 5, 2) := by decide +kernel
theorem dX7_pair_45 : decode cX7_pair 45 = .ok (.if_icmp .ge 67, 3) := by decide +kernel
theorem dX7_pair_48 : decode cX7_pair 48 = .ok (.aload_n 0, 1) := by decide +kernel
theorem dX7_pair_49 : decode cX7_pair 49 = .ok (.iload 9, 2) := by decide +kernel
theorem dX7_pair_51 : decode cX7_pair 51 = .ok (.invokevirtual 156, 3) := by decide +kernel
theorem dX7_pair_54 : decode cX7_pair 54 = .ok (.istore 10, 2) := by decide +kernel
theorem dX7_pair_56 : decode cX7_pair 56 = .ok (.iload 10, 2) := by decide +kernel
theorem dX7_pair_58 : decode cX7_pair 58 = .ok (.ifCond .eq 13, 3) := by decide +kernel
theorem dX7_pair_61 : decode cX7_pair 61 = .ok (.iload 6, 2) := by decide +kernel
theorem dX7_pair_63 : decode cX7_pair 63 = .ok (.ifCond .ne 8, 3) := by decide +kernel
theorem dX7_pair_66 : decode cX7_pair 66 = .ok (.iload 9, 2) := by decide +kernel
theorem dX7_pair_68 : decode cX7_pair 68 = .ok (.goto 5, 3) := by decide +kernel
theorem dX7_pair_71 : decode cX7_pair 71 = .ok (.iload 7, 2) := by decide +kernel
theorem dX7_pair_73 : decode cX7_pair 73 = .ok (.istore 7, 2) := by decide +kernel
theorem dX7_pair_75 : decode cX7_pair 75 = .ok (.iload 6, 2) := by decide +kernel
theorem dX7_pair_77 : decode cX7_pair 77 = .ok (.iload 10, 2) := by decide +kernel
theorem dX7_pair_79 : decode cX7_pair 79 = .ok (.ifCond .eq 7, 3) := by decide +kernel
theorem dX7_pair_82 : decode cX7_pair 82 = .ok (.iconst 1, 1) := by decide +kernel
theorem dX7_pair_83 : decode cX7_pair 83 = .ok (.goto 4, 3) := by decide +kernel
theorem dX7_pair_86 : decode cX7_pair 86 = .ok (.iconst 0, 1) := by decide +kernel
theorem dX7_pair_87 : decode cX7_pair 87 = .ok (.isub, 1) := by decide +kernel
theorem dX7_pair_88 : decode cX7_pair 88 = .ok (.istore 6, 2) := by decide +kernel
theorem dX7_pair_90 : decode cX7_pair 90 = .ok (.iload 8, 2) := by decide +kernel
theorem dX7_pair_92 : decode cX7_pair 92 = .ok (.iload 6, 2) := by decide +kernel
theorem dX7_pair_94 : decode cX7_pair 94 = .ok (.iconst (-1), 1) := by decide +kernel
theorem dX7_pair_95 : decode cX7_pair 95 = .ok (.if_icmp .ne 7, 3) := by decide +kernel
theorem dX7_pair_98 : decode cX7_pair 98 = .ok (.iconst 1, 1) := by decide +kernel
theorem dX7_pair_99 : decode cX7_pair 99 = .ok (.goto 4, 3) := by decide +kernel
theorem dX7_pair_102 : decode cX7_pair 102 = .ok (.iconst 0, 1) := by decide +kernel
theorem dX7_pair_103 : decode cX7_pair 103 = .ok (.iadd, 1) := by decide +kernel
theorem dX7_pair_104 : decode cX7_pair 104 = .ok (.istore 8, 2) := by decide +kernel
theorem dX7_pair_106 : decode cX7_pair 106 = .ok (.iinc 9 1, 3) := by decide +kernel
theorem dX7_pair_109 : decode cX7_pair 109 = .ok (.goto (-68), 3) := by decide +kernel
theorem dX7_pair_112 : decode cX7_pair 112 = .ok (.iload 7, 2) := by decide +kernel
theorem dX7_pair_114 : decode cX7_pair 114 = .ok (.bipush (-6), 2) := by decide +kernel
theorem dX7_pair_116 : decode cX7_pair 116 = .ok (.if_icmp .ne 5, 3) := by decide +kernel
theorem dX7_pair_119 : decode cX7_pair 119 = .ok (.iconst (-1), 1) := by decide +kernel
theorem dX7_pair_120 : decode cX7_pair 120 = .ok (.ireturn, 1) := by decide +kernel
theorem dX7_pair_121 : decode cX7_pair 121 = .ok (.iload 4, 2) := by decide +kernel
theorem dX7_pair_123 : decode cX7_pair 123 = .ok (.tableswitch 51 0 3 #[29, 37, 45, 48], 29) := by decide +kernel
theorem dX7_pair_152 : decode cX7_pair 152 = .ok (.aload_n 0, 1) := by decide +kernel
theorem dX7_pair_153 : decode cX7_pair 153 = .ok (.getfield 25, 3) := by decide +kernel
theorem dX7_pair_156 : decode cX7_pair 156 = .ok (.iload 7, 2) := by decide +kernel
theorem dX7_pair_158 : decode cX7_pair 158 = .ok (.iaload, 1) := by decide +kernel
theorem dX7_pair_159 : decode cX7_pair 159 = .ok (.ireturn, 1) := by decide +kernel
theorem dX7_pair_160 : decode cX7_pair 160 = .ok (.aload_n 0, 1) := by decide +kernel
theorem dX7_pair_161 : decode cX7_pair 161 = .ok (.getfield 28, 3) := by decide +kernel
theorem dX7_pair_164 : decode cX7_pair 164 = .ok (.iload 7, 2) := by decide +kernel
theorem dX7_pair_166 : decode cX7_pair 166 = .ok (.iaload, 1) := by decide +kernel
theorem dX7_pair_167 : decode cX7_pair 167 = .ok (.ireturn, 1) := by decide +kernel
theorem dX7_pair_168 : decode cX7_pair 168 = .ok (.iload 8, 2) := by decide +kernel
theorem dX7_pair_170 : decode cX7_pair 170 = .ok (.ireturn, 1) := by decide +kernel
theorem dX7_pair_171 : decode cX7_pair 171 = .ok (.iload 7, 2) := by decide +kernel
theorem dX7_pair_173 : decode cX7_pair 173 = .ok (.ireturn, 1) := by decide +kernel
theorem dX7_pair_174 : decode cX7_pair 174 = .ok (.bipush (-2), 2) := by decide +kernel
theorem dX7_pair_176 : decode cX7_pair 176 = .ok (.ireturn, 1) := by decide +kernel
theorem dX7_ofPairs_0 : decode cX7_ofPairs 0 = .ok (.iconst 0, 1) := by decide +kernel
theorem dX7_ofPairs_1 : decode cX7_ofPairs 1 = .ok (.istore_n 3, 1) := by decide +kernel
theorem dX7_ofPairs_2 : decode cX7_ofPairs 2 = .ok (.iconst 0, 1) := by decide +kernel
theorem dX7_ofPairs_3 : decode cX7_ofPairs 3 = .ok (.istore 4, 2) := by decide +kernel
theorem dX7_ofPairs_5 : decode cX7_ofPairs 5 = .ok (.iconst 0, 1) := by decide +kernel
theorem dX7_ofPairs_6 : decode cX7_ofPairs 6 = .ok (.istore 5, 2) := by decide +kernel
theorem dX7_ofPairs_8 : decode cX7_ofPairs 8 = .ok (.iconst 0, 1) := by decide +kernel
theorem dX7_ofPairs_9 : decode cX7_ofPairs 9 = .ok (.istore 6, 2) := by decide +kernel
theorem dX7_ofPairs_11 : decode cX7_ofPairs 11 = .ok (.iconst 0, 1) := by decide +kernel
theorem dX7_ofPairs_12 : decode cX7_ofPairs 12 = .ok (.istore 7, 2) := by decide +kernel
theorem dX7_ofPairs_14 : decode cX7_ofPairs 14 = .ok (.iload 7, 2) := by decide +kernel
theorem dX7_ofPairs_16 : decode cX7_ofPairs 16 = .ok (.bipush 100, 2) := by decide +kernel
theorem dX7_ofPairs_18 : decode cX7_ofPairs 18 = .ok (.if_icmp .ge 17, 3) := by decide +kernel
theorem dX7_ofPairs_21 : decode cX7_ofPairs 21 = .ok (.aload_n 0, 1) := by decide +kernel
theorem dX7_ofPairs_22 : decode cX7_ofPairs 22 = .ok (.getfield 31, 3) := by decide +kernel
theorem dX7_ofPairs_25 : decode cX7_ofPairs 25 = .ok (.iload 7, 2) := by decide +kernel
theorem dX7_ofPairs_27 : decode cX7_ofPairs 27 = .ok (.iconst 0, 1) := by decide +kernel
theorem dX7_ofPairs_28 : decode cX7_ofPairs 28 = .ok (.iastore, 1) := by decide +kernel
theorem dX7_ofPairs_29 : decode cX7_ofPairs 29 = .ok (.iinc 7 1, 3) := by decide +kernel
theorem dX7_ofPairs_32 : decode cX7_ofPairs 32 = .ok (.goto (-18), 3) := by decide +kernel
theorem dX7_ofPairs_35 : decode cX7_ofPairs 35 = .ok (.iconst 0, 1) := by decide +kernel
theorem dX7_ofPairs_36 : decode cX7_ofPairs 36 = .ok (.istore 7, 2) := by decide +kernel
theorem dX7_ofPairs_38 : decode cX7_ofPairs 38 = .ok (.iload 7, 2) := by decide +kernel
theorem dX7_ofPairs_40 : decode cX7_ofPairs 40 = .ok (.iload_n 1, 1) := by decide +kernel
theorem dX7_ofPairs_41 : decode cX7_ofPairs 41 = .ok (.if_icmp .ge 121, 3) := by decide +kernel
theorem dX7_ofPairs_44 : decode cX7_ofPairs 44 = .ok (.bipush 10, 2) := by decide +kernel
theorem dX7_ofPairs_46 : decode cX7_ofPairs 46 = .ok (.aload_n 0, 1) := by decide +kernel
theorem dX7_ofPairs_47 : decode cX7_ofPairs 47 = .ok (.getfield 25, 3) := by decide +kernel
theorem dX7_ofPairs_50 : decode cX7_ofPairs 50 = .ok (.iload 7, 2) := by decide +kernel
theorem dX7_ofPairs_52 : decode cX7_ofPairs 52 = .ok (.iaload, 1) := by decide +kernel
theorem dX7_ofPairs_53 : decode cX7_ofPairs 53 = .ok (.imul, 1) := by decide +kernel
theorem dX7_ofPairs_54 : decode cX7_ofPairs 54 = .ok (.aload_n 0, 1) := by decide +kernel
theorem dX7_ofPairs_55 : decode cX7_ofPairs 55 = .ok (.getfield 28, 3) := by decide +kernel
theorem dX7_ofPairs_58 : decode cX7_ofPairs 58 = .ok (.iload 7, 2) := by decide +kernel
theorem dX7_ofPairs_60 : decode cX7_ofPairs 60 = .ok (.iaload, 1) := by decide +kernel
theorem dX7_ofPairs_61 : decode cX7_ofPairs 61 = .ok (.iadd, 1) := by decide +kernel
theorem dX7_ofPairs_62 : decode cX7_ofPairs 62 = .ok (.istore 8, 2) := by decide +kernel
theorem dX7_ofPairs_64 : decode cX7_ofPairs 64 = .ok (.iload_n 3, 1) := by decide +kernel
theorem dX7_ofPairs_65 : decode cX7_ofPairs 65 = .ok (.aload_n 0, 1) := by decide +kernel
theorem dX7_ofPairs_66 : decode cX7_ofPairs 66 = .ok (.iload 7, 2) := by decide +kernel
theorem dX7_ofPairs_68 : decode cX7_ofPairs 68 = .ok (.invokevirtual 156, 3) := by decide +kernel
theorem dX7_ofPairs_71 : decode cX7_ofPairs 71 = .ok (.ifCond .eq 7, 3) := by decide +kernel
theorem dX7_ofPairs_74 : decode cX7_ofPairs 74 = .ok (.iconst 1, 1) := by decide +kernel
theorem dX7_ofPairs_75 : decode cX7_ofPairs 75 = .ok (.goto 4, 3) := by decide +kernel
theorem dX7_ofPairs_78 : decode cX7_ofPairs 78 = .ok (.iconst 0, 1) := by decide +kernel
theorem dX7_ofPairs_79 : decode cX7_ofPairs 79 = .ok (.iadd, 1) := by decide +kernel
theorem dX7_ofPairs_80 : decode cX7_ofPairs 80 = .ok (.istore_n 3, 1) := by decide +kernel
theorem dX7_ofPairs_81 : decode cX7_ofPairs 81 = .ok (.iload 4, 2) := by decide +kernel
theorem dX7_ofPairs_83 : decode cX7_ofPairs 83 = .ok (.aload_n 0, 1) := by decide +kernel
theorem dX7_ofPairs_84 : decode cX7_ofPairs 84 = .ok (.getfield 25, 3) := by decide +kernel
theorem dX7_ofPairs_87 : decode cX7_ofPairs 87 = .ok (.iload 7, 2) := by decide +kernel
theorem dX7_ofPairs_89 : decode cX7_ofPairs 89 = .ok (.iaload, 1) := by decide +kernel
theorem dX7_ofPairs_90 : decode cX7_ofPairs 90 = .ok (.aload_n 0, 1) := by decide +kernel
theorem dX7_ofPairs_91 : decode cX7_ofPairs 91 = .ok (.getfield 28, 3) := by decide +kernel
theorem dX7_ofPairs_94 : decode cX7_ofPairs 94 = .ok (.iload 7, 2) := by decide +kernel
theorem dX7_ofPairs_96 : decode cX7_ofPairs 96 = .ok (.iaload, 1) := by decide +kernel
theorem dX7_ofPairs_97 : decode cX7_ofPairs 97 = .ok (.if_icmp .ne 7, 3) := by decide +kernel
theorem dX7_ofPairs_100 : decode cX7_ofPairs 100 = .ok (.iconst 1, 1) := by decide +kernel
theorem dX7_ofPairs_101 : decode cX7_ofPairs 101 = .ok (.goto 4, 3) := by decide +kernel
theorem dX7_ofPairs_104 : decode cX7_ofPairs 104 = .ok (.iconst 0, 1) := by decide +kernel
theorem dX7_ofPairs_105 : decode cX7_ofPairs 105 = .ok (.iadd, 1) := by decide +kernel
theorem dX7_ofPairs_106 : decode cX7_ofPairs 106 = .ok (.istore 4, 2) := by decide +kernel
theorem dX7_ofPairs_108 : decode cX7_ofPairs 108 = .ok (.iload 5, 2) := by decide +kernel
theorem dX7_ofPairs_110 : decode cX7_ofPairs 110 = .ok (.aload_n 0, 1) := by decide +kernel
theorem dX7_ofPairs_111 : decode cX7_ofPairs 111 = .ok (.getfield 25, 3) := by decide +kernel
theorem dX7_ofPairs_114 : decode cX7_ofPairs 114 = .ok (.iload 7, 2) := by decide +kernel
theorem dX7_ofPairs_116 : decode cX7_ofPairs 116 = .ok (.iaload, 1) := by decide +kernel
theorem dX7_ofPairs_117 : decode cX7_ofPairs 117 = .ok (.aload_n 0, 1) := by decide +kernel
theorem dX7_ofPairs_118 : decode cX7_ofPairs 118 = .ok (.getfield 28, 3) := by decide +kernel
theorem dX7_ofPairs_121 : decode cX7_ofPairs 121 = .ok (.iload 7, 2) := by decide +kernel
theorem dX7_ofPairs_123 : decode cX7_ofPairs 123 = .ok (.iaload, 1) := by decide +kernel
theorem dX7_ofPairs_124 : decode cX7_ofPairs 124 = .ok (.imul, 1) := by decide +kernel
theorem dX7_ofPairs_125 : decode cX7_ofPairs 125 = .ok (.iadd, 1) := by decide +kernel
theorem dX7_ofPairs_126 : decode cX7_ofPairs 126 = .ok (.istore 5, 2) := by decide +kernel
theorem dX7_ofPairs_128 : decode cX7_ofPairs 128 = .ok (.iload 6, 2) := by decide +kernel
theorem dX7_ofPairs_130 : decode cX7_ofPairs 130 = .ok (.aload_n 0, 1) := by decide +kernel
theorem dX7_ofPairs_131 : decode cX7_ofPairs 131 = .ok (.getfield 31, 3) := by decide +kernel
theorem dX7_ofPairs_134 : decode cX7_ofPairs 134 = .ok (.iload 8, 2) := by decide +kernel
theorem dX7_ofPairs_136 : decode cX7_ofPairs 136 = .ok (.iaload, 1) := by decide +kernel
theorem dX7_ofPairs_137 : decode cX7_ofPairs 137 = .ok (.ifCond .ne 7, 3) := by decide +kernel
theorem dX7_ofPairs_140 : decode cX7_ofPairs 140 = .ok (.iconst 1, 1) := by decide +kernel
theorem dX7_ofPairs_141 : decode cX7_ofPairs 141 = .ok (.goto 4, 3) := by decide +kernel
theorem dX7_ofPairs_144 : decode cX7_ofPairs 144 = .ok (.iconst 0, 1) := by decide +kernel
theorem dX7_ofPairs_145 : decode cX7_ofPairs 145 = .ok (.iadd, 1) := by decide +kernel
theorem dX7_ofPairs_146 : decode cX7_ofPairs 146 = .ok (.istore 6, 2) := by decide +kernel
theorem dX7_ofPairs_148 : decode cX7_ofPairs 148 = .ok (.aload_n 0, 1) := by decide +kernel
theorem dX7_ofPairs_149 : decode cX7_ofPairs 149 = .ok (.getfield 31, 3) := by decide +kernel
theorem dX7_ofPairs_152 : decode cX7_ofPairs 152 = .ok (.iload 8, 2) := by decide +kernel
theorem dX7_ofPairs_154 : decode cX7_ofPairs 154 = .ok (.iconst 1, 1) := by decide +kernel
theorem dX7_ofPairs_155 : decode cX7_ofPairs 155 = .ok (.iastore, 1) := by decide +kernel
theorem dX7_ofPairs_156 : decode cX7_ofPairs 156 = .ok (.iinc 7 1, 3) := by decide +kernel
theorem dX7_ofPairs_159 : decode cX7_ofPairs 159 = .ok (.goto (-121), 3) := by decide +kernel
theorem dX7_ofPairs_162 : decode cX7_ofPairs 162 = .ok (.iload_n 2, 1) := by decide +kernel
theorem dX7_ofPairs_163 : decode cX7_ofPairs 163 = .ok (.ifCond .ne 7, 3) := by decide +kernel
theorem dX7_ofPairs_166 : decode cX7_ofPairs 166 = .ok (.iload_n 1, 1) := by decide +kernel
theorem dX7_ofPairs_167 : decode cX7_ofPairs 167 = .ok (.goto 34, 3) := by decide +kernel
theorem dX7_ofPairs_170 : decode cX7_ofPairs 170 = .ok (.iload_n 2, 1) := by decide +kernel
theorem dX7_ofPairs_171 : decode cX7_ofPairs 171 = .ok (.iconst 1, 1) := by decide +kernel
theorem dX7_ofPairs_172 : decode cX7_ofPairs 172 = .ok (.if_icmp .ne 7, 3) := by decide +kernel
theorem dX7_ofPairs_175 : decode cX7_ofPairs 175 = .ok (.iload_n 3, 1) := by decide +kernel
theorem dX7_ofPairs_176 : decode cX7_ofPairs 176 = .ok (.goto 25, 3) := by decide +kernel
theorem dX7_ofPairs_179 : decode cX7_ofPairs 179 = .ok (.iload_n 2, 1) := by decide +kernel
theorem dX7_ofPairs_180 : decode cX7_ofPairs 180 = .ok (.iconst 2, 1) := by decide +kernel
theorem dX7_ofPairs_181 : decode cX7_ofPairs 181 = .ok (.if_icmp .ne 8, 3) := by decide +kernel
theorem dX7_ofPairs_184 : decode cX7_ofPairs 184 = .ok (.iload 4, 2) := by decide +kernel
theorem dX7_ofPairs_186 : decode cX7_ofPairs 186 = .ok (.goto 15, 3) := by decide +kernel
theorem dX7_ofPairs_189 : decode cX7_ofPairs 189 = .ok (.iload_n 2, 1) := by decide +kernel
theorem dX7_ofPairs_190 : decode cX7_ofPairs 190 = .ok (.iconst 3, 1) := by decide +kernel
theorem dX7_ofPairs_191 : decode cX7_ofPairs 191 = .ok (.if_icmp .ne 8, 3) := by decide +kernel
theorem dX7_ofPairs_194 : decode cX7_ofPairs 194 = .ok (.iload 5, 2) := by decide +kernel
theorem dX7_ofPairs_196 : decode cX7_ofPairs 196 = .ok (.goto 5, 3) := by decide +kernel
theorem dX7_ofPairs_199 : decode cX7_ofPairs 199 = .ok (.iload 6, 2) := by decide +kernel
theorem dX7_ofPairs_201 : decode cX7_ofPairs 201 = .ok (.ireturn, 1) := by decide +kernel
theorem dX7_joined_0 : decode cX7_joined 0 = .ok (.iload_n 1, 1) := by decide +kernel
theorem dX7_joined_1 : decode cX7_joined 1 = .ok (.invokestatic 76, 3) := by decide +kernel
theorem dX7_joined_4 : decode cX7_joined 4 = .ok (.ifCond .eq 10, 3) := by decide +kernel
theorem dX7_joined_7 : decode cX7_joined 7 = .ok (.iload_n 2, 1) := by decide +kernel
theorem dX7_joined_8 : decode cX7_joined 8 = .ok (.invokestatic 76, 3) := by decide +kernel
theorem dX7_joined_11 : decode cX7_joined 11 = .ok (.ifCond .ne 5, 3) := by decide +kernel
theorem dX7_joined_14 : decode cX7_joined 14 = .ok (.iconst (-1), 1) := by decide +kernel
theorem dX7_joined_15 : decode cX7_joined 15 = .ok (.ireturn, 1) := by decide +kernel
theorem dX7_joined_16 : decode cX7_joined 16 = .ok (.iload_n 3, 1) := by decide +kernel
theorem dX7_joined_17 : decode cX7_joined 17 = .ok (.iconst 0, 1) := by decide +kernel
theorem dX7_joined_18 : decode cX7_joined 18 = .ok (.iconst 4, 1) := by decide +kernel
theorem dX7_joined_19 : decode cX7_joined 19 = .ok (.invokestatic 48, 3) := by decide +kernel
theorem dX7_joined_22 : decode cX7_joined 22 = .ok (.ifCond .eq 17, 3) := by decide +kernel
theorem dX7_joined_25 : decode cX7_joined 25 = .ok (.aload_n 0, 1) := by decide +kernel
theorem dX7_joined_26 : decode cX7_joined 26 = .ok (.aload_n 0, 1) := by decide +kernel
theorem dX7_joined_27 : decode cX7_joined 27 = .ok (.iload_n 1, 1) := by decide +kernel
theorem dX7_joined_28 : decode cX7_joined 28 = .ok (.iload_n 2, 1) := by decide +kernel
theorem dX7_joined_29 : decode cX7_joined 29 = .ok (.invokevirtual 124, 3) := by decide +kernel
theorem dX7_joined_32 : decode cX7_joined 32 = .ok (.iload_n 3, 1) := by decide +kernel
theorem dX7_joined_33 : decode cX7_joined 33 = .ok (.invokevirtual 159, 3) := by decide +kernel
theorem dX7_joined_36 : decode cX7_joined 36 = .ok (.goto 5, 3) := by decide +kernel
theorem dX7_joined_39 : decode cX7_joined 39 = .ok (.bipush (-2), 2) := by decide +kernel
theorem dX7_joined_41 : decode cX7_joined 41 = .ok (.ireturn, 1) := by decide +kernel
theorem dX7_alike_0 : decode cX7_alike 0 = .ok (.iload_n 1, 1) := by decide +kernel
theorem dX7_alike_1 : decode cX7_alike 1 = .ok (.invokestatic 76, 3) := by decide +kernel
theorem dX7_alike_4 : decode cX7_alike 4 = .ok (.ifCond .eq 10, 3) := by decide +kernel
theorem dX7_alike_7 : decode cX7_alike 7 = .ok (.iload_n 2, 1) := by decide +kernel
theorem dX7_alike_8 : decode cX7_alike 8 = .ok (.invokestatic 76, 3) := by decide +kernel
theorem dX7_alike_11 : decode cX7_alike 11 = .ok (.ifCond .ne 5, 3) := by decide +kernel
theorem dX7_alike_14 : decode cX7_alike 14 = .ok (.iconst (-1), 1) := by decide +kernel
theorem dX7_alike_15 : decode cX7_alike 15 = .ok (.ireturn, 1) := by decide +kernel
theorem dX7_alike_16 : decode cX7_alike 16 = .ok (.iconst 0, 1) := by decide +kernel
theorem dX7_alike_17 : decode cX7_alike 17 = .ok (.istore_n 3, 1) := by decide +kernel
theorem dX7_alike_18 : decode cX7_alike 18 = .ok (.iconst 0, 1) := by decide +kernel
theorem dX7_alike_19 : decode cX7_alike 19 = .ok (.istore 4, 2) := by decide +kernel
theorem dX7_alike_21 : decode cX7_alike 21 = .ok (.iload 4, 2) := by decide +kernel
theorem dX7_alike_23 : decode cX7_alike 23 = .ok (.bipush 10, 2) := by decide +kernel
theorem dX7_alike_25 : decode cX7_alike 25 = .ok (.if_icmp .ge 29, 3) := by decide +kernel
theorem dX7_alike_28 : decode cX7_alike 28 = .ok (.iload_n 3, 1) := by decide +kernel
theorem dX7_alike_29 : decode cX7_alike 29 = .ok (.aload_n 0, 1) := by decide +kernel
theorem dX7_alike_30 : decode cX7_alike 30 = .ok (.iload_n 1, 1) := by decide +kernel
theorem dX7_alike_31 : decode cX7_alike 31 = .ok (.iload 4, 2) := by decide +kernel
theorem dX7_alike_33 : decode cX7_alike 33 = .ok (.iconst 0, 1) := by decide +kernel
theorem dX7_alike_34 : decode cX7_alike 34 = .ok (.invokevirtual 143, 3) := by decide +kernel
theorem dX7_alike_37 : decode cX7_alike 37 = .ok (.aload_n 0, 1) := by decide +kernel
theorem dX7_alike_38 : decode cX7_alike 38 = .ok (.iload_n 2, 1) := by decide +kernel
theorem dX7_alike_39 : decode cX7_alike 39 = .ok (.iload 4, 2) := by decide +kernel
theorem dX7_alike_41 : decode cX7_alike 41 = .ok (.iconst 0, 1) := by decide +kernel
theorem dX7_alike_42 : decode cX7_alike 42 = .ok (.invokevirtual 143, 3) := by decide +kernel
theorem dX7_alike_45 : decode cX7_alike 45 = .ok (.imul, 1) := by decide +kernel
theorem dX7_alike_46 : decode cX7_alike 46 = .ok (.iadd, 1) := by decide +kernel
theorem dX7_alike_47 : decode cX7_alike 47 = .ok (.istore_n 3, 1) := by decide +kernel
theorem dX7_alike_48 : decode cX7_alike 48 = .ok (.iinc 4 1, 3) := by decide +kernel
theorem dX7_alike_51 : decode cX7_alike 51 = .ok (.goto (-30), 3) := by decide +kernel
theorem dX7_alike_54 : decode cX7_alike 54 = .ok (.iload_n 3, 1) := by decide +kernel
theorem dX7_alike_55 : decode cX7_alike 55 = .ok (.ireturn, 1) := by decide +kernel
theorem dX7_saves_0 : decode cX7_saves 0 = .ok (.iload_n 1, 1) := by decide +kernel
theorem dX7_saves_1 : decode cX7_saves 1 = .ok (.invokestatic 76, 3) := by decide +kernel
theorem dX7_saves_4 : decode cX7_saves 4 = .ok (.ifCond .eq 20, 3) := by decide +kernel
theorem dX7_saves_7 : decode cX7_saves 7 = .ok (.aload_n 0, 1) := by decide +kernel
theorem dX7_saves_8 : decode cX7_saves 8 = .ok (.iload_n 1, 1) := by decide +kernel
theorem dX7_saves_9 : decode cX7_saves 9 = .ok (.invokevirtual 52, 3) := by decide +kernel
theorem dX7_saves_12 : decode cX7_saves 12 = .ok (.aload_n 0, 1) := by decide +kernel
theorem dX7_saves_13 : decode cX7_saves 13 = .ok (.iload_n 1, 1) := by decide +kernel
theorem dX7_saves_14 : decode cX7_saves 14 = .ok (.invokevirtual 136, 3) := by decide +kernel
theorem dX7_saves_17 : decode cX7_saves 17 = .ok (.invokestatic 162, 3) := by decide +kernel
theorem dX7_saves_20 : decode cX7_saves 20 = .ok (.isub, 1) := by decide +kernel
theorem dX7_saves_21 : decode cX7_saves 21 = .ok (.goto 4, 3) := by decide +kernel
theorem dX7_saves_24 : decode cX7_saves 24 = .ok (.iconst (-1), 1) := by decide +kernel
theorem dX7_saves_25 : decode cX7_saves 25 = .ok (.ireturn, 1) := by decide +kernel
theorem dX7_beginnings_0 : decode cX7_beginnings 0 = .ok (.iload_n 1, 1) := by decide +kernel
theorem dX7_beginnings_1 : decode cX7_beginnings 1 = .ok (.ifCond .eq 20, 3) := by decide +kernel
theorem dX7_beginnings_4 : decode cX7_beginnings 4 = .ok (.aload_n 0, 1) := by decide +kernel
theorem dX7_beginnings_5 : decode cX7_beginnings 5 = .ok (.getfield 25, 3) := by decide +kernel
theorem dX7_beginnings_8 : decode cX7_beginnings 8 = .ok (.iload_n 1, 1) := by decide +kernel
theorem dX7_beginnings_9 : decode cX7_beginnings 9 = .ok (.iaload, 1) := by decide +kernel
theorem dX7_beginnings_10 : decode cX7_beginnings 10 = .ok (.aload_n 0, 1) := by decide +kernel
theorem dX7_beginnings_11 : decode cX7_beginnings 11 = .ok (.getfield 25, 3) := by decide +kernel
theorem dX7_beginnings_14 : decode cX7_beginnings 14 = .ok (.iload_n 1, 1) := by decide +kernel
theorem dX7_beginnings_15 : decode cX7_beginnings 15 = .ok (.iconst 1, 1) := by decide +kernel
theorem dX7_beginnings_16 : decode cX7_beginnings 16 = .ok (.isub, 1) := by decide +kernel
theorem dX7_beginnings_17 : decode cX7_beginnings 17 = .ok (.iaload, 1) := by decide +kernel
theorem dX7_beginnings_18 : decode cX7_beginnings 18 = .ok (.if_icmp .eq 7, 3) := by decide +kernel
theorem dX7_beginnings_21 : decode cX7_beginnings 21 = .ok (.iconst 1, 1) := by decide +kernel
theorem dX7_beginnings_22 : decode cX7_beginnings 22 = .ok (.goto 4, 3) := by decide +kernel
theorem dX7_beginnings_25 : decode cX7_beginnings 25 = .ok (.iconst 0, 1) := by decide +kernel
theorem dX7_beginnings_26 : decode cX7_beginnings 26 = .ok (.istore_n 2, 1) := by decide +kernel
theorem dX7_beginnings_27 : decode cX7_beginnings 27 = .ok (.iload_n 2, 1) := by decide +kernel
theorem dX7_beginnings_28 : decode cX7_beginnings 28 = .ok (.iload_n 1, 1) := by decide +kernel
theorem dX7_beginnings_29 : decode cX7_beginnings 29 = .ok (.aload_n 0, 1) := by decide +kernel
theorem dX7_beginnings_30 : decode cX7_beginnings 30 = .ok (.getfield 63, 3) := by decide +kernel
theorem dX7_beginnings_33 : decode cX7_beginnings 33 = .ok (.iconst 1, 1) := by decide +kernel
theorem dX7_beginnings_34 : decode cX7_beginnings 34 = .ok (.isub, 1) := by decide +kernel
theorem dX7_beginnings_35 : decode cX7_beginnings 35 = .ok (.if_icmp .ge 24, 3) := by decide +kernel
theorem dX7_beginnings_38 : decode cX7_beginnings 38 = .ok (.aload_n 0, 1) := by decide +kernel
theorem dX7_beginnings_39 : decode cX7_beginnings 39 = .ok (.getfield 25, 3) := by decide +kernel
theorem dX7_beginnings_42 : decode cX7_beginnings 42 = .ok (.iload_n 1, 1) := by decide +kernel
theorem dX7_beginnings_43 : decode cX7_beginnings 43 = .ok (.iconst 1, 1) := by decide +kernel
theorem dX7_beginnings_44 : decode cX7_beginnings 44 = .ok (.iadd, 1) := by decide +kernel
theorem dX7_beginnings_45 : decode cX7_beginnings 45 = .ok (.iaload, 1) := by decide +kernel
theorem dX7_beginnings_46 : decode cX7_beginnings 46 = .ok (.aload_n 0, 1) := by decide +kernel
theorem dX7_beginnings_47 : decode cX7_beginnings 47 = .ok (.getfield 25, 3) := by decide +kernel
theorem dX7_beginnings_50 : decode cX7_beginnings 50 = .ok (.iload_n 1, 1) := by decide +kernel
theorem dX7_beginnings_51 : decode cX7_beginnings 51 = .ok (.iaload, 1) := by decide +kernel
theorem dX7_beginnings_52 : decode cX7_beginnings 52 = .ok (.if_icmp .eq 7, 3) := by decide +kernel
theorem dX7_beginnings_55 : decode cX7_beginnings 55 = .ok (.iconst 1, 1) := by decide +kernel
theorem dX7_beginnings_56 : decode cX7_beginnings 56 = .ok (.goto 4, 3) := by decide +kernel
theorem dX7_beginnings_59 : decode cX7_beginnings 59 = .ok (.iconst 0, 1) := by decide +kernel
theorem dX7_beginnings_60 : decode cX7_beginnings 60 = .ok (.iadd, 1) := by decide +kernel
theorem dX7_beginnings_61 : decode cX7_beginnings 61 = .ok (.ireturn, 1) := by decide +kernel
theorem dX7_bestSet_0 : decode cX7_bestSet 0 = .ok (.iload_n 1, 1) := by decide +kernel
theorem dX7_bestSet_1 : decode cX7_bestSet 1 = .ok (.invokestatic 76, 3) := by decide +kernel
theorem dX7_bestSet_4 : decode cX7_bestSet 4 = .ok (.ifCond .ne 5, 3) := by decide +kernel
theorem dX7_bestSet_7 : decode cX7_bestSet 7 = .ok (.iconst (-1), 1) := by decide +kernel
theorem dX7_bestSet_8 : decode cX7_bestSet 8 = .ok (.ireturn, 1) := by decide +kernel
theorem dX7_bestSet_9 : decode cX7_bestSet 9 = .ok (.iload_n 2, 1) := by decide +kernel
theorem dX7_bestSet_10 : decode cX7_bestSet 10 = .ok (.invokestatic 80, 3) := by decide +kernel
theorem dX7_bestSet_13 : decode cX7_bestSet 13 = .ok (.ifCond .eq 12, 3) := by decide +kernel
theorem dX7_bestSet_16 : decode cX7_bestSet 16 = .ok (.iload_n 3, 1) := by decide +kernel
theorem dX7_bestSet_17 : decode cX7_bestSet 17 = .ok (.iconst 0, 1) := by decide +kernel
theorem dX7_bestSet_18 : decode cX7_bestSet 18 = .ok (.iconst 1, 1) := by decide +kernel
theorem dX7_bestSet_19 : decode cX7_bestSet 19 = .ok (.invokestatic 48, 3) := by decide +kernel
theorem dX7_bestSet_22 : decode cX7_bestSet 22 = .ok (.ifCond .ne 6, 3) := by decide +kernel
theorem dX7_bestSet_25 : decode cX7_bestSet 25 = .ok (.bipush (-2), 2) := by decide +kernel
theorem dX7_bestSet_27 : decode cX7_bestSet 27 = .ok (.ireturn, 1) := by decide +kernel
theorem dX7_bestSet_28 : decode cX7_bestSet 28 = .ok (.aload_n 0, 1) := by decide +kernel
theorem dX7_bestSet_29 : decode cX7_bestSet 29 = .ok (.iload_n 1, 1) := by decide +kernel
theorem dX7_bestSet_30 : decode cX7_bestSet 30 = .ok (.invokevirtual 83, 3) := by decide +kernel
theorem dX7_bestSet_33 : decode cX7_bestSet 33 = .ok (.bipush (-6), 2) := by decide +kernel
theorem dX7_bestSet_35 : decode cX7_bestSet 35 = .ok (.istore 4, 2) := by decide +kernel
theorem dX7_bestSet_37 : decode cX7_bestSet 37 = .ok (.iconst 0, 1) := by decide +kernel
theorem dX7_bestSet_38 : decode cX7_bestSet 38 = .ok (.istore 5, 2) := by decide +kernel
theorem dX7_bestSet_40 : decode cX7_bestSet 40 = .ok (.iconst 0, 1) := by decide +kernel
theorem dX7_bestSet_41 : decode cX7_bestSet 41 = .ok (.istore 6, 2) := by decide +kernel
theorem dX7_bestSet_43 : decode cX7_bestSet 43 = .ok (.iload 6, 2) := by decide +kernel
theorem dX7_bestSet_45 : decode cX7_bestSet 45 = .ok (.aload_n 0, 1) := by decide +kernel
theorem dX7_bestSet_46 : decode cX7_bestSet 46 = .ok (.getfield 63, 3) := by decide +kernel
theorem dX7_bestSet_49 : decode cX7_bestSet 49 = .ok (.if_icmp .ge 109, 3) := by decide +kernel
theorem dX7_bestSet_52 : decode cX7_bestSet 52 = .ok (.aload_n 0, 1) := by decide +kernel
theorem dX7_bestSet_53 : decode cX7_bestSet 53 = .ok (.getfield 25, 3) := by decide +kernel
theorem dX7_bestSet_56 : decode cX7_bestSet 56 = .ok (.iload 6, 2) := by decide +kernel
theorem dX7_bestSet_58 : decode cX7_bestSet 58 = .ok (.iaload, 1) := by decide +kernel
theorem dX7_bestSet_59 : decode cX7_bestSet 59 = .ok (.istore 7, 2) := by decide +kernel
theorem dX7_bestSet_61 : decode cX7_bestSet 61 = .ok (.aload_n 0, 1) := by decide +kernel
theorem dX7_bestSet_62 : decode cX7_bestSet 62 = .ok (.iload_n 1, 1) := by decide +kernel
theorem dX7_bestSet_63 : decode cX7_bestSet 63 = .ok (.invokevirtual 52, 3) := by decide +kernel
theorem dX7_bestSet_66 : decode cX7_bestSet 66 = .ok (.aload_n 0, 1) := by decide +kernel
theorem dX7_bestSet_67 : decode cX7_bestSet 67 = .ok (.iload 6, 2) := by decide +kernel
theorem dX7_bestSet_69 : decode cX7_bestSet 69 = .ok (.invokevirtual 165, 3) := by decide +kernel
theorem dX7_bestSet_72 : decode cX7_bestSet 72 = .ok (.isub, 1) := by decide +kernel
theorem dX7_bestSet_73 : decode cX7_bestSet 73 = .ok (.istore 8, 2) := by decide +kernel
theorem dX7_bestSet_75 : decode cX7_bestSet 75 = .ok (.aload_n 0, 1) := by decide +kernel
theorem dX7_bestSet_76 : decode cX7_bestSet 76 = .ok (.getfield 25, 3) := by decide +kernel
theorem dX7_bestSet_79 : decode cX7_bestSet 79 = .ok (.iload 6, 2) := by decide +kernel
theorem dX7_bestSet_81 : decode cX7_bestSet 81 = .ok (.iload_n 2, 1) := by decide +kernel
theorem dX7_bestSet_82 : decode cX7_bestSet 82 = .ok (.iastore, 1) := by decide +kernel
theorem dX7_bestSet_83 : decode cX7_bestSet 83 = .ok (.iload 8, 2) := by decide +kernel
theorem dX7_bestSet_85 : decode cX7_bestSet 85 = .ok (.aload_n 0, 1) := by decide +kernel
theorem dX7_bestSet_86 : decode cX7_bestSet 86 = .ok (.iload 6, 2) := by decide +kernel
theorem dX7_bestSet_88 : decode cX7_bestSet 88 = .ok (.invokevirtual 165, 3) := by decide +kernel
theorem dX7_bestSet_91 : decode cX7_bestSet 91 = .ok (.iadd, 1) := by decide +kernel
theorem dX7_bestSet_92 : decode cX7_bestSet 92 = .ok (.istore 8, 2) := by decide +kernel
theorem dX7_bestSet_94 : decode cX7_bestSet 94 = .ok (.aload_n 0, 1) := by decide +kernel
theorem dX7_bestSet_95 : decode cX7_bestSet 95 = .ok (.getfield 25, 3) := by decide +kernel
theorem dX7_bestSet_98 : decode cX7_bestSet 98 = .ok (.iload 6, 2) := by decide +kernel
theorem dX7_bestSet_100 : decode cX7_bestSet 100 = .ok (.iload 7, 2) := by decide +kernel
theorem dX7_bestSet_102 : decode cX7_bestSet 102 = .ok (.iastore, 1) := by decide +kernel
theorem dX7_bestSet_103 : decode cX7_bestSet 103 = .ok (.iload 4, 2) := by decide +kernel
theorem dX7_bestSet_105 : decode cX7_bestSet 105 = .ok (.bipush (-6), 2) := by decide +kernel
theorem dX7_bestSet_107 : decode cX7_bestSet 107 = .ok (.if_icmp .eq 10, 3) := by decide +kernel
theorem dX7_bestSet_110 : decode cX7_bestSet 110 = .ok (.iload 8, 2) := by decide +kernel
theorem dX7_bestSet_112 : decode cX7_bestSet 112 = .ok (.iload 5, 2) := by decide +kernel
theorem dX7_bestSet_114 : decode cX7_bestSet 114 = .ok (.if_icmp .ge 7, 3) := by decide +kernel
theorem dX7_bestSet_117 : decode cX7_bestSet 117 = .ok (.iconst 1, 1) := by decide +kernel
theorem dX7_bestSet_118 : decode cX7_bestSet 118 = .ok (.goto 4, 3) := by decide +kernel
theorem dX7_bestSet_121 : decode cX7_bestSet 121 = .ok (.iconst 0, 1) := by decide +kernel
theorem dX7_bestSet_122 : decode cX7_bestSet 122 = .ok (.istore 9, 2) := by decide +kernel
theorem dX7_bestSet_124 : decode cX7_bestSet 124 = .ok (.iload 9, 2) := by decide +kernel
theorem dX7_bestSet_126 : decode cX7_bestSet 126 = .ok (.ifCond .eq 8, 3) := by decide +kernel
theorem dX7_bestSet_129 : decode cX7_bestSet 129 = .ok (.iload 6, 2) := by decide +kernel
theorem dX7_bestSet_131 : decode cX7_bestSet 131 = .ok (.goto 5, 3) := by decide +kernel
theorem dX7_bestSet_134 : decode cX7_bestSet 134 = .ok (.iload 4, 2) := by decide +kernel
theorem dX7_bestSet_136 : decode cX7_bestSet 136 = .ok (.istore 4, 2) := by decide +kernel
theorem dX7_bestSet_138 : decode cX7_bestSet 138 = .ok (.iload 9, 2) := by decide +kernel
theorem dX7_bestSet_140 : decode cX7_bestSet 140 = .ok (.ifCond .eq 8, 3) := by decide +kernel
theorem dX7_bestSet_143 : decode cX7_bestSet 143 = .ok (.iload 8, 2) := by decide +kernel
theorem dX7_bestSet_145 : decode cX7_bestSet 145 = .ok (.goto 5, 3) := by decide +kernel
theorem dX7_bestSet_148 : decode cX7_bestSet 148 = .ok (.iload 5, 2) := by decide +kernel
theorem dX7_bestSet_150 : decode cX7_bestSet 150 = .ok (.istore 5, 2) := by decide +kernel
theorem dX7_bestSet_152 : decode cX7_bestSet 152 = .ok (.iinc 6 1, 3) := by decide +kernel
theorem dX7_bestSet_155 : decode cX7_bestSet 155 = .ok (.goto (-112), 3) := by decide +kernel
theorem dX7_bestSet_158 : decode cX7_bestSet 158 = .ok (.iload 4, 2) := by decide +kernel
theorem dX7_bestSet_160 : decode cX7_bestSet 160 = .ok (.bipush (-6), 2) := by decide +kernel
theorem dX7_bestSet_162 : decode cX7_bestSet 162 = .ok (.if_icmp .eq 7, 3) := by decide +kernel
theorem dX7_bestSet_165 : decode cX7_bestSet 165 = .ok (.iload_n 3, 1) := by decide +kernel
theorem dX7_bestSet_166 : decode cX7_bestSet 166 = .ok (.ifCond .ne 8, 3) := by decide +kernel
theorem dX7_bestSet_169 : decode cX7_bestSet 169 = .ok (.iload 4, 2) := by decide +kernel
theorem dX7_bestSet_171 : decode cX7_bestSet 171 = .ok (.goto 5, 3) := by decide +kernel
theorem dX7_bestSet_174 : decode cX7_bestSet 174 = .ok (.iload 5, 2) := by decide +kernel
theorem dX7_bestSet_176 : decode cX7_bestSet 176 = .ok (.ireturn, 1) := by decide +kernel
theorem dX7_put_0 : decode cX7_put 0 = .ok (.iconst 0, 1) := by decide +kernel
theorem dX7_put_1 : decode cX7_put 1 = .ok (.istore_n 3, 1) := by decide +kernel
theorem dX7_put_2 : decode cX7_put 2 = .ok (.lload_n 1, 1) := by decide +kernel
theorem dX7_put_3 : decode cX7_put 3 = .ok (.lstore 4, 2) := by decide +kernel
theorem dX7_put_5 : decode cX7_put 5 = .ok (.iconst 1, 1) := by decide +kernel
theorem dX7_put_6 : decode cX7_put 6 = .ok (.istore 6, 2) := by decide +kernel
theorem dX7_put_8 : decode cX7_put 8 = .ok (.iload_n 3, 1) := by decide +kernel
theorem dX7_put_9 : decode cX7_put 9 = .ok (.bipush 8, 2) := by decide +kernel
theorem dX7_put_11 : decode cX7_put 11 = .ok (.if_icmp .ge 56, 3) := by decide +kernel
theorem dX7_put_14 : decode cX7_put 14 = .ok (.lload 4, 2) := by decide +kernel
theorem dX7_put_16 : decode cX7_put 16 = .ok (.ldc2_w 168, 3) := by decide +kernel
theorem dX7_put_19 : decode cX7_put 19 = .ok (.land, 1) := by decide +kernel
theorem dX7_put_20 : decode cX7_put 20 = .ok (.lconst 0, 1) := by decide +kernel
theorem dX7_put_21 : decode cX7_put 21 = .ok (.lcmp, 1) := by decide +kernel
theorem dX7_put_22 : decode cX7_put 22 = .ok (.ifCond .eq 45, 3) := by decide +kernel
theorem dX7_put_25 : decode cX7_put 25 = .ok (.iload 6, 2) := by decide +kernel
theorem dX7_put_27 : decode cX7_put 27 = .ok (.ifCond .eq 24, 3) := by decide +kernel
theorem dX7_put_30 : decode cX7_put 30 = .ok (.lload 4, 2) := by decide +kernel
theorem dX7_put_32 : decode cX7_put 32 = .ok (.ldc2_w 168, 3) := by decide +kernel
theorem dX7_put_35 : decode cX7_put 35 = .ok (.land, 1) := by decide +kernel
theorem dX7_put_36 : decode cX7_put 36 = .ok (.l2i, 1) := by decide +kernel
theorem dX7_put_37 : decode cX7_put 37 = .ok (.bipush 33, 2) := by decide +kernel
theorem dX7_put_39 : decode cX7_put 39 = .ok (.bipush 126, 2) := by decide +kernel
theorem dX7_put_41 : decode cX7_put 41 = .ok (.invokestatic 48, 3) := by decide +kernel
theorem dX7_put_44 : decode cX7_put 44 = .ok (.ifCond .eq 7, 3) := by decide +kernel
theorem dX7_put_47 : decode cX7_put 47 = .ok (.iconst 1, 1) := by decide +kernel
theorem dX7_put_48 : decode cX7_put 48 = .ok (.goto 4, 3) := by decide +kernel
theorem dX7_put_51 : decode cX7_put 51 = .ok (.iconst 0, 1) := by decide +kernel
theorem dX7_put_52 : decode cX7_put 52 = .ok (.istore 6, 2) := by decide +kernel
theorem dX7_put_54 : decode cX7_put 54 = .ok (.lload 4, 2) := by decide +kernel
theorem dX7_put_56 : decode cX7_put 56 = .ok (.bipush 8, 2) := by decide +kernel
theorem dX7_put_58 : decode cX7_put 58 = .ok (.lushr, 1) := by decide +kernel
theorem dX7_put_59 : decode cX7_put 59 = .ok (.lstore 4, 2) := by decide +kernel
theorem dX7_put_61 : decode cX7_put 61 = .ok (.iinc 3 1, 3) := by decide +kernel
theorem dX7_put_64 : decode cX7_put 64 = .ok (.goto (-56), 3) := by decide +kernel
theorem dX7_put_67 : decode cX7_put 67 = .ok (.iload_n 3, 1) := by decide +kernel
theorem dX7_put_68 : decode cX7_put 68 = .ok (.ifCond .eq 15, 3) := by decide +kernel
theorem dX7_put_71 : decode cX7_put 71 = .ok (.iload 6, 2) := by decide +kernel
theorem dX7_put_73 : decode cX7_put 73 = .ok (.ifCond .eq 10, 3) := by decide +kernel
theorem dX7_put_76 : decode cX7_put 76 = .ok (.lload 4, 2) := by decide +kernel
theorem dX7_put_78 : decode cX7_put 78 = .ok (.lconst 0, 1) := by decide +kernel
theorem dX7_put_79 : decode cX7_put 79 = .ok (.lcmp, 1) := by decide +kernel
theorem dX7_put_80 : decode cX7_put 80 = .ok (.ifCond .eq 6, 3) := by decide +kernel
theorem dX7_put_83 : decode cX7_put 83 = .ok (.bipush (-2), 2) := by decide +kernel
theorem dX7_put_85 : decode cX7_put 85 = .ok (.ireturn, 1) := by decide +kernel
theorem dX7_put_86 : decode cX7_put 86 = .ok (.aload_n 0, 1) := by decide +kernel
theorem dX7_put_87 : decode cX7_put 87 = .ok (.getfield 153, 3) := by decide +kernel
theorem dX7_put_90 : decode cX7_put 90 = .ok (.iload_n 3, 1) := by decide +kernel
theorem dX7_put_91 : decode cX7_put 91 = .ok (.iadd, 1) := by decide +kernel
theorem dX7_put_92 : decode cX7_put 92 = .ok (.bipush 80, 2) := by decide +kernel
theorem dX7_put_94 : decode cX7_put 94 = .ok (.if_icmp .le 6, 3) := by decide +kernel
theorem dX7_put_97 : decode cX7_put 97 = .ok (.bipush (-4), 2) := by decide +kernel
theorem dX7_put_99 : decode cX7_put 99 = .ok (.ireturn, 1) := by decide +kernel
theorem dX7_put_100 : decode cX7_put 100 = .ok (.iload_n 3, 1) := by decide +kernel
theorem dX7_put_101 : decode cX7_put 101 = .ok (.iconst 1, 1) := by decide +kernel
theorem dX7_put_102 : decode cX7_put 102 = .ok (.isub, 1) := by decide +kernel
theorem dX7_put_103 : decode cX7_put 103 = .ok (.istore 7, 2) := by decide +kernel
theorem dX7_put_105 : decode cX7_put 105 = .ok (.iload 7, 2) := by decide +kernel
theorem dX7_put_107 : decode cX7_put 107 = .ok (.ifCond .lt 40, 3) := by decide +kernel
theorem dX7_put_110 : decode cX7_put 110 = .ok (.aload_n 0, 1) := by decide +kernel
theorem dX7_put_111 : decode cX7_put 111 = .ok (.getfield 22, 3) := by decide +kernel
theorem dX7_put_114 : decode cX7_put 114 = .ok (.aload_n 0, 1) := by decide +kernel
theorem dX7_put_115 : decode cX7_put 115 = .ok (.getfield 153, 3) := by decide +kernel
theorem dX7_put_118 : decode cX7_put 118 = .ok (.lload_n 1, 1) := by decide +kernel
theorem dX7_put_119 : decode cX7_put 119 = .ok (.bipush 8, 2) := by decide +kernel
theorem dX7_put_121 : decode cX7_put 121 = .ok (.iload 7, 2) := by decide +kernel
theorem dX7_put_123 : decode cX7_put 123 = .ok (.imul, 1) := by decide +kernel
theorem dX7_put_124 : decode cX7_put 124 = .ok (.lushr, 1) := by decide +kernel
theorem dX7_put_125 : decode cX7_put 125 = .ok (.ldc2_w 168, 3) := by decide +kernel
theorem dX7_put_128 : decode cX7_put 128 = .ok (.land, 1) := by decide +kernel
theorem dX7_put_129 : decode cX7_put 129 = .ok (.l2i, 1) := by decide +kernel
theorem dX7_put_130 : decode cX7_put 130 = .ok (.iastore, 1) := by decide +kernel
theorem dX7_put_131 : decode cX7_put 131 = .ok (.aload_n 0, 1) := by decide +kernel
theorem dX7_put_132 : decode cX7_put 132 = .ok (.dup, 1) := by decide +kernel
theorem dX7_put_133 : decode cX7_put 133 = .ok (.getfield 153, 3) := by decide +kernel
theorem dX7_put_136 : decode cX7_put 136 = .ok (.iconst 1, 1) := by decide +kernel
theorem dX7_put_137 : decode cX7_put 137 = .ok (.iadd, 1) := by decide +kernel
theorem dX7_put_138 : decode cX7_put 138 = .ok (.putfield 153, 3) := by decide +kernel
theorem dX7_put_141 : decode cX7_put 141 = .ok (.iinc 7 (-1), 3) := by decide +kernel
theorem dX7_put_144 : decode cX7_put 144 = .ok (.goto (-39), 3) := by decide +kernel
theorem dX7_put_147 : decode cX7_put 147 = .ok (.aload_n 0, 1) := by decide +kernel
theorem dX7_put_148 : decode cX7_put 148 = .ok (.getfield 153, 3) := by decide +kernel
theorem dX7_put_151 : decode cX7_put 151 = .ok (.ireturn, 1) := by decide +kernel
theorem dX7_wipe_0 : decode cX7_wipe 0 = .ok (.aload_n 0, 1) := by decide +kernel
theorem dX7_wipe_1 : decode cX7_wipe 1 = .ok (.getfield 153, 3) := by decide +kernel
theorem dX7_wipe_4 : decode cX7_wipe 4 = .ok (.istore_n 1, 1) := by decide +kernel
theorem dX7_wipe_5 : decode cX7_wipe 5 = .ok (.aload_n 0, 1) := by decide +kernel
theorem dX7_wipe_6 : decode cX7_wipe 6 = .ok (.iconst 0, 1) := by decide +kernel
theorem dX7_wipe_7 : decode cX7_wipe 7 = .ok (.putfield 153, 3) := by decide +kernel
theorem dX7_wipe_10 : decode cX7_wipe 10 = .ok (.iload_n 1, 1) := by decide +kernel
theorem dX7_wipe_11 : decode cX7_wipe 11 = .ok (.ireturn, 1) := by decide +kernel
theorem dX7_character_0 : decode cX7_character 0 = .ok (.iload_n 1, 1) := by decide +kernel
theorem dX7_character_1 : decode cX7_character 1 = .ok (.aload_n 0, 1) := by decide +kernel
theorem dX7_character_2 : decode cX7_character 2 = .ok (.getfield 153, 3) := by decide +kernel
theorem dX7_character_5 : decode cX7_character 5 = .ok (.if_icmp .ge 12, 3) := by decide +kernel
theorem dX7_character_8 : decode cX7_character 8 = .ok (.aload_n 0, 1) := by decide +kernel
theorem dX7_character_9 : decode cX7_character 9 = .ok (.getfield 22, 3) := by decide +kernel
theorem dX7_character_12 : decode cX7_character 12 = .ok (.iload_n 1, 1) := by decide +kernel
theorem dX7_character_13 : decode cX7_character 13 = .ok (.iaload, 1) := by decide +kernel
theorem dX7_character_14 : decode cX7_character 14 = .ok (.goto 4, 3) := by decide +kernel
theorem dX7_character_17 : decode cX7_character 17 = .ok (.iconst (-1), 1) := by decide +kernel
theorem dX7_character_18 : decode cX7_character 18 = .ok (.ireturn, 1) := by decide +kernel
theorem dX7_isNext_0 : decode cX7_isNext 0 = .ok (.aload_n 0, 1) := by decide +kernel
theorem dX7_isNext_1 : decode cX7_isNext 1 = .ok (.aload_n 0, 1) := by decide +kernel
theorem dX7_isNext_2 : decode cX7_isNext 2 = .ok (.getfield 170, 3) := by decide +kernel
theorem dX7_isNext_5 : decode cX7_isNext 5 = .ok (.invokevirtual 173, 3) := by decide +kernel
theorem dX7_isNext_8 : decode cX7_isNext 8 = .ok (.iload_n 1, 1) := by decide +kernel
theorem dX7_isNext_9 : decode cX7_isNext 9 = .ok (.if_icmp .ne 7, 3) := by decide +kernel
theorem dX7_isNext_12 : decode cX7_isNext 12 = .ok (.iconst 1, 1) := by decide +kernel
theorem dX7_isNext_13 : decode cX7_isNext 13 = .ok (.goto 4, 3) := by decide +kernel
theorem dX7_isNext_16 : decode cX7_isNext 16 = .ok (.iconst 0, 1) := by decide +kernel
theorem dX7_isNext_17 : decode cX7_isNext 17 = .ok (.istore_n 2, 1) := by decide +kernel
theorem dX7_isNext_18 : decode cX7_isNext 18 = .ok (.aload_n 0, 1) := by decide +kernel
theorem dX7_isNext_19 : decode cX7_isNext 19 = .ok (.dup, 1) := by decide +kernel
theorem dX7_isNext_20 : decode cX7_isNext 20 = .ok (.getfield 170, 3) := by decide +kernel
theorem dX7_isNext_23 : decode cX7_isNext 23 = .ok (.iload_n 2, 1) := by decide +kernel
theorem dX7_isNext_24 : decode cX7_isNext 24 = .ok (.ifCond .eq 7, 3) := by decide +kernel
theorem dX7_isNext_27 : decode cX7_isNext 27 = .ok (.iconst 1, 1) := by decide +kernel
theorem dX7_isNext_28 : decode cX7_isNext 28 = .ok (.goto 4, 3) := by decide +kernel
theorem dX7_isNext_31 : decode cX7_isNext 31 = .ok (.iconst 0, 1) := by decide +kernel
theorem dX7_isNext_32 : decode cX7_isNext 32 = .ok (.iadd, 1) := by decide +kernel
theorem dX7_isNext_33 : decode cX7_isNext 33 = .ok (.putfield 170, 3) := by decide +kernel
theorem dX7_isNext_36 : decode cX7_isNext 36 = .ok (.iload_n 2, 1) := by decide +kernel
theorem dX7_isNext_37 : decode cX7_isNext 37 = .ok (.ireturn, 1) := by decide +kernel
theorem dX7_takeDigit_0 : decode cX7_takeDigit 0 = .ok (.aload_n 0, 1) := by decide +kernel
theorem dX7_takeDigit_1 : decode cX7_takeDigit 1 = .ok (.aload_n 0, 1) := by decide +kernel
theorem dX7_takeDigit_2 : decode cX7_takeDigit 2 = .ok (.getfield 170, 3) := by decide +kernel
theorem dX7_takeDigit_5 : decode cX7_takeDigit 5 = .ok (.invokevirtual 173, 3) := by decide +kernel
theorem dX7_takeDigit_8 : decode cX7_takeDigit 8 = .ok (.bipush 48, 2) := by decide +kernel
theorem dX7_takeDigit_10 : decode cX7_takeDigit 10 = .ok (.isub, 1) := by decide +kernel
theorem dX7_takeDigit_11 : decode cX7_takeDigit 11 = .ok (.istore_n 2, 1) := by decide +kernel
theorem dX7_takeDigit_12 : decode cX7_takeDigit 12 = .ok (.iload_n 2, 1) := by decide +kernel
theorem dX7_takeDigit_13 : decode cX7_takeDigit 13 = .ok (.iconst 0, 1) := by decide +kernel
theorem dX7_takeDigit_14 : decode cX7_takeDigit 14 = .ok (.iload_n 1, 1) := by decide +kernel
theorem dX7_takeDigit_15 : decode cX7_takeDigit 15 = .ok (.invokestatic 48, 3) := by decide +kernel
theorem dX7_takeDigit_18 : decode cX7_takeDigit 18 = .ok (.ifCond .ne 5, 3) := by decide +kernel
theorem dX7_takeDigit_21 : decode cX7_takeDigit 21 = .ok (.iconst (-1), 1) := by decide +kernel
theorem dX7_takeDigit_22 : decode cX7_takeDigit 22 = .ok (.ireturn, 1) := by decide +kernel
theorem dX7_takeDigit_23 : decode cX7_takeDigit 23 = .ok (.aload_n 0, 1) := by decide +kernel
theorem dX7_takeDigit_24 : decode cX7_takeDigit 24 = .ok (.dup, 1) := by decide +kernel
theorem dX7_takeDigit_25 : decode cX7_takeDigit 25 = .ok (.getfield 170, 3) := by decide +kernel
theorem dX7_takeDigit_28 : decode cX7_takeDigit 28 = .ok (.iconst 1, 1) := by decide +kernel
theorem dX7_takeDigit_29 : decode cX7_takeDigit 29 = .ok (.iadd, 1) := by decide +kernel
theorem dX7_takeDigit_30 : decode cX7_takeDigit 30 = .ok (.putfield 170, 3) := by decide +kernel
theorem dX7_takeDigit_33 : decode cX7_takeDigit 33 = .ok (.iload_n 2, 1) := by decide +kernel
theorem dX7_takeDigit_34 : decode cX7_takeDigit 34 = .ok (.ireturn, 1) := by decide +kernel
theorem dX7_takeNumber_0 : decode cX7_takeNumber 0 = .ok (.aload_n 0, 1) := by decide +kernel
theorem dX7_takeNumber_1 : decode cX7_takeNumber 1 = .ok (.bipush 9, 2) := by decide +kernel
theorem dX7_takeNumber_3 : decode cX7_takeNumber 3 = .ok (.invokevirtual 176, 3) := by decide +kernel
theorem dX7_takeNumber_6 : decode cX7_takeNumber 6 = .ok (.istore_n 1, 1) := by decide +kernel
theorem dX7_takeNumber_7 : decode cX7_takeNumber 7 = .ok (.iload_n 1, 1) := by decide +kernel
theorem dX7_takeNumber_8 : decode cX7_takeNumber 8 = .ok (.ifCond .le 42, 3) := by decide +kernel
theorem dX7_takeNumber_11 : decode cX7_takeNumber 11 = .ok (.iload_n 1, 1) := by decide +kernel
theorem dX7_takeNumber_12 : decode cX7_takeNumber 12 = .ok (.bipush 100, 2) := by decide +kernel
theorem dX7_takeNumber_14 : decode cX7_takeNumber 14 = .ok (.if_icmp .ge 36, 3) := by decide +kernel
theorem dX7_takeNumber_17 : decode cX7_takeNumber 17 = .ok (.aload_n 0, 1) := by decide +kernel
theorem dX7_takeNumber_18 : decode cX7_takeNumber 18 = .ok (.aload_n 0, 1) := by decide +kernel
theorem dX7_takeNumber_19 : decode cX7_takeNumber 19 = .ok (.getfield 170, 3) := by decide +kernel
theorem dX7_takeNumber_22 : decode cX7_takeNumber 22 = .ok (.invokevirtual 173, 3) := by decide +kernel
theorem dX7_takeNumber_25 : decode cX7_takeNumber 25 = .ok (.bipush 48, 2) := by decide +kernel
theorem dX7_takeNumber_27 : decode cX7_takeNumber 27 = .ok (.bipush 57, 2) := by decide +kernel
theorem dX7_takeNumber_29 : decode cX7_takeNumber 29 = .ok (.invokestatic 48, 3) := by decide +kernel
theorem dX7_takeNumber_32 : decode cX7_takeNumber 32 = .ok (.ifCond .eq 18, 3) := by decide +kernel
theorem dX7_takeNumber_35 : decode cX7_takeNumber 35 = .ok (.bipush 10, 2) := by decide +kernel
theorem dX7_takeNumber_37 : decode cX7_takeNumber 37 = .ok (.iload_n 1, 1) := by decide +kernel
theorem dX7_takeNumber_38 : decode cX7_takeNumber 38 = .ok (.imul, 1) := by decide +kernel
theorem dX7_takeNumber_39 : decode cX7_takeNumber 39 = .ok (.aload_n 0, 1) := by decide +kernel
theorem dX7_takeNumber_40 : decode cX7_takeNumber 40 = .ok (.bipush 9, 2) := by decide +kernel
theorem dX7_takeNumber_42 : decode cX7_takeNumber 42 = .ok (.invokevirtual 176, 3) := by decide +kernel
theorem dX7_takeNumber_45 : decode cX7_takeNumber 45 = .ok (.iadd, 1) := by decide +kernel
theorem dX7_takeNumber_46 : decode cX7_takeNumber 46 = .ok (.istore_n 1, 1) := by decide +kernel
theorem dX7_takeNumber_47 : decode cX7_takeNumber 47 = .ok (.goto (-40), 3) := by decide +kernel
theorem dX7_takeNumber_50 : decode cX7_takeNumber 50 = .ok (.iload_n 1, 1) := by decide +kernel
theorem dX7_takeNumber_51 : decode cX7_takeNumber 51 = .ok (.ireturn, 1) := by decide +kernel
theorem dX7_readsRuns_0 : decode cX7_readsRuns 0 = .ok (.aload_n 0, 1) := by decide +kernel
theorem dX7_readsRuns_1 : decode cX7_readsRuns 1 = .ok (.iconst 0, 1) := by decide +kernel
theorem dX7_readsRuns_2 : decode cX7_readsRuns 2 = .ok (.putfield 179, 3) := by decide +kernel
theorem dX7_readsRuns_5 : decode cX7_readsRuns 5 = .ok (.iconst 1, 1) := by decide +kernel
theorem dX7_readsRuns_6 : decode cX7_readsRuns 6 = .ok (.istore_n 1, 1) := by decide +kernel
theorem dX7_readsRuns_7 : decode cX7_readsRuns 7 = .ok (.iload_n 1, 1) := by decide +kernel
theorem dX7_readsRuns_8 : decode cX7_readsRuns 8 = .ok (.ifCond .eq 82, 3) := by decide +kernel
theorem dX7_readsRuns_11 : decode cX7_readsRuns 11 = .ok (.aload_n 0, 1) := by decide +kernel
theorem dX7_readsRuns_12 : decode cX7_readsRuns 12 = .ok (.bipush 9, 2) := by decide +kernel
theorem dX7_readsRuns_14 : decode cX7_readsRuns 14 = .ok (.invokevirtual 176, 3) := by decide +kernel
theorem dX7_readsRuns_17 : decode cX7_readsRuns 17 = .ok (.istore_n 2, 1) := by decide +kernel
theorem dX7_readsRuns_18 : decode cX7_readsRuns 18 = .ok (.iload_n 2, 1) := by decide +kernel
theorem dX7_readsRuns_19 : decode cX7_readsRuns 19 = .ok (.ifCond .ge 7, 3) := by decide +kernel
theorem dX7_readsRuns_22 : decode cX7_readsRuns 22 = .ok (.iconst (-1), 1) := by decide +kernel
theorem dX7_readsRuns_23 : decode cX7_readsRuns 23 = .ok (.goto 20, 3) := by decide +kernel
theorem dX7_readsRuns_26 : decode cX7_readsRuns 26 = .ok (.aload_n 0, 1) := by decide +kernel
theorem dX7_readsRuns_27 : decode cX7_readsRuns 27 = .ok (.bipush 42, 2) := by decide +kernel
theorem dX7_readsRuns_29 : decode cX7_readsRuns 29 = .ok (.invokevirtual 182, 3) := by decide +kernel
theorem dX7_readsRuns_32 : decode cX7_readsRuns 32 = .ok (.ifCond .eq 10, 3) := by decide +kernel
theorem dX7_readsRuns_35 : decode cX7_readsRuns 35 = .ok (.aload_n 0, 1) := by decide +kernel
theorem dX7_readsRuns_36 : decode cX7_readsRuns 36 = .ok (.invokevirtual 185, 3) := by decide +kernel
theorem dX7_readsRuns_39 : decode cX7_readsRuns 39 = .ok (.goto 4, 3) := by decide +kernel
theorem dX7_readsRuns_42 : decode cX7_readsRuns 42 = .ok (.iconst 1, 1) := by decide +kernel
theorem dX7_readsRuns_43 : decode cX7_readsRuns 43 = .ok (.istore_n 3, 1) := by decide +kernel
theorem dX7_readsRuns_44 : decode cX7_readsRuns 44 = .ok (.iload_n 3, 1) := by decide +kernel
theorem dX7_readsRuns_45 : decode cX7_readsRuns 45 = .ok (.ifCond .ge 5, 3) := by decide +kernel
theorem dX7_readsRuns_48 : decode cX7_readsRuns 48 = .ok (.iconst 0, 1) := by decide +kernel
theorem dX7_readsRuns_49 : decode cX7_readsRuns 49 = .ok (.ireturn, 1) := by decide +kernel
theorem dX7_readsRuns_50 : decode cX7_readsRuns 50 = .ok (.aload_n 0, 1) := by decide +kernel
theorem dX7_readsRuns_51 : decode cX7_readsRuns 51 = .ok (.getfield 34, 3) := by decide +kernel
theorem dX7_readsRuns_54 : decode cX7_readsRuns 54 = .ok (.aload_n 0, 1) := by decide +kernel
theorem dX7_readsRuns_55 : decode cX7_readsRuns 55 = .ok (.getfield 179, 3) := by decide +kernel
theorem dX7_readsRuns_58 : decode cX7_readsRuns 58 = .ok (.iload_n 2, 1) := by decide +kernel
theorem dX7_readsRuns_59 : decode cX7_readsRuns 59 = .ok (.iastore, 1) := by decide +kernel
theorem dX7_readsRuns_60 : decode cX7_readsRuns 60 = .ok (.aload_n 0, 1) := by decide +kernel
theorem dX7_readsRuns_61 : decode cX7_readsRuns 61 = .ok (.getfield 37, 3) := by decide +kernel
theorem dX7_readsRuns_64 : decode cX7_readsRuns 64 = .ok (.aload_n 0, 1) := by decide +kernel
theorem dX7_readsRuns_65 : decode cX7_readsRuns 65 = .ok (.getfield 179, 3) := by decide +kernel
theorem dX7_readsRuns_68 : decode cX7_readsRuns 68 = .ok (.iload_n 3, 1) := by decide +kernel
theorem dX7_readsRuns_69 : decode cX7_readsRuns 69 = .ok (.iastore, 1) := by decide +kernel
theorem dX7_readsRuns_70 : decode cX7_readsRuns 70 = .ok (.aload_n 0, 1) := by decide +kernel
theorem dX7_readsRuns_71 : decode cX7_readsRuns 71 = .ok (.dup, 1) := by decide +kernel
theorem dX7_readsRuns_72 : decode cX7_readsRuns 72 = .ok (.getfield 179, 3) := by decide +kernel
theorem dX7_readsRuns_75 : decode cX7_readsRuns 75 = .ok (.iconst 1, 1) := by decide +kernel
theorem dX7_readsRuns_76 : decode cX7_readsRuns 76 = .ok (.iadd, 1) := by decide +kernel
theorem dX7_readsRuns_77 : decode cX7_readsRuns 77 = .ok (.putfield 179, 3) := by decide +kernel
theorem dX7_readsRuns_80 : decode cX7_readsRuns 80 = .ok (.aload_n 0, 1) := by decide +kernel
theorem dX7_readsRuns_81 : decode cX7_readsRuns 81 = .ok (.bipush 44, 2) := by decide +kernel
theorem dX7_readsRuns_83 : decode cX7_readsRuns 83 = .ok (.invokevirtual 182, 3) := by decide +kernel
theorem dX7_readsRuns_86 : decode cX7_readsRuns 86 = .ok (.istore_n 1, 1) := by decide +kernel
theorem dX7_readsRuns_87 : decode cX7_readsRuns 87 = .ok (.goto (-80), 3) := by decide +kernel
theorem dX7_readsRuns_90 : decode cX7_readsRuns 90 = .ok (.iconst 1, 1) := by decide +kernel
theorem dX7_readsRuns_91 : decode cX7_readsRuns 91 = .ok (.ireturn, 1) := by decide +kernel
theorem dX7_readsRest_0 : decode cX7_readsRest 0 = .ok (.aload_n 0, 1) := by decide +kernel
theorem dX7_readsRest_1 : decode cX7_readsRest 1 = .ok (.getfield 188, 3) := by decide +kernel
theorem dX7_readsRest_4 : decode cX7_readsRest 4 = .ok (.lookupswitch 159 #[(33, 57), (43, 52), (45, 59), (61, 52), (64, 108)], 52) := by decide +kernel
theorem dX7_readsRest_56 : decode cX7_readsRest 56 = .ok (.aload_n 0, 1) := by decide +kernel
theorem dX7_readsRest_57 : decode cX7_readsRest 57 = .ok (.invokevirtual 191, 3) := by decide +kernel
theorem dX7_readsRest_60 : decode cX7_readsRest 60 = .ok (.ireturn, 1) := by decide +kernel
theorem dX7_readsRest_61 : decode cX7_readsRest 61 = .ok (.iconst 1, 1) := by decide +kernel
theorem dX7_readsRest_62 : decode cX7_readsRest 62 = .ok (.ireturn, 1) := by decide +kernel
theorem dX7_readsRest_63 : decode cX7_readsRest 63 = .ok (.aload_n 0, 1) := by decide +kernel
theorem dX7_readsRest_64 : decode cX7_readsRest 64 = .ok (.aload_n 0, 1) := by decide +kernel
theorem dX7_readsRest_65 : decode cX7_readsRest 65 = .ok (.invokevirtual 185, 3) := by decide +kernel
theorem dX7_readsRest_68 : decode cX7_readsRest 68 = .ok (.putfield 194, 3) := by decide +kernel
theorem dX7_readsRest_71 : decode cX7_readsRest 71 = .ok (.aload_n 0, 1) := by decide +kernel
theorem dX7_readsRest_72 : decode cX7_readsRest 72 = .ok (.aload_n 0, 1) := by decide +kernel
theorem dX7_readsRest_73 : decode cX7_readsRest 73 = .ok (.getfield 194, 3) := by decide +kernel
theorem dX7_readsRest_76 : decode cX7_readsRest 76 = .ok (.ifCond .lt 19, 3) := by decide +kernel
theorem dX7_readsRest_79 : decode cX7_readsRest 79 = .ok (.aload_n 0, 1) := by decide +kernel
theorem dX7_readsRest_80 : decode cX7_readsRest 80 = .ok (.bipush 42, 2) := by decide +kernel
theorem dX7_readsRest_82 : decode cX7_readsRest 82 = .ok (.invokevirtual 182, 3) := by decide +kernel
theorem dX7_readsRest_85 : decode cX7_readsRest 85 = .ok (.ifCond .eq 10, 3) := by decide +kernel
theorem dX7_readsRest_88 : decode cX7_readsRest 88 = .ok (.aload_n 0, 1) := by decide +kernel
theorem dX7_readsRest_89 : decode cX7_readsRest 89 = .ok (.invokevirtual 185, 3) := by decide +kernel
theorem dX7_readsRest_92 : decode cX7_readsRest 92 = .ok (.goto 4, 3) := by decide +kernel
theorem dX7_readsRest_95 : decode cX7_readsRest 95 = .ok (.iconst (-1), 1) := by decide +kernel
theorem dX7_readsRest_96 : decode cX7_readsRest 96 = .ok (.putfield 197, 3) := by decide +kernel
theorem dX7_readsRest_99 : decode cX7_readsRest 99 = .ok (.aload_n 0, 1) := by decide +kernel
theorem dX7_readsRest_100 : decode cX7_readsRest 100 = .ok (.getfield 197, 3) := by decide +kernel
theorem dX7_readsRest_103 : decode cX7_readsRest 103 = .ok (.ifCond .lt 7, 3) := by decide +kernel
theorem dX7_readsRest_106 : decode cX7_readsRest 106 = .ok (.iconst 1, 1) := by decide +kernel
theorem dX7_readsRest_107 : decode cX7_readsRest 107 = .ok (.goto 4, 3) := by decide +kernel
theorem dX7_readsRest_110 : decode cX7_readsRest 110 = .ok (.iconst 0, 1) := by decide +kernel
theorem dX7_readsRest_111 : decode cX7_readsRest 111 = .ok (.ireturn, 1) := by decide +kernel
theorem dX7_readsRest_112 : decode cX7_readsRest 112 = .ok (.aload_n 0, 1) := by decide +kernel
theorem dX7_readsRest_113 : decode cX7_readsRest 113 = .ok (.aload_n 0, 1) := by decide +kernel
theorem dX7_readsRest_114 : decode cX7_readsRest 114 = .ok (.invokevirtual 185, 3) := by decide +kernel
theorem dX7_readsRest_117 : decode cX7_readsRest 117 = .ok (.putfield 194, 3) := by decide +kernel
theorem dX7_readsRest_120 : decode cX7_readsRest 120 = .ok (.aload_n 0, 1) := by decide +kernel
theorem dX7_readsRest_121 : decode cX7_readsRest 121 = .ok (.aload_n 0, 1) := by decide +kernel
theorem dX7_readsRest_122 : decode cX7_readsRest 122 = .ok (.getfield 194, 3) := by decide +kernel
theorem dX7_readsRest_125 : decode cX7_readsRest 125 = .ok (.ifCond .lt 21, 3) := by decide +kernel
theorem dX7_readsRest_128 : decode cX7_readsRest 128 = .ok (.aload_n 0, 1) := by decide +kernel
theorem dX7_readsRest_129 : decode cX7_readsRest 129 = .ok (.bipush 61, 2) := by decide +kernel
theorem dX7_readsRest_131 : decode cX7_readsRest 131 = .ok (.invokevirtual 182, 3) := by decide +kernel
theorem dX7_readsRest_134 : decode cX7_readsRest 134 = .ok (.ifCond .eq 12, 3) := by decide +kernel
theorem dX7_readsRest_137 : decode cX7_readsRest 137 = .ok (.aload_n 0, 1) := by decide +kernel
theorem dX7_readsRest_138 : decode cX7_readsRest 138 = .ok (.bipush 9, 2) := by decide +kernel
theorem dX7_readsRest_140 : decode cX7_readsRest 140 = .ok (.invokevirtual 176, 3) := by decide +kernel
theorem dX7_readsRest_143 : decode cX7_readsRest 143 = .ok (.goto 4, 3) := by decide +kernel
theorem dX7_readsRest_146 : decode cX7_readsRest 146 = .ok (.iconst (-1), 1) := by decide +kernel
theorem dX7_readsRest_147 : decode cX7_readsRest 147 = .ok (.putfield 197, 3) := by decide +kernel
theorem dX7_readsRest_150 : decode cX7_readsRest 150 = .ok (.aload_n 0, 1) := by decide +kernel
theorem dX7_readsRest_151 : decode cX7_readsRest 151 = .ok (.getfield 197, 3) := by decide +kernel
theorem dX7_readsRest_154 : decode cX7_readsRest 154 = .ok (.ifCond .lt 7, 3) := by decide +kernel
theorem dX7_readsRest_157 : decode cX7_readsRest 157 = .ok (.iconst 1, 1) := by decide +kernel
theorem dX7_readsRest_158 : decode cX7_readsRest 158 = .ok (.goto 4, 3) := by decide +kernel
theorem dX7_readsRest_161 : decode cX7_readsRest 161 = .ok (.iconst 0, 1) := by decide +kernel
theorem dX7_readsRest_162 : decode cX7_readsRest 162 = .ok (.ireturn, 1) := by decide +kernel
theorem dX7_readsRest_163 : decode cX7_readsRest 163 = .ok (.aload_n 0, 1) := by decide +kernel
theorem dX7_readsRest_164 : decode cX7_readsRest 164 = .ok (.dup, 1) := by decide +kernel
theorem dX7_readsRest_165 : decode cX7_readsRest 165 = .ok (.getfield 170, 3) := by decide +kernel
theorem dX7_readsRest_168 : decode cX7_readsRest 168 = .ok (.iconst 1, 1) := by decide +kernel
theorem dX7_readsRest_169 : decode cX7_readsRest 169 = .ok (.isub, 1) := by decide +kernel
theorem dX7_readsRest_170 : decode cX7_readsRest 170 = .ok (.putfield 170, 3) := by decide +kernel
theorem dX7_readsRest_173 : decode cX7_readsRest 173 = .ok (.iconst 0, 1) := by decide +kernel
theorem dX7_readsRest_174 : decode cX7_readsRest 174 = .ok (.ireturn, 1) := by decide +kernel
theorem dX7_readsOrder_0 : decode cX7_readsOrder 0 = .ok (.aload_n 0, 1) := by decide +kernel
theorem dX7_readsOrder_1 : decode cX7_readsOrder 1 = .ok (.aload_n 0, 1) := by decide +kernel
theorem dX7_readsOrder_2 : decode cX7_readsOrder 2 = .ok (.iconst 3, 1) := by decide +kernel
theorem dX7_readsOrder_3 : decode cX7_readsOrder 3 = .ok (.invokevirtual 176, 3) := by decide +kernel
theorem dX7_readsOrder_6 : decode cX7_readsOrder 6 = .ok (.putfield 200, 3) := by decide +kernel
theorem dX7_readsOrder_9 : decode cX7_readsOrder 9 = .ok (.aload_n 0, 1) := by decide +kernel
theorem dX7_readsOrder_10 : decode cX7_readsOrder 10 = .ok (.getfield 200, 3) := by decide +kernel
theorem dX7_readsOrder_13 : decode cX7_readsOrder 13 = .ok (.ifCond .ge 5, 3) := by decide +kernel
theorem dX7_readsOrder_16 : decode cX7_readsOrder 16 = .ok (.iconst 0, 1) := by decide +kernel
theorem dX7_readsOrder_17 : decode cX7_readsOrder 17 = .ok (.ireturn, 1) := by decide +kernel
theorem dX7_readsOrder_18 : decode cX7_readsOrder 18 = .ok (.aload_n 0, 1) := by decide +kernel
theorem dX7_readsOrder_19 : decode cX7_readsOrder 19 = .ok (.aload_n 0, 1) := by decide +kernel
theorem dX7_readsOrder_20 : decode cX7_readsOrder 20 = .ok (.aload_n 0, 1) := by decide +kernel
theorem dX7_readsOrder_21 : decode cX7_readsOrder 21 = .ok (.getfield 170, 3) := by decide +kernel
theorem dX7_readsOrder_24 : decode cX7_readsOrder 24 = .ok (.invokevirtual 173, 3) := by decide +kernel
theorem dX7_readsOrder_27 : decode cX7_readsOrder 27 = .ok (.putfield 188, 3) := by decide +kernel
theorem dX7_readsOrder_30 : decode cX7_readsOrder 30 = .ok (.aload_n 0, 1) := by decide +kernel
theorem dX7_readsOrder_31 : decode cX7_readsOrder 31 = .ok (.dup, 1) := by decide +kernel
theorem dX7_readsOrder_32 : decode cX7_readsOrder 32 = .ok (.getfield 170, 3) := by decide +kernel
theorem dX7_readsOrder_35 : decode cX7_readsOrder 35 = .ok (.iconst 1, 1) := by decide +kernel
theorem dX7_readsOrder_36 : decode cX7_readsOrder 36 = .ok (.iadd, 1) := by decide +kernel
theorem dX7_readsOrder_37 : decode cX7_readsOrder 37 = .ok (.putfield 170, 3) := by decide +kernel
theorem dX7_readsOrder_40 : decode cX7_readsOrder 40 = .ok (.aload_n 0, 1) := by decide +kernel
theorem dX7_readsOrder_41 : decode cX7_readsOrder 41 = .ok (.invokevirtual 203, 3) := by decide +kernel
theorem dX7_readsOrder_44 : decode cX7_readsOrder 44 = .ok (.ireturn, 1) := by decide +kernel
theorem dX7_findFault_0 : decode cX7_findFault 0 = .ok (.aload_n 0, 1) := by decide +kernel
theorem dX7_findFault_1 : decode cX7_findFault 1 = .ok (.iconst 0, 1) := by decide +kernel
theorem dX7_findFault_2 : decode cX7_findFault 2 = .ok (.putfield 170, 3) := by decide +kernel
theorem dX7_findFault_5 : decode cX7_findFault 5 = .ok (.aload_n 0, 1) := by decide +kernel
theorem dX7_findFault_6 : decode cX7_findFault 6 = .ok (.invokevirtual 206, 3) := by decide +kernel
theorem dX7_findFault_9 : decode cX7_findFault 9 = .ok (.ifCond .ne 8, 3) := by decide +kernel
theorem dX7_findFault_12 : decode cX7_findFault 12 = .ok (.aload_n 0, 1) := by decide +kernel
theorem dX7_findFault_13 : decode cX7_findFault 13 = .ok (.getfield 170, 3) := by decide +kernel
theorem dX7_findFault_16 : decode cX7_findFault 16 = .ok (.ireturn, 1) := by decide +kernel
theorem dX7_findFault_17 : decode cX7_findFault 17 = .ok (.aload_n 0, 1) := by decide +kernel
theorem dX7_findFault_18 : decode cX7_findFault 18 = .ok (.getfield 170, 3) := by decide +kernel
theorem dX7_findFault_21 : decode cX7_findFault 21 = .ok (.aload_n 0, 1) := by decide +kernel
theorem dX7_findFault_22 : decode cX7_findFault 22 = .ok (.getfield 153, 3) := by decide +kernel
theorem dX7_findFault_25 : decode cX7_findFault 25 = .ok (.if_icmp .ne 6, 3) := by decide +kernel
theorem dX7_findFault_28 : decode cX7_findFault 28 = .ok (.bipush (-6), 2) := by decide +kernel
theorem dX7_findFault_30 : decode cX7_findFault 30 = .ok (.ireturn, 1) := by decide +kernel
theorem dX7_findFault_31 : decode cX7_findFault 31 = .ok (.aload_n 0, 1) := by decide +kernel
theorem dX7_findFault_32 : decode cX7_findFault 32 = .ok (.bipush 59, 2) := by decide +kernel
theorem dX7_findFault_34 : decode cX7_findFault 34 = .ok (.invokevirtual 182, 3) := by decide +kernel
theorem dX7_findFault_37 : decode cX7_findFault 37 = .ok (.ifCond .ne (-32), 3) := by decide +kernel
theorem dX7_findFault_40 : decode cX7_findFault 40 = .ok (.aload_n 0, 1) := by decide +kernel
theorem dX7_findFault_41 : decode cX7_findFault 41 = .ok (.getfield 170, 3) := by decide +kernel
theorem dX7_findFault_44 : decode cX7_findFault 44 = .ok (.ireturn, 1) := by decide +kernel
theorem dX7_fault_0 : decode cX7_fault 0 = .ok (.aload_n 0, 1) := by decide +kernel
theorem dX7_fault_1 : decode cX7_fault 1 = .ok (.invokevirtual 209, 3) := by decide +kernel
theorem dX7_fault_4 : decode cX7_fault 4 = .ok (.ireturn, 1) := by decide +kernel
theorem dX7_layOutTold_0 : decode cX7_layOutTold 0 = .ok (.aload_n 0, 1) := by decide +kernel
theorem dX7_layOutTold_1 : decode cX7_layOutTold 1 = .ok (.getfield 63, 3) := by decide +kernel
theorem dX7_layOutTold_4 : decode cX7_layOutTold 4 = .ok (.istore_n 1, 1) := by decide +kernel
theorem dX7_layOutTold_5 : decode cX7_layOutTold 5 = .ok (.iconst 1, 1) := by decide +kernel
theorem dX7_layOutTold_6 : decode cX7_layOutTold 6 = .ok (.istore_n 2, 1) := by decide +kernel
theorem dX7_layOutTold_7 : decode cX7_layOutTold 7 = .ok (.iconst 0, 1) := by decide +kernel
theorem dX7_layOutTold_8 : decode cX7_layOutTold 8 = .ok (.istore_n 3, 1) := by decide +kernel
theorem dX7_layOutTold_9 : decode cX7_layOutTold 9 = .ok (.iload_n 3, 1) := by decide +kernel
theorem dX7_layOutTold_10 : decode cX7_layOutTold 10 = .ok (.aload_n 0, 1) := by decide +kernel
theorem dX7_layOutTold_11 : decode cX7_layOutTold 11 = .ok (.getfield 179, 3) := by decide +kernel
theorem dX7_layOutTold_14 : decode cX7_layOutTold 14 = .ok (.if_icmp .ge 37, 3) := by decide +kernel
theorem dX7_layOutTold_17 : decode cX7_layOutTold 17 = .ok (.iload_n 1, 1) := by decide +kernel
theorem dX7_layOutTold_18 : decode cX7_layOutTold 18 = .ok (.aload_n 0, 1) := by decide +kernel
theorem dX7_layOutTold_19 : decode cX7_layOutTold 19 = .ok (.getfield 37, 3) := by decide +kernel
theorem dX7_layOutTold_22 : decode cX7_layOutTold 22 = .ok (.iload_n 3, 1) := by decide +kernel
theorem dX7_layOutTold_23 : decode cX7_layOutTold 23 = .ok (.iaload, 1) := by decide +kernel
theorem dX7_layOutTold_24 : decode cX7_layOutTold 24 = .ok (.iadd, 1) := by decide +kernel
theorem dX7_layOutTold_25 : decode cX7_layOutTold 25 = .ok (.istore_n 1, 1) := by decide +kernel
theorem dX7_layOutTold_26 : decode cX7_layOutTold 26 = .ok (.iload_n 2, 1) := by decide +kernel
theorem dX7_layOutTold_27 : decode cX7_layOutTold 27 = .ok (.ifCond .eq 16, 3) := by decide +kernel
theorem dX7_layOutTold_30 : decode cX7_layOutTold 30 = .ok (.aload_n 0, 1) := by decide +kernel
theorem dX7_layOutTold_31 : decode cX7_layOutTold 31 = .ok (.getfield 37, 3) := by decide +kernel
theorem dX7_layOutTold_34 : decode cX7_layOutTold 34 = .ok (.iload_n 3, 1) := by decide +kernel
theorem dX7_layOutTold_35 : decode cX7_layOutTold 35 = .ok (.iaload, 1) := by decide +kernel
theorem dX7_layOutTold_36 : decode cX7_layOutTold 36 = .ok (.ifCond .le 7, 3) := by decide +kernel
theorem dX7_layOutTold_39 : decode cX7_layOutTold 39 = .ok (.iconst 1, 1) := by decide +kernel
theorem dX7_layOutTold_40 : decode cX7_layOutTold 40 = .ok (.goto 4, 3) := by decide +kernel
theorem dX7_layOutTold_43 : decode cX7_layOutTold 43 = .ok (.iconst 0, 1) := by decide +kernel
theorem dX7_layOutTold_44 : decode cX7_layOutTold 44 = .ok (.istore_n 2, 1) := by decide +kernel
theorem dX7_layOutTold_45 : decode cX7_layOutTold 45 = .ok (.iinc 3 1, 3) := by decide +kernel
theorem dX7_layOutTold_48 : decode cX7_layOutTold 48 = .ok (.goto (-39), 3) := by decide +kernel
theorem dX7_layOutTold_51 : decode cX7_layOutTold 51 = .ok (.iload_n 2, 1) := by decide +kernel
theorem dX7_layOutTold_52 : decode cX7_layOutTold 52 = .ok (.ifCond .eq 10, 3) := by decide +kernel
theorem dX7_layOutTold_55 : decode cX7_layOutTold 55 = .ok (.iload_n 1, 1) := by decide +kernel
theorem dX7_layOutTold_56 : decode cX7_layOutTold 56 = .ok (.sipush 999, 3) := by decide +kernel
theorem dX7_layOutTold_59 : decode cX7_layOutTold 59 = .ok (.if_icmp .le 15, 3) := by decide +kernel
theorem dX7_layOutTold_62 : decode cX7_layOutTold 62 = .ok (.iload_n 2, 1) := by decide +kernel
theorem dX7_layOutTold_63 : decode cX7_layOutTold 63 = .ok (.ifCond .eq 8, 3) := by decide +kernel
theorem dX7_layOutTold_66 : decode cX7_layOutTold 66 = .ok (.bipush (-4), 2) := by decide +kernel
theorem dX7_layOutTold_68 : decode cX7_layOutTold 68 = .ok (.goto 5, 3) := by decide +kernel
theorem dX7_layOutTold_71 : decode cX7_layOutTold 71 = .ok (.bipush (-2), 2) := by decide +kernel
theorem dX7_layOutTold_73 : decode cX7_layOutTold 73 = .ok (.ireturn, 1) := by decide +kernel
theorem dX7_layOutTold_74 : decode cX7_layOutTold 74 = .ok (.iconst 0, 1) := by decide +kernel
theorem dX7_layOutTold_75 : decode cX7_layOutTold 75 = .ok (.istore_n 3, 1) := by decide +kernel
theorem dX7_layOutTold_76 : decode cX7_layOutTold 76 = .ok (.iload_n 3, 1) := by decide +kernel
theorem dX7_layOutTold_77 : decode cX7_layOutTold 77 = .ok (.aload_n 0, 1) := by decide +kernel
theorem dX7_layOutTold_78 : decode cX7_layOutTold 78 = .ok (.getfield 179, 3) := by decide +kernel
theorem dX7_layOutTold_81 : decode cX7_layOutTold 81 = .ok (.if_icmp .ge 29, 3) := by decide +kernel
theorem dX7_layOutTold_84 : decode cX7_layOutTold 84 = .ok (.aload_n 0, 1) := by decide +kernel
theorem dX7_layOutTold_85 : decode cX7_layOutTold 85 = .ok (.aload_n 0, 1) := by decide +kernel
theorem dX7_layOutTold_86 : decode cX7_layOutTold 86 = .ok (.getfield 63, 3) := by decide +kernel
theorem dX7_layOutTold_89 : decode cX7_layOutTold 89 = .ok (.aload_n 0, 1) := by decide +kernel
theorem dX7_layOutTold_90 : decode cX7_layOutTold 90 = .ok (.getfield 34, 3) := by decide +kernel
theorem dX7_layOutTold_93 : decode cX7_layOutTold 93 = .ok (.iload_n 3, 1) := by decide +kernel
theorem dX7_layOutTold_94 : decode cX7_layOutTold 94 = .ok (.iaload, 1) := by decide +kernel
theorem dX7_layOutTold_95 : decode cX7_layOutTold 95 = .ok (.aload_n 0, 1) := by decide +kernel
theorem dX7_layOutTold_96 : decode cX7_layOutTold 96 = .ok (.getfield 37, 3) := by decide +kernel
theorem dX7_layOutTold_99 : decode cX7_layOutTold 99 = .ok (.iload_n 3, 1) := by decide +kernel
theorem dX7_layOutTold_100 : decode cX7_layOutTold 100 = .ok (.iaload, 1) := by decide +kernel
theorem dX7_layOutTold_101 : decode cX7_layOutTold 101 = .ok (.invokevirtual 87, 3) := by decide +kernel
theorem dX7_layOutTold_104 : decode cX7_layOutTold 104 = .ok (.iinc 3 1, 3) := by decide +kernel
theorem dX7_layOutTold_107 : decode cX7_layOutTold 107 = .ok (.goto (-31), 3) := by decide +kernel
theorem dX7_layOutTold_110 : decode cX7_layOutTold 110 = .ok (.aload_n 0, 1) := by decide +kernel
theorem dX7_layOutTold_111 : decode cX7_layOutTold 111 = .ok (.invokevirtual 91, 3) := by decide +kernel
theorem dX7_layOutTold_114 : decode cX7_layOutTold 114 = .ok (.ifCond .eq 8, 3) := by decide +kernel
theorem dX7_layOutTold_117 : decode cX7_layOutTold 117 = .ok (.bipush (-4), 2) := by decide +kernel
theorem dX7_layOutTold_119 : decode cX7_layOutTold 119 = .ok (.goto 4, 3) := by decide +kernel
theorem dX7_layOutTold_122 : decode cX7_layOutTold 122 = .ok (.iconst 0, 1) := by decide +kernel
theorem dX7_layOutTold_123 : decode cX7_layOutTold 123 = .ok (.ireturn, 1) := by decide +kernel
theorem dX7_doesOrder_0 : decode cX7_doesOrder 0 = .ok (.aload_n 0, 1) := by decide +kernel
theorem dX7_doesOrder_1 : decode cX7_doesOrder 1 = .ok (.getfield 188, 3) := by decide +kernel
theorem dX7_doesOrder_4 : decode cX7_doesOrder 4 = .ok (.lookupswitch 143 #[(33, 92), (43, 44), (45, 103), (61, 44)], 44) := by decide +kernel
theorem dX7_doesOrder_48 : decode cX7_doesOrder 48 = .ok (.aload_n 0, 1) := by decide +kernel
theorem dX7_doesOrder_49 : decode cX7_doesOrder 49 = .ok (.aload_n 0, 1) := by decide +kernel
theorem dX7_doesOrder_50 : decode cX7_doesOrder 50 = .ok (.getfield 200, 3) := by decide +kernel
theorem dX7_doesOrder_53 : decode cX7_doesOrder 53 = .ok (.invokevirtual 83, 3) := by decide +kernel
theorem dX7_doesOrder_56 : decode cX7_doesOrder 56 = .ok (.aload_n 0, 1) := by decide +kernel
theorem dX7_doesOrder_57 : decode cX7_doesOrder 57 = .ok (.aload_n 0, 1) := by decide +kernel
theorem dX7_doesOrder_58 : decode cX7_doesOrder 58 = .ok (.getfield 188, 3) := by decide +kernel
theorem dX7_doesOrder_61 : decode cX7_doesOrder 61 = .ok (.bipush 61, 2) := by decide +kernel
theorem dX7_doesOrder_63 : decode cX7_doesOrder 63 = .ok (.if_icmp .ne 7, 3) := by decide +kernel
theorem dX7_doesOrder_66 : decode cX7_doesOrder 66 = .ok (.iconst 0, 1) := by decide +kernel
theorem dX7_doesOrder_67 : decode cX7_doesOrder 67 = .ok (.goto 7, 3) := by decide +kernel
theorem dX7_doesOrder_70 : decode cX7_doesOrder 70 = .ok (.aload_n 0, 1) := by decide +kernel
theorem dX7_doesOrder_71 : decode cX7_doesOrder 71 = .ok (.getfield 63, 3) := by decide +kernel
theorem dX7_doesOrder_74 : decode cX7_doesOrder 74 = .ok (.putfield 63, 3) := by decide +kernel
theorem dX7_doesOrder_77 : decode cX7_doesOrder 77 = .ok (.aload_n 0, 1) := by decide +kernel
theorem dX7_doesOrder_78 : decode cX7_doesOrder 78 = .ok (.invokevirtual 212, 3) := by decide +kernel
theorem dX7_doesOrder_81 : decode cX7_doesOrder 81 = .ok (.ifCond .ge 5, 3) := by decide +kernel
theorem dX7_doesOrder_84 : decode cX7_doesOrder 84 = .ok (.iconst 0, 1) := by decide +kernel
theorem dX7_doesOrder_85 : decode cX7_doesOrder 85 = .ok (.ireturn, 1) := by decide +kernel
theorem dX7_doesOrder_86 : decode cX7_doesOrder 86 = .ok (.aload_n 0, 1) := by decide +kernel
theorem dX7_doesOrder_87 : decode cX7_doesOrder 87 = .ok (.aload_n 0, 1) := by decide +kernel
theorem dX7_doesOrder_88 : decode cX7_doesOrder 88 = .ok (.getfield 200, 3) := by decide +kernel
theorem dX7_doesOrder_91 : decode cX7_doesOrder 91 = .ok (.invokevirtual 98, 3) := by decide +kernel
theorem dX7_doesOrder_94 : decode cX7_doesOrder 94 = .ok (.iconst 1, 1) := by decide +kernel
theorem dX7_doesOrder_95 : decode cX7_doesOrder 95 = .ok (.ireturn, 1) := by decide +kernel
theorem dX7_doesOrder_96 : decode cX7_doesOrder 96 = .ok (.aload_n 0, 1) := by decide +kernel
theorem dX7_doesOrder_97 : decode cX7_doesOrder 97 = .ok (.aload_n 0, 1) := by decide +kernel
theorem dX7_doesOrder_98 : decode cX7_doesOrder 98 = .ok (.getfield 200, 3) := by decide +kernel
theorem dX7_doesOrder_101 : decode cX7_doesOrder 101 = .ok (.invokevirtual 121, 3) := by decide +kernel
theorem dX7_doesOrder_104 : decode cX7_doesOrder 104 = .ok (.pop, 1) := by decide +kernel
theorem dX7_doesOrder_105 : decode cX7_doesOrder 105 = .ok (.iconst 1, 1) := by decide +kernel
theorem dX7_doesOrder_106 : decode cX7_doesOrder 106 = .ok (.ireturn, 1) := by decide +kernel
theorem dX7_doesOrder_107 : decode cX7_doesOrder 107 = .ok (.aload_n 0, 1) := by decide +kernel
theorem dX7_doesOrder_108 : decode cX7_doesOrder 108 = .ok (.aload_n 0, 1) := by decide +kernel
theorem dX7_doesOrder_109 : decode cX7_doesOrder 109 = .ok (.getfield 200, 3) := by decide +kernel
theorem dX7_doesOrder_112 : decode cX7_doesOrder 112 = .ok (.aload_n 0, 1) := by decide +kernel
theorem dX7_doesOrder_113 : decode cX7_doesOrder 113 = .ok (.getfield 194, 3) := by decide +kernel
theorem dX7_doesOrder_116 : decode cX7_doesOrder 116 = .ok (.aload_n 0, 1) := by decide +kernel
theorem dX7_doesOrder_117 : decode cX7_doesOrder 117 = .ok (.getfield 197, 3) := by decide +kernel
theorem dX7_doesOrder_120 : decode cX7_doesOrder 120 = .ok (.invokevirtual 105, 3) := by decide +kernel
theorem dX7_doesOrder_123 : decode cX7_doesOrder 123 = .ok (.ifCond .ge 5, 3) := by decide +kernel
theorem dX7_doesOrder_126 : decode cX7_doesOrder 126 = .ok (.iconst 0, 1) := by decide +kernel
theorem dX7_doesOrder_127 : decode cX7_doesOrder 127 = .ok (.ireturn, 1) := by decide +kernel
theorem dX7_doesOrder_128 : decode cX7_doesOrder 128 = .ok (.aload_n 0, 1) := by decide +kernel
theorem dX7_doesOrder_129 : decode cX7_doesOrder 129 = .ok (.aload_n 0, 1) := by decide +kernel
theorem dX7_doesOrder_130 : decode cX7_doesOrder 130 = .ok (.getfield 200, 3) := by decide +kernel
theorem dX7_doesOrder_133 : decode cX7_doesOrder 133 = .ok (.aload_n 0, 1) := by decide +kernel
theorem dX7_doesOrder_134 : decode cX7_doesOrder 134 = .ok (.getfield 194, 3) := by decide +kernel
theorem dX7_doesOrder_137 : decode cX7_doesOrder 137 = .ok (.aload_n 0, 1) := by decide +kernel
theorem dX7_doesOrder_138 : decode cX7_doesOrder 138 = .ok (.getfield 197, 3) := by decide +kernel
theorem dX7_doesOrder_141 : decode cX7_doesOrder 141 = .ok (.invokevirtual 109, 3) := by decide +kernel
theorem dX7_doesOrder_144 : decode cX7_doesOrder 144 = .ok (.pop, 1) := by decide +kernel
theorem dX7_doesOrder_145 : decode cX7_doesOrder 145 = .ok (.iconst 1, 1) := by decide +kernel
theorem dX7_doesOrder_146 : decode cX7_doesOrder 146 = .ok (.ireturn, 1) := by decide +kernel
theorem dX7_doesOrder_147 : decode cX7_doesOrder 147 = .ok (.aload_n 0, 1) := by decide +kernel
theorem dX7_doesOrder_148 : decode cX7_doesOrder 148 = .ok (.aload_n 0, 1) := by decide +kernel
theorem dX7_doesOrder_149 : decode cX7_doesOrder 149 = .ok (.getfield 200, 3) := by decide +kernel
theorem dX7_doesOrder_152 : decode cX7_doesOrder 152 = .ok (.aload_n 0, 1) := by decide +kernel
theorem dX7_doesOrder_153 : decode cX7_doesOrder 153 = .ok (.getfield 194, 3) := by decide +kernel
theorem dX7_doesOrder_156 : decode cX7_doesOrder 156 = .ok (.aload_n 0, 1) := by decide +kernel
theorem dX7_doesOrder_157 : decode cX7_doesOrder 157 = .ok (.getfield 197, 3) := by decide +kernel
theorem dX7_doesOrder_160 : decode cX7_doesOrder 160 = .ok (.invokevirtual 112, 3) := by decide +kernel
theorem dX7_doesOrder_163 : decode cX7_doesOrder 163 = .ok (.ifCond .ge 5, 3) := by decide +kernel
theorem dX7_doesOrder_166 : decode cX7_doesOrder 166 = .ok (.iconst 0, 1) := by decide +kernel
theorem dX7_doesOrder_167 : decode cX7_doesOrder 167 = .ok (.ireturn, 1) := by decide +kernel
theorem dX7_doesOrder_168 : decode cX7_doesOrder 168 = .ok (.aload_n 0, 1) := by decide +kernel
theorem dX7_doesOrder_169 : decode cX7_doesOrder 169 = .ok (.aload_n 0, 1) := by decide +kernel
theorem dX7_doesOrder_170 : decode cX7_doesOrder 170 = .ok (.getfield 200, 3) := by decide +kernel
theorem dX7_doesOrder_173 : decode cX7_doesOrder 173 = .ok (.invokevirtual 98, 3) := by decide +kernel
theorem dX7_doesOrder_176 : decode cX7_doesOrder 176 = .ok (.iconst 1, 1) := by decide +kernel
theorem dX7_doesOrder_177 : decode cX7_doesOrder 177 = .ok (.ireturn, 1) := by decide +kernel
theorem dX7_carryOut_0 : decode cX7_carryOut 0 = .ok (.aload_n 0, 1) := by decide +kernel
theorem dX7_carryOut_1 : decode cX7_carryOut 1 = .ok (.invokevirtual 209, 3) := by decide +kernel
theorem dX7_carryOut_4 : decode cX7_carryOut 4 = .ok (.bipush (-6), 2) := by decide +kernel
theorem dX7_carryOut_6 : decode cX7_carryOut 6 = .ok (.if_icmp .eq 6, 3) := by decide +kernel
theorem dX7_carryOut_9 : decode cX7_carryOut 9 = .ok (.bipush (-3), 2) := by decide +kernel
theorem dX7_carryOut_11 : decode cX7_carryOut 11 = .ok (.ireturn, 1) := by decide +kernel
theorem dX7_carryOut_12 : decode cX7_carryOut 12 = .ok (.aload_n 0, 1) := by decide +kernel
theorem dX7_carryOut_13 : decode cX7_carryOut 13 = .ok (.invokevirtual 95, 3) := by decide +kernel
theorem dX7_carryOut_16 : decode cX7_carryOut 16 = .ok (.iconst 0, 1) := by decide +kernel
theorem dX7_carryOut_17 : decode cX7_carryOut 17 = .ok (.istore_n 1, 1) := by decide +kernel
theorem dX7_carryOut_18 : decode cX7_carryOut 18 = .ok (.aload_n 0, 1) := by decide +kernel
theorem dX7_carryOut_19 : decode cX7_carryOut 19 = .ok (.iconst 0, 1) := by decide +kernel
theorem dX7_carryOut_20 : decode cX7_carryOut 20 = .ok (.putfield 170, 3) := by decide +kernel
theorem dX7_carryOut_23 : decode cX7_carryOut 23 = .ok (.iconst 1, 1) := by decide +kernel
theorem dX7_carryOut_24 : decode cX7_carryOut 24 = .ok (.istore_n 2, 1) := by decide +kernel
theorem dX7_carryOut_25 : decode cX7_carryOut 25 = .ok (.iload_n 2, 1) := by decide +kernel
theorem dX7_carryOut_26 : decode cX7_carryOut 26 = .ok (.ifCond .eq 46, 3) := by decide +kernel
theorem dX7_carryOut_29 : decode cX7_carryOut 29 = .ok (.aload_n 0, 1) := by decide +kernel
theorem dX7_carryOut_30 : decode cX7_carryOut 30 = .ok (.getfield 170, 3) := by decide +kernel
theorem dX7_carryOut_33 : decode cX7_carryOut 33 = .ok (.aload_n 0, 1) := by decide +kernel
theorem dX7_carryOut_34 : decode cX7_carryOut 34 = .ok (.getfield 153, 3) := by decide +kernel
theorem dX7_carryOut_37 : decode cX7_carryOut 37 = .ok (.if_icmp .ge 35, 3) := by decide +kernel
theorem dX7_carryOut_40 : decode cX7_carryOut 40 = .ok (.aload_n 0, 1) := by decide +kernel
theorem dX7_carryOut_41 : decode cX7_carryOut 41 = .ok (.invokevirtual 206, 3) := by decide +kernel
theorem dX7_carryOut_44 : decode cX7_carryOut 44 = .ok (.pop, 1) := by decide +kernel
theorem dX7_carryOut_45 : decode cX7_carryOut 45 = .ok (.aload_n 0, 1) := by decide +kernel
theorem dX7_carryOut_46 : decode cX7_carryOut 46 = .ok (.bipush 59, 2) := by decide +kernel
theorem dX7_carryOut_48 : decode cX7_carryOut 48 = .ok (.invokevirtual 182, 3) := by decide +kernel
theorem dX7_carryOut_51 : decode cX7_carryOut 51 = .ok (.pop, 1) := by decide +kernel
theorem dX7_carryOut_52 : decode cX7_carryOut 52 = .ok (.aload_n 0, 1) := by decide +kernel
theorem dX7_carryOut_53 : decode cX7_carryOut 53 = .ok (.invokevirtual 215, 3) := by decide +kernel
theorem dX7_carryOut_56 : decode cX7_carryOut 56 = .ok (.istore_n 2, 1) := by decide +kernel
theorem dX7_carryOut_57 : decode cX7_carryOut 57 = .ok (.iload_n 1, 1) := by decide +kernel
theorem dX7_carryOut_58 : decode cX7_carryOut 58 = .ok (.iload_n 2, 1) := by decide +kernel
theorem dX7_carryOut_59 : decode cX7_carryOut 59 = .ok (.ifCond .eq 7, 3) := by decide +kernel
theorem dX7_carryOut_62 : decode cX7_carryOut 62 = .ok (.iconst 1, 1) := by decide +kernel
theorem dX7_carryOut_63 : decode cX7_carryOut 63 = .ok (.goto 4, 3) := by decide +kernel
theorem dX7_carryOut_66 : decode cX7_carryOut 66 = .ok (.iconst 0, 1) := by decide +kernel
theorem dX7_carryOut_67 : decode cX7_carryOut 67 = .ok (.iadd, 1) := by decide +kernel
theorem dX7_carryOut_68 : decode cX7_carryOut 68 = .ok (.istore_n 1, 1) := by decide +kernel
theorem dX7_carryOut_69 : decode cX7_carryOut 69 = .ok (.goto (-44), 3) := by decide +kernel
theorem dX7_carryOut_72 : decode cX7_carryOut 72 = .ok (.aload_n 0, 1) := by decide +kernel
theorem dX7_carryOut_73 : decode cX7_carryOut 73 = .ok (.iconst 0, 1) := by decide +kernel
theorem dX7_carryOut_74 : decode cX7_carryOut 74 = .ok (.putfield 153, 3) := by decide +kernel
theorem dX7_carryOut_77 : decode cX7_carryOut 77 = .ok (.iload_n 1, 1) := by decide +kernel
theorem dX7_carryOut_78 : decode cX7_carryOut 78 = .ok (.ireturn, 1) := by decide +kernel
theorem dX7_undo_0 : decode cX7_undo 0 = .ok (.aload_n 0, 1) := by decide +kernel
theorem dX7_undo_1 : decode cX7_undo 1 = .ok (.getfield 40, 3) := by decide +kernel
theorem dX7_undo_4 : decode cX7_undo 4 = .ok (.ifCond .ne 6, 3) := by decide +kernel
theorem dX7_undo_7 : decode cX7_undo 7 = .ok (.bipush (-5), 2) := by decide +kernel
theorem dX7_undo_9 : decode cX7_undo 9 = .ok (.ireturn, 1) := by decide +kernel
theorem dX7_undo_10 : decode cX7_undo 10 = .ok (.aload_n 0, 1) := by decide +kernel
theorem dX7_undo_11 : decode cX7_undo 11 = .ok (.dup, 1) := by decide +kernel
theorem dX7_undo_12 : decode cX7_undo 12 = .ok (.getfield 40, 3) := by decide +kernel
theorem dX7_undo_15 : decode cX7_undo 15 = .ok (.iconst 1, 1) := by decide +kernel
theorem dX7_undo_16 : decode cX7_undo 16 = .ok (.isub, 1) := by decide +kernel
theorem dX7_undo_17 : decode cX7_undo 17 = .ok (.putfield 40, 3) := by decide +kernel
theorem dX7_undo_20 : decode cX7_undo 20 = .ok (.aload_n 0, 1) := by decide +kernel
theorem dX7_undo_21 : decode cX7_undo 21 = .ok (.getfield 13, 3) := by decide +kernel
theorem dX7_undo_24 : decode cX7_undo 24 = .ok (.aload_n 0, 1) := by decide +kernel
theorem dX7_undo_25 : decode cX7_undo 25 = .ok (.getfield 40, 3) := by decide +kernel
theorem dX7_undo_28 : decode cX7_undo 28 = .ok (.sipush 324, 3) := by decide +kernel
theorem dX7_undo_31 : decode cX7_undo 31 = .ok (.imul, 1) := by decide +kernel
theorem dX7_undo_32 : decode cX7_undo 32 = .ok (.aload_n 0, 1) := by decide +kernel
theorem dX7_undo_33 : decode cX7_undo 33 = .ok (.getfield 7, 3) := by decide +kernel
theorem dX7_undo_36 : decode cX7_undo 36 = .ok (.iconst 0, 1) := by decide +kernel
theorem dX7_undo_37 : decode cX7_undo 37 = .ok (.invokestatic 44, 3) := by decide +kernel
theorem dX7_undo_40 : decode cX7_undo 40 = .ok (.aload_n 0, 1) := by decide +kernel
theorem dX7_undo_41 : decode cX7_undo 41 = .ok (.getfield 40, 3) := by decide +kernel
theorem dX7_undo_44 : decode cX7_undo 44 = .ok (.ireturn, 1) := by decide +kernel
theorem dX7_save_0 : decode cX7_save 0 = .ok (.iload_n 1, 1) := by decide +kernel
theorem dX7_save_1 : decode cX7_save 1 = .ok (.iconst 0, 1) := by decide +kernel
theorem dX7_save_2 : decode cX7_save 2 = .ok (.iconst 1, 1) := by decide +kernel
theorem dX7_save_3 : decode cX7_save 3 = .ok (.invokestatic 48, 3) := by decide +kernel
theorem dX7_save_6 : decode cX7_save 6 = .ok (.ifCond .ne 6, 3) := by decide +kernel
theorem dX7_save_9 : decode cX7_save 9 = .ok (.bipush (-2), 2) := by decide +kernel
theorem dX7_save_11 : decode cX7_save 11 = .ok (.ireturn, 1) := by decide +kernel
theorem dX7_save_12 : decode cX7_save 12 = .ok (.aload_n 0, 1) := by decide +kernel
theorem dX7_save_13 : decode cX7_save 13 = .ok (.getfield 7, 3) := by decide +kernel
theorem dX7_save_16 : decode cX7_save 16 = .ok (.iconst 0, 1) := by decide +kernel
theorem dX7_save_17 : decode cX7_save 17 = .ok (.aload_n 0, 1) := by decide +kernel
theorem dX7_save_18 : decode cX7_save 18 = .ok (.getfield 16, 3) := by decide +kernel
theorem dX7_save_21 : decode cX7_save 21 = .ok (.sipush 324, 3) := by decide +kernel
theorem dX7_save_24 : decode cX7_save 24 = .ok (.iload_n 1, 1) := by decide +kernel
theorem dX7_save_25 : decode cX7_save 25 = .ok (.imul, 1) := by decide +kernel
theorem dX7_save_26 : decode cX7_save 26 = .ok (.invokestatic 44, 3) := by decide +kernel
theorem dX7_save_29 : decode cX7_save 29 = .ok (.aload_n 0, 1) := by decide +kernel
theorem dX7_save_30 : decode cX7_save 30 = .ok (.getfield 19, 3) := by decide +kernel
theorem dX7_save_33 : decode cX7_save 33 = .ok (.iload_n 1, 1) := by decide +kernel
theorem dX7_save_34 : decode cX7_save 34 = .ok (.iconst 1, 1) := by decide +kernel
theorem dX7_save_35 : decode cX7_save 35 = .ok (.iastore, 1) := by decide +kernel
theorem dX7_save_36 : decode cX7_save 36 = .ok (.aload_n 0, 1) := by decide +kernel
theorem dX7_save_37 : decode cX7_save 37 = .ok (.invokevirtual 150, 3) := by decide +kernel
theorem dX7_save_40 : decode cX7_save 40 = .ok (.ireturn, 1) := by decide +kernel
theorem dX7_restore_0 : decode cX7_restore 0 = .ok (.iload_n 1, 1) := by decide +kernel
theorem dX7_restore_1 : decode cX7_restore 1 = .ok (.iconst 0, 1) := by decide +kernel
theorem dX7_restore_2 : decode cX7_restore 2 = .ok (.iconst 1, 1) := by decide +kernel
theorem dX7_restore_3 : decode cX7_restore 3 = .ok (.invokestatic 48, 3) := by decide +kernel
theorem dX7_restore_6 : decode cX7_restore 6 = .ok (.ifCond .ne 6, 3) := by decide +kernel
theorem dX7_restore_9 : decode cX7_restore 9 = .ok (.bipush (-2), 2) := by decide +kernel
theorem dX7_restore_11 : decode cX7_restore 11 = .ok (.ireturn, 1) := by decide +kernel
theorem dX7_restore_12 : decode cX7_restore 12 = .ok (.aload_n 0, 1) := by decide +kernel
theorem dX7_restore_13 : decode cX7_restore 13 = .ok (.getfield 19, 3) := by decide +kernel
theorem dX7_restore_16 : decode cX7_restore 16 = .ok (.iload_n 1, 1) := by decide +kernel
theorem dX7_restore_17 : decode cX7_restore 17 = .ok (.iaload, 1) := by decide +kernel
theorem dX7_restore_18 : decode cX7_restore 18 = .ok (.ifCond .ne 6, 3) := by decide +kernel
theorem dX7_restore_21 : decode cX7_restore 21 = .ok (.bipush (-5), 2) := by decide +kernel
theorem dX7_restore_23 : decode cX7_restore 23 = .ok (.ireturn, 1) := by decide +kernel
theorem dX7_restore_24 : decode cX7_restore 24 = .ok (.aload_n 0, 1) := by decide +kernel
theorem dX7_restore_25 : decode cX7_restore 25 = .ok (.invokevirtual 95, 3) := by decide +kernel
theorem dX7_restore_28 : decode cX7_restore 28 = .ok (.aload_n 0, 1) := by decide +kernel
theorem dX7_restore_29 : decode cX7_restore 29 = .ok (.getfield 16, 3) := by decide +kernel
theorem dX7_restore_32 : decode cX7_restore 32 = .ok (.sipush 324, 3) := by decide +kernel
theorem dX7_restore_35 : decode cX7_restore 35 = .ok (.iload_n 1, 1) := by decide +kernel
theorem dX7_restore_36 : decode cX7_restore 36 = .ok (.imul, 1) := by decide +kernel
theorem dX7_restore_37 : decode cX7_restore 37 = .ok (.aload_n 0, 1) := by decide +kernel
theorem dX7_restore_38 : decode cX7_restore 38 = .ok (.getfield 7, 3) := by decide +kernel
theorem dX7_restore_41 : decode cX7_restore 41 = .ok (.iconst 0, 1) := by decide +kernel
theorem dX7_restore_42 : decode cX7_restore 42 = .ok (.invokestatic 44, 3) := by decide +kernel
theorem dX7_restore_45 : decode cX7_restore 45 = .ok (.aload_n 0, 1) := by decide +kernel
theorem dX7_restore_46 : decode cX7_restore 46 = .ok (.invokevirtual 150, 3) := by decide +kernel
theorem dX7_restore_49 : decode cX7_restore 49 = .ok (.ireturn, 1) := by decide +kernel
theorem dJ6_bitCount_0f7a4_0 : decode cJ6_bitCount_0f7a4 0 = .ok (.iload_n 0, 1) := by decide +kernel
theorem dJ6_bitCount_0f7a4_1 : decode cJ6_bitCount_0f7a4 1 = .ok (.iload_n 0, 1) := by decide +kernel
theorem dJ6_bitCount_0f7a4_2 : decode cJ6_bitCount_0f7a4 2 = .ok (.iconst 1, 1) := by decide +kernel
theorem dJ6_bitCount_0f7a4_3 : decode cJ6_bitCount_0f7a4 3 = .ok (.iushr, 1) := by decide +kernel
theorem dJ6_bitCount_0f7a4_4 : decode cJ6_bitCount_0f7a4 4 = .ok (.ldc_w 265, 3) := by decide +kernel
theorem dJ6_bitCount_0f7a4_7 : decode cJ6_bitCount_0f7a4 7 = .ok (.iand, 1) := by decide +kernel
theorem dJ6_bitCount_0f7a4_8 : decode cJ6_bitCount_0f7a4 8 = .ok (.isub, 1) := by decide +kernel
theorem dJ6_bitCount_0f7a4_9 : decode cJ6_bitCount_0f7a4 9 = .ok (.istore_n 0, 1) := by decide +kernel
theorem dJ6_bitCount_0f7a4_10 : decode cJ6_bitCount_0f7a4 10 = .ok (.iload_n 0, 1) := by decide +kernel
theorem dJ6_bitCount_0f7a4_11 : decode cJ6_bitCount_0f7a4 11 = .ok (.ldc_w 266, 3) := by decide +kernel
theorem dJ6_bitCount_0f7a4_14 : decode cJ6_bitCount_0f7a4 14 = .ok (.iand, 1) := by decide +kernel
theorem dJ6_bitCount_0f7a4_15 : decode cJ6_bitCount_0f7a4 15 = .ok (.iload_n 0, 1) := by decide +kernel
theorem dJ6_bitCount_0f7a4_16 : decode cJ6_bitCount_0f7a4 16 = .ok (.iconst 2, 1) := by decide +kernel
theorem dJ6_bitCount_0f7a4_17 : decode cJ6_bitCount_0f7a4 17 = .ok (.iushr, 1) := by decide +kernel
theorem dJ6_bitCount_0f7a4_18 : decode cJ6_bitCount_0f7a4 18 = .ok (.ldc_w 266, 3) := by decide +kernel
theorem dJ6_bitCount_0f7a4_21 : decode cJ6_bitCount_0f7a4 21 = .ok (.iand, 1) := by decide +kernel
theorem dJ6_bitCount_0f7a4_22 : decode cJ6_bitCount_0f7a4 22 = .ok (.iadd, 1) := by decide +kernel
theorem dJ6_bitCount_0f7a4_23 : decode cJ6_bitCount_0f7a4 23 = .ok (.istore_n 0, 1) := by decide +kernel
theorem dJ6_bitCount_0f7a4_24 : decode cJ6_bitCount_0f7a4 24 = .ok (.iload_n 0, 1) := by decide +kernel
theorem dJ6_bitCount_0f7a4_25 : decode cJ6_bitCount_0f7a4 25 = .ok (.iload_n 0, 1) := by decide +kernel
theorem dJ6_bitCount_0f7a4_26 : decode cJ6_bitCount_0f7a4 26 = .ok (.iconst 4, 1) := by decide +kernel
theorem dJ6_bitCount_0f7a4_27 : decode cJ6_bitCount_0f7a4 27 = .ok (.iushr, 1) := by decide +kernel
theorem dJ6_bitCount_0f7a4_28 : decode cJ6_bitCount_0f7a4 28 = .ok (.iadd, 1) := by decide +kernel
theorem dJ6_bitCount_0f7a4_29 : decode cJ6_bitCount_0f7a4 29 = .ok (.ldc_w 267, 3) := by decide +kernel
theorem dJ6_bitCount_0f7a4_32 : decode cJ6_bitCount_0f7a4 32 = .ok (.iand, 1) := by decide +kernel
theorem dJ6_bitCount_0f7a4_33 : decode cJ6_bitCount_0f7a4 33 = .ok (.istore_n 0, 1) := by decide +kernel
theorem dJ6_bitCount_0f7a4_34 : decode cJ6_bitCount_0f7a4 34 = .ok (.iload_n 0, 1) := by decide +kernel
theorem dJ6_bitCount_0f7a4_35 : decode cJ6_bitCount_0f7a4 35 = .ok (.iload_n 0, 1) := by decide +kernel
theorem dJ6_bitCount_0f7a4_36 : decode cJ6_bitCount_0f7a4 36 = .ok (.bipush 8, 2) := by decide +kernel
theorem dJ6_bitCount_0f7a4_38 : decode cJ6_bitCount_0f7a4 38 = .ok (.iushr, 1) := by decide +kernel
theorem dJ6_bitCount_0f7a4_39 : decode cJ6_bitCount_0f7a4 39 = .ok (.iadd, 1) := by decide +kernel
theorem dJ6_bitCount_0f7a4_40 : decode cJ6_bitCount_0f7a4 40 = .ok (.istore_n 0, 1) := by decide +kernel
theorem dJ6_bitCount_0f7a4_41 : decode cJ6_bitCount_0f7a4 41 = .ok (.iload_n 0, 1) := by decide +kernel
theorem dJ6_bitCount_0f7a4_42 : decode cJ6_bitCount_0f7a4 42 = .ok (.iload_n 0, 1) := by decide +kernel
theorem dJ6_bitCount_0f7a4_43 : decode cJ6_bitCount_0f7a4 43 = .ok (.bipush 16, 2) := by decide +kernel
theorem dJ6_bitCount_0f7a4_45 : decode cJ6_bitCount_0f7a4 45 = .ok (.iushr, 1) := by decide +kernel
theorem dJ6_bitCount_0f7a4_46 : decode cJ6_bitCount_0f7a4 46 = .ok (.iadd, 1) := by decide +kernel
theorem dJ6_bitCount_0f7a4_47 : decode cJ6_bitCount_0f7a4 47 = .ok (.istore_n 0, 1) := by decide +kernel
theorem dJ6_bitCount_0f7a4_48 : decode cJ6_bitCount_0f7a4 48 = .ok (.iload_n 0, 1) := by decide +kernel
theorem dJ6_bitCount_0f7a4_49 : decode cJ6_bitCount_0f7a4 49 = .ok (.bipush 63, 2) := by decide +kernel
theorem dJ6_bitCount_0f7a4_51 : decode cJ6_bitCount_0f7a4 51 = .ok (.iand, 1) := by decide +kernel
theorem dJ6_bitCount_0f7a4_52 : decode cJ6_bitCount_0f7a4 52 = .ok (.ireturn, 1) := by decide +kernel
theorem dJ9_max_7cf53_0 : decode cJ9_max_7cf53 0 = .ok (.iload_n 0, 1) := by decide +kernel
theorem dJ9_max_7cf53_1 : decode cJ9_max_7cf53 1 = .ok (.iload_n 1, 1) := by decide +kernel
theorem dJ9_max_7cf53_2 : decode cJ9_max_7cf53 2 = .ok (.if_icmp .lt 7, 3) := by decide +kernel
theorem dJ9_max_7cf53_5 : decode cJ9_max_7cf53 5 = .ok (.iload_n 0, 1) := by decide +kernel
theorem dJ9_max_7cf53_6 : decode cJ9_max_7cf53 6 = .ok (.goto 4, 3) := by decide +kernel
theorem dJ9_max_7cf53_9 : decode cJ9_max_7cf53 9 = .ok (.iload_n 1, 1) := by decide +kernel
theorem dJ9_max_7cf53_10 : decode cJ9_max_7cf53 10 = .ok (.ireturn, 1) := by decide +kernel
theorem dJ9_min_7cf53_0 : decode cJ9_min_7cf53 0 = .ok (.iload_n 0, 1) := by decide +kernel
theorem dJ9_min_7cf53_1 : decode cJ9_min_7cf53 1 = .ok (.iload_n 1, 1) := by decide +kernel
theorem dJ9_min_7cf53_2 : decode cJ9_min_7cf53 2 = .ok (.if_icmp .gt 7, 3) := by decide +kernel
theorem dJ9_min_7cf53_5 : decode cJ9_min_7cf53 5 = .ok (.iload_n 0, 1) := by decide +kernel
theorem dJ9_min_7cf53_6 : decode cJ9_min_7cf53 6 = .ok (.goto 4, 3) := by decide +kernel
theorem dJ9_min_7cf53_9 : decode cJ9_min_7cf53 9 = .ok (.iload_n 1, 1) := by decide +kernel
theorem dJ9_min_7cf53_10 : decode cJ9_min_7cf53 10 = .ok (.ireturn, 1) := by decide +kernel
theorem dJ7_fill_53178_0 : decode cJ7_fill_53178 0 = .ok (.iconst 0, 1) := by decide +kernel
theorem dJ7_fill_53178_1 : decode cJ7_fill_53178 1 = .ok (.istore_n 2, 1) := by decide +kernel
theorem dJ7_fill_53178_2 : decode cJ7_fill_53178 2 = .ok (.aload_n 0, 1) := by decide +kernel
theorem dJ7_fill_53178_3 : decode cJ7_fill_53178 3 = .ok (.arraylength, 1) := by decide +kernel
theorem dJ7_fill_53178_4 : decode cJ7_fill_53178 4 = .ok (.istore_n 3, 1) := by decide +kernel
theorem dJ7_fill_53178_5 : decode cJ7_fill_53178 5 = .ok (.iload_n 2, 1) := by decide +kernel
theorem dJ7_fill_53178_6 : decode cJ7_fill_53178 6 = .ok (.iload_n 3, 1) := by decide +kernel
theorem dJ7_fill_53178_7 : decode cJ7_fill_53178 7 = .ok (.if_icmp .ge 13, 3) := by decide +kernel
theorem dJ7_fill_53178_10 : decode cJ7_fill_53178 10 = .ok (.aload_n 0, 1) := by decide +kernel
theorem dJ7_fill_53178_11 : decode cJ7_fill_53178 11 = .ok (.iload_n 2, 1) := by decide +kernel
theorem dJ7_fill_53178_12 : decode cJ7_fill_53178 12 = .ok (.iload_n 1, 1) := by decide +kernel
theorem dJ7_fill_53178_13 : decode cJ7_fill_53178 13 = .ok (.iastore, 1) := by decide +kernel
theorem dJ7_fill_53178_14 : decode cJ7_fill_53178 14 = .ok (.iinc 2 1, 3) := by decide +kernel
theorem dJ7_fill_53178_17 : decode cJ7_fill_53178 17 = .ok (.goto (-12), 3) := by decide +kernel
theorem dJ7_fill_53178_20 : decode cJ7_fill_53178 20 = .ok (.return_, 1) := by decide +kernel
theorem dL_law_0 : decode cL_law 0 = .ok (.new 7, 3) := by decide +kernel
theorem dL_law_3 : decode cL_law 3 = .ok (.dup, 1) := by decide +kernel
theorem dL_law_4 : decode cL_law 4 = .ok (.invokespecial 9, 3) := by decide +kernel
theorem dL_law_7 : decode cL_law 7 = .ok (.astore_n 1, 1) := by decide +kernel
theorem dL_law_8 : decode cL_law 8 = .ok (.new 10, 3) := by decide +kernel
theorem dL_law_11 : decode cL_law 11 = .ok (.dup, 1) := by decide +kernel
theorem dL_law_12 : decode cL_law 12 = .ok (.invokespecial 12, 3) := by decide +kernel
theorem dL_law_15 : decode cL_law 15 = .ok (.astore_n 2, 1) := by decide +kernel
theorem dL_law_16 : decode cL_law 16 = .ok (.iconst 0, 1) := by decide +kernel
theorem dL_law_17 : decode cL_law 17 = .ok (.istore_n 3, 1) := by decide +kernel
theorem dL_law_18 : decode cL_law 18 = .ok (.iload_n 3, 1) := by decide +kernel
theorem dL_law_19 : decode cL_law 19 = .ok (.aload_n 0, 1) := by decide +kernel
theorem dL_law_20 : decode cL_law 20 = .ok (.arraylength, 1) := by decide +kernel
theorem dL_law_21 : decode cL_law 21 = .ok (.iconst 5, 1) := by decide +kernel
theorem dL_law_22 : decode cL_law 22 = .ok (.isub, 1) := by decide +kernel
theorem dL_law_23 : decode cL_law 23 = .ok (.if_icmp .gt 986, 3) := by decide +kernel
theorem dL_law_26 : decode cL_law 26 = .ok (.aload_n 0, 1) := by decide +kernel
theorem dL_law_27 : decode cL_law 27 = .ok (.iload_n 3, 1) := by decide +kernel
theorem dL_law_28 : decode cL_law 28 = .ok (.iaload, 1) := by decide +kernel
theorem dL_law_29 : decode cL_law 29 = .ok (.bipush 31, 2) := by decide +kernel
theorem dL_law_31 : decode cL_law 31 = .ok (.iand, 1) := by decide +kernel
theorem dL_law_32 : decode cL_law 32 = .ok (.tableswitch 971 0 24 #[116, 159, 212, 255, 298, 321, 354, 407, 450, 483, 526, 559, 602, 625, 678, 721, 754, 777, 820, 873, 886, 899, 912, 925, 948], 116) := by decide +kernel
theorem dL_law_148 : decode cL_law 148 = .ok (.aload_n 1, 1) := by decide +kernel
theorem dL_law_149 : decode cL_law 149 = .ok (.aload_n 0, 1) := by decide +kernel
theorem dL_law_150 : decode cL_law 150 = .ok (.iload_n 3, 1) := by decide +kernel
theorem dL_law_151 : decode cL_law 151 = .ok (.iconst 1, 1) := by decide +kernel
theorem dL_law_152 : decode cL_law 152 = .ok (.iadd, 1) := by decide +kernel
theorem dL_law_153 : decode cL_law 153 = .ok (.iaload, 1) := by decide +kernel
theorem dL_law_154 : decode cL_law 154 = .ok (.aload_n 0, 1) := by decide +kernel
theorem dL_law_155 : decode cL_law 155 = .ok (.iload_n 3, 1) := by decide +kernel
theorem dL_law_156 : decode cL_law 156 = .ok (.iconst 2, 1) := by decide +kernel
theorem dL_law_157 : decode cL_law 157 = .ok (.iadd, 1) := by decide +kernel
theorem dL_law_158 : decode cL_law 158 = .ok (.iaload, 1) := by decide +kernel
theorem dL_law_159 : decode cL_law 159 = .ok (.aload_n 0, 1) := by decide +kernel
theorem dL_law_160 : decode cL_law 160 = .ok (.iload_n 3, 1) := by decide +kernel
theorem dL_law_161 : decode cL_law 161 = .ok (.iconst 3, 1) := by decide +kernel
theorem dL_law_162 : decode cL_law 162 = .ok (.iadd, 1) := by decide +kernel
theorem dL_law_163 : decode cL_law 163 = .ok (.iaload, 1) := by decide +kernel
theorem dL_law_164 : decode cL_law 164 = .ok (.invokevirtual 13, 3) := by decide +kernel
theorem dL_law_167 : decode cL_law 167 = .ok (.aload_n 2, 1) := by decide +kernel
theorem dL_law_168 : decode cL_law 168 = .ok (.aload_n 0, 1) := by decide +kernel
theorem dL_law_169 : decode cL_law 169 = .ok (.iload_n 3, 1) := by decide +kernel
theorem dL_law_170 : decode cL_law 170 = .ok (.iconst 1, 1) := by decide +kernel
theorem dL_law_171 : decode cL_law 171 = .ok (.iadd, 1) := by decide +kernel
theorem dL_law_172 : decode cL_law 172 = .ok (.iaload, 1) := by decide +kernel
theorem dL_law_173 : decode cL_law 173 = .ok (.aload_n 0, 1) := by decide +kernel
theorem dL_law_174 : decode cL_law 174 = .ok (.iload_n 3, 1) := by decide +kernel
theorem dL_law_175 : decode cL_law 175 = .ok (.iconst 2, 1) := by decide +kernel
theorem dL_law_176 : decode cL_law 176 = .ok (.iadd, 1) := by decide +kernel
theorem dL_law_177 : decode cL_law 177 = .ok (.iaload, 1) := by decide +kernel
theorem dL_law_178 : decode cL_law 178 = .ok (.aload_n 0, 1) := by decide +kernel
theorem dL_law_179 : decode cL_law 179 = .ok (.iload_n 3, 1) := by decide +kernel
theorem dL_law_180 : decode cL_law 180 = .ok (.iconst 3, 1) := by decide +kernel
theorem dL_law_181 : decode cL_law 181 = .ok (.iadd, 1) := by decide +kernel
theorem dL_law_182 : decode cL_law 182 = .ok (.iaload, 1) := by decide +kernel
theorem dL_law_183 : decode cL_law 183 = .ok (.invokevirtual 17, 3) := by decide +kernel
theorem dL_law_186 : decode cL_law 186 = .ok (.if_icmp .eq 817, 3) := by decide +kernel
theorem dL_law_189 : decode cL_law 189 = .ok (.iconst 0, 1) := by decide +kernel
theorem dL_law_190 : decode cL_law 190 = .ok (.ireturn, 1) := by decide +kernel
theorem dL_law_191 : decode cL_law 191 = .ok (.aload_n 1, 1) := by decide +kernel
theorem dL_law_192 : decode cL_law 192 = .ok (.aload_n 0, 1) := by decide +kernel
theorem dL_law_193 : decode cL_law 193 = .ok (.iload_n 3, 1) := by decide +kernel
theorem dL_law_194 : decode cL_law 194 = .ok (.iconst 1, 1) := by decide +kernel
theorem dL_law_195 : decode cL_law 195 = .ok (.iadd, 1) := by decide +kernel
theorem dL_law_196 : decode cL_law 196 = .ok (.iaload, 1) := by decide +kernel
theorem dL_law_197 : decode cL_law 197 = .ok (.aload_n 0, 1) := by decide +kernel
theorem dL_law_198 : decode cL_law 198 = .ok (.iload_n 3, 1) := by decide +kernel
theorem dL_law_199 : decode cL_law 199 = .ok (.iconst 2, 1) := by decide +kernel
theorem dL_law_200 : decode cL_law 200 = .ok (.iadd, 1) := by decide +kernel
theorem dL_law_201 : decode cL_law 201 = .ok (.iaload, 1) := by decide +kernel
theorem dL_law_202 : decode cL_law 202 = .ok (.aload_n 0, 1) := by decide +kernel
theorem dL_law_203 : decode cL_law 203 = .ok (.iload_n 3, 1) := by decide +kernel
theorem dL_law_204 : decode cL_law 204 = .ok (.iconst 3, 1) := by decide +kernel
theorem dL_law_205 : decode cL_law 205 = .ok (.iadd, 1) := by decide +kernel
theorem dL_law_206 : decode cL_law 206 = .ok (.iaload, 1) := by decide +kernel
theorem dL_law_207 : decode cL_law 207 = .ok (.aload_n 0, 1) := by decide +kernel
theorem dL_law_208 : decode cL_law 208 = .ok (.iload_n 3, 1) := by decide +kernel
theorem dL_law_209 : decode cL_law 209 = .ok (.iconst 4, 1) := by decide +kernel
theorem dL_law_210 : decode cL_law 210 = .ok (.iadd, 1) := by decide +kernel
theorem dL_law_211 : decode cL_law 211 = .ok (.iaload, 1) := by decide +kernel
theorem dL_law_212 : decode cL_law 212 = .ok (.invokevirtual 18, 3) := by decide +kernel
theorem dL_law_215 : decode cL_law 215 = .ok (.aload_n 2, 1) := by decide +kernel
theorem dL_law_216 : decode cL_law 216 = .ok (.aload_n 0, 1) := by decide +kernel
theorem dL_law_217 : decode cL_law 217 = .ok (.iload_n 3, 1) := by decide +kernel
theorem dL_law_218 : decode cL_law 218 = .ok (.iconst 1, 1) := by decide +kernel
theorem dL_law_219 : decode cL_law 219 = .ok (.iadd, 1) := by decide +kernel
theorem dL_law_220 : decode cL_law 220 = .ok (.iaload, 1) := by decide +kernel
theorem dL_law_221 : decode cL_law 221 = .ok (.aload_n 0, 1) := by decide +kernel
theorem dL_law_222 : decode cL_law 222 = .ok (.iload_n 3, 1) := by decide +kernel
theorem dL_law_223 : decode cL_law 223 = .ok (.iconst 2, 1) := by decide +kernel
theorem dL_law_224 : decode cL_law 224 = .ok (.iadd, 1) := by decide +kernel
theorem dL_law_225 : decode cL_law 225 = .ok (.iaload, 1) := by decide +kernel
theorem dL_law_226 : decode cL_law 226 = .ok (.aload_n 0, 1) := by decide +kernel
theorem dL_law_227 : decode cL_law 227 = .ok (.iload_n 3, 1) := by decide +kernel
theorem dL_law_228 : decode cL_law 228 = .ok (.iconst 3, 1) := by decide +kernel
theorem dL_law_229 : decode cL_law 229 = .ok (.iadd, 1) := by decide +kernel
theorem dL_law_230 : decode cL_law 230 = .ok (.iaload, 1) := by decide +kernel
theorem dL_law_231 : decode cL_law 231 = .ok (.aload_n 0, 1) := by decide +kernel
theorem dL_law_232 : decode cL_law 232 = .ok (.iload_n 3, 1) := by decide +kernel
theorem dL_law_233 : decode cL_law 233 = .ok (.iconst 4, 1) := by decide +kernel
theorem dL_law_234 : decode cL_law 234 = .ok (.iadd, 1) := by decide +kernel
theorem dL_law_235 : decode cL_law 235 = .ok (.iaload, 1) := by decide +kernel
theorem dL_law_236 : decode cL_law 236 = .ok (.invokevirtual 22, 3) := by decide +kernel
theorem dL_law_239 : decode cL_law 239 = .ok (.if_icmp .eq 764, 3) := by decide +kernel
theorem dL_law_242 : decode cL_law 242 = .ok (.iconst 0, 1) := by decide +kernel
theorem dL_law_243 : decode cL_law 243 = .ok (.ireturn, 1) := by decide +kernel
theorem dL_law_244 : decode cL_law 244 = .ok (.aload_n 1, 1) := by decide +kernel
theorem dL_law_245 : decode cL_law 245 = .ok (.aload_n 0, 1) := by decide +kernel
theorem dL_law_246 : decode cL_law 246 = .ok (.iload_n 3, 1) := by decide +kernel
theorem dL_law_247 : decode cL_law 247 = .ok (.iconst 1, 1) := by decide +kernel
theorem dL_law_248 : decode cL_law 248 = .ok (.iadd, 1) := by decide +kernel
theorem dL_law_249 : decode cL_law 249 = .ok (.iaload, 1) := by decide +kernel
theorem dL_law_250 : decode cL_law 250 = .ok (.aload_n 0, 1) := by decide +kernel
theorem dL_law_251 : decode cL_law 251 = .ok (.iload_n 3, 1) := by decide +kernel
theorem dL_law_252 : decode cL_law 252 = .ok (.iconst 2, 1) := by decide +kernel
theorem dL_law_253 : decode cL_law 253 = .ok (.iadd, 1) := by decide +kernel
theorem dL_law_254 : decode cL_law 254 = .ok (.iaload, 1) := by decide +kernel
theorem dL_law_255 : decode cL_law 255 = .ok (.aload_n 0, 1) := by decide +kernel
theorem dL_law_256 : decode cL_law 256 = .ok (.iload_n 3, 1) := by decide +kernel
theorem dL_law_257 : decode cL_law 257 = .ok (.iconst 3, 1) := by decide +kernel
theorem dL_law_258 : decode cL_law 258 = .ok (.iadd, 1) := by decide +kernel
theorem dL_law_259 : decode cL_law 259 = .ok (.iaload, 1) := by decide +kernel
theorem dL_law_260 : decode cL_law 260 = .ok (.invokevirtual 23, 3) := by decide +kernel
theorem dL_law_263 : decode cL_law 263 = .ok (.aload_n 2, 1) := by decide +kernel
theorem dL_law_264 : decode cL_law 264 = .ok (.aload_n 0, 1) := by decide +kernel
theorem dL_law_265 : decode cL_law 265 = .ok (.iload_n 3, 1) := by decide +kernel
theorem dL_law_266 : decode cL_law 266 = .ok (.iconst 1, 1) := by decide +kernel
theorem dL_law_267 : decode cL_law 267 = .ok (.iadd, 1) := by decide +kernel
theorem dL_law_268 : decode cL_law 268 = .ok (.iaload, 1) := by decide +kernel
theorem dL_law_269 : decode cL_law 269 = .ok (.aload_n 0, 1) := by decide +kernel
theorem dL_law_270 : decode cL_law 270 = .ok (.iload_n 3, 1) := by decide +kernel
theorem dL_law_271 : decode cL_law 271 = .ok (.iconst 2, 1) := by decide +kernel
theorem dL_law_272 : decode cL_law 272 = .ok (.iadd, 1) := by decide +kernel
theorem dL_law_273 : decode cL_law 273 = .ok (.iaload, 1) := by decide +kernel
theorem dL_law_274 : decode cL_law 274 = .ok (.aload_n 0, 1) := by decide +kernel
theorem dL_law_275 : decode cL_law 275 = .ok (.iload_n 3, 1) := by decide +kernel
theorem dL_law_276 : decode cL_law 276 = .ok (.iconst 3, 1) := by decide +kernel
theorem dL_law_277 : decode cL_law 277 = .ok (.iadd, 1) := by decide +kernel
theorem dL_law_278 : decode cL_law 278 = .ok (.iaload, 1) := by decide +kernel
theorem dL_law_279 : decode cL_law 279 = .ok (.invokevirtual 26, 3) := by decide +kernel
theorem dL_law_282 : decode cL_law 282 = .ok (.if_icmp .eq 721, 3) := by decide +kernel
theorem dL_law_285 : decode cL_law 285 = .ok (.iconst 0, 1) := by decide +kernel
theorem dL_law_286 : decode cL_law 286 = .ok (.ireturn, 1) := by decide +kernel
theorem dL_law_287 : decode cL_law 287 = .ok (.aload_n 1, 1) := by decide +kernel
theorem dL_law_288 : decode cL_law 288 = .ok (.aload_n 0, 1) := by decide +kernel
theorem dL_law_289 : decode cL_law 289 = .ok (.iload_n 3, 1) := by decide +kernel
theorem dL_law_290 : decode cL_law 290 = .ok (.iconst 1, 1) := by decide +kernel
theorem dL_law_291 : decode cL_law 291 = .ok (.iadd, 1) := by decide +kernel
theorem dL_law_292 : decode cL_law 292 = .ok (.iaload, 1) := by decide +kernel
theorem dL_law_293 : decode cL_law 293 = .ok (.aload_n 0, 1) := by decide +kernel
theorem dL_law_294 : decode cL_law 294 = .ok (.iload_n 3, 1) := by decide +kernel
theorem dL_law_295 : decode cL_law 295 = .ok (.iconst 2, 1) := by decide +kernel
theorem dL_law_296 : decode cL_law 296 = .ok (.iadd, 1) := by decide +kernel
theorem dL_law_297 : decode cL_law 297 = .ok (.iaload, 1) := by decide +kernel
theorem dL_law_298 : decode cL_law 298 = .ok (.aload_n 0, 1) := by decide +kernel
theorem dL_law_299 : decode cL_law 299 = .ok (.iload_n 3, 1) := by decide +kernel
theorem dL_law_300 : decode cL_law 300 = .ok (.iconst 3, 1) := by decide +kernel
theorem dL_law_301 : decode cL_law 301 = .ok (.iadd, 1) := by decide +kernel
theorem dL_law_302 : decode cL_law 302 = .ok (.iaload, 1) := by decide +kernel
theorem dL_law_303 : decode cL_law 303 = .ok (.invokevirtual 27, 3) := by decide +kernel
theorem dL_law_306 : decode cL_law 306 = .ok (.aload_n 2, 1) := by decide +kernel
theorem dL_law_307 : decode cL_law 307 = .ok (.aload_n 0, 1) := by decide +kernel
theorem dL_law_308 : decode cL_law 308 = .ok (.iload_n 3, 1) := by decide +kernel
theorem dL_law_309 : decode cL_law 309 = .ok (.iconst 1, 1) := by decide +kernel
theorem dL_law_310 : decode cL_law 310 = .ok (.iadd, 1) := by decide +kernel
theorem dL_law_311 : decode cL_law 311 = .ok (.iaload, 1) := by decide +kernel
theorem dL_law_312 : decode cL_law 312 = .ok (.aload_n 0, 1) := by decide +kernel
theorem dL_law_313 : decode cL_law 313 = .ok (.iload_n 3, 1) := by decide +kernel
theorem dL_law_314 : decode cL_law 314 = .ok (.iconst 2, 1) := by decide +kernel
theorem dL_law_315 : decode cL_law 315 = .ok (.iadd, 1) := by decide +kernel
theorem dL_law_316 : decode cL_law 316 = .ok (.iaload, 1) := by decide +kernel
theorem dL_law_317 : decode cL_law 317 = .ok (.aload_n 0, 1) := by decide +kernel
theorem dL_law_318 : decode cL_law 318 = .ok (.iload_n 3, 1) := by decide +kernel
theorem dL_law_319 : decode cL_law 319 = .ok (.iconst 3, 1) := by decide +kernel
theorem dL_law_320 : decode cL_law 320 = .ok (.iadd, 1) := by decide +kernel
theorem dL_law_321 : decode cL_law 321 = .ok (.iaload, 1) := by decide +kernel
theorem dL_law_322 : decode cL_law 322 = .ok (.invokevirtual 30, 3) := by decide +kernel
theorem dL_law_325 : decode cL_law 325 = .ok (.if_icmp .eq 678, 3) := by decide +kernel
theorem dL_law_328 : decode cL_law 328 = .ok (.iconst 0, 1) := by decide +kernel
theorem dL_law_329 : decode cL_law 329 = .ok (.ireturn, 1) := by decide +kernel
theorem dL_law_330 : decode cL_law 330 = .ok (.aload_n 1, 1) := by decide +kernel
theorem dL_law_331 : decode cL_law 331 = .ok (.aload_n 0, 1) := by decide +kernel
theorem dL_law_332 : decode cL_law 332 = .ok (.iload_n 3, 1) := by decide +kernel
theorem dL_law_333 : decode cL_law 333 = .ok (.iconst 1, 1) := by decide +kernel
theorem dL_law_334 : decode cL_law 334 = .ok (.iadd, 1) := by decide +kernel
theorem dL_law_335 : decode cL_law 335 = .ok (.iaload, 1) := by decide +kernel
theorem dL_law_336 : decode cL_law 336 = .ok (.invokevirtual 31, 3) := by decide +kernel
theorem dL_law_339 : decode cL_law 339 = .ok (.aload_n 2, 1) := by decide +kernel
theorem dL_law_340 : decode cL_law 340 = .ok (.aload_n 0, 1) := by decide +kernel
theorem dL_law_341 : decode cL_law 341 = .ok (.iload_n 3, 1) := by decide +kernel
theorem dL_law_342 : decode cL_law 342 = .ok (.iconst 1, 1) := by decide +kernel
theorem dL_law_343 : decode cL_law 343 = .ok (.iadd, 1) := by decide +kernel
theorem dL_law_344 : decode cL_law 344 = .ok (.iaload, 1) := by decide +kernel
theorem dL_law_345 : decode cL_law 345 = .ok (.invokevirtual 35, 3) := by decide +kernel
theorem dL_law_348 : decode cL_law 348 = .ok (.if_icmp .eq 655, 3) := by decide +kernel
theorem dL_law_351 : decode cL_law 351 = .ok (.iconst 0, 1) := by decide +kernel
theorem dL_law_352 : decode cL_law 352 = .ok (.ireturn, 1) := by decide +kernel
theorem dL_law_353 : decode cL_law 353 = .ok (.aload_n 1, 1) := by decide +kernel
theorem dL_law_354 : decode cL_law 354 = .ok (.aload_n 0, 1) := by decide +kernel
theorem dL_law_355 : decode cL_law 355 = .ok (.iload_n 3, 1) := by decide +kernel
theorem dL_law_356 : decode cL_law 356 = .ok (.iconst 1, 1) := by decide +kernel
theorem dL_law_357 : decode cL_law 357 = .ok (.iadd, 1) := by decide +kernel
theorem dL_law_358 : decode cL_law 358 = .ok (.iaload, 1) := by decide +kernel
theorem dL_law_359 : decode cL_law 359 = .ok (.aload_n 0, 1) := by decide +kernel
theorem dL_law_360 : decode cL_law 360 = .ok (.iload_n 3, 1) := by decide +kernel
theorem dL_law_361 : decode cL_law 361 = .ok (.iconst 2, 1) := by decide +kernel
theorem dL_law_362 : decode cL_law 362 = .ok (.iadd, 1) := by decide +kernel
theorem dL_law_363 : decode cL_law 363 = .ok (.iaload, 1) := by decide +kernel
theorem dL_law_364 : decode cL_law 364 = .ok (.invokevirtual 36, 3) := by decide +kernel
theorem dL_law_367 : decode cL_law 367 = .ok (.aload_n 2, 1) := by decide +kernel
theorem dL_law_368 : decode cL_law 368 = .ok (.aload_n 0, 1) := by decide +kernel
theorem dL_law_369 : decode cL_law 369 = .ok (.iload_n 3, 1) := by decide +kernel
theorem dL_law_370 : decode cL_law 370 = .ok (.iconst 1, 1) := by decide +kernel
theorem dL_law_371 : decode cL_law 371 = .ok (.iadd, 1) := by decide +kernel
theorem dL_law_372 : decode cL_law 372 = .ok (.iaload, 1) := by decide +kernel
theorem dL_law_373 : decode cL_law 373 = .ok (.aload_n 0, 1) := by decide +kernel
theorem dL_law_374 : decode cL_law 374 = .ok (.iload_n 3, 1) := by decide +kernel
theorem dL_law_375 : decode cL_law 375 = .ok (.iconst 2, 1) := by decide +kernel
theorem dL_law_376 : decode cL_law 376 = .ok (.iadd, 1) := by decide +kernel
theorem dL_law_377 : decode cL_law 377 = .ok (.iaload, 1) := by decide +kernel
theorem dL_law_378 : decode cL_law 378 = .ok (.invokevirtual 40, 3) := by decide +kernel
theorem dL_law_381 : decode cL_law 381 = .ok (.if_icmp .eq 622, 3) := by decide +kernel
theorem dL_law_384 : decode cL_law 384 = .ok (.iconst 0, 1) := by decide +kernel
theorem dL_law_385 : decode cL_law 385 = .ok (.ireturn, 1) := by decide +kernel
theorem dL_law_386 : decode cL_law 386 = .ok (.aload_n 1, 1) := by decide +kernel
theorem dL_law_387 : decode cL_law 387 = .ok (.aload_n 0, 1) := by decide +kernel
theorem dL_law_388 : decode cL_law 388 = .ok (.iload_n 3, 1) := by decide +kernel
theorem dL_law_389 : decode cL_law 389 = .ok (.iconst 1, 1) := by decide +kernel
theorem dL_law_390 : decode cL_law 390 = .ok (.iadd, 1) := by decide +kernel
theorem dL_law_391 : decode cL_law 391 = .ok (.iaload, 1) := by decide +kernel
theorem dL_law_392 : decode cL_law 392 = .ok (.aload_n 0, 1) := by decide +kernel
theorem dL_law_393 : decode cL_law 393 = .ok (.iload_n 3, 1) := by decide +kernel
theorem dL_law_394 : decode cL_law 394 = .ok (.iconst 2, 1) := by decide +kernel
theorem dL_law_395 : decode cL_law 395 = .ok (.iadd, 1) := by decide +kernel
theorem dL_law_396 : decode cL_law 396 = .ok (.iaload, 1) := by decide +kernel
theorem dL_law_397 : decode cL_law 397 = .ok (.aload_n 0, 1) := by decide +kernel
theorem dL_law_398 : decode cL_law 398 = .ok (.iload_n 3, 1) := by decide +kernel
theorem dL_law_399 : decode cL_law 399 = .ok (.iconst 3, 1) := by decide +kernel
theorem dL_law_400 : decode cL_law 400 = .ok (.iadd, 1) := by decide +kernel
theorem dL_law_401 : decode cL_law 401 = .ok (.iaload, 1) := by decide +kernel
theorem dL_law_402 : decode cL_law 402 = .ok (.aload_n 0, 1) := by decide +kernel
theorem dL_law_403 : decode cL_law 403 = .ok (.iload_n 3, 1) := by decide +kernel
theorem dL_law_404 : decode cL_law 404 = .ok (.iconst 4, 1) := by decide +kernel
theorem dL_law_405 : decode cL_law 405 = .ok (.iadd, 1) := by decide +kernel
theorem dL_law_406 : decode cL_law 406 = .ok (.iaload, 1) := by decide +kernel
theorem dL_law_407 : decode cL_law 407 = .ok (.invokevirtual 41, 3) := by decide +kernel
theorem dL_law_410 : decode cL_law 410 = .ok (.aload_n 2, 1) := by decide +kernel
theorem dL_law_411 : decode cL_law 411 = .ok (.aload_n 0, 1) := by decide +kernel
theorem dL_law_412 : decode cL_law 412 = .ok (.iload_n 3, 1) := by decide +kernel
theorem dL_law_413 : decode cL_law 413 = .ok (.iconst 1, 1) := by decide +kernel
theorem dL_law_414 : decode cL_law 414 = .ok (.iadd, 1) := by decide +kernel
theorem dL_law_415 : decode cL_law 415 = .ok (.iaload, 1) := by decide +kernel
theorem dL_law_416 : decode cL_law 416 = .ok (.aload_n 0, 1) := by decide +kernel
theorem dL_law_417 : decode cL_law 417 = .ok (.iload_n 3, 1) := by decide +kernel
theorem dL_law_418 : decode cL_law 418 = .ok (.iconst 2, 1) := by decide +kernel
theorem dL_law_419 : decode cL_law 419 = .ok (.iadd, 1) := by decide +kernel
theorem dL_law_420 : decode cL_law 420 = .ok (.iaload, 1) := by decide +kernel
theorem dL_law_421 : decode cL_law 421 = .ok (.aload_n 0, 1) := by decide +kernel
theorem dL_law_422 : decode cL_law 422 = .ok (.iload_n 3, 1) := by decide +kernel
theorem dL_law_423 : decode cL_law 423 = .ok (.iconst 3, 1) := by decide +kernel
theorem dL_law_424 : decode cL_law 424 = .ok (.iadd, 1) := by decide +kernel
theorem dL_law_425 : decode cL_law 425 = .ok (.iaload, 1) := by decide +kernel
theorem dL_law_426 : decode cL_law 426 = .ok (.aload_n 0, 1) := by decide +kernel
theorem dL_law_427 : decode cL_law 427 = .ok (.iload_n 3, 1) := by decide +kernel
theorem dL_law_428 : decode cL_law 428 = .ok (.iconst 4, 1) := by decide +kernel
theorem dL_law_429 : decode cL_law 429 = .ok (.iadd, 1) := by decide +kernel
theorem dL_law_430 : decode cL_law 430 = .ok (.iaload, 1) := by decide +kernel
theorem dL_law_431 : decode cL_law 431 = .ok (.invokevirtual 44, 3) := by decide +kernel
theorem dL_law_434 : decode cL_law 434 = .ok (.if_icmp .eq 569, 3) := by decide +kernel
theorem dL_law_437 : decode cL_law 437 = .ok (.iconst 0, 1) := by decide +kernel
theorem dL_law_438 : decode cL_law 438 = .ok (.ireturn, 1) := by decide +kernel
theorem dL_law_439 : decode cL_law 439 = .ok (.aload_n 1, 1) := by decide +kernel
theorem dL_law_440 : decode cL_law 440 = .ok (.aload_n 0, 1) := by decide +kernel
theorem dL_law_441 : decode cL_law 441 = .ok (.iload_n 3, 1) := by decide +kernel
theorem dL_law_442 : decode cL_law 442 = .ok (.iconst 1, 1) := by decide +kernel
theorem dL_law_443 : decode cL_law 443 = .ok (.iadd, 1) := by decide +kernel
theorem dL_law_444 : decode cL_law 444 = .ok (.iaload, 1) := by decide +kernel
theorem dL_law_445 : decode cL_law 445 = .ok (.aload_n 0, 1) := by decide +kernel
theorem dL_law_446 : decode cL_law 446 = .ok (.iload_n 3, 1) := by decide +kernel
theorem dL_law_447 : decode cL_law 447 = .ok (.iconst 2, 1) := by decide +kernel
theorem dL_law_448 : decode cL_law 448 = .ok (.iadd, 1) := by decide +kernel
theorem dL_law_449 : decode cL_law 449 = .ok (.iaload, 1) := by decide +kernel
theorem dL_law_450 : decode cL_law 450 = .ok (.aload_n 0, 1) := by decide +kernel
theorem dL_law_451 : decode cL_law 451 = .ok (.iload_n 3, 1) := by decide +kernel
theorem dL_law_452 : decode cL_law 452 = .ok (.iconst 3, 1) := by decide +kernel
theorem dL_law_453 : decode cL_law 453 = .ok (.iadd, 1) := by decide +kernel
theorem dL_law_454 : decode cL_law 454 = .ok (.iaload, 1) := by decide +kernel
theorem dL_law_455 : decode cL_law 455 = .ok (.invokevirtual 45, 3) := by decide +kernel
theorem dL_law_458 : decode cL_law 458 = .ok (.aload_n 2, 1) := by decide +kernel
theorem dL_law_459 : decode cL_law 459 = .ok (.aload_n 0, 1) := by decide +kernel
theorem dL_law_460 : decode cL_law 460 = .ok (.iload_n 3, 1) := by decide +kernel
theorem dL_law_461 : decode cL_law 461 = .ok (.iconst 1, 1) := by decide +kernel
theorem dL_law_462 : decode cL_law 462 = .ok (.iadd, 1) := by decide +kernel
theorem dL_law_463 : decode cL_law 463 = .ok (.iaload, 1) := by decide +kernel
theorem dL_law_464 : decode cL_law 464 = .ok (.aload_n 0, 1) := by decide +kernel
theorem dL_law_465 : decode cL_law 465 = .ok (.iload_n 3, 1) := by decide +kernel
theorem dL_law_466 : decode cL_law 466 = .ok (.iconst 2, 1) := by decide +kernel
theorem dL_law_467 : decode cL_law 467 = .ok (.iadd, 1) := by decide +kernel
theorem dL_law_468 : decode cL_law 468 = .ok (.iaload, 1) := by decide +kernel
theorem dL_law_469 : decode cL_law 469 = .ok (.aload_n 0, 1) := by decide +kernel
theorem dL_law_470 : decode cL_law 470 = .ok (.iload_n 3, 1) := by decide +kernel
theorem dL_law_471 : decode cL_law 471 = .ok (.iconst 3, 1) := by decide +kernel
theorem dL_law_472 : decode cL_law 472 = .ok (.iadd, 1) := by decide +kernel
theorem dL_law_473 : decode cL_law 473 = .ok (.iaload, 1) := by decide +kernel
theorem dL_law_474 : decode cL_law 474 = .ok (.invokevirtual 48, 3) := by decide +kernel
theorem dL_law_477 : decode cL_law 477 = .ok (.if_icmp .eq 526, 3) := by decide +kernel
theorem dL_law_480 : decode cL_law 480 = .ok (.iconst 0, 1) := by decide +kernel
theorem dL_law_481 : decode cL_law 481 = .ok (.ireturn, 1) := by decide +kernel
theorem dL_law_482 : decode cL_law 482 = .ok (.aload_n 1, 1) := by decide +kernel
theorem dL_law_483 : decode cL_law 483 = .ok (.aload_n 0, 1) := by decide +kernel
theorem dL_law_484 : decode cL_law 484 = .ok (.iload_n 3, 1) := by decide +kernel
theorem dL_law_485 : decode cL_law 485 = .ok (.iconst 1, 1) := by decide +kernel
theorem dL_law_486 : decode cL_law 486 = .ok (.iadd, 1) := by decide +kernel
theorem dL_law_487 : decode cL_law 487 = .ok (.iaload, 1) := by decide +kernel
theorem dL_law_488 : decode cL_law 488 = .ok (.aload_n 0, 1) := by decide +kernel
theorem dL_law_489 : decode cL_law 489 = .ok (.iload_n 3, 1) := by decide +kernel
theorem dL_law_490 : decode cL_law 490 = .ok (.iconst 2, 1) := by decide +kernel
theorem dL_law_491 : decode cL_law 491 = .ok (.iadd, 1) := by decide +kernel
theorem dL_law_492 : decode cL_law 492 = .ok (.iaload, 1) := by decide +kernel
theorem dL_law_493 : decode cL_law 493 = .ok (.invokevirtual 49, 3) := by decide +kernel
theorem dL_law_496 : decode cL_law 496 = .ok (.aload_n 2, 1) := by decide +kernel
theorem dL_law_497 : decode cL_law 497 = .ok (.aload_n 0, 1) := by decide +kernel
theorem dL_law_498 : decode cL_law 498 = .ok (.iload_n 3, 1) := by decide +kernel
theorem dL_law_499 : decode cL_law 499 = .ok (.iconst 1, 1) := by decide +kernel
theorem dL_law_500 : decode cL_law 500 = .ok (.iadd, 1) := by decide +kernel
theorem dL_law_501 : decode cL_law 501 = .ok (.iaload, 1) := by decide +kernel
theorem dL_law_502 : decode cL_law 502 = .ok (.aload_n 0, 1) := by decide +kernel
theorem dL_law_503 : decode cL_law 503 = .ok (.iload_n 3, 1) := by decide +kernel
theorem dL_law_504 : decode cL_law 504 = .ok (.iconst 2, 1) := by decide +kernel
theorem dL_law_505 : decode cL_law 505 = .ok (.iadd, 1) := by decide +kernel
theorem dL_law_506 : decode cL_law 506 = .ok (.iaload, 1) := by decide +kernel
theorem dL_law_507 : decode cL_law 507 = .ok (.invokevirtual 52, 3) := by decide +kernel
theorem dL_law_510 : decode cL_law 510 = .ok (.if_icmp .eq 493, 3) := by decide +kernel
theorem dL_law_513 : decode cL_law 513 = .ok (.iconst 0, 1) := by decide +kernel
theorem dL_law_514 : decode cL_law 514 = .ok (.ireturn, 1) := by decide +kernel
theorem dL_law_515 : decode cL_law 515 = .ok (.aload_n 1, 1) := by decide +kernel
theorem dL_law_516 : decode cL_law 516 = .ok (.aload_n 0, 1) := by decide +kernel
theorem dL_law_517 : decode cL_law 517 = .ok (.iload_n 3, 1) := by decide +kernel
theorem dL_law_518 : decode cL_law 518 = .ok (.iconst 1, 1) := by decide +kernel
theorem dL_law_519 : decode cL_law 519 = .ok (.iadd, 1) := by decide +kernel
theorem dL_law_520 : decode cL_law 520 = .ok (.iaload, 1) := by decide +kernel
theorem dL_law_521 : decode cL_law 521 = .ok (.aload_n 0, 1) := by decide +kernel
theorem dL_law_522 : decode cL_law 522 = .ok (.iload_n 3, 1) := by decide +kernel
theorem dL_law_523 : decode cL_law 523 = .ok (.iconst 2, 1) := by decide +kernel
theorem dL_law_524 : decode cL_law 524 = .ok (.iadd, 1) := by decide +kernel
theorem dL_law_525 : decode cL_law 525 = .ok (.iaload, 1) := by decide +kernel
theorem dL_law_526 : decode cL_law 526 = .ok (.aload_n 0, 1) := by decide +kernel
theorem dL_law_527 : decode cL_law 527 = .ok (.iload_n 3, 1) := by decide +kernel
theorem dL_law_528 : decode cL_law 528 = .ok (.iconst 3, 1) := by decide +kernel
theorem dL_law_529 : decode cL_law 529 = .ok (.iadd, 1) := by decide +kernel
theorem dL_law_530 : decode cL_law 530 = .ok (.iaload, 1) := by decide +kernel
theorem dL_law_531 : decode cL_law 531 = .ok (.invokevirtual 53, 3) := by decide +kernel
theorem dL_law_534 : decode cL_law 534 = .ok (.aload_n 2, 1) := by decide +kernel
theorem dL_law_535 : decode cL_law 535 = .ok (.aload_n 0, 1) := by decide +kernel
theorem dL_law_536 : decode cL_law 536 = .ok (.iload_n 3, 1) := by decide +kernel
theorem dL_law_537 : decode cL_law 537 = .ok (.iconst 1, 1) := by decide +kernel
theorem dL_law_538 : decode cL_law 538 = .ok (.iadd, 1) := by decide +kernel
theorem dL_law_539 : decode cL_law 539 = .ok (.iaload, 1) := by decide +kernel
theorem dL_law_540 : decode cL_law 540 = .ok (.aload_n 0, 1) := by decide +kernel
theorem dL_law_541 : decode cL_law 541 = .ok (.iload_n 3, 1) := by decide +kernel
theorem dL_law_542 : decode cL_law 542 = .ok (.iconst 2, 1) := by decide +kernel
theorem dL_law_543 : decode cL_law 543 = .ok (.iadd, 1) := by decide +kernel
theorem dL_law_544 : decode cL_law 544 = .ok (.iaload, 1) := by decide +kernel
theorem dL_law_545 : decode cL_law 545 = .ok (.aload_n 0, 1) := by decide +kernel
theorem dL_law_546 : decode cL_law 546 = .ok (.iload_n 3, 1) := by decide +kernel
theorem dL_law_547 : decode cL_law 547 = .ok (.iconst 3, 1) := by decide +kernel
theorem dL_law_548 : decode cL_law 548 = .ok (.iadd, 1) := by decide +kernel
theorem dL_law_549 : decode cL_law 549 = .ok (.iaload, 1) := by decide +kernel
theorem dL_law_550 : decode cL_law 550 = .ok (.invokevirtual 56, 3) := by decide +kernel
theorem dL_law_553 : decode cL_law 553 = .ok (.if_icmp .eq 450, 3) := by decide +kernel
theorem dL_law_556 : decode cL_law 556 = .ok (.iconst 0, 1) := by decide +kernel
theorem dL_law_557 : decode cL_law 557 = .ok (.ireturn, 1) := by decide +kernel
theorem dL_law_558 : decode cL_law 558 = .ok (.aload_n 1, 1) := by decide +kernel
theorem dL_law_559 : decode cL_law 559 = .ok (.aload_n 0, 1) := by decide +kernel
theorem dL_law_560 : decode cL_law 560 = .ok (.iload_n 3, 1) := by decide +kernel
theorem dL_law_561 : decode cL_law 561 = .ok (.iconst 1, 1) := by decide +kernel
theorem dL_law_562 : decode cL_law 562 = .ok (.iadd, 1) := by decide +kernel
theorem dL_law_563 : decode cL_law 563 = .ok (.iaload, 1) := by decide +kernel
theorem dL_law_564 : decode cL_law 564 = .ok (.aload_n 0, 1) := by decide +kernel
theorem dL_law_565 : decode cL_law 565 = .ok (.iload_n 3, 1) := by decide +kernel
theorem dL_law_566 : decode cL_law 566 = .ok (.iconst 2, 1) := by decide +kernel
theorem dL_law_567 : decode cL_law 567 = .ok (.iadd, 1) := by decide +kernel
theorem dL_law_568 : decode cL_law 568 = .ok (.iaload, 1) := by decide +kernel
theorem dL_law_569 : decode cL_law 569 = .ok (.invokevirtual 57, 3) := by decide +kernel
theorem dL_law_572 : decode cL_law 572 = .ok (.aload_n 2, 1) := by decide +kernel
theorem dL_law_573 : decode cL_law 573 = .ok (.aload_n 0, 1) := by decide +kernel
theorem dL_law_574 : decode cL_law 574 = .ok (.iload_n 3, 1) := by decide +kernel
theorem dL_law_575 : decode cL_law 575 = .ok (.iconst 1, 1) := by decide +kernel
theorem dL_law_576 : decode cL_law 576 = .ok (.iadd, 1) := by decide +kernel
theorem dL_law_577 : decode cL_law 577 = .ok (.iaload, 1) := by decide +kernel
theorem dL_law_578 : decode cL_law 578 = .ok (.aload_n 0, 1) := by decide +kernel
theorem dL_law_579 : decode cL_law 579 = .ok (.iload_n 3, 1) := by decide +kernel
theorem dL_law_580 : decode cL_law 580 = .ok (.iconst 2, 1) := by decide +kernel
theorem dL_law_581 : decode cL_law 581 = .ok (.iadd, 1) := by decide +kernel
theorem dL_law_582 : decode cL_law 582 = .ok (.iaload, 1) := by decide +kernel
theorem dL_law_583 : decode cL_law 583 = .ok (.invokevirtual 60, 3) := by decide +kernel
theorem dL_law_586 : decode cL_law 586 = .ok (.if_icmp .eq 417, 3) := by decide +kernel
theorem dL_law_589 : decode cL_law 589 = .ok (.iconst 0, 1) := by decide +kernel
theorem dL_law_590 : decode cL_law 590 = .ok (.ireturn, 1) := by decide +kernel
theorem dL_law_591 : decode cL_law 591 = .ok (.aload_n 1, 1) := by decide +kernel
theorem dL_law_592 : decode cL_law 592 = .ok (.aload_n 0, 1) := by decide +kernel
theorem dL_law_593 : decode cL_law 593 = .ok (.iload_n 3, 1) := by decide +kernel
theorem dL_law_594 : decode cL_law 594 = .ok (.iconst 1, 1) := by decide +kernel
theorem dL_law_595 : decode cL_law 595 = .ok (.iadd, 1) := by decide +kernel
theorem dL_law_596 : decode cL_law 596 = .ok (.iaload, 1) := by decide +kernel
theorem dL_law_597 : decode cL_law 597 = .ok (.aload_n 0, 1) := by decide +kernel
theorem dL_law_598 : decode cL_law 598 = .ok (.iload_n 3, 1) := by decide +kernel
theorem dL_law_599 : decode cL_law 599 = .ok (.iconst 2, 1) := by decide +kernel
theorem dL_law_600 : decode cL_law 600 = .ok (.iadd, 1) := by decide +kernel
theorem dL_law_601 : decode cL_law 601 = .ok (.iaload, 1) := by decide +kernel
theorem dL_law_602 : decode cL_law 602 = .ok (.aload_n 0, 1) := by decide +kernel
theorem dL_law_603 : decode cL_law 603 = .ok (.iload_n 3, 1) := by decide +kernel
theorem dL_law_604 : decode cL_law 604 = .ok (.iconst 3, 1) := by decide +kernel
theorem dL_law_605 : decode cL_law 605 = .ok (.iadd, 1) := by decide +kernel
theorem dL_law_606 : decode cL_law 606 = .ok (.iaload, 1) := by decide +kernel
theorem dL_law_607 : decode cL_law 607 = .ok (.invokevirtual 61, 3) := by decide +kernel
theorem dL_law_610 : decode cL_law 610 = .ok (.aload_n 2, 1) := by decide +kernel
theorem dL_law_611 : decode cL_law 611 = .ok (.aload_n 0, 1) := by decide +kernel
theorem dL_law_612 : decode cL_law 612 = .ok (.iload_n 3, 1) := by decide +kernel
theorem dL_law_613 : decode cL_law 613 = .ok (.iconst 1, 1) := by decide +kernel
theorem dL_law_614 : decode cL_law 614 = .ok (.iadd, 1) := by decide +kernel
theorem dL_law_615 : decode cL_law 615 = .ok (.iaload, 1) := by decide +kernel
theorem dL_law_616 : decode cL_law 616 = .ok (.aload_n 0, 1) := by decide +kernel
theorem dL_law_617 : decode cL_law 617 = .ok (.iload_n 3, 1) := by decide +kernel
theorem dL_law_618 : decode cL_law 618 = .ok (.iconst 2, 1) := by decide +kernel
theorem dL_law_619 : decode cL_law 619 = .ok (.iadd, 1) := by decide +kernel
theorem dL_law_620 : decode cL_law 620 = .ok (.iaload, 1) := by decide +kernel
theorem dL_law_621 : decode cL_law 621 = .ok (.aload_n 0, 1) := by decide +kernel
theorem dL_law_622 : decode cL_law 622 = .ok (.iload_n 3, 1) := by decide +kernel
theorem dL_law_623 : decode cL_law 623 = .ok (.iconst 3, 1) := by decide +kernel
theorem dL_law_624 : decode cL_law 624 = .ok (.iadd, 1) := by decide +kernel
theorem dL_law_625 : decode cL_law 625 = .ok (.iaload, 1) := by decide +kernel
theorem dL_law_626 : decode cL_law 626 = .ok (.invokevirtual 64, 3) := by decide +kernel
theorem dL_law_629 : decode cL_law 629 = .ok (.if_icmp .eq 374, 3) := by decide +kernel
theorem dL_law_632 : decode cL_law 632 = .ok (.iconst 0, 1) := by decide +kernel
theorem dL_law_633 : decode cL_law 633 = .ok (.ireturn, 1) := by decide +kernel
theorem dL_law_634 : decode cL_law 634 = .ok (.aload_n 1, 1) := by decide +kernel
theorem dL_law_635 : decode cL_law 635 = .ok (.aload_n 0, 1) := by decide +kernel
theorem dL_law_636 : decode cL_law 636 = .ok (.iload_n 3, 1) := by decide +kernel
theorem dL_law_637 : decode cL_law 637 = .ok (.iconst 1, 1) := by decide +kernel
theorem dL_law_638 : decode cL_law 638 = .ok (.iadd, 1) := by decide +kernel
theorem dL_law_639 : decode cL_law 639 = .ok (.iaload, 1) := by decide +kernel
theorem dL_law_640 : decode cL_law 640 = .ok (.invokevirtual 65, 3) := by decide +kernel
theorem dL_law_643 : decode cL_law 643 = .ok (.aload_n 2, 1) := by decide +kernel
theorem dL_law_644 : decode cL_law 644 = .ok (.aload_n 0, 1) := by decide +kernel
theorem dL_law_645 : decode cL_law 645 = .ok (.iload_n 3, 1) := by decide +kernel
theorem dL_law_646 : decode cL_law 646 = .ok (.iconst 1, 1) := by decide +kernel
theorem dL_law_647 : decode cL_law 647 = .ok (.iadd, 1) := by decide +kernel
theorem dL_law_648 : decode cL_law 648 = .ok (.iaload, 1) := by decide +kernel
theorem dL_law_649 : decode cL_law 649 = .ok (.invokevirtual 68, 3) := by decide +kernel
theorem dL_law_652 : decode cL_law 652 = .ok (.if_icmp .eq 351, 3) := by decide +kernel
theorem dL_law_655 : decode cL_law 655 = .ok (.iconst 0, 1) := by decide +kernel
theorem dL_law_656 : decode cL_law 656 = .ok (.ireturn, 1) := by decide +kernel
theorem dL_law_657 : decode cL_law 657 = .ok (.aload_n 1, 1) := by decide +kernel
theorem dL_law_658 : decode cL_law 658 = .ok (.aload_n 0, 1) := by decide +kernel
theorem dL_law_659 : decode cL_law 659 = .ok (.iload_n 3, 1) := by decide +kernel
theorem dL_law_660 : decode cL_law 660 = .ok (.iconst 1, 1) := by decide +kernel
theorem dL_law_661 : decode cL_law 661 = .ok (.iadd, 1) := by decide +kernel
theorem dL_law_662 : decode cL_law 662 = .ok (.iaload, 1) := by decide +kernel
theorem dL_law_663 : decode cL_law 663 = .ok (.aload_n 0, 1) := by decide +kernel
theorem dL_law_664 : decode cL_law 664 = .ok (.iload_n 3, 1) := by decide +kernel
theorem dL_law_665 : decode cL_law 665 = .ok (.iconst 2, 1) := by decide +kernel
theorem dL_law_666 : decode cL_law 666 = .ok (.iadd, 1) := by decide +kernel
theorem dL_law_667 : decode cL_law 667 = .ok (.iaload, 1) := by decide +kernel
theorem dL_law_668 : decode cL_law 668 = .ok (.aload_n 0, 1) := by decide +kernel
theorem dL_law_669 : decode cL_law 669 = .ok (.iload_n 3, 1) := by decide +kernel
theorem dL_law_670 : decode cL_law 670 = .ok (.iconst 3, 1) := by decide +kernel
theorem dL_law_671 : decode cL_law 671 = .ok (.iadd, 1) := by decide +kernel
theorem dL_law_672 : decode cL_law 672 = .ok (.iaload, 1) := by decide +kernel
theorem dL_law_673 : decode cL_law 673 = .ok (.aload_n 0, 1) := by decide +kernel
theorem dL_law_674 : decode cL_law 674 = .ok (.iload_n 3, 1) := by decide +kernel
theorem dL_law_675 : decode cL_law 675 = .ok (.iconst 4, 1) := by decide +kernel
theorem dL_law_676 : decode cL_law 676 = .ok (.iadd, 1) := by decide +kernel
theorem dL_law_677 : decode cL_law 677 = .ok (.iaload, 1) := by decide +kernel
theorem dL_law_678 : decode cL_law 678 = .ok (.invokevirtual 69, 3) := by decide +kernel
theorem dL_law_681 : decode cL_law 681 = .ok (.aload_n 2, 1) := by decide +kernel
theorem dL_law_682 : decode cL_law 682 = .ok (.aload_n 0, 1) := by decide +kernel
theorem dL_law_683 : decode cL_law 683 = .ok (.iload_n 3, 1) := by decide +kernel
theorem dL_law_684 : decode cL_law 684 = .ok (.iconst 1, 1) := by decide +kernel
theorem dL_law_685 : decode cL_law 685 = .ok (.iadd, 1) := by decide +kernel
theorem dL_law_686 : decode cL_law 686 = .ok (.iaload, 1) := by decide +kernel
theorem dL_law_687 : decode cL_law 687 = .ok (.aload_n 0, 1) := by decide +kernel
theorem dL_law_688 : decode cL_law 688 = .ok (.iload_n 3, 1) := by decide +kernel
theorem dL_law_689 : decode cL_law 689 = .ok (.iconst 2, 1) := by decide +kernel
theorem dL_law_690 : decode cL_law 690 = .ok (.iadd, 1) := by decide +kernel
theorem dL_law_691 : decode cL_law 691 = .ok (.iaload, 1) := by decide +kernel
theorem dL_law_692 : decode cL_law 692 = .ok (.aload_n 0, 1) := by decide +kernel
theorem dL_law_693 : decode cL_law 693 = .ok (.iload_n 3, 1) := by decide +kernel
theorem dL_law_694 : decode cL_law 694 = .ok (.iconst 3, 1) := by decide +kernel
theorem dL_law_695 : decode cL_law 695 = .ok (.iadd, 1) := by decide +kernel
theorem dL_law_696 : decode cL_law 696 = .ok (.iaload, 1) := by decide +kernel
theorem dL_law_697 : decode cL_law 697 = .ok (.aload_n 0, 1) := by decide +kernel
theorem dL_law_698 : decode cL_law 698 = .ok (.iload_n 3, 1) := by decide +kernel
theorem dL_law_699 : decode cL_law 699 = .ok (.iconst 4, 1) := by decide +kernel
theorem dL_law_700 : decode cL_law 700 = .ok (.iadd, 1) := by decide +kernel
theorem dL_law_701 : decode cL_law 701 = .ok (.iaload, 1) := by decide +kernel
theorem dL_law_702 : decode cL_law 702 = .ok (.invokevirtual 72, 3) := by decide +kernel
theorem dL_law_705 : decode cL_law 705 = .ok (.if_icmp .eq 298, 3) := by decide +kernel
theorem dL_law_708 : decode cL_law 708 = .ok (.iconst 0, 1) := by decide +kernel
theorem dL_law_709 : decode cL_law 709 = .ok (.ireturn, 1) := by decide +kernel
theorem dL_law_710 : decode cL_law 710 = .ok (.aload_n 1, 1) := by decide +kernel
theorem dL_law_711 : decode cL_law 711 = .ok (.aload_n 0, 1) := by decide +kernel
theorem dL_law_712 : decode cL_law 712 = .ok (.iload_n 3, 1) := by decide +kernel
theorem dL_law_713 : decode cL_law 713 = .ok (.iconst 1, 1) := by decide +kernel
theorem dL_law_714 : decode cL_law 714 = .ok (.iadd, 1) := by decide +kernel
theorem dL_law_715 : decode cL_law 715 = .ok (.iaload, 1) := by decide +kernel
theorem dL_law_716 : decode cL_law 716 = .ok (.aload_n 0, 1) := by decide +kernel
theorem dL_law_717 : decode cL_law 717 = .ok (.iload_n 3, 1) := by decide +kernel
theorem dL_law_718 : decode cL_law 718 = .ok (.iconst 2, 1) := by decide +kernel
theorem dL_law_719 : decode cL_law 719 = .ok (.iadd, 1) := by decide +kernel
theorem dL_law_720 : decode cL_law 720 = .ok (.iaload, 1) := by decide +kernel
theorem dL_law_721 : decode cL_law 721 = .ok (.aload_n 0, 1) := by decide +kernel
theorem dL_law_722 : decode cL_law 722 = .ok (.iload_n 3, 1) := by decide +kernel
theorem dL_law_723 : decode cL_law 723 = .ok (.iconst 3, 1) := by decide +kernel
theorem dL_law_724 : decode cL_law 724 = .ok (.iadd, 1) := by decide +kernel
theorem dL_law_725 : decode cL_law 725 = .ok (.iaload, 1) := by decide +kernel
theorem dL_law_726 : decode cL_law 726 = .ok (.invokevirtual 73, 3) := by decide +kernel
theorem dL_law_729 : decode cL_law 729 = .ok (.aload_n 2, 1) := by decide +kernel
theorem dL_law_730 : decode cL_law 730 = .ok (.aload_n 0, 1) := by decide +kernel
theorem dL_law_731 : decode cL_law 731 = .ok (.iload_n 3, 1) := by decide +kernel
theorem dL_law_732 : decode cL_law 732 = .ok (.iconst 1, 1) := by decide +kernel
theorem dL_law_733 : decode cL_law 733 = .ok (.iadd, 1) := by decide +kernel
theorem dL_law_734 : decode cL_law 734 = .ok (.iaload, 1) := by decide +kernel
theorem dL_law_735 : decode cL_law 735 = .ok (.aload_n 0, 1) := by decide +kernel
theorem dL_law_736 : decode cL_law 736 = .ok (.iload_n 3, 1) := by decide +kernel
theorem dL_law_737 : decode cL_law 737 = .ok (.iconst 2, 1) := by decide +kernel
theorem dL_law_738 : decode cL_law 738 = .ok (.iadd, 1) := by decide +kernel
theorem dL_law_739 : decode cL_law 739 = .ok (.iaload, 1) := by decide +kernel
theorem dL_law_740 : decode cL_law 740 = .ok (.aload_n 0, 1) := by decide +kernel
theorem dL_law_741 : decode cL_law 741 = .ok (.iload_n 3, 1) := by decide +kernel
theorem dL_law_742 : decode cL_law 742 = .ok (.iconst 3, 1) := by decide +kernel
theorem dL_law_743 : decode cL_law 743 = .ok (.iadd, 1) := by decide +kernel
theorem dL_law_744 : decode cL_law 744 = .ok (.iaload, 1) := by decide +kernel
theorem dL_law_745 : decode cL_law 745 = .ok (.invokevirtual 76, 3) := by decide +kernel
theorem dL_law_748 : decode cL_law 748 = .ok (.if_icmp .eq 255, 3) := by decide +kernel
theorem dL_law_751 : decode cL_law 751 = .ok (.iconst 0, 1) := by decide +kernel
theorem dL_law_752 : decode cL_law 752 = .ok (.ireturn, 1) := by decide +kernel
theorem dL_law_753 : decode cL_law 753 = .ok (.aload_n 1, 1) := by decide +kernel
theorem dL_law_754 : decode cL_law 754 = .ok (.aload_n 0, 1) := by decide +kernel
theorem dL_law_755 : decode cL_law 755 = .ok (.iload_n 3, 1) := by decide +kernel
theorem dL_law_756 : decode cL_law 756 = .ok (.iconst 1, 1) := by decide +kernel
theorem dL_law_757 : decode cL_law 757 = .ok (.iadd, 1) := by decide +kernel
theorem dL_law_758 : decode cL_law 758 = .ok (.iaload, 1) := by decide +kernel
theorem dL_law_759 : decode cL_law 759 = .ok (.aload_n 0, 1) := by decide +kernel
theorem dL_law_760 : decode cL_law 760 = .ok (.iload_n 3, 1) := by decide +kernel
theorem dL_law_761 : decode cL_law 761 = .ok (.iconst 2, 1) := by decide +kernel
theorem dL_law_762 : decode cL_law 762 = .ok (.iadd, 1) := by decide +kernel
theorem dL_law_763 : decode cL_law 763 = .ok (.iaload, 1) := by decide +kernel
theorem dL_law_764 : decode cL_law 764 = .ok (.invokevirtual 77, 3) := by decide +kernel
theorem dL_law_767 : decode cL_law 767 = .ok (.aload_n 2, 1) := by decide +kernel
theorem dL_law_768 : decode cL_law 768 = .ok (.aload_n 0, 1) := by decide +kernel
theorem dL_law_769 : decode cL_law 769 = .ok (.iload_n 3, 1) := by decide +kernel
theorem dL_law_770 : decode cL_law 770 = .ok (.iconst 1, 1) := by decide +kernel
theorem dL_law_771 : decode cL_law 771 = .ok (.iadd, 1) := by decide +kernel
theorem dL_law_772 : decode cL_law 772 = .ok (.iaload, 1) := by decide +kernel
theorem dL_law_773 : decode cL_law 773 = .ok (.aload_n 0, 1) := by decide +kernel
theorem dL_law_774 : decode cL_law 774 = .ok (.iload_n 3, 1) := by decide +kernel
theorem dL_law_775 : decode cL_law 775 = .ok (.iconst 2, 1) := by decide +kernel
theorem dL_law_776 : decode cL_law 776 = .ok (.iadd, 1) := by decide +kernel
theorem dL_law_777 : decode cL_law 777 = .ok (.iaload, 1) := by decide +kernel
theorem dL_law_778 : decode cL_law 778 = .ok (.invokevirtual 80, 3) := by decide +kernel
theorem dL_law_781 : decode cL_law 781 = .ok (.if_icmp .eq 222, 3) := by decide +kernel
theorem dL_law_784 : decode cL_law 784 = .ok (.iconst 0, 1) := by decide +kernel
theorem dL_law_785 : decode cL_law 785 = .ok (.ireturn, 1) := by decide +kernel
theorem dL_law_786 : decode cL_law 786 = .ok (.aload_n 1, 1) := by decide +kernel
theorem dL_law_787 : decode cL_law 787 = .ok (.aload_n 0, 1) := by decide +kernel
theorem dL_law_788 : decode cL_law 788 = .ok (.iload_n 3, 1) := by decide +kernel
theorem dL_law_789 : decode cL_law 789 = .ok (.iconst 1, 1) := by decide +kernel
theorem dL_law_790 : decode cL_law 790 = .ok (.iadd, 1) := by decide +kernel
theorem dL_law_791 : decode cL_law 791 = .ok (.iaload, 1) := by decide +kernel
theorem dL_law_792 : decode cL_law 792 = .ok (.invokevirtual 81, 3) := by decide +kernel
theorem dL_law_795 : decode cL_law 795 = .ok (.aload_n 2, 1) := by decide +kernel
theorem dL_law_796 : decode cL_law 796 = .ok (.aload_n 0, 1) := by decide +kernel
theorem dL_law_797 : decode cL_law 797 = .ok (.iload_n 3, 1) := by decide +kernel
theorem dL_law_798 : decode cL_law 798 = .ok (.iconst 1, 1) := by decide +kernel
theorem dL_law_799 : decode cL_law 799 = .ok (.iadd, 1) := by decide +kernel
theorem dL_law_800 : decode cL_law 800 = .ok (.iaload, 1) := by decide +kernel
theorem dL_law_801 : decode cL_law 801 = .ok (.invokevirtual 84, 3) := by decide +kernel
theorem dL_law_804 : decode cL_law 804 = .ok (.if_icmp .eq 199, 3) := by decide +kernel
theorem dL_law_807 : decode cL_law 807 = .ok (.iconst 0, 1) := by decide +kernel
theorem dL_law_808 : decode cL_law 808 = .ok (.ireturn, 1) := by decide +kernel
theorem dL_law_809 : decode cL_law 809 = .ok (.aload_n 1, 1) := by decide +kernel
theorem dL_law_810 : decode cL_law 810 = .ok (.aload_n 0, 1) := by decide +kernel
theorem dL_law_811 : decode cL_law 811 = .ok (.iload_n 3, 1) := by decide +kernel
theorem dL_law_812 : decode cL_law 812 = .ok (.iconst 1, 1) := by decide +kernel
theorem dL_law_813 : decode cL_law 813 = .ok (.iadd, 1) := by decide +kernel
theorem dL_law_814 : decode cL_law 814 = .ok (.iaload, 1) := by decide +kernel
theorem dL_law_815 : decode cL_law 815 = .ok (.aload_n 0, 1) := by decide +kernel
theorem dL_law_816 : decode cL_law 816 = .ok (.iload_n 3, 1) := by decide +kernel
theorem dL_law_817 : decode cL_law 817 = .ok (.iconst 2, 1) := by decide +kernel
theorem dL_law_818 : decode cL_law 818 = .ok (.iadd, 1) := by decide +kernel
theorem dL_law_819 : decode cL_law 819 = .ok (.iaload, 1) := by decide +kernel
theorem dL_law_820 : decode cL_law 820 = .ok (.aload_n 0, 1) := by decide +kernel
theorem dL_law_821 : decode cL_law 821 = .ok (.iload_n 3, 1) := by decide +kernel
theorem dL_law_822 : decode cL_law 822 = .ok (.iconst 3, 1) := by decide +kernel
theorem dL_law_823 : decode cL_law 823 = .ok (.iadd, 1) := by decide +kernel
theorem dL_law_824 : decode cL_law 824 = .ok (.iaload, 1) := by decide +kernel
theorem dL_law_825 : decode cL_law 825 = .ok (.invokevirtual 85, 3) := by decide +kernel
theorem dL_law_828 : decode cL_law 828 = .ok (.aload_n 2, 1) := by decide +kernel
theorem dL_law_829 : decode cL_law 829 = .ok (.aload_n 0, 1) := by decide +kernel
theorem dL_law_830 : decode cL_law 830 = .ok (.iload_n 3, 1) := by decide +kernel
theorem dL_law_831 : decode cL_law 831 = .ok (.iconst 1, 1) := by decide +kernel
theorem dL_law_832 : decode cL_law 832 = .ok (.iadd, 1) := by decide +kernel
theorem dL_law_833 : decode cL_law 833 = .ok (.iaload, 1) := by decide +kernel
theorem dL_law_834 : decode cL_law 834 = .ok (.aload_n 0, 1) := by decide +kernel
theorem dL_law_835 : decode cL_law 835 = .ok (.iload_n 3, 1) := by decide +kernel
theorem dL_law_836 : decode cL_law 836 = .ok (.iconst 2, 1) := by decide +kernel
theorem dL_law_837 : decode cL_law 837 = .ok (.iadd, 1) := by decide +kernel
theorem dL_law_838 : decode cL_law 838 = .ok (.iaload, 1) := by decide +kernel
theorem dL_law_839 : decode cL_law 839 = .ok (.aload_n 0, 1) := by decide +kernel
theorem dL_law_840 : decode cL_law 840 = .ok (.iload_n 3, 1) := by decide +kernel
theorem dL_law_841 : decode cL_law 841 = .ok (.iconst 3, 1) := by decide +kernel
theorem dL_law_842 : decode cL_law 842 = .ok (.iadd, 1) := by decide +kernel
theorem dL_law_843 : decode cL_law 843 = .ok (.iaload, 1) := by decide +kernel
theorem dL_law_844 : decode cL_law 844 = .ok (.invokevirtual 88, 3) := by decide +kernel
theorem dL_law_847 : decode cL_law 847 = .ok (.if_icmp .eq 156, 3) := by decide +kernel
theorem dL_law_850 : decode cL_law 850 = .ok (.iconst 0, 1) := by decide +kernel
theorem dL_law_851 : decode cL_law 851 = .ok (.ireturn, 1) := by decide +kernel
theorem dL_law_852 : decode cL_law 852 = .ok (.aload_n 1, 1) := by decide +kernel
theorem dL_law_853 : decode cL_law 853 = .ok (.aload_n 0, 1) := by decide +kernel
theorem dL_law_854 : decode cL_law 854 = .ok (.iload_n 3, 1) := by decide +kernel
theorem dL_law_855 : decode cL_law 855 = .ok (.iconst 1, 1) := by decide +kernel
theorem dL_law_856 : decode cL_law 856 = .ok (.iadd, 1) := by decide +kernel
theorem dL_law_857 : decode cL_law 857 = .ok (.iaload, 1) := by decide +kernel
theorem dL_law_858 : decode cL_law 858 = .ok (.i2l, 1) := by decide +kernel
theorem dL_law_859 : decode cL_law 859 = .ok (.bipush 32, 2) := by decide +kernel
theorem dL_law_861 : decode cL_law 861 = .ok (.lshl, 1) := by decide +kernel
theorem dL_law_862 : decode cL_law 862 = .ok (.aload_n 0, 1) := by decide +kernel
theorem dL_law_863 : decode cL_law 863 = .ok (.iload_n 3, 1) := by decide +kernel
theorem dL_law_864 : decode cL_law 864 = .ok (.iconst 2, 1) := by decide +kernel
theorem dL_law_865 : decode cL_law 865 = .ok (.iadd, 1) := by decide +kernel
theorem dL_law_866 : decode cL_law 866 = .ok (.iaload, 1) := by decide +kernel
theorem dL_law_867 : decode cL_law 867 = .ok (.i2l, 1) := by decide +kernel
theorem dL_law_868 : decode cL_law 868 = .ok (.ldc2_w 89, 3) := by decide +kernel
theorem dL_law_871 : decode cL_law 871 = .ok (.land, 1) := by decide +kernel
theorem dL_law_872 : decode cL_law 872 = .ok (.lor, 1) := by decide +kernel
theorem dL_law_873 : decode cL_law 873 = .ok (.invokevirtual 91, 3) := by decide +kernel
theorem dL_law_876 : decode cL_law 876 = .ok (.aload_n 2, 1) := by decide +kernel
theorem dL_law_877 : decode cL_law 877 = .ok (.aload_n 0, 1) := by decide +kernel
theorem dL_law_878 : decode cL_law 878 = .ok (.iload_n 3, 1) := by decide +kernel
theorem dL_law_879 : decode cL_law 879 = .ok (.iconst 1, 1) := by decide +kernel
theorem dL_law_880 : decode cL_law 880 = .ok (.iadd, 1) := by decide +kernel
theorem dL_law_881 : decode cL_law 881 = .ok (.iaload, 1) := by decide +kernel
theorem dL_law_882 : decode cL_law 882 = .ok (.i2l, 1) := by decide +kernel
theorem dL_law_883 : decode cL_law 883 = .ok (.bipush 32, 2) := by decide +kernel
theorem dL_law_885 : decode cL_law 885 = .ok (.lshl, 1) := by decide +kernel
theorem dL_law_886 : decode cL_law 886 = .ok (.aload_n 0, 1) := by decide +kernel
theorem dL_law_887 : decode cL_law 887 = .ok (.iload_n 3, 1) := by decide +kernel
theorem dL_law_888 : decode cL_law 888 = .ok (.iconst 2, 1) := by decide +kernel
theorem dL_law_889 : decode cL_law 889 = .ok (.iadd, 1) := by decide +kernel
theorem dL_law_890 : decode cL_law 890 = .ok (.iaload, 1) := by decide +kernel
theorem dL_law_891 : decode cL_law 891 = .ok (.i2l, 1) := by decide +kernel
theorem dL_law_892 : decode cL_law 892 = .ok (.ldc2_w 89, 3) := by decide +kernel
theorem dL_law_895 : decode cL_law 895 = .ok (.land, 1) := by decide +kernel
theorem dL_law_896 : decode cL_law 896 = .ok (.lor, 1) := by decide +kernel
theorem dL_law_897 : decode cL_law 897 = .ok (.invokevirtual 95, 3) := by decide +kernel
theorem dL_law_900 : decode cL_law 900 = .ok (.if_icmp .eq 103, 3) := by decide +kernel
theorem dL_law_903 : decode cL_law 903 = .ok (.iconst 0, 1) := by decide +kernel
theorem dL_law_904 : decode cL_law 904 = .ok (.ireturn, 1) := by decide +kernel
theorem dL_law_905 : decode cL_law 905 = .ok (.aload_n 1, 1) := by decide +kernel
theorem dL_law_906 : decode cL_law 906 = .ok (.invokevirtual 96, 3) := by decide +kernel
theorem dL_law_909 : decode cL_law 909 = .ok (.aload_n 2, 1) := by decide +kernel
theorem dL_law_910 : decode cL_law 910 = .ok (.invokevirtual 100, 3) := by decide +kernel
theorem dL_law_913 : decode cL_law 913 = .ok (.if_icmp .eq 90, 3) := by decide +kernel
theorem dL_law_916 : decode cL_law 916 = .ok (.iconst 0, 1) := by decide +kernel
theorem dL_law_917 : decode cL_law 917 = .ok (.ireturn, 1) := by decide +kernel
theorem dL_law_918 : decode cL_law 918 = .ok (.aload_n 1, 1) := by decide +kernel
theorem dL_law_919 : decode cL_law 919 = .ok (.invokevirtual 101, 3) := by decide +kernel
theorem dL_law_922 : decode cL_law 922 = .ok (.aload_n 2, 1) := by decide +kernel
theorem dL_law_923 : decode cL_law 923 = .ok (.invokevirtual 104, 3) := by decide +kernel
theorem dL_law_926 : decode cL_law 926 = .ok (.if_icmp .eq 77, 3) := by decide +kernel
theorem dL_law_929 : decode cL_law 929 = .ok (.iconst 0, 1) := by decide +kernel
theorem dL_law_930 : decode cL_law 930 = .ok (.ireturn, 1) := by decide +kernel
theorem dL_law_931 : decode cL_law 931 = .ok (.aload_n 1, 1) := by decide +kernel
theorem dL_law_932 : decode cL_law 932 = .ok (.invokevirtual 105, 3) := by decide +kernel
theorem dL_law_935 : decode cL_law 935 = .ok (.aload_n 2, 1) := by decide +kernel
theorem dL_law_936 : decode cL_law 936 = .ok (.invokevirtual 108, 3) := by decide +kernel
theorem dL_law_939 : decode cL_law 939 = .ok (.if_icmp .eq 64, 3) := by decide +kernel
theorem dL_law_942 : decode cL_law 942 = .ok (.iconst 0, 1) := by decide +kernel
theorem dL_law_943 : decode cL_law 943 = .ok (.ireturn, 1) := by decide +kernel
theorem dL_law_944 : decode cL_law 944 = .ok (.aload_n 1, 1) := by decide +kernel
theorem dL_law_945 : decode cL_law 945 = .ok (.invokevirtual 109, 3) := by decide +kernel
theorem dL_law_948 : decode cL_law 948 = .ok (.aload_n 2, 1) := by decide +kernel
theorem dL_law_949 : decode cL_law 949 = .ok (.invokevirtual 112, 3) := by decide +kernel
theorem dL_law_952 : decode cL_law 952 = .ok (.if_icmp .eq 51, 3) := by decide +kernel
theorem dL_law_955 : decode cL_law 955 = .ok (.iconst 0, 1) := by decide +kernel
theorem dL_law_956 : decode cL_law 956 = .ok (.ireturn, 1) := by decide +kernel
theorem dL_law_957 : decode cL_law 957 = .ok (.aload_n 1, 1) := by decide +kernel
theorem dL_law_958 : decode cL_law 958 = .ok (.aload_n 0, 1) := by decide +kernel
theorem dL_law_959 : decode cL_law 959 = .ok (.iload_n 3, 1) := by decide +kernel
theorem dL_law_960 : decode cL_law 960 = .ok (.iconst 1, 1) := by decide +kernel
theorem dL_law_961 : decode cL_law 961 = .ok (.iadd, 1) := by decide +kernel
theorem dL_law_962 : decode cL_law 962 = .ok (.iaload, 1) := by decide +kernel
theorem dL_law_963 : decode cL_law 963 = .ok (.invokevirtual 113, 3) := by decide +kernel
theorem dL_law_966 : decode cL_law 966 = .ok (.aload_n 2, 1) := by decide +kernel
theorem dL_law_967 : decode cL_law 967 = .ok (.aload_n 0, 1) := by decide +kernel
theorem dL_law_968 : decode cL_law 968 = .ok (.iload_n 3, 1) := by decide +kernel
theorem dL_law_969 : decode cL_law 969 = .ok (.iconst 1, 1) := by decide +kernel
theorem dL_law_970 : decode cL_law 970 = .ok (.iadd, 1) := by decide +kernel
theorem dL_law_971 : decode cL_law 971 = .ok (.iaload, 1) := by decide +kernel
theorem dL_law_972 : decode cL_law 972 = .ok (.invokevirtual 116, 3) := by decide +kernel
theorem dL_law_975 : decode cL_law 975 = .ok (.if_icmp .eq 28, 3) := by decide +kernel
theorem dL_law_978 : decode cL_law 978 = .ok (.iconst 0, 1) := by decide +kernel
theorem dL_law_979 : decode cL_law 979 = .ok (.ireturn, 1) := by decide +kernel
theorem dL_law_980 : decode cL_law 980 = .ok (.aload_n 1, 1) := by decide +kernel
theorem dL_law_981 : decode cL_law 981 = .ok (.aload_n 0, 1) := by decide +kernel
theorem dL_law_982 : decode cL_law 982 = .ok (.iload_n 3, 1) := by decide +kernel
theorem dL_law_983 : decode cL_law 983 = .ok (.iconst 1, 1) := by decide +kernel
theorem dL_law_984 : decode cL_law 984 = .ok (.iadd, 1) := by decide +kernel
theorem dL_law_985 : decode cL_law 985 = .ok (.iaload, 1) := by decide +kernel
theorem dL_law_986 : decode cL_law 986 = .ok (.invokevirtual 117, 3) := by decide +kernel
theorem dL_law_989 : decode cL_law 989 = .ok (.aload_n 2, 1) := by decide +kernel
theorem dL_law_990 : decode cL_law 990 = .ok (.aload_n 0, 1) := by decide +kernel
theorem dL_law_991 : decode cL_law 991 = .ok (.iload_n 3, 1) := by decide +kernel
theorem dL_law_992 : decode cL_law 992 = .ok (.iconst 1, 1) := by decide +kernel
theorem dL_law_993 : decode cL_law 993 = .ok (.iadd, 1) := by decide +kernel
theorem dL_law_994 : decode cL_law 994 = .ok (.iaload, 1) := by decide +kernel
theorem dL_law_995 : decode cL_law 995 = .ok (.invokevirtual 120, 3) := by decide +kernel
theorem dL_law_998 : decode cL_law 998 = .ok (.if_icmp .eq 5, 3) := by decide +kernel
theorem dL_law_1001 : decode cL_law 1001 = .ok (.iconst 0, 1) := by decide +kernel
theorem dL_law_1002 : decode cL_law 1002 = .ok (.ireturn, 1) := by decide +kernel
theorem dL_law_1003 : decode cL_law 1003 = .ok (.iinc 3 5, 3) := by decide +kernel
theorem dL_law_1006 : decode cL_law 1006 = .ok (.goto (-988), 3) := by decide +kernel
theorem dL_law_1009 : decode cL_law 1009 = .ok (.iconst 1, 1) := by decide +kernel
theorem dL_law_1010 : decode cL_law 1010 = .ok (.ireturn, 1) := by decide +kernel
end
section
/-! The flat world: every cell that the law makes stands at base + its number; kinds (classes, lengths, references) apart from ints. -/
-- values: an int, a cell's number, any other value
abbrev XV : Type := Int ⊕ (Nat ⊕ Value)
abbrev xI (a : Int) : XV := .inl a
abbrev xR (o : Nat) : XV := .inr (.inl o)
abbrev xV (v : Value) : XV := .inr (.inr v)
def xt (b : Nat) : XV → Value
  | .inl a => .int (Int32.ofInt a)
  | .inr (.inl o) => .ref (b + o)
  | .inr (.inr v) => v
-- a field: an int, or a reference that may be null
abbrev XF : Type := Option (Option Nat)
abbrev fI : XF := none
abbrev fN : XF := some none
abbrev fR (o : Nat) : XF := some (some o)
-- a cell's kind: an object of a class with its fields; an array of ints (of a type, of a length); an array of references
abbrev XK : Type := (Nat × List XF) ⊕ ((Nat × Nat) ⊕ (Nat × Nat × (Nat → Option Nat)))
abbrev kO (ci : Nat) (l : List XF) : XK := .inl (ci, l)
abbrev kA (t n : Nat) : XK := .inr (.inl (t, n))
abbrev kQ (t n : Nat) (g : Nat → Option Nat) : XK := .inr (.inr (t, n, g))
abbrev XKs : Type := Nat → XK
abbrev XM : Type := Nat → Nat → Int
-- classes, array classes, base
abbrev XG : Type := va_G × (Nat → ClassId) × Nat
def xf (b : Nat) (a : Int) : XF → Value
  | none => .int (Int32.ofInt a)
  | some none => .null
  | some (some o) => .ref (b + o)
def xe (G : XG) (kd : XK) (f : Nat → Int) : va_E := match kd with
  | .inl (ci, l) => .inr (ci, l.mapIdx (fun k x => xf G.2.2 (f k) x))
  | .inr (.inl (t, n)) => .inl (G.2.1 t, n, .inl (fun j => Int32.ofInt (f j)))
  | .inr (.inr (t, n, g)) => .inl (G.2.1 t, n, .inr (.inr (.inr (.inr (fun j => (g j).map (fun o => G.2.2 + o))))))
def xw (G : XG) (κ : XKs) (M : XM) (hs : Nat) : va_W := (List.range hs).map (fun a => (G.2.2 + a, xe G (κ a) (M a)))
def xtys : List FieldType := [.int, .char, .boolean, .object "JoinedRuns$Column", .object "JoinedRuns$State"]
def xty (G : XG) : List (ClassId × FieldType) := [(G.2.1 0, .int), (G.2.1 1, .char), (G.2.1 2, .boolean), (G.2.1 3, .object "JoinedRuns$Column"), (G.2.1 4, .object "JoinedRuns$State")]
-- updates
def mset (M : XM) (a : Nat) (f : Nat → Int) : XM := fun q => if q = a then f else M q
def up1 (f : Nat → Int) (k : Nat) (v : Int) : Nat → Int := fun j => if j = k then v else f j
def mput (M : XM) (a k : Nat) (v : Int) : XM := mset M a (up1 (M a) k v)
def kset (κ : XKs) (a : Nat) (kd : XK) : XKs := fun q => if q = a then kd else κ q
theorem xw_get {G : XG} {κ : XKs} {M : XM} {hs a : Nat} (h : a < hs) : (xw G κ M hs)[a]? = some (G.2.2 + a, xe G (κ a) (M a)) := by
  simp [xw, h]
theorem xw_inv {G : XG} {κ : XKs} {M : XM} {hs k : Nat} {q : Nat × va_E} (h : (xw G κ M hs)[k]? = some q) : k < hs ∧ q = (G.2.2 + k, xe G (κ k) (M k)) := by
  have hl : k < hs := by
    have := (List.getElem?_eq_some_iff.mp h).1
    simpa [xw] using this
  rw [xw_get hl] at h
  exact ⟨hl, (Option.some.inj h).symm⟩
theorem xw_D (G : XG) (κ : XKs) (M : XM) (hs : Nat) : va_D (fun q => G.2.2 ≤ q) (xw G κ M hs) := by
  refine ⟨fun i j p q hi hj hpq => ?_, fun k q h => ?_⟩
  · obtain ⟨-, rfl⟩ := xw_inv hi
    obtain ⟨-, rfl⟩ := xw_inv hj
    have : G.2.2 + i = G.2.2 + j := hpq
    omega
  · obtain ⟨-, rfl⟩ := xw_inv h
    exact Nat.le_add_right _ _
theorem xw_set {G : XG} {κ : XKs} {M : XM} {hs a : Nat} (κ' : XKs) (M' : XM) (ho : ∀ q, q ≠ a → κ' q = κ q ∧ M' q = M q) : (xw G κ M hs).set a (G.2.2 + a, xe G (κ' a) (M' a)) = xw G κ' M' hs := by
  apply List.ext_getElem?
  intro i
  rw [List.getElem?_set]
  by_cases hi : i < hs
  · by_cases e : a = i
    · subst e
      rw [if_pos rfl, if_pos (by simpa [xw] using hi), xw_get hi]
    · rw [if_neg e, xw_get hi, xw_get hi, (ho i (fun h => e h.symm)).1, (ho i (fun h => e h.symm)).2]
  · have h1 : (xw G κ M hs)[i]? = none := List.getElem?_eq_none (by simp [xw]; omega)
    have h2 : (xw G κ' M' hs)[i]? = none := List.getElem?_eq_none (by simp [xw]; omega)
    rw [h1, h2]
    by_cases e : a = i
    · subst e
      rw [if_pos rfl, if_neg (by simpa [xw] using hi)]
    · rw [if_neg e]
theorem mset_self (M : XM) (a : Nat) (f : Nat → Int) : mset M a f a = f := if_pos rfl
theorem mset_ne (M : XM) {a q : Nat} (f : Nat → Int) (h : q ≠ a) : mset M a f q = M q := if_neg h
theorem kset_self (κ : XKs) (a : Nat) (kd : XK) : kset κ a kd a = kd := if_pos rfl
theorem kset_ne (κ : XKs) {a q : Nat} (kd : XK) (h : q ≠ a) : kset κ a kd q = κ q := if_neg h
theorem xw_setM {G : XG} {κ : XKs} {M : XM} {hs a : Nat} (f : Nat → Int) : (xw G κ M hs).set a (G.2.2 + a, xe G (κ a) f) = xw G κ (mset M a f) hs := by
  have := xw_set (G := G) (κ := κ) (M := M) (hs := hs) (a := a) κ (mset M a f) (fun q h => ⟨rfl, mset_ne M f h⟩)
  rw [mset_self] at this
  exact this
theorem xw_setK {G : XG} {κ : XKs} {M : XM} {hs a : Nat} (kd : XK) : (xw G κ M hs).set a (G.2.2 + a, xe G kd (M a)) = xw G (kset κ a kd) M hs := by
  have := xw_set (G := G) (κ := κ) (M := M) (hs := hs) (a := a) (kset κ a kd) M (fun q h => ⟨kset_ne κ kd h, rfl⟩)
  rw [kset_self] at this
  exact this
theorem xw_push {G : XG} {κ : XKs} {M : XM} {hs : Nat} (kd : XK) (f : Nat → Int) : xw G κ M hs ++ [(G.2.2 + hs, xe G kd f)] = xw G (kset κ hs kd) (mset M hs f) (hs + 1) := by
  apply List.ext_getElem?
  intro i
  have hlen : (xw G κ M hs).length = hs := by simp [xw]
  rcases Nat.lt_trichotomy i hs with h | h | h
  · rw [List.getElem?_append_left (by rw [hlen]; exact h), xw_get h, xw_get (Nat.lt_succ_of_lt h), kset_ne _ _ (Nat.ne_of_lt h), mset_ne _ _ (Nat.ne_of_lt h)]
  · subst h
    rw [List.getElem?_append_right (by rw [hlen]; exact Nat.le_refl _), hlen, Nat.sub_self, xw_get (Nat.lt_succ_self _), kset_self, mset_self]
    rfl
  · rw [List.getElem?_eq_none (by simp [hlen]; omega), List.getElem?_eq_none (by simp [xw]; omega)]
-- a cell that is there, of a kind
def xO (κ : XKs) (hs o : Nat) (kd : XK) : Prop := o < hs ∧ κ o = kd
theorem xO_get {G : XG} {κ : XKs} {M : XM} {hs o : Nat} {kd : XK} (h : xO κ hs o kd) : (xw G κ M hs)[o]? = some (G.2.2 + o, xe G kd (M o)) := by
  rw [xw_get h.1, h.2]
-- the world as a state holds it
def xH (G : XG) (κ : XKs) (M : XM) (hs : Nat) (H : Heap) : Prop := va_P G.1 vwCl (xw G κ M hs) H ∧ H.size = G.2.2 + hs
def xU (G : XG) (κ : XKs) (M : XM) (hs : Nat) (U : State) : Prop := xH G κ M hs U.heap ∧ va_K G.1 vwCl (xty G) U
-- locals
def xl (b : Nat) : Nat → List (Option XV) → List (Nat × Value)
  | _, [] => []
  | i, none :: t => xl b (i + 1) t
  | i, some v :: t => (i, xt b v) :: xl b (i + 1) t
def xL (b : Nat) (ls : Array Slot) (nL : Nat) (loc : List (Option XV)) : Prop := lv_has ls nL (xl b 0 loc)
theorem xl_mem {b : Nat} : ∀ (loc : List (Option XV)) (i j : Nat) (w : Value), (j, w) ∈ xl b i loc ↔ ∃ v, i ≤ j ∧ loc[j - i]? = some (some v) ∧ w = xt b v
  | [], i, j, w => by simp [xl]
  | none :: t, i, j, w => by
    rw [xl, xl_mem t (i + 1) j w]
    constructor
    · rintro ⟨v, h1, h2, h3⟩
      refine ⟨v, by omega, ?_, h3⟩
      rw [show j - i = (j - (i + 1)) + 1 by omega, List.getElem?_cons_succ]
      exact h2
    · rintro ⟨v, h1, h2, h3⟩
      have hne : j ≠ i := by
        intro e
        subst e
        rw [Nat.sub_self] at h2
        cases h2
      refine ⟨v, by omega, ?_, h3⟩
      rw [show j - i = (j - (i + 1)) + 1 by omega, List.getElem?_cons_succ] at h2
      exact h2
  | some u :: t, i, j, w => by
    rw [xl, List.mem_cons, xl_mem t (i + 1) j w]
    constructor
    · rintro (h | ⟨v, h1, h2, h3⟩)
      · cases h
        exact ⟨u, Nat.le_refl _, by rw [Nat.sub_self]; rfl, rfl⟩
      · refine ⟨v, by omega, ?_, h3⟩
        rw [show j - i = (j - (i + 1)) + 1 by omega, List.getElem?_cons_succ]
        exact h2
    · rintro ⟨v, h1, h2, h3⟩
      by_cases e : j = i
      · subst e
        rw [Nat.sub_self] at h2
        left
        rw [h3]
        cases h2
        rfl
      · right
        refine ⟨v, by omega, ?_, h3⟩
        rw [show j - i = (j - (i + 1)) + 1 by omega, List.getElem?_cons_succ] at h2
        exact h2
theorem xL_at {b : Nat} {ls : Array Slot} {nL : Nat} {loc : List (Option XV)} (h : xL b ls nL loc) {i : Nat} {v : XV} (hi : loc[i]? = some (some v)) : ls[i]? = some (.val (xt b v)) :=
  h.2.2 (i, xt b v) ((xl_mem loc 0 i (xt b v)).mpr ⟨v, Nat.zero_le _, hi, rfl⟩)
def xcat : XV → Nat
  | .inl _ => 1
  | .inr (.inl _) => 1
  | .inr (.inr v) => v.category
theorem xcat_eq (b : Nat) (v : XV) : (xt b v).category = xcat v := by
  rcases v with a | o | w <;> rfl
def xok (loc : List (Option XV)) : Nat → Bool
  | 0 => true
  | j + 1 => match loc[j]? with
    | some (some (.inr (.inr v))) => v.category != 2
    | _ => true
theorem xok_ne {loc : List (Option XV)} {j : Nat} {v : XV} (h : xok loc (j + 1) = true) (hj : loc[j]? = some (some v)) : xcat v ≠ 2 := by
  rcases v with a | o | w
  · show (1 : Nat) ≠ 2
    decide
  · show (1 : Nat) ≠ 2
    decide
  · simp only [xok, hj, bne_iff_ne] at h
    exact h
theorem xL_st1 {b : Nat} {ls : Array Slot} {nL i : Nat} {loc : List (Option XV)} {v : XV} (h : lv_has ls nL ((i, xt b v) :: (xl b 0 loc).filter (fun q => !(q.1 == i) && !(q.1 + 1 == i && q.2.category == 2)))) (hok : xok loc i = true) : xL b ls nL (loc.set i (some v)) := by
  refine ⟨h.1, h.2.1, fun q hq => h.2.2 q ?_⟩
  obtain ⟨j, w⟩ := q
  obtain ⟨u, -, h2, rfl⟩ := (xl_mem _ 0 j w).mp hq
  rw [Nat.sub_zero, List.getElem?_set] at h2
  by_cases e : i = j
  · subst e
    rw [if_pos rfl] at h2
    split at h2
    · cases h2
      exact List.mem_cons_self
    · cases h2
  · rw [if_neg e] at h2
    refine List.mem_cons_of_mem _ (List.mem_filter.mpr ⟨(xl_mem _ 0 j _).mpr ⟨u, Nat.zero_le _, h2, rfl⟩, ?_⟩)
    have h3 : (j == i) = false := beq_false_of_ne (fun z => e z.symm)
    simp only [h3, Bool.not_false, Bool.true_and, Bool.not_eq_true', Bool.and_eq_false_iff, beq_eq_false_iff_ne]
    by_cases e2 : j + 1 = i
    · right
      subst e2
      rw [xcat_eq]
      exact xok_ne hok h2
    · exact Or.inl e2
theorem xL_st2 {b : Nat} {ls : Array Slot} {nL i : Nat} {loc : List (Option XV)} {v : XV} (h : lv_has ls nL ((i, xt b v) :: (xl b 0 loc).filter (fun q => !(q.1 == i) && (!(q.1 == i + 1) && !(q.1 + 1 == i && q.2.category == 2))))) (hok : xok loc i = true) : xL b ls nL ((loc.set (i + 1) none).set i (some v)) := by
  refine ⟨h.1, h.2.1, fun q hq => h.2.2 q ?_⟩
  obtain ⟨j, w⟩ := q
  obtain ⟨u, -, h2, rfl⟩ := (xl_mem _ 0 j w).mp hq
  rw [Nat.sub_zero, List.getElem?_set] at h2
  by_cases e : i = j
  · subst e
    rw [if_pos rfl] at h2
    split at h2
    · cases h2
      exact List.mem_cons_self
    · cases h2
  · rw [if_neg e, List.getElem?_set] at h2
    by_cases e1 : i + 1 = j
    · rw [if_pos e1] at h2
      split at h2 <;> cases h2
    · rw [if_neg e1] at h2
      refine List.mem_cons_of_mem _ (List.mem_filter.mpr ⟨(xl_mem _ 0 j _).mpr ⟨u, Nat.zero_le _, h2, rfl⟩, ?_⟩)
      have h3 : (j == i) = false := beq_false_of_ne (fun z => e z.symm)
      have h4 : (j == i + 1) = false := beq_false_of_ne (fun z => e1 z.symm)
      simp only [h3, h4, Bool.not_false, Bool.true_and, Bool.not_eq_true', Bool.and_eq_false_iff, beq_eq_false_iff_ne]
      by_cases e2 : j + 1 = i
      · right
        subst e2
        rw [xcat_eq]
        exact xok_ne hok h2
      · exact Or.inl e2
-- a method's locals at its entry
def xargs : List XV → List (Option XV)
  | [] => []
  | v :: t => if xcat v = 2 then some v :: none :: xargs t else some v :: xargs t
theorem xargs_len (b : Nat) : ∀ (vs : List XV), (lg_sl (vs.map (xt b))).length = (xargs vs).length
  | [] => rfl
  | v :: t => by
    rw [List.map_cons, xargs]
    show ((if (xt b v).category = 2 then [Slot.val (xt b v), Slot.second] else [Slot.val (xt b v)]) ++ lg_sl (t.map (xt b))).length = _
    rw [List.length_append, xargs_len b t, xcat_eq]
    by_cases h : xcat v = 2
    · rw [if_pos h, if_pos h]; simp; omega
    · rw [if_neg h, if_neg h]; simp; omega
theorem xargs_mem (b : Nat) : ∀ (vs : List XV) (i : Nat) (rest : List (Option XV)), (∀ q ∈ xl b i (xargs vs ++ List.replicate 0 none), q ∈ lv_args i (vs.map (xt b)))
  | [], i, rest => by simp [xargs, xl]
  | v :: t, i, rest => by
    intro q hq
    rw [List.map_cons, lv_args, xcat_eq]
    rw [xargs] at hq
    by_cases h : xcat v = 2
    · rw [if_pos h] at hq ⊢
      simp only [List.cons_append, xl, List.mem_cons] at hq
      rcases hq with rfl | hq
      · exact List.mem_cons_self
      · exact List.mem_cons_of_mem _ (xargs_mem b t (i + 2) rest q hq)
    · rw [if_neg h] at hq ⊢
      simp only [List.cons_append, xl, List.mem_cons] at hq
      rcases hq with rfl | hq
      · exact List.mem_cons_self
      · exact List.mem_cons_of_mem _ (xargs_mem b t (i + 1) rest q hq)
theorem xl_app_none (b : Nat) : ∀ (l : List (Option XV)) (i n : Nat), xl b i (l ++ List.replicate n none) = xl b i (l ++ List.replicate 0 none)
  | [], i, 0 => rfl
  | [], i, n + 1 => by
    rw [List.nil_append, List.replicate_succ, xl]
    exact (xl_app_none b [] (i + 1) n).trans rfl
  | none :: t, i, n => by
    simp only [List.cons_append, xl]
    exact xl_app_none b t (i + 1) n
  | some v :: t, i, n => by
    simp only [List.cons_append, xl]
    rw [xl_app_none b t (i + 1) n]
def xloc (nL : Nat) (vs : List XV) : List (Option XV) := xargs vs ++ List.replicate (nL - (xargs vs).length) none
theorem xL_entry (b : Nat) (vs : List XV) {nL : Nat} (h : (xargs vs).length ≤ nL) : xL b ((lg_sl (vs.map (xt b)) ++ List.replicate (nL - (lg_sl (vs.map (xt b))).length) Slot.unset).toArray) nL (xloc nL vs) := by
  have hl := lv_entry (vs.map (xt b)) (n := nL) (by rw [xargs_len]; exact h)
  refine ⟨hl.1, hl.2.1, fun q hq => hl.2.2 q ?_⟩
  rw [xloc, xl_app_none] at hq
  exact xargs_mem b vs 0 [] q hq
end
section
/-! words of the tables, by their places; field links; method links; methods -/
/-- the tables' words that stay true -/
def lw_g : List Cond := lw_tbl.filter goodWord
theorem lg_in {w : Cond} (h : w ∈ lw_tbl) (g : goodWord w = true) : w ∈ lw_g := List.mem_filter.mpr ⟨h, g⟩
theorem lg_of {w : Cond} (h : w ∈ lw_g) : w ∈ lw_tbl ∧ goodWord w = true := List.mem_filter.mp h
theorem inT_X0 : ∀ w ∈ u_ws RX0 TX0 5, w ∈ lw_g := by decide +kernel
theorem inT_X1 : ∀ w ∈ u_ws RX1 TX1 3, w ∈ lw_g := by decide +kernel
theorem inT_X2 : ∀ w ∈ u_ws RX2 TX2 10, w ∈ lw_g := by decide +kernel
theorem inT_X3 : ∀ w ∈ u_ws RX3 TX3 2, w ∈ lw_g := by decide +kernel
theorem inT_X4 : ∀ w ∈ u_ws RX4 TX4 10, w ∈ lw_g := by decide +kernel
theorem inT_X5 : ∀ w ∈ u_ws RX5 TX5 1, w ∈ lw_g := by decide +kernel
theorem inT_X6 : ∀ w ∈ u_ws RX6 TX6 8, w ∈ lw_g := by decide +kernel
theorem inT_X7 : ∀ w ∈ u_ws RX7 TX7 20, w ∈ lw_g := by decide +kernel
/-- a field link: of own class, place in its pool; the class, the slot, final, type -/
def xFL (own : String) (idx ci k : Nat) (fin : Bool) (ty : FieldType) : Prop := ∃ (C : String) (T : u_T) (N : Nat) (tyf : Nat → FieldType), vwCl[ci]? = some (C, T, N) ∧ (∀ w ∈ u_ws C T N, w ∈ lw_g) ∧ k < N ∧ Cond.fieldLink own idx C (T k).2.1 (T k).2.2.1 ∈ lw_g ∧ (T k).1 = C ∧ (∀ k, k < N → parseFieldDescriptor (T k).2.2.1 = some (tyf k)) ∧ (∀ a, a < N → ∀ b, b < N → a ≠ b → (T a).2.1 ≠ (T b).2.1) ∧ (T k).2.2.2 = fin ∧ tyf k = ty
theorem tw_186 : Cond.fieldLink RX6 12 RX6 "now" "LJoinedRuns$State;" ∈ lw_g := lg_in (List.mem_of_getElem? (i := 186) (by decide +kernel)) rfl
theorem fl_X6_12 : xFL RX6 12 6 0 true (.object "JoinedRuns$State") := ⟨RX6, TX6, 8, tyX6, rfl, inT_X6, by decide, tw_186, rfl, tyX6_ok, nmX6, rfl, rfl⟩
theorem tw_187 : Cond.fieldLink RX6 19 RX6 "history" "LJoinedRuns$History;" ∈ lw_g := lg_in (List.mem_of_getElem? (i := 187) (by decide +kernel)) rfl
theorem fl_X6_19 : xFL RX6 19 6 1 true (.object "JoinedRuns$History") := ⟨RX6, TX6, 8, tyX6, rfl, inT_X6, by decide, tw_187, rfl, tyX6_ok, nmX6, rfl, rfl⟩
theorem tw_188 : Cond.fieldLink RX6 23 RX6 "slots" "[LJoinedRuns$State;" ∈ lw_g := lg_in (List.mem_of_getElem? (i := 188) (by decide +kernel)) rfl
theorem fl_X6_23 : xFL RX6 23 6 2 true (.array (.object "JoinedRuns$State")) := ⟨RX6, TX6, 8, tyX6, rfl, inT_X6, by decide, tw_188, rfl, tyX6_ok, nmX6, rfl, rfl⟩
theorem tw_189 : Cond.fieldLink RX6 27 RX6 "saved" "[Z" ∈ lw_g := lg_in (List.mem_of_getElem? (i := 189) (by decide +kernel)) rfl
theorem fl_X6_27 : xFL RX6 27 6 3 true (.array .boolean) := ⟨RX6, TX6, 8, tyX6, rfl, inT_X6, by decide, tw_189, rfl, tyX6_ok, nmX6, rfl, rfl⟩
theorem tw_190 : Cond.fieldLink RX6 34 RX6 "draft" "LJoinedRuns$Column;" ∈ lw_g := lg_in (List.mem_of_getElem? (i := 190) (by decide +kernel)) rfl
theorem fl_X6_34 : xFL RX6 34 6 4 true (.object "JoinedRuns$Column") := ⟨RX6, TX6, 8, tyX6, rfl, inT_X6, by decide, tw_190, rfl, tyX6_ok, nmX6, rfl, rfl⟩
theorem tw_191 : Cond.fieldLink RX6 41 RX6 "pad" "LJoinedRuns$Pad;" ∈ lw_g := lg_in (List.mem_of_getElem? (i := 191) (by decide +kernel)) rfl
theorem fl_X6_41 : xFL RX6 41 6 5 true (.object "JoinedRuns$Pad") := ⟨RX6, TX6, 8, tyX6, rfl, inT_X6, by decide, tw_191, rfl, tyX6_ok, nmX6, rfl, rfl⟩
theorem tw_192 : Cond.fieldLink RX6 50 RX6 "reader" "LJoinedRuns$OrderReader;" ∈ lw_g := lg_in (List.mem_of_getElem? (i := 192) (by decide +kernel)) rfl
theorem fl_X6_50 : xFL RX6 50 6 6 true (.object "JoinedRuns$OrderReader") := ⟨RX6, TX6, 8, tyX6, rfl, inT_X6, by decide, tw_192, rfl, tyX6_ok, nmX6, rfl, rfl⟩
theorem tw_193 : Cond.fieldLink RX6 54 RX6 "partners" "[I" ∈ lw_g := lg_in (List.mem_of_getElem? (i := 193) (by decide +kernel)) rfl
theorem fl_X6_54 : xFL RX6 54 6 7 true (.array .int) := ⟨RX6, TX6, 8, tyX6, rfl, inT_X6, by decide, tw_193, rfl, tyX6_ok, nmX6, rfl, rfl⟩
theorem tw_92 : Cond.fieldLink RX0 9 RX0 "values" "[I" ∈ lw_g := lg_in (List.mem_of_getElem? (i := 92) (by decide +kernel)) rfl
theorem fl_X0_9 : xFL RX0 9 0 0 true (.array .int) := ⟨RX0, TX0, 5, tyX0, rfl, inT_X0, by decide, tw_92, rfl, tyX0_ok, nmX0, rfl, rfl⟩
theorem tw_93 : Cond.fieldLink RX0 15 RX0 "lengths" "[I" ∈ lw_g := lg_in (List.mem_of_getElem? (i := 93) (by decide +kernel)) rfl
theorem fl_X0_15 : xFL RX0 15 0 1 true (.array .int) := ⟨RX0, TX0, 5, tyX0, rfl, inT_X0, by decide, tw_93, rfl, tyX0_ok, nmX0, rfl, rfl⟩
theorem tw_94 : Cond.fieldLink RX0 18 RX0 "runs" "I" ∈ lw_g := lg_in (List.mem_of_getElem? (i := 94) (by decide +kernel)) rfl
theorem fl_X0_18 : xFL RX0 18 0 2 false (.int) := ⟨RX0, TX0, 5, tyX0, rfl, inT_X0, by decide, tw_94, rfl, tyX0_ok, nmX0, rfl, rfl⟩
theorem tw_95 : Cond.fieldLink RX0 22 RX0 "rows" "I" ∈ lw_g := lg_in (List.mem_of_getElem? (i := 95) (by decide +kernel)) rfl
theorem fl_X0_22 : xFL RX0 22 0 3 false (.int) := ⟨RX0, TX0, 5, tyX0, rfl, inT_X0, by decide, tw_95, rfl, tyX0_ok, nmX0, rfl, rfl⟩
theorem tw_96 : Cond.fieldLink RX0 25 RX0 "overfull" "Z" ∈ lw_g := lg_in (List.mem_of_getElem? (i := 96) (by decide +kernel)) rfl
theorem fl_X0_25 : xFL RX0 25 0 4 false (.boolean) := ⟨RX0, TX0, 5, tyX0, rfl, inT_X0, by decide, tw_96, rfl, tyX0_ok, nmX0, rfl, rfl⟩
theorem tw_122 : Cond.fieldLink RX1 11 RX1 "states" "[LJoinedRuns$State;" ∈ lw_g := lg_in (List.mem_of_getElem? (i := 122) (by decide +kernel)) rfl
theorem fl_X1_11 : xFL RX1 11 1 0 true (.array (.object "JoinedRuns$State")) := ⟨RX1, TX1, 3, tyX1, rfl, inT_X1, by decide, tw_122, rfl, tyX1_ok, nmX1, rfl, rfl⟩
theorem tw_124 : Cond.fieldLink RX1 18 RX1 "kept" "I" ∈ lw_g := lg_in (List.mem_of_getElem? (i := 124) (by decide +kernel)) rfl
theorem fl_X1_18 : xFL RX1 18 1 2 false (.int) := ⟨RX1, TX1, 3, tyX1, rfl, inT_X1, by decide, tw_124, rfl, tyX1_ok, nmX1, rfl, rfl⟩
theorem tw_123 : Cond.fieldLink RX1 22 RX1 "oldest" "I" ∈ lw_g := lg_in (List.mem_of_getElem? (i := 123) (by decide +kernel)) rfl
theorem fl_X1_22 : xFL RX1 22 1 1 false (.int) := ⟨RX1, TX1, 3, tyX1, rfl, inT_X1, by decide, tw_123, rfl, tyX1_ok, nmX1, rfl, rfl⟩
theorem tw_156 : Cond.fieldLink RX2 9 RX2 "values" "[I" ∈ lw_g := lg_in (List.mem_of_getElem? (i := 156) (by decide +kernel)) rfl
theorem fl_X2_9 : xFL RX2 9 2 1 true (.array .int) := ⟨RX2, TX2, 10, tyX2, rfl, inT_X2, by decide, tw_156, rfl, tyX2_ok, nmX2, rfl, rfl⟩
theorem tw_157 : Cond.fieldLink RX2 15 RX2 "lengths" "[I" ∈ lw_g := lg_in (List.mem_of_getElem? (i := 157) (by decide +kernel)) rfl
theorem fl_X2_15 : xFL RX2 15 2 2 true (.array .int) := ⟨RX2, TX2, 10, tyX2, rfl, inT_X2, by decide, tw_157, rfl, tyX2_ok, nmX2, rfl, rfl⟩
theorem tw_155 : Cond.fieldLink RX2 18 RX2 "pad" "LJoinedRuns$Pad;" ∈ lw_g := lg_in (List.mem_of_getElem? (i := 155) (by decide +kernel)) rfl
theorem fl_X2_18 : xFL RX2 18 2 0 true (.object "JoinedRuns$Pad") := ⟨RX2, TX2, 10, tyX2, rfl, inT_X2, by decide, tw_155, rfl, tyX2_ok, nmX2, rfl, rfl⟩
theorem tw_160 : Cond.fieldLink RX2 22 RX2 "column" "I" ∈ lw_g := lg_in (List.mem_of_getElem? (i := 160) (by decide +kernel)) rfl
theorem fl_X2_22 : xFL RX2 22 2 5 false (.int) := ⟨RX2, TX2, 10, tyX2, rfl, inT_X2, by decide, tw_160, rfl, tyX2_ok, nmX2, rfl, rfl⟩
theorem tw_161 : Cond.fieldLink RX2 26 RX2 "kind" "C" ∈ lw_g := lg_in (List.mem_of_getElem? (i := 161) (by decide +kernel)) rfl
theorem fl_X2_26 : xFL RX2 26 2 6 false (.char) := ⟨RX2, TX2, 10, tyX2, rfl, inT_X2, by decide, tw_161, rfl, tyX2_ok, nmX2, rfl, rfl⟩
theorem tw_162 : Cond.fieldLink RX2 30 RX2 "row" "I" ∈ lw_g := lg_in (List.mem_of_getElem? (i := 162) (by decide +kernel)) rfl
theorem fl_X2_30 : xFL RX2 30 2 7 false (.int) := ⟨RX2, TX2, 10, tyX2, rfl, inT_X2, by decide, tw_162, rfl, tyX2_ok, nmX2, rfl, rfl⟩
theorem tw_163 : Cond.fieldLink RX2 33 RX2 "operand" "I" ∈ lw_g := lg_in (List.mem_of_getElem? (i := 163) (by decide +kernel)) rfl
theorem fl_X2_33 : xFL RX2 33 2 8 false (.int) := ⟨RX2, TX2, 10, tyX2, rfl, inT_X2, by decide, tw_163, rfl, tyX2_ok, nmX2, rfl, rfl⟩
theorem tw_158 : Cond.fieldLink RX2 36 RX2 "runs" "I" ∈ lw_g := lg_in (List.mem_of_getElem? (i := 158) (by decide +kernel)) rfl
theorem fl_X2_36 : xFL RX2 36 2 3 false (.int) := ⟨RX2, TX2, 10, tyX2, rfl, inT_X2, by decide, tw_158, rfl, tyX2_ok, nmX2, rfl, rfl⟩
theorem tw_159 : Cond.fieldLink RX2 39 RX2 "place" "I" ∈ lw_g := lg_in (List.mem_of_getElem? (i := 159) (by decide +kernel)) rfl
theorem fl_X2_39 : xFL RX2 39 2 4 false (.int) := ⟨RX2, TX2, 10, tyX2, rfl, inT_X2, by decide, tw_159, rfl, tyX2_ok, nmX2, rfl, rfl⟩
theorem tw_164 : Cond.fieldLink RX2 63 RX2 "number" "I" ∈ lw_g := lg_in (List.mem_of_getElem? (i := 164) (by decide +kernel)) rfl
theorem fl_X2_63 : xFL RX2 63 2 9 false (.int) := ⟨RX2, TX2, 10, tyX2, rfl, inT_X2, by decide, tw_164, rfl, tyX2_ok, nmX2, rfl, rfl⟩
theorem tw_140 : Cond.fieldLink RX3 9 RX3 "signs" "[C" ∈ lw_g := lg_in (List.mem_of_getElem? (i := 140) (by decide +kernel)) rfl
theorem fl_X3_9 : xFL RX3 9 3 0 true (.array .char) := ⟨RX3, TX3, 2, tyX3, rfl, inT_X3, by decide, tw_140, rfl, tyX3_ok, nmX3, rfl, rfl⟩
theorem tw_141 : Cond.fieldLink RX3 15 RX3 "length" "I" ∈ lw_g := lg_in (List.mem_of_getElem? (i := 141) (by decide +kernel)) rfl
theorem fl_X3_15 : xFL RX3 15 3 1 false (.int) := ⟨RX3, TX3, 2, tyX3, rfl, inT_X3, by decide, tw_141, rfl, tyX3_ok, nmX3, rfl, rfl⟩
theorem tw_365 : Cond.fieldLink RX4 7 RX4 "one" "LJoinedRuns$Column;" ∈ lw_g := lg_in (List.mem_of_getElem? (i := 365) (by decide +kernel)) rfl
theorem fl_X4_7 : xFL RX4 7 4 0 true (.object "JoinedRuns$Column") := ⟨RX4, TX4, 10, tyX4, rfl, inT_X4, by decide, tw_365, rfl, tyX4_ok, nmX4, rfl, rfl⟩
theorem tw_366 : Cond.fieldLink RX4 13 RX4 "other" "LJoinedRuns$Column;" ∈ lw_g := lg_in (List.mem_of_getElem? (i := 366) (by decide +kernel)) rfl
theorem fl_X4_13 : xFL RX4 13 4 1 true (.object "JoinedRuns$Column") := ⟨RX4, TX4, 10, tyX4, rfl, inT_X4, by decide, tw_366, rfl, tyX4_ok, nmX4, rfl, rfl⟩
theorem tw_371 : Cond.fieldLink RX4 16 RX4 "valueOfOne" "I" ∈ lw_g := lg_in (List.mem_of_getElem? (i := 371) (by decide +kernel)) rfl
theorem fl_X4_16 : xFL RX4 16 4 6 false (.int) := ⟨RX4, TX4, 10, tyX4, rfl, inT_X4, by decide, tw_371, rfl, tyX4_ok, nmX4, rfl, rfl⟩
theorem tw_372 : Cond.fieldLink RX4 20 RX4 "valueOfOther" "I" ∈ lw_g := lg_in (List.mem_of_getElem? (i := 372) (by decide +kernel)) rfl
theorem fl_X4_20 : xFL RX4 20 4 7 false (.int) := ⟨RX4, TX4, 10, tyX4, rfl, inT_X4, by decide, tw_372, rfl, tyX4_ok, nmX4, rfl, rfl⟩
theorem tw_374 : Cond.fieldLink RX4 23 RX4 "length" "I" ∈ lw_g := lg_in (List.mem_of_getElem? (i := 374) (by decide +kernel)) rfl
theorem fl_X4_23 : xFL RX4 23 4 9 false (.int) := ⟨RX4, TX4, 10, tyX4, rfl, inT_X4, by decide, tw_374, rfl, tyX4_ok, nmX4, rfl, rfl⟩
theorem tw_373 : Cond.fieldLink RX4 26 RX4 "firstRow" "I" ∈ lw_g := lg_in (List.mem_of_getElem? (i := 373) (by decide +kernel)) rfl
theorem fl_X4_26 : xFL RX4 26 4 8 false (.int) := ⟨RX4, TX4, 10, tyX4, rfl, inT_X4, by decide, tw_373, rfl, tyX4_ok, nmX4, rfl, rfl⟩
theorem tw_367 : Cond.fieldLink RX4 29 RX4 "runOfOne" "I" ∈ lw_g := lg_in (List.mem_of_getElem? (i := 367) (by decide +kernel)) rfl
theorem fl_X4_29 : xFL RX4 29 4 2 false (.int) := ⟨RX4, TX4, 10, tyX4, rfl, inT_X4, by decide, tw_367, rfl, tyX4_ok, nmX4, rfl, rfl⟩
theorem tw_368 : Cond.fieldLink RX4 38 RX4 "runOfOther" "I" ∈ lw_g := lg_in (List.mem_of_getElem? (i := 368) (by decide +kernel)) rfl
theorem fl_X4_38 : xFL RX4 38 4 3 false (.int) := ⟨RX4, TX4, 10, tyX4, rfl, inT_X4, by decide, tw_368, rfl, tyX4_ok, nmX4, rfl, rfl⟩
theorem tw_369 : Cond.fieldLink RX4 48 RX4 "passedOfOne" "I" ∈ lw_g := lg_in (List.mem_of_getElem? (i := 369) (by decide +kernel)) rfl
theorem fl_X4_48 : xFL RX4 48 4 4 false (.int) := ⟨RX4, TX4, 10, tyX4, rfl, inT_X4, by decide, tw_369, rfl, tyX4_ok, nmX4, rfl, rfl⟩
theorem tw_370 : Cond.fieldLink RX4 51 RX4 "passedOfOther" "I" ∈ lw_g := lg_in (List.mem_of_getElem? (i := 370) (by decide +kernel)) rfl
theorem fl_X4_51 : xFL RX4 51 4 5 false (.int) := ⟨RX4, TX4, 10, tyX4, rfl, inT_X4, by decide, tw_370, rfl, tyX4_ok, nmX4, rfl, rfl⟩
theorem tw_109 : Cond.fieldLink RX5 11 RX5 "columns" "[LJoinedRuns$Column;" ∈ lw_g := lg_in (List.mem_of_getElem? (i := 109) (by decide +kernel)) rfl
theorem fl_X5_11 : xFL RX5 11 5 0 true (.array (.object "JoinedRuns$Column")) := ⟨RX5, TX5, 1, tyX5, rfl, inT_X5, by decide, tw_109, rfl, tyX5_ok, nmX5, rfl, rfl⟩
theorem tw_702 : Cond.fieldLink RX7 7 RX7 "state" "[I" ∈ lw_g := lg_in (List.mem_of_getElem? (i := 702) (by decide +kernel)) rfl
theorem fl_X7_7 : xFL RX7 7 7 0 true (.array .int) := ⟨RX7, TX7, 20, tyX7, rfl, inT_X7, by decide, tw_702, rfl, tyX7_ok, nmX7, rfl, rfl⟩
theorem tw_703 : Cond.fieldLink RX7 13 RX7 "history" "[I" ∈ lw_g := lg_in (List.mem_of_getElem? (i := 703) (by decide +kernel)) rfl
theorem fl_X7_13 : xFL RX7 13 7 1 true (.array .int) := ⟨RX7, TX7, 20, tyX7, rfl, inT_X7, by decide, tw_703, rfl, tyX7_ok, nmX7, rfl, rfl⟩
theorem tw_705 : Cond.fieldLink RX7 16 RX7 "slots" "[I" ∈ lw_g := lg_in (List.mem_of_getElem? (i := 705) (by decide +kernel)) rfl
theorem fl_X7_16 : xFL RX7 16 7 3 true (.array .int) := ⟨RX7, TX7, 20, tyX7, rfl, inT_X7, by decide, tw_705, rfl, tyX7_ok, nmX7, rfl, rfl⟩
theorem tw_706 : Cond.fieldLink RX7 19 RX7 "isSaved" "[I" ∈ lw_g := lg_in (List.mem_of_getElem? (i := 706) (by decide +kernel)) rfl
theorem fl_X7_19 : xFL RX7 19 7 4 true (.array .int) := ⟨RX7, TX7, 20, tyX7, rfl, inT_X7, by decide, tw_706, rfl, tyX7_ok, nmX7, rfl, rfl⟩
theorem tw_707 : Cond.fieldLink RX7 22 RX7 "pad" "[I" ∈ lw_g := lg_in (List.mem_of_getElem? (i := 707) (by decide +kernel)) rfl
theorem fl_X7_22 : xFL RX7 22 7 5 true (.array .int) := ⟨RX7, TX7, 20, tyX7, rfl, inT_X7, by decide, tw_707, rfl, tyX7_ok, nmX7, rfl, rfl⟩
theorem tw_709 : Cond.fieldLink RX7 25 RX7 "rows" "[I" ∈ lw_g := lg_in (List.mem_of_getElem? (i := 709) (by decide +kernel)) rfl
theorem fl_X7_25 : xFL RX7 25 7 7 true (.array .int) := ⟨RX7, TX7, 20, tyX7, rfl, inT_X7, by decide, tw_709, rfl, tyX7_ok, nmX7, rfl, rfl⟩
theorem tw_711 : Cond.fieldLink RX7 28 RX7 "others" "[I" ∈ lw_g := lg_in (List.mem_of_getElem? (i := 711) (by decide +kernel)) rfl
theorem fl_X7_28 : xFL RX7 28 7 9 true (.array .int) := ⟨RX7, TX7, 20, tyX7, rfl, inT_X7, by decide, tw_711, rfl, tyX7_ok, nmX7, rfl, rfl⟩
theorem tw_713 : Cond.fieldLink RX7 31 RX7 "isThere" "[I" ∈ lw_g := lg_in (List.mem_of_getElem? (i := 713) (by decide +kernel)) rfl
theorem fl_X7_31 : xFL RX7 31 7 11 true (.array .int) := ⟨RX7, TX7, 20, tyX7, rfl, inT_X7, by decide, tw_713, rfl, tyX7_ok, nmX7, rfl, rfl⟩
theorem tw_719 : Cond.fieldLink RX7 34 RX7 "toldValues" "[I" ∈ lw_g := lg_in (List.mem_of_getElem? (i := 719) (by decide +kernel)) rfl
theorem fl_X7_34 : xFL RX7 34 7 17 true (.array .int) := ⟨RX7, TX7, 20, tyX7, rfl, inT_X7, by decide, tw_719, rfl, tyX7_ok, nmX7, rfl, rfl⟩
theorem tw_720 : Cond.fieldLink RX7 37 RX7 "toldLengths" "[I" ∈ lw_g := lg_in (List.mem_of_getElem? (i := 720) (by decide +kernel)) rfl
theorem fl_X7_37 : xFL RX7 37 7 18 true (.array .int) := ⟨RX7, TX7, 20, tyX7, rfl, inT_X7, by decide, tw_720, rfl, tyX7_ok, nmX7, rfl, rfl⟩
theorem tw_704 : Cond.fieldLink RX7 40 RX7 "recorded" "I" ∈ lw_g := lg_in (List.mem_of_getElem? (i := 704) (by decide +kernel)) rfl
theorem fl_X7_40 : xFL RX7 40 7 2 false (.int) := ⟨RX7, TX7, 20, tyX7, rfl, inT_X7, by decide, tw_704, rfl, tyX7_ok, nmX7, rfl, rfl⟩
theorem tw_710 : Cond.fieldLink RX7 63 RX7 "many" "I" ∈ lw_g := lg_in (List.mem_of_getElem? (i := 710) (by decide +kernel)) rfl
theorem fl_X7_63 : xFL RX7 63 7 8 false (.int) := ⟨RX7, TX7, 20, tyX7, rfl, inT_X7, by decide, tw_710, rfl, tyX7_ok, nmX7, rfl, rfl⟩
theorem tw_712 : Cond.fieldLink RX7 69 RX7 "othersMany" "I" ∈ lw_g := lg_in (List.mem_of_getElem? (i := 712) (by decide +kernel)) rfl
theorem fl_X7_69 : xFL RX7 69 7 10 false (.int) := ⟨RX7, TX7, 20, tyX7, rfl, inT_X7, by decide, tw_712, rfl, tyX7_ok, nmX7, rfl, rfl⟩
theorem tw_708 : Cond.fieldLink RX7 153 RX7 "padLength" "I" ∈ lw_g := lg_in (List.mem_of_getElem? (i := 708) (by decide +kernel)) rfl
theorem fl_X7_153 : xFL RX7 153 7 6 false (.int) := ⟨RX7, TX7, 20, tyX7, rfl, inT_X7, by decide, tw_708, rfl, tyX7_ok, nmX7, rfl, rfl⟩
theorem tw_714 : Cond.fieldLink RX7 170 RX7 "at" "I" ∈ lw_g := lg_in (List.mem_of_getElem? (i := 714) (by decide +kernel)) rfl
theorem fl_X7_170 : xFL RX7 170 7 12 false (.int) := ⟨RX7, TX7, 20, tyX7, rfl, inT_X7, by decide, tw_714, rfl, tyX7_ok, nmX7, rfl, rfl⟩
theorem tw_721 : Cond.fieldLink RX7 179 RX7 "toldMany" "I" ∈ lw_g := lg_in (List.mem_of_getElem? (i := 721) (by decide +kernel)) rfl
theorem fl_X7_179 : xFL RX7 179 7 19 false (.int) := ⟨RX7, TX7, 20, tyX7, rfl, inT_X7, by decide, tw_721, rfl, tyX7_ok, nmX7, rfl, rfl⟩
theorem tw_716 : Cond.fieldLink RX7 188 RX7 "letter" "I" ∈ lw_g := lg_in (List.mem_of_getElem? (i := 716) (by decide +kernel)) rfl
theorem fl_X7_188 : xFL RX7 188 7 14 false (.int) := ⟨RX7, TX7, 20, tyX7, rfl, inT_X7, by decide, tw_716, rfl, tyX7_ok, nmX7, rfl, rfl⟩
theorem tw_717 : Cond.fieldLink RX7 194 RX7 "first" "I" ∈ lw_g := lg_in (List.mem_of_getElem? (i := 717) (by decide +kernel)) rfl
theorem fl_X7_194 : xFL RX7 194 7 15 false (.int) := ⟨RX7, TX7, 20, tyX7, rfl, inT_X7, by decide, tw_717, rfl, tyX7_ok, nmX7, rfl, rfl⟩
theorem tw_718 : Cond.fieldLink RX7 197 RX7 "second" "I" ∈ lw_g := lg_in (List.mem_of_getElem? (i := 718) (by decide +kernel)) rfl
theorem fl_X7_197 : xFL RX7 197 7 16 false (.int) := ⟨RX7, TX7, 20, tyX7, rfl, inT_X7, by decide, tw_718, rfl, tyX7_ok, nmX7, rfl, rfl⟩
theorem tw_715 : Cond.fieldLink RX7 200 RX7 "column" "I" ∈ lw_g := lg_in (List.mem_of_getElem? (i := 715) (by decide +kernel)) rfl
theorem fl_X7_200 : xFL RX7 200 7 13 false (.int) := ⟨RX7, TX7, 20, tyX7, rfl, inT_X7, by decide, tw_715, rfl, tyX7_ok, nmX7, rfl, rfl⟩
abbrev XD : Type := MethodName × ByteArray × Nat × Option FieldType
theorem tw_75 : Cond.code yX6_init cX6_init 2 none ∈ lw_g := lg_in (List.mem_of_getElem? (i := 75) (by decide +kernel)) rfl
abbrev mX6_init : XD := (yX6_init, cX6_init, 2, none)
theorem cdX6_init : Cond.code mX6_init.1 mX6_init.2.1 mX6_init.2.2.1 mX6_init.2.2.2 ∈ lw_g := tw_75
theorem tw_83 : Cond.code yX5_init cX5_init 2 none ∈ lw_g := lg_in (List.mem_of_getElem? (i := 83) (by decide +kernel)) rfl
abbrev mX5_init : XD := (yX5_init, cX5_init, 2, none)
theorem cdX5_init : Cond.code mX5_init.1 mX5_init.2.1 mX5_init.2.2.1 mX5_init.2.2.2 ∈ lw_g := tw_83
theorem tw_90 : Cond.code yX0_init cX0_init 1 none ∈ lw_g := lg_in (List.mem_of_getElem? (i := 90) (by decide +kernel)) rfl
abbrev mX0_init : XD := (yX0_init, cX0_init, 1, none)
theorem cdX0_init : Cond.code mX0_init.1 mX0_init.2.1 mX0_init.2.2.1 mX0_init.2.2.2 ∈ lw_g := tw_90
theorem tw_117 : Cond.code yX1_init cX1_init 2 none ∈ lw_g := lg_in (List.mem_of_getElem? (i := 117) (by decide +kernel)) rfl
abbrev mX1_init : XD := (yX1_init, cX1_init, 2, none)
theorem cdX1_init : Cond.code mX1_init.1 mX1_init.2.1 mX1_init.2.2.1 mX1_init.2.2.2 ∈ lw_g := tw_117
theorem tw_138 : Cond.code yX3_init cX3_init 1 none ∈ lw_g := lg_in (List.mem_of_getElem? (i := 138) (by decide +kernel)) rfl
abbrev mX3_init : XD := (yX3_init, cX3_init, 1, none)
theorem cdX3_init : Cond.code mX3_init.1 mX3_init.2.1 mX3_init.2.2.1 mX3_init.2.2.2 ∈ lw_g := tw_138
theorem tw_153 : Cond.code yX2_init cX2_init 2 none ∈ lw_g := lg_in (List.mem_of_getElem? (i := 153) (by decide +kernel)) rfl
abbrev mX2_init : XD := (yX2_init, cX2_init, 2, none)
theorem cdX2_init : Cond.code mX2_init.1 mX2_init.2.1 mX2_init.2.2.1 mX2_init.2.2.2 ∈ lw_g := tw_153
theorem tw_214 : Cond.code yX6_append cX6_append 5 (some .int) ∈ lw_g := lg_in (List.mem_of_getElem? (i := 214) (by decide +kernel)) rfl
abbrev mX6_append : XD := (yX6_append, cX6_append, 5, (some .int))
theorem cdX6_append : Cond.code mX6_append.1 mX6_append.2.1 mX6_append.2.2.1 mX6_append.2.2.2 ∈ lw_g := tw_214
theorem tw_218 : Cond.code yX6_draftAppend cX6_draftAppend 4 (some .int) ∈ lw_g := lg_in (List.mem_of_getElem? (i := 218) (by decide +kernel)) rfl
abbrev mX6_draftAppend : XD := (yX6_draftAppend, cX6_draftAppend, 4, (some .int))
theorem cdX6_draftAppend : Cond.code mX6_draftAppend.1 mX6_draftAppend.2.1 mX6_draftAppend.2.2.1 mX6_draftAppend.2.2.2 ∈ lw_g := tw_218
theorem tw_221 : Cond.code yX6_isColumn cX6_isColumn 1 (some .boolean) ∈ lw_g := lg_in (List.mem_of_getElem? (i := 221) (by decide +kernel)) rfl
abbrev mX6_isColumn : XD := (yX6_isColumn, cX6_isColumn, 1, (some .boolean))
theorem cdX6_isColumn : Cond.code mX6_isColumn.1 mX6_isColumn.2.1 mX6_isColumn.2.2.1 mX6_isColumn.2.2.2 ∈ lw_g := tw_221
theorem tw_224 : Cond.code yX6_isValue cX6_isValue 1 (some .boolean) ∈ lw_g := lg_in (List.mem_of_getElem? (i := 224) (by decide +kernel)) rfl
abbrev mX6_isValue : XD := (yX6_isValue, cX6_isValue, 1, (some .boolean))
theorem cdX6_isValue : Cond.code mX6_isValue.1 mX6_isValue.2.1 mX6_isValue.2.2.1 mX6_isValue.2.2.2 ∈ lw_g := tw_224
theorem tw_227 : Cond.code yX6_isLength cX6_isLength 1 (some .boolean) ∈ lw_g := lg_in (List.mem_of_getElem? (i := 227) (by decide +kernel)) rfl
abbrev mX6_isLength : XD := (yX6_isLength, cX6_isLength, 1, (some .boolean))
theorem cdX6_isLength : Cond.code mX6_isLength.1 mX6_isLength.2.1 mX6_isLength.2.2.1 mX6_isLength.2.2.2 ∈ lw_g := tw_227
theorem tw_231 : Cond.code yX5_column cX5_column 2 (some (.object "JoinedRuns$Column")) ∈ lw_g := lg_in (List.mem_of_getElem? (i := 231) (by decide +kernel)) rfl
abbrev mX5_column : XD := (yX5_column, cX5_column, 2, (some (.object "JoinedRuns$Column")))
theorem cdX5_column : Cond.code mX5_column.1 mX5_column.2.1 mX5_column.2.2.1 mX5_column.2.2.2 ∈ lw_g := tw_231
theorem tw_235 : Cond.code yX0_copyFrom cX0_copyFrom 2 none ∈ lw_g := lg_in (List.mem_of_getElem? (i := 235) (by decide +kernel)) rfl
abbrev mX0_copyFrom : XD := (yX0_copyFrom, cX0_copyFrom, 2, none)
theorem cdX0_copyFrom : Cond.code mX0_copyFrom.1 mX0_copyFrom.2.1 mX0_copyFrom.2.2.1 mX0_copyFrom.2.2.2 ∈ lw_g := tw_235
theorem tw_242 : Cond.code yX0_addRun cX0_addRun 3 none ∈ lw_g := lg_in (List.mem_of_getElem? (i := 242) (by decide +kernel)) rfl
abbrev mX0_addRun : XD := (yX0_addRun, cX0_addRun, 3, none)
theorem cdX0_addRun : Cond.code mX0_addRun.1 mX0_addRun.2.1 mX0_addRun.2.2.1 mX0_addRun.2.2.2 ∈ lw_g := tw_242
theorem tw_246 : Cond.code yX6_errorOfDraft cX6_errorOfDraft 1 (some .int) ∈ lw_g := lg_in (List.mem_of_getElem? (i := 246) (by decide +kernel)) rfl
abbrev mX6_errorOfDraft : XD := (yX6_errorOfDraft, cX6_errorOfDraft, 1, (some .int))
theorem cdX6_errorOfDraft : Cond.code mX6_errorOfDraft.1 mX6_errorOfDraft.2.1 mX6_errorOfDraft.2.2.1 mX6_errorOfDraft.2.2.2 ∈ lw_g := tw_246
theorem tw_250 : Cond.code yX0_isOverfull cX0_isOverfull 1 (some .boolean) ∈ lw_g := lg_in (List.mem_of_getElem? (i := 250) (by decide +kernel)) rfl
abbrev mX0_isOverfull : XD := (yX0_isOverfull, cX0_isOverfull, 1, (some .boolean))
theorem cdX0_isOverfull : Cond.code mX0_isOverfull.1 mX0_isOverfull.2.1 mX0_isOverfull.2.2.1 mX0_isOverfull.2.2.2 ∈ lw_g := tw_250
theorem tw_254 : Cond.code yX6_recordAndTakeDraft cX6_recordAndTakeDraft 2 none ∈ lw_g := lg_in (List.mem_of_getElem? (i := 254) (by decide +kernel)) rfl
abbrev mX6_recordAndTakeDraft : XD := (yX6_recordAndTakeDraft, cX6_recordAndTakeDraft, 2, none)
theorem cdX6_recordAndTakeDraft : Cond.code mX6_recordAndTakeDraft.1 mX6_recordAndTakeDraft.2.1 mX6_recordAndTakeDraft.2.2.1 mX6_recordAndTakeDraft.2.2.2 ∈ lw_g := tw_254
theorem tw_258 : Cond.code yX1_record cX1_record 2 none ∈ lw_g := lg_in (List.mem_of_getElem? (i := 258) (by decide +kernel)) rfl
abbrev mX1_record : XD := (yX1_record, cX1_record, 2, none)
theorem cdX1_record : Cond.code mX1_record.1 mX1_record.2.1 mX1_record.2.2.1 mX1_record.2.2.2 ∈ lw_g := tw_258
theorem tw_262 : Cond.code yX5_copyFrom cX5_copyFrom 3 none ∈ lw_g := lg_in (List.mem_of_getElem? (i := 262) (by decide +kernel)) rfl
abbrev mX5_copyFrom : XD := (yX5_copyFrom, cX5_copyFrom, 3, none)
theorem cdX5_copyFrom : Cond.code mX5_copyFrom.1 mX5_copyFrom.2.1 mX5_copyFrom.2.2.1 mX5_copyFrom.2.2.2 ∈ lw_g := tw_262
theorem tw_267 : Cond.code yX0_rows cX0_rows 1 (some .int) ∈ lw_g := lg_in (List.mem_of_getElem? (i := 267) (by decide +kernel)) rfl
abbrev mX0_rows : XD := (yX0_rows, cX0_rows, 1, (some .int))
theorem cdX0_rows : Cond.code mX0_rows.1 mX0_rows.2.1 mX0_rows.2.2.1 mX0_rows.2.2.2 ∈ lw_g := tw_267
theorem tw_271 : Cond.code yX6_insert cX6_insert 6 (some .int) ∈ lw_g := lg_in (List.mem_of_getElem? (i := 271) (by decide +kernel)) rfl
abbrev mX6_insert : XD := (yX6_insert, cX6_insert, 6, (some .int))
theorem cdX6_insert : Cond.code mX6_insert.1 mX6_insert.2.1 mX6_insert.2.2.1 mX6_insert.2.2.2 ∈ lw_g := tw_271
theorem tw_275 : Cond.code yX6_draftInsert cX6_draftInsert 6 (some .int) ∈ lw_g := lg_in (List.mem_of_getElem? (i := 275) (by decide +kernel)) rfl
abbrev mX6_draftInsert : XD := (yX6_draftInsert, cX6_draftInsert, 6, (some .int))
theorem cdX6_draftInsert : Cond.code mX6_draftInsert.1 mX6_draftInsert.2.1 mX6_draftInsert.2.2.1 mX6_draftInsert.2.2.2 ∈ lw_g := tw_275
theorem tw_279 : Cond.code yX0_clear cX0_clear 1 none ∈ lw_g := lg_in (List.mem_of_getElem? (i := 279) (by decide +kernel)) rfl
abbrev mX0_clear : XD := (yX0_clear, cX0_clear, 1, none)
theorem cdX0_clear : Cond.code mX0_clear.1 mX0_clear.2.1 mX0_clear.2.2.1 mX0_clear.2.2.2 ∈ lw_g := tw_279
theorem tw_283 : Cond.code yX0_addRows cX0_addRows 7 none ∈ lw_g := lg_in (List.mem_of_getElem? (i := 283) (by decide +kernel)) rfl
abbrev mX0_addRows : XD := (yX0_addRows, cX0_addRows, 7, none)
theorem cdX0_addRows : Cond.code mX0_addRows.1 mX0_addRows.2.1 mX0_addRows.2.2.1 mX0_addRows.2.2.2 ∈ lw_g := tw_283
theorem tw_286 : Cond.code yJ9_min_7cf53 cJ9_min_7cf53 2 (some .int) ∈ lw_g := lg_in (List.mem_of_getElem? (i := 286) (by decide +kernel)) rfl
abbrev mJ9_min_7cf53 : XD := (yJ9_min_7cf53, cJ9_min_7cf53, 2, (some .int))
theorem cdJ9_min_7cf53 : Cond.code mJ9_min_7cf53.1 mJ9_min_7cf53.2.1 mJ9_min_7cf53.2.2.1 mJ9_min_7cf53.2.2.2 ∈ lw_g := tw_286
theorem tw_289 : Cond.code yJ9_max_7cf53 cJ9_max_7cf53 2 (some .int) ∈ lw_g := lg_in (List.mem_of_getElem? (i := 289) (by decide +kernel)) rfl
abbrev mJ9_max_7cf53 : XD := (yJ9_max_7cf53, cJ9_max_7cf53, 2, (some .int))
theorem cdJ9_max_7cf53 : Cond.code mJ9_max_7cf53.1 mJ9_max_7cf53.2.1 mJ9_max_7cf53.2.2.1 mJ9_max_7cf53.2.2.2 ∈ lw_g := tw_289
theorem tw_294 : Cond.code yX0_runs cX0_runs 1 (some .int) ∈ lw_g := lg_in (List.mem_of_getElem? (i := 294) (by decide +kernel)) rfl
abbrev mX0_runs : XD := (yX0_runs, cX0_runs, 1, (some .int))
theorem cdX0_runs : Cond.code mX0_runs.1 mX0_runs.2.1 mX0_runs.2.2.1 mX0_runs.2.2.2 ∈ lw_g := tw_294
theorem tw_298 : Cond.code yX6_remove cX6_remove 5 (some .int) ∈ lw_g := lg_in (List.mem_of_getElem? (i := 298) (by decide +kernel)) rfl
abbrev mX6_remove : XD := (yX6_remove, cX6_remove, 5, (some .int))
theorem cdX6_remove : Cond.code mX6_remove.1 mX6_remove.2.1 mX6_remove.2.2.1 mX6_remove.2.2.2 ∈ lw_g := tw_298
theorem tw_302 : Cond.code yX6_draftRemove cX6_draftRemove 5 (some .int) ∈ lw_g := lg_in (List.mem_of_getElem? (i := 302) (by decide +kernel)) rfl
abbrev mX6_draftRemove : XD := (yX6_draftRemove, cX6_draftRemove, 5, (some .int))
theorem cdX6_draftRemove : Cond.code mX6_draftRemove.1 mX6_draftRemove.2.1 mX6_draftRemove.2.2.1 mX6_draftRemove.2.2.2 ∈ lw_g := tw_302
theorem tw_306 : Cond.code yX6_isRow cX6_isRow 3 (some .boolean) ∈ lw_g := lg_in (List.mem_of_getElem? (i := 306) (by decide +kernel)) rfl
abbrev mX6_isRow : XD := (yX6_isRow, cX6_isRow, 3, (some .boolean))
theorem cdX6_isRow : Cond.code mX6_isRow.1 mX6_isRow.2.1 mX6_isRow.2.2.1 mX6_isRow.2.2.2 ∈ lw_g := tw_306
theorem tw_310 : Cond.code yX6_set cX6_set 6 (some .int) ∈ lw_g := lg_in (List.mem_of_getElem? (i := 310) (by decide +kernel)) rfl
abbrev mX6_set : XD := (yX6_set, cX6_set, 6, (some .int))
theorem cdX6_set : Cond.code mX6_set.1 mX6_set.2.1 mX6_set.2.2.1 mX6_set.2.2.2 ∈ lw_g := tw_310
theorem tw_314 : Cond.code yX6_draftSet cX6_draftSet 5 (some .int) ∈ lw_g := lg_in (List.mem_of_getElem? (i := 314) (by decide +kernel)) rfl
abbrev mX6_draftSet : XD := (yX6_draftSet, cX6_draftSet, 5, (some .int))
theorem cdX6_draftSet : Cond.code mX6_draftSet.1 mX6_draftSet.2.1 mX6_draftSet.2.2.1 mX6_draftSet.2.2.2 ∈ lw_g := tw_314
theorem tw_318 : Cond.code yX0_valueOfRow cX0_valueOfRow 2 (some .int) ∈ lw_g := lg_in (List.mem_of_getElem? (i := 318) (by decide +kernel)) rfl
abbrev mX0_valueOfRow : XD := (yX0_valueOfRow, cX0_valueOfRow, 2, (some .int))
theorem cdX0_valueOfRow : Cond.code mX0_valueOfRow.1 mX0_valueOfRow.2.1 mX0_valueOfRow.2.2.1 mX0_valueOfRow.2.2.2 ∈ lw_g := tw_318
theorem tw_322 : Cond.code yX0_runOfRow cX0_runOfRow 4 (some .int) ∈ lw_g := lg_in (List.mem_of_getElem? (i := 322) (by decide +kernel)) rfl
abbrev mX0_runOfRow : XD := (yX0_runOfRow, cX0_runOfRow, 4, (some .int))
theorem cdX0_runOfRow : Cond.code mX0_runOfRow.1 mX0_runOfRow.2.1 mX0_runOfRow.2.2.1 mX0_runOfRow.2.2.2 ∈ lw_g := tw_322
theorem tw_326 : Cond.code yX0_valueOfRun cX0_valueOfRun 2 (some .int) ∈ lw_g := lg_in (List.mem_of_getElem? (i := 326) (by decide +kernel)) rfl
abbrev mX0_valueOfRun : XD := (yX0_valueOfRun, cX0_valueOfRun, 2, (some .int))
theorem cdX0_valueOfRun : Cond.code mX0_valueOfRun.1 mX0_valueOfRun.2.1 mX0_valueOfRun.2.2.1 mX0_valueOfRun.2.2.2 ∈ lw_g := tw_326
theorem tw_330 : Cond.code yX6_sort cX6_sort 3 (some .int) ∈ lw_g := lg_in (List.mem_of_getElem? (i := 330) (by decide +kernel)) rfl
abbrev mX6_sort : XD := (yX6_sort, cX6_sort, 3, (some .int))
theorem cdX6_sort : Cond.code mX6_sort.1 mX6_sort.2.1 mX6_sort.2.2.1 mX6_sort.2.2.2 ∈ lw_g := tw_330
theorem tw_334 : Cond.code yX6_draftSort cX6_draftSort 4 (some .int) ∈ lw_g := lg_in (List.mem_of_getElem? (i := 334) (by decide +kernel)) rfl
abbrev mX6_draftSort : XD := (yX6_draftSort, cX6_draftSort, 4, (some .int))
theorem cdX6_draftSort : Cond.code mX6_draftSort.1 mX6_draftSort.2.1 mX6_draftSort.2.2.1 mX6_draftSort.2.2.2 ∈ lw_g := tw_334
theorem tw_338 : Cond.code yX0_rowsOf cX0_rowsOf 4 (some .int) ∈ lw_g := lg_in (List.mem_of_getElem? (i := 338) (by decide +kernel)) rfl
abbrev mX0_rowsOf : XD := (yX0_rowsOf, cX0_rowsOf, 4, (some .int))
theorem cdX0_rowsOf : Cond.code mX0_rowsOf.1 mX0_rowsOf.2.1 mX0_rowsOf.2.2.1 mX0_rowsOf.2.2.2 ∈ lw_g := tw_338
theorem tw_342 : Cond.code yX6_turn cX6_turn 3 (some .int) ∈ lw_g := lg_in (List.mem_of_getElem? (i := 342) (by decide +kernel)) rfl
abbrev mX6_turn : XD := (yX6_turn, cX6_turn, 3, (some .int))
theorem cdX6_turn : Cond.code mX6_turn.1 mX6_turn.2.1 mX6_turn.2.2.1 mX6_turn.2.2.2 ∈ lw_g := tw_342
theorem tw_346 : Cond.code yX0_addTurned cX0_addTurned 3 none ∈ lw_g := lg_in (List.mem_of_getElem? (i := 346) (by decide +kernel)) rfl
abbrev mX0_addTurned : XD := (yX0_addTurned, cX0_addTurned, 3, none)
theorem cdX0_addTurned : Cond.code mX0_addTurned.1 mX0_addTurned.2.1 mX0_addTurned.2.2.1 mX0_addTurned.2.2.2 ∈ lw_g := tw_346
theorem tw_350 : Cond.code yX6_merge cX6_merge 6 (some .int) ∈ lw_g := lg_in (List.mem_of_getElem? (i := 350) (by decide +kernel)) rfl
abbrev mX6_merge : XD := (yX6_merge, cX6_merge, 6, (some .int))
theorem cdX6_merge : Cond.code mX6_merge.1 mX6_merge.2.1 mX6_merge.2.2.1 mX6_merge.2.2.2 ∈ lw_g := tw_350
theorem tw_354 : Cond.code yX6_draftMerge cX6_draftMerge 7 (some .int) ∈ lw_g := lg_in (List.mem_of_getElem? (i := 354) (by decide +kernel)) rfl
abbrev mX6_draftMerge : XD := (yX6_draftMerge, cX6_draftMerge, 7, (some .int))
theorem cdX6_draftMerge : Cond.code mX6_draftMerge.1 mX6_draftMerge.2.1 mX6_draftMerge.2.2.1 mX6_draftMerge.2.2.2 ∈ lw_g := tw_354
theorem tw_358 : Cond.code yX6_walkOver cX6_walkOver 3 (some (.object "JoinedRuns$PairWalk")) ∈ lw_g := lg_in (List.mem_of_getElem? (i := 358) (by decide +kernel)) rfl
abbrev mX6_walkOver : XD := (yX6_walkOver, cX6_walkOver, 3, (some (.object "JoinedRuns$PairWalk")))
theorem cdX6_walkOver : Cond.code mX6_walkOver.1 mX6_walkOver.2.1 mX6_walkOver.2.2.1 mX6_walkOver.2.2.2 ∈ lw_g := tw_358
theorem tw_363 : Cond.code yX4_init cX4_init 3 none ∈ lw_g := lg_in (List.mem_of_getElem? (i := 363) (by decide +kernel)) rfl
abbrev mX4_init : XD := (yX4_init, cX4_init, 3, none)
theorem cdX4_init : Cond.code mX4_init.1 mX4_init.2.1 mX4_init.2.2.1 mX4_init.2.2.2 ∈ lw_g := tw_363
theorem tw_399 : Cond.code yX4_advance cX4_advance 3 (some .boolean) ∈ lw_g := lg_in (List.mem_of_getElem? (i := 399) (by decide +kernel)) rfl
abbrev mX4_advance : XD := (yX4_advance, cX4_advance, 3, (some .boolean))
theorem cdX4_advance : Cond.code mX4_advance.1 mX4_advance.2.1 mX4_advance.2.2.1 mX4_advance.2.2.2 ∈ lw_g := tw_399
theorem tw_405 : Cond.code yX0_lengthOfRun cX0_lengthOfRun 2 (some .int) ∈ lw_g := lg_in (List.mem_of_getElem? (i := 405) (by decide +kernel)) rfl
abbrev mX0_lengthOfRun : XD := (yX0_lengthOfRun, cX0_lengthOfRun, 2, (some .int))
theorem cdX0_lengthOfRun : Cond.code mX0_lengthOfRun.1 mX0_lengthOfRun.2.1 mX0_lengthOfRun.2.2.1 mX0_lengthOfRun.2.2.2 ∈ lw_g := tw_405
theorem tw_410 : Cond.code yX4_valueOfOne cX4_valueOfOne 1 (some .int) ∈ lw_g := lg_in (List.mem_of_getElem? (i := 410) (by decide +kernel)) rfl
abbrev mX4_valueOfOne : XD := (yX4_valueOfOne, cX4_valueOfOne, 1, (some .int))
theorem cdX4_valueOfOne : Cond.code mX4_valueOfOne.1 mX4_valueOfOne.2.1 mX4_valueOfOne.2.2.1 mX4_valueOfOne.2.2.2 ∈ lw_g := tw_410
theorem tw_414 : Cond.code yX4_valueOfOther cX4_valueOfOther 1 (some .int) ∈ lw_g := lg_in (List.mem_of_getElem? (i := 414) (by decide +kernel)) rfl
abbrev mX4_valueOfOther : XD := (yX4_valueOfOther, cX4_valueOfOther, 1, (some .int))
theorem cdX4_valueOfOther : Cond.code mX4_valueOfOther.1 mX4_valueOfOther.2.1 mX4_valueOfOther.2.2.1 mX4_valueOfOther.2.2.2 ∈ lw_g := tw_414
theorem tw_419 : Cond.code yX4_length cX4_length 1 (some .int) ∈ lw_g := lg_in (List.mem_of_getElem? (i := 419) (by decide +kernel)) rfl
abbrev mX4_length : XD := (yX4_length, cX4_length, 1, (some .int))
theorem cdX4_length : Cond.code mX4_length.1 mX4_length.2.1 mX4_length.2.2.1 mX4_length.2.2.2 ∈ lw_g := tw_419
theorem tw_424 : Cond.code yX4_isAlike cX4_isAlike 1 (some .boolean) ∈ lw_g := lg_in (List.mem_of_getElem? (i := 424) (by decide +kernel)) rfl
abbrev mX4_isAlike : XD := (yX4_isAlike, cX4_isAlike, 1, (some .boolean))
theorem cdX4_isAlike : Cond.code mX4_isAlike.1 mX4_isAlike.2.1 mX4_isAlike.2.2.1 mX4_isAlike.2.2.2 ∈ lw_g := tw_424
theorem tw_428 : Cond.code yX6_run cX6_run 5 (some .int) ∈ lw_g := lg_in (List.mem_of_getElem? (i := 428) (by decide +kernel)) rfl
abbrev mX6_run : XD := (yX6_run, cX6_run, 5, (some .int))
theorem cdX6_run : Cond.code mX6_run.1 mX6_run.2.1 mX6_run.2.2.1 mX6_run.2.2.2 ∈ lw_g := tw_428
theorem tw_434 : Cond.code yX0_firstRowOfRun cX0_firstRowOfRun 4 (some .int) ∈ lw_g := lg_in (List.mem_of_getElem? (i := 434) (by decide +kernel)) rfl
abbrev mX0_firstRowOfRun : XD := (yX0_firstRowOfRun, cX0_firstRowOfRun, 4, (some .int))
theorem cdX0_firstRowOfRun : Cond.code mX0_firstRowOfRun.1 mX0_firstRowOfRun.2.1 mX0_firstRowOfRun.2.2.1 mX0_firstRowOfRun.2.2.2 ∈ lw_g := tw_434
theorem tw_438 : Cond.code yX6_value cX6_value 3 (some .int) ∈ lw_g := lg_in (List.mem_of_getElem? (i := 438) (by decide +kernel)) rfl
abbrev mX6_value : XD := (yX6_value, cX6_value, 3, (some .int))
theorem cdX6_value : Cond.code mX6_value.1 mX6_value.2.1 mX6_value.2.2.1 mX6_value.2.2.2 ∈ lw_g := tw_438
theorem tw_442 : Cond.code yX6_find cX6_find 4 (some .int) ∈ lw_g := lg_in (List.mem_of_getElem? (i := 442) (by decide +kernel)) rfl
abbrev mX6_find : XD := (yX6_find, cX6_find, 4, (some .int))
theorem cdX6_find : Cond.code mX6_find.1 mX6_find.2.1 mX6_find.2.2.1 mX6_find.2.2.2 ∈ lw_g := tw_442
theorem tw_446 : Cond.code yX0_rowOfRank cX0_rowOfRank 6 (some .int) ∈ lw_g := lg_in (List.mem_of_getElem? (i := 446) (by decide +kernel)) rfl
abbrev mX0_rowOfRank : XD := (yX0_rowOfRank, cX0_rowOfRank, 6, (some .int))
theorem cdX0_rowOfRank : Cond.code mX0_rowOfRank.1 mX0_rowOfRank.2.1 mX0_rowOfRank.2.2.1 mX0_rowOfRank.2.2.2 ∈ lw_g := tw_446
theorem tw_450 : Cond.code yX6_ofColumn cX6_ofColumn 4 (some .int) ∈ lw_g := lg_in (List.mem_of_getElem? (i := 450) (by decide +kernel)) rfl
abbrev mX6_ofColumn : XD := (yX6_ofColumn, cX6_ofColumn, 4, (some .int))
theorem cdX6_ofColumn : Cond.code mX6_ofColumn.1 mX6_ofColumn.2.1 mX6_ofColumn.2.2.1 mX6_ofColumn.2.2.2 ∈ lw_g := tw_450
theorem tw_454 : Cond.code yX0_sum cX0_sum 3 (some .int) ∈ lw_g := lg_in (List.mem_of_getElem? (i := 454) (by decide +kernel)) rfl
abbrev mX0_sum : XD := (yX0_sum, cX0_sum, 3, (some .int))
theorem cdX0_sum : Cond.code mX0_sum.1 mX0_sum.2.1 mX0_sum.2.2.1 mX0_sum.2.2.2 ∈ lw_g := tw_454
theorem tw_458 : Cond.code yX0_longest cX0_longest 3 (some .int) ∈ lw_g := lg_in (List.mem_of_getElem? (i := 458) (by decide +kernel)) rfl
abbrev mX0_longest : XD := (yX0_longest, cX0_longest, 3, (some .int))
theorem cdX0_longest : Cond.code mX0_longest.1 mX0_longest.2.1 mX0_longest.2.2.1 mX0_longest.2.2.2 ∈ lw_g := tw_458
theorem tw_462 : Cond.code yX0_valueSet cX0_valueSet 3 (some .int) ∈ lw_g := lg_in (List.mem_of_getElem? (i := 462) (by decide +kernel)) rfl
abbrev mX0_valueSet : XD := (yX0_valueSet, cX0_valueSet, 3, (some .int))
theorem cdX0_valueSet : Cond.code mX0_valueSet.1 mX0_valueSet.2.1 mX0_valueSet.2.2.1 mX0_valueSet.2.2.2 ∈ lw_g := tw_462
theorem tw_466 : Cond.code yX0_neverFalls cX0_neverFalls 2 (some .boolean) ∈ lw_g := lg_in (List.mem_of_getElem? (i := 466) (by decide +kernel)) rfl
abbrev mX0_neverFalls : XD := (yX0_neverFalls, cX0_neverFalls, 2, (some .boolean))
theorem cdX0_neverFalls : Cond.code mX0_neverFalls.1 mX0_neverFalls.2.1 mX0_neverFalls.2.2.1 mX0_neverFalls.2.2.2 ∈ lw_g := tw_466
theorem tw_470 : Cond.code yX0_neverRises cX0_neverRises 2 (some .boolean) ∈ lw_g := lg_in (List.mem_of_getElem? (i := 470) (by decide +kernel)) rfl
abbrev mX0_neverRises : XD := (yX0_neverRises, cX0_neverRises, 2, (some .boolean))
theorem cdX0_neverRises : Cond.code mX0_neverRises.1 mX0_neverRises.2.1 mX0_neverRises.2.2.1 mX0_neverRises.2.2.2 ∈ lw_g := tw_470
theorem tw_474 : Cond.code yX6_group cX6_group 5 (some .int) ∈ lw_g := lg_in (List.mem_of_getElem? (i := 474) (by decide +kernel)) rfl
abbrev mX6_group : XD := (yX6_group, cX6_group, 5, (some .int))
theorem cdX6_group : Cond.code mX6_group.1 mX6_group.2.1 mX6_group.2.2.1 mX6_group.2.2.2 ∈ lw_g := tw_474
theorem tw_478 : Cond.code yX0_runsOf cX0_runsOf 4 (some .int) ∈ lw_g := lg_in (List.mem_of_getElem? (i := 478) (by decide +kernel)) rfl
abbrev mX0_runsOf : XD := (yX0_runsOf, cX0_runsOf, 4, (some .int))
theorem cdX0_runsOf : Cond.code mX0_runsOf.1 mX0_runsOf.2.1 mX0_runsOf.2.2.1 mX0_runsOf.2.2.2 ∈ lw_g := tw_478
theorem tw_482 : Cond.code yX0_longestOf cX0_longestOf 4 (some .int) ∈ lw_g := lg_in (List.mem_of_getElem? (i := 482) (by decide +kernel)) rfl
abbrev mX0_longestOf : XD := (yX0_longestOf, cX0_longestOf, 4, (some .int))
theorem cdX0_longestOf : Cond.code mX0_longestOf.1 mX0_longestOf.2.1 mX0_longestOf.2.2.1 mX0_longestOf.2.2.2 ∈ lw_g := tw_482
theorem tw_486 : Cond.code yX6_count cX6_count 2 (some .int) ∈ lw_g := lg_in (List.mem_of_getElem? (i := 486) (by decide +kernel)) rfl
abbrev mX6_count : XD := (yX6_count, cX6_count, 2, (some .int))
theorem cdX6_count : Cond.code mX6_count.1 mX6_count.2.1 mX6_count.2.2.1 mX6_count.2.2.2 ∈ lw_g := tw_486
theorem tw_490 : Cond.code yX5_allRows cX5_allRows 3 (some .int) ∈ lw_g := lg_in (List.mem_of_getElem? (i := 490) (by decide +kernel)) rfl
abbrev mX5_allRows : XD := (yX5_allRows, cX5_allRows, 3, (some .int))
theorem cdX5_allRows : Cond.code mX5_allRows.1 mX5_allRows.2.1 mX5_allRows.2.2.1 mX5_allRows.2.2.2 ∈ lw_g := tw_490
theorem tw_495 : Cond.code yX5_allRuns cX5_allRuns 3 (some .int) ∈ lw_g := lg_in (List.mem_of_getElem? (i := 495) (by decide +kernel)) rfl
abbrev mX5_allRuns : XD := (yX5_allRuns, cX5_allRuns, 3, (some .int))
theorem cdX5_allRuns : Cond.code mX5_allRuns.1 mX5_allRuns.2.1 mX5_allRuns.2.2.1 mX5_allRuns.2.2.2 ∈ lw_g := tw_495
theorem tw_500 : Cond.code yX3_length cX3_length 1 (some .int) ∈ lw_g := lg_in (List.mem_of_getElem? (i := 500) (by decide +kernel)) rfl
abbrev mX3_length : XD := (yX3_length, cX3_length, 1, (some .int))
theorem cdX3_length : Cond.code mX3_length.1 mX3_length.2.1 mX3_length.2.2.1 mX3_length.2.2.2 ∈ lw_g := tw_500
theorem tw_504 : Cond.code yX1_kept cX1_kept 1 (some .int) ∈ lw_g := lg_in (List.mem_of_getElem? (i := 504) (by decide +kernel)) rfl
abbrev mX1_kept : XD := (yX1_kept, cX1_kept, 1, (some .int))
theorem cdX1_kept : Cond.code mX1_kept.1 mX1_kept.2.1 mX1_kept.2.2.1 mX1_kept.2.2.2 ∈ lw_g := tw_504
theorem tw_508 : Cond.code yX6_pair cX6_pair 7 (some .int) ∈ lw_g := lg_in (List.mem_of_getElem? (i := 508) (by decide +kernel)) rfl
abbrev mX6_pair : XD := (yX6_pair, cX6_pair, 7, (some .int))
theorem cdX6_pair : Cond.code mX6_pair.1 mX6_pair.2.1 mX6_pair.2.2.1 mX6_pair.2.2.2 ∈ lw_g := tw_508
theorem tw_512 : Cond.code yX4_firstRow cX4_firstRow 1 (some .int) ∈ lw_g := lg_in (List.mem_of_getElem? (i := 512) (by decide +kernel)) rfl
abbrev mX4_firstRow : XD := (yX4_firstRow, cX4_firstRow, 1, (some .int))
theorem cdX4_firstRow : Cond.code mX4_firstRow.1 mX4_firstRow.2.1 mX4_firstRow.2.2.1 mX4_firstRow.2.2.2 ∈ lw_g := tw_512
theorem tw_516 : Cond.code yX6_joined cX6_joined 4 (some .int) ∈ lw_g := lg_in (List.mem_of_getElem? (i := 516) (by decide +kernel)) rfl
abbrev mX6_joined : XD := (yX6_joined, cX6_joined, 4, (some .int))
theorem cdX6_joined : Cond.code mX6_joined.1 mX6_joined.2.1 mX6_joined.2.2.1 mX6_joined.2.2.2 ∈ lw_g := tw_516
theorem tw_519 : Cond.code yX6_runsOfPairs cX6_runsOfPairs 3 (some .int) ∈ lw_g := lg_in (List.mem_of_getElem? (i := 519) (by decide +kernel)) rfl
abbrev mX6_runsOfPairs : XD := (yX6_runsOfPairs, cX6_runsOfPairs, 3, (some .int))
theorem cdX6_runsOfPairs : Cond.code mX6_runsOfPairs.1 mX6_runsOfPairs.2.1 mX6_runsOfPairs.2.2.1 mX6_runsOfPairs.2.2.2 ∈ lw_g := tw_519
theorem tw_522 : Cond.code yX6_rowsAlike cX6_rowsAlike 3 (some .int) ∈ lw_g := lg_in (List.mem_of_getElem? (i := 522) (by decide +kernel)) rfl
abbrev mX6_rowsAlike : XD := (yX6_rowsAlike, cX6_rowsAlike, 3, (some .int))
theorem cdX6_rowsAlike : Cond.code mX6_rowsAlike.1 mX6_rowsAlike.2.1 mX6_rowsAlike.2.2.1 mX6_rowsAlike.2.2.2 ∈ lw_g := tw_522
theorem tw_525 : Cond.code yX6_sumOfProducts cX6_sumOfProducts 3 (some .int) ∈ lw_g := lg_in (List.mem_of_getElem? (i := 525) (by decide +kernel)) rfl
abbrev mX6_sumOfProducts : XD := (yX6_sumOfProducts, cX6_sumOfProducts, 3, (some .int))
theorem cdX6_sumOfProducts : Cond.code mX6_sumOfProducts.1 mX6_sumOfProducts.2.1 mX6_sumOfProducts.2.2.1 mX6_sumOfProducts.2.2.2 ∈ lw_g := tw_525
theorem tw_529 : Cond.code yX6_unlikePairs cX6_unlikePairs 4 (some .int) ∈ lw_g := lg_in (List.mem_of_getElem? (i := 529) (by decide +kernel)) rfl
abbrev mX6_unlikePairs : XD := (yX6_unlikePairs, cX6_unlikePairs, 4, (some .int))
theorem cdX6_unlikePairs : Cond.code mX6_unlikePairs.1 mX6_unlikePairs.2.1 mX6_unlikePairs.2.2.1 mX6_unlikePairs.2.2.2 ∈ lw_g := tw_529
theorem tw_532 : Cond.code yJ7_fill_53178 cJ7_fill_53178 4 none ∈ lw_g := lg_in (List.mem_of_getElem? (i := 532) (by decide +kernel)) rfl
abbrev mJ7_fill_53178 : XD := (yJ7_fill_53178, cJ7_fill_53178, 4, none)
theorem cdJ7_fill_53178 : Cond.code mJ7_fill_53178.1 mJ7_fill_53178.2.1 mJ7_fill_53178.2.2.1 mJ7_fill_53178.2.2.2 ∈ lw_g := tw_532
theorem tw_535 : Cond.code yJ6_bitCount_0f7a4 cJ6_bitCount_0f7a4 1 (some .int) ∈ lw_g := lg_in (List.mem_of_getElem? (i := 535) (by decide +kernel)) rfl
abbrev mJ6_bitCount_0f7a4 : XD := (yJ6_bitCount_0f7a4, cJ6_bitCount_0f7a4, 1, (some .int))
theorem cdJ6_bitCount_0f7a4 : Cond.code mJ6_bitCount_0f7a4.1 mJ6_bitCount_0f7a4.2.1 mJ6_bitCount_0f7a4.2.2.1 mJ6_bitCount_0f7a4.2.2.2 ∈ lw_g := tw_535
theorem tw_542 : Cond.code yX6_alike cX6_alike 5 (some .int) ∈ lw_g := lg_in (List.mem_of_getElem? (i := 542) (by decide +kernel)) rfl
abbrev mX6_alike : XD := (yX6_alike, cX6_alike, 5, (some .int))
theorem cdX6_alike : Cond.code mX6_alike.1 mX6_alike.2.1 mX6_alike.2.2.1 mX6_alike.2.2.2 ∈ lw_g := tw_542
theorem tw_546 : Cond.code yX6_saves cX6_saves 3 (some .int) ∈ lw_g := lg_in (List.mem_of_getElem? (i := 546) (by decide +kernel)) rfl
abbrev mX6_saves : XD := (yX6_saves, cX6_saves, 3, (some .int))
theorem cdX6_saves : Cond.code mX6_saves.1 mX6_saves.2.1 mX6_saves.2.2.1 mX6_saves.2.2.2 ∈ lw_g := tw_546
theorem tw_550 : Cond.code yX6_bestSet cX6_bestSet 6 (some .int) ∈ lw_g := lg_in (List.mem_of_getElem? (i := 550) (by decide +kernel)) rfl
abbrev mX6_bestSet : XD := (yX6_bestSet, cX6_bestSet, 6, (some .int))
theorem cdX6_bestSet : Cond.code mX6_bestSet.1 mX6_bestSet.2.1 mX6_bestSet.2.2.1 mX6_bestSet.2.2.2 ∈ lw_g := tw_550
theorem tw_554 : Cond.code yX0_bestRowToSet cX0_bestRowToSet 7 (some .int) ∈ lw_g := lg_in (List.mem_of_getElem? (i := 554) (by decide +kernel)) rfl
abbrev mX0_bestRowToSet : XD := (yX0_bestRowToSet, cX0_bestRowToSet, 7, (some .int))
theorem cdX0_bestRowToSet : Cond.code mX0_bestRowToSet.1 mX0_bestRowToSet.2.1 mX0_bestRowToSet.2.2.1 mX0_bestRowToSet.2.2.2 ∈ lw_g := tw_554
theorem tw_558 : Cond.code yX0_runsAfterSet cX0_runsAfterSet 8 (some .int) ∈ lw_g := lg_in (List.mem_of_getElem? (i := 558) (by decide +kernel)) rfl
abbrev mX0_runsAfterSet : XD := (yX0_runsAfterSet, cX0_runsAfterSet, 8, (some .int))
theorem cdX0_runsAfterSet : Cond.code mX0_runsAfterSet.1 mX0_runsAfterSet.2.1 mX0_runsAfterSet.2.2.1 mX0_runsAfterSet.2.2.2 ∈ lw_g := tw_558
theorem tw_565 : Cond.code yX6_put cX6_put 5 (some .int) ∈ lw_g := lg_in (List.mem_of_getElem? (i := 565) (by decide +kernel)) rfl
abbrev mX6_put : XD := (yX6_put, cX6_put, 5, (some .int))
theorem cdX6_put : Cond.code mX6_put.1 mX6_put.2.1 mX6_put.2.2.1 mX6_put.2.2.2 ∈ lw_g := tw_565
theorem tw_568 : Cond.code yX6_charactersIn cX6_charactersIn 8 (some .int) ∈ lw_g := lg_in (List.mem_of_getElem? (i := 568) (by decide +kernel)) rfl
abbrev mX6_charactersIn : XD := (yX6_charactersIn, cX6_charactersIn, 8, (some .int))
theorem cdX6_charactersIn : Cond.code mX6_charactersIn.1 mX6_charactersIn.2.1 mX6_charactersIn.2.2.1 mX6_charactersIn.2.2.2 ∈ lw_g := tw_568
theorem tw_575 : Cond.code yX3_add cX3_add 2 none ∈ lw_g := lg_in (List.mem_of_getElem? (i := 575) (by decide +kernel)) rfl
abbrev mX3_add : XD := (yX3_add, cX3_add, 2, none)
theorem cdX3_add : Cond.code mX3_add.1 mX3_add.2.1 mX3_add.2.2.1 mX3_add.2.2.2 ∈ lw_g := tw_575
theorem tw_579 : Cond.code yX6_wipe cX6_wipe 2 (some .int) ∈ lw_g := lg_in (List.mem_of_getElem? (i := 579) (by decide +kernel)) rfl
abbrev mX6_wipe : XD := (yX6_wipe, cX6_wipe, 2, (some .int))
theorem cdX6_wipe : Cond.code mX6_wipe.1 mX6_wipe.2.1 mX6_wipe.2.2.1 mX6_wipe.2.2.2 ∈ lw_g := tw_579
theorem tw_583 : Cond.code yX3_clear cX3_clear 1 none ∈ lw_g := lg_in (List.mem_of_getElem? (i := 583) (by decide +kernel)) rfl
abbrev mX3_clear : XD := (yX3_clear, cX3_clear, 1, none)
theorem cdX3_clear : Cond.code mX3_clear.1 mX3_clear.2.1 mX3_clear.2.2.1 mX3_clear.2.2.2 ∈ lw_g := tw_583
theorem tw_587 : Cond.code yX6_fault cX6_fault 1 (some .int) ∈ lw_g := lg_in (List.mem_of_getElem? (i := 587) (by decide +kernel)) rfl
abbrev mX6_fault : XD := (yX6_fault, cX6_fault, 1, (some .int))
theorem cdX6_fault : Cond.code mX6_fault.1 mX6_fault.2.1 mX6_fault.2.2.1 mX6_fault.2.2.2 ∈ lw_g := tw_587
theorem tw_591 : Cond.code yX2_firstFault cX2_firstFault 2 (some .int) ∈ lw_g := lg_in (List.mem_of_getElem? (i := 591) (by decide +kernel)) rfl
abbrev mX2_firstFault : XD := (yX2_firstFault, cX2_firstFault, 2, (some .int))
theorem cdX2_firstFault : Cond.code mX2_firstFault.1 mX2_firstFault.2.1 mX2_firstFault.2.2.1 mX2_firstFault.2.2.2 ∈ lw_g := tw_591
theorem tw_595 : Cond.code yX2_start cX2_start 1 none ∈ lw_g := lg_in (List.mem_of_getElem? (i := 595) (by decide +kernel)) rfl
abbrev mX2_start : XD := (yX2_start, cX2_start, 1, none)
theorem cdX2_start : Cond.code mX2_start.1 mX2_start.2.1 mX2_start.2.2.1 mX2_start.2.2.2 ∈ lw_g := tw_595
theorem tw_599 : Cond.code yX2_readOrder cX2_readOrder 1 (some .boolean) ∈ lw_g := lg_in (List.mem_of_getElem? (i := 599) (by decide +kernel)) rfl
abbrev mX2_readOrder : XD := (yX2_readOrder, cX2_readOrder, 1, (some .boolean))
theorem cdX2_readOrder : Cond.code mX2_readOrder.1 mX2_readOrder.2.1 mX2_readOrder.2.2.1 mX2_readOrder.2.2.2 ∈ lw_g := tw_599
theorem tw_603 : Cond.code yX2_readDigit cX2_readDigit 3 (some .boolean) ∈ lw_g := lg_in (List.mem_of_getElem? (i := 603) (by decide +kernel)) rfl
abbrev mX2_readDigit : XD := (yX2_readDigit, cX2_readDigit, 3, (some .boolean))
theorem cdX2_readDigit : Cond.code mX2_readDigit.1 mX2_readDigit.2.1 mX2_readDigit.2.2.1 mX2_readDigit.2.2.2 ∈ lw_g := tw_603
theorem tw_607 : Cond.code yX3_signAt cX3_signAt 2 (some .char) ∈ lw_g := lg_in (List.mem_of_getElem? (i := 607) (by decide +kernel)) rfl
abbrev mX3_signAt : XD := (yX3_signAt, cX3_signAt, 2, (some .char))
theorem cdX3_signAt : Cond.code mX3_signAt.1 mX3_signAt.2.1 mX3_signAt.2.2.1 mX3_signAt.2.2.2 ∈ lw_g := tw_607
theorem tw_611 : Cond.code yX2_passes cX2_passes 2 (some .boolean) ∈ lw_g := lg_in (List.mem_of_getElem? (i := 611) (by decide +kernel)) rfl
abbrev mX2_passes : XD := (yX2_passes, cX2_passes, 2, (some .boolean))
theorem cdX2_passes : Cond.code mX2_passes.1 mX2_passes.2.1 mX2_passes.2.2.1 mX2_passes.2.2.2 ∈ lw_g := tw_611
theorem tw_615 : Cond.code yX2_readRuns cX2_readRuns 2 (some .boolean) ∈ lw_g := lg_in (List.mem_of_getElem? (i := 615) (by decide +kernel)) rfl
abbrev mX2_readRuns : XD := (yX2_readRuns, cX2_readRuns, 2, (some .boolean))
theorem cdX2_readRuns : Cond.code mX2_readRuns.1 mX2_readRuns.2.1 mX2_readRuns.2.2.1 mX2_readRuns.2.2.2 ∈ lw_g := tw_615
theorem tw_619 : Cond.code yX2_readNumber cX2_readNumber 3 (some .boolean) ∈ lw_g := lg_in (List.mem_of_getElem? (i := 619) (by decide +kernel)) rfl
abbrev mX2_readNumber : XD := (yX2_readNumber, cX2_readNumber, 3, (some .boolean))
theorem cdX2_readNumber : Cond.code mX2_readNumber.1 mX2_readNumber.2.1 mX2_readNumber.2.2.1 mX2_readNumber.2.2.2 ∈ lw_g := tw_619
theorem tw_623 : Cond.code yX2_readRow cX2_readRow 1 (some .boolean) ∈ lw_g := lg_in (List.mem_of_getElem? (i := 623) (by decide +kernel)) rfl
abbrev mX2_readRow : XD := (yX2_readRow, cX2_readRow, 1, (some .boolean))
theorem cdX2_readRow : Cond.code mX2_readRow.1 mX2_readRow.2.1 mX2_readRow.2.2.1 mX2_readRow.2.2.2 ∈ lw_g := tw_623
theorem tw_627 : Cond.code yX2_keepOperand cX2_keepOperand 1 (some .boolean) ∈ lw_g := lg_in (List.mem_of_getElem? (i := 627) (by decide +kernel)) rfl
abbrev mX2_keepOperand : XD := (yX2_keepOperand, cX2_keepOperand, 1, (some .boolean))
theorem cdX2_keepOperand : Cond.code mX2_keepOperand.1 mX2_keepOperand.2.1 mX2_keepOperand.2.2.1 mX2_keepOperand.2.2.2 ∈ lw_g := tw_627
theorem tw_632 : Cond.code yX6_carryOut cX6_carryOut 2 (some .int) ∈ lw_g := lg_in (List.mem_of_getElem? (i := 632) (by decide +kernel)) rfl
abbrev mX6_carryOut : XD := (yX6_carryOut, cX6_carryOut, 2, (some .int))
theorem cdX6_carryOut : Cond.code mX6_carryOut.1 mX6_carryOut.2.1 mX6_carryOut.2.2.1 mX6_carryOut.2.2.2 ∈ lw_g := tw_632
theorem tw_636 : Cond.code yX6_obeyOrders cX6_obeyOrders 3 (some .int) ∈ lw_g := lg_in (List.mem_of_getElem? (i := 636) (by decide +kernel)) rfl
abbrev mX6_obeyOrders : XD := (yX6_obeyOrders, cX6_obeyOrders, 3, (some .int))
theorem cdX6_obeyOrders : Cond.code mX6_obeyOrders.1 mX6_obeyOrders.2.1 mX6_obeyOrders.2.2.1 mX6_obeyOrders.2.2.2 ∈ lw_g := tw_636
theorem tw_642 : Cond.code yX6_draftOrder cX6_draftOrder 3 (some .int) ∈ lw_g := lg_in (List.mem_of_getElem? (i := 642) (by decide +kernel)) rfl
abbrev mX6_draftOrder : XD := (yX6_draftOrder, cX6_draftOrder, 3, (some .int))
theorem cdX6_draftOrder : Cond.code mX6_draftOrder.1 mX6_draftOrder.2.1 mX6_draftOrder.2.2.1 mX6_draftOrder.2.2.2 ∈ lw_g := tw_642
theorem tw_646 : Cond.code yX2_column cX2_column 1 (some .int) ∈ lw_g := lg_in (List.mem_of_getElem? (i := 646) (by decide +kernel)) rfl
abbrev mX2_column : XD := (yX2_column, cX2_column, 1, (some .int))
theorem cdX2_column : Cond.code mX2_column.1 mX2_column.2.1 mX2_column.2.2.1 mX2_column.2.2.2 ∈ lw_g := tw_646
theorem tw_650 : Cond.code yX2_kind cX2_kind 1 (some .char) ∈ lw_g := lg_in (List.mem_of_getElem? (i := 650) (by decide +kernel)) rfl
abbrev mX2_kind : XD := (yX2_kind, cX2_kind, 1, (some .char))
theorem cdX2_kind : Cond.code mX2_kind.1 mX2_kind.2.1 mX2_kind.2.2.1 mX2_kind.2.2.2 ∈ lw_g := tw_650
theorem tw_654 : Cond.code yX2_row cX2_row 1 (some .int) ∈ lw_g := lg_in (List.mem_of_getElem? (i := 654) (by decide +kernel)) rfl
abbrev mX2_row : XD := (yX2_row, cX2_row, 1, (some .int))
theorem cdX2_row : Cond.code mX2_row.1 mX2_row.2.1 mX2_row.2.2.1 mX2_row.2.2.2 ∈ lw_g := tw_654
theorem tw_658 : Cond.code yX2_operand cX2_operand 1 (some .int) ∈ lw_g := lg_in (List.mem_of_getElem? (i := 658) (by decide +kernel)) rfl
abbrev mX2_operand : XD := (yX2_operand, cX2_operand, 1, (some .int))
theorem cdX2_operand : Cond.code mX2_operand.1 mX2_operand.2.1 mX2_operand.2.2.1 mX2_operand.2.2.2 ∈ lw_g := tw_658
theorem tw_662 : Cond.code yX6_draftRunsOfOrder cX6_draftRunsOfOrder 2 (some .int) ∈ lw_g := lg_in (List.mem_of_getElem? (i := 662) (by decide +kernel)) rfl
abbrev mX6_draftRunsOfOrder : XD := (yX6_draftRunsOfOrder, cX6_draftRunsOfOrder, 2, (some .int))
theorem cdX6_draftRunsOfOrder : Cond.code mX6_draftRunsOfOrder.1 mX6_draftRunsOfOrder.2.1 mX6_draftRunsOfOrder.2.2.1 mX6_draftRunsOfOrder.2.2.2 ∈ lw_g := tw_662
theorem tw_666 : Cond.code yX2_runs cX2_runs 1 (some .int) ∈ lw_g := lg_in (List.mem_of_getElem? (i := 666) (by decide +kernel)) rfl
abbrev mX2_runs : XD := (yX2_runs, cX2_runs, 1, (some .int))
theorem cdX2_runs : Cond.code mX2_runs.1 mX2_runs.2.1 mX2_runs.2.2.1 mX2_runs.2.2.2 ∈ lw_g := tw_666
theorem tw_670 : Cond.code yX2_lengthOfRun cX2_lengthOfRun 2 (some .int) ∈ lw_g := lg_in (List.mem_of_getElem? (i := 670) (by decide +kernel)) rfl
abbrev mX2_lengthOfRun : XD := (yX2_lengthOfRun, cX2_lengthOfRun, 2, (some .int))
theorem cdX2_lengthOfRun : Cond.code mX2_lengthOfRun.1 mX2_lengthOfRun.2.1 mX2_lengthOfRun.2.2.1 mX2_lengthOfRun.2.2.2 ∈ lw_g := tw_670
theorem tw_674 : Cond.code yX2_valueOfRun cX2_valueOfRun 2 (some .int) ∈ lw_g := lg_in (List.mem_of_getElem? (i := 674) (by decide +kernel)) rfl
abbrev mX2_valueOfRun : XD := (yX2_valueOfRun, cX2_valueOfRun, 2, (some .int))
theorem cdX2_valueOfRun : Cond.code mX2_valueOfRun.1 mX2_valueOfRun.2.1 mX2_valueOfRun.2.2.1 mX2_valueOfRun.2.2.2 ∈ lw_g := tw_674
theorem tw_679 : Cond.code yX6_undo cX6_undo 1 (some .int) ∈ lw_g := lg_in (List.mem_of_getElem? (i := 679) (by decide +kernel)) rfl
abbrev mX6_undo : XD := (yX6_undo, cX6_undo, 1, (some .int))
theorem cdX6_undo : Cond.code mX6_undo.1 mX6_undo.2.1 mX6_undo.2.2.1 mX6_undo.2.2.2 ∈ lw_g := tw_679
theorem tw_683 : Cond.code yX1_takeBack cX1_takeBack 2 none ∈ lw_g := lg_in (List.mem_of_getElem? (i := 683) (by decide +kernel)) rfl
abbrev mX1_takeBack : XD := (yX1_takeBack, cX1_takeBack, 2, none)
theorem cdX1_takeBack : Cond.code mX1_takeBack.1 mX1_takeBack.2.1 mX1_takeBack.2.2.1 mX1_takeBack.2.2.2 ∈ lw_g := tw_683
theorem tw_687 : Cond.code yX6_save cX6_save 2 (some .int) ∈ lw_g := lg_in (List.mem_of_getElem? (i := 687) (by decide +kernel)) rfl
abbrev mX6_save : XD := (yX6_save, cX6_save, 2, (some .int))
theorem cdX6_save : Cond.code mX6_save.1 mX6_save.2.1 mX6_save.2.2.1 mX6_save.2.2.2 ∈ lw_g := tw_687
theorem tw_690 : Cond.code yX6_isSlot cX6_isSlot 1 (some .boolean) ∈ lw_g := lg_in (List.mem_of_getElem? (i := 690) (by decide +kernel)) rfl
abbrev mX6_isSlot : XD := (yX6_isSlot, cX6_isSlot, 1, (some .boolean))
theorem cdX6_isSlot : Cond.code mX6_isSlot.1 mX6_isSlot.2.1 mX6_isSlot.2.2.1 mX6_isSlot.2.2.2 ∈ lw_g := tw_690
theorem tw_695 : Cond.code yX6_restore cX6_restore 2 (some .int) ∈ lw_g := lg_in (List.mem_of_getElem? (i := 695) (by decide +kernel)) rfl
abbrev mX6_restore : XD := (yX6_restore, cX6_restore, 2, (some .int))
theorem cdX6_restore : Cond.code mX6_restore.1 mX6_restore.2.1 mX6_restore.2.2.1 mX6_restore.2.2.2 ∈ lw_g := tw_695
theorem tw_700 : Cond.code yX7_init cX7_init 1 none ∈ lw_g := lg_in (List.mem_of_getElem? (i := 700) (by decide +kernel)) rfl
abbrev mX7_init : XD := (yX7_init, cX7_init, 1, none)
theorem cdX7_init : Cond.code mX7_init.1 mX7_init.2.1 mX7_init.2.2.1 mX7_init.2.2.2 ∈ lw_g := tw_700
theorem tw_766 : Cond.code yX7_append cX7_append 4 (some .int) ∈ lw_g := lg_in (List.mem_of_getElem? (i := 766) (by decide +kernel)) rfl
abbrev mX7_append : XD := (yX7_append, cX7_append, 4, (some .int))
theorem cdX7_append : Cond.code mX7_append.1 mX7_append.2.1 mX7_append.2.2.1 mX7_append.2.2.2 ∈ lw_g := tw_766
theorem tw_769 : Cond.code yX7_isColumn cX7_isColumn 1 (some .boolean) ∈ lw_g := lg_in (List.mem_of_getElem? (i := 769) (by decide +kernel)) rfl
abbrev mX7_isColumn : XD := (yX7_isColumn, cX7_isColumn, 1, (some .boolean))
theorem cdX7_isColumn : Cond.code mX7_isColumn.1 mX7_isColumn.2.1 mX7_isColumn.2.2.1 mX7_isColumn.2.2.2 ∈ lw_g := tw_769
theorem tw_772 : Cond.code yX7_within cX7_within 3 (some .boolean) ∈ lw_g := lg_in (List.mem_of_getElem? (i := 772) (by decide +kernel)) rfl
abbrev mX7_within : XD := (yX7_within, cX7_within, 3, (some .boolean))
theorem cdX7_within : Cond.code mX7_within.1 mX7_within.2.1 mX7_within.2.2.1 mX7_within.2.2.2 ∈ lw_g := tw_772
theorem tw_775 : Cond.code yX7_isValue cX7_isValue 1 (some .boolean) ∈ lw_g := lg_in (List.mem_of_getElem? (i := 775) (by decide +kernel)) rfl
abbrev mX7_isValue : XD := (yX7_isValue, cX7_isValue, 1, (some .boolean))
theorem cdX7_isValue : Cond.code mX7_isValue.1 mX7_isValue.2.1 mX7_isValue.2.2.1 mX7_isValue.2.2.2 ∈ lw_g := tw_775
theorem tw_779 : Cond.code yX7_layOut cX7_layOut 4 none ∈ lw_g := lg_in (List.mem_of_getElem? (i := 779) (by decide +kernel)) rfl
abbrev mX7_layOut : XD := (yX7_layOut, cX7_layOut, 4, none)
theorem cdX7_layOut : Cond.code mX7_layOut.1 mX7_layOut.2.1 mX7_layOut.2.2.1 mX7_layOut.2.2.2 ∈ lw_g := tw_779
theorem tw_783 : Cond.code yX7_runsOf cX7_runsOf 2 (some .int) ∈ lw_g := lg_in (List.mem_of_getElem? (i := 783) (by decide +kernel)) rfl
abbrev mX7_runsOf : XD := (yX7_runsOf, cX7_runsOf, 2, (some .int))
theorem cdX7_runsOf : Cond.code mX7_runsOf.1 mX7_runsOf.2.1 mX7_runsOf.2.2.1 mX7_runsOf.2.2.2 ∈ lw_g := tw_783
theorem tw_787 : Cond.code yX7_lengthOf cX7_lengthOf 3 (some .int) ∈ lw_g := lg_in (List.mem_of_getElem? (i := 787) (by decide +kernel)) rfl
abbrev mX7_lengthOf : XD := (yX7_lengthOf, cX7_lengthOf, 3, (some .int))
theorem cdX7_lengthOf : Cond.code mX7_lengthOf.1 mX7_lengthOf.2.1 mX7_lengthOf.2.2.1 mX7_lengthOf.2.2.2 ∈ lw_g := tw_787
theorem tw_791 : Cond.code yX7_valueOf cX7_valueOf 3 (some .int) ∈ lw_g := lg_in (List.mem_of_getElem? (i := 791) (by decide +kernel)) rfl
abbrev mX7_valueOf : XD := (yX7_valueOf, cX7_valueOf, 3, (some .int))
theorem cdX7_valueOf : Cond.code mX7_valueOf.1 mX7_valueOf.2.1 mX7_valueOf.2.2.1 mX7_valueOf.2.2.2 ∈ lw_g := tw_791
theorem tw_795 : Cond.code yX7_putIn cX7_putIn 5 none ∈ lw_g := lg_in (List.mem_of_getElem? (i := 795) (by decide +kernel)) rfl
abbrev mX7_putIn : XD := (yX7_putIn, cX7_putIn, 5, none)
theorem cdX7_putIn : Cond.code mX7_putIn.1 mX7_putIn.2.1 mX7_putIn.2.2.1 mX7_putIn.2.2.2 ∈ lw_g := tw_795
theorem tw_799 : Cond.code yX7_isTooMany cX7_isTooMany 1 (some .boolean) ∈ lw_g := lg_in (List.mem_of_getElem? (i := 799) (by decide +kernel)) rfl
abbrev mX7_isTooMany : XD := (yX7_isTooMany, cX7_isTooMany, 1, (some .boolean))
theorem cdX7_isTooMany : Cond.code mX7_isTooMany.1 mX7_isTooMany.2.1 mX7_isTooMany.2.2.1 mX7_isTooMany.2.2.2 ∈ lw_g := tw_799
theorem tw_803 : Cond.code yX7_runsLaid cX7_runsLaid 3 (some .int) ∈ lw_g := lg_in (List.mem_of_getElem? (i := 803) (by decide +kernel)) rfl
abbrev mX7_runsLaid : XD := (yX7_runsLaid, cX7_runsLaid, 3, (some .int))
theorem cdX7_runsLaid : Cond.code mX7_runsLaid.1 mX7_runsLaid.2.1 mX7_runsLaid.2.2.1 mX7_runsLaid.2.2.2 ∈ lw_g := tw_803
theorem tw_807 : Cond.code yX7_record cX7_record 2 none ∈ lw_g := lg_in (List.mem_of_getElem? (i := 807) (by decide +kernel)) rfl
abbrev mX7_record : XD := (yX7_record, cX7_record, 2, none)
theorem cdX7_record : Cond.code mX7_record.1 mX7_record.2.1 mX7_record.2.2.1 mX7_record.2.2.2 ∈ lw_g := tw_807
theorem tw_810 : Cond.code yX7_moves cX7_moves 5 none ∈ lw_g := lg_in (List.mem_of_getElem? (i := 810) (by decide +kernel)) rfl
abbrev mX7_moves : XD := (yX7_moves, cX7_moves, 5, none)
theorem cdX7_moves : Cond.code mX7_moves.1 mX7_moves.2.1 mX7_moves.2.2.1 mX7_moves.2.2.2 ∈ lw_g := tw_810
theorem tw_814 : Cond.code yX7_gets cX7_gets 4 none ∈ lw_g := lg_in (List.mem_of_getElem? (i := 814) (by decide +kernel)) rfl
abbrev mX7_gets : XD := (yX7_gets, cX7_gets, 4, none)
theorem cdX7_gets : Cond.code mX7_gets.1 mX7_gets.2.1 mX7_gets.2.2.1 mX7_gets.2.2.2 ∈ lw_g := tw_814
theorem tw_818 : Cond.code yX7_insert cX7_insert 5 (some .int) ∈ lw_g := lg_in (List.mem_of_getElem? (i := 818) (by decide +kernel)) rfl
abbrev mX7_insert : XD := (yX7_insert, cX7_insert, 5, (some .int))
theorem cdX7_insert : Cond.code mX7_insert.1 mX7_insert.2.1 mX7_insert.2.2.1 mX7_insert.2.2.2 ∈ lw_g := tw_818
theorem tw_822 : Cond.code yX7_rowsOf cX7_rowsOf 4 (some .int) ∈ lw_g := lg_in (List.mem_of_getElem? (i := 822) (by decide +kernel)) rfl
abbrev mX7_rowsOf : XD := (yX7_rowsOf, cX7_rowsOf, 4, (some .int))
theorem cdX7_rowsOf : Cond.code mX7_rowsOf.1 mX7_rowsOf.2.1 mX7_rowsOf.2.2.1 mX7_rowsOf.2.2.2 ∈ lw_g := tw_822
theorem tw_826 : Cond.code yX7_remove cX7_remove 5 (some .int) ∈ lw_g := lg_in (List.mem_of_getElem? (i := 826) (by decide +kernel)) rfl
abbrev mX7_remove : XD := (yX7_remove, cX7_remove, 5, (some .int))
theorem cdX7_remove : Cond.code mX7_remove.1 mX7_remove.2.1 mX7_remove.2.2.1 mX7_remove.2.2.2 ∈ lw_g := tw_826
theorem tw_830 : Cond.code yX7_whyNotRemoved cX7_whyNotRemoved 4 (some .int) ∈ lw_g := lg_in (List.mem_of_getElem? (i := 830) (by decide +kernel)) rfl
abbrev mX7_whyNotRemoved : XD := (yX7_whyNotRemoved, cX7_whyNotRemoved, 4, (some .int))
theorem cdX7_whyNotRemoved : Cond.code mX7_whyNotRemoved.1 mX7_whyNotRemoved.2.1 mX7_whyNotRemoved.2.2.1 mX7_whyNotRemoved.2.2.2 ∈ lw_g := tw_830
theorem tw_834 : Cond.code yX7_isRow cX7_isRow 3 (some .boolean) ∈ lw_g := lg_in (List.mem_of_getElem? (i := 834) (by decide +kernel)) rfl
abbrev mX7_isRow : XD := (yX7_isRow, cX7_isRow, 3, (some .boolean))
theorem cdX7_isRow : Cond.code mX7_isRow.1 mX7_isRow.2.1 mX7_isRow.2.2.1 mX7_isRow.2.2.2 ∈ lw_g := tw_834
theorem tw_838 : Cond.code yX7_removes cX7_removes 5 (some .int) ∈ lw_g := lg_in (List.mem_of_getElem? (i := 838) (by decide +kernel)) rfl
abbrev mX7_removes : XD := (yX7_removes, cX7_removes, 5, (some .int))
theorem cdX7_removes : Cond.code mX7_removes.1 mX7_removes.2.1 mX7_removes.2.2.1 mX7_removes.2.2.2 ∈ lw_g := tw_838
theorem tw_842 : Cond.code yX7_set cX7_set 6 (some .int) ∈ lw_g := lg_in (List.mem_of_getElem? (i := 842) (by decide +kernel)) rfl
abbrev mX7_set : XD := (yX7_set, cX7_set, 6, (some .int))
theorem cdX7_set : Cond.code mX7_set.1 mX7_set.2.1 mX7_set.2.2.1 mX7_set.2.2.2 ∈ lw_g := tw_842
theorem tw_846 : Cond.code yX7_whyNotSet cX7_whyNotSet 4 (some .int) ∈ lw_g := lg_in (List.mem_of_getElem? (i := 846) (by decide +kernel)) rfl
abbrev mX7_whyNotSet : XD := (yX7_whyNotSet, cX7_whyNotSet, 4, (some .int))
theorem cdX7_whyNotSet : Cond.code mX7_whyNotSet.1 mX7_whyNotSet.2.1 mX7_whyNotSet.2.2.1 mX7_whyNotSet.2.2.2 ∈ lw_g := tw_846
theorem tw_850 : Cond.code yX7_valueAt cX7_valueAt 5 (some .int) ∈ lw_g := lg_in (List.mem_of_getElem? (i := 850) (by decide +kernel)) rfl
abbrev mX7_valueAt : XD := (yX7_valueAt, cX7_valueAt, 5, (some .int))
theorem cdX7_valueAt : Cond.code mX7_valueAt.1 mX7_valueAt.2.1 mX7_valueAt.2.2.1 mX7_valueAt.2.2.2 ∈ lw_g := tw_850
theorem tw_854 : Cond.code yX7_sort cX7_sort 2 (some .int) ∈ lw_g := lg_in (List.mem_of_getElem? (i := 854) (by decide +kernel)) rfl
abbrev mX7_sort : XD := (yX7_sort, cX7_sort, 2, (some .int))
theorem cdX7_sort : Cond.code mX7_sort.1 mX7_sort.2.1 mX7_sort.2.2.1 mX7_sort.2.2.2 ∈ lw_g := tw_854
theorem tw_858 : Cond.code yX7_sorts cX7_sorts 4 (some .int) ∈ lw_g := lg_in (List.mem_of_getElem? (i := 858) (by decide +kernel)) rfl
abbrev mX7_sorts : XD := (yX7_sorts, cX7_sorts, 4, (some .int))
theorem cdX7_sorts : Cond.code mX7_sorts.1 mX7_sorts.2.1 mX7_sorts.2.2.1 mX7_sorts.2.2.2 ∈ lw_g := tw_858
theorem tw_862 : Cond.code yX7_layOutOther cX7_layOutOther 4 none ∈ lw_g := lg_in (List.mem_of_getElem? (i := 862) (by decide +kernel)) rfl
abbrev mX7_layOutOther : XD := (yX7_layOutOther, cX7_layOutOther, 4, none)
theorem cdX7_layOutOther : Cond.code mX7_layOutOther.1 mX7_layOutOther.2.1 mX7_layOutOther.2.2.1 mX7_layOutOther.2.2.2 ∈ lw_g := tw_862
theorem tw_866 : Cond.code yX7_turn cX7_turn 4 (some .int) ∈ lw_g := lg_in (List.mem_of_getElem? (i := 866) (by decide +kernel)) rfl
abbrev mX7_turn : XD := (yX7_turn, cX7_turn, 4, (some .int))
theorem cdX7_turn : Cond.code mX7_turn.1 mX7_turn.2.1 mX7_turn.2.2.1 mX7_turn.2.2.2 ∈ lw_g := tw_866
theorem tw_870 : Cond.code yX7_merge cX7_merge 9 (some .int) ∈ lw_g := lg_in (List.mem_of_getElem? (i := 870) (by decide +kernel)) rfl
abbrev mX7_merge : XD := (yX7_merge, cX7_merge, 9, (some .int))
theorem cdX7_merge : Cond.code mX7_merge.1 mX7_merge.2.1 mX7_merge.2.2.1 mX7_merge.2.2.2 ∈ lw_g := tw_870
theorem tw_874 : Cond.code yX7_layOutBoth cX7_layOutBoth 3 (some .int) ∈ lw_g := lg_in (List.mem_of_getElem? (i := 874) (by decide +kernel)) rfl
abbrev mX7_layOutBoth : XD := (yX7_layOutBoth, cX7_layOutBoth, 3, (some .int))
theorem cdX7_layOutBoth : Cond.code mX7_layOutBoth.1 mX7_layOutBoth.2.1 mX7_layOutBoth.2.2.1 mX7_layOutBoth.2.2.2 ∈ lw_g := tw_874
theorem tw_878 : Cond.code yX7_run cX7_run 4 (some .int) ∈ lw_g := lg_in (List.mem_of_getElem? (i := 878) (by decide +kernel)) rfl
abbrev mX7_run : XD := (yX7_run, cX7_run, 4, (some .int))
theorem cdX7_run : Cond.code mX7_run.1 mX7_run.2.1 mX7_run.2.2.1 mX7_run.2.2.2 ∈ lw_g := tw_878
theorem tw_882 : Cond.code yX7_firstRow cX7_firstRow 5 (some .int) ∈ lw_g := lg_in (List.mem_of_getElem? (i := 882) (by decide +kernel)) rfl
abbrev mX7_firstRow : XD := (yX7_firstRow, cX7_firstRow, 5, (some .int))
theorem cdX7_firstRow : Cond.code mX7_firstRow.1 mX7_firstRow.2.1 mX7_firstRow.2.2.1 mX7_firstRow.2.2.2 ∈ lw_g := tw_882
theorem tw_886 : Cond.code yX7_value cX7_value 3 (some .int) ∈ lw_g := lg_in (List.mem_of_getElem? (i := 886) (by decide +kernel)) rfl
abbrev mX7_value : XD := (yX7_value, cX7_value, 3, (some .int))
theorem cdX7_value : Cond.code mX7_value.1 mX7_value.2.1 mX7_value.2.2.1 mX7_value.2.2.2 ∈ lw_g := tw_886
theorem tw_890 : Cond.code yX7_find cX7_find 6 (some .int) ∈ lw_g := lg_in (List.mem_of_getElem? (i := 890) (by decide +kernel)) rfl
abbrev mX7_find : XD := (yX7_find, cX7_find, 6, (some .int))
theorem cdX7_find : Cond.code mX7_find.1 mX7_find.2.1 mX7_find.2.2.1 mX7_find.2.2.2 ∈ lw_g := tw_890
theorem tw_894 : Cond.code yX7_ofColumn cX7_ofColumn 3 (some .int) ∈ lw_g := lg_in (List.mem_of_getElem? (i := 894) (by decide +kernel)) rfl
abbrev mX7_ofColumn : XD := (yX7_ofColumn, cX7_ofColumn, 3, (some .int))
theorem cdX7_ofColumn : Cond.code mX7_ofColumn.1 mX7_ofColumn.2.1 mX7_ofColumn.2.2.1 mX7_ofColumn.2.2.2 ∈ lw_g := tw_894
theorem tw_898 : Cond.code yX7_sumOf cX7_sumOf 4 (some .int) ∈ lw_g := lg_in (List.mem_of_getElem? (i := 898) (by decide +kernel)) rfl
abbrev mX7_sumOf : XD := (yX7_sumOf, cX7_sumOf, 4, (some .int))
theorem cdX7_sumOf : Cond.code mX7_sumOf.1 mX7_sumOf.2.1 mX7_sumOf.2.2.1 mX7_sumOf.2.2.2 ∈ lw_g := tw_898
theorem tw_902 : Cond.code yX7_longest cX7_longest 6 (some .int) ∈ lw_g := lg_in (List.mem_of_getElem? (i := 902) (by decide +kernel)) rfl
abbrev mX7_longest : XD := (yX7_longest, cX7_longest, 6, (some .int))
theorem cdX7_longest : Cond.code mX7_longest.1 mX7_longest.2.1 mX7_longest.2.2.1 mX7_longest.2.2.2 ∈ lw_g := tw_902
theorem tw_906 : Cond.code yX7_valuesOf cX7_valuesOf 4 (some .int) ∈ lw_g := lg_in (List.mem_of_getElem? (i := 906) (by decide +kernel)) rfl
abbrev mX7_valuesOf : XD := (yX7_valuesOf, cX7_valuesOf, 4, (some .int))
theorem cdX7_valuesOf : Cond.code mX7_valuesOf.1 mX7_valuesOf.2.1 mX7_valuesOf.2.2.1 mX7_valuesOf.2.2.2 ∈ lw_g := tw_906
theorem tw_910 : Cond.code yX7_isInOrder cX7_isInOrder 5 (some .boolean) ∈ lw_g := lg_in (List.mem_of_getElem? (i := 910) (by decide +kernel)) rfl
abbrev mX7_isInOrder : XD := (yX7_isInOrder, cX7_isInOrder, 5, (some .boolean))
theorem cdX7_isInOrder : Cond.code mX7_isInOrder.1 mX7_isInOrder.2.1 mX7_isInOrder.2.2.1 mX7_isInOrder.2.2.2 ∈ lw_g := tw_910
theorem tw_914 : Cond.code yX7_group cX7_group 4 (some .int) ∈ lw_g := lg_in (List.mem_of_getElem? (i := 914) (by decide +kernel)) rfl
abbrev mX7_group : XD := (yX7_group, cX7_group, 4, (some .int))
theorem cdX7_group : Cond.code mX7_group.1 mX7_group.2.1 mX7_group.2.2.1 mX7_group.2.2.2 ∈ lw_g := tw_914
theorem tw_918 : Cond.code yX7_ofValue cX7_ofValue 7 (some .int) ∈ lw_g := lg_in (List.mem_of_getElem? (i := 918) (by decide +kernel)) rfl
abbrev mX7_ofValue : XD := (yX7_ofValue, cX7_ofValue, 7, (some .int))
theorem cdX7_ofValue : Cond.code mX7_ofValue.1 mX7_ofValue.2.1 mX7_ofValue.2.2.1 mX7_ofValue.2.2.2 ∈ lw_g := tw_918
theorem tw_922 : Cond.code yX7_count cX7_count 2 (some .int) ∈ lw_g := lg_in (List.mem_of_getElem? (i := 922) (by decide +kernel)) rfl
abbrev mX7_count : XD := (yX7_count, cX7_count, 2, (some .int))
theorem cdX7_count : Cond.code mX7_count.1 mX7_count.2.1 mX7_count.2.2.1 mX7_count.2.2.2 ∈ lw_g := tw_922
theorem tw_926 : Cond.code yX7_allRows cX7_allRows 3 (some .int) ∈ lw_g := lg_in (List.mem_of_getElem? (i := 926) (by decide +kernel)) rfl
abbrev mX7_allRows : XD := (yX7_allRows, cX7_allRows, 3, (some .int))
theorem cdX7_allRows : Cond.code mX7_allRows.1 mX7_allRows.2.1 mX7_allRows.2.2.1 mX7_allRows.2.2.2 ∈ lw_g := tw_926
theorem tw_930 : Cond.code yX7_allRuns cX7_allRuns 3 (some .int) ∈ lw_g := lg_in (List.mem_of_getElem? (i := 930) (by decide +kernel)) rfl
abbrev mX7_allRuns : XD := (yX7_allRuns, cX7_allRuns, 3, (some .int))
theorem cdX7_allRuns : Cond.code mX7_allRuns.1 mX7_allRuns.2.1 mX7_allRuns.2.2.1 mX7_allRuns.2.2.2 ∈ lw_g := tw_930
theorem tw_934 : Cond.code yX7_pair cX7_pair 11 (some .int) ∈ lw_g := lg_in (List.mem_of_getElem? (i := 934) (by decide +kernel)) rfl
abbrev mX7_pair : XD := (yX7_pair, cX7_pair, 11, (some .int))
theorem cdX7_pair : Cond.code mX7_pair.1 mX7_pair.2.1 mX7_pair.2.2.1 mX7_pair.2.2.2 ∈ lw_g := tw_934
theorem tw_938 : Cond.code yX7_isFirstPair cX7_isFirstPair 2 (some .boolean) ∈ lw_g := lg_in (List.mem_of_getElem? (i := 938) (by decide +kernel)) rfl
abbrev mX7_isFirstPair : XD := (yX7_isFirstPair, cX7_isFirstPair, 2, (some .boolean))
theorem cdX7_isFirstPair : Cond.code mX7_isFirstPair.1 mX7_isFirstPair.2.1 mX7_isFirstPair.2.2.1 mX7_isFirstPair.2.2.2 ∈ lw_g := tw_938
theorem tw_942 : Cond.code yX7_joined cX7_joined 4 (some .int) ∈ lw_g := lg_in (List.mem_of_getElem? (i := 942) (by decide +kernel)) rfl
abbrev mX7_joined : XD := (yX7_joined, cX7_joined, 4, (some .int))
theorem cdX7_joined : Cond.code mX7_joined.1 mX7_joined.2.1 mX7_joined.2.2.1 mX7_joined.2.2.2 ∈ lw_g := tw_942
theorem tw_946 : Cond.code yX7_ofPairs cX7_ofPairs 9 (some .int) ∈ lw_g := lg_in (List.mem_of_getElem? (i := 946) (by decide +kernel)) rfl
abbrev mX7_ofPairs : XD := (yX7_ofPairs, cX7_ofPairs, 9, (some .int))
theorem cdX7_ofPairs : Cond.code mX7_ofPairs.1 mX7_ofPairs.2.1 mX7_ofPairs.2.2.1 mX7_ofPairs.2.2.2 ∈ lw_g := tw_946
theorem tw_950 : Cond.code yX7_alike cX7_alike 5 (some .int) ∈ lw_g := lg_in (List.mem_of_getElem? (i := 950) (by decide +kernel)) rfl
abbrev mX7_alike : XD := (yX7_alike, cX7_alike, 5, (some .int))
theorem cdX7_alike : Cond.code mX7_alike.1 mX7_alike.2.1 mX7_alike.2.2.1 mX7_alike.2.2.2 ∈ lw_g := tw_950
theorem tw_954 : Cond.code yX7_saves cX7_saves 2 (some .int) ∈ lw_g := lg_in (List.mem_of_getElem? (i := 954) (by decide +kernel)) rfl
abbrev mX7_saves : XD := (yX7_saves, cX7_saves, 2, (some .int))
theorem cdX7_saves : Cond.code mX7_saves.1 mX7_saves.2.1 mX7_saves.2.2.1 mX7_saves.2.2.2 ∈ lw_g := tw_954
theorem tw_957 : Cond.code yX7_bits cX7_bits 3 (some .int) ∈ lw_g := lg_in (List.mem_of_getElem? (i := 957) (by decide +kernel)) rfl
abbrev mX7_bits : XD := (yX7_bits, cX7_bits, 3, (some .int))
theorem cdX7_bits : Cond.code mX7_bits.1 mX7_bits.2.1 mX7_bits.2.2.1 mX7_bits.2.2.2 ∈ lw_g := tw_957
theorem tw_961 : Cond.code yX7_bestSet cX7_bestSet 10 (some .int) ∈ lw_g := lg_in (List.mem_of_getElem? (i := 961) (by decide +kernel)) rfl
abbrev mX7_bestSet : XD := (yX7_bestSet, cX7_bestSet, 10, (some .int))
theorem cdX7_bestSet : Cond.code mX7_bestSet.1 mX7_bestSet.2.1 mX7_bestSet.2.2.1 mX7_bestSet.2.2.2 ∈ lw_g := tw_961
theorem tw_965 : Cond.code yX7_beginnings cX7_beginnings 3 (some .int) ∈ lw_g := lg_in (List.mem_of_getElem? (i := 965) (by decide +kernel)) rfl
abbrev mX7_beginnings : XD := (yX7_beginnings, cX7_beginnings, 3, (some .int))
theorem cdX7_beginnings : Cond.code mX7_beginnings.1 mX7_beginnings.2.1 mX7_beginnings.2.2.1 mX7_beginnings.2.2.2 ∈ lw_g := tw_965
theorem tw_969 : Cond.code yX7_put cX7_put 8 (some .int) ∈ lw_g := lg_in (List.mem_of_getElem? (i := 969) (by decide +kernel)) rfl
abbrev mX7_put : XD := (yX7_put, cX7_put, 8, (some .int))
theorem cdX7_put : Cond.code mX7_put.1 mX7_put.2.1 mX7_put.2.2.1 mX7_put.2.2.2 ∈ lw_g := tw_969
theorem tw_974 : Cond.code yX7_wipe cX7_wipe 2 (some .int) ∈ lw_g := lg_in (List.mem_of_getElem? (i := 974) (by decide +kernel)) rfl
abbrev mX7_wipe : XD := (yX7_wipe, cX7_wipe, 2, (some .int))
theorem cdX7_wipe : Cond.code mX7_wipe.1 mX7_wipe.2.1 mX7_wipe.2.2.1 mX7_wipe.2.2.2 ∈ lw_g := tw_974
theorem tw_978 : Cond.code yX7_fault cX7_fault 1 (some .int) ∈ lw_g := lg_in (List.mem_of_getElem? (i := 978) (by decide +kernel)) rfl
abbrev mX7_fault : XD := (yX7_fault, cX7_fault, 1, (some .int))
theorem cdX7_fault : Cond.code mX7_fault.1 mX7_fault.2.1 mX7_fault.2.2.1 mX7_fault.2.2.2 ∈ lw_g := tw_978
theorem tw_982 : Cond.code yX7_findFault cX7_findFault 1 (some .int) ∈ lw_g := lg_in (List.mem_of_getElem? (i := 982) (by decide +kernel)) rfl
abbrev mX7_findFault : XD := (yX7_findFault, cX7_findFault, 1, (some .int))
theorem cdX7_findFault : Cond.code mX7_findFault.1 mX7_findFault.2.1 mX7_findFault.2.2.1 mX7_findFault.2.2.2 ∈ lw_g := tw_982
theorem tw_986 : Cond.code yX7_readsOrder cX7_readsOrder 1 (some .boolean) ∈ lw_g := lg_in (List.mem_of_getElem? (i := 986) (by decide +kernel)) rfl
abbrev mX7_readsOrder : XD := (yX7_readsOrder, cX7_readsOrder, 1, (some .boolean))
theorem cdX7_readsOrder : Cond.code mX7_readsOrder.1 mX7_readsOrder.2.1 mX7_readsOrder.2.2.1 mX7_readsOrder.2.2.2 ∈ lw_g := tw_986
theorem tw_990 : Cond.code yX7_takeDigit cX7_takeDigit 3 (some .int) ∈ lw_g := lg_in (List.mem_of_getElem? (i := 990) (by decide +kernel)) rfl
abbrev mX7_takeDigit : XD := (yX7_takeDigit, cX7_takeDigit, 3, (some .int))
theorem cdX7_takeDigit : Cond.code mX7_takeDigit.1 mX7_takeDigit.2.1 mX7_takeDigit.2.2.1 mX7_takeDigit.2.2.2 ∈ lw_g := tw_990
theorem tw_994 : Cond.code yX7_character cX7_character 2 (some .int) ∈ lw_g := lg_in (List.mem_of_getElem? (i := 994) (by decide +kernel)) rfl
abbrev mX7_character : XD := (yX7_character, cX7_character, 2, (some .int))
theorem cdX7_character : Cond.code mX7_character.1 mX7_character.2.1 mX7_character.2.2.1 mX7_character.2.2.2 ∈ lw_g := tw_994
theorem tw_998 : Cond.code yX7_readsRest cX7_readsRest 1 (some .boolean) ∈ lw_g := lg_in (List.mem_of_getElem? (i := 998) (by decide +kernel)) rfl
abbrev mX7_readsRest : XD := (yX7_readsRest, cX7_readsRest, 1, (some .boolean))
theorem cdX7_readsRest : Cond.code mX7_readsRest.1 mX7_readsRest.2.1 mX7_readsRest.2.2.1 mX7_readsRest.2.2.2 ∈ lw_g := tw_998
theorem tw_1002 : Cond.code yX7_readsRuns cX7_readsRuns 4 (some .boolean) ∈ lw_g := lg_in (List.mem_of_getElem? (i := 1002) (by decide +kernel)) rfl
abbrev mX7_readsRuns : XD := (yX7_readsRuns, cX7_readsRuns, 4, (some .boolean))
theorem cdX7_readsRuns : Cond.code mX7_readsRuns.1 mX7_readsRuns.2.1 mX7_readsRuns.2.2.1 mX7_readsRuns.2.2.2 ∈ lw_g := tw_1002
theorem tw_1006 : Cond.code yX7_isNext cX7_isNext 3 (some .boolean) ∈ lw_g := lg_in (List.mem_of_getElem? (i := 1006) (by decide +kernel)) rfl
abbrev mX7_isNext : XD := (yX7_isNext, cX7_isNext, 3, (some .boolean))
theorem cdX7_isNext : Cond.code mX7_isNext.1 mX7_isNext.2.1 mX7_isNext.2.2.1 mX7_isNext.2.2.2 ∈ lw_g := tw_1006
theorem tw_1010 : Cond.code yX7_takeNumber cX7_takeNumber 2 (some .int) ∈ lw_g := lg_in (List.mem_of_getElem? (i := 1010) (by decide +kernel)) rfl
abbrev mX7_takeNumber : XD := (yX7_takeNumber, cX7_takeNumber, 2, (some .int))
theorem cdX7_takeNumber : Cond.code mX7_takeNumber.1 mX7_takeNumber.2.1 mX7_takeNumber.2.2.1 mX7_takeNumber.2.2.2 ∈ lw_g := tw_1010
theorem tw_1014 : Cond.code yX7_carryOut cX7_carryOut 3 (some .int) ∈ lw_g := lg_in (List.mem_of_getElem? (i := 1014) (by decide +kernel)) rfl
abbrev mX7_carryOut : XD := (yX7_carryOut, cX7_carryOut, 3, (some .int))
theorem cdX7_carryOut : Cond.code mX7_carryOut.1 mX7_carryOut.2.1 mX7_carryOut.2.2.1 mX7_carryOut.2.2.2 ∈ lw_g := tw_1014
theorem tw_1018 : Cond.code yX7_doesOrder cX7_doesOrder 1 (some .boolean) ∈ lw_g := lg_in (List.mem_of_getElem? (i := 1018) (by decide +kernel)) rfl
abbrev mX7_doesOrder : XD := (yX7_doesOrder, cX7_doesOrder, 1, (some .boolean))
theorem cdX7_doesOrder : Cond.code mX7_doesOrder.1 mX7_doesOrder.2.1 mX7_doesOrder.2.2.1 mX7_doesOrder.2.2.2 ∈ lw_g := tw_1018
theorem tw_1022 : Cond.code yX7_layOutTold cX7_layOutTold 4 (some .int) ∈ lw_g := lg_in (List.mem_of_getElem? (i := 1022) (by decide +kernel)) rfl
abbrev mX7_layOutTold : XD := (yX7_layOutTold, cX7_layOutTold, 4, (some .int))
theorem cdX7_layOutTold : Cond.code mX7_layOutTold.1 mX7_layOutTold.2.1 mX7_layOutTold.2.2.1 mX7_layOutTold.2.2.2 ∈ lw_g := tw_1022
theorem tw_1026 : Cond.code yX7_undo cX7_undo 1 (some .int) ∈ lw_g := lg_in (List.mem_of_getElem? (i := 1026) (by decide +kernel)) rfl
abbrev mX7_undo : XD := (yX7_undo, cX7_undo, 1, (some .int))
theorem cdX7_undo : Cond.code mX7_undo.1 mX7_undo.2.1 mX7_undo.2.2.1 mX7_undo.2.2.2 ∈ lw_g := tw_1026
theorem tw_1030 : Cond.code yX7_save cX7_save 2 (some .int) ∈ lw_g := lg_in (List.mem_of_getElem? (i := 1030) (by decide +kernel)) rfl
abbrev mX7_save : XD := (yX7_save, cX7_save, 2, (some .int))
theorem cdX7_save : Cond.code mX7_save.1 mX7_save.2.1 mX7_save.2.2.1 mX7_save.2.2.2 ∈ lw_g := tw_1030
theorem tw_1034 : Cond.code yX7_restore cX7_restore 2 (some .int) ∈ lw_g := lg_in (List.mem_of_getElem? (i := 1034) (by decide +kernel)) rfl
abbrev mX7_restore : XD := (yX7_restore, cX7_restore, 2, (some .int))
theorem cdX7_restore : Cond.code mX7_restore.1 mX7_restore.2.1 mX7_restore.2.2.1 mX7_restore.2.2.2 ∈ lw_g := tw_1034
abbrev mL_law : XD := (yL_law, code, maxLocals, ret)
def xLy (y : MethodName) (n : Nat) : Prop := Cond.initialized y.cls ∈ lw_g ∧ y.cls ≠ "java/lang/invoke/MethodHandle" ∧ y.cls ≠ "java/lang/invoke/VarHandle" ∧ (parseMethodDescriptor y.desc).map (fun d => d.parameters.length) = some n
def xLV (own : String) (idx : Nat) (y : MethodName) (n : Nat) : Prop := Cond.methodLink own idx y ∈ lw_g ∧ Cond.instanceMethod y ∈ lw_g ∧ Cond.selects y.cls y y ∈ lw_g ∧ xLy y n
def xLS (own : String) (idx : Nat) (y : MethodName) (n : Nat) : Prop := Cond.methodLink own idx y ∈ lw_g ∧ Cond.static y ∈ lw_g ∧ xLy y n
def xLI (own : String) (idx : Nat) (y : MethodName) (n : Nat) : Prop := Cond.methodLink own idx y ∈ lw_g ∧ Cond.instanceMethod y ∈ lw_g ∧ y.name = "<init>" ∧ xLy y n
def xnests : List (String × Nat × MethodName × String) := [(RX6, 33, yX0_init, RX6), (RX6, 40, yX3_init, RX6), (RX5, 17, yX0_init, RX6)]
theorem xnests_in : ∀ q ∈ xnests, Cond.methodLinkNest q.1 q.2.1 q.2.2.1 q.2.2.2 ∈ lw_tbl := by decide +kernel
def xLN (own : String) (idx : Nat) (y : MethodName) (n : Nat) : Prop := ∃ host, (own, idx, y, host) ∈ xnests ∧ Cond.instanceMethod y ∈ lw_g ∧ y.name = "<init>" ∧ xLy y n
theorem tw_76 : Cond.methodLink RX6 3 objectInit ∈ lw_g := lg_in (List.mem_of_getElem? (i := 76) (by decide +kernel)) rfl
theorem tw_60 : Cond.initialized RX5 ∈ lw_g := lg_in (List.mem_of_getElem? (i := 60) (by decide +kernel)) rfl
theorem lyX5_init : xLy yX5_init 0 := ⟨tw_60, by decide, by decide, by decide +kernel⟩
theorem tw_81 : Cond.methodLink RX6 11 yX5_init ∈ lw_g := lg_in (List.mem_of_getElem? (i := 81) (by decide +kernel)) rfl
theorem tw_82 : Cond.instanceMethod yX5_init ∈ lw_g := lg_in (List.mem_of_getElem? (i := 82) (by decide +kernel)) rfl
theorem lk_X6_11 : xLI RX6 11 yX5_init 0 := ⟨tw_81, tw_82, rfl, lyX5_init⟩
theorem tw_62 : Cond.initialized RX1 ∈ lw_g := lg_in (List.mem_of_getElem? (i := 62) (by decide +kernel)) rfl
theorem lyX1_init : xLy yX1_init 0 := ⟨tw_62, by decide, by decide, by decide +kernel⟩
theorem tw_115 : Cond.methodLink RX6 18 yX1_init ∈ lw_g := lg_in (List.mem_of_getElem? (i := 115) (by decide +kernel)) rfl
theorem tw_116 : Cond.instanceMethod yX1_init ∈ lw_g := lg_in (List.mem_of_getElem? (i := 116) (by decide +kernel)) rfl
theorem lk_X6_18 : xLI RX6 18 yX1_init 0 := ⟨tw_115, tw_116, rfl, lyX1_init⟩
theorem tw_64 : Cond.initialized RX2 ∈ lw_g := lg_in (List.mem_of_getElem? (i := 64) (by decide +kernel)) rfl
theorem lyX2_init : xLy yX2_init 1 := ⟨tw_64, by decide, by decide, by decide +kernel⟩
theorem tw_151 : Cond.methodLink RX6 47 yX2_init ∈ lw_g := lg_in (List.mem_of_getElem? (i := 151) (by decide +kernel)) rfl
theorem tw_152 : Cond.instanceMethod yX2_init ∈ lw_g := lg_in (List.mem_of_getElem? (i := 152) (by decide +kernel)) rfl
theorem lk_X6_47 : xLI RX6 47 yX2_init 1 := ⟨tw_151, tw_152, rfl, lyX2_init⟩
theorem tw_59 : Cond.initialized RX6 ∈ lw_g := lg_in (List.mem_of_getElem? (i := 59) (by decide +kernel)) rfl
theorem lyX6_draftAppend : xLy yX6_draftAppend 3 := ⟨tw_59, by decide, by decide, by decide +kernel⟩
theorem tw_215 : Cond.methodLink RX6 58 yX6_draftAppend ∈ lw_g := lg_in (List.mem_of_getElem? (i := 215) (by decide +kernel)) rfl
theorem tw_217 : Cond.instanceMethod yX6_draftAppend ∈ lw_g := lg_in (List.mem_of_getElem? (i := 217) (by decide +kernel)) rfl
theorem tw_0 : Cond.selects RX6 yX6_draftAppend yX6_draftAppend ∈ lw_g := lg_in (List.mem_of_getElem? (i := 0) (by decide +kernel)) rfl
theorem lk_X6_58 : xLV RX6 58 yX6_draftAppend 3 := ⟨tw_215, tw_217, tw_0, lyX6_draftAppend⟩
theorem lyX6_recordAndTakeDraft : xLy yX6_recordAndTakeDraft 1 := ⟨tw_59, by decide, by decide, by decide +kernel⟩
theorem tw_251 : Cond.methodLink RX6 62 yX6_recordAndTakeDraft ∈ lw_g := lg_in (List.mem_of_getElem? (i := 251) (by decide +kernel)) rfl
theorem tw_253 : Cond.instanceMethod yX6_recordAndTakeDraft ∈ lw_g := lg_in (List.mem_of_getElem? (i := 253) (by decide +kernel)) rfl
theorem tw_2 : Cond.selects RX6 yX6_recordAndTakeDraft yX6_recordAndTakeDraft ∈ lw_g := lg_in (List.mem_of_getElem? (i := 2) (by decide +kernel)) rfl
theorem lk_X6_62 : xLV RX6 62 yX6_recordAndTakeDraft 1 := ⟨tw_251, tw_253, tw_2, lyX6_recordAndTakeDraft⟩
theorem lyX5_column : xLy yX5_column 1 := ⟨tw_60, by decide, by decide, by decide +kernel⟩
theorem tw_228 : Cond.methodLink RX6 66 yX5_column ∈ lw_g := lg_in (List.mem_of_getElem? (i := 228) (by decide +kernel)) rfl
theorem tw_229 : Cond.instanceMethod yX5_column ∈ lw_g := lg_in (List.mem_of_getElem? (i := 229) (by decide +kernel)) rfl
theorem tw_230 : Cond.selects RX5 yX5_column yX5_column ∈ lw_g := lg_in (List.mem_of_getElem? (i := 230) (by decide +kernel)) rfl
theorem lk_X6_66 : xLV RX6 66 yX5_column 1 := ⟨tw_228, tw_229, tw_230, lyX5_column⟩
theorem tw_61 : Cond.initialized RX0 ∈ lw_g := lg_in (List.mem_of_getElem? (i := 61) (by decide +kernel)) rfl
theorem lyX0_rows : xLy yX0_rows 0 := ⟨tw_61, by decide, by decide, by decide +kernel⟩
theorem tw_264 : Cond.methodLink RX6 70 yX0_rows ∈ lw_g := lg_in (List.mem_of_getElem? (i := 264) (by decide +kernel)) rfl
theorem tw_265 : Cond.instanceMethod yX0_rows ∈ lw_g := lg_in (List.mem_of_getElem? (i := 265) (by decide +kernel)) rfl
theorem tw_266 : Cond.selects RX0 yX0_rows yX0_rows ∈ lw_g := lg_in (List.mem_of_getElem? (i := 266) (by decide +kernel)) rfl
theorem lk_X6_70 : xLV RX6 70 yX0_rows 0 := ⟨tw_264, tw_265, tw_266, lyX0_rows⟩
theorem lyX6_draftInsert : xLy yX6_draftInsert 4 := ⟨tw_59, by decide, by decide, by decide +kernel⟩
theorem tw_272 : Cond.methodLink RX6 74 yX6_draftInsert ∈ lw_g := lg_in (List.mem_of_getElem? (i := 272) (by decide +kernel)) rfl
theorem tw_274 : Cond.instanceMethod yX6_draftInsert ∈ lw_g := lg_in (List.mem_of_getElem? (i := 274) (by decide +kernel)) rfl
theorem tw_3 : Cond.selects RX6 yX6_draftInsert yX6_draftInsert ∈ lw_g := lg_in (List.mem_of_getElem? (i := 3) (by decide +kernel)) rfl
theorem lk_X6_74 : xLV RX6 74 yX6_draftInsert 4 := ⟨tw_272, tw_274, tw_3, lyX6_draftInsert⟩
theorem lyX0_runs : xLy yX0_runs 0 := ⟨tw_61, by decide, by decide, by decide +kernel⟩
theorem tw_291 : Cond.methodLink RX6 78 yX0_runs ∈ lw_g := lg_in (List.mem_of_getElem? (i := 291) (by decide +kernel)) rfl
theorem tw_292 : Cond.instanceMethod yX0_runs ∈ lw_g := lg_in (List.mem_of_getElem? (i := 292) (by decide +kernel)) rfl
theorem tw_293 : Cond.selects RX0 yX0_runs yX0_runs ∈ lw_g := lg_in (List.mem_of_getElem? (i := 293) (by decide +kernel)) rfl
theorem lk_X6_78 : xLV RX6 78 yX0_runs 0 := ⟨tw_291, tw_292, tw_293, lyX0_runs⟩
theorem lyX6_draftRemove : xLy yX6_draftRemove 3 := ⟨tw_59, by decide, by decide, by decide +kernel⟩
theorem tw_299 : Cond.methodLink RX6 81 yX6_draftRemove ∈ lw_g := lg_in (List.mem_of_getElem? (i := 299) (by decide +kernel)) rfl
theorem tw_301 : Cond.instanceMethod yX6_draftRemove ∈ lw_g := lg_in (List.mem_of_getElem? (i := 301) (by decide +kernel)) rfl
theorem tw_4 : Cond.selects RX6 yX6_draftRemove yX6_draftRemove ∈ lw_g := lg_in (List.mem_of_getElem? (i := 4) (by decide +kernel)) rfl
theorem lk_X6_81 : xLV RX6 81 yX6_draftRemove 3 := ⟨tw_299, tw_301, tw_4, lyX6_draftRemove⟩
theorem lyX6_draftSet : xLy yX6_draftSet 3 := ⟨tw_59, by decide, by decide, by decide +kernel⟩
theorem tw_311 : Cond.methodLink RX6 84 yX6_draftSet ∈ lw_g := lg_in (List.mem_of_getElem? (i := 311) (by decide +kernel)) rfl
theorem tw_313 : Cond.instanceMethod yX6_draftSet ∈ lw_g := lg_in (List.mem_of_getElem? (i := 313) (by decide +kernel)) rfl
theorem tw_6 : Cond.selects RX6 yX6_draftSet yX6_draftSet ∈ lw_g := lg_in (List.mem_of_getElem? (i := 6) (by decide +kernel)) rfl
theorem lk_X6_84 : xLV RX6 84 yX6_draftSet 3 := ⟨tw_311, tw_313, tw_6, lyX6_draftSet⟩
theorem lyX0_valueOfRow : xLy yX0_valueOfRow 1 := ⟨tw_61, by decide, by decide, by decide +kernel⟩
theorem tw_315 : Cond.methodLink RX6 87 yX0_valueOfRow ∈ lw_g := lg_in (List.mem_of_getElem? (i := 315) (by decide +kernel)) rfl
theorem tw_316 : Cond.instanceMethod yX0_valueOfRow ∈ lw_g := lg_in (List.mem_of_getElem? (i := 316) (by decide +kernel)) rfl
theorem tw_317 : Cond.selects RX0 yX0_valueOfRow yX0_valueOfRow ∈ lw_g := lg_in (List.mem_of_getElem? (i := 317) (by decide +kernel)) rfl
theorem lk_X6_87 : xLV RX6 87 yX0_valueOfRow 1 := ⟨tw_315, tw_316, tw_317, lyX0_valueOfRow⟩
theorem lyX6_draftSort : xLy yX6_draftSort 1 := ⟨tw_59, by decide, by decide, by decide +kernel⟩
theorem tw_331 : Cond.methodLink RX6 91 yX6_draftSort ∈ lw_g := lg_in (List.mem_of_getElem? (i := 331) (by decide +kernel)) rfl
theorem tw_333 : Cond.instanceMethod yX6_draftSort ∈ lw_g := lg_in (List.mem_of_getElem? (i := 333) (by decide +kernel)) rfl
theorem tw_7 : Cond.selects RX6 yX6_draftSort yX6_draftSort ∈ lw_g := lg_in (List.mem_of_getElem? (i := 7) (by decide +kernel)) rfl
theorem lk_X6_91 : xLV RX6 91 yX6_draftSort 1 := ⟨tw_331, tw_333, tw_7, lyX6_draftSort⟩
theorem lyX6_isColumn : xLy yX6_isColumn 1 := ⟨tw_59, by decide, by decide, by decide +kernel⟩
theorem tw_219 : Cond.methodLink RX6 94 yX6_isColumn ∈ lw_g := lg_in (List.mem_of_getElem? (i := 219) (by decide +kernel)) rfl
theorem tw_220 : Cond.static yX6_isColumn ∈ lw_g := lg_in (List.mem_of_getElem? (i := 220) (by decide +kernel)) rfl
theorem lk_X6_94 : xLS RX6 94 yX6_isColumn 1 := ⟨tw_219, tw_220, lyX6_isColumn⟩
theorem lyX0_clear : xLy yX0_clear 0 := ⟨tw_61, by decide, by decide, by decide +kernel⟩
theorem tw_276 : Cond.methodLink RX6 98 yX0_clear ∈ lw_g := lg_in (List.mem_of_getElem? (i := 276) (by decide +kernel)) rfl
theorem tw_277 : Cond.instanceMethod yX0_clear ∈ lw_g := lg_in (List.mem_of_getElem? (i := 277) (by decide +kernel)) rfl
theorem tw_278 : Cond.selects RX0 yX0_clear yX0_clear ∈ lw_g := lg_in (List.mem_of_getElem? (i := 278) (by decide +kernel)) rfl
theorem lk_X6_98 : xLV RX6 98 yX0_clear 0 := ⟨tw_276, tw_277, tw_278, lyX0_clear⟩
theorem lyX0_addTurned : xLy yX0_addTurned 1 := ⟨tw_61, by decide, by decide, by decide +kernel⟩
theorem tw_343 : Cond.methodLink RX6 101 yX0_addTurned ∈ lw_g := lg_in (List.mem_of_getElem? (i := 343) (by decide +kernel)) rfl
theorem tw_344 : Cond.instanceMethod yX0_addTurned ∈ lw_g := lg_in (List.mem_of_getElem? (i := 344) (by decide +kernel)) rfl
theorem tw_345 : Cond.selects RX0 yX0_addTurned yX0_addTurned ∈ lw_g := lg_in (List.mem_of_getElem? (i := 345) (by decide +kernel)) rfl
theorem lk_X6_101 : xLV RX6 101 yX0_addTurned 1 := ⟨tw_343, tw_344, tw_345, lyX0_addTurned⟩
theorem lyX6_draftMerge : xLy yX6_draftMerge 4 := ⟨tw_59, by decide, by decide, by decide +kernel⟩
theorem tw_351 : Cond.methodLink RX6 105 yX6_draftMerge ∈ lw_g := lg_in (List.mem_of_getElem? (i := 351) (by decide +kernel)) rfl
theorem tw_353 : Cond.instanceMethod yX6_draftMerge ∈ lw_g := lg_in (List.mem_of_getElem? (i := 353) (by decide +kernel)) rfl
theorem tw_8 : Cond.selects RX6 yX6_draftMerge yX6_draftMerge ∈ lw_g := lg_in (List.mem_of_getElem? (i := 8) (by decide +kernel)) rfl
theorem lk_X6_105 : xLV RX6 105 yX6_draftMerge 4 := ⟨tw_351, tw_353, tw_8, lyX6_draftMerge⟩
theorem lyX0_valueOfRun : xLy yX0_valueOfRun 1 := ⟨tw_61, by decide, by decide, by decide +kernel⟩
theorem tw_429 : Cond.methodLink RX6 108 yX0_valueOfRun ∈ lw_g := lg_in (List.mem_of_getElem? (i := 429) (by decide +kernel)) rfl
theorem tw_324 : Cond.instanceMethod yX0_valueOfRun ∈ lw_g := lg_in (List.mem_of_getElem? (i := 324) (by decide +kernel)) rfl
theorem tw_325 : Cond.selects RX0 yX0_valueOfRun yX0_valueOfRun ∈ lw_g := lg_in (List.mem_of_getElem? (i := 325) (by decide +kernel)) rfl
theorem lk_X6_108 : xLV RX6 108 yX0_valueOfRun 1 := ⟨tw_429, tw_324, tw_325, lyX0_valueOfRun⟩
theorem lyX0_lengthOfRun : xLy yX0_lengthOfRun 1 := ⟨tw_61, by decide, by decide, by decide +kernel⟩
theorem tw_430 : Cond.methodLink RX6 111 yX0_lengthOfRun ∈ lw_g := lg_in (List.mem_of_getElem? (i := 430) (by decide +kernel)) rfl
theorem tw_403 : Cond.instanceMethod yX0_lengthOfRun ∈ lw_g := lg_in (List.mem_of_getElem? (i := 403) (by decide +kernel)) rfl
theorem tw_404 : Cond.selects RX0 yX0_lengthOfRun yX0_lengthOfRun ∈ lw_g := lg_in (List.mem_of_getElem? (i := 404) (by decide +kernel)) rfl
theorem lk_X6_111 : xLV RX6 111 yX0_lengthOfRun 1 := ⟨tw_430, tw_403, tw_404, lyX0_lengthOfRun⟩
theorem lyX0_firstRowOfRun : xLy yX0_firstRowOfRun 1 := ⟨tw_61, by decide, by decide, by decide +kernel⟩
theorem tw_431 : Cond.methodLink RX6 114 yX0_firstRowOfRun ∈ lw_g := lg_in (List.mem_of_getElem? (i := 431) (by decide +kernel)) rfl
theorem tw_432 : Cond.instanceMethod yX0_firstRowOfRun ∈ lw_g := lg_in (List.mem_of_getElem? (i := 432) (by decide +kernel)) rfl
theorem tw_433 : Cond.selects RX0 yX0_firstRowOfRun yX0_firstRowOfRun ∈ lw_g := lg_in (List.mem_of_getElem? (i := 433) (by decide +kernel)) rfl
theorem lk_X6_114 : xLV RX6 114 yX0_firstRowOfRun 1 := ⟨tw_431, tw_432, tw_433, lyX0_firstRowOfRun⟩
theorem lyX6_isRow : xLy yX6_isRow 2 := ⟨tw_59, by decide, by decide, by decide +kernel⟩
theorem tw_303 : Cond.methodLink RX6 117 yX6_isRow ∈ lw_g := lg_in (List.mem_of_getElem? (i := 303) (by decide +kernel)) rfl
theorem tw_305 : Cond.instanceMethod yX6_isRow ∈ lw_g := lg_in (List.mem_of_getElem? (i := 305) (by decide +kernel)) rfl
theorem tw_5 : Cond.selects RX6 yX6_isRow yX6_isRow ∈ lw_g := lg_in (List.mem_of_getElem? (i := 5) (by decide +kernel)) rfl
theorem lk_X6_117 : xLV RX6 117 yX6_isRow 2 := ⟨tw_303, tw_305, tw_5, lyX6_isRow⟩
theorem lyX6_isValue : xLy yX6_isValue 1 := ⟨tw_59, by decide, by decide, by decide +kernel⟩
theorem tw_222 : Cond.methodLink RX6 121 yX6_isValue ∈ lw_g := lg_in (List.mem_of_getElem? (i := 222) (by decide +kernel)) rfl
theorem tw_223 : Cond.static yX6_isValue ∈ lw_g := lg_in (List.mem_of_getElem? (i := 223) (by decide +kernel)) rfl
theorem lk_X6_121 : xLS RX6 121 yX6_isValue 1 := ⟨tw_222, tw_223, lyX6_isValue⟩
theorem lyX0_rowOfRank : xLy yX0_rowOfRank 2 := ⟨tw_61, by decide, by decide, by decide +kernel⟩
theorem tw_443 : Cond.methodLink RX6 124 yX0_rowOfRank ∈ lw_g := lg_in (List.mem_of_getElem? (i := 443) (by decide +kernel)) rfl
theorem tw_444 : Cond.instanceMethod yX0_rowOfRank ∈ lw_g := lg_in (List.mem_of_getElem? (i := 444) (by decide +kernel)) rfl
theorem tw_445 : Cond.selects RX0 yX0_rowOfRank yX0_rowOfRank ∈ lw_g := lg_in (List.mem_of_getElem? (i := 445) (by decide +kernel)) rfl
theorem lk_X6_124 : xLV RX6 124 yX0_rowOfRank 2 := ⟨tw_443, tw_444, tw_445, lyX0_rowOfRank⟩
theorem lyX0_sum : xLy yX0_sum 0 := ⟨tw_61, by decide, by decide, by decide +kernel⟩
theorem tw_451 : Cond.methodLink RX6 128 yX0_sum ∈ lw_g := lg_in (List.mem_of_getElem? (i := 451) (by decide +kernel)) rfl
theorem tw_452 : Cond.instanceMethod yX0_sum ∈ lw_g := lg_in (List.mem_of_getElem? (i := 452) (by decide +kernel)) rfl
theorem tw_453 : Cond.selects RX0 yX0_sum yX0_sum ∈ lw_g := lg_in (List.mem_of_getElem? (i := 453) (by decide +kernel)) rfl
theorem lk_X6_128 : xLV RX6 128 yX0_sum 0 := ⟨tw_451, tw_452, tw_453, lyX0_sum⟩
theorem lyX0_longest : xLy yX0_longest 0 := ⟨tw_61, by decide, by decide, by decide +kernel⟩
theorem tw_455 : Cond.methodLink RX6 131 yX0_longest ∈ lw_g := lg_in (List.mem_of_getElem? (i := 455) (by decide +kernel)) rfl
theorem tw_456 : Cond.instanceMethod yX0_longest ∈ lw_g := lg_in (List.mem_of_getElem? (i := 456) (by decide +kernel)) rfl
theorem tw_457 : Cond.selects RX0 yX0_longest yX0_longest ∈ lw_g := lg_in (List.mem_of_getElem? (i := 457) (by decide +kernel)) rfl
theorem lk_X6_131 : xLV RX6 131 yX0_longest 0 := ⟨tw_455, tw_456, tw_457, lyX0_longest⟩
theorem lyX0_valueSet : xLy yX0_valueSet 0 := ⟨tw_61, by decide, by decide, by decide +kernel⟩
theorem tw_459 : Cond.methodLink RX6 134 yX0_valueSet ∈ lw_g := lg_in (List.mem_of_getElem? (i := 459) (by decide +kernel)) rfl
theorem tw_460 : Cond.instanceMethod yX0_valueSet ∈ lw_g := lg_in (List.mem_of_getElem? (i := 460) (by decide +kernel)) rfl
theorem tw_461 : Cond.selects RX0 yX0_valueSet yX0_valueSet ∈ lw_g := lg_in (List.mem_of_getElem? (i := 461) (by decide +kernel)) rfl
theorem lk_X6_134 : xLV RX6 134 yX0_valueSet 0 := ⟨tw_459, tw_460, tw_461, lyX0_valueSet⟩
theorem lyX0_neverFalls : xLy yX0_neverFalls 0 := ⟨tw_61, by decide, by decide, by decide +kernel⟩
theorem tw_463 : Cond.methodLink RX6 137 yX0_neverFalls ∈ lw_g := lg_in (List.mem_of_getElem? (i := 463) (by decide +kernel)) rfl
theorem tw_464 : Cond.instanceMethod yX0_neverFalls ∈ lw_g := lg_in (List.mem_of_getElem? (i := 464) (by decide +kernel)) rfl
theorem tw_465 : Cond.selects RX0 yX0_neverFalls yX0_neverFalls ∈ lw_g := lg_in (List.mem_of_getElem? (i := 465) (by decide +kernel)) rfl
theorem lk_X6_137 : xLV RX6 137 yX0_neverFalls 0 := ⟨tw_463, tw_464, tw_465, lyX0_neverFalls⟩
theorem lyX0_neverRises : xLy yX0_neverRises 0 := ⟨tw_61, by decide, by decide, by decide +kernel⟩
theorem tw_467 : Cond.methodLink RX6 141 yX0_neverRises ∈ lw_g := lg_in (List.mem_of_getElem? (i := 467) (by decide +kernel)) rfl
theorem tw_468 : Cond.instanceMethod yX0_neverRises ∈ lw_g := lg_in (List.mem_of_getElem? (i := 468) (by decide +kernel)) rfl
theorem tw_469 : Cond.selects RX0 yX0_neverRises yX0_neverRises ∈ lw_g := lg_in (List.mem_of_getElem? (i := 469) (by decide +kernel)) rfl
theorem lk_X6_141 : xLV RX6 141 yX0_neverRises 0 := ⟨tw_467, tw_468, tw_469, lyX0_neverRises⟩
theorem lyX0_rowsOf : xLy yX0_rowsOf 1 := ⟨tw_61, by decide, by decide, by decide +kernel⟩
theorem tw_335 : Cond.methodLink RX6 144 yX0_rowsOf ∈ lw_g := lg_in (List.mem_of_getElem? (i := 335) (by decide +kernel)) rfl
theorem tw_336 : Cond.instanceMethod yX0_rowsOf ∈ lw_g := lg_in (List.mem_of_getElem? (i := 336) (by decide +kernel)) rfl
theorem tw_337 : Cond.selects RX0 yX0_rowsOf yX0_rowsOf ∈ lw_g := lg_in (List.mem_of_getElem? (i := 337) (by decide +kernel)) rfl
theorem lk_X6_144 : xLV RX6 144 yX0_rowsOf 1 := ⟨tw_335, tw_336, tw_337, lyX0_rowsOf⟩
theorem lyX0_runsOf : xLy yX0_runsOf 1 := ⟨tw_61, by decide, by decide, by decide +kernel⟩
theorem tw_475 : Cond.methodLink RX6 147 yX0_runsOf ∈ lw_g := lg_in (List.mem_of_getElem? (i := 475) (by decide +kernel)) rfl
theorem tw_476 : Cond.instanceMethod yX0_runsOf ∈ lw_g := lg_in (List.mem_of_getElem? (i := 476) (by decide +kernel)) rfl
theorem tw_477 : Cond.selects RX0 yX0_runsOf yX0_runsOf ∈ lw_g := lg_in (List.mem_of_getElem? (i := 477) (by decide +kernel)) rfl
theorem lk_X6_147 : xLV RX6 147 yX0_runsOf 1 := ⟨tw_475, tw_476, tw_477, lyX0_runsOf⟩
theorem lyX0_longestOf : xLy yX0_longestOf 1 := ⟨tw_61, by decide, by decide, by decide +kernel⟩
theorem tw_479 : Cond.methodLink RX6 150 yX0_longestOf ∈ lw_g := lg_in (List.mem_of_getElem? (i := 479) (by decide +kernel)) rfl
theorem tw_480 : Cond.instanceMethod yX0_longestOf ∈ lw_g := lg_in (List.mem_of_getElem? (i := 480) (by decide +kernel)) rfl
theorem tw_481 : Cond.selects RX0 yX0_longestOf yX0_longestOf ∈ lw_g := lg_in (List.mem_of_getElem? (i := 481) (by decide +kernel)) rfl
theorem lk_X6_150 : xLV RX6 150 yX0_longestOf 1 := ⟨tw_479, tw_480, tw_481, lyX0_longestOf⟩
theorem lyX5_allRows : xLy yX5_allRows 0 := ⟨tw_60, by decide, by decide, by decide +kernel⟩
theorem tw_487 : Cond.methodLink RX6 153 yX5_allRows ∈ lw_g := lg_in (List.mem_of_getElem? (i := 487) (by decide +kernel)) rfl
theorem tw_488 : Cond.instanceMethod yX5_allRows ∈ lw_g := lg_in (List.mem_of_getElem? (i := 488) (by decide +kernel)) rfl
theorem tw_489 : Cond.selects RX5 yX5_allRows yX5_allRows ∈ lw_g := lg_in (List.mem_of_getElem? (i := 489) (by decide +kernel)) rfl
theorem lk_X6_153 : xLV RX6 153 yX5_allRows 0 := ⟨tw_487, tw_488, tw_489, lyX5_allRows⟩
theorem lyX5_allRuns : xLy yX5_allRuns 0 := ⟨tw_60, by decide, by decide, by decide +kernel⟩
theorem tw_492 : Cond.methodLink RX6 156 yX5_allRuns ∈ lw_g := lg_in (List.mem_of_getElem? (i := 492) (by decide +kernel)) rfl
theorem tw_493 : Cond.instanceMethod yX5_allRuns ∈ lw_g := lg_in (List.mem_of_getElem? (i := 493) (by decide +kernel)) rfl
theorem tw_494 : Cond.selects RX5 yX5_allRuns yX5_allRuns ∈ lw_g := lg_in (List.mem_of_getElem? (i := 494) (by decide +kernel)) rfl
theorem lk_X6_156 : xLV RX6 156 yX5_allRuns 0 := ⟨tw_492, tw_493, tw_494, lyX5_allRuns⟩
theorem tw_63 : Cond.initialized RX3 ∈ lw_g := lg_in (List.mem_of_getElem? (i := 63) (by decide +kernel)) rfl
theorem lyX3_length : xLy yX3_length 0 := ⟨tw_63, by decide, by decide, by decide +kernel⟩
theorem tw_497 : Cond.methodLink RX6 159 yX3_length ∈ lw_g := lg_in (List.mem_of_getElem? (i := 497) (by decide +kernel)) rfl
theorem tw_498 : Cond.instanceMethod yX3_length ∈ lw_g := lg_in (List.mem_of_getElem? (i := 498) (by decide +kernel)) rfl
theorem tw_499 : Cond.selects RX3 yX3_length yX3_length ∈ lw_g := lg_in (List.mem_of_getElem? (i := 499) (by decide +kernel)) rfl
theorem lk_X6_159 : xLV RX6 159 yX3_length 0 := ⟨tw_497, tw_498, tw_499, lyX3_length⟩
theorem lyX1_kept : xLy yX1_kept 0 := ⟨tw_62, by decide, by decide, by decide +kernel⟩
theorem tw_501 : Cond.methodLink RX6 162 yX1_kept ∈ lw_g := lg_in (List.mem_of_getElem? (i := 501) (by decide +kernel)) rfl
theorem tw_502 : Cond.instanceMethod yX1_kept ∈ lw_g := lg_in (List.mem_of_getElem? (i := 502) (by decide +kernel)) rfl
theorem tw_503 : Cond.selects RX1 yX1_kept yX1_kept ∈ lw_g := lg_in (List.mem_of_getElem? (i := 503) (by decide +kernel)) rfl
theorem lk_X6_162 : xLV RX6 162 yX1_kept 0 := ⟨tw_501, tw_502, tw_503, lyX1_kept⟩
theorem lyX6_walkOver : xLy yX6_walkOver 2 := ⟨tw_59, by decide, by decide, by decide +kernel⟩
theorem tw_355 : Cond.methodLink RX6 165 yX6_walkOver ∈ lw_g := lg_in (List.mem_of_getElem? (i := 355) (by decide +kernel)) rfl
theorem tw_357 : Cond.instanceMethod yX6_walkOver ∈ lw_g := lg_in (List.mem_of_getElem? (i := 357) (by decide +kernel)) rfl
theorem tw_9 : Cond.selects RX6 yX6_walkOver yX6_walkOver ∈ lw_g := lg_in (List.mem_of_getElem? (i := 9) (by decide +kernel)) rfl
theorem lk_X6_165 : xLV RX6 165 yX6_walkOver 2 := ⟨tw_355, tw_357, tw_9, lyX6_walkOver⟩
theorem tw_68 : Cond.initialized RX4 ∈ lw_g := lg_in (List.mem_of_getElem? (i := 68) (by decide +kernel)) rfl
theorem lyX4_advance : xLy yX4_advance 0 := ⟨tw_68, by decide, by decide, by decide +kernel⟩
theorem tw_396 : Cond.methodLink RX6 169 yX4_advance ∈ lw_g := lg_in (List.mem_of_getElem? (i := 396) (by decide +kernel)) rfl
theorem tw_397 : Cond.instanceMethod yX4_advance ∈ lw_g := lg_in (List.mem_of_getElem? (i := 397) (by decide +kernel)) rfl
theorem tw_398 : Cond.selects RX4 yX4_advance yX4_advance ∈ lw_g := lg_in (List.mem_of_getElem? (i := 398) (by decide +kernel)) rfl
theorem lk_X6_169 : xLV RX6 169 yX4_advance 0 := ⟨tw_396, tw_397, tw_398, lyX4_advance⟩
theorem lyX4_valueOfOne : xLy yX4_valueOfOne 0 := ⟨tw_68, by decide, by decide, by decide +kernel⟩
theorem tw_407 : Cond.methodLink RX6 174 yX4_valueOfOne ∈ lw_g := lg_in (List.mem_of_getElem? (i := 407) (by decide +kernel)) rfl
theorem tw_408 : Cond.instanceMethod yX4_valueOfOne ∈ lw_g := lg_in (List.mem_of_getElem? (i := 408) (by decide +kernel)) rfl
theorem tw_409 : Cond.selects RX4 yX4_valueOfOne yX4_valueOfOne ∈ lw_g := lg_in (List.mem_of_getElem? (i := 409) (by decide +kernel)) rfl
theorem lk_X6_174 : xLV RX6 174 yX4_valueOfOne 0 := ⟨tw_407, tw_408, tw_409, lyX4_valueOfOne⟩
theorem lyX4_valueOfOther : xLy yX4_valueOfOther 0 := ⟨tw_68, by decide, by decide, by decide +kernel⟩
theorem tw_411 : Cond.methodLink RX6 177 yX4_valueOfOther ∈ lw_g := lg_in (List.mem_of_getElem? (i := 411) (by decide +kernel)) rfl
theorem tw_412 : Cond.instanceMethod yX4_valueOfOther ∈ lw_g := lg_in (List.mem_of_getElem? (i := 412) (by decide +kernel)) rfl
theorem tw_413 : Cond.selects RX4 yX4_valueOfOther yX4_valueOfOther ∈ lw_g := lg_in (List.mem_of_getElem? (i := 413) (by decide +kernel)) rfl
theorem lk_X6_177 : xLV RX6 177 yX4_valueOfOther 0 := ⟨tw_411, tw_412, tw_413, lyX4_valueOfOther⟩
theorem lyX4_length : xLy yX4_length 0 := ⟨tw_68, by decide, by decide, by decide +kernel⟩
theorem tw_416 : Cond.methodLink RX6 180 yX4_length ∈ lw_g := lg_in (List.mem_of_getElem? (i := 416) (by decide +kernel)) rfl
theorem tw_417 : Cond.instanceMethod yX4_length ∈ lw_g := lg_in (List.mem_of_getElem? (i := 417) (by decide +kernel)) rfl
theorem tw_418 : Cond.selects RX4 yX4_length yX4_length ∈ lw_g := lg_in (List.mem_of_getElem? (i := 418) (by decide +kernel)) rfl
theorem lk_X6_180 : xLV RX6 180 yX4_length 0 := ⟨tw_416, tw_417, tw_418, lyX4_length⟩
theorem lyX4_firstRow : xLy yX4_firstRow 0 := ⟨tw_68, by decide, by decide, by decide +kernel⟩
theorem tw_509 : Cond.methodLink RX6 181 yX4_firstRow ∈ lw_g := lg_in (List.mem_of_getElem? (i := 509) (by decide +kernel)) rfl
theorem tw_510 : Cond.instanceMethod yX4_firstRow ∈ lw_g := lg_in (List.mem_of_getElem? (i := 510) (by decide +kernel)) rfl
theorem tw_511 : Cond.selects RX4 yX4_firstRow yX4_firstRow ∈ lw_g := lg_in (List.mem_of_getElem? (i := 511) (by decide +kernel)) rfl
theorem lk_X6_181 : xLV RX6 181 yX4_firstRow 0 := ⟨tw_509, tw_510, tw_511, lyX4_firstRow⟩
theorem tw_67 : Cond.initialized RJ9 ∈ lw_g := lg_in (List.mem_of_getElem? (i := 67) (by decide +kernel)) rfl
theorem lyJ9_min_7cf53 : xLy yJ9_min_7cf53 2 := ⟨tw_67, by decide, by decide, by decide +kernel⟩
theorem tw_415 : Cond.methodLink RX6 184 yJ9_min_7cf53 ∈ lw_g := lg_in (List.mem_of_getElem? (i := 415) (by decide +kernel)) rfl
theorem tw_285 : Cond.static yJ9_min_7cf53 ∈ lw_g := lg_in (List.mem_of_getElem? (i := 285) (by decide +kernel)) rfl
theorem lk_X6_184 : xLS RX6 184 yJ9_min_7cf53 2 := ⟨tw_415, tw_285, lyJ9_min_7cf53⟩
theorem lyX6_runsOfPairs : xLy yX6_runsOfPairs 1 := ⟨tw_59, by decide, by decide, by decide +kernel⟩
theorem tw_517 : Cond.methodLink RX6 189 yX6_runsOfPairs ∈ lw_g := lg_in (List.mem_of_getElem? (i := 517) (by decide +kernel)) rfl
theorem tw_518 : Cond.static yX6_runsOfPairs ∈ lw_g := lg_in (List.mem_of_getElem? (i := 518) (by decide +kernel)) rfl
theorem lk_X6_189 : xLS RX6 189 yX6_runsOfPairs 1 := ⟨tw_517, tw_518, lyX6_runsOfPairs⟩
theorem lyX6_rowsAlike : xLy yX6_rowsAlike 1 := ⟨tw_59, by decide, by decide, by decide +kernel⟩
theorem tw_520 : Cond.methodLink RX6 193 yX6_rowsAlike ∈ lw_g := lg_in (List.mem_of_getElem? (i := 520) (by decide +kernel)) rfl
theorem tw_521 : Cond.static yX6_rowsAlike ∈ lw_g := lg_in (List.mem_of_getElem? (i := 521) (by decide +kernel)) rfl
theorem lk_X6_193 : xLS RX6 193 yX6_rowsAlike 1 := ⟨tw_520, tw_521, lyX6_rowsAlike⟩
theorem lyX6_sumOfProducts : xLy yX6_sumOfProducts 1 := ⟨tw_59, by decide, by decide, by decide +kernel⟩
theorem tw_523 : Cond.methodLink RX6 196 yX6_sumOfProducts ∈ lw_g := lg_in (List.mem_of_getElem? (i := 523) (by decide +kernel)) rfl
theorem tw_524 : Cond.static yX6_sumOfProducts ∈ lw_g := lg_in (List.mem_of_getElem? (i := 524) (by decide +kernel)) rfl
theorem lk_X6_196 : xLS RX6 196 yX6_sumOfProducts 1 := ⟨tw_523, tw_524, lyX6_sumOfProducts⟩
theorem lyX6_unlikePairs : xLy yX6_unlikePairs 1 := ⟨tw_59, by decide, by decide, by decide +kernel⟩
theorem tw_526 : Cond.methodLink RX6 199 yX6_unlikePairs ∈ lw_g := lg_in (List.mem_of_getElem? (i := 526) (by decide +kernel)) rfl
theorem tw_528 : Cond.instanceMethod yX6_unlikePairs ∈ lw_g := lg_in (List.mem_of_getElem? (i := 528) (by decide +kernel)) rfl
theorem tw_10 : Cond.selects RX6 yX6_unlikePairs yX6_unlikePairs ∈ lw_g := lg_in (List.mem_of_getElem? (i := 10) (by decide +kernel)) rfl
theorem lk_X6_199 : xLV RX6 199 yX6_unlikePairs 1 := ⟨tw_526, tw_528, tw_10, lyX6_unlikePairs⟩
theorem tw_70 : Cond.initialized RJ6 ∈ lw_g := lg_in (List.mem_of_getElem? (i := 70) (by decide +kernel)) rfl
theorem lyJ6_bitCount_0f7a4 : xLy yJ6_bitCount_0f7a4 1 := ⟨tw_70, by decide, by decide, by decide +kernel⟩
theorem tw_533 : Cond.methodLink RX6 202 yJ6_bitCount_0f7a4 ∈ lw_g := lg_in (List.mem_of_getElem? (i := 533) (by decide +kernel)) rfl
theorem tw_534 : Cond.static yJ6_bitCount_0f7a4 ∈ lw_g := lg_in (List.mem_of_getElem? (i := 534) (by decide +kernel)) rfl
theorem lk_X6_202 : xLS RX6 202 yJ6_bitCount_0f7a4 1 := ⟨tw_533, tw_534, lyJ6_bitCount_0f7a4⟩
theorem lyX0_bestRowToSet : xLy yX0_bestRowToSet 1 := ⟨tw_61, by decide, by decide, by decide +kernel⟩
theorem tw_551 : Cond.methodLink RX6 207 yX0_bestRowToSet ∈ lw_g := lg_in (List.mem_of_getElem? (i := 551) (by decide +kernel)) rfl
theorem tw_552 : Cond.instanceMethod yX0_bestRowToSet ∈ lw_g := lg_in (List.mem_of_getElem? (i := 552) (by decide +kernel)) rfl
theorem tw_553 : Cond.selects RX0 yX0_bestRowToSet yX0_bestRowToSet ∈ lw_g := lg_in (List.mem_of_getElem? (i := 553) (by decide +kernel)) rfl
theorem lk_X6_207 : xLV RX6 207 yX0_bestRowToSet 1 := ⟨tw_551, tw_552, tw_553, lyX0_bestRowToSet⟩
theorem lyX0_runsAfterSet : xLy yX0_runsAfterSet 2 := ⟨tw_61, by decide, by decide, by decide +kernel⟩
theorem tw_561 : Cond.methodLink RX6 210 yX0_runsAfterSet ∈ lw_g := lg_in (List.mem_of_getElem? (i := 561) (by decide +kernel)) rfl
theorem tw_556 : Cond.instanceMethod yX0_runsAfterSet ∈ lw_g := lg_in (List.mem_of_getElem? (i := 556) (by decide +kernel)) rfl
theorem tw_557 : Cond.selects RX0 yX0_runsAfterSet yX0_runsAfterSet ∈ lw_g := lg_in (List.mem_of_getElem? (i := 557) (by decide +kernel)) rfl
theorem lk_X6_210 : xLV RX6 210 yX0_runsAfterSet 2 := ⟨tw_561, tw_556, tw_557, lyX0_runsAfterSet⟩
theorem lyX6_charactersIn : xLy yX6_charactersIn 1 := ⟨tw_59, by decide, by decide, by decide +kernel⟩
theorem tw_566 : Cond.methodLink RX6 213 yX6_charactersIn ∈ lw_g := lg_in (List.mem_of_getElem? (i := 566) (by decide +kernel)) rfl
theorem tw_567 : Cond.static yX6_charactersIn ∈ lw_g := lg_in (List.mem_of_getElem? (i := 567) (by decide +kernel)) rfl
theorem lk_X6_213 : xLS RX6 213 yX6_charactersIn 1 := ⟨tw_566, tw_567, lyX6_charactersIn⟩
theorem lyX3_add : xLy yX3_add 1 := ⟨tw_63, by decide, by decide, by decide +kernel⟩
theorem tw_572 : Cond.methodLink RX6 219 yX3_add ∈ lw_g := lg_in (List.mem_of_getElem? (i := 572) (by decide +kernel)) rfl
theorem tw_573 : Cond.instanceMethod yX3_add ∈ lw_g := lg_in (List.mem_of_getElem? (i := 573) (by decide +kernel)) rfl
theorem tw_574 : Cond.selects RX3 yX3_add yX3_add ∈ lw_g := lg_in (List.mem_of_getElem? (i := 574) (by decide +kernel)) rfl
theorem lk_X6_219 : xLV RX6 219 yX3_add 1 := ⟨tw_572, tw_573, tw_574, lyX3_add⟩
theorem lyX3_clear : xLy yX3_clear 0 := ⟨tw_63, by decide, by decide, by decide +kernel⟩
theorem tw_580 : Cond.methodLink RX6 223 yX3_clear ∈ lw_g := lg_in (List.mem_of_getElem? (i := 580) (by decide +kernel)) rfl
theorem tw_581 : Cond.instanceMethod yX3_clear ∈ lw_g := lg_in (List.mem_of_getElem? (i := 581) (by decide +kernel)) rfl
theorem tw_582 : Cond.selects RX3 yX3_clear yX3_clear ∈ lw_g := lg_in (List.mem_of_getElem? (i := 582) (by decide +kernel)) rfl
theorem lk_X6_223 : xLV RX6 223 yX3_clear 0 := ⟨tw_580, tw_581, tw_582, lyX3_clear⟩
theorem lyX2_firstFault : xLy yX2_firstFault 0 := ⟨tw_64, by decide, by decide, by decide +kernel⟩
theorem tw_588 : Cond.methodLink RX6 224 yX2_firstFault ∈ lw_g := lg_in (List.mem_of_getElem? (i := 588) (by decide +kernel)) rfl
theorem tw_589 : Cond.instanceMethod yX2_firstFault ∈ lw_g := lg_in (List.mem_of_getElem? (i := 589) (by decide +kernel)) rfl
theorem tw_590 : Cond.selects RX2 yX2_firstFault yX2_firstFault ∈ lw_g := lg_in (List.mem_of_getElem? (i := 590) (by decide +kernel)) rfl
theorem lk_X6_224 : xLV RX6 224 yX2_firstFault 0 := ⟨tw_588, tw_589, tw_590, lyX2_firstFault⟩
theorem lyX1_record : xLy yX1_record 1 := ⟨tw_62, by decide, by decide, by decide +kernel⟩
theorem tw_255 : Cond.methodLink RX6 227 yX1_record ∈ lw_g := lg_in (List.mem_of_getElem? (i := 255) (by decide +kernel)) rfl
theorem tw_256 : Cond.instanceMethod yX1_record ∈ lw_g := lg_in (List.mem_of_getElem? (i := 256) (by decide +kernel)) rfl
theorem tw_257 : Cond.selects RX1 yX1_record yX1_record ∈ lw_g := lg_in (List.mem_of_getElem? (i := 257) (by decide +kernel)) rfl
theorem lk_X6_227 : xLV RX6 227 yX1_record 1 := ⟨tw_255, tw_256, tw_257, lyX1_record⟩
theorem lyX6_obeyOrders : xLy yX6_obeyOrders 0 := ⟨tw_59, by decide, by decide, by decide +kernel⟩
theorem tw_633 : Cond.methodLink RX6 231 yX6_obeyOrders ∈ lw_g := lg_in (List.mem_of_getElem? (i := 633) (by decide +kernel)) rfl
theorem tw_635 : Cond.instanceMethod yX6_obeyOrders ∈ lw_g := lg_in (List.mem_of_getElem? (i := 635) (by decide +kernel)) rfl
theorem tw_16 : Cond.selects RX6 yX6_obeyOrders yX6_obeyOrders ∈ lw_g := lg_in (List.mem_of_getElem? (i := 16) (by decide +kernel)) rfl
theorem lk_X6_231 : xLV RX6 231 yX6_obeyOrders 0 := ⟨tw_633, tw_635, tw_16, lyX6_obeyOrders⟩
theorem lyX1_takeBack : xLy yX1_takeBack 1 := ⟨tw_62, by decide, by decide, by decide +kernel⟩
theorem tw_680 : Cond.methodLink RX6 234 yX1_takeBack ∈ lw_g := lg_in (List.mem_of_getElem? (i := 680) (by decide +kernel)) rfl
theorem tw_681 : Cond.instanceMethod yX1_takeBack ∈ lw_g := lg_in (List.mem_of_getElem? (i := 681) (by decide +kernel)) rfl
theorem tw_682 : Cond.selects RX1 yX1_takeBack yX1_takeBack ∈ lw_g := lg_in (List.mem_of_getElem? (i := 682) (by decide +kernel)) rfl
theorem lk_X6_234 : xLV RX6 234 yX1_takeBack 1 := ⟨tw_680, tw_681, tw_682, lyX1_takeBack⟩
theorem lyX6_isSlot : xLy yX6_isSlot 1 := ⟨tw_59, by decide, by decide, by decide +kernel⟩
theorem tw_688 : Cond.methodLink RX6 237 yX6_isSlot ∈ lw_g := lg_in (List.mem_of_getElem? (i := 688) (by decide +kernel)) rfl
theorem tw_689 : Cond.static yX6_isSlot ∈ lw_g := lg_in (List.mem_of_getElem? (i := 689) (by decide +kernel)) rfl
theorem lk_X6_237 : xLS RX6 237 yX6_isSlot 1 := ⟨tw_688, tw_689, lyX6_isSlot⟩
theorem lyX5_copyFrom : xLy yX5_copyFrom 1 := ⟨tw_60, by decide, by decide, by decide +kernel⟩
theorem tw_691 : Cond.methodLink RX6 240 yX5_copyFrom ∈ lw_g := lg_in (List.mem_of_getElem? (i := 691) (by decide +kernel)) rfl
theorem tw_260 : Cond.instanceMethod yX5_copyFrom ∈ lw_g := lg_in (List.mem_of_getElem? (i := 260) (by decide +kernel)) rfl
theorem tw_261 : Cond.selects RX5 yX5_copyFrom yX5_copyFrom ∈ lw_g := lg_in (List.mem_of_getElem? (i := 261) (by decide +kernel)) rfl
theorem lk_X6_240 : xLV RX6 240 yX5_copyFrom 1 := ⟨tw_691, tw_260, tw_261, lyX5_copyFrom⟩
theorem lyX6_isLength : xLy yX6_isLength 1 := ⟨tw_59, by decide, by decide, by decide +kernel⟩
theorem tw_225 : Cond.methodLink RX6 243 yX6_isLength ∈ lw_g := lg_in (List.mem_of_getElem? (i := 225) (by decide +kernel)) rfl
theorem tw_226 : Cond.static yX6_isLength ∈ lw_g := lg_in (List.mem_of_getElem? (i := 226) (by decide +kernel)) rfl
theorem lk_X6_243 : xLS RX6 243 yX6_isLength 1 := ⟨tw_225, tw_226, lyX6_isLength⟩
theorem lyX0_copyFrom : xLy yX0_copyFrom 1 := ⟨tw_61, by decide, by decide, by decide +kernel⟩
theorem tw_232 : Cond.methodLink RX6 246 yX0_copyFrom ∈ lw_g := lg_in (List.mem_of_getElem? (i := 232) (by decide +kernel)) rfl
theorem tw_233 : Cond.instanceMethod yX0_copyFrom ∈ lw_g := lg_in (List.mem_of_getElem? (i := 233) (by decide +kernel)) rfl
theorem tw_234 : Cond.selects RX0 yX0_copyFrom yX0_copyFrom ∈ lw_g := lg_in (List.mem_of_getElem? (i := 234) (by decide +kernel)) rfl
theorem lk_X6_246 : xLV RX6 246 yX0_copyFrom 1 := ⟨tw_232, tw_233, tw_234, lyX0_copyFrom⟩
theorem lyX0_addRun : xLy yX0_addRun 2 := ⟨tw_61, by decide, by decide, by decide +kernel⟩
theorem tw_239 : Cond.methodLink RX6 248 yX0_addRun ∈ lw_g := lg_in (List.mem_of_getElem? (i := 239) (by decide +kernel)) rfl
theorem tw_240 : Cond.instanceMethod yX0_addRun ∈ lw_g := lg_in (List.mem_of_getElem? (i := 240) (by decide +kernel)) rfl
theorem tw_241 : Cond.selects RX0 yX0_addRun yX0_addRun ∈ lw_g := lg_in (List.mem_of_getElem? (i := 241) (by decide +kernel)) rfl
theorem lk_X6_248 : xLV RX6 248 yX0_addRun 2 := ⟨tw_239, tw_240, tw_241, lyX0_addRun⟩
theorem lyX6_errorOfDraft : xLy yX6_errorOfDraft 0 := ⟨tw_59, by decide, by decide, by decide +kernel⟩
theorem tw_243 : Cond.methodLink RX6 252 yX6_errorOfDraft ∈ lw_g := lg_in (List.mem_of_getElem? (i := 243) (by decide +kernel)) rfl
theorem tw_245 : Cond.instanceMethod yX6_errorOfDraft ∈ lw_g := lg_in (List.mem_of_getElem? (i := 245) (by decide +kernel)) rfl
theorem tw_1 : Cond.selects RX6 yX6_errorOfDraft yX6_errorOfDraft ∈ lw_g := lg_in (List.mem_of_getElem? (i := 1) (by decide +kernel)) rfl
theorem lk_X6_252 : xLV RX6 252 yX6_errorOfDraft 0 := ⟨tw_243, tw_245, tw_1, lyX6_errorOfDraft⟩
theorem lyX0_addRows : xLy yX0_addRows 3 := ⟨tw_61, by decide, by decide, by decide +kernel⟩
theorem tw_280 : Cond.methodLink RX6 255 yX0_addRows ∈ lw_g := lg_in (List.mem_of_getElem? (i := 280) (by decide +kernel)) rfl
theorem tw_281 : Cond.instanceMethod yX0_addRows ∈ lw_g := lg_in (List.mem_of_getElem? (i := 281) (by decide +kernel)) rfl
theorem tw_282 : Cond.selects RX0 yX0_addRows yX0_addRows ∈ lw_g := lg_in (List.mem_of_getElem? (i := 282) (by decide +kernel)) rfl
theorem lk_X6_255 : xLV RX6 255 yX0_addRows 3 := ⟨tw_280, tw_281, tw_282, lyX0_addRows⟩
theorem lyJ9_max_7cf53 : xLy yJ9_max_7cf53 2 := ⟨tw_67, by decide, by decide, by decide +kernel⟩
theorem tw_420 : Cond.methodLink RX6 259 yJ9_max_7cf53 ∈ lw_g := lg_in (List.mem_of_getElem? (i := 420) (by decide +kernel)) rfl
theorem tw_288 : Cond.static yJ9_max_7cf53 ∈ lw_g := lg_in (List.mem_of_getElem? (i := 288) (by decide +kernel)) rfl
theorem lk_X6_259 : xLS RX6 259 yJ9_max_7cf53 2 := ⟨tw_420, tw_288, lyJ9_max_7cf53⟩
theorem lyX4_isAlike : xLy yX4_isAlike 0 := ⟨tw_68, by decide, by decide, by decide +kernel⟩
theorem tw_421 : Cond.methodLink RX6 262 yX4_isAlike ∈ lw_g := lg_in (List.mem_of_getElem? (i := 421) (by decide +kernel)) rfl
theorem tw_422 : Cond.instanceMethod yX4_isAlike ∈ lw_g := lg_in (List.mem_of_getElem? (i := 422) (by decide +kernel)) rfl
theorem tw_423 : Cond.selects RX4 yX4_isAlike yX4_isAlike ∈ lw_g := lg_in (List.mem_of_getElem? (i := 423) (by decide +kernel)) rfl
theorem lk_X6_262 : xLV RX6 262 yX4_isAlike 0 := ⟨tw_421, tw_422, tw_423, lyX4_isAlike⟩
theorem lyX2_column : xLy yX2_column 0 := ⟨tw_64, by decide, by decide, by decide +kernel⟩
theorem tw_643 : Cond.methodLink RX6 265 yX2_column ∈ lw_g := lg_in (List.mem_of_getElem? (i := 643) (by decide +kernel)) rfl
theorem tw_644 : Cond.instanceMethod yX2_column ∈ lw_g := lg_in (List.mem_of_getElem? (i := 644) (by decide +kernel)) rfl
theorem tw_645 : Cond.selects RX2 yX2_column yX2_column ∈ lw_g := lg_in (List.mem_of_getElem? (i := 645) (by decide +kernel)) rfl
theorem lk_X6_265 : xLV RX6 265 yX2_column 0 := ⟨tw_643, tw_644, tw_645, lyX2_column⟩
theorem lyX2_kind : xLy yX2_kind 0 := ⟨tw_64, by decide, by decide, by decide +kernel⟩
theorem tw_647 : Cond.methodLink RX6 267 yX2_kind ∈ lw_g := lg_in (List.mem_of_getElem? (i := 647) (by decide +kernel)) rfl
theorem tw_648 : Cond.instanceMethod yX2_kind ∈ lw_g := lg_in (List.mem_of_getElem? (i := 648) (by decide +kernel)) rfl
theorem tw_649 : Cond.selects RX2 yX2_kind yX2_kind ∈ lw_g := lg_in (List.mem_of_getElem? (i := 649) (by decide +kernel)) rfl
theorem lk_X6_267 : xLV RX6 267 yX2_kind 0 := ⟨tw_647, tw_648, tw_649, lyX2_kind⟩
theorem lyX2_row : xLy yX2_row 0 := ⟨tw_64, by decide, by decide, by decide +kernel⟩
theorem tw_651 : Cond.methodLink RX6 271 yX2_row ∈ lw_g := lg_in (List.mem_of_getElem? (i := 651) (by decide +kernel)) rfl
theorem tw_652 : Cond.instanceMethod yX2_row ∈ lw_g := lg_in (List.mem_of_getElem? (i := 652) (by decide +kernel)) rfl
theorem tw_653 : Cond.selects RX2 yX2_row yX2_row ∈ lw_g := lg_in (List.mem_of_getElem? (i := 653) (by decide +kernel)) rfl
theorem lk_X6_271 : xLV RX6 271 yX2_row 0 := ⟨tw_651, tw_652, tw_653, lyX2_row⟩
theorem lyX2_operand : xLy yX2_operand 0 := ⟨tw_64, by decide, by decide, by decide +kernel⟩
theorem tw_655 : Cond.methodLink RX6 274 yX2_operand ∈ lw_g := lg_in (List.mem_of_getElem? (i := 655) (by decide +kernel)) rfl
theorem tw_656 : Cond.instanceMethod yX2_operand ∈ lw_g := lg_in (List.mem_of_getElem? (i := 656) (by decide +kernel)) rfl
theorem tw_657 : Cond.selects RX2 yX2_operand yX2_operand ∈ lw_g := lg_in (List.mem_of_getElem? (i := 657) (by decide +kernel)) rfl
theorem lk_X6_274 : xLV RX6 274 yX2_operand 0 := ⟨tw_655, tw_656, tw_657, lyX2_operand⟩
theorem lyX6_draftRunsOfOrder : xLy yX6_draftRunsOfOrder 0 := ⟨tw_59, by decide, by decide, by decide +kernel⟩
theorem tw_659 : Cond.methodLink RX6 277 yX6_draftRunsOfOrder ∈ lw_g := lg_in (List.mem_of_getElem? (i := 659) (by decide +kernel)) rfl
theorem tw_661 : Cond.instanceMethod yX6_draftRunsOfOrder ∈ lw_g := lg_in (List.mem_of_getElem? (i := 661) (by decide +kernel)) rfl
theorem tw_18 : Cond.selects RX6 yX6_draftRunsOfOrder yX6_draftRunsOfOrder ∈ lw_g := lg_in (List.mem_of_getElem? (i := 18) (by decide +kernel)) rfl
theorem lk_X6_277 : xLV RX6 277 yX6_draftRunsOfOrder 0 := ⟨tw_659, tw_661, tw_18, lyX6_draftRunsOfOrder⟩
theorem lyX2_runs : xLy yX2_runs 0 := ⟨tw_64, by decide, by decide, by decide +kernel⟩
theorem tw_663 : Cond.methodLink RX6 280 yX2_runs ∈ lw_g := lg_in (List.mem_of_getElem? (i := 663) (by decide +kernel)) rfl
theorem tw_664 : Cond.instanceMethod yX2_runs ∈ lw_g := lg_in (List.mem_of_getElem? (i := 664) (by decide +kernel)) rfl
theorem tw_665 : Cond.selects RX2 yX2_runs yX2_runs ∈ lw_g := lg_in (List.mem_of_getElem? (i := 665) (by decide +kernel)) rfl
theorem lk_X6_280 : xLV RX6 280 yX2_runs 0 := ⟨tw_663, tw_664, tw_665, lyX2_runs⟩
theorem lyX2_lengthOfRun : xLy yX2_lengthOfRun 1 := ⟨tw_64, by decide, by decide, by decide +kernel⟩
theorem tw_667 : Cond.methodLink RX6 281 yX2_lengthOfRun ∈ lw_g := lg_in (List.mem_of_getElem? (i := 667) (by decide +kernel)) rfl
theorem tw_668 : Cond.instanceMethod yX2_lengthOfRun ∈ lw_g := lg_in (List.mem_of_getElem? (i := 668) (by decide +kernel)) rfl
theorem tw_669 : Cond.selects RX2 yX2_lengthOfRun yX2_lengthOfRun ∈ lw_g := lg_in (List.mem_of_getElem? (i := 669) (by decide +kernel)) rfl
theorem lk_X6_281 : xLV RX6 281 yX2_lengthOfRun 1 := ⟨tw_667, tw_668, tw_669, lyX2_lengthOfRun⟩
theorem lyX2_valueOfRun : xLy yX2_valueOfRun 1 := ⟨tw_64, by decide, by decide, by decide +kernel⟩
theorem tw_671 : Cond.methodLink RX6 282 yX2_valueOfRun ∈ lw_g := lg_in (List.mem_of_getElem? (i := 671) (by decide +kernel)) rfl
theorem tw_672 : Cond.instanceMethod yX2_valueOfRun ∈ lw_g := lg_in (List.mem_of_getElem? (i := 672) (by decide +kernel)) rfl
theorem tw_673 : Cond.selects RX2 yX2_valueOfRun yX2_valueOfRun ∈ lw_g := lg_in (List.mem_of_getElem? (i := 673) (by decide +kernel)) rfl
theorem lk_X6_282 : xLV RX6 282 yX2_valueOfRun 1 := ⟨tw_671, tw_672, tw_673, lyX2_valueOfRun⟩
theorem lyX0_isOverfull : xLy yX0_isOverfull 0 := ⟨tw_61, by decide, by decide, by decide +kernel⟩
theorem tw_247 : Cond.methodLink RX6 283 yX0_isOverfull ∈ lw_g := lg_in (List.mem_of_getElem? (i := 247) (by decide +kernel)) rfl
theorem tw_248 : Cond.instanceMethod yX0_isOverfull ∈ lw_g := lg_in (List.mem_of_getElem? (i := 248) (by decide +kernel)) rfl
theorem tw_249 : Cond.selects RX0 yX0_isOverfull yX0_isOverfull ∈ lw_g := lg_in (List.mem_of_getElem? (i := 249) (by decide +kernel)) rfl
theorem lk_X6_283 : xLV RX6 283 yX0_isOverfull 0 := ⟨tw_247, tw_248, tw_249, lyX0_isOverfull⟩
theorem lyX2_start : xLy yX2_start 0 := ⟨tw_64, by decide, by decide, by decide +kernel⟩
theorem tw_637 : Cond.methodLink RX6 286 yX2_start ∈ lw_g := lg_in (List.mem_of_getElem? (i := 637) (by decide +kernel)) rfl
theorem tw_593 : Cond.instanceMethod yX2_start ∈ lw_g := lg_in (List.mem_of_getElem? (i := 593) (by decide +kernel)) rfl
theorem tw_594 : Cond.selects RX2 yX2_start yX2_start ∈ lw_g := lg_in (List.mem_of_getElem? (i := 594) (by decide +kernel)) rfl
theorem lk_X6_286 : xLV RX6 286 yX2_start 0 := ⟨tw_637, tw_593, tw_594, lyX2_start⟩
theorem lyX2_readOrder : xLy yX2_readOrder 0 := ⟨tw_64, by decide, by decide, by decide +kernel⟩
theorem tw_638 : Cond.methodLink RX6 289 yX2_readOrder ∈ lw_g := lg_in (List.mem_of_getElem? (i := 638) (by decide +kernel)) rfl
theorem tw_597 : Cond.instanceMethod yX2_readOrder ∈ lw_g := lg_in (List.mem_of_getElem? (i := 597) (by decide +kernel)) rfl
theorem tw_598 : Cond.selects RX2 yX2_readOrder yX2_readOrder ∈ lw_g := lg_in (List.mem_of_getElem? (i := 598) (by decide +kernel)) rfl
theorem lk_X6_289 : xLV RX6 289 yX2_readOrder 0 := ⟨tw_638, tw_597, tw_598, lyX2_readOrder⟩
theorem lyX6_draftOrder : xLy yX6_draftOrder 0 := ⟨tw_59, by decide, by decide, by decide +kernel⟩
theorem tw_639 : Cond.methodLink RX6 292 yX6_draftOrder ∈ lw_g := lg_in (List.mem_of_getElem? (i := 639) (by decide +kernel)) rfl
theorem tw_641 : Cond.instanceMethod yX6_draftOrder ∈ lw_g := lg_in (List.mem_of_getElem? (i := 641) (by decide +kernel)) rfl
theorem tw_17 : Cond.selects RX6 yX6_draftOrder yX6_draftOrder ∈ lw_g := lg_in (List.mem_of_getElem? (i := 17) (by decide +kernel)) rfl
theorem lk_X6_292 : xLV RX6 292 yX6_draftOrder 0 := ⟨tw_639, tw_641, tw_17, lyX6_draftOrder⟩
theorem lyX2_passes : xLy yX2_passes 1 := ⟨tw_64, by decide, by decide, by decide +kernel⟩
theorem tw_675 : Cond.methodLink RX6 295 yX2_passes ∈ lw_g := lg_in (List.mem_of_getElem? (i := 675) (by decide +kernel)) rfl
theorem tw_609 : Cond.instanceMethod yX2_passes ∈ lw_g := lg_in (List.mem_of_getElem? (i := 609) (by decide +kernel)) rfl
theorem tw_610 : Cond.selects RX2 yX2_passes yX2_passes ∈ lw_g := lg_in (List.mem_of_getElem? (i := 610) (by decide +kernel)) rfl
theorem lk_X6_295 : xLV RX6 295 yX2_passes 1 := ⟨tw_675, tw_609, tw_610, lyX2_passes⟩
theorem lyX4_init : xLy yX4_init 2 := ⟨tw_68, by decide, by decide, by decide +kernel⟩
theorem tw_361 : Cond.methodLink RX6 299 yX4_init ∈ lw_g := lg_in (List.mem_of_getElem? (i := 361) (by decide +kernel)) rfl
theorem tw_362 : Cond.instanceMethod yX4_init ∈ lw_g := lg_in (List.mem_of_getElem? (i := 362) (by decide +kernel)) rfl
theorem lk_X6_299 : xLI RX6 299 yX4_init 2 := ⟨tw_361, tw_362, rfl, lyX4_init⟩
theorem tw_69 : Cond.initialized RJ7 ∈ lw_g := lg_in (List.mem_of_getElem? (i := 69) (by decide +kernel)) rfl
theorem lyJ7_fill_53178 : xLy yJ7_fill_53178 2 := ⟨tw_69, by decide, by decide, by decide +kernel⟩
theorem tw_530 : Cond.methodLink RX6 302 yJ7_fill_53178 ∈ lw_g := lg_in (List.mem_of_getElem? (i := 530) (by decide +kernel)) rfl
theorem tw_531 : Cond.static yJ7_fill_53178 ∈ lw_g := lg_in (List.mem_of_getElem? (i := 531) (by decide +kernel)) rfl
theorem lk_X6_302 : xLS RX6 302 yJ7_fill_53178 2 := ⟨tw_530, tw_531, lyJ7_fill_53178⟩
theorem tw_91 : Cond.methodLink RX0 3 objectInit ∈ lw_g := lg_in (List.mem_of_getElem? (i := 91) (by decide +kernel)) rfl
theorem lyX0_runOfRow : xLy yX0_runOfRow 1 := ⟨tw_61, by decide, by decide, by decide +kernel⟩
theorem tw_319 : Cond.methodLink RX0 29 yX0_runOfRow ∈ lw_g := lg_in (List.mem_of_getElem? (i := 319) (by decide +kernel)) rfl
theorem tw_320 : Cond.instanceMethod yX0_runOfRow ∈ lw_g := lg_in (List.mem_of_getElem? (i := 320) (by decide +kernel)) rfl
theorem tw_321 : Cond.selects RX0 yX0_runOfRow yX0_runOfRow ∈ lw_g := lg_in (List.mem_of_getElem? (i := 321) (by decide +kernel)) rfl
theorem lk_X0_29 : xLV RX0 29 yX0_runOfRow 1 := ⟨tw_319, tw_320, tw_321, lyX0_runOfRow⟩
theorem tw_323 : Cond.methodLink RX0 33 yX0_valueOfRun ∈ lw_g := lg_in (List.mem_of_getElem? (i := 323) (by decide +kernel)) rfl
theorem lk_X0_33 : xLV RX0 33 yX0_valueOfRun 1 := ⟨tw_323, tw_324, tw_325, lyX0_valueOfRun⟩
theorem tw_287 : Cond.methodLink RX0 36 yJ9_max_7cf53 ∈ lw_g := lg_in (List.mem_of_getElem? (i := 287) (by decide +kernel)) rfl
theorem lk_X0_36 : xLS RX0 36 yJ9_max_7cf53 2 := ⟨tw_287, tw_288, lyJ9_max_7cf53⟩
theorem tw_559 : Cond.methodLink RX0 42 yX0_firstRowOfRun ∈ lw_g := lg_in (List.mem_of_getElem? (i := 559) (by decide +kernel)) rfl
theorem lk_X0_42 : xLV RX0 42 yX0_firstRowOfRun 1 := ⟨tw_559, tw_432, tw_433, lyX0_firstRowOfRun⟩
theorem tw_560 : Cond.methodLink RX0 45 yX0_lengthOfRun ∈ lw_g := lg_in (List.mem_of_getElem? (i := 560) (by decide +kernel)) rfl
theorem lk_X0_45 : xLV RX0 45 yX0_lengthOfRun 1 := ⟨tw_560, tw_403, tw_404, lyX0_lengthOfRun⟩
theorem tw_555 : Cond.methodLink RX0 48 yX0_runsAfterSet ∈ lw_g := lg_in (List.mem_of_getElem? (i := 555) (by decide +kernel)) rfl
theorem lk_X0_48 : xLV RX0 48 yX0_runsAfterSet 2 := ⟨tw_555, tw_556, tw_557, lyX0_runsAfterSet⟩
theorem tw_236 : Cond.methodLink RX0 51 arraycopyName ∈ lw_g := lg_in (List.mem_of_getElem? (i := 236) (by decide +kernel)) rfl
theorem tw_284 : Cond.methodLink RX0 57 yJ9_min_7cf53 ∈ lw_g := lg_in (List.mem_of_getElem? (i := 284) (by decide +kernel)) rfl
theorem lk_X0_57 : xLS RX0 57 yJ9_min_7cf53 2 := ⟨tw_284, tw_285, lyJ9_min_7cf53⟩
theorem tw_290 : Cond.methodLink RX0 60 yX0_addRun ∈ lw_g := lg_in (List.mem_of_getElem? (i := 290) (by decide +kernel)) rfl
theorem lk_X0_60 : xLV RX0 60 yX0_addRun 2 := ⟨tw_290, tw_240, tw_241, lyX0_addRun⟩
theorem tw_118 : Cond.methodLink RX1 3 objectInit ∈ lw_g := lg_in (List.mem_of_getElem? (i := 118) (by decide +kernel)) rfl
theorem tw_121 : Cond.methodLink RX1 17 yX5_init ∈ lw_g := lg_in (List.mem_of_getElem? (i := 121) (by decide +kernel)) rfl
theorem lk_X1_17 : xLI RX1 17 yX5_init 0 := ⟨tw_121, tw_82, rfl, lyX5_init⟩
theorem tw_259 : Cond.methodLink RX1 25 yX5_copyFrom ∈ lw_g := lg_in (List.mem_of_getElem? (i := 259) (by decide +kernel)) rfl
theorem lk_X1_25 : xLV RX1 25 yX5_copyFrom 1 := ⟨tw_259, tw_260, tw_261, lyX5_copyFrom⟩
theorem tw_154 : Cond.methodLink RX2 3 objectInit ∈ lw_g := lg_in (List.mem_of_getElem? (i := 154) (by decide +kernel)) rfl
theorem tw_592 : Cond.methodLink RX2 42 yX2_start ∈ lw_g := lg_in (List.mem_of_getElem? (i := 592) (by decide +kernel)) rfl
theorem lk_X2_42 : xLV RX2 42 yX2_start 0 := ⟨tw_592, tw_593, tw_594, lyX2_start⟩
theorem tw_596 : Cond.methodLink RX2 45 yX2_readOrder ∈ lw_g := lg_in (List.mem_of_getElem? (i := 596) (by decide +kernel)) rfl
theorem lk_X2_45 : xLV RX2 45 yX2_readOrder 0 := ⟨tw_596, tw_597, tw_598, lyX2_readOrder⟩
theorem tw_608 : Cond.methodLink RX2 49 yX2_passes ∈ lw_g := lg_in (List.mem_of_getElem? (i := 608) (by decide +kernel)) rfl
theorem lk_X2_49 : xLV RX2 49 yX2_passes 1 := ⟨tw_608, tw_609, tw_610, lyX2_passes⟩
theorem tw_628 : Cond.methodLink RX2 53 yX3_length ∈ lw_g := lg_in (List.mem_of_getElem? (i := 628) (by decide +kernel)) rfl
theorem lk_X2_53 : xLV RX2 53 yX3_length 0 := ⟨tw_628, tw_498, tw_499, lyX3_length⟩
theorem lyX2_readDigit : xLy yX2_readDigit 1 := ⟨tw_64, by decide, by decide, by decide +kernel⟩
theorem tw_600 : Cond.methodLink RX2 59 yX2_readDigit ∈ lw_g := lg_in (List.mem_of_getElem? (i := 600) (by decide +kernel)) rfl
theorem tw_602 : Cond.instanceMethod yX2_readDigit ∈ lw_g := lg_in (List.mem_of_getElem? (i := 602) (by decide +kernel)) rfl
theorem tw_11 : Cond.selects RX2 yX2_readDigit yX2_readDigit ∈ lw_g := lg_in (List.mem_of_getElem? (i := 11) (by decide +kernel)) rfl
theorem lk_X2_59 : xLV RX2 59 yX2_readDigit 1 := ⟨tw_600, tw_602, tw_11, lyX2_readDigit⟩
theorem lyX3_signAt : xLy yX3_signAt 1 := ⟨tw_63, by decide, by decide, by decide +kernel⟩
theorem tw_604 : Cond.methodLink RX2 66 yX3_signAt ∈ lw_g := lg_in (List.mem_of_getElem? (i := 604) (by decide +kernel)) rfl
theorem tw_605 : Cond.instanceMethod yX3_signAt ∈ lw_g := lg_in (List.mem_of_getElem? (i := 605) (by decide +kernel)) rfl
theorem tw_606 : Cond.selects RX3 yX3_signAt yX3_signAt ∈ lw_g := lg_in (List.mem_of_getElem? (i := 606) (by decide +kernel)) rfl
theorem lk_X2_66 : xLV RX2 66 yX3_signAt 1 := ⟨tw_604, tw_605, tw_606, lyX3_signAt⟩
theorem lyX2_readRuns : xLy yX2_readRuns 0 := ⟨tw_64, by decide, by decide, by decide +kernel⟩
theorem tw_612 : Cond.methodLink RX2 70 yX2_readRuns ∈ lw_g := lg_in (List.mem_of_getElem? (i := 612) (by decide +kernel)) rfl
theorem tw_614 : Cond.instanceMethod yX2_readRuns ∈ lw_g := lg_in (List.mem_of_getElem? (i := 614) (by decide +kernel)) rfl
theorem tw_12 : Cond.selects RX2 yX2_readRuns yX2_readRuns ∈ lw_g := lg_in (List.mem_of_getElem? (i := 12) (by decide +kernel)) rfl
theorem lk_X2_70 : xLV RX2 70 yX2_readRuns 0 := ⟨tw_612, tw_614, tw_12, lyX2_readRuns⟩
theorem lyX2_readRow : xLy yX2_readRow 0 := ⟨tw_64, by decide, by decide, by decide +kernel⟩
theorem tw_620 : Cond.methodLink RX2 73 yX2_readRow ∈ lw_g := lg_in (List.mem_of_getElem? (i := 620) (by decide +kernel)) rfl
theorem tw_622 : Cond.instanceMethod yX2_readRow ∈ lw_g := lg_in (List.mem_of_getElem? (i := 622) (by decide +kernel)) rfl
theorem tw_14 : Cond.selects RX2 yX2_readRow yX2_readRow ∈ lw_g := lg_in (List.mem_of_getElem? (i := 14) (by decide +kernel)) rfl
theorem lk_X2_73 : xLV RX2 73 yX2_readRow 0 := ⟨tw_620, tw_622, tw_14, lyX2_readRow⟩
theorem lyX2_readNumber : xLy yX2_readNumber 0 := ⟨tw_64, by decide, by decide, by decide +kernel⟩
theorem tw_616 : Cond.methodLink RX2 76 yX2_readNumber ∈ lw_g := lg_in (List.mem_of_getElem? (i := 616) (by decide +kernel)) rfl
theorem tw_618 : Cond.instanceMethod yX2_readNumber ∈ lw_g := lg_in (List.mem_of_getElem? (i := 618) (by decide +kernel)) rfl
theorem tw_13 : Cond.selects RX2 yX2_readNumber yX2_readNumber ∈ lw_g := lg_in (List.mem_of_getElem? (i := 13) (by decide +kernel)) rfl
theorem lk_X2_76 : xLV RX2 76 yX2_readNumber 0 := ⟨tw_616, tw_618, tw_13, lyX2_readNumber⟩
theorem lyX2_keepOperand : xLy yX2_keepOperand 0 := ⟨tw_64, by decide, by decide, by decide +kernel⟩
theorem tw_624 : Cond.methodLink RX2 79 yX2_keepOperand ∈ lw_g := lg_in (List.mem_of_getElem? (i := 624) (by decide +kernel)) rfl
theorem tw_626 : Cond.instanceMethod yX2_keepOperand ∈ lw_g := lg_in (List.mem_of_getElem? (i := 626) (by decide +kernel)) rfl
theorem tw_15 : Cond.selects RX2 yX2_keepOperand yX2_keepOperand ∈ lw_g := lg_in (List.mem_of_getElem? (i := 15) (by decide +kernel)) rfl
theorem lk_X2_79 : xLV RX2 79 yX2_keepOperand 0 := ⟨tw_624, tw_626, tw_15, lyX2_keepOperand⟩
theorem tw_139 : Cond.methodLink RX3 3 objectInit ∈ lw_g := lg_in (List.mem_of_getElem? (i := 139) (by decide +kernel)) rfl
theorem tw_364 : Cond.methodLink RX4 1 objectInit ∈ lw_g := lg_in (List.mem_of_getElem? (i := 364) (by decide +kernel)) rfl
theorem tw_400 : Cond.methodLink RX4 32 yX0_runs ∈ lw_g := lg_in (List.mem_of_getElem? (i := 400) (by decide +kernel)) rfl
theorem lk_X4_32 : xLV RX4 32 yX0_runs 0 := ⟨tw_400, tw_292, tw_293, lyX0_runs⟩
theorem tw_401 : Cond.methodLink RX4 41 yX0_valueOfRun ∈ lw_g := lg_in (List.mem_of_getElem? (i := 401) (by decide +kernel)) rfl
theorem lk_X4_41 : xLV RX4 41 yX0_valueOfRun 1 := ⟨tw_401, tw_324, tw_325, lyX0_valueOfRun⟩
theorem tw_402 : Cond.methodLink RX4 45 yX0_lengthOfRun ∈ lw_g := lg_in (List.mem_of_getElem? (i := 402) (by decide +kernel)) rfl
theorem lk_X4_45 : xLV RX4 45 yX0_lengthOfRun 1 := ⟨tw_402, tw_403, tw_404, lyX0_lengthOfRun⟩
theorem tw_406 : Cond.methodLink RX4 54 yJ9_min_7cf53 ∈ lw_g := lg_in (List.mem_of_getElem? (i := 406) (by decide +kernel)) rfl
theorem lk_X4_54 : xLS RX4 54 yJ9_min_7cf53 2 := ⟨tw_406, tw_285, lyJ9_min_7cf53⟩
theorem tw_84 : Cond.methodLink RX5 3 objectInit ∈ lw_g := lg_in (List.mem_of_getElem? (i := 84) (by decide +kernel)) rfl
theorem tw_491 : Cond.methodLink RX5 18 yX0_rows ∈ lw_g := lg_in (List.mem_of_getElem? (i := 491) (by decide +kernel)) rfl
theorem lk_X5_18 : xLV RX5 18 yX0_rows 0 := ⟨tw_491, tw_265, tw_266, lyX0_rows⟩
theorem tw_496 : Cond.methodLink RX5 22 yX0_runs ∈ lw_g := lg_in (List.mem_of_getElem? (i := 496) (by decide +kernel)) rfl
theorem lk_X5_22 : xLV RX5 22 yX0_runs 0 := ⟨tw_496, tw_292, tw_293, lyX0_runs⟩
theorem tw_263 : Cond.methodLink RX5 25 yX0_copyFrom ∈ lw_g := lg_in (List.mem_of_getElem? (i := 263) (by decide +kernel)) rfl
theorem lk_X5_25 : xLV RX5 25 yX0_copyFrom 1 := ⟨tw_263, tw_233, tw_234, lyX0_copyFrom⟩
theorem lyX6_init : xLy yX6_init 0 := ⟨tw_59, by decide, by decide, by decide +kernel⟩
theorem tw_73 : Cond.methodLink RL 9 yX6_init ∈ lw_g := lg_in (List.mem_of_getElem? (i := 73) (by decide +kernel)) rfl
theorem tw_74 : Cond.instanceMethod yX6_init ∈ lw_g := lg_in (List.mem_of_getElem? (i := 74) (by decide +kernel)) rfl
theorem lk_L_9 : xLI RL 9 yX6_init 0 := ⟨tw_73, tw_74, rfl, lyX6_init⟩
theorem tw_65 : Cond.initialized RX7 ∈ lw_g := lg_in (List.mem_of_getElem? (i := 65) (by decide +kernel)) rfl
theorem lyX7_init : xLy yX7_init 0 := ⟨tw_65, by decide, by decide, by decide +kernel⟩
theorem tw_698 : Cond.methodLink RL 12 yX7_init ∈ lw_g := lg_in (List.mem_of_getElem? (i := 698) (by decide +kernel)) rfl
theorem tw_699 : Cond.instanceMethod yX7_init ∈ lw_g := lg_in (List.mem_of_getElem? (i := 699) (by decide +kernel)) rfl
theorem lk_L_12 : xLI RL 12 yX7_init 0 := ⟨tw_698, tw_699, rfl, lyX7_init⟩
theorem lyX6_append : xLy yX6_append 3 := ⟨tw_59, by decide, by decide, by decide +kernel⟩
theorem tw_211 : Cond.methodLink RL 13 yX6_append ∈ lw_g := lg_in (List.mem_of_getElem? (i := 211) (by decide +kernel)) rfl
theorem tw_212 : Cond.instanceMethod yX6_append ∈ lw_g := lg_in (List.mem_of_getElem? (i := 212) (by decide +kernel)) rfl
theorem tw_213 : Cond.selects RX6 yX6_append yX6_append ∈ lw_g := lg_in (List.mem_of_getElem? (i := 213) (by decide +kernel)) rfl
theorem lk_L_13 : xLV RL 13 yX6_append 3 := ⟨tw_211, tw_212, tw_213, lyX6_append⟩
theorem lyX7_append : xLy yX7_append 3 := ⟨tw_65, by decide, by decide, by decide +kernel⟩
theorem tw_763 : Cond.methodLink RL 17 yX7_append ∈ lw_g := lg_in (List.mem_of_getElem? (i := 763) (by decide +kernel)) rfl
theorem tw_764 : Cond.instanceMethod yX7_append ∈ lw_g := lg_in (List.mem_of_getElem? (i := 764) (by decide +kernel)) rfl
theorem tw_765 : Cond.selects RX7 yX7_append yX7_append ∈ lw_g := lg_in (List.mem_of_getElem? (i := 765) (by decide +kernel)) rfl
theorem lk_L_17 : xLV RL 17 yX7_append 3 := ⟨tw_763, tw_764, tw_765, lyX7_append⟩
theorem lyX6_insert : xLy yX6_insert 4 := ⟨tw_59, by decide, by decide, by decide +kernel⟩
theorem tw_268 : Cond.methodLink RL 18 yX6_insert ∈ lw_g := lg_in (List.mem_of_getElem? (i := 268) (by decide +kernel)) rfl
theorem tw_269 : Cond.instanceMethod yX6_insert ∈ lw_g := lg_in (List.mem_of_getElem? (i := 269) (by decide +kernel)) rfl
theorem tw_270 : Cond.selects RX6 yX6_insert yX6_insert ∈ lw_g := lg_in (List.mem_of_getElem? (i := 270) (by decide +kernel)) rfl
theorem lk_L_18 : xLV RL 18 yX6_insert 4 := ⟨tw_268, tw_269, tw_270, lyX6_insert⟩
theorem lyX7_insert : xLy yX7_insert 4 := ⟨tw_65, by decide, by decide, by decide +kernel⟩
theorem tw_815 : Cond.methodLink RL 22 yX7_insert ∈ lw_g := lg_in (List.mem_of_getElem? (i := 815) (by decide +kernel)) rfl
theorem tw_816 : Cond.instanceMethod yX7_insert ∈ lw_g := lg_in (List.mem_of_getElem? (i := 816) (by decide +kernel)) rfl
theorem tw_817 : Cond.selects RX7 yX7_insert yX7_insert ∈ lw_g := lg_in (List.mem_of_getElem? (i := 817) (by decide +kernel)) rfl
theorem lk_L_22 : xLV RL 22 yX7_insert 4 := ⟨tw_815, tw_816, tw_817, lyX7_insert⟩
theorem lyX6_remove : xLy yX6_remove 3 := ⟨tw_59, by decide, by decide, by decide +kernel⟩
theorem tw_295 : Cond.methodLink RL 23 yX6_remove ∈ lw_g := lg_in (List.mem_of_getElem? (i := 295) (by decide +kernel)) rfl
theorem tw_296 : Cond.instanceMethod yX6_remove ∈ lw_g := lg_in (List.mem_of_getElem? (i := 296) (by decide +kernel)) rfl
theorem tw_297 : Cond.selects RX6 yX6_remove yX6_remove ∈ lw_g := lg_in (List.mem_of_getElem? (i := 297) (by decide +kernel)) rfl
theorem lk_L_23 : xLV RL 23 yX6_remove 3 := ⟨tw_295, tw_296, tw_297, lyX6_remove⟩
theorem lyX7_remove : xLy yX7_remove 3 := ⟨tw_65, by decide, by decide, by decide +kernel⟩
theorem tw_823 : Cond.methodLink RL 26 yX7_remove ∈ lw_g := lg_in (List.mem_of_getElem? (i := 823) (by decide +kernel)) rfl
theorem tw_824 : Cond.instanceMethod yX7_remove ∈ lw_g := lg_in (List.mem_of_getElem? (i := 824) (by decide +kernel)) rfl
theorem tw_825 : Cond.selects RX7 yX7_remove yX7_remove ∈ lw_g := lg_in (List.mem_of_getElem? (i := 825) (by decide +kernel)) rfl
theorem lk_L_26 : xLV RL 26 yX7_remove 3 := ⟨tw_823, tw_824, tw_825, lyX7_remove⟩
theorem lyX6_set : xLy yX6_set 3 := ⟨tw_59, by decide, by decide, by decide +kernel⟩
theorem tw_307 : Cond.methodLink RL 27 yX6_set ∈ lw_g := lg_in (List.mem_of_getElem? (i := 307) (by decide +kernel)) rfl
theorem tw_308 : Cond.instanceMethod yX6_set ∈ lw_g := lg_in (List.mem_of_getElem? (i := 308) (by decide +kernel)) rfl
theorem tw_309 : Cond.selects RX6 yX6_set yX6_set ∈ lw_g := lg_in (List.mem_of_getElem? (i := 309) (by decide +kernel)) rfl
theorem lk_L_27 : xLV RL 27 yX6_set 3 := ⟨tw_307, tw_308, tw_309, lyX6_set⟩
theorem lyX7_set : xLy yX7_set 3 := ⟨tw_65, by decide, by decide, by decide +kernel⟩
theorem tw_839 : Cond.methodLink RL 30 yX7_set ∈ lw_g := lg_in (List.mem_of_getElem? (i := 839) (by decide +kernel)) rfl
theorem tw_840 : Cond.instanceMethod yX7_set ∈ lw_g := lg_in (List.mem_of_getElem? (i := 840) (by decide +kernel)) rfl
theorem tw_841 : Cond.selects RX7 yX7_set yX7_set ∈ lw_g := lg_in (List.mem_of_getElem? (i := 841) (by decide +kernel)) rfl
theorem lk_L_30 : xLV RL 30 yX7_set 3 := ⟨tw_839, tw_840, tw_841, lyX7_set⟩
theorem lyX6_sort : xLy yX6_sort 1 := ⟨tw_59, by decide, by decide, by decide +kernel⟩
theorem tw_327 : Cond.methodLink RL 31 yX6_sort ∈ lw_g := lg_in (List.mem_of_getElem? (i := 327) (by decide +kernel)) rfl
theorem tw_328 : Cond.instanceMethod yX6_sort ∈ lw_g := lg_in (List.mem_of_getElem? (i := 328) (by decide +kernel)) rfl
theorem tw_329 : Cond.selects RX6 yX6_sort yX6_sort ∈ lw_g := lg_in (List.mem_of_getElem? (i := 329) (by decide +kernel)) rfl
theorem lk_L_31 : xLV RL 31 yX6_sort 1 := ⟨tw_327, tw_328, tw_329, lyX6_sort⟩
theorem lyX7_sort : xLy yX7_sort 1 := ⟨tw_65, by decide, by decide, by decide +kernel⟩
theorem tw_851 : Cond.methodLink RL 35 yX7_sort ∈ lw_g := lg_in (List.mem_of_getElem? (i := 851) (by decide +kernel)) rfl
theorem tw_852 : Cond.instanceMethod yX7_sort ∈ lw_g := lg_in (List.mem_of_getElem? (i := 852) (by decide +kernel)) rfl
theorem tw_853 : Cond.selects RX7 yX7_sort yX7_sort ∈ lw_g := lg_in (List.mem_of_getElem? (i := 853) (by decide +kernel)) rfl
theorem lk_L_35 : xLV RL 35 yX7_sort 1 := ⟨tw_851, tw_852, tw_853, lyX7_sort⟩
theorem lyX6_turn : xLy yX6_turn 2 := ⟨tw_59, by decide, by decide, by decide +kernel⟩
theorem tw_339 : Cond.methodLink RL 36 yX6_turn ∈ lw_g := lg_in (List.mem_of_getElem? (i := 339) (by decide +kernel)) rfl
theorem tw_340 : Cond.instanceMethod yX6_turn ∈ lw_g := lg_in (List.mem_of_getElem? (i := 340) (by decide +kernel)) rfl
theorem tw_341 : Cond.selects RX6 yX6_turn yX6_turn ∈ lw_g := lg_in (List.mem_of_getElem? (i := 341) (by decide +kernel)) rfl
theorem lk_L_36 : xLV RL 36 yX6_turn 2 := ⟨tw_339, tw_340, tw_341, lyX6_turn⟩
theorem lyX7_turn : xLy yX7_turn 2 := ⟨tw_65, by decide, by decide, by decide +kernel⟩
theorem tw_863 : Cond.methodLink RL 40 yX7_turn ∈ lw_g := lg_in (List.mem_of_getElem? (i := 863) (by decide +kernel)) rfl
theorem tw_864 : Cond.instanceMethod yX7_turn ∈ lw_g := lg_in (List.mem_of_getElem? (i := 864) (by decide +kernel)) rfl
theorem tw_865 : Cond.selects RX7 yX7_turn yX7_turn ∈ lw_g := lg_in (List.mem_of_getElem? (i := 865) (by decide +kernel)) rfl
theorem lk_L_40 : xLV RL 40 yX7_turn 2 := ⟨tw_863, tw_864, tw_865, lyX7_turn⟩
theorem lyX6_merge : xLy yX6_merge 4 := ⟨tw_59, by decide, by decide, by decide +kernel⟩
theorem tw_347 : Cond.methodLink RL 41 yX6_merge ∈ lw_g := lg_in (List.mem_of_getElem? (i := 347) (by decide +kernel)) rfl
theorem tw_348 : Cond.instanceMethod yX6_merge ∈ lw_g := lg_in (List.mem_of_getElem? (i := 348) (by decide +kernel)) rfl
theorem tw_349 : Cond.selects RX6 yX6_merge yX6_merge ∈ lw_g := lg_in (List.mem_of_getElem? (i := 349) (by decide +kernel)) rfl
theorem lk_L_41 : xLV RL 41 yX6_merge 4 := ⟨tw_347, tw_348, tw_349, lyX6_merge⟩
theorem lyX7_merge : xLy yX7_merge 4 := ⟨tw_65, by decide, by decide, by decide +kernel⟩
theorem tw_867 : Cond.methodLink RL 44 yX7_merge ∈ lw_g := lg_in (List.mem_of_getElem? (i := 867) (by decide +kernel)) rfl
theorem tw_868 : Cond.instanceMethod yX7_merge ∈ lw_g := lg_in (List.mem_of_getElem? (i := 868) (by decide +kernel)) rfl
theorem tw_869 : Cond.selects RX7 yX7_merge yX7_merge ∈ lw_g := lg_in (List.mem_of_getElem? (i := 869) (by decide +kernel)) rfl
theorem lk_L_44 : xLV RL 44 yX7_merge 4 := ⟨tw_867, tw_868, tw_869, lyX7_merge⟩
theorem lyX6_run : xLy yX6_run 3 := ⟨tw_59, by decide, by decide, by decide +kernel⟩
theorem tw_425 : Cond.methodLink RL 45 yX6_run ∈ lw_g := lg_in (List.mem_of_getElem? (i := 425) (by decide +kernel)) rfl
theorem tw_426 : Cond.instanceMethod yX6_run ∈ lw_g := lg_in (List.mem_of_getElem? (i := 426) (by decide +kernel)) rfl
theorem tw_427 : Cond.selects RX6 yX6_run yX6_run ∈ lw_g := lg_in (List.mem_of_getElem? (i := 427) (by decide +kernel)) rfl
theorem lk_L_45 : xLV RL 45 yX6_run 3 := ⟨tw_425, tw_426, tw_427, lyX6_run⟩
theorem lyX7_run : xLy yX7_run 3 := ⟨tw_65, by decide, by decide, by decide +kernel⟩
theorem tw_875 : Cond.methodLink RL 48 yX7_run ∈ lw_g := lg_in (List.mem_of_getElem? (i := 875) (by decide +kernel)) rfl
theorem tw_876 : Cond.instanceMethod yX7_run ∈ lw_g := lg_in (List.mem_of_getElem? (i := 876) (by decide +kernel)) rfl
theorem tw_877 : Cond.selects RX7 yX7_run yX7_run ∈ lw_g := lg_in (List.mem_of_getElem? (i := 877) (by decide +kernel)) rfl
theorem lk_L_48 : xLV RL 48 yX7_run 3 := ⟨tw_875, tw_876, tw_877, lyX7_run⟩
theorem lyX6_value : xLy yX6_value 2 := ⟨tw_59, by decide, by decide, by decide +kernel⟩
theorem tw_435 : Cond.methodLink RL 49 yX6_value ∈ lw_g := lg_in (List.mem_of_getElem? (i := 435) (by decide +kernel)) rfl
theorem tw_436 : Cond.instanceMethod yX6_value ∈ lw_g := lg_in (List.mem_of_getElem? (i := 436) (by decide +kernel)) rfl
theorem tw_437 : Cond.selects RX6 yX6_value yX6_value ∈ lw_g := lg_in (List.mem_of_getElem? (i := 437) (by decide +kernel)) rfl
theorem lk_L_49 : xLV RL 49 yX6_value 2 := ⟨tw_435, tw_436, tw_437, lyX6_value⟩
theorem lyX7_value : xLy yX7_value 2 := ⟨tw_65, by decide, by decide, by decide +kernel⟩
theorem tw_883 : Cond.methodLink RL 52 yX7_value ∈ lw_g := lg_in (List.mem_of_getElem? (i := 883) (by decide +kernel)) rfl
theorem tw_884 : Cond.instanceMethod yX7_value ∈ lw_g := lg_in (List.mem_of_getElem? (i := 884) (by decide +kernel)) rfl
theorem tw_885 : Cond.selects RX7 yX7_value yX7_value ∈ lw_g := lg_in (List.mem_of_getElem? (i := 885) (by decide +kernel)) rfl
theorem lk_L_52 : xLV RL 52 yX7_value 2 := ⟨tw_883, tw_884, tw_885, lyX7_value⟩
theorem lyX6_find : xLy yX6_find 3 := ⟨tw_59, by decide, by decide, by decide +kernel⟩
theorem tw_439 : Cond.methodLink RL 53 yX6_find ∈ lw_g := lg_in (List.mem_of_getElem? (i := 439) (by decide +kernel)) rfl
theorem tw_440 : Cond.instanceMethod yX6_find ∈ lw_g := lg_in (List.mem_of_getElem? (i := 440) (by decide +kernel)) rfl
theorem tw_441 : Cond.selects RX6 yX6_find yX6_find ∈ lw_g := lg_in (List.mem_of_getElem? (i := 441) (by decide +kernel)) rfl
theorem lk_L_53 : xLV RL 53 yX6_find 3 := ⟨tw_439, tw_440, tw_441, lyX6_find⟩
theorem lyX7_find : xLy yX7_find 3 := ⟨tw_65, by decide, by decide, by decide +kernel⟩
theorem tw_887 : Cond.methodLink RL 56 yX7_find ∈ lw_g := lg_in (List.mem_of_getElem? (i := 887) (by decide +kernel)) rfl
theorem tw_888 : Cond.instanceMethod yX7_find ∈ lw_g := lg_in (List.mem_of_getElem? (i := 888) (by decide +kernel)) rfl
theorem tw_889 : Cond.selects RX7 yX7_find yX7_find ∈ lw_g := lg_in (List.mem_of_getElem? (i := 889) (by decide +kernel)) rfl
theorem lk_L_56 : xLV RL 56 yX7_find 3 := ⟨tw_887, tw_888, tw_889, lyX7_find⟩
theorem lyX6_ofColumn : xLy yX6_ofColumn 2 := ⟨tw_59, by decide, by decide, by decide +kernel⟩
theorem tw_447 : Cond.methodLink RL 57 yX6_ofColumn ∈ lw_g := lg_in (List.mem_of_getElem? (i := 447) (by decide +kernel)) rfl
theorem tw_448 : Cond.instanceMethod yX6_ofColumn ∈ lw_g := lg_in (List.mem_of_getElem? (i := 448) (by decide +kernel)) rfl
theorem tw_449 : Cond.selects RX6 yX6_ofColumn yX6_ofColumn ∈ lw_g := lg_in (List.mem_of_getElem? (i := 449) (by decide +kernel)) rfl
theorem lk_L_57 : xLV RL 57 yX6_ofColumn 2 := ⟨tw_447, tw_448, tw_449, lyX6_ofColumn⟩
theorem lyX7_ofColumn : xLy yX7_ofColumn 2 := ⟨tw_65, by decide, by decide, by decide +kernel⟩
theorem tw_891 : Cond.methodLink RL 60 yX7_ofColumn ∈ lw_g := lg_in (List.mem_of_getElem? (i := 891) (by decide +kernel)) rfl
theorem tw_892 : Cond.instanceMethod yX7_ofColumn ∈ lw_g := lg_in (List.mem_of_getElem? (i := 892) (by decide +kernel)) rfl
theorem tw_893 : Cond.selects RX7 yX7_ofColumn yX7_ofColumn ∈ lw_g := lg_in (List.mem_of_getElem? (i := 893) (by decide +kernel)) rfl
theorem lk_L_60 : xLV RL 60 yX7_ofColumn 2 := ⟨tw_891, tw_892, tw_893, lyX7_ofColumn⟩
theorem lyX6_group : xLy yX6_group 3 := ⟨tw_59, by decide, by decide, by decide +kernel⟩
theorem tw_471 : Cond.methodLink RL 61 yX6_group ∈ lw_g := lg_in (List.mem_of_getElem? (i := 471) (by decide +kernel)) rfl
theorem tw_472 : Cond.instanceMethod yX6_group ∈ lw_g := lg_in (List.mem_of_getElem? (i := 472) (by decide +kernel)) rfl
theorem tw_473 : Cond.selects RX6 yX6_group yX6_group ∈ lw_g := lg_in (List.mem_of_getElem? (i := 473) (by decide +kernel)) rfl
theorem lk_L_61 : xLV RL 61 yX6_group 3 := ⟨tw_471, tw_472, tw_473, lyX6_group⟩
theorem lyX7_group : xLy yX7_group 3 := ⟨tw_65, by decide, by decide, by decide +kernel⟩
theorem tw_911 : Cond.methodLink RL 64 yX7_group ∈ lw_g := lg_in (List.mem_of_getElem? (i := 911) (by decide +kernel)) rfl
theorem tw_912 : Cond.instanceMethod yX7_group ∈ lw_g := lg_in (List.mem_of_getElem? (i := 912) (by decide +kernel)) rfl
theorem tw_913 : Cond.selects RX7 yX7_group yX7_group ∈ lw_g := lg_in (List.mem_of_getElem? (i := 913) (by decide +kernel)) rfl
theorem lk_L_64 : xLV RL 64 yX7_group 3 := ⟨tw_911, tw_912, tw_913, lyX7_group⟩
theorem lyX6_count : xLy yX6_count 1 := ⟨tw_59, by decide, by decide, by decide +kernel⟩
theorem tw_483 : Cond.methodLink RL 65 yX6_count ∈ lw_g := lg_in (List.mem_of_getElem? (i := 483) (by decide +kernel)) rfl
theorem tw_484 : Cond.instanceMethod yX6_count ∈ lw_g := lg_in (List.mem_of_getElem? (i := 484) (by decide +kernel)) rfl
theorem tw_485 : Cond.selects RX6 yX6_count yX6_count ∈ lw_g := lg_in (List.mem_of_getElem? (i := 485) (by decide +kernel)) rfl
theorem lk_L_65 : xLV RL 65 yX6_count 1 := ⟨tw_483, tw_484, tw_485, lyX6_count⟩
theorem lyX7_count : xLy yX7_count 1 := ⟨tw_65, by decide, by decide, by decide +kernel⟩
theorem tw_919 : Cond.methodLink RL 68 yX7_count ∈ lw_g := lg_in (List.mem_of_getElem? (i := 919) (by decide +kernel)) rfl
theorem tw_920 : Cond.instanceMethod yX7_count ∈ lw_g := lg_in (List.mem_of_getElem? (i := 920) (by decide +kernel)) rfl
theorem tw_921 : Cond.selects RX7 yX7_count yX7_count ∈ lw_g := lg_in (List.mem_of_getElem? (i := 921) (by decide +kernel)) rfl
theorem lk_L_68 : xLV RL 68 yX7_count 1 := ⟨tw_919, tw_920, tw_921, lyX7_count⟩
theorem lyX6_pair : xLy yX6_pair 4 := ⟨tw_59, by decide, by decide, by decide +kernel⟩
theorem tw_505 : Cond.methodLink RL 69 yX6_pair ∈ lw_g := lg_in (List.mem_of_getElem? (i := 505) (by decide +kernel)) rfl
theorem tw_506 : Cond.instanceMethod yX6_pair ∈ lw_g := lg_in (List.mem_of_getElem? (i := 506) (by decide +kernel)) rfl
theorem tw_507 : Cond.selects RX6 yX6_pair yX6_pair ∈ lw_g := lg_in (List.mem_of_getElem? (i := 507) (by decide +kernel)) rfl
theorem lk_L_69 : xLV RL 69 yX6_pair 4 := ⟨tw_505, tw_506, tw_507, lyX6_pair⟩
theorem lyX7_pair : xLy yX7_pair 4 := ⟨tw_65, by decide, by decide, by decide +kernel⟩
theorem tw_931 : Cond.methodLink RL 72 yX7_pair ∈ lw_g := lg_in (List.mem_of_getElem? (i := 931) (by decide +kernel)) rfl
theorem tw_932 : Cond.instanceMethod yX7_pair ∈ lw_g := lg_in (List.mem_of_getElem? (i := 932) (by decide +kernel)) rfl
theorem tw_933 : Cond.selects RX7 yX7_pair yX7_pair ∈ lw_g := lg_in (List.mem_of_getElem? (i := 933) (by decide +kernel)) rfl
theorem lk_L_72 : xLV RL 72 yX7_pair 4 := ⟨tw_931, tw_932, tw_933, lyX7_pair⟩
theorem lyX6_joined : xLy yX6_joined 3 := ⟨tw_59, by decide, by decide, by decide +kernel⟩
theorem tw_513 : Cond.methodLink RL 73 yX6_joined ∈ lw_g := lg_in (List.mem_of_getElem? (i := 513) (by decide +kernel)) rfl
theorem tw_514 : Cond.instanceMethod yX6_joined ∈ lw_g := lg_in (List.mem_of_getElem? (i := 514) (by decide +kernel)) rfl
theorem tw_515 : Cond.selects RX6 yX6_joined yX6_joined ∈ lw_g := lg_in (List.mem_of_getElem? (i := 515) (by decide +kernel)) rfl
theorem lk_L_73 : xLV RL 73 yX6_joined 3 := ⟨tw_513, tw_514, tw_515, lyX6_joined⟩
theorem lyX7_joined : xLy yX7_joined 3 := ⟨tw_65, by decide, by decide, by decide +kernel⟩
theorem tw_939 : Cond.methodLink RL 76 yX7_joined ∈ lw_g := lg_in (List.mem_of_getElem? (i := 939) (by decide +kernel)) rfl
theorem tw_940 : Cond.instanceMethod yX7_joined ∈ lw_g := lg_in (List.mem_of_getElem? (i := 940) (by decide +kernel)) rfl
theorem tw_941 : Cond.selects RX7 yX7_joined yX7_joined ∈ lw_g := lg_in (List.mem_of_getElem? (i := 941) (by decide +kernel)) rfl
theorem lk_L_76 : xLV RL 76 yX7_joined 3 := ⟨tw_939, tw_940, tw_941, lyX7_joined⟩
theorem lyX6_alike : xLy yX6_alike 2 := ⟨tw_59, by decide, by decide, by decide +kernel⟩
theorem tw_539 : Cond.methodLink RL 77 yX6_alike ∈ lw_g := lg_in (List.mem_of_getElem? (i := 539) (by decide +kernel)) rfl
theorem tw_540 : Cond.instanceMethod yX6_alike ∈ lw_g := lg_in (List.mem_of_getElem? (i := 540) (by decide +kernel)) rfl
theorem tw_541 : Cond.selects RX6 yX6_alike yX6_alike ∈ lw_g := lg_in (List.mem_of_getElem? (i := 541) (by decide +kernel)) rfl
theorem lk_L_77 : xLV RL 77 yX6_alike 2 := ⟨tw_539, tw_540, tw_541, lyX6_alike⟩
theorem lyX7_alike : xLy yX7_alike 2 := ⟨tw_65, by decide, by decide, by decide +kernel⟩
theorem tw_947 : Cond.methodLink RL 80 yX7_alike ∈ lw_g := lg_in (List.mem_of_getElem? (i := 947) (by decide +kernel)) rfl
theorem tw_948 : Cond.instanceMethod yX7_alike ∈ lw_g := lg_in (List.mem_of_getElem? (i := 948) (by decide +kernel)) rfl
theorem tw_949 : Cond.selects RX7 yX7_alike yX7_alike ∈ lw_g := lg_in (List.mem_of_getElem? (i := 949) (by decide +kernel)) rfl
theorem lk_L_80 : xLV RL 80 yX7_alike 2 := ⟨tw_947, tw_948, tw_949, lyX7_alike⟩
theorem lyX6_saves : xLy yX6_saves 1 := ⟨tw_59, by decide, by decide, by decide +kernel⟩
theorem tw_543 : Cond.methodLink RL 81 yX6_saves ∈ lw_g := lg_in (List.mem_of_getElem? (i := 543) (by decide +kernel)) rfl
theorem tw_544 : Cond.instanceMethod yX6_saves ∈ lw_g := lg_in (List.mem_of_getElem? (i := 544) (by decide +kernel)) rfl
theorem tw_545 : Cond.selects RX6 yX6_saves yX6_saves ∈ lw_g := lg_in (List.mem_of_getElem? (i := 545) (by decide +kernel)) rfl
theorem lk_L_81 : xLV RL 81 yX6_saves 1 := ⟨tw_543, tw_544, tw_545, lyX6_saves⟩
theorem lyX7_saves : xLy yX7_saves 1 := ⟨tw_65, by decide, by decide, by decide +kernel⟩
theorem tw_951 : Cond.methodLink RL 84 yX7_saves ∈ lw_g := lg_in (List.mem_of_getElem? (i := 951) (by decide +kernel)) rfl
theorem tw_952 : Cond.instanceMethod yX7_saves ∈ lw_g := lg_in (List.mem_of_getElem? (i := 952) (by decide +kernel)) rfl
theorem tw_953 : Cond.selects RX7 yX7_saves yX7_saves ∈ lw_g := lg_in (List.mem_of_getElem? (i := 953) (by decide +kernel)) rfl
theorem lk_L_84 : xLV RL 84 yX7_saves 1 := ⟨tw_951, tw_952, tw_953, lyX7_saves⟩
theorem lyX6_bestSet : xLy yX6_bestSet 3 := ⟨tw_59, by decide, by decide, by decide +kernel⟩
theorem tw_547 : Cond.methodLink RL 85 yX6_bestSet ∈ lw_g := lg_in (List.mem_of_getElem? (i := 547) (by decide +kernel)) rfl
theorem tw_548 : Cond.instanceMethod yX6_bestSet ∈ lw_g := lg_in (List.mem_of_getElem? (i := 548) (by decide +kernel)) rfl
theorem tw_549 : Cond.selects RX6 yX6_bestSet yX6_bestSet ∈ lw_g := lg_in (List.mem_of_getElem? (i := 549) (by decide +kernel)) rfl
theorem lk_L_85 : xLV RL 85 yX6_bestSet 3 := ⟨tw_547, tw_548, tw_549, lyX6_bestSet⟩
theorem lyX7_bestSet : xLy yX7_bestSet 3 := ⟨tw_65, by decide, by decide, by decide +kernel⟩
theorem tw_958 : Cond.methodLink RL 88 yX7_bestSet ∈ lw_g := lg_in (List.mem_of_getElem? (i := 958) (by decide +kernel)) rfl
theorem tw_959 : Cond.instanceMethod yX7_bestSet ∈ lw_g := lg_in (List.mem_of_getElem? (i := 959) (by decide +kernel)) rfl
theorem tw_960 : Cond.selects RX7 yX7_bestSet yX7_bestSet ∈ lw_g := lg_in (List.mem_of_getElem? (i := 960) (by decide +kernel)) rfl
theorem lk_L_88 : xLV RL 88 yX7_bestSet 3 := ⟨tw_958, tw_959, tw_960, lyX7_bestSet⟩
theorem lyX6_put : xLy yX6_put 1 := ⟨tw_59, by decide, by decide, by decide +kernel⟩
theorem tw_562 : Cond.methodLink RL 91 yX6_put ∈ lw_g := lg_in (List.mem_of_getElem? (i := 562) (by decide +kernel)) rfl
theorem tw_563 : Cond.instanceMethod yX6_put ∈ lw_g := lg_in (List.mem_of_getElem? (i := 563) (by decide +kernel)) rfl
theorem tw_564 : Cond.selects RX6 yX6_put yX6_put ∈ lw_g := lg_in (List.mem_of_getElem? (i := 564) (by decide +kernel)) rfl
theorem lk_L_91 : xLV RL 91 yX6_put 1 := ⟨tw_562, tw_563, tw_564, lyX6_put⟩
theorem lyX7_put : xLy yX7_put 1 := ⟨tw_65, by decide, by decide, by decide +kernel⟩
theorem tw_966 : Cond.methodLink RL 95 yX7_put ∈ lw_g := lg_in (List.mem_of_getElem? (i := 966) (by decide +kernel)) rfl
theorem tw_967 : Cond.instanceMethod yX7_put ∈ lw_g := lg_in (List.mem_of_getElem? (i := 967) (by decide +kernel)) rfl
theorem tw_968 : Cond.selects RX7 yX7_put yX7_put ∈ lw_g := lg_in (List.mem_of_getElem? (i := 968) (by decide +kernel)) rfl
theorem lk_L_95 : xLV RL 95 yX7_put 1 := ⟨tw_966, tw_967, tw_968, lyX7_put⟩
theorem lyX6_wipe : xLy yX6_wipe 0 := ⟨tw_59, by decide, by decide, by decide +kernel⟩
theorem tw_576 : Cond.methodLink RL 96 yX6_wipe ∈ lw_g := lg_in (List.mem_of_getElem? (i := 576) (by decide +kernel)) rfl
theorem tw_577 : Cond.instanceMethod yX6_wipe ∈ lw_g := lg_in (List.mem_of_getElem? (i := 577) (by decide +kernel)) rfl
theorem tw_578 : Cond.selects RX6 yX6_wipe yX6_wipe ∈ lw_g := lg_in (List.mem_of_getElem? (i := 578) (by decide +kernel)) rfl
theorem lk_L_96 : xLV RL 96 yX6_wipe 0 := ⟨tw_576, tw_577, tw_578, lyX6_wipe⟩
theorem lyX7_wipe : xLy yX7_wipe 0 := ⟨tw_65, by decide, by decide, by decide +kernel⟩
theorem tw_971 : Cond.methodLink RL 100 yX7_wipe ∈ lw_g := lg_in (List.mem_of_getElem? (i := 971) (by decide +kernel)) rfl
theorem tw_972 : Cond.instanceMethod yX7_wipe ∈ lw_g := lg_in (List.mem_of_getElem? (i := 972) (by decide +kernel)) rfl
theorem tw_973 : Cond.selects RX7 yX7_wipe yX7_wipe ∈ lw_g := lg_in (List.mem_of_getElem? (i := 973) (by decide +kernel)) rfl
theorem lk_L_100 : xLV RL 100 yX7_wipe 0 := ⟨tw_971, tw_972, tw_973, lyX7_wipe⟩
theorem lyX6_fault : xLy yX6_fault 0 := ⟨tw_59, by decide, by decide, by decide +kernel⟩
theorem tw_584 : Cond.methodLink RL 101 yX6_fault ∈ lw_g := lg_in (List.mem_of_getElem? (i := 584) (by decide +kernel)) rfl
theorem tw_585 : Cond.instanceMethod yX6_fault ∈ lw_g := lg_in (List.mem_of_getElem? (i := 585) (by decide +kernel)) rfl
theorem tw_586 : Cond.selects RX6 yX6_fault yX6_fault ∈ lw_g := lg_in (List.mem_of_getElem? (i := 586) (by decide +kernel)) rfl
theorem lk_L_101 : xLV RL 101 yX6_fault 0 := ⟨tw_584, tw_585, tw_586, lyX6_fault⟩
theorem lyX7_fault : xLy yX7_fault 0 := ⟨tw_65, by decide, by decide, by decide +kernel⟩
theorem tw_975 : Cond.methodLink RL 104 yX7_fault ∈ lw_g := lg_in (List.mem_of_getElem? (i := 975) (by decide +kernel)) rfl
theorem tw_976 : Cond.instanceMethod yX7_fault ∈ lw_g := lg_in (List.mem_of_getElem? (i := 976) (by decide +kernel)) rfl
theorem tw_977 : Cond.selects RX7 yX7_fault yX7_fault ∈ lw_g := lg_in (List.mem_of_getElem? (i := 977) (by decide +kernel)) rfl
theorem lk_L_104 : xLV RL 104 yX7_fault 0 := ⟨tw_975, tw_976, tw_977, lyX7_fault⟩
theorem lyX6_carryOut : xLy yX6_carryOut 0 := ⟨tw_59, by decide, by decide, by decide +kernel⟩
theorem tw_629 : Cond.methodLink RL 105 yX6_carryOut ∈ lw_g := lg_in (List.mem_of_getElem? (i := 629) (by decide +kernel)) rfl
theorem tw_630 : Cond.instanceMethod yX6_carryOut ∈ lw_g := lg_in (List.mem_of_getElem? (i := 630) (by decide +kernel)) rfl
theorem tw_631 : Cond.selects RX6 yX6_carryOut yX6_carryOut ∈ lw_g := lg_in (List.mem_of_getElem? (i := 631) (by decide +kernel)) rfl
theorem lk_L_105 : xLV RL 105 yX6_carryOut 0 := ⟨tw_629, tw_630, tw_631, lyX6_carryOut⟩
theorem lyX7_carryOut : xLy yX7_carryOut 0 := ⟨tw_65, by decide, by decide, by decide +kernel⟩
theorem tw_1011 : Cond.methodLink RL 108 yX7_carryOut ∈ lw_g := lg_in (List.mem_of_getElem? (i := 1011) (by decide +kernel)) rfl
theorem tw_1012 : Cond.instanceMethod yX7_carryOut ∈ lw_g := lg_in (List.mem_of_getElem? (i := 1012) (by decide +kernel)) rfl
theorem tw_1013 : Cond.selects RX7 yX7_carryOut yX7_carryOut ∈ lw_g := lg_in (List.mem_of_getElem? (i := 1013) (by decide +kernel)) rfl
theorem lk_L_108 : xLV RL 108 yX7_carryOut 0 := ⟨tw_1011, tw_1012, tw_1013, lyX7_carryOut⟩
theorem lyX6_undo : xLy yX6_undo 0 := ⟨tw_59, by decide, by decide, by decide +kernel⟩
theorem tw_676 : Cond.methodLink RL 109 yX6_undo ∈ lw_g := lg_in (List.mem_of_getElem? (i := 676) (by decide +kernel)) rfl
theorem tw_677 : Cond.instanceMethod yX6_undo ∈ lw_g := lg_in (List.mem_of_getElem? (i := 677) (by decide +kernel)) rfl
theorem tw_678 : Cond.selects RX6 yX6_undo yX6_undo ∈ lw_g := lg_in (List.mem_of_getElem? (i := 678) (by decide +kernel)) rfl
theorem lk_L_109 : xLV RL 109 yX6_undo 0 := ⟨tw_676, tw_677, tw_678, lyX6_undo⟩
theorem lyX7_undo : xLy yX7_undo 0 := ⟨tw_65, by decide, by decide, by decide +kernel⟩
theorem tw_1023 : Cond.methodLink RL 112 yX7_undo ∈ lw_g := lg_in (List.mem_of_getElem? (i := 1023) (by decide +kernel)) rfl
theorem tw_1024 : Cond.instanceMethod yX7_undo ∈ lw_g := lg_in (List.mem_of_getElem? (i := 1024) (by decide +kernel)) rfl
theorem tw_1025 : Cond.selects RX7 yX7_undo yX7_undo ∈ lw_g := lg_in (List.mem_of_getElem? (i := 1025) (by decide +kernel)) rfl
theorem lk_L_112 : xLV RL 112 yX7_undo 0 := ⟨tw_1023, tw_1024, tw_1025, lyX7_undo⟩
theorem lyX6_save : xLy yX6_save 1 := ⟨tw_59, by decide, by decide, by decide +kernel⟩
theorem tw_684 : Cond.methodLink RL 113 yX6_save ∈ lw_g := lg_in (List.mem_of_getElem? (i := 684) (by decide +kernel)) rfl
theorem tw_685 : Cond.instanceMethod yX6_save ∈ lw_g := lg_in (List.mem_of_getElem? (i := 685) (by decide +kernel)) rfl
theorem tw_686 : Cond.selects RX6 yX6_save yX6_save ∈ lw_g := lg_in (List.mem_of_getElem? (i := 686) (by decide +kernel)) rfl
theorem lk_L_113 : xLV RL 113 yX6_save 1 := ⟨tw_684, tw_685, tw_686, lyX6_save⟩
theorem lyX7_save : xLy yX7_save 1 := ⟨tw_65, by decide, by decide, by decide +kernel⟩
theorem tw_1027 : Cond.methodLink RL 116 yX7_save ∈ lw_g := lg_in (List.mem_of_getElem? (i := 1027) (by decide +kernel)) rfl
theorem tw_1028 : Cond.instanceMethod yX7_save ∈ lw_g := lg_in (List.mem_of_getElem? (i := 1028) (by decide +kernel)) rfl
theorem tw_1029 : Cond.selects RX7 yX7_save yX7_save ∈ lw_g := lg_in (List.mem_of_getElem? (i := 1029) (by decide +kernel)) rfl
theorem lk_L_116 : xLV RL 116 yX7_save 1 := ⟨tw_1027, tw_1028, tw_1029, lyX7_save⟩
theorem lyX6_restore : xLy yX6_restore 1 := ⟨tw_59, by decide, by decide, by decide +kernel⟩
theorem tw_692 : Cond.methodLink RL 117 yX6_restore ∈ lw_g := lg_in (List.mem_of_getElem? (i := 692) (by decide +kernel)) rfl
theorem tw_693 : Cond.instanceMethod yX6_restore ∈ lw_g := lg_in (List.mem_of_getElem? (i := 693) (by decide +kernel)) rfl
theorem tw_694 : Cond.selects RX6 yX6_restore yX6_restore ∈ lw_g := lg_in (List.mem_of_getElem? (i := 694) (by decide +kernel)) rfl
theorem lk_L_117 : xLV RL 117 yX6_restore 1 := ⟨tw_692, tw_693, tw_694, lyX6_restore⟩
theorem lyX7_restore : xLy yX7_restore 1 := ⟨tw_65, by decide, by decide, by decide +kernel⟩
theorem tw_1031 : Cond.methodLink RL 120 yX7_restore ∈ lw_g := lg_in (List.mem_of_getElem? (i := 1031) (by decide +kernel)) rfl
theorem tw_1032 : Cond.instanceMethod yX7_restore ∈ lw_g := lg_in (List.mem_of_getElem? (i := 1032) (by decide +kernel)) rfl
theorem tw_1033 : Cond.selects RX7 yX7_restore yX7_restore ∈ lw_g := lg_in (List.mem_of_getElem? (i := 1033) (by decide +kernel)) rfl
theorem lk_L_120 : xLV RL 120 yX7_restore 1 := ⟨tw_1031, tw_1032, tw_1033, lyX7_restore⟩
theorem tw_701 : Cond.methodLink RX7 1 objectInit ∈ lw_g := lg_in (List.mem_of_getElem? (i := 701) (by decide +kernel)) rfl
theorem lyX7_moves : xLy yX7_moves 4 := ⟨tw_65, by decide, by decide, by decide +kernel⟩
theorem tw_808 : Cond.methodLink RX7 44 yX7_moves ∈ lw_g := lg_in (List.mem_of_getElem? (i := 808) (by decide +kernel)) rfl
theorem tw_809 : Cond.static yX7_moves ∈ lw_g := lg_in (List.mem_of_getElem? (i := 809) (by decide +kernel)) rfl
theorem lk_X7_44 : xLS RX7 44 yX7_moves 4 := ⟨tw_808, tw_809, lyX7_moves⟩
theorem lyX7_within : xLy yX7_within 3 := ⟨tw_65, by decide, by decide, by decide +kernel⟩
theorem tw_770 : Cond.methodLink RX7 48 yX7_within ∈ lw_g := lg_in (List.mem_of_getElem? (i := 770) (by decide +kernel)) rfl
theorem tw_771 : Cond.static yX7_within ∈ lw_g := lg_in (List.mem_of_getElem? (i := 771) (by decide +kernel)) rfl
theorem lk_X7_48 : xLS RX7 48 yX7_within 3 := ⟨tw_770, tw_771, lyX7_within⟩
theorem lyX7_runsOf : xLy yX7_runsOf 1 := ⟨tw_65, by decide, by decide, by decide +kernel⟩
theorem tw_780 : Cond.methodLink RX7 52 yX7_runsOf ∈ lw_g := lg_in (List.mem_of_getElem? (i := 780) (by decide +kernel)) rfl
theorem tw_782 : Cond.instanceMethod yX7_runsOf ∈ lw_g := lg_in (List.mem_of_getElem? (i := 782) (by decide +kernel)) rfl
theorem tw_20 : Cond.selects RX7 yX7_runsOf yX7_runsOf ∈ lw_g := lg_in (List.mem_of_getElem? (i := 20) (by decide +kernel)) rfl
theorem lk_X7_52 : xLV RX7 52 yX7_runsOf 1 := ⟨tw_780, tw_782, tw_20, lyX7_runsOf⟩
theorem lyX7_lengthOf : xLy yX7_lengthOf 2 := ⟨tw_65, by decide, by decide, by decide +kernel⟩
theorem tw_784 : Cond.methodLink RX7 56 yX7_lengthOf ∈ lw_g := lg_in (List.mem_of_getElem? (i := 784) (by decide +kernel)) rfl
theorem tw_786 : Cond.instanceMethod yX7_lengthOf ∈ lw_g := lg_in (List.mem_of_getElem? (i := 786) (by decide +kernel)) rfl
theorem tw_21 : Cond.selects RX7 yX7_lengthOf yX7_lengthOf ∈ lw_g := lg_in (List.mem_of_getElem? (i := 21) (by decide +kernel)) rfl
theorem lk_X7_56 : xLV RX7 56 yX7_lengthOf 2 := ⟨tw_784, tw_786, tw_21, lyX7_lengthOf⟩
theorem lyX7_rowsOf : xLy yX7_rowsOf 1 := ⟨tw_65, by decide, by decide, by decide +kernel⟩
theorem tw_819 : Cond.methodLink RX7 60 yX7_rowsOf ∈ lw_g := lg_in (List.mem_of_getElem? (i := 819) (by decide +kernel)) rfl
theorem tw_821 : Cond.instanceMethod yX7_rowsOf ∈ lw_g := lg_in (List.mem_of_getElem? (i := 821) (by decide +kernel)) rfl
theorem tw_28 : Cond.selects RX7 yX7_rowsOf yX7_rowsOf ∈ lw_g := lg_in (List.mem_of_getElem? (i := 28) (by decide +kernel)) rfl
theorem lk_X7_60 : xLV RX7 60 yX7_rowsOf 1 := ⟨tw_819, tw_821, tw_28, lyX7_rowsOf⟩
theorem lyX7_valueOf : xLy yX7_valueOf 2 := ⟨tw_65, by decide, by decide, by decide +kernel⟩
theorem tw_788 : Cond.methodLink RX7 66 yX7_valueOf ∈ lw_g := lg_in (List.mem_of_getElem? (i := 788) (by decide +kernel)) rfl
theorem tw_790 : Cond.instanceMethod yX7_valueOf ∈ lw_g := lg_in (List.mem_of_getElem? (i := 790) (by decide +kernel)) rfl
theorem tw_22 : Cond.selects RX7 yX7_valueOf yX7_valueOf ∈ lw_g := lg_in (List.mem_of_getElem? (i := 22) (by decide +kernel)) rfl
theorem lk_X7_66 : xLV RX7 66 yX7_valueOf 2 := ⟨tw_788, tw_790, tw_22, lyX7_valueOf⟩
theorem lyX7_runsLaid : xLy yX7_runsLaid 0 := ⟨tw_65, by decide, by decide, by decide +kernel⟩
theorem tw_800 : Cond.methodLink RX7 72 yX7_runsLaid ∈ lw_g := lg_in (List.mem_of_getElem? (i := 800) (by decide +kernel)) rfl
theorem tw_802 : Cond.instanceMethod yX7_runsLaid ∈ lw_g := lg_in (List.mem_of_getElem? (i := 802) (by decide +kernel)) rfl
theorem tw_25 : Cond.selects RX7 yX7_runsLaid yX7_runsLaid ∈ lw_g := lg_in (List.mem_of_getElem? (i := 25) (by decide +kernel)) rfl
theorem lk_X7_72 : xLV RX7 72 yX7_runsLaid 0 := ⟨tw_800, tw_802, tw_25, lyX7_runsLaid⟩
theorem lyX7_isColumn : xLy yX7_isColumn 1 := ⟨tw_65, by decide, by decide, by decide +kernel⟩
theorem tw_767 : Cond.methodLink RX7 76 yX7_isColumn ∈ lw_g := lg_in (List.mem_of_getElem? (i := 767) (by decide +kernel)) rfl
theorem tw_768 : Cond.static yX7_isColumn ∈ lw_g := lg_in (List.mem_of_getElem? (i := 768) (by decide +kernel)) rfl
theorem lk_X7_76 : xLS RX7 76 yX7_isColumn 1 := ⟨tw_767, tw_768, lyX7_isColumn⟩
theorem lyX7_isValue : xLy yX7_isValue 1 := ⟨tw_65, by decide, by decide, by decide +kernel⟩
theorem tw_773 : Cond.methodLink RX7 80 yX7_isValue ∈ lw_g := lg_in (List.mem_of_getElem? (i := 773) (by decide +kernel)) rfl
theorem tw_774 : Cond.static yX7_isValue ∈ lw_g := lg_in (List.mem_of_getElem? (i := 774) (by decide +kernel)) rfl
theorem lk_X7_80 : xLS RX7 80 yX7_isValue 1 := ⟨tw_773, tw_774, lyX7_isValue⟩
theorem lyX7_layOut : xLy yX7_layOut 1 := ⟨tw_65, by decide, by decide, by decide +kernel⟩
theorem tw_776 : Cond.methodLink RX7 83 yX7_layOut ∈ lw_g := lg_in (List.mem_of_getElem? (i := 776) (by decide +kernel)) rfl
theorem tw_778 : Cond.instanceMethod yX7_layOut ∈ lw_g := lg_in (List.mem_of_getElem? (i := 778) (by decide +kernel)) rfl
theorem tw_19 : Cond.selects RX7 yX7_layOut yX7_layOut ∈ lw_g := lg_in (List.mem_of_getElem? (i := 19) (by decide +kernel)) rfl
theorem lk_X7_83 : xLV RX7 83 yX7_layOut 1 := ⟨tw_776, tw_778, tw_19, lyX7_layOut⟩
theorem lyX7_putIn : xLy yX7_putIn 3 := ⟨tw_65, by decide, by decide, by decide +kernel⟩
theorem tw_792 : Cond.methodLink RX7 87 yX7_putIn ∈ lw_g := lg_in (List.mem_of_getElem? (i := 792) (by decide +kernel)) rfl
theorem tw_794 : Cond.instanceMethod yX7_putIn ∈ lw_g := lg_in (List.mem_of_getElem? (i := 794) (by decide +kernel)) rfl
theorem tw_23 : Cond.selects RX7 yX7_putIn yX7_putIn ∈ lw_g := lg_in (List.mem_of_getElem? (i := 23) (by decide +kernel)) rfl
theorem lk_X7_87 : xLV RX7 87 yX7_putIn 3 := ⟨tw_792, tw_794, tw_23, lyX7_putIn⟩
theorem lyX7_isTooMany : xLy yX7_isTooMany 0 := ⟨tw_65, by decide, by decide, by decide +kernel⟩
theorem tw_796 : Cond.methodLink RX7 91 yX7_isTooMany ∈ lw_g := lg_in (List.mem_of_getElem? (i := 796) (by decide +kernel)) rfl
theorem tw_798 : Cond.instanceMethod yX7_isTooMany ∈ lw_g := lg_in (List.mem_of_getElem? (i := 798) (by decide +kernel)) rfl
theorem tw_24 : Cond.selects RX7 yX7_isTooMany yX7_isTooMany ∈ lw_g := lg_in (List.mem_of_getElem? (i := 24) (by decide +kernel)) rfl
theorem lk_X7_91 : xLV RX7 91 yX7_isTooMany 0 := ⟨tw_796, tw_798, tw_24, lyX7_isTooMany⟩
theorem lyX7_record : xLy yX7_record 0 := ⟨tw_65, by decide, by decide, by decide +kernel⟩
theorem tw_804 : Cond.methodLink RX7 95 yX7_record ∈ lw_g := lg_in (List.mem_of_getElem? (i := 804) (by decide +kernel)) rfl
theorem tw_806 : Cond.instanceMethod yX7_record ∈ lw_g := lg_in (List.mem_of_getElem? (i := 806) (by decide +kernel)) rfl
theorem tw_26 : Cond.selects RX7 yX7_record yX7_record ∈ lw_g := lg_in (List.mem_of_getElem? (i := 26) (by decide +kernel)) rfl
theorem lk_X7_95 : xLV RX7 95 yX7_record 0 := ⟨tw_804, tw_806, tw_26, lyX7_record⟩
theorem lyX7_gets : xLy yX7_gets 1 := ⟨tw_65, by decide, by decide, by decide +kernel⟩
theorem tw_811 : Cond.methodLink RX7 98 yX7_gets ∈ lw_g := lg_in (List.mem_of_getElem? (i := 811) (by decide +kernel)) rfl
theorem tw_813 : Cond.instanceMethod yX7_gets ∈ lw_g := lg_in (List.mem_of_getElem? (i := 813) (by decide +kernel)) rfl
theorem tw_27 : Cond.selects RX7 yX7_gets yX7_gets ∈ lw_g := lg_in (List.mem_of_getElem? (i := 27) (by decide +kernel)) rfl
theorem lk_X7_98 : xLV RX7 98 yX7_gets 1 := ⟨tw_811, tw_813, tw_27, lyX7_gets⟩
theorem lyX7_isRow : xLy yX7_isRow 2 := ⟨tw_65, by decide, by decide, by decide +kernel⟩
theorem tw_831 : Cond.methodLink RX7 101 yX7_isRow ∈ lw_g := lg_in (List.mem_of_getElem? (i := 831) (by decide +kernel)) rfl
theorem tw_833 : Cond.instanceMethod yX7_isRow ∈ lw_g := lg_in (List.mem_of_getElem? (i := 833) (by decide +kernel)) rfl
theorem tw_30 : Cond.selects RX7 yX7_isRow yX7_isRow ∈ lw_g := lg_in (List.mem_of_getElem? (i := 30) (by decide +kernel)) rfl
theorem lk_X7_101 : xLV RX7 101 yX7_isRow 2 := ⟨tw_831, tw_833, tw_30, lyX7_isRow⟩
theorem lyX7_whyNotRemoved : xLy yX7_whyNotRemoved 3 := ⟨tw_65, by decide, by decide, by decide +kernel⟩
theorem tw_827 : Cond.methodLink RX7 105 yX7_whyNotRemoved ∈ lw_g := lg_in (List.mem_of_getElem? (i := 827) (by decide +kernel)) rfl
theorem tw_829 : Cond.instanceMethod yX7_whyNotRemoved ∈ lw_g := lg_in (List.mem_of_getElem? (i := 829) (by decide +kernel)) rfl
theorem tw_29 : Cond.selects RX7 yX7_whyNotRemoved yX7_whyNotRemoved ∈ lw_g := lg_in (List.mem_of_getElem? (i := 29) (by decide +kernel)) rfl
theorem lk_X7_105 : xLV RX7 105 yX7_whyNotRemoved 3 := ⟨tw_827, tw_829, tw_29, lyX7_whyNotRemoved⟩
theorem lyX7_removes : xLy yX7_removes 3 := ⟨tw_65, by decide, by decide, by decide +kernel⟩
theorem tw_835 : Cond.methodLink RX7 109 yX7_removes ∈ lw_g := lg_in (List.mem_of_getElem? (i := 835) (by decide +kernel)) rfl
theorem tw_837 : Cond.instanceMethod yX7_removes ∈ lw_g := lg_in (List.mem_of_getElem? (i := 837) (by decide +kernel)) rfl
theorem tw_31 : Cond.selects RX7 yX7_removes yX7_removes ∈ lw_g := lg_in (List.mem_of_getElem? (i := 31) (by decide +kernel)) rfl
theorem lk_X7_109 : xLV RX7 109 yX7_removes 3 := ⟨tw_835, tw_837, tw_31, lyX7_removes⟩
theorem lyX7_whyNotSet : xLy yX7_whyNotSet 3 := ⟨tw_65, by decide, by decide, by decide +kernel⟩
theorem tw_843 : Cond.methodLink RX7 112 yX7_whyNotSet ∈ lw_g := lg_in (List.mem_of_getElem? (i := 843) (by decide +kernel)) rfl
theorem tw_845 : Cond.instanceMethod yX7_whyNotSet ∈ lw_g := lg_in (List.mem_of_getElem? (i := 845) (by decide +kernel)) rfl
theorem tw_32 : Cond.selects RX7 yX7_whyNotSet yX7_whyNotSet ∈ lw_g := lg_in (List.mem_of_getElem? (i := 32) (by decide +kernel)) rfl
theorem lk_X7_112 : xLV RX7 112 yX7_whyNotSet 3 := ⟨tw_843, tw_845, tw_32, lyX7_whyNotSet⟩
theorem lyX7_valueAt : xLy yX7_valueAt 2 := ⟨tw_65, by decide, by decide, by decide +kernel⟩
theorem tw_847 : Cond.methodLink RX7 115 yX7_valueAt ∈ lw_g := lg_in (List.mem_of_getElem? (i := 847) (by decide +kernel)) rfl
theorem tw_849 : Cond.instanceMethod yX7_valueAt ∈ lw_g := lg_in (List.mem_of_getElem? (i := 849) (by decide +kernel)) rfl
theorem tw_33 : Cond.selects RX7 yX7_valueAt yX7_valueAt ∈ lw_g := lg_in (List.mem_of_getElem? (i := 33) (by decide +kernel)) rfl
theorem lk_X7_115 : xLV RX7 115 yX7_valueAt 2 := ⟨tw_847, tw_849, tw_33, lyX7_valueAt⟩
theorem lyX7_layOutOther : xLy yX7_layOutOther 1 := ⟨tw_65, by decide, by decide, by decide +kernel⟩
theorem tw_859 : Cond.methodLink RX7 118 yX7_layOutOther ∈ lw_g := lg_in (List.mem_of_getElem? (i := 859) (by decide +kernel)) rfl
theorem tw_861 : Cond.instanceMethod yX7_layOutOther ∈ lw_g := lg_in (List.mem_of_getElem? (i := 861) (by decide +kernel)) rfl
theorem tw_35 : Cond.selects RX7 yX7_layOutOther yX7_layOutOther ∈ lw_g := lg_in (List.mem_of_getElem? (i := 35) (by decide +kernel)) rfl
theorem lk_X7_118 : xLV RX7 118 yX7_layOutOther 1 := ⟨tw_859, tw_861, tw_35, lyX7_layOutOther⟩
theorem lyX7_sorts : xLy yX7_sorts 1 := ⟨tw_65, by decide, by decide, by decide +kernel⟩
theorem tw_855 : Cond.methodLink RX7 121 yX7_sorts ∈ lw_g := lg_in (List.mem_of_getElem? (i := 855) (by decide +kernel)) rfl
theorem tw_857 : Cond.instanceMethod yX7_sorts ∈ lw_g := lg_in (List.mem_of_getElem? (i := 857) (by decide +kernel)) rfl
theorem tw_34 : Cond.selects RX7 yX7_sorts yX7_sorts ∈ lw_g := lg_in (List.mem_of_getElem? (i := 34) (by decide +kernel)) rfl
theorem lk_X7_121 : xLV RX7 121 yX7_sorts 1 := ⟨tw_855, tw_857, tw_34, lyX7_sorts⟩
theorem lyX7_layOutBoth : xLy yX7_layOutBoth 2 := ⟨tw_65, by decide, by decide, by decide +kernel⟩
theorem tw_871 : Cond.methodLink RX7 124 yX7_layOutBoth ∈ lw_g := lg_in (List.mem_of_getElem? (i := 871) (by decide +kernel)) rfl
theorem tw_873 : Cond.instanceMethod yX7_layOutBoth ∈ lw_g := lg_in (List.mem_of_getElem? (i := 873) (by decide +kernel)) rfl
theorem tw_36 : Cond.selects RX7 yX7_layOutBoth yX7_layOutBoth ∈ lw_g := lg_in (List.mem_of_getElem? (i := 36) (by decide +kernel)) rfl
theorem lk_X7_124 : xLV RX7 124 yX7_layOutBoth 2 := ⟨tw_871, tw_873, tw_36, lyX7_layOutBoth⟩
theorem lyX7_firstRow : xLy yX7_firstRow 2 := ⟨tw_65, by decide, by decide, by decide +kernel⟩
theorem tw_879 : Cond.methodLink RX7 127 yX7_firstRow ∈ lw_g := lg_in (List.mem_of_getElem? (i := 879) (by decide +kernel)) rfl
theorem tw_881 : Cond.instanceMethod yX7_firstRow ∈ lw_g := lg_in (List.mem_of_getElem? (i := 881) (by decide +kernel)) rfl
theorem tw_37 : Cond.selects RX7 yX7_firstRow yX7_firstRow ∈ lw_g := lg_in (List.mem_of_getElem? (i := 37) (by decide +kernel)) rfl
theorem lk_X7_127 : xLV RX7 127 yX7_firstRow 2 := ⟨tw_879, tw_881, tw_37, lyX7_firstRow⟩
theorem lyX7_sumOf : xLy yX7_sumOf 1 := ⟨tw_65, by decide, by decide, by decide +kernel⟩
theorem tw_895 : Cond.methodLink RX7 130 yX7_sumOf ∈ lw_g := lg_in (List.mem_of_getElem? (i := 895) (by decide +kernel)) rfl
theorem tw_897 : Cond.instanceMethod yX7_sumOf ∈ lw_g := lg_in (List.mem_of_getElem? (i := 897) (by decide +kernel)) rfl
theorem tw_38 : Cond.selects RX7 yX7_sumOf yX7_sumOf ∈ lw_g := lg_in (List.mem_of_getElem? (i := 38) (by decide +kernel)) rfl
theorem lk_X7_130 : xLV RX7 130 yX7_sumOf 1 := ⟨tw_895, tw_897, tw_38, lyX7_sumOf⟩
theorem lyX7_longest : xLy yX7_longest 2 := ⟨tw_65, by decide, by decide, by decide +kernel⟩
theorem tw_899 : Cond.methodLink RX7 133 yX7_longest ∈ lw_g := lg_in (List.mem_of_getElem? (i := 899) (by decide +kernel)) rfl
theorem tw_901 : Cond.instanceMethod yX7_longest ∈ lw_g := lg_in (List.mem_of_getElem? (i := 901) (by decide +kernel)) rfl
theorem tw_39 : Cond.selects RX7 yX7_longest yX7_longest ∈ lw_g := lg_in (List.mem_of_getElem? (i := 39) (by decide +kernel)) rfl
theorem lk_X7_133 : xLV RX7 133 yX7_longest 2 := ⟨tw_899, tw_901, tw_39, lyX7_longest⟩
theorem lyX7_valuesOf : xLy yX7_valuesOf 1 := ⟨tw_65, by decide, by decide, by decide +kernel⟩
theorem tw_903 : Cond.methodLink RX7 136 yX7_valuesOf ∈ lw_g := lg_in (List.mem_of_getElem? (i := 903) (by decide +kernel)) rfl
theorem tw_905 : Cond.instanceMethod yX7_valuesOf ∈ lw_g := lg_in (List.mem_of_getElem? (i := 905) (by decide +kernel)) rfl
theorem tw_40 : Cond.selects RX7 yX7_valuesOf yX7_valuesOf ∈ lw_g := lg_in (List.mem_of_getElem? (i := 40) (by decide +kernel)) rfl
theorem lk_X7_136 : xLV RX7 136 yX7_valuesOf 1 := ⟨tw_903, tw_905, tw_40, lyX7_valuesOf⟩
theorem lyX7_isInOrder : xLy yX7_isInOrder 2 := ⟨tw_65, by decide, by decide, by decide +kernel⟩
theorem tw_907 : Cond.methodLink RX7 139 yX7_isInOrder ∈ lw_g := lg_in (List.mem_of_getElem? (i := 907) (by decide +kernel)) rfl
theorem tw_909 : Cond.instanceMethod yX7_isInOrder ∈ lw_g := lg_in (List.mem_of_getElem? (i := 909) (by decide +kernel)) rfl
theorem tw_41 : Cond.selects RX7 yX7_isInOrder yX7_isInOrder ∈ lw_g := lg_in (List.mem_of_getElem? (i := 41) (by decide +kernel)) rfl
theorem lk_X7_139 : xLV RX7 139 yX7_isInOrder 2 := ⟨tw_907, tw_909, tw_41, lyX7_isInOrder⟩
theorem lyX7_ofValue : xLy yX7_ofValue 3 := ⟨tw_65, by decide, by decide, by decide +kernel⟩
theorem tw_915 : Cond.methodLink RX7 143 yX7_ofValue ∈ lw_g := lg_in (List.mem_of_getElem? (i := 915) (by decide +kernel)) rfl
theorem tw_917 : Cond.instanceMethod yX7_ofValue ∈ lw_g := lg_in (List.mem_of_getElem? (i := 917) (by decide +kernel)) rfl
theorem tw_42 : Cond.selects RX7 yX7_ofValue yX7_ofValue ∈ lw_g := lg_in (List.mem_of_getElem? (i := 42) (by decide +kernel)) rfl
theorem lk_X7_143 : xLV RX7 143 yX7_ofValue 3 := ⟨tw_915, tw_917, tw_42, lyX7_ofValue⟩
theorem lyX7_allRows : xLy yX7_allRows 0 := ⟨tw_65, by decide, by decide, by decide +kernel⟩
theorem tw_923 : Cond.methodLink RX7 147 yX7_allRows ∈ lw_g := lg_in (List.mem_of_getElem? (i := 923) (by decide +kernel)) rfl
theorem tw_925 : Cond.instanceMethod yX7_allRows ∈ lw_g := lg_in (List.mem_of_getElem? (i := 925) (by decide +kernel)) rfl
theorem tw_43 : Cond.selects RX7 yX7_allRows yX7_allRows ∈ lw_g := lg_in (List.mem_of_getElem? (i := 43) (by decide +kernel)) rfl
theorem lk_X7_147 : xLV RX7 147 yX7_allRows 0 := ⟨tw_923, tw_925, tw_43, lyX7_allRows⟩
theorem lyX7_allRuns : xLy yX7_allRuns 0 := ⟨tw_65, by decide, by decide, by decide +kernel⟩
theorem tw_927 : Cond.methodLink RX7 150 yX7_allRuns ∈ lw_g := lg_in (List.mem_of_getElem? (i := 927) (by decide +kernel)) rfl
theorem tw_929 : Cond.instanceMethod yX7_allRuns ∈ lw_g := lg_in (List.mem_of_getElem? (i := 929) (by decide +kernel)) rfl
theorem tw_44 : Cond.selects RX7 yX7_allRuns yX7_allRuns ∈ lw_g := lg_in (List.mem_of_getElem? (i := 44) (by decide +kernel)) rfl
theorem lk_X7_150 : xLV RX7 150 yX7_allRuns 0 := ⟨tw_927, tw_929, tw_44, lyX7_allRuns⟩
theorem lyX7_isFirstPair : xLy yX7_isFirstPair 1 := ⟨tw_65, by decide, by decide, by decide +kernel⟩
theorem tw_935 : Cond.methodLink RX7 156 yX7_isFirstPair ∈ lw_g := lg_in (List.mem_of_getElem? (i := 935) (by decide +kernel)) rfl
theorem tw_937 : Cond.instanceMethod yX7_isFirstPair ∈ lw_g := lg_in (List.mem_of_getElem? (i := 937) (by decide +kernel)) rfl
theorem tw_45 : Cond.selects RX7 yX7_isFirstPair yX7_isFirstPair ∈ lw_g := lg_in (List.mem_of_getElem? (i := 45) (by decide +kernel)) rfl
theorem lk_X7_156 : xLV RX7 156 yX7_isFirstPair 1 := ⟨tw_935, tw_937, tw_45, lyX7_isFirstPair⟩
theorem lyX7_ofPairs : xLy yX7_ofPairs 2 := ⟨tw_65, by decide, by decide, by decide +kernel⟩
theorem tw_943 : Cond.methodLink RX7 159 yX7_ofPairs ∈ lw_g := lg_in (List.mem_of_getElem? (i := 943) (by decide +kernel)) rfl
theorem tw_945 : Cond.instanceMethod yX7_ofPairs ∈ lw_g := lg_in (List.mem_of_getElem? (i := 945) (by decide +kernel)) rfl
theorem tw_46 : Cond.selects RX7 yX7_ofPairs yX7_ofPairs ∈ lw_g := lg_in (List.mem_of_getElem? (i := 46) (by decide +kernel)) rfl
theorem lk_X7_159 : xLV RX7 159 yX7_ofPairs 2 := ⟨tw_943, tw_945, tw_46, lyX7_ofPairs⟩
theorem lyX7_bits : xLy yX7_bits 1 := ⟨tw_65, by decide, by decide, by decide +kernel⟩
theorem tw_955 : Cond.methodLink RX7 162 yX7_bits ∈ lw_g := lg_in (List.mem_of_getElem? (i := 955) (by decide +kernel)) rfl
theorem tw_956 : Cond.static yX7_bits ∈ lw_g := lg_in (List.mem_of_getElem? (i := 956) (by decide +kernel)) rfl
theorem lk_X7_162 : xLS RX7 162 yX7_bits 1 := ⟨tw_955, tw_956, lyX7_bits⟩
theorem lyX7_beginnings : xLy yX7_beginnings 1 := ⟨tw_65, by decide, by decide, by decide +kernel⟩
theorem tw_962 : Cond.methodLink RX7 165 yX7_beginnings ∈ lw_g := lg_in (List.mem_of_getElem? (i := 962) (by decide +kernel)) rfl
theorem tw_964 : Cond.instanceMethod yX7_beginnings ∈ lw_g := lg_in (List.mem_of_getElem? (i := 964) (by decide +kernel)) rfl
theorem tw_47 : Cond.selects RX7 yX7_beginnings yX7_beginnings ∈ lw_g := lg_in (List.mem_of_getElem? (i := 47) (by decide +kernel)) rfl
theorem lk_X7_165 : xLV RX7 165 yX7_beginnings 1 := ⟨tw_962, tw_964, tw_47, lyX7_beginnings⟩
theorem lyX7_character : xLy yX7_character 1 := ⟨tw_65, by decide, by decide, by decide +kernel⟩
theorem tw_991 : Cond.methodLink RX7 173 yX7_character ∈ lw_g := lg_in (List.mem_of_getElem? (i := 991) (by decide +kernel)) rfl
theorem tw_993 : Cond.instanceMethod yX7_character ∈ lw_g := lg_in (List.mem_of_getElem? (i := 993) (by decide +kernel)) rfl
theorem tw_51 : Cond.selects RX7 yX7_character yX7_character ∈ lw_g := lg_in (List.mem_of_getElem? (i := 51) (by decide +kernel)) rfl
theorem lk_X7_173 : xLV RX7 173 yX7_character 1 := ⟨tw_991, tw_993, tw_51, lyX7_character⟩
theorem lyX7_takeDigit : xLy yX7_takeDigit 1 := ⟨tw_65, by decide, by decide, by decide +kernel⟩
theorem tw_987 : Cond.methodLink RX7 176 yX7_takeDigit ∈ lw_g := lg_in (List.mem_of_getElem? (i := 987) (by decide +kernel)) rfl
theorem tw_989 : Cond.instanceMethod yX7_takeDigit ∈ lw_g := lg_in (List.mem_of_getElem? (i := 989) (by decide +kernel)) rfl
theorem tw_50 : Cond.selects RX7 yX7_takeDigit yX7_takeDigit ∈ lw_g := lg_in (List.mem_of_getElem? (i := 50) (by decide +kernel)) rfl
theorem lk_X7_176 : xLV RX7 176 yX7_takeDigit 1 := ⟨tw_987, tw_989, tw_50, lyX7_takeDigit⟩
theorem lyX7_isNext : xLy yX7_isNext 1 := ⟨tw_65, by decide, by decide, by decide +kernel⟩
theorem tw_1003 : Cond.methodLink RX7 182 yX7_isNext ∈ lw_g := lg_in (List.mem_of_getElem? (i := 1003) (by decide +kernel)) rfl
theorem tw_1005 : Cond.instanceMethod yX7_isNext ∈ lw_g := lg_in (List.mem_of_getElem? (i := 1005) (by decide +kernel)) rfl
theorem tw_54 : Cond.selects RX7 yX7_isNext yX7_isNext ∈ lw_g := lg_in (List.mem_of_getElem? (i := 54) (by decide +kernel)) rfl
theorem lk_X7_182 : xLV RX7 182 yX7_isNext 1 := ⟨tw_1003, tw_1005, tw_54, lyX7_isNext⟩
theorem lyX7_takeNumber : xLy yX7_takeNumber 0 := ⟨tw_65, by decide, by decide, by decide +kernel⟩
theorem tw_1007 : Cond.methodLink RX7 185 yX7_takeNumber ∈ lw_g := lg_in (List.mem_of_getElem? (i := 1007) (by decide +kernel)) rfl
theorem tw_1009 : Cond.instanceMethod yX7_takeNumber ∈ lw_g := lg_in (List.mem_of_getElem? (i := 1009) (by decide +kernel)) rfl
theorem tw_55 : Cond.selects RX7 yX7_takeNumber yX7_takeNumber ∈ lw_g := lg_in (List.mem_of_getElem? (i := 55) (by decide +kernel)) rfl
theorem lk_X7_185 : xLV RX7 185 yX7_takeNumber 0 := ⟨tw_1007, tw_1009, tw_55, lyX7_takeNumber⟩
theorem lyX7_readsRuns : xLy yX7_readsRuns 0 := ⟨tw_65, by decide, by decide, by decide +kernel⟩
theorem tw_999 : Cond.methodLink RX7 191 yX7_readsRuns ∈ lw_g := lg_in (List.mem_of_getElem? (i := 999) (by decide +kernel)) rfl
theorem tw_1001 : Cond.instanceMethod yX7_readsRuns ∈ lw_g := lg_in (List.mem_of_getElem? (i := 1001) (by decide +kernel)) rfl
theorem tw_53 : Cond.selects RX7 yX7_readsRuns yX7_readsRuns ∈ lw_g := lg_in (List.mem_of_getElem? (i := 53) (by decide +kernel)) rfl
theorem lk_X7_191 : xLV RX7 191 yX7_readsRuns 0 := ⟨tw_999, tw_1001, tw_53, lyX7_readsRuns⟩
theorem lyX7_readsRest : xLy yX7_readsRest 0 := ⟨tw_65, by decide, by decide, by decide +kernel⟩
theorem tw_995 : Cond.methodLink RX7 203 yX7_readsRest ∈ lw_g := lg_in (List.mem_of_getElem? (i := 995) (by decide +kernel)) rfl
theorem tw_997 : Cond.instanceMethod yX7_readsRest ∈ lw_g := lg_in (List.mem_of_getElem? (i := 997) (by decide +kernel)) rfl
theorem tw_52 : Cond.selects RX7 yX7_readsRest yX7_readsRest ∈ lw_g := lg_in (List.mem_of_getElem? (i := 52) (by decide +kernel)) rfl
theorem lk_X7_203 : xLV RX7 203 yX7_readsRest 0 := ⟨tw_995, tw_997, tw_52, lyX7_readsRest⟩
theorem lyX7_readsOrder : xLy yX7_readsOrder 0 := ⟨tw_65, by decide, by decide, by decide +kernel⟩
theorem tw_983 : Cond.methodLink RX7 206 yX7_readsOrder ∈ lw_g := lg_in (List.mem_of_getElem? (i := 983) (by decide +kernel)) rfl
theorem tw_985 : Cond.instanceMethod yX7_readsOrder ∈ lw_g := lg_in (List.mem_of_getElem? (i := 985) (by decide +kernel)) rfl
theorem tw_49 : Cond.selects RX7 yX7_readsOrder yX7_readsOrder ∈ lw_g := lg_in (List.mem_of_getElem? (i := 49) (by decide +kernel)) rfl
theorem lk_X7_206 : xLV RX7 206 yX7_readsOrder 0 := ⟨tw_983, tw_985, tw_49, lyX7_readsOrder⟩
theorem lyX7_findFault : xLy yX7_findFault 0 := ⟨tw_65, by decide, by decide, by decide +kernel⟩
theorem tw_979 : Cond.methodLink RX7 209 yX7_findFault ∈ lw_g := lg_in (List.mem_of_getElem? (i := 979) (by decide +kernel)) rfl
theorem tw_981 : Cond.instanceMethod yX7_findFault ∈ lw_g := lg_in (List.mem_of_getElem? (i := 981) (by decide +kernel)) rfl
theorem tw_48 : Cond.selects RX7 yX7_findFault yX7_findFault ∈ lw_g := lg_in (List.mem_of_getElem? (i := 48) (by decide +kernel)) rfl
theorem lk_X7_209 : xLV RX7 209 yX7_findFault 0 := ⟨tw_979, tw_981, tw_48, lyX7_findFault⟩
theorem lyX7_layOutTold : xLy yX7_layOutTold 0 := ⟨tw_65, by decide, by decide, by decide +kernel⟩
theorem tw_1019 : Cond.methodLink RX7 212 yX7_layOutTold ∈ lw_g := lg_in (List.mem_of_getElem? (i := 1019) (by decide +kernel)) rfl
theorem tw_1021 : Cond.instanceMethod yX7_layOutTold ∈ lw_g := lg_in (List.mem_of_getElem? (i := 1021) (by decide +kernel)) rfl
theorem tw_57 : Cond.selects RX7 yX7_layOutTold yX7_layOutTold ∈ lw_g := lg_in (List.mem_of_getElem? (i := 57) (by decide +kernel)) rfl
theorem lk_X7_212 : xLV RX7 212 yX7_layOutTold 0 := ⟨tw_1019, tw_1021, tw_57, lyX7_layOutTold⟩
theorem lyX7_doesOrder : xLy yX7_doesOrder 0 := ⟨tw_65, by decide, by decide, by decide +kernel⟩
theorem tw_1015 : Cond.methodLink RX7 215 yX7_doesOrder ∈ lw_g := lg_in (List.mem_of_getElem? (i := 1015) (by decide +kernel)) rfl
theorem tw_1017 : Cond.instanceMethod yX7_doesOrder ∈ lw_g := lg_in (List.mem_of_getElem? (i := 1017) (by decide +kernel)) rfl
theorem tw_56 : Cond.selects RX7 yX7_doesOrder yX7_doesOrder ∈ lw_g := lg_in (List.mem_of_getElem? (i := 56) (by decide +kernel)) rfl
theorem lk_X7_215 : xLV RX7 215 yX7_doesOrder 0 := ⟨tw_1015, tw_1017, tw_56, lyX7_doesOrder⟩
theorem lyX0_init : xLy yX0_init 0 := ⟨tw_61, by decide, by decide, by decide +kernel⟩
theorem tw_89 : Cond.instanceMethod yX0_init ∈ lw_g := lg_in (List.mem_of_getElem? (i := 89) (by decide +kernel)) rfl
theorem lk_X6_33 : xLN RX6 33 yX0_init 0 := ⟨RX6, (by decide +kernel), tw_89, rfl, lyX0_init⟩
theorem lyX3_init : xLy yX3_init 0 := ⟨tw_63, by decide, by decide, by decide +kernel⟩
theorem tw_137 : Cond.instanceMethod yX3_init ∈ lw_g := lg_in (List.mem_of_getElem? (i := 137) (by decide +kernel)) rfl
theorem lk_X6_40 : xLN RX6 40 yX3_init 0 := ⟨RX6, (by decide +kernel), tw_137, rfl, lyX3_init⟩
theorem lk_X5_17 : xLN RX5 17 yX0_init 0 := ⟨RX6, (by decide +kernel), tw_89, rfl, lyX0_init⟩
/-- a new object: class link, class, kind -/
def xLC (own : String) (idx ci N : Nat) : Prop := ∃ (C : String) (T : u_T) (tyf : Nat → FieldType), vwCl[ci]? = some (C, T, N) ∧ (∀ w ∈ u_ws C T N, w ∈ lw_g) ∧ (∀ k, k < N → parseFieldDescriptor (T k).2.2.1 = some (tyf k)) ∧ Cond.classLink own idx C ∈ lw_g ∧ Cond.instantiable C N ∈ lw_g ∧ Cond.initialized C ∈ lw_g
theorem tw_79 : Cond.classLink RX6 9 RX5 ∈ lw_g := lg_in (List.mem_of_getElem? (i := 79) (by decide +kernel)) rfl
theorem tw_80 : Cond.instantiable RX5 1 ∈ lw_g := lg_in (List.mem_of_getElem? (i := 80) (by decide +kernel)) rfl
theorem cl_X6_9 : xLC RX6 9 5 1 := ⟨RX5, TX5, tyX5, rfl, inT_X5, tyX5_ok, tw_79, tw_80, tw_60⟩
theorem tw_113 : Cond.classLink RX6 16 RX1 ∈ lw_g := lg_in (List.mem_of_getElem? (i := 113) (by decide +kernel)) rfl
theorem tw_114 : Cond.instantiable RX1 3 ∈ lw_g := lg_in (List.mem_of_getElem? (i := 114) (by decide +kernel)) rfl
theorem cl_X6_16 : xLC RX6 16 1 3 := ⟨RX1, TX1, tyX1, rfl, inT_X1, tyX1_ok, tw_113, tw_114, tw_62⟩
theorem tw_132 : Cond.classLink RX6 31 RX0 ∈ lw_g := lg_in (List.mem_of_getElem? (i := 132) (by decide +kernel)) rfl
theorem tw_87 : Cond.instantiable RX0 5 ∈ lw_g := lg_in (List.mem_of_getElem? (i := 87) (by decide +kernel)) rfl
theorem cl_X6_31 : xLC RX6 31 0 5 := ⟨RX0, TX0, tyX0, rfl, inT_X0, tyX0_ok, tw_132, tw_87, tw_61⟩
theorem tw_134 : Cond.classLink RX6 38 RX3 ∈ lw_g := lg_in (List.mem_of_getElem? (i := 134) (by decide +kernel)) rfl
theorem tw_135 : Cond.instantiable RX3 2 ∈ lw_g := lg_in (List.mem_of_getElem? (i := 135) (by decide +kernel)) rfl
theorem cl_X6_38 : xLC RX6 38 3 2 := ⟨RX3, TX3, tyX3, rfl, inT_X3, tyX3_ok, tw_134, tw_135, tw_63⟩
theorem tw_149 : Cond.classLink RX6 45 RX2 ∈ lw_g := lg_in (List.mem_of_getElem? (i := 149) (by decide +kernel)) rfl
theorem tw_150 : Cond.instantiable RX2 10 ∈ lw_g := lg_in (List.mem_of_getElem? (i := 150) (by decide +kernel)) rfl
theorem cl_X6_45 : xLC RX6 45 2 10 := ⟨RX2, TX2, tyX2, rfl, inT_X2, tyX2_ok, tw_149, tw_150, tw_64⟩
theorem tw_359 : Cond.classLink RX6 170 RX4 ∈ lw_g := lg_in (List.mem_of_getElem? (i := 359) (by decide +kernel)) rfl
theorem tw_360 : Cond.instantiable RX4 10 ∈ lw_g := lg_in (List.mem_of_getElem? (i := 360) (by decide +kernel)) rfl
theorem cl_X6_170 : xLC RX6 170 4 10 := ⟨RX4, TX4, tyX4, rfl, inT_X4, tyX4_ok, tw_359, tw_360, tw_68⟩
theorem tw_119 : Cond.classLink RX1 9 RX5 ∈ lw_g := lg_in (List.mem_of_getElem? (i := 119) (by decide +kernel)) rfl
theorem cl_X1_9 : xLC RX1 9 5 1 := ⟨RX5, TX5, tyX5, rfl, inT_X5, tyX5_ok, tw_119, tw_80, tw_60⟩
theorem tw_85 : Cond.classLink RX5 9 RX0 ∈ lw_g := lg_in (List.mem_of_getElem? (i := 85) (by decide +kernel)) rfl
theorem cl_X5_9 : xLC RX5 9 0 5 := ⟨RX0, TX0, tyX0, rfl, inT_X0, tyX0_ok, tw_85, tw_87, tw_61⟩
theorem tw_71 : Cond.classLink RL 7 RX6 ∈ lw_g := lg_in (List.mem_of_getElem? (i := 71) (by decide +kernel)) rfl
theorem tw_72 : Cond.instantiable RX6 8 ∈ lw_g := lg_in (List.mem_of_getElem? (i := 72) (by decide +kernel)) rfl
theorem cl_L_7 : xLC RL 7 6 8 := ⟨RX6, TX6, tyX6, rfl, inT_X6, tyX6_ok, tw_71, tw_72, tw_59⟩
theorem tw_696 : Cond.classLink RL 10 RX7 ∈ lw_g := lg_in (List.mem_of_getElem? (i := 696) (by decide +kernel)) rfl
theorem tw_697 : Cond.instantiable RX7 20 ∈ lw_g := lg_in (List.mem_of_getElem? (i := 697) (by decide +kernel)) rfl
theorem cl_L_10 : xLC RL 10 7 20 := ⟨RX7, TX7, tyX7, rfl, inT_X7, tyX7_ok, tw_696, tw_697, tw_65⟩
theorem tw_86 : Cond.arrayOver (.object RX0) ∈ lw_tbl := List.mem_of_getElem? (i := 86) (by decide +kernel)
theorem tw_108 : Cond.arrayClass .int ∈ lw_g := lg_in (List.mem_of_getElem? (i := 108) (by decide +kernel)) rfl
theorem tw_120 : Cond.arrayOver (.object RX5) ∈ lw_tbl := List.mem_of_getElem? (i := 120) (by decide +kernel)
theorem tw_147 : Cond.arrayClass .boolean ∈ lw_g := lg_in (List.mem_of_getElem? (i := 147) (by decide +kernel)) rfl
theorem tw_148 : Cond.arrayClass .char ∈ lw_g := lg_in (List.mem_of_getElem? (i := 148) (by decide +kernel)) rfl
theorem tw_238 : Cond.native arraycopyName ∈ lw_g := lg_in (List.mem_of_getElem? (i := 238) (by decide +kernel)) rfl
theorem tw_536 : Cond.constant RJ6 265 (1431655765) ∈ lw_g := lg_in (List.mem_of_getElem? (i := 536) (by decide +kernel)) rfl
theorem tw_537 : Cond.constant RJ6 266 (858993459) ∈ lw_g := lg_in (List.mem_of_getElem? (i := 537) (by decide +kernel)) rfl
theorem tw_538 : Cond.constant RJ6 267 (252645135) ∈ lw_g := lg_in (List.mem_of_getElem? (i := 538) (by decide +kernel)) rfl
theorem tw_569 : Cond.constantLong RX6 217 (255) ∈ lw_g := lg_in (List.mem_of_getElem? (i := 569) (by decide +kernel)) rfl
theorem tw_570 : Cond.constantLong RX6 308 (33) ∈ lw_g := lg_in (List.mem_of_getElem? (i := 570) (by decide +kernel)) rfl
theorem tw_571 : Cond.constantLong RX6 310 (126) ∈ lw_g := lg_in (List.mem_of_getElem? (i := 571) (by decide +kernel)) rfl
theorem tw_970 : Cond.constantLong RX7 168 (255) ∈ lw_g := lg_in (List.mem_of_getElem? (i := 970) (by decide +kernel)) rfl
theorem tw_1035 : Cond.constantLong RL 89 (4294967295) ∈ lw_g := lg_in (List.mem_of_getElem? (i := 1035) (by decide +kernel)) rfl
theorem tw_237 : Cond.static arraycopyName ∈ lw_g := lg_in (List.mem_of_getElem? (i := 237) (by decide +kernel)) rfl
theorem tw_58 : Cond.initialized RL ∈ lw_g := lg_in (List.mem_of_getElem? (i := 58) (by decide +kernel)) rfl
theorem tw_66 : Cond.initialized RJ10 ∈ lw_g := lg_in (List.mem_of_getElem? (i := 66) (by decide +kernel)) rfl
theorem tw_77 : Cond.instanceMethod objectInit ∈ lw_g := lg_in (List.mem_of_getElem? (i := 77) (by decide +kernel)) rfl
theorem tw_78 : Cond.code objectInit ⟨#[0xb1]⟩ 1 none ∈ lw_g := lg_in (List.mem_of_getElem? (i := 78) (by decide +kernel)) rfl
end
section
/-! The judgement over the flat world, and a row an instruction. -/
abbrev XX : Type := Program × Launch × Env × Room × State × MethodId × Array Value × List Frame × Method × Code
def xroom (d mc ms : Nat) : Room := { frames := d, cells := mc, slots := ms, locals := 34 * d }
abbrev XP : Type := Option XV → XKs → XM → Nat → Prop
/-- what the tables say beside the words: classes, array classes, nest mates -/
def xKs (G : XG) (U : State) : Prop := va_K G.1 vwCl (xty G) U ∧ va_AO RX0 U ∧ va_AO RX5 U ∧ ∀ q ∈ xnests, va_Nw (.methodLinkNest q.1 q.2.1 q.2.2.1 q.2.2.2) U
theorem xKs.warm {G : XG} {s U : State} (hW : s.WarmedH U.vm) (h : xKs G s) : xKs G U := ⟨va_K.moved hW.alike h.1, va_AO.moved hW.alike h.2.1, va_AO.moved hW.alike h.2.2.1, fun q hq => va_Nw.warmM hW (h.2.2.2 q hq)⟩
theorem xKs.same {G : XG} {s U : State} (e : s.vm = U.vm) (h : xKs G s) : xKs G U := ⟨va_K.moved (by rw [e]; exact Vm.Alike.refl _) h.1, va_AO.moved (by rw [e]; exact Vm.Alike.refl _) h.2.1, va_AO.moved (by rw [e]; exact Vm.Alike.refl _) h.2.2.1, fun q hq => va_Nw.same rfl e (h.2.2.2 q hq)⟩
def xB (G : XG) (κ : XKs) (M : XM) (hs : Nat) (U : State) : Prop := xH G κ M hs U.heap ∧ xKs G U ∧ G.2.2 ≤ U.heap.size
def xQ (G : XG) (Post : XP) : Array Value → State → Outcome → State → Prop := fun _ st oc t => (∃ r κ M hs, oc = .returned (Option.map (xt G.2.2) r) ∧ Post r κ M hs ∧ xH G κ M hs t.heap) ∧ va_F (fun q => G.2.2 ≤ q) st t
def xws (md : XD) : List Cond := .code md.1 md.2.1 md.2.2.1 md.2.2.2 :: lw_g
/-- a contract: the method, its depth, its cells and slots; its arguments and its world; what it answers and its world then -/
def XC (G : XG) (md : XD) (d mc ms : Nat) (As : List XV) (κ : XKs) (M : XM) (hs : Nat) (Post : XP) : Prop := (Cond.code md.1 md.2.1 md.2.2.1 md.2.2.2 ∈ lw_g ∧ md.2.2.1 ≤ 15) ∧ ∀ l : Launch, Met l md.1 (xws md) (xroom d mc ms) (va_Pc (As.map (xt G.2.2)) (xB G κ M hs)) (xQ G Post) mc ms (fun q => G.2.2 ≤ q)
def Xx (G : XG) (md : XD) (d mc ms : Nat) : XX → Prop
  | (p, _, _, R, s, m, args, _, meth, c) => p.tables.exec = Jvm.exec ∧ c.code = md.2.1 ∧ c.maxLocals = md.2.2.1 ∧ meth.sig.returnType = md.2.2.2 ∧ s.vm.findClass md.1.cls = some m.cls ∧ (∀ w ∈ lw_g, w.before args s = true) ∧ xKs G s ∧ meth.locks = false ∧ R = xroom d mc ms ∧ G.2.2 ≤ s.heap.size ∧ meth.name = md.1.name
def xq (G : XG) (Post : XP) (mc ms : Nat) : XX → State → Prop
  | (_, _, _, _, s, _, args, below, _, _) => MQ below (xQ G Post) args s mc ms (fun q => G.2.2 ≤ q)
def XW (G : XG) (X : XX) (md : XD) (Q : State → Prop) (k n pc : Nat) (loc : List (Option XV)) (st : List XV) (κ : XKs) (M : XM) (hs : Nat) : Prop := match X with
  | (p, l, e, R, s, m, args, below, meth, c) => ∀ (H : Heap) (locs : List Loc) (ls : Array Slot), xH G κ M hs H → va_S (fun q => G.2.2 ≤ q) s.heap H locs → xL G.2.2 ls md.2.2.1 loc → W p l e R s m args below meth c H locs k n Q (F0 m pc ls (st.map (xt G.2.2)))
theorem xB_blind {G : XG} {κ : XKs} {M : XM} {hs : Nat} {av : List Value} : FrameBlind (va_Pc av (xB G κ M hs)) := fun a U g mk q => ⟨q.1, q.2.1, xKs.same (s := U) rfl q.2.2.1, q.2.2.2⟩
/-- a contract's proof -/
theorem XC.intro {G : XG} {md : XD} {d mc ms : Nat} {As : List XV} {κ : XKs} {M : XM} {hs : Nat} {Post : XP} (hcd : Cond.code md.1 md.2.1 md.2.2.1 md.2.2.2 ∈ lw_g) (hnl : md.2.2.1 ≤ 15) (hpl : plainName md.1.cls = true) (hal : (xargs As).length ≤ md.2.2.1) {loc : List (Option XV)} (hloc : xloc md.2.2.1 As = loc)
    (body : ∀ X : XX, Xx G md d mc ms X → XW G X md (xq G Post mc ms X) 0 0 0 loc [] κ M hs) : XC G md d mc ms As κ M hs Post := by
  refine ⟨⟨hcd, hnl⟩, fun l => ?_⟩
  refine Met.ofW (cc := md.2.1) (maxL := md.2.2.1) (ret := md.2.2.2) hpl rfl ?_
  intro p e s m args below meth c s₁ B hml hv
  obtain ⟨rfl, hH, hK, hbs⟩ := hv
  have hts := atoms_spec (ws := xws md) B.pre
  have hb := body (p, l, e, xroom d mc ms, s, m, (As.map (xt G.2.2)).toArray, below, meth, c) ⟨B.exec, B.bytes, hml, B.returns, findClass_of_methodNamed B.named, fun w hw => hts w (List.mem_cons_of_mem _ hw), hK, B.notSynchronized, rfl, hbs, (name_of_methodNamed B.named B.method).1⟩
  have hl := xL_entry G.2.2 As hal
  rw [lg_entry_eq]
  subst hloc
  exact hb s.heap [] _ hH va_S.rf hl
section XR
variable {G : XG} {md : XD} {d mc ms : Nat} {X : XX} {Q : State → Prop} {k n pc : Nat} {loc : List (Option XV)} {st : List XV} {κ : XKs} {M : XM} {hs : Nat}
theorem x_rng {a : Int} (h : -2147483648 ≤ a ∧ a < 2147483648) : (Int32.ofInt a).toInt = a := Int32.toInt_ofInt_of_le (by omega) (by omega)
theorem x_cl {a : Int} (h : 0 ≤ a ∧ a < 2147483648) : (Int32.ofInt a).toNatClampNeg = a.toNat := by
  show (Int32.ofInt a).toInt.toNat = _
  rw [x_rng (by omega)]
theorem x_lt {a b : Int} (h : (-2147483648 ≤ a ∧ a < 2147483648) ∧ -2147483648 ≤ b ∧ b < 2147483648) : Int32.ofInt a < Int32.ofInt b ↔ a < b := by rw [Int32.lt_iff_toInt_lt, x_rng h.1, x_rng h.2]
theorem x_le {a b : Int} (h : (-2147483648 ≤ a ∧ a < 2147483648) ∧ -2147483648 ≤ b ∧ b < 2147483648) : Int32.ofInt a ≤ Int32.ofInt b ↔ a ≤ b := by rw [Int32.le_iff_toInt_le, x_rng h.1, x_rng h.2]
theorem x_eq {a b : Int} (h : (-2147483648 ≤ a ∧ a < 2147483648) ∧ -2147483648 ≤ b ∧ b < 2147483648) : Int32.ofInt a = Int32.ofInt b ↔ a = b := by rw [← Int32.toInt_inj, x_rng h.1, x_rng h.2]
theorem x_zero : (0 : Int32) = Int32.ofInt 0 := rfl
theorem x_in {a : Int} {j N : Nat} (hj : a = (j : Int)) (hn : j < N) (hN : N ≤ 65536) : vp_in (Int32.ofInt a) N ∧ (Int32.ofInt a).toNatClampNeg = j := by
  subst hj
  have h2 : (Int32.ofInt (j : Int)).toNatClampNeg = j := by rw [x_cl (by omega)]; rfl
  refine ⟨?_, h2⟩
  intro h
  rcases h with h | h
  · rw [x_zero, x_lt (by omega)] at h
    omega
  · rw [h2] at h
    omega
theorem x_top {a b : XV} (e : a = b) (kk : XW G X md Q k n pc loc (b :: st) κ M hs) : XW G X md Q k n pc loc (a :: st) κ M hs := e ▸ kk
theorem x_top2 {a b c : XV} (e : a = b) (kk : XW G X md Q k n pc loc (c :: b :: st) κ M hs) : XW G X md Q k n pc loc (c :: a :: st) κ M hs := e ▸ kk
theorem x_M {M' : XM} (e : M = M') (kk : XW G X md Q k n pc loc st κ M' hs) : XW G X md Q k n pc loc st κ M hs := e ▸ kk
theorem x_loc {loc' : List (Option XV)} (e : loc = loc') (kk : XW G X md Q k n pc loc' st κ M hs) : XW G X md Q k n pc loc st κ M hs := e ▸ kk
theorem x_widen {k' n' : Nat} (h1 : k ≤ k') (h2 : n ≤ n') (kk : XW G X md Q k' n' pc loc st κ M hs) : XW G X md Q k n pc loc st κ M hs := by
  obtain ⟨p, l, e, R, s, m, args, below, meth, c⟩ := X
  intro H locs ls hH hS hl
  exact W.widen h1 h2 (kk H locs ls hH hS hl)
theorem x_iconst (hX : Xx G md d mc ms X) {z : Int} (hdg : decode md.2.1 pc = .ok (.iconst z, 1)) (kk : XW G X md Q k n (pc + 1) loc (xI z :: st) κ M hs) : XW G X md Q k n pc loc (st) κ M hs := by
  obtain ⟨p, l, e, R, s, m, args, below, meth, c⟩ := X
  intro H locs ls hH hS hl
  exact lv_iconst hX.1 hX.2.1 hdg rfl (kk H locs ls hH hS hl)
theorem x_bipush (hX : Xx G md d mc ms X) {z : Int} (hv : (Int8.ofInt z).toInt32 = Int32.ofInt z) (hdg : decode md.2.1 pc = .ok (.bipush z, 2)) (kk : XW G X md Q k n (pc + 2) loc (xI z :: st) κ M hs) : XW G X md Q k n pc loc (st) κ M hs := by
  obtain ⟨p, l, e, R, s, m, args, below, meth, c⟩ := X
  intro H locs ls hH hS hl
  exact lv_bipush hX.1 hX.2.1 hdg hv (kk H locs ls hH hS hl)
theorem x_sipush (hX : Xx G md d mc ms X) {z : Int} (hv : (Int16.ofInt z).toInt32 = Int32.ofInt z) (hdg : decode md.2.1 pc = .ok (.sipush z, 3)) (kk : XW G X md Q k n (pc + 3) loc (xI z :: st) κ M hs) : XW G X md Q k n pc loc (st) κ M hs := by
  obtain ⟨p, l, e, R, s, m, args, below, meth, c⟩ := X
  intro H locs ls hH hS hl
  exact lv_sipush hX.1 hX.2.1 hdg hv (kk H locs ls hH hS hl)
theorem x_iload_n (hX : Xx G md d mc ms X) {j : Fin 4} {i : Nat} {a : Int} (hi : (j : Nat) = i) (hl0 : loc[i]? = some (some (xI a))) (hdg : decode md.2.1 pc = .ok (.iload_n j, 1)) (kk : XW G X md Q k n (pc + 1) loc (xI a :: st) κ M hs) : XW G X md Q k n pc loc (st) κ M hs := by
  obtain ⟨p, l, e, R, s, m, args, below, meth, c⟩ := X
  intro H locs ls hH hS hl
  exact lv_iload_n hX.1 hX.2.1 hdg hi (xL_at hl hl0) (kk H locs ls hH hS hl)
theorem x_iload (hX : Xx G md d mc ms X) {i : Nat} {a : Int} (hl0 : loc[i]? = some (some (xI a))) (hdg : decode md.2.1 pc = .ok (.iload i, 2)) (kk : XW G X md Q k n (pc + 2) loc (xI a :: st) κ M hs) : XW G X md Q k n pc loc (st) κ M hs := by
  obtain ⟨p, l, e, R, s, m, args, below, meth, c⟩ := X
  intro H locs ls hH hS hl
  exact lv_iload hX.1 hX.2.1 hdg (xL_at hl hl0) (kk H locs ls hH hS hl)
theorem x_aload_n (hX : Xx G md d mc ms X) {j : Fin 4} {i : Nat} {o : Nat} (hi : (j : Nat) = i) (hl0 : loc[i]? = some (some (xR o))) (hdg : decode md.2.1 pc = .ok (.aload_n j, 1)) (kk : XW G X md Q k n (pc + 1) loc (xR o :: st) κ M hs) : XW G X md Q k n pc loc (st) κ M hs := by
  obtain ⟨p, l, e, R, s, m, args, below, meth, c⟩ := X
  intro H locs ls hH hS hl
  exact lv_aload_n hX.1 hX.2.1 hdg hi (xL_at hl hl0) (kk H locs ls hH hS hl)
theorem x_aload (hX : Xx G md d mc ms X) {i : Nat} {o : Nat} (hl0 : loc[i]? = some (some (xR o))) (hdg : decode md.2.1 pc = .ok (.aload i, 2)) (kk : XW G X md Q k n (pc + 2) loc (xR o :: st) κ M hs) : XW G X md Q k n pc loc (st) κ M hs := by
  obtain ⟨p, l, e, R, s, m, args, below, meth, c⟩ := X
  intro H locs ls hH hS hl
  exact lv_aload hX.1 hX.2.1 hdg (xL_at hl hl0) (kk H locs ls hH hS hl)
theorem x_aloadV_n (hX : Xx G md d mc ms X) {j : Fin 4} {i : Nat} {o : Nat} (hi : (j : Nat) = i) (hl0 : loc[i]? = some (some (xV (.ref o)))) (hdg : decode md.2.1 pc = .ok (.aload_n j, 1)) (kk : XW G X md Q k n (pc + 1) loc (xV (.ref o) :: st) κ M hs) : XW G X md Q k n pc loc (st) κ M hs := by
  obtain ⟨p, l, e, R, s, m, args, below, meth, c⟩ := X
  intro H locs ls hH hS hl
  exact lv_aload_n hX.1 hX.2.1 hdg hi (xL_at hl hl0) (kk H locs ls hH hS hl)
theorem x_lload_n (hX : Xx G md d mc ms X) {j : Fin 4} {i : Nat} {z : Int64} (hi : (j : Nat) = i) (hl0 : loc[i]? = some (some (xV (.long z)))) (hdg : decode md.2.1 pc = .ok (.lload_n j, 1)) (kk : XW G X md Q k n (pc + 1) loc (xV (.long z) :: st) κ M hs) : XW G X md Q k n pc loc (st) κ M hs := by
  obtain ⟨p, l, e, R, s, m, args, below, meth, c⟩ := X
  intro H locs ls hH hS hl
  exact lv_lload_n hX.1 hX.2.1 hdg hi (xL_at hl hl0) (kk H locs ls hH hS hl)
theorem x_lload (hX : Xx G md d mc ms X) {i : Nat} {z : Int64} (hl0 : loc[i]? = some (some (xV (.long z)))) (hdg : decode md.2.1 pc = .ok (.lload i, 2)) (kk : XW G X md Q k n (pc + 2) loc (xV (.long z) :: st) κ M hs) : XW G X md Q k n pc loc (st) κ M hs := by
  obtain ⟨p, l, e, R, s, m, args, below, meth, c⟩ := X
  intro H locs ls hH hS hl
  exact lv_lload hX.1 hX.2.1 hdg (xL_at hl hl0) (kk H locs ls hH hS hl)
theorem x_istore_n (hX : Xx G md d mc ms X) {j : Fin 4} {i : Nat} {a : Int} {loc2 : List (Option XV)} (hi : (j : Nat) = i) (hn : i < md.2.2.1) (hok : xok loc i = true) (hset : loc.set i (some (xI a)) = loc2) (hdg : decode md.2.1 pc = .ok (.istore_n j, 1)) (kk : XW G X md Q k n (pc + 1) loc2 (st) κ M hs) : XW G X md Q k n pc loc (xI a :: st) κ M hs := by
  obtain ⟨p, l, e, R, s, m, args, below, meth, c⟩ := X
  intro H locs ls hH hS hl
  exact lv_istore_n (lv := xl G.2.2 0 loc) hX.1 hX.2.1 hdg hi hl hn rfl (fun ls2 h2 => kk H locs ls2 hH hS (hset ▸ xL_st1 h2 hok))
theorem x_istore (hX : Xx G md d mc ms X) {i : Nat} {a : Int} {loc2 : List (Option XV)} (hn : i < md.2.2.1) (hok : xok loc i = true) (hset : loc.set i (some (xI a)) = loc2) (hdg : decode md.2.1 pc = .ok (.istore i, 2)) (kk : XW G X md Q k n (pc + 2) loc2 (st) κ M hs) : XW G X md Q k n pc loc (xI a :: st) κ M hs := by
  obtain ⟨p, l, e, R, s, m, args, below, meth, c⟩ := X
  intro H locs ls hH hS hl
  exact lv_istore (lv := xl G.2.2 0 loc) hX.1 hX.2.1 hdg hl hn rfl (fun ls2 h2 => kk H locs ls2 hH hS (hset ▸ xL_st1 h2 hok))
theorem x_astore_n (hX : Xx G md d mc ms X) {j : Fin 4} {i : Nat} {o : Nat} {loc2 : List (Option XV)} (hi : (j : Nat) = i) (hn : i < md.2.2.1) (hok : xok loc i = true) (hset : loc.set i (some (xR o)) = loc2) (hdg : decode md.2.1 pc = .ok (.astore_n j, 1)) (kk : XW G X md Q k n (pc + 1) loc2 (st) κ M hs) : XW G X md Q k n pc loc (xR o :: st) κ M hs := by
  obtain ⟨p, l, e, R, s, m, args, below, meth, c⟩ := X
  intro H locs ls hH hS hl
  exact lv_astore_n (lv := xl G.2.2 0 loc) hX.1 hX.2.1 hdg hi hl hn rfl (fun ls2 h2 => kk H locs ls2 hH hS (hset ▸ xL_st1 h2 hok))
theorem x_astore (hX : Xx G md d mc ms X) {i : Nat} {o : Nat} {loc2 : List (Option XV)} (hn : i < md.2.2.1) (hok : xok loc i = true) (hset : loc.set i (some (xR o)) = loc2) (hdg : decode md.2.1 pc = .ok (.astore i, 2)) (kk : XW G X md Q k n (pc + 2) loc2 (st) κ M hs) : XW G X md Q k n pc loc (xR o :: st) κ M hs := by
  obtain ⟨p, l, e, R, s, m, args, below, meth, c⟩ := X
  intro H locs ls hH hS hl
  exact lv_astore (lv := xl G.2.2 0 loc) hX.1 hX.2.1 hdg hl hn rfl (fun ls2 h2 => kk H locs ls2 hH hS (hset ▸ xL_st1 h2 hok))
theorem x_lstore_n (hX : Xx G md d mc ms X) {j : Fin 4} {i : Nat} {z : Int64} {loc2 : List (Option XV)} (hi : (j : Nat) = i) (hn : i + 1 < md.2.2.1) (hok : xok loc i = true) (hset : (loc.set (i + 1) none).set i (some (xV (.long z))) = loc2) (hdg : decode md.2.1 pc = .ok (.lstore_n j, 1)) (kk : XW G X md Q k n (pc + 1) loc2 (st) κ M hs) : XW G X md Q k n pc loc (xV (.long z) :: st) κ M hs := by
  obtain ⟨p, l, e, R, s, m, args, below, meth, c⟩ := X
  intro H locs ls hH hS hl
  exact lv_lstore_n (lv := xl G.2.2 0 loc) hX.1 hX.2.1 hdg hi hl hn rfl (fun ls2 h2 => kk H locs ls2 hH hS (hset ▸ xL_st2 (v := xV (.long z)) h2 hok))
theorem x_lstore (hX : Xx G md d mc ms X) {i : Nat} {z : Int64} {loc2 : List (Option XV)} (hn : i + 1 < md.2.2.1) (hok : xok loc i = true) (hset : (loc.set (i + 1) none).set i (some (xV (.long z))) = loc2) (hdg : decode md.2.1 pc = .ok (.lstore i, 2)) (kk : XW G X md Q k n (pc + 2) loc2 (st) κ M hs) : XW G X md Q k n pc loc (xV (.long z) :: st) κ M hs := by
  obtain ⟨p, l, e, R, s, m, args, below, meth, c⟩ := X
  intro H locs ls hH hS hl
  exact lv_lstore (lv := xl G.2.2 0 loc) hX.1 hX.2.1 hdg hl hn rfl (fun ls2 h2 => kk H locs ls2 hH hS (hset ▸ xL_st2 (v := xV (.long z)) h2 hok))
theorem x_iinc (hX : Xx G md d mc ms X) {i : Nat} {z a v : Int} {loc2 : List (Option XV)} (hdg : decode md.2.1 pc = .ok (.iinc i z, 3)) (hl0 : loc[i]? = some (some (xI a))) (hn : i < md.2.2.1) (hok : xok loc i = true) (hv : a + z = v) (hset : loc.set i (some (xI v)) = loc2) (kk : XW G X md Q k n (pc + 3) loc2 st κ M hs) : XW G X md Q k n pc loc st κ M hs := by
  obtain ⟨p, l, e, R, s, m, args, below, meth, c⟩ := X
  intro H locs ls hH hS hl
  obtain ⟨j, hj⟩ := List.getElem?_of_mem ((xl_mem (b := G.2.2) loc 0 i (.int (Int32.ofInt a))).mpr ⟨xI a, Nat.zero_le _, hl0, rfl⟩)
  exact lv_iinc (lv := xl G.2.2 0 loc) (v := Int32.ofInt v) hX.1 hX.2.1 hdg hl hj (by rw [← hv, Int32.ofInt_add]) hn rfl (fun ls2 h2 => kk H locs ls2 hH hS (hset ▸ xL_st1 (v := xI v) h2 hok))
theorem x_iadd (hX : Xx G md d mc ms X) {a b v : Int} (hdg : decode md.2.1 pc = .ok (.iadd, 1)) (hv : a + b = v) (kk : XW G X md Q k n (pc + 1) loc (xI v :: st) κ M hs) : XW G X md Q k n pc loc (xI b :: xI a :: st) κ M hs := by
  obtain ⟨p, l, e, R, s, m, args, below, meth, c⟩ := X
  intro H locs ls hH hS hl
  subst hv
  have k2 := kk H locs ls hH hS hl
  have e9 : xt G.2.2 (xI (a + b)) = .int (Int32.ofInt a + Int32.ofInt b) := congrArg Value.int (Int32.ofInt_add a b)
  rw [List.map_cons, e9] at k2
  exact lv_iadd hX.1 hX.2.1 hdg k2
theorem x_isub (hX : Xx G md d mc ms X) {a b v : Int} (hdg : decode md.2.1 pc = .ok (.isub, 1)) (hv : a - b = v) (kk : XW G X md Q k n (pc + 1) loc (xI v :: st) κ M hs) : XW G X md Q k n pc loc (xI b :: xI a :: st) κ M hs := by
  obtain ⟨p, l, e, R, s, m, args, below, meth, c⟩ := X
  intro H locs ls hH hS hl
  subst hv
  have k2 := kk H locs ls hH hS hl
  have e9 : xt G.2.2 (xI (a - b)) = .int (Int32.ofInt a - Int32.ofInt b) := congrArg Value.int (Int32.ofInt_sub a b)
  rw [List.map_cons, e9] at k2
  exact lv_isub hX.1 hX.2.1 hdg k2
theorem x_imul (hX : Xx G md d mc ms X) {a b v : Int} (hdg : decode md.2.1 pc = .ok (.imul, 1)) (hv : a * b = v) (kk : XW G X md Q k n (pc + 1) loc (xI v :: st) κ M hs) : XW G X md Q k n pc loc (xI b :: xI a :: st) κ M hs := by
  obtain ⟨p, l, e, R, s, m, args, below, meth, c⟩ := X
  intro H locs ls hH hS hl
  subst hv
  have k2 := kk H locs ls hH hS hl
  have e9 : xt G.2.2 (xI (a * b)) = .int (Int32.ofInt a * Int32.ofInt b) := congrArg Value.int (Int32.ofInt_mul a b)
  rw [List.map_cons, e9] at k2
  exact lv_imul hX.1 hX.2.1 hdg k2
theorem x_iand (hX : Xx G md d mc ms X) {a b v : Int} (hdg : decode md.2.1 pc = .ok (.iand, 1)) (hv : Int32.ofInt v = Int32.ofInt a &&& Int32.ofInt b) (kk : XW G X md Q k n (pc + 1) loc (xI v :: st) κ M hs) : XW G X md Q k n pc loc (xI b :: xI a :: st) κ M hs := by
  obtain ⟨p, l, e, R, s, m, args, below, meth, c⟩ := X
  intro H locs ls hH hS hl
  have k2 := kk H locs ls hH hS hl
  have e9 : xt G.2.2 (xI v) = .int (Int32.ofInt a &&& Int32.ofInt b) := congrArg Value.int hv
  rw [List.map_cons, e9] at k2
  exact lv_iand hX.1 hX.2.1 hdg k2
theorem x_ior (hX : Xx G md d mc ms X) {a b v : Int} (hdg : decode md.2.1 pc = .ok (.ior, 1)) (hv : Int32.ofInt v = Int32.ofInt a ||| Int32.ofInt b) (kk : XW G X md Q k n (pc + 1) loc (xI v :: st) κ M hs) : XW G X md Q k n pc loc (xI b :: xI a :: st) κ M hs := by
  obtain ⟨p, l, e, R, s, m, args, below, meth, c⟩ := X
  intro H locs ls hH hS hl
  have k2 := kk H locs ls hH hS hl
  have e9 : xt G.2.2 (xI v) = .int (Int32.ofInt a ||| Int32.ofInt b) := congrArg Value.int hv
  rw [List.map_cons, e9] at k2
  exact lv_ior hX.1 hX.2.1 hdg k2
theorem x_ishl (hX : Xx G md d mc ms X) {a b v : Int} (hdg : decode md.2.1 pc = .ok (.ishl, 1)) (hv : Int32.ofInt v = Int32.ofInt a <<< (Int32.ofInt b &&& 31)) (kk : XW G X md Q k n (pc + 1) loc (xI v :: st) κ M hs) : XW G X md Q k n pc loc (xI b :: xI a :: st) κ M hs := by
  obtain ⟨p, l, e, R, s, m, args, below, meth, c⟩ := X
  intro H locs ls hH hS hl
  have k2 := kk H locs ls hH hS hl
  have e9 : xt G.2.2 (xI v) = .int (Int32.ofInt a <<< (Int32.ofInt b &&& 31)) := congrArg Value.int hv
  rw [List.map_cons, e9] at k2
  exact lv_ishl hX.1 hX.2.1 hdg k2
theorem x_ishr (hX : Xx G md d mc ms X) {a b v : Int} (hdg : decode md.2.1 pc = .ok (.ishr, 1)) (hv : Int32.ofInt v = Int32.ofInt a >>> (Int32.ofInt b &&& 31)) (kk : XW G X md Q k n (pc + 1) loc (xI v :: st) κ M hs) : XW G X md Q k n pc loc (xI b :: xI a :: st) κ M hs := by
  obtain ⟨p, l, e, R, s, m, args, below, meth, c⟩ := X
  intro H locs ls hH hS hl
  have k2 := kk H locs ls hH hS hl
  have e9 : xt G.2.2 (xI v) = .int (Int32.ofInt a >>> (Int32.ofInt b &&& 31)) := congrArg Value.int hv
  rw [List.map_cons, e9] at k2
  exact lv_ishr hX.1 hX.2.1 hdg k2
theorem x_irem (hX : Xx G md d mc ms X) {a b v : Int} (hdg : decode md.2.1 pc = .ok (.irem, 1)) (hv : Int32.ofInt v = Int32.ofInt a - Int32.ofInt a / Int32.ofInt b * Int32.ofInt b) (hne : ¬ Int32.ofInt b = 0) (kk : XW G X md Q k n (pc + 1) loc (xI v :: st) κ M hs) : XW G X md Q k n pc loc (xI b :: xI a :: st) κ M hs := by
  obtain ⟨p, l, e, R, s, m, args, below, meth, c⟩ := X
  intro H locs ls hH hS hl
  have k2 := kk H locs ls hH hS hl
  have e9 : xt G.2.2 (xI v) = .int (Int32.ofInt a - Int32.ofInt a / Int32.ofInt b * Int32.ofInt b) := congrArg Value.int hv
  rw [List.map_cons, e9] at k2
  exact lv_irem hX.1 hX.2.1 hdg hne k2
theorem x_dup (hX : Xx G md d mc ms X) {v : XV} (hc : xcat v = 1) (hdg : decode md.2.1 pc = .ok (.dup, 1)) (kk : XW G X md Q k n (pc + 1) loc (v :: v :: st) κ M hs) : XW G X md Q k n pc loc (v :: st) κ M hs := by
  obtain ⟨p, l, e, R, s, m, args, below, meth, c⟩ := X
  intro H locs ls hH hS hl
  exact lv_dup hX.1 hX.2.1 hdg (by rw [xcat_eq]; exact hc) (kk H locs ls hH hS hl)
theorem x_dup2 (hX : Xx G md d mc ms X) {v w : XV} (hc : xcat v = 1) (hc2 : xcat w = 1) (hdg : decode md.2.1 pc = .ok (.dup2, 1)) (kk : XW G X md Q k n (pc + 1) loc (v :: w :: v :: w :: st) κ M hs) : XW G X md Q k n pc loc (v :: w :: st) κ M hs := by
  obtain ⟨p, l, e, R, s, m, args, below, meth, c⟩ := X
  intro H locs ls hH hS hl
  exact lv_dup2_11 hX.1 hX.2.1 hdg (by rw [xcat_eq]; exact hc) (by rw [xcat_eq]; exact hc2) (kk H locs ls hH hS hl)
theorem x_pop (hX : Xx G md d mc ms X) {v : XV} (hc : xcat v = 1) (hdg : decode md.2.1 pc = .ok (.pop, 1)) (kk : XW G X md Q k n (pc + 1) loc (st) κ M hs) : XW G X md Q k n pc loc (v :: st) κ M hs := by
  obtain ⟨p, l, e, R, s, m, args, below, meth, c⟩ := X
  intro H locs ls hH hS hl
  exact lv_pop hX.1 hX.2.1 hdg (by rw [xcat_eq]; exact hc) (kk H locs ls hH hS hl)
theorem x_goto (hX : Xx G md d mc ms X) {off : Int} {tgt : Nat} (hdg : decode md.2.1 pc = .ok (.goto off, 3)) (ht : (pc : Int) + off = (tgt : Int)) (kk : XW G X md Q k n tgt loc st κ M hs) : XW G X md Q k n pc loc st κ M hs := by
  obtain ⟨p, l, e, R, s, m, args, below, meth, c⟩ := X
  intro H locs ls hH hS hl
  exact lv_goto hX.1 hX.2.1 hdg ht (kk H locs ls hH hS hl)
theorem x_if_eq (hX : Xx G md d mc ms X) {a : Int} {off : Int} {tgt : Nat} (hdg : decode md.2.1 pc = .ok (.ifCond .eq off, 3)) (ht : (pc : Int) + off = (tgt : Int)) (hr : (-2147483648 ≤ a ∧ a < 2147483648)) (kt : a = 0 → XW G X md Q k n tgt loc st κ M hs) (kf : ¬ (a = 0) → XW G X md Q k n (pc + 3) loc st κ M hs) : XW G X md Q k n pc loc (xI a :: st) κ M hs := by
  obtain ⟨p, l, e, R, s, m, args, below, meth, c⟩ := X
  intro H locs ls hH hS hl
  exact lv_if_eq hX.1 hX.2.1 hdg ht (fun h => kt ((x_eq (a := a) (b := 0) ⟨hr, by omega⟩).mp h) H locs ls hH hS hl) (fun h => kf (fun q => h ((x_eq (a := a) (b := 0) ⟨hr, by omega⟩).mpr q)) H locs ls hH hS hl)
theorem x_icmp_eq (hX : Xx G md d mc ms X) {a b : Int} {off : Int} {tgt : Nat} (hdg : decode md.2.1 pc = .ok (.if_icmp .eq off, 3)) (ht : (pc : Int) + off = (tgt : Int)) (hr : ((-2147483648 ≤ a ∧ a < 2147483648) ∧ -2147483648 ≤ b ∧ b < 2147483648)) (kt : a = b → XW G X md Q k n tgt loc st κ M hs) (kf : ¬ (a = b) → XW G X md Q k n (pc + 3) loc st κ M hs) : XW G X md Q k n pc loc (xI b :: xI a :: st) κ M hs := by
  obtain ⟨p, l, e, R, s, m, args, below, meth, c⟩ := X
  intro H locs ls hH hS hl
  exact lv_icmp_eq hX.1 hX.2.1 hdg ht (fun h => kt ((x_eq hr).mp h) H locs ls hH hS hl) (fun h => kf (fun q => h ((x_eq hr).mpr q)) H locs ls hH hS hl)
theorem x_if_ne (hX : Xx G md d mc ms X) {a : Int} {off : Int} {tgt : Nat} (hdg : decode md.2.1 pc = .ok (.ifCond .ne off, 3)) (ht : (pc : Int) + off = (tgt : Int)) (hr : (-2147483648 ≤ a ∧ a < 2147483648)) (kt : ¬ a = 0 → XW G X md Q k n tgt loc st κ M hs) (kf : a = 0 → XW G X md Q k n (pc + 3) loc st κ M hs) : XW G X md Q k n pc loc (xI a :: st) κ M hs := by
  obtain ⟨p, l, e, R, s, m, args, below, meth, c⟩ := X
  intro H locs ls hH hS hl
  exact lv_if_ne hX.1 hX.2.1 hdg ht (fun h => kt ((not_congr (x_eq (a := a) (b := 0) ⟨hr, by omega⟩)).mp h) H locs ls hH hS hl) (fun h => kf ((x_eq (a := a) (b := 0) ⟨hr, by omega⟩).mp h) H locs ls hH hS hl)
theorem x_icmp_ne (hX : Xx G md d mc ms X) {a b : Int} {off : Int} {tgt : Nat} (hdg : decode md.2.1 pc = .ok (.if_icmp .ne off, 3)) (ht : (pc : Int) + off = (tgt : Int)) (hr : ((-2147483648 ≤ a ∧ a < 2147483648) ∧ -2147483648 ≤ b ∧ b < 2147483648)) (kt : ¬ a = b → XW G X md Q k n tgt loc st κ M hs) (kf : a = b → XW G X md Q k n (pc + 3) loc st κ M hs) : XW G X md Q k n pc loc (xI b :: xI a :: st) κ M hs := by
  obtain ⟨p, l, e, R, s, m, args, below, meth, c⟩ := X
  intro H locs ls hH hS hl
  exact lv_icmp_ne hX.1 hX.2.1 hdg ht (fun h => kt ((not_congr (x_eq hr)).mp h) H locs ls hH hS hl) (fun h => kf ((x_eq hr).mp h) H locs ls hH hS hl)
theorem x_if_lt (hX : Xx G md d mc ms X) {a : Int} {off : Int} {tgt : Nat} (hdg : decode md.2.1 pc = .ok (.ifCond .lt off, 3)) (ht : (pc : Int) + off = (tgt : Int)) (hr : (-2147483648 ≤ a ∧ a < 2147483648)) (kt : a < 0 → XW G X md Q k n tgt loc st κ M hs) (kf : ¬ (a < 0) → XW G X md Q k n (pc + 3) loc st κ M hs) : XW G X md Q k n pc loc (xI a :: st) κ M hs := by
  obtain ⟨p, l, e, R, s, m, args, below, meth, c⟩ := X
  intro H locs ls hH hS hl
  exact lv_if_lt hX.1 hX.2.1 hdg ht (fun h => kt ((x_lt (a := a) (b := 0) ⟨hr, by omega⟩).mp h) H locs ls hH hS hl) (fun h => kf (fun q => h ((x_lt (a := a) (b := 0) ⟨hr, by omega⟩).mpr q)) H locs ls hH hS hl)
theorem x_icmp_lt (hX : Xx G md d mc ms X) {a b : Int} {off : Int} {tgt : Nat} (hdg : decode md.2.1 pc = .ok (.if_icmp .lt off, 3)) (ht : (pc : Int) + off = (tgt : Int)) (hr : ((-2147483648 ≤ a ∧ a < 2147483648) ∧ -2147483648 ≤ b ∧ b < 2147483648)) (kt : a < b → XW G X md Q k n tgt loc st κ M hs) (kf : ¬ (a < b) → XW G X md Q k n (pc + 3) loc st κ M hs) : XW G X md Q k n pc loc (xI b :: xI a :: st) κ M hs := by
  obtain ⟨p, l, e, R, s, m, args, below, meth, c⟩ := X
  intro H locs ls hH hS hl
  exact lv_icmp_lt hX.1 hX.2.1 hdg ht (fun h => kt ((x_lt hr).mp h) H locs ls hH hS hl) (fun h => kf (fun q => h ((x_lt hr).mpr q)) H locs ls hH hS hl)
theorem x_if_ge (hX : Xx G md d mc ms X) {a : Int} {off : Int} {tgt : Nat} (hdg : decode md.2.1 pc = .ok (.ifCond .ge off, 3)) (ht : (pc : Int) + off = (tgt : Int)) (hr : (-2147483648 ≤ a ∧ a < 2147483648)) (kt : 0 ≤ a → XW G X md Q k n tgt loc st κ M hs) (kf : ¬ (0 ≤ a) → XW G X md Q k n (pc + 3) loc st κ M hs) : XW G X md Q k n pc loc (xI a :: st) κ M hs := by
  obtain ⟨p, l, e, R, s, m, args, below, meth, c⟩ := X
  intro H locs ls hH hS hl
  exact lv_if_ge hX.1 hX.2.1 hdg ht (fun h => kt ((x_le (a := 0) (b := a) ⟨by omega, hr⟩).mp h) H locs ls hH hS hl) (fun h => kf (fun q => h ((x_le (a := 0) (b := a) ⟨by omega, hr⟩).mpr q)) H locs ls hH hS hl)
theorem x_icmp_ge (hX : Xx G md d mc ms X) {a b : Int} {off : Int} {tgt : Nat} (hdg : decode md.2.1 pc = .ok (.if_icmp .ge off, 3)) (ht : (pc : Int) + off = (tgt : Int)) (hr : ((-2147483648 ≤ a ∧ a < 2147483648) ∧ -2147483648 ≤ b ∧ b < 2147483648)) (kt : b ≤ a → XW G X md Q k n tgt loc st κ M hs) (kf : ¬ (b ≤ a) → XW G X md Q k n (pc + 3) loc st κ M hs) : XW G X md Q k n pc loc (xI b :: xI a :: st) κ M hs := by
  obtain ⟨p, l, e, R, s, m, args, below, meth, c⟩ := X
  intro H locs ls hH hS hl
  exact lv_icmp_ge hX.1 hX.2.1 hdg ht (fun h => kt ((x_le ⟨hr.2, hr.1⟩).mp h) H locs ls hH hS hl) (fun h => kf (fun q => h ((x_le ⟨hr.2, hr.1⟩).mpr q)) H locs ls hH hS hl)
theorem x_if_gt (hX : Xx G md d mc ms X) {a : Int} {off : Int} {tgt : Nat} (hdg : decode md.2.1 pc = .ok (.ifCond .gt off, 3)) (ht : (pc : Int) + off = (tgt : Int)) (hr : (-2147483648 ≤ a ∧ a < 2147483648)) (kt : 0 < a → XW G X md Q k n tgt loc st κ M hs) (kf : ¬ (0 < a) → XW G X md Q k n (pc + 3) loc st κ M hs) : XW G X md Q k n pc loc (xI a :: st) κ M hs := by
  obtain ⟨p, l, e, R, s, m, args, below, meth, c⟩ := X
  intro H locs ls hH hS hl
  exact lv_if_gt hX.1 hX.2.1 hdg ht (fun h => kt ((x_lt (a := 0) (b := a) ⟨by omega, hr⟩).mp h) H locs ls hH hS hl) (fun h => kf (fun q => h ((x_lt (a := 0) (b := a) ⟨by omega, hr⟩).mpr q)) H locs ls hH hS hl)
theorem x_icmp_gt (hX : Xx G md d mc ms X) {a b : Int} {off : Int} {tgt : Nat} (hdg : decode md.2.1 pc = .ok (.if_icmp .gt off, 3)) (ht : (pc : Int) + off = (tgt : Int)) (hr : ((-2147483648 ≤ a ∧ a < 2147483648) ∧ -2147483648 ≤ b ∧ b < 2147483648)) (kt : b < a → XW G X md Q k n tgt loc st κ M hs) (kf : ¬ (b < a) → XW G X md Q k n (pc + 3) loc st κ M hs) : XW G X md Q k n pc loc (xI b :: xI a :: st) κ M hs := by
  obtain ⟨p, l, e, R, s, m, args, below, meth, c⟩ := X
  intro H locs ls hH hS hl
  exact lv_icmp_gt hX.1 hX.2.1 hdg ht (fun h => kt ((x_lt ⟨hr.2, hr.1⟩).mp h) H locs ls hH hS hl) (fun h => kf (fun q => h ((x_lt ⟨hr.2, hr.1⟩).mpr q)) H locs ls hH hS hl)
theorem x_if_le (hX : Xx G md d mc ms X) {a : Int} {off : Int} {tgt : Nat} (hdg : decode md.2.1 pc = .ok (.ifCond .le off, 3)) (ht : (pc : Int) + off = (tgt : Int)) (hr : (-2147483648 ≤ a ∧ a < 2147483648)) (kt : a ≤ 0 → XW G X md Q k n tgt loc st κ M hs) (kf : ¬ (a ≤ 0) → XW G X md Q k n (pc + 3) loc st κ M hs) : XW G X md Q k n pc loc (xI a :: st) κ M hs := by
  obtain ⟨p, l, e, R, s, m, args, below, meth, c⟩ := X
  intro H locs ls hH hS hl
  exact lv_if_le hX.1 hX.2.1 hdg ht (fun h => kt ((x_le (a := a) (b := 0) ⟨hr, by omega⟩).mp h) H locs ls hH hS hl) (fun h => kf (fun q => h ((x_le (a := a) (b := 0) ⟨hr, by omega⟩).mpr q)) H locs ls hH hS hl)
theorem x_icmp_le (hX : Xx G md d mc ms X) {a b : Int} {off : Int} {tgt : Nat} (hdg : decode md.2.1 pc = .ok (.if_icmp .le off, 3)) (ht : (pc : Int) + off = (tgt : Int)) (hr : ((-2147483648 ≤ a ∧ a < 2147483648) ∧ -2147483648 ≤ b ∧ b < 2147483648)) (kt : a ≤ b → XW G X md Q k n tgt loc st κ M hs) (kf : ¬ (a ≤ b) → XW G X md Q k n (pc + 3) loc st κ M hs) : XW G X md Q k n pc loc (xI b :: xI a :: st) κ M hs := by
  obtain ⟨p, l, e, R, s, m, args, below, meth, c⟩ := X
  intro H locs ls hH hS hl
  exact lv_icmp_le hX.1 hX.2.1 hdg ht (fun h => kt ((x_le hr).mp h) H locs ls hH hS hl) (fun h => kf (fun q => h ((x_le hr).mpr q)) H locs ls hH hS hl)
theorem x_tswOut (hX : Xx G md d mc ms X) {a dflt lo hi : Int} {offs : Array Int} {len tgt : Nat} (hdg : decode md.2.1 pc = .ok (.tableswitch dflt lo hi offs, len)) (hr : (-2147483648 ≤ a ∧ a < 2147483648)) (h : a < lo ∨ hi < a) (ht : (pc : Int) + dflt = (tgt : Int)) (kk : XW G X md Q k n tgt loc st κ M hs) : XW G X md Q k n pc loc (xI a :: st) κ M hs := by
  obtain ⟨p, l, e, R, s, m, args, below, meth, c⟩ := X
  intro H locs ls hH hS hl
  exact lv_tableOut hX.1 hX.2.1 hdg (by rw [x_rng hr]; exact h) ht (kk H locs ls hH hS hl)
theorem x_tswIn (hX : Xx G md d mc ms X) {a dflt lo hi off : Int} {offs : Array Int} {len tgt : Nat} (hdg : decode md.2.1 pc = .ok (.tableswitch dflt lo hi offs, len)) (hr : (-2147483648 ≤ a ∧ a < 2147483648)) (h1 : lo ≤ a ∧ a ≤ hi) (ho : offs[(a - lo).toNat]? = some off) (ht : (pc : Int) + off = (tgt : Int)) (kk : XW G X md Q k n tgt loc st κ M hs) : XW G X md Q k n pc loc (xI a :: st) κ M hs := by
  obtain ⟨p, l, e, R, s, m, args, below, meth, c⟩ := X
  intro H locs ls hH hS hl
  exact lv_tableIn hX.1 hX.2.1 hdg (by rw [x_rng hr]; omega) (by rw [x_rng hr]; omega) (by rw [x_rng hr]; exact ho) ht (kk H locs ls hH hS hl)
theorem x_lookup (hX : Xx G md d mc ms X) {a dflt off : Int} {ps : Array (Int × Int)} {len tgt : Nat} (hdg : decode md.2.1 pc = .ok (.lookupswitch dflt ps, len)) (hp : (ps.toList.zip (ps.toList.drop 1)).all (fun (a, next) => a.1 < next.1) = true) (hr : (-2147483648 ≤ a ∧ a < 2147483648)) (ho : Op.lookupswitch.offset ps.toList dflt a = off) (ht : (pc : Int) + off = (tgt : Int)) (kk : XW G X md Q k n tgt loc st κ M hs) : XW G X md Q k n pc loc (xI a :: st) κ M hs := by
  obtain ⟨p, l, e, R, s, m, args, below, meth, c⟩ := X
  intro H locs ls hH hS hl
  exact lv_lookup hX.1 hX.2.1 hdg hp (by rw [x_rng hr]; exact ho) ht (kk H locs ls hH hS hl)
theorem x_he {ci o : Nat} {fl : List XF} (h : xO κ hs o (kO ci fl)) : (xw G κ M hs)[o]? = some (G.2.2 + o, .inr (ci, fl.mapIdx (fun k x => xf G.2.2 (M o k) x))) := xO_get h
theorem x_getI (hX : Xx G md d mc ms X) {idx ci j o : Nat} {fl : List XF} {fin : Bool} {ty : FieldType} {v : Int} (hF : xFL md.1.cls idx ci j fin ty) (hO : xO κ hs o (kO ci fl)) (hj : fl[j]? = some fI) (hv : M o j = v) (hdg : decode md.2.1 pc = .ok (.getfield idx, 3)) (kk : XW G X md Q k n (pc + 3) loc (xI v :: st) κ M hs) : XW G X md Q k n pc loc (xR o :: st) κ M hs := by
  obtain ⟨p, l, e, R, s, m, args, below, meth, c⟩ := X
  intro H locs ls hH hS hl
  obtain ⟨C, T, N, tyf, h1, h2, h3, h4, h5, -⟩ := hF
  subst hv
  exact va_get (ci := ci) (v := .int (Int32.ofInt (M o j))) hX.1 hX.2.1 hX.2.2.2.2.2.1 h2 hX.2.2.2.2.1 hX.2.2.2.2.2.2.1.1 hH.1 o (x_he hO) h1 j h3 (hX.2.2.2.2.2.1 _ h4) (fun _ h => by rw [h5] at h; exact h) (by rw [List.getElem?_mapIdx, hj]; rfl) hdg (kk H locs ls hH hS hl)
theorem x_getR (hX : Xx G md d mc ms X) {idx ci j o r : Nat} {fl : List XF} {fin : Bool} {ty : FieldType} (hF : xFL md.1.cls idx ci j fin ty) (hO : xO κ hs o (kO ci fl)) (hj : fl[j]? = some (fR r)) (hdg : decode md.2.1 pc = .ok (.getfield idx, 3)) (kk : XW G X md Q k n (pc + 3) loc (xR r :: st) κ M hs) : XW G X md Q k n pc loc (xR o :: st) κ M hs := by
  obtain ⟨p, l, e, R, s, m, args, below, meth, c⟩ := X
  intro H locs ls hH hS hl
  obtain ⟨C, T, N, tyf, h1, h2, h3, h4, h5, -⟩ := hF
  exact va_get (ci := ci) (v := .ref (G.2.2 + r)) hX.1 hX.2.1 hX.2.2.2.2.2.1 h2 hX.2.2.2.2.1 hX.2.2.2.2.2.2.1.1 hH.1 o (x_he hO) h1 j h3 (hX.2.2.2.2.2.1 _ h4) (fun _ h => by rw [h5] at h; exact h) (by rw [List.getElem?_mapIdx, hj]; rfl) hdg (kk H locs ls hH hS hl)
theorem x_fput {fl : List XF} {j : Nat} {f : Nat → Int} {v : Int} {b : Nat} (hj : fl[j]? = some fI) : (fl.mapIdx (fun k x => xf b (f k) x)).set j (.int (Int32.ofInt v)) = fl.mapIdx (fun k x => xf b (up1 f j v k) x) := by
  apply List.ext_getElem?
  intro i
  have hl := (List.getElem?_eq_some_iff.mp hj).1
  rw [List.getElem?_set, List.getElem?_mapIdx, List.getElem?_mapIdx]
  by_cases e : j = i
  · subst e
    rw [if_pos rfl, if_pos (by simpa using hl), hj]
    simp [xf, up1]
  · rw [if_neg e]
    have e2 : ¬ i = j := fun h => e h.symm
    simp [up1, e2]
theorem x_fputR {fl : List XF} {j r : Nat} {f : Nat → Int} {b : Nat} (hj : j < fl.length) : (fl.mapIdx (fun k x => xf b (f k) x)).set j (.ref (b + r)) = (fl.set j (fR r)).mapIdx (fun k x => xf b (f k) x) := by
  apply List.ext_getElem?
  intro i
  rw [List.getElem?_set, List.getElem?_mapIdx, List.getElem?_mapIdx, List.getElem?_set]
  by_cases e : j = i
  · subst e
    rw [if_pos rfl, if_pos (by simpa using hj), if_pos rfl, if_pos hj]
    rfl
  · rw [if_neg e, if_neg e]
theorem xH_put {κ' : XKs} {M' : XM} {o : Nat} {H H1 : Heap} (hH : xH G κ M hs H) (hl : o < hs) (ho : ∀ q, q ≠ o → κ' q = κ q ∧ M' q = M q) (e : va_at G.1 vwCl (G.2.2 + o, xe G (κ' o) (M' o)) H1) (z : H1.size = H.size) (oq : ∀ q : Nat, q ≠ G.2.2 + o → H1[q]? = H[q]?) : xH G κ' M' hs H1 := by
  refine ⟨?_, z.trans hH.2⟩
  rw [← xw_set κ' M' ho]
  exact hH.1.set (xw_D G κ M hs) (xw_get hl) e oq
theorem xH_at {o : Nat} {kd : XK} {H : Heap} (hH : xH G κ M hs H) (hO : xO κ hs o kd) : va_at G.1 vwCl (G.2.2 + o, xe G kd (M o)) H := hH.1 o _ (xO_get hO)
theorem x_putG (hX : Xx G md d mc ms X) {idx ci j o : Nat} {fl : List XF} {ty : FieldType} {v : XV} {fin : Bool} {κ2 : XKs} {M2 : XM} (hF : xFL md.1.cls idx ci j fin ty) (hO : xO κ hs o (kO ci fl)) (hlen : j < fl.length) (hn : narrow ty (xt G.2.2 v) = xt G.2.2 v) (hfit : fits ty (xt G.2.2 v) = true) (hfi : fin = true → md.1.name = "<init>" ∧ ∃ T N, vwCl[ci]? = some (md.1.cls, T, N))
    (ho : ∀ q, q ≠ o → κ2 q = κ q ∧ M2 q = M q) (he : ∃ fl2, κ2 o = kO ci fl2 ∧ fl2.mapIdx (fun k x => xf G.2.2 (M2 o k) x) = (fl.mapIdx (fun k x => xf G.2.2 (M o k) x)).set j (xt G.2.2 v)) (hdg : decode md.2.1 pc = .ok (.putfield idx, 3)) (kk : XW G X md Q k n (pc + 3) loc st κ2 M2 hs) : XW G X md Q k n pc loc (v :: xR o :: st) κ M hs := by
  obtain ⟨p, l, e, R, s, m, args, below, meth, c⟩ := X
  intro H locs ls hH hS hl
  obtain ⟨C, T, N, tyf, h1, h2, h3, h4, h5, h6, h7, h8, h9⟩ := hF
  obtain ⟨hexec, hb, -, -, hown, hts, hK, -, -, -, hnm⟩ := hX
  have hap := va_apart (own := md.1.cls) hts h2 tyf h6 h7 hK.1 h1
  obtain ⟨r, g1, cell, q1, q2, q3, q4⟩ := xH_at hH hO
  obtain rfl : r = (C, T, N) := Option.some.inj (g1.symm.trans h1)
  obtain ⟨hSl, hfc, kC, hkC, hkind⟩ := hK.1.1 ci _ h1
  obtain ⟨cf, kf, fi, f, hi, hsl⟩ := hSl j h3
  have hd : parseFieldDescriptor (T j).2.2.1 = some ty := by rw [h6 j h3, h9]
  have hsame : s.fieldFound? C (T j).2.1 (T j).2.2.1 = some (cf, kf, fi, f) := by rw [h5] at hi; exact hi
  have hst := (u_facts hfc hkC (u_lays hts h2 h3) hi).1
  obtain ⟨fl2, hk2, hf2⟩ := he
  have fin' : ∀ H' : Heap, H'[G.2.2 + o]? = some (cell.setSlot f.slot (xt G.2.2 v)) → H'.size = H.size → (∀ q : Nat, q ≠ G.2.2 + o → H'[q]? = H[q]?) → W p l e R s m args below meth c H' (locs ++ [⟨G.2.2 + o, f.slot⟩]) k n Q (F0 m (pc + 3) ls (st.map (xt G.2.2))) := by
    intro H' e1 e2 e3
    rw [hsl] at e1
    refine kk H' _ ls (xH_put hH hO.1 ho ?_ e2 e3) (hS.put e2 e3 (Nat.le_add_right _ _)) hl
    rw [hk2]
    show va_at G.1 vwCl (G.2.2 + o, .inr (ci, fl2.mapIdx (fun k x => xf G.2.2 (M2 o k) x))) H'
    rw [hf2]
    exact ⟨_, h1, t_OB.to (V := updV (vp_V (fl.mapIdx (fun k x => xf G.2.2 (M o k) x))) j (xt G.2.2 v)) ⟨_, e1, q2, q3, t_set q4 hap h3 _⟩ (fun i _ => vp_updV_set (by simpa using hlen) _ i)⟩
  cases fin with
  | false =>
    have hlay := hts _ (h2 _ (u_in_lay h3))
    unfold u_lay at hlay
    rw [if_neg (by rw [h8]; decide)] at hlay
    have h10 := u_store hfc hkC hkind hlay hi hd hn hfit
    exact W.putK hexec hb (f := f) ⟨hown, hts _ h4, ⟨_, _, _, hsame⟩, hst⟩ (by rw [q2]; exact h10) q1 q3 (by rw [hsl]; exact k2_hasslot (q4 j h3)) rfl rfl hdg fin'
  | true =>
    obtain ⟨hin2, T', N', hc'⟩ := hfi rfl
    have hCe : C = md.1.cls := congrArg (fun z => z.1) (Option.some.inj (h1.symm.trans hc'))
    have hlay := hts _ (h2 _ (u_in_lay h3))
    unfold u_lay at hlay
    rw [if_pos h8] at hlay
    have hcf : m.cls = cf := by
      obtain ⟨_, _, c', _, _, _, -, -, hf', -, -, -, hown2, -⟩ := Cond.laysFinal_spec hlay
      have e1 : c' = cf := by have := hi.symm.trans hf'; simp at this; exact this.1.symm
      rw [h5, hCe] at hown2
      rw [← e1]; exact Option.some.inj (hown.symm.trans hown2)
    have h10 := u_fits hfc hkC hkind (Or.inr hlay) hi hd hn hfit
    exact W.putFinK hexec hb hown (hts _ h4) hsame hst hcf (hnm.trans hin2) (by rw [q2]; exact h10) q1 q3 (by rw [hsl]; exact k2_hasslot (q4 j h3)) rfl rfl hdg fin'
theorem mput_self (M : XM) (a j : Nat) (v : Int) : mput M a j v a = up1 (M a) j v := mset_self M a _
theorem mput_ne (M : XM) {a q : Nat} (j : Nat) (v : Int) (h : q ≠ a) : mput M a j v q = M q := mset_ne M _ h
theorem up1_self (f : Nat → Int) (j : Nat) (v : Int) : up1 f j v j = v := if_pos rfl
theorem up1_ne (f : Nat → Int) {j i : Nat} (v : Int) (h : i ≠ j) : up1 f j v i = f i := if_neg h
theorem x_putI (hX : Xx G md d mc ms X) {idx ci j o : Nat} {fl : List XF} {ty : FieldType} {v : Int} (hF : xFL md.1.cls idx ci j false ty) (hO : xO κ hs o (kO ci fl)) (hj : fl[j]? = some fI) (hn : narrow ty (.int (Int32.ofInt v)) = .int (Int32.ofInt v)) (hfit : fits ty (.int (Int32.ofInt v)) = true) (hdg : decode md.2.1 pc = .ok (.putfield idx, 3)) (kk : XW G X md Q k n (pc + 3) loc st κ (mput M o j v) hs) : XW G X md Q k n pc loc (xI v :: xR o :: st) κ M hs := by
  refine x_putG hX hF hO (List.getElem?_eq_some_iff.mp hj).1 hn hfit (fun h => by cases h) (fun q h => ⟨rfl, mput_ne M j v h⟩) ⟨fl, hO.2, ?_⟩ hdg kk
  rw [mput_self]
  exact (x_fput hj).symm
/-- a reference into a field: the kind changes -/
theorem x_putR (hX : Xx G md d mc ms X) {idx ci j o r : Nat} {fl : List XF} {ty : FieldType} {fin : Bool} (hF : xFL md.1.cls idx ci j fin ty) (hO : xO κ hs o (kO ci fl)) (hj : j < fl.length) (hn : narrow ty (.ref (G.2.2 + r)) = .ref (G.2.2 + r)) (hfit : fits ty (.ref (G.2.2 + r)) = true) (hfi : fin = true → md.1.name = "<init>" ∧ ∃ T N, vwCl[ci]? = some (md.1.cls, T, N)) (hdg : decode md.2.1 pc = .ok (.putfield idx, 3)) (kk : XW G X md Q k n (pc + 3) loc st (kset κ o (kO ci (fl.set j (fR r)))) M hs) : XW G X md Q k n pc loc (xR r :: xR o :: st) κ M hs := by
  refine x_putG hX hF hO hj hn hfit hfi (fun q h => ⟨kset_ne κ _ h, rfl⟩) ⟨fl.set j (fR r), kset_self κ o _, ?_⟩ hdg kk
  exact (x_fputR hj).symm
/-- an int into a final field, in a constructor -/
theorem x_putIF (hX : Xx G md d mc ms X) {idx ci j o : Nat} {fl : List XF} {ty : FieldType} {v : Int} {fin : Bool} (hF : xFL md.1.cls idx ci j fin ty) (hO : xO κ hs o (kO ci fl)) (hj : fl[j]? = some fI) (hn : narrow ty (.int (Int32.ofInt v)) = .int (Int32.ofInt v)) (hfit : fits ty (.int (Int32.ofInt v)) = true) (hfi : fin = true → md.1.name = "<init>" ∧ ∃ T N, vwCl[ci]? = some (md.1.cls, T, N)) (hdg : decode md.2.1 pc = .ok (.putfield idx, 3)) (kk : XW G X md Q k n (pc + 3) loc st κ (mput M o j v) hs) : XW G X md Q k n pc loc (xI v :: xR o :: st) κ M hs := by
  refine x_putG hX hF hO (List.getElem?_eq_some_iff.mp hj).1 hn hfit hfi (fun q h => ⟨rfl, mput_ne M j v h⟩) ⟨fl, hO.2, ?_⟩ hdg kk
  rw [mput_self]
  exact (x_fput hj).symm
-- arrays
theorem x_ai {t N : Nat} {o : Nat} {H : Heap} (hH : xH G κ M hs H) (hO : xO κ hs o (kA t N)) : H[G.2.2 + o]? = some (vp_cell (G.2.1 t) (N, .inl (fun j => Int32.ofInt (M o j)))) := xH_at hH hO
theorem x_iald (hX : Xx G md d mc ms X) {o N j : Nat} {a v : Int} (hO : xO κ hs o (kA 0 N)) (hj : a = (j : Int)) (hn : j < N) (hN : N ≤ 65536) (hv : M o j = v) (hdg : decode md.2.1 pc = .ok (.iaload, 1)) (kk : XW G X md Q k n (pc + 1) loc (xI v :: st) κ M hs) : XW G X md Q k n pc loc (xI a :: xR o :: st) κ M hs := by
  obtain ⟨p, l, e, R, s, m, args, below, meth, c⟩ := X
  intro H locs ls hH hS hl
  obtain ⟨h1, h2⟩ := x_in hj hn hN
  subst hv
  have k2 := kk H locs ls hH hS hl
  refine va_iald hX.1 hX.2.1 hX.2.2.2.2.2.2.1.1 hH.1 o 0 (xO_get hO) rfl h1 hdg ?_
  rw [h2]
  exact k2
theorem x_cald (hX : Xx G md d mc ms X) {o N j : Nat} {a v : Int} (hO : xO κ hs o (kA 1 N)) (hj : a = (j : Int)) (hn : j < N) (hN : N ≤ 65536) (hv : M o j = v) (hdg : decode md.2.1 pc = .ok (.caload, 1)) (kk : XW G X md Q k n (pc + 1) loc (xI v :: st) κ M hs) : XW G X md Q k n pc loc (xI a :: xR o :: st) κ M hs := by
  obtain ⟨p, l, e, R, s, m, args, below, meth, c⟩ := X
  intro H locs ls hH hS hl
  obtain ⟨h1, h2⟩ := x_in hj hn hN
  subst hv
  have k2 := kk H locs ls hH hS hl
  refine va_cald hX.1 hX.2.1 hX.2.2.2.2.2.2.1.1 hH.1 o 1 (xO_get hO) rfl h1 hdg ?_
  rw [h2]
  exact k2
theorem x_zald (hX : Xx G md d mc ms X) {o N j : Nat} {a v : Int} (hO : xO κ hs o (kA 2 N)) (hj : a = (j : Int)) (hn : j < N) (hN : N ≤ 65536) (hv : M o j = v) (hdg : decode md.2.1 pc = .ok (.baload, 1)) (kk : XW G X md Q k n (pc + 1) loc (xI v :: st) κ M hs) : XW G X md Q k n pc loc (xI a :: xR o :: st) κ M hs := by
  obtain ⟨p, l, e, R, s, m, args, below, meth, c⟩ := X
  intro H locs ls hH hS hl
  obtain ⟨h1, h2⟩ := x_in hj hn hN
  subst hv
  have k2 := kk H locs ls hH hS hl
  refine va_zald hX.1 hX.2.1 hX.2.2.2.2.2.2.1.1 hH.1 o 2 (xO_get hO) rfl h1 hdg ?_
  rw [h2]
  exact k2
theorem x_aald (hX : Xx G md d mc ms X) {o t N j r : Nat} {a : Int} {g : Nat → Option Nat} {C : String} (hO : xO κ hs o (kQ t N g)) (ht : xtys[t]? = some (.object C)) (hj : a = (j : Int)) (hn : j < N) (hN : N ≤ 65536) (hv : g j = some r) (hdg : decode md.2.1 pc = .ok (.aaload, 1)) (kk : XW G X md Q k n (pc + 1) loc (xR r :: st) κ M hs) : XW G X md Q k n pc loc (xI a :: xR o :: st) κ M hs := by
  obtain ⟨p, l, e, R, s, m, args, below, meth, c⟩ := X
  intro H locs ls hH hS hl
  obtain ⟨h1, h2⟩ := x_in hj hn hN
  have k2 := kk H locs ls hH hS hl
  have h9 : (xty G)[t]? = some (G.2.1 t, .object C) := by
    match t, ht with
    | 3, ht => cases ht; rfl
    | 4, ht => cases ht; rfl
  refine va_aldq hX.1 hX.2.1 hX.2.2.2.2.2.2.1.1 hH.1 o t (xO_get hO) h9 h1 hdg ?_
  rw [h2, hv]
  exact k2
theorem x_alen (hX : Xx G md d mc ms X) {o t N : Nat} (hO : xO κ hs o (kA t N)) (ht : t < 3) (hdg : decode md.2.1 pc = .ok (.arraylength, 1)) (kk : XW G X md Q k n (pc + 1) loc (xI (N : Int) :: st) κ M hs) : XW G X md Q k n pc loc (xR o :: st) κ M hs := by
  obtain ⟨p, l, e, R, s, m, args, below, meth, c⟩ := X
  intro H locs ls hH hS hl
  have h9 : ∃ ty, (xty G)[t]? = some (G.2.1 t, ty) := by
    match t, ht with
    | 0, _ => exact ⟨_, rfl⟩
    | 1, _ => exact ⟨_, rfl⟩
    | 2, _ => exact ⟨_, rfl⟩
  obtain ⟨ty, h9⟩ := h9
  exact va_alen (v := Int32.ofInt (N : Int)) hX.1 hX.2.1 hX.2.2.2.2.2.2.1.1 hH.1 o t (xO_get hO) h9 (Int32.ofInt_eq_ofNat).symm hdg (kk H locs ls hH hS hl)
theorem x_ast {t N o j : Nat} {v : Int} {H H1 : Heap} (hH : xH G κ M hs H) (hO : xO κ hs o (kA t N)) (e : H1[G.2.2 + o]? = some ((vp_cell (G.2.1 t) (N, .inl (fun j => Int32.ofInt (M o j)))).setSlot j (.int (Int32.ofInt v)))) (z : H1.size = H.size) (oq : ∀ q : Nat, q ≠ G.2.2 + o → H1[q]? = H[q]?) : xH G κ (mput M o j v) hs H1 := by
  refine xH_put hH hO.1 (fun q h => ⟨rfl, mput_ne M j v h⟩) ?_ z oq
  rw [hO.2, mput_self]
  show H1[G.2.2 + o]? = some (vp_cell (G.2.1 t) (N, .inl (fun i => Int32.ofInt (up1 (M o) j v i))))
  rw [e, vp_cell_i, vp_cell_i, arrV_store]
  congr 2
  funext q
  by_cases hq : q = j
  · subst hq
    simp [updV, up1]
  · simp [updV, up1, hq]
theorem x_iast (hX : Xx G md d mc ms X) {o N j : Nat} {a v : Int} (hO : xO κ hs o (kA 0 N)) (hj : a = (j : Int)) (hn : j < N) (hN : N ≤ 65536) (hdg : decode md.2.1 pc = .ok (.iastore, 1)) (kk : XW G X md Q k n (pc + 1) loc st κ (mput M o j v) hs) : XW G X md Q k n pc loc (xI v :: xI a :: xR o :: st) κ M hs := by
  obtain ⟨p, l, e, R, s, m, args, below, meth, c⟩ := X
  intro H locs ls hH hS hl
  obtain ⟨h1, h2⟩ := x_in hj hn hN
  refine W.iast hX.1 hX.2.1 (x_ai hH hO) ((hX.2.2.2.2.2.2.1.1.2 0 _ rfl).1 N (fun j => .int (Int32.ofInt (M o j)))) (fun q => by cases q) (by show ¬ (_ < 0 ∨ (arrV _ _ _).slots.size ≤ _); rw [arrV_size]; exact h1) rfl rfl hdg fun H1 e z oq => ?_
  rw [h2] at e
  exact kk H1 _ ls (x_ast hH hO e z oq) (hS.put z oq (Nat.le_add_right _ _)) hl
theorem x_cast (hX : Xx G md d mc ms X) {o N j : Nat} {a v : Int} (hO : xO κ hs o (kA 1 N)) (hj : a = (j : Int)) (hn : j < N) (hN : N ≤ 65536) (hnr : narrow .char (.int (Int32.ofInt v)) = .int (Int32.ofInt v)) (hdg : decode md.2.1 pc = .ok (.castore, 1)) (kk : XW G X md Q k n (pc + 1) loc st κ (mput M o j v) hs) : XW G X md Q k n pc loc (xI v :: xI a :: xR o :: st) κ M hs := by
  obtain ⟨p, l, e, R, s, m, args, below, meth, c⟩ := X
  intro H locs ls hH hS hl
  obtain ⟨h1, h2⟩ := x_in hj hn hN
  refine W.cast hX.1 hX.2.1 (x_ai hH hO) ((hX.2.2.2.2.2.2.1.1.2 1 _ rfl).1 N (fun j => .int (Int32.ofInt (M o j)))) (fun q => by cases q) (by show ¬ (_ < 0 ∨ (arrV _ _ _).slots.size ≤ _); rw [arrV_size]; exact h1) rfl rfl hdg fun H1 e z oq => ?_
  rw [h2, hnr] at e
  exact kk H1 _ ls (x_ast hH hO e z oq) (hS.put z oq (Nat.le_add_right _ _)) hl
theorem x_zast (hX : Xx G md d mc ms X) {o N j : Nat} {a v : Int} (hO : xO κ hs o (kA 2 N)) (hj : a = (j : Int)) (hn : j < N) (hN : N ≤ 65536) (hnr : narrow .boolean (.int (Int32.ofInt v)) = .int (Int32.ofInt v)) (hdg : decode md.2.1 pc = .ok (.bastore, 1)) (kk : XW G X md Q k n (pc + 1) loc st κ (mput M o j v) hs) : XW G X md Q k n pc loc (xI v :: xI a :: xR o :: st) κ M hs := by
  obtain ⟨p, l, e, R, s, m, args, below, meth, c⟩ := X
  intro H locs ls hH hS hl
  obtain ⟨h1, h2⟩ := x_in hj hn hN
  refine W.zast hX.1 hX.2.1 (x_ai hH hO) ((hX.2.2.2.2.2.2.1.1.2 2 _ rfl).1 N (fun j => .int (Int32.ofInt (M o j)))) (fun q => by cases q) (by show ¬ (_ < 0 ∨ (arrV _ _ _).slots.size ≤ _); rw [arrV_size]; exact h1) rfl rfl hdg fun H1 e z oq => ?_
  rw [h2, hnr] at e
  exact kk H1 _ ls (x_ast hH hO e z oq) (hS.put z oq (Nat.le_add_right _ _)) hl
/-- a reference into an array: the kind changes -/
theorem x_aast (hX : Xx G md d mc ms X) {o t N j r ci : Nat} {fl : List XF} {a : Int} {g : Nat → Option Nat} {q : vw_C} (hO : xO κ hs o (kQ t N g)) (ht : xtys[t]? = some (.object q.1)) (hr : xO κ hs r (kO ci fl)) (hc : vwCl[ci]? = some q) (hj : a = (j : Int)) (hn : j < N) (hN : N ≤ 65536) (hdg : decode md.2.1 pc = .ok (.aastore, 1)) (kk : XW G X md Q k n (pc + 1) loc st (kset κ o (kQ t N (va_up g j (some r)))) M hs) : XW G X md Q k n pc loc (xR r :: xI a :: xR o :: st) κ M hs := by
  obtain ⟨p, l, e, R, s, m, args, below, meth, c⟩ := X
  intro H locs ls hH hS hl
  obtain ⟨h1, h2⟩ := x_in hj hn hN
  have hK := hX.2.2.2.2.2.2.1.1
  have h9 : (xty G)[t]? = some (G.2.1 t, .object q.1) := by
    match t, ht with
    | 3, ht => rw [← Option.some.inj ht]; rfl
    | 4, ht => rw [← Option.some.inj ht]; rfl
  obtain ⟨r', hr', cellV, g1, g2, g3, -⟩ := xH_at hH hr
  have hcls := (hK.1 ci q hc).2
  obtain ⟨kA', comp, k1, k2, k3, -⟩ := (hK.2 t _ h9).2
  have hcomp : comp = G.1.1 ci := Option.some.inj (k3.symm.trans hcls.1)
  subst hcomp
  obtain ⟨kC, hkC, -⟩ := id hcls.2
  refine W.aast hX.1 hX.2.1 (xH_at hH hO) (fun q h => by cases h) (fun h => by cases h) k1 k2 rfl hkC ⟨fun q => h1 (Or.inl q), by show _ < (arrV _ _ _).slots.size; rw [arrV_size, h2]; exact hn⟩ g1 (fun q h => by rw [g3] at h; cases h) (by rw [g2]; exact hkC) (by rw [g2]; exact va_assign hcls) rfl rfl hdg fun H1 e z oq => ?_
  rw [h2] at e
  refine kk H1 _ ls (xH_put hH hO.1 (fun q h => ⟨kset_ne κ _ h, rfl⟩) ?_ z oq) (hS.put z oq (Nat.le_add_right _ _)) hl
  rw [kset_self]
  show H1[G.2.2 + o]? = some (vp_cell (G.2.1 t) (N, .inr (.inr (.inr (.inr (fun i => (va_up g j (some r) i).map (fun o => G.2.2 + o)))))))
  rw [e]
  show some ((vp_cell (G.2.1 t) (N, .inr (.inr (.inr (.inr (fun i => (g i).map (fun o => G.2.2 + o))))))).setSlot j _) = _
  rw [vp_cell_q, vp_cell_q, arrV_store]
  congr 2
  funext q
  by_cases hq : q = j
  · subst hq
    simp [updV, va_up, va_rf]
  · simp [updV, va_up, hq]
-- makings
theorem xH_push {kd : XK} {f : Nat → Int} {H H1 : Heap} (hH : xH G κ M hs H) (e : va_at G.1 vwCl (G.2.2 + hs, xe G kd f) H1) (z : H1.size = H.size + 1) (o1 : ∀ q : Nat, q < H.size → H1[q]? = H[q]?) : xH G (kset κ hs kd) (mset M hs f) (hs + 1) H1 := by
  refine ⟨?_, by rw [z, hH.2]; omega⟩
  rw [← xw_push]
  exact (hH.1.kept (fun k x hx => o1 x.1 ((hH.1 k x hx).lt))).app (fun k x hx => by
    have hz : k < 1 := (List.getElem?_eq_some_iff.mp hx).1
    rw [show k = 0 by omega] at hx
    cases hx
    exact e)
theorem va_S.push {A : Nat → Prop} {H0 H H1 : Heap} {locs : List Loc} (h : va_S A H0 H locs) (z : H.size ≤ H1.size) (o1 : ∀ q : Nat, q < H.size → H1[q]? = H[q]?) : va_S A H0 H1 locs := ⟨Nat.le_trans h.1 z, fun q h1 h2 => (o1 q (Nat.lt_of_lt_of_le h1 h.1)).trans (h.2.1 q h1 h2), h.2.2⟩
theorem x_newa (hX : Xx G md d mc ms X) {t N : Nat} {atype : ArrayType} {ty : FieldType} {a : Int} (hw : Cond.arrayClass (newarray.typeOf atype) ∈ lw_g) (hty : newarray.typeOf atype = ty) (ht : (xty G)[t]? = some (G.2.1 t, ty)) (hdf : defaultValue ty = .int 0) (hprim : ∀ C, ty ≠ .object C) (ha : a = (N : Int)) (hN : N ≤ 65536) (hb8 : componentBytes ty ≤ 8) (hc : k + 1 ≤ mc) (hsl : n + N ≤ ms) (hdg : decode md.2.1 pc = .ok (.newarray atype, 2)) (kk : XW G X md Q (k + 1) (n + N) (pc + 2) loc (xR hs :: st) (kset κ hs (kA t N)) (mset M hs (fun _ => 0)) (hs + 1)) : XW G X md Q k n pc loc (xI a :: st) κ M hs := by
  obtain ⟨p, l, e, R, s, m, args, below, meth, c⟩ := X
  intro H locs ls hH hS hl
  obtain ⟨hexec, hb, -, -, hown, hts, hK, -, hR, -, -⟩ := hX
  subst hty
  subst ha
  have h2 : (Int32.ofInt (N : Int)).toNatClampNeg = N := by rw [x_cl (by omega)]; rfl
  refine va_newaK (h := H.size) hexec hb (hts _ hw) rfl hdg (n := Int32.ofInt (N : Int)) rfl (by rw [x_zero, x_lt (by omega)]; omega) h2 (by have := Nat.mul_le_mul hN hb8; omega) (by rw [hR]; exact hc) (by rw [hR]; exact hsl) rfl fun H1 cA e1 z1 o1 hAr hNm => ?_
  have hcA : cA = G.2.1 t := by
    have h5 := (hK.1.2 t _ ht).2
    revert hNm h5
    cases atype <;> (intro h6 h5; exact Option.some.inj (h6.symm.trans h5))
  have k3 := kk H1 locs ls (xH_push hH (by rw [← hH.2]; show H1[H.size]? = some (vp_cell _ _); rw [e1, hcA, hdf]; rfl) z1 o1) (hS.push (by omega) o1) hl
  rw [hH.2]
  exact k3
theorem x_anewa (hX : Xx G md d mc ms X) {t N idx : Nat} {C : String} {a : Int} (hw : Cond.classLink md.1.cls idx C ∈ lw_g) (hov : ∀ U, xKs G U → va_AO C U) (ht : (xty G)[t]? = some (G.2.1 t, .object C)) (ha : a = (N : Int)) (hN : N ≤ 65536) (hc : k + 1 ≤ mc) (hsl : n + N ≤ ms) (hdg : decode md.2.1 pc = .ok (.anewarray idx, 3)) (kk : XW G X md Q (k + 1) (n + N) (pc + 3) loc (xR hs :: st) (kset κ hs (kQ t N (fun _ => none))) (mset M hs (fun _ => 0)) (hs + 1)) : XW G X md Q k n pc loc (xI a :: st) κ M hs := by
  obtain ⟨p, l, e, R, s, m, args, below, meth, c⟩ := X
  intro H locs ls hH hS hl
  obtain ⟨hexec, hb, -, -, hown, hts, hK, -, hR, -, -⟩ := hX
  subst ha
  have h2 : (Int32.ofInt (N : Int)).toNatClampNeg = N := by rw [x_cl (by omega)]; rfl
  have hcc : k + 1 ≤ R.cells := by rw [hR]; exact hc
  have hss : n + N ≤ R.slots := by rw [hR]; exact hsl
  refine W.anew hexec hb hown (hts _ hw) (va_AO.use (hov s hK)) rfl hdg (n := Int32.ofInt (N : Int)) rfl (by rw [x_zero, x_lt (by omega)]; omega) (by rw [h2]; omega) hcc (by rw [h2]; exact hss) fun cA kA comp f1 f2 f3 f4 => ?_
  rw [h2]
  have hcA : cA = G.2.1 t := by
    obtain ⟨_, _, _, _, _, h5⟩ := (hK.1.2 t _ ht).2
    exact Option.some.inj (f1.symm.trans h5)
  subst hcA
  have k3 := kk (H.push { cls := G.2.1 t, slots := Array.replicate N .null, vm := .none }) locs ls (xH_push hH (by
    rw [← hH.2]
    show (H.push _)[H.size]? = some (arrV (G.2.1 t) N (fun _ => .null))
    rw [Array.getElem?_push_size, ← arrV_new]) (Array.size_push _) (fun q hq => by rw [Array.getElem?_push, if_neg (Nat.ne_of_lt hq)])) (hS.push (by rw [Array.size_push]; omega) (fun q hq => by rw [Array.getElem?_push, if_neg (Nat.ne_of_lt hq)])) hl
  rw [hH.2]
  exact k3
/-- a field's first value -/
def xf0 : FieldType → XF
  | .object _ => fN
  | .array _ => fN
  | _ => fI
theorem x_new (hX : Xx G md d mc ms X) {idx ci N : Nat} {fl : List XF} (hC : xLC md.1.cls idx ci N) (hfl : ∀ (tyf : Nat → FieldType) (C : String) (T : u_T), vwCl[ci]? = some (C, T, N) → (∀ j, j < N → parseFieldDescriptor (T j).2.2.1 = some (tyf j)) → ∀ j, j < N → defaultValue (tyf j) = vp_V (fl.mapIdx (fun _ x => xf 0 0 x)) j) (hz : ∀ o, fR o ∉ fl) (hc : k + 1 ≤ mc) (hsl : n + N ≤ ms) (hdg : decode md.2.1 pc = .ok (.new idx, 3)) (kk : XW G X md Q (k + 1) (n + N) (pc + 3) loc (xR hs :: st) (kset κ hs (kO ci fl)) (mset M hs (fun _ => 0)) (hs + 1)) : XW G X md Q k n pc loc st κ M hs := by
  obtain ⟨p, l, e, R, s, m, args, below, meth, c⟩ := X
  intro H locs ls hH hS hl
  obtain ⟨hexec, hb, -, -, hown, hts, hK, -, hR, -, -⟩ := hX
  obtain ⟨C, T, tyf, h1, h2, h3, h4, h5, h6⟩ := hC
  have hKn := hK.1.1 ci _ h1
  refine W.newcK (h := H.size) hexec hb hown (hts _ h4) (hts _ h5) (hts _ h6) rfl hdg (by rw [hR]; exact hc) (by rw [hR]; exact hsl) hKn.2.1 rfl fun H1 kC hkC e1 z1 o1 => ?_
  have hmap : fl.mapIdx (fun _ x => xf 0 0 x) = fl.mapIdx (fun _ x => xf G.2.2 0 x) := by
    apply List.ext_getElem?
    intro i
    rw [List.getElem?_mapIdx, List.getElem?_mapIdx]
    cases hi : fl[i]? with
    | none => rfl
    | some y =>
      match y, hi with
      | none, _ => rfl
      | some none, _ => rfl
      | some (some o), hi => exact absurd (List.mem_of_getElem? hi) (hz o)
  have k3 := kk H1 locs ls (xH_push hH (by
    rw [← hH.2]
    refine ⟨_, h1, (u_born tyf hts h2 hKn hkC e1 h3).to (fun j hj => ?_)⟩
    rw [hfl tyf C T h1 h3 j hj, hmap]) z1 o1) (hS.push (by omega) o1) hl
  rw [hH.2]
  exact k3
theorem x_objInit (hX : Xx G md d mc ms X) {idx o : Nat} (hw : Cond.methodLink md.1.cls idx objectInit ∈ lw_g) (hst : (st.map xcat).sum ≤ 8) (hd : 1 ≤ d) (hdg : decode md.2.1 pc = .ok (.invokespecial idx, 3)) (kk : XW G X md Q k n (pc + 3) loc st κ M hs) : XW G X md Q k n pc loc (xR o :: st) κ M hs := by
  obtain ⟨p, l, e, R, s, m, args, below, meth, c⟩ := X
  intro H locs ls hH hS hl
  obtain ⟨hexec, hb, hml, -, hown, hts, hK, -, hR, -, -⟩ := hX
  refine W.objInit hexec hb hown (hts _ hw) (hts _ tw_77) (hts _ tw_78) rfl (by rw [hml]; exact hl.1) rfl hdg (by rw [hR]; exact hd) ?_ (kk H locs ls hH hS hl)
  have e9 : ((st.map (xt G.2.2)).map fun v => v.category) = st.map xcat := by
    rw [List.map_map]
    exact List.map_congr_left (fun v _ => xcat_eq _ v)
  rw [hR]
  show 2 * 0 + ((st.map (xt G.2.2)).map fun v => v.category).sum + 12 ≤ 34 * d
  rw [e9]
  omega
end XR
end
section
/-! calls, returns, and the JDK's own -/
theorem tw_minS : Cond.static Lib.Math.min.name ∈ lw_g := tw_285
theorem tw_maxS : Cond.static Lib.Math.max.name ∈ lw_g := tw_288
theorem tw_minC : Cond.code Lib.Math.min.name Lib.Math.min.code 2 (some .int) ∈ lw_g := lg_in (List.mem_of_getElem? (i := 286) (by decide +kernel)) rfl
theorem tw_maxC : Cond.code Lib.Math.max.name Lib.Math.max.code 2 (some .int) ∈ lw_g := lg_in (List.mem_of_getElem? (i := 289) (by decide +kernel)) rfl
theorem tw_math : Cond.initialized "java/lang/Math" ∈ lw_g := tw_67
theorem tw_sys : Cond.initialized "java/lang/System" ∈ lw_g := tw_66
theorem tw_acN : Cond.native arraycopyName ∈ lw_g := tw_238
theorem tw_acS : Cond.static arraycopyName ∈ lw_g := tw_237
section XR2
variable {G : XG} {md : XD} {d mc ms : Nat} {X : XX} {Q : State → Prop} {k n pc : Nat} {loc : List (Option XV)} {st rest : List XV} {κ : XKs} {M : XM} {hs : Nat}
theorem xgood {md' : XD} (h : Cond.code md'.1 md'.2.1 md'.2.2.1 md'.2.2.2 ∈ lw_g) : GoodIn lw_g (xws md') := fun w hw => by
  rcases List.mem_cons.mp hw with rfl | hw
  · exact ⟨h, good_of_word (lg_of h).2⟩
  · exact ⟨hw, good_of_word (lg_of hw).2⟩
theorem xcats (b : Nat) (l : List XV) : ((l.map (xt b)).map fun v => v.category) = l.map xcat := by
  rw [List.map_map]
  exact List.map_congr_left (fun v _ => xcat_eq b v)
theorem x_after {p : Program} {l : Launch} {e : Env} {R : Room} {s : State} {m : MethodId} {args : Array Value} {below : List Frame} {meth : Method} {c : Code} {H : Heap} {locs : List Loc} {ls : Array Slot} {mc' ms' : Nat} {st0 : List Value} {a : Array Value} {Post : XP}
    (hr : va_Run p l e R s m args below meth c H locs k n mc' ms' (F0 m pc ls st0) (rest.map (xt G.2.2)) (xQ G Post a) (fun q => G.2.2 ≤ q)) (hS : va_S (fun q => G.2.2 ≤ q) s.heap H locs)
    (kk : ∀ r κ' M' hs' (H1 : Heap) (locs1 : List Loc), Post r κ' M' hs' → xH G κ' M' hs' H1 → va_S (fun q => G.2.2 ≤ q) s.heap H1 locs1 → W p l e R s m args below meth c H1 locs1 (k + mc') (n + ms') Q (F0 m (pc + 3) ls ((r.toList ++ rest).map (xt G.2.2)))) : W p l e R s m args below meth c H locs k n Q (F0 m pc ls st0) := by
  intro T hT X
  obtain ⟨v, st₀, t, T', L, h0, X', hL, e1, e2, ⟨⟨r, κ', M', hs', hv, hp, hH'⟩, hF⟩, st⟩ := hr T hT X
  cases hv
  obtain ⟨hz, hk⟩ := hF
  rw [h0] at hz hk
  have k2 := kk r κ' M' hs' T'.heap (locs ++ L) hp (by rw [e1]; exact hH') ⟨Nat.le_trans hS.1 (by rw [e1]; exact hz), fun q h1 h2 => by rw [e1, hk q (Nat.lt_of_lt_of_le h1 hS.1) h2]; exact hS.2.1 q h1 h2, fun q hq => by
      rcases List.mem_append.mp hq with h | h
      · exact hS.2.2 q h
      · exact hL q h⟩
  obtain ⟨t2, a1, b1⟩ := k2 T' rfl X'
  refine ⟨t2, st t2 ?_, b1⟩
  have e9 : (Option.map (xt G.2.2) r).toList ++ rest.map (xt G.2.2) = (r.toList ++ rest).map (xt G.2.2) := by
    cases r <;> simp
  rw [e9]
  exact a1
theorem xB_to {H : Heap} {s U : State} (hH : xH G κ M hs H) (hK : xKs G s) (hb : G.2.2 ≤ H.size) (hU : U.heap = H) (hW : s.WarmedH U.vm) : xB G κ M hs U := ⟨by rw [hU]; exact hH, hK.warm hW, by rw [hU]; exact hb⟩
theorem x_callV (hX : Xx G md d mc ms X) {md' : XD} {d' mc' ms' idx nn ci o N : Nat} {As : List XV} {fl : List XF} {T : u_T} {Post : XP} (hC : XC G md' d' mc' ms' (xR o :: As) κ M hs Post) (hO : xO κ hs o (kO ci fl)) (hci : vwCl[ci]? = some (md'.1.cls, T, N)) (hL : xLV md.1.cls idx md'.1 nn) (hnn : As.length = nn) (hst : As.reverse ++ xR o :: rest = st) (hcat : (rest.map xcat).sum ≤ 8) (hd : d' + 1 ≤ d) (hc : k + mc' ≤ mc) (hsl : n + ms' ≤ ms) (hdg : decode md.2.1 pc = .ok (.invokevirtual idx, 3))
    (kk : ∀ r κ' M' hs', Post r κ' M' hs' → XW G X md Q (k + mc') (n + ms') (pc + 3) loc (r.toList ++ rest) κ' M' hs') : XW G X md Q k n pc loc st κ M hs := by
  obtain ⟨p, l, e, R, s, m, args, below, meth, c⟩ := X
  intro H locs ls hH hS hl
  subst hst
  obtain ⟨hexec, hb, hml, -, hown, hts, hK, -, hR, hbs, -⟩ := hX
  obtain ⟨⟨hcd, hnl⟩, hM⟩ := hC
  obtain ⟨h1, h2, h3, h4, h5, h6, h7⟩ := hL
  have cb : CallB R s args md.1.cls idx md'.1 md'.2.1 md'.2.2.1 md'.2.2.2 (xws md') (xroom d' mc' ms') mc' ms' nn := callB_of nn hts (xgood hcd) rfl rfl rfl (hts _ h4) (hts _ h1) ⟨h5, h6, h7⟩ ⟨by rw [hR]; exact hd, by rw [hR]; show 8 + (md'.2.2.1 + 11) + 34 * d' ≤ 34 * d; omega⟩
  have hbH : G.2.2 ≤ H.size := by rw [hH.2]; omega
  obtain ⟨r', hr', cellV, g1, g2, g3, -⟩ := xH_at hH hO
  refine x_after (rest := rest) (va_runV (As := As.map (xt G.2.2)) (b := G.2.2 + o) (C := md'.1.cls) ⟨hexec, hb, hml, hown, hts⟩ (hM l) ⟨cb, hts _ h2, hts _ h3⟩ ⟨xB_blind, ⟨cellV, g1, by rw [g3]; rfl, by rw [g2]; exact (hK.1.1 ci _ hci).2.1⟩, fun U hU hW => ⟨rfl, xB_to hH hK hbH hU hW⟩⟩ rfl (by rw [List.length_map]; exact hnn) hl.1 ?_ (lv_room (by rw [xcats]; exact hcat)) hdg ⟨by rw [hR]; exact hc, by rw [hR]; exact hsl⟩) hS (fun r κ' M' hs' H1 locs1 hp hH1 hS1 => kk r κ' M' hs' hp H1 locs1 ls hH1 hS1 hl)
  show List.map (xt G.2.2) (As.reverse ++ xR o :: rest) = _
  rw [List.map_append, List.map_reverse]
  rfl
theorem x_callS (hX : Xx G md d mc ms X) {md' : XD} {d' mc' ms' idx nn : Nat} {As : List XV} {Post : XP} (hC : XC G md' d' mc' ms' As κ M hs Post) (hL : xLS md.1.cls idx md'.1 nn) (hnn : As.length = nn) (hst : As.reverse ++ rest = st) (hcat : (rest.map xcat).sum ≤ 8) (hd : d' + 1 ≤ d) (hc : k + mc' ≤ mc) (hsl : n + ms' ≤ ms) (hdg : decode md.2.1 pc = .ok (.invokestatic idx, 3))
    (kk : ∀ r κ' M' hs', Post r κ' M' hs' → XW G X md Q (k + mc') (n + ms') (pc + 3) loc (r.toList ++ rest) κ' M' hs') : XW G X md Q k n pc loc st κ M hs := by
  obtain ⟨p, l, e, R, s, m, args, below, meth, c⟩ := X
  intro H locs ls hH hS hl
  subst hst
  obtain ⟨hexec, hb, hml, -, hown, hts, hK, -, hR, hbs, -⟩ := hX
  obtain ⟨⟨hcd, hnl⟩, hM⟩ := hC
  obtain ⟨h1, h2, h4, h5, h6, h7⟩ := hL
  have cb : CallB R s args md.1.cls idx md'.1 md'.2.1 md'.2.2.1 md'.2.2.2 (xws md') (xroom d' mc' ms') mc' ms' nn := callB_of nn hts (xgood hcd) rfl rfl rfl (hts _ h4) (hts _ h1) ⟨h5, h6, h7⟩ ⟨by rw [hR]; exact hd, by rw [hR]; show 8 + (md'.2.2.1 + 11) + 34 * d' ≤ 34 * d; omega⟩
  have hbH : G.2.2 ≤ H.size := by rw [hH.2]; omega
  refine x_after (rest := rest) (va_runS (As := As.map (xt G.2.2)) ⟨hexec, hb, hml, hown, hts⟩ (hM l) ⟨cb, hts _ h2⟩ ⟨xB_blind, fun U hU hW => ⟨rfl, xB_to hH hK hbH hU hW⟩⟩ rfl (by rw [List.length_map]; exact hnn) hl.1 ?_ (lv_room (by rw [xcats]; exact hcat)) hdg ⟨by rw [hR]; exact hc, by rw [hR]; exact hsl⟩) hS (fun r κ' M' hs' H1 locs1 hp hH1 hS1 => kk r κ' M' hs' hp H1 locs1 ls hH1 hS1 hl)
  show List.map (xt G.2.2) (As.reverse ++ rest) = _
  rw [List.map_append, List.map_reverse]
theorem x_callI (hX : Xx G md d mc ms X) {md' : XD} {d' mc' ms' idx nn o : Nat} {As : List XV} {Post : XP} (hC : XC G md' d' mc' ms' (xR o :: As) κ M hs Post) (hret : md'.2.2.2 = none) (hL : xLI md.1.cls idx md'.1 nn) (hnn : As.length = nn) (hst : As.reverse ++ xR o :: rest = st) (hcat : (rest.map xcat).sum ≤ 8) (hd : d' + 1 ≤ d) (hc : k + mc' ≤ mc) (hsl : n + ms' ≤ ms) (hdg : decode md.2.1 pc = .ok (.invokespecial idx, 3))
    (kk : ∀ r κ' M' hs', Post r κ' M' hs' → XW G X md Q (k + mc') (n + ms') (pc + 3) loc (r.toList ++ rest) κ' M' hs') : XW G X md Q k n pc loc st κ M hs := by
  obtain ⟨p, l, e, R, s, m, args, below, meth, c⟩ := X
  intro H locs ls hH hS hl
  subst hst
  obtain ⟨hexec, hb, hml, -, hown, hts, hK, -, hR, hbs, -⟩ := hX
  obtain ⟨⟨hcd, hnl⟩, hM⟩ := hC
  obtain ⟨h1, h2, h3, h4, h5, h6, h7⟩ := hL
  have cb : CallB R s args md.1.cls idx md'.1 md'.2.1 md'.2.2.1 none (xws md') (xroom d' mc' ms') mc' ms' nn := callB_of nn hts (xgood hcd) (by rw [← hret]; rfl) rfl rfl (hts _ h4) (hts _ h1) ⟨h5, h6, h7⟩ ⟨by rw [hR]; exact hd, by rw [hR]; show 8 + (md'.2.2.1 + 11) + 34 * d' ≤ 34 * d; omega⟩
  have hbH : G.2.2 ≤ H.size := by rw [hH.2]; omega
  refine x_after (rest := rest) (va_runI (As := As.map (xt G.2.2)) (b := G.2.2 + o) ⟨hexec, hb, hml, hown, hts⟩ (hM l) ⟨cb, h3, hts _ h2⟩ ⟨xB_blind, fun U hU hW => ⟨rfl, xB_to hH hK hbH hU hW⟩⟩ rfl (by rw [List.length_map]; exact hnn) hl.1 ?_ (lv_room (by rw [xcats]; exact hcat)) hdg ⟨by rw [hR]; exact hc, by rw [hR]; exact hsl⟩) hS (fun r κ' M' hs' H1 locs1 hp hH1 hS1 => kk r κ' M' hs' hp H1 locs1 ls hH1 hS1 hl)
  show List.map (xt G.2.2) (As.reverse ++ xR o :: rest) = _
  rw [List.map_append, List.map_reverse]
  rfl
theorem x_callN (hX : Xx G md d mc ms X) {md' : XD} {d' mc' ms' idx nn o : Nat} {As : List XV} {Post : XP} (hC : XC G md' d' mc' ms' (xR o :: As) κ M hs Post) (hret : md'.2.2.2 = none) (hL : xLN md.1.cls idx md'.1 nn) (hnn : As.length = nn) (hst : As.reverse ++ xR o :: rest = st) (hcat : (rest.map xcat).sum ≤ 8) (hd : d' + 1 ≤ d) (hc : k + mc' ≤ mc) (hsl : n + ms' ≤ ms) (hdg : decode md.2.1 pc = .ok (.invokespecial idx, 3))
    (kk : ∀ r κ' M' hs', Post r κ' M' hs' → XW G X md Q (k + mc') (n + ms') (pc + 3) loc (r.toList ++ rest) κ' M' hs') : XW G X md Q k n pc loc st κ M hs := by
  obtain ⟨p, l, e, R, s, m, args, below, meth, c⟩ := X
  intro H locs ls hH hS hl
  subst hst
  obtain ⟨hexec, hb, hml, -, hown, hts, hK, -, hR, hbs, -⟩ := hX
  obtain ⟨⟨hcd, hnl⟩, hM⟩ := hC
  obtain ⟨host, h1, h2, h3, h4, h5, h6, h7⟩ := hL
  have cb : va_CN R s args md.1.cls idx md'.1 host md'.2.1 md'.2.2.1 none (xws md') (xroom d' mc' ms') mc' ms' nn := va_cnB nn hts (xgood hcd) (by rw [← hret]; rfl) rfl rfl (hK.2.2.2 _ h1) (hts _ h4) ⟨h5, h6, h7⟩ ⟨by rw [hR]; exact hd, by rw [hR]; show 8 + (md'.2.2.1 + 11) + 34 * d' ≤ 34 * d; omega⟩
  have hbH : G.2.2 ≤ H.size := by rw [hH.2]; omega
  refine x_after (rest := rest) (va_runIN (As := As.map (xt G.2.2)) (b := G.2.2 + o) ⟨hexec, hb, hml, hown, hts⟩ (hM l) ⟨cb, h3, hts _ h2⟩ ⟨xB_blind, fun U hU hW => ⟨rfl, xB_to hH hK hbH hU hW⟩⟩ rfl (by rw [List.length_map]; exact hnn) hl.1 ?_ (lv_room (by rw [xcats]; exact hcat)) hdg ⟨by rw [hR]; exact hc, by rw [hR]; exact hsl⟩) hS (fun r κ' M' hs' H1 locs1 hp hH1 hS1 => kk r κ' M' hs' hp H1 locs1 ls hH1 hS1 hl)
  show List.map (xt G.2.2) (As.reverse ++ xR o :: rest) = _
  rw [List.map_append, List.map_reverse]
  rfl
-- returns
theorem xQ_to {Post : XP} {s t : State} {args : Array Value} {H : Heap} {locs : List Loc} {r : Option XV} (hp : Post r κ M hs) (hH : xH G κ M hs H) (hS : va_S (fun q => G.2.2 ≤ q) s.heap H locs) (ht : t.heap = H) : xQ G Post args s (.returned (Option.map (xt G.2.2) r)) t := ⟨⟨r, κ, M, hs, rfl, hp, by rw [ht]; exact hH⟩, hS.F ht⟩
theorem x_iret (hX : Xx G md d mc ms X) {a : Int} {Post : XP} (hr : md.2.2.2 = some .int) (hk : k ≤ mc) (hn : n ≤ ms) (hdg : decode md.2.1 pc = .ok (.ireturn, 1)) (hp : Post (some (xI a)) κ M hs) : XW G X md (xq G Post mc ms X) k n pc loc [xI a] κ M hs := by
  obtain ⟨p, l, e, R, s, m, args, below, meth, c⟩ := X
  intro H locs ls hH hS hl
  obtain ⟨hexec, hb, -, hret, -, -, -, hlocks, -, -, -⟩ := hX
  exact W.widen hk hn (W.iret (v := Int32.ofInt a) hexec hb (hret.trans hr) (fun t ht hW => xQ_to hp hH hS ht) hS.2.2 hdg hlocks)
theorem x_zret (hX : Xx G md d mc ms X) {a : Int} {ty : FieldType} {Post : XP} (hr : md.2.2.2 = some ty) (hnr : narrow ty (.int (Int32.ofInt a)) = .int (Int32.ofInt a)) (hk : k ≤ mc) (hn : n ≤ ms) (hdg : decode md.2.1 pc = .ok (.ireturn, 1)) (hp : Post (some (xI a)) κ M hs) : XW G X md (xq G Post mc ms X) k n pc loc [xI a] κ M hs := by
  obtain ⟨p, l, e, R, s, m, args, below, meth, c⟩ := X
  intro H locs ls hH hS hl
  obtain ⟨hexec, hb, -, hret, -, -, -, hlocks, -, -, -⟩ := hX
  exact W.widen hk hn (W.zret (v := Int32.ofInt a) hexec hb (hret.trans hr) hnr (fun t ht hW => xQ_to hp hH hS ht) hS.2.2 hdg hlocks)
theorem x_vret (hX : Xx G md d mc ms X) {Post : XP} (hr : md.2.2.2 = none) (hk : k ≤ mc) (hn : n ≤ ms) (hdg : decode md.2.1 pc = .ok (.return_, 1)) (hp : Post none κ M hs) : XW G X md (xq G Post mc ms X) k n pc loc [] κ M hs := by
  obtain ⟨p, l, e, R, s, m, args, below, meth, c⟩ := X
  intro H locs ls hH hS hl
  obtain ⟨hexec, hb, -, hret, -, -, -, hlocks, -, -, -⟩ := hX
  exact W.widen hk hn (W.vret hexec hb (hret.trans hr) (fun t ht hW => xQ_to hp hH hS ht) hS.2.2 hdg hlocks)
theorem x_aret (hX : Xx G md d mc ms X) {o : Nat} {C : String} {Post : XP} (hr : md.2.2.2 = some (.object C)) (hk : k ≤ mc) (hn : n ≤ ms) (hdg : decode md.2.1 pc = .ok (.areturn, 1)) (hp : Post (some (xR o)) κ M hs) : XW G X md (xq G Post mc ms X) k n pc loc [xR o] κ M hs := by
  obtain ⟨p, l, e, R, s, m, args, below, meth, c⟩ := X
  intro H locs ls hH hS hl
  obtain ⟨hexec, hb, -, hret, -, -, -, hlocks, -, -, -⟩ := hX
  exact W.widen hk hn (W.aret (v := .ref (G.2.2 + o)) hexec hb (hret.trans hr) (Or.inl ⟨C, rfl⟩) (Or.inr ⟨_, rfl⟩) (fun t ht hW => xQ_to hp hH hS ht) hS.2.2 hdg hlocks)
theorem xn_bool {a : Int} (h : a = 0 ∨ a = 1) : narrow .boolean (.int (Int32.ofInt a)) = .int (Int32.ofInt a) := by
  rcases h with rfl | rfl <;> rfl
theorem xf_bool {a : Int} (h : a = 0 ∨ a = 1) : fits .boolean (.int (Int32.ofInt a)) = true := by
  rcases h with rfl | rfl <;> rfl
theorem xn_char {a : Int} (h : 0 ≤ a ∧ a < 65536) : narrow .char (.int (Int32.ofInt a)) = .int (Int32.ofInt a) := by
  obtain ⟨j, rfl⟩ := Int.eq_ofNat_of_zero_le h.1
  have h2 := pk_charN (q := j) (by omega)
  rw [Int32.ofInt_eq_ofNat]
  exact h2.1
theorem xf_char {a : Int} (h : 0 ≤ a ∧ a < 65536) : fits .char (.int (Int32.ofInt a)) = true := by
  obtain ⟨j, rfl⟩ := Int.eq_ofNat_of_zero_le h.1
  have h2 := pk_charN (q := j) (by omega)
  rw [Int32.ofInt_eq_ofNat]
  exact h2.2
-- Math.min, Math.max
theorem x_min (hX : Xx G md d mc ms X) {a b v : Int} {idx : Nat} (hL : Cond.methodLink md.1.cls idx Lib.Math.min.name ∈ lw_g) (hr : (-2147483648 ≤ a ∧ a < 2147483648) ∧ -2147483648 ≤ b ∧ b < 2147483648) (hv : (if b < a then b else a) = v) (hd : 1 ≤ d) (hk : k ≤ mc) (hn : n ≤ ms) (hcat : (st.map xcat).sum ≤ 8) (hdg : decode md.2.1 pc = .ok (.invokestatic idx, 3)) (kk : XW G X md Q k n (pc + 3) loc (xI v :: st) κ M hs) : XW G X md Q k n pc loc (xI b :: xI a :: st) κ M hs := by
  obtain ⟨p, l, e, R, s, m, args, below, meth, c⟩ := X
  intro H locs ls hH hS hl
  obtain ⟨hexec, hb, hml, -, hown, hts, hK, -, hR, hbs, -⟩ := hX
  have k2 := kk H locs ls hH hS hl
  have e9 : xt G.2.2 (xI v) = .int (if Int32.ofInt b < Int32.ofInt a then Int32.ofInt b else Int32.ofInt a) := by
    rw [← hv]
    by_cases h : b < a
    · rw [if_pos h, if_pos ((x_lt ⟨hr.2, hr.1⟩).mpr h)]
      rfl
    · rw [if_neg h, if_neg (fun q => h ((x_lt ⟨hr.2, hr.1⟩).mp q))]
      rfl
  rw [List.map_cons, e9] at k2
  exact va_mmin hexec hb (hml.trans hl.1.symm) hown (hts _ hL) (hts _ tw_minS) (hts _ tw_math) (hts _ tw_minC) (by rw [hR]; exact hd) (by rw [hR, xcats]; show _ + 13 ≤ 34 * d; omega) (by rw [hR]; exact hk) (by rw [hR]; exact hn) hdg k2
theorem x_max (hX : Xx G md d mc ms X) {a b v : Int} {idx : Nat} (hL : Cond.methodLink md.1.cls idx Lib.Math.max.name ∈ lw_g) (hr : (-2147483648 ≤ a ∧ a < 2147483648) ∧ -2147483648 ≤ b ∧ b < 2147483648) (hv : (if a < b then b else a) = v) (hd : 1 ≤ d) (hk : k ≤ mc) (hn : n ≤ ms) (hcat : (st.map xcat).sum ≤ 8) (hdg : decode md.2.1 pc = .ok (.invokestatic idx, 3)) (kk : XW G X md Q k n (pc + 3) loc (xI v :: st) κ M hs) : XW G X md Q k n pc loc (xI b :: xI a :: st) κ M hs := by
  obtain ⟨p, l, e, R, s, m, args, below, meth, c⟩ := X
  intro H locs ls hH hS hl
  obtain ⟨hexec, hb, hml, -, hown, hts, hK, -, hR, hbs, -⟩ := hX
  have k2 := kk H locs ls hH hS hl
  have e9 : xt G.2.2 (xI v) = .int (if Int32.ofInt a < Int32.ofInt b then Int32.ofInt b else Int32.ofInt a) := by
    rw [← hv]
    by_cases h : a < b
    · rw [if_pos h, if_pos ((x_lt hr).mpr h)]
      rfl
    · rw [if_neg h, if_neg (fun q => h ((x_lt hr).mp q))]
      rfl
  rw [List.map_cons, e9] at k2
  exact va_mmax hexec hb (hml.trans hl.1.symm) hown (hts _ hL) (hts _ tw_maxS) (hts _ tw_math) (hts _ tw_maxC) (by rw [hR]; exact hd) (by rw [hR, xcats]; show _ + 13 ≤ 34 * d; omega) (by rw [hR]; exact hk) (by rw [hR]; exact hn) hdg k2
-- System.arraycopy of a whole row of ints onto another
def cpy0 (f g : Nat → Int) (N : Nat) : Nat → Int := fun j => if j < N then f j else g j
theorem x_copy (hX : Xx G md d mc ms X) {o o2 N N2 L idx : Nat} {z a b : Int} (hL : Cond.methodLink md.1.cls idx arraycopyName ∈ lw_g) (hO : xO κ hs o (kA 0 N)) (hO2 : xO κ hs o2 (kA 0 N2)) (ha : a = 0) (hb0 : b = 0) (hz : z = (L : Int)) (h1 : L ≤ N) (h2 : L ≤ N2) (hLs : L ≤ 65536) (hd : 1 ≤ d) (hcat : (st.map xcat).sum ≤ 8) (hdg : decode md.2.1 pc = .ok (.invokestatic idx, 3)) (kk : XW G X md Q k n (pc + 3) loc st κ (mset M o2 (cpy0 (M o) (M o2) L)) hs) : XW G X md Q k n pc loc (xI z :: xI b :: xR o2 :: xI a :: xR o :: st) κ M hs := by
  subst ha
  subst hb0
  subst hz
  obtain ⟨p, l, e, R, s, m, args, below, meth, c⟩ := X
  intro H locs ls hH hS hl
  obtain ⟨hexec, hb, hml, -, hown, hts, hK, -, hR, hbs, -⟩ := hX
  have hcl : (Int32.ofInt (L : Int)).toNatClampNeg = L := by rw [x_cl (by omega)]; rfl
  have hti : (Int32.ofInt (L : Int)).toInt = (L : Int) := x_rng (by omega)
  have hcl0 : (Int32.ofInt 0).toNatClampNeg = 0 := rfl
  intro T hT X
  have hc0 := x_ai hH hO
  have hc1 := x_ai hH hO2
  have hAr : ArrOfT s (G.2.1 0) .int := (hK.1.2 0 (G.2.1 0, .int) rfl).1
  obtain ⟨-, k0, hk0, cm0, hkk0⟩ := hAr N (fun j => .int (Int32.ofInt (M o j)))
  obtain ⟨-, k1, hk1, cm1, hkk1⟩ := hAr N2 (fun j => .int (Int32.ofInt (M o2 j)))
  obtain ⟨vm', X', step⟩ := X.arraycopy hexec hown (hts _ hL) (hts _ tw_acN) (hts _ tw_acS) (hts _ tw_sys) (src := G.2.2 + o) (dst := G.2.2 + o2) (cs := vp_cell (G.2.1 0) (N, .inl (fun j => Int32.ofInt (M o j)))) (cd := vp_cell (G.2.1 0) (N2, .inl (fun j => Int32.ofInt (M o2 j)))) (srcPos := Int32.ofInt 0) (destPos := Int32.ofInt 0) (n := Int32.ofInt (L : Int)) (by rw [hT]; exact hc0) (by rw [hT]; exact hc1)
    (fun _ h => by cases h) (fun _ h => by cases h) (fun h => by cases h) (fun h => by cases h) hk0 hk1 hkk0 hkk1 (by simp [refKind]) (by decide) (by decide) (by rw [x_zero, x_lt (by omega)]; omega)
    (by rw [hti]; show ¬ (0 : Int) + _ > ((arrV _ N _).slots.size : Int); rw [arrV_size]; omega)
    (by rw [hti]; show ¬ (0 : Int) + _ > ((arrV _ N2 _).slots.size : Int); rw [arrV_size]; omega)
    (fun vm₁ _ i hi => by
      rw [hcl] at hi
      have e : (vp_cell (G.2.1 0) (N, .inl (fun j => Int32.ofInt (M o j)))).slots.getD ((Int32.ofInt 0).toNatClampNeg + i) .null = .int (Int32.ofInt (M o (0 + i))) := by
        show (arrV _ N (fun j => .int (Int32.ofInt (M o j)))).slots.getD (0 + i) _ = _
        rw [Array.getD_eq_getD_getElem?, arrV_read _ _ (by omega)]
        rfl
      refine ⟨?_, ?_⟩
      · rw [e]
        rfl
      · rw [e]
        exact trivial)
    (g := F0 m pc ls (.int (Int32.ofInt (L : Int)) :: .int (Int32.ofInt 0) :: .ref (G.2.2 + o2) :: .int (Int32.ofInt 0) :: .ref (G.2.2 + o) :: st.map (xt G.2.2))) rfl (by rw [hml]; exact hl.1) (rest := st.map (xt G.2.2)) rfl (by rw [hb]; exact hdg) (by rw [hR]; exact hd) (by
      rw [hR]
      show 2 * 0 + ((st.map (xt G.2.2)).map fun v => v.category).sum + (7 + 11) ≤ 34 * d
      rw [xcats]
      omega)
  have e1 : copied (vp_cell (G.2.1 0) (N, .inl (fun j => Int32.ofInt (M o j)))) (vp_cell (G.2.1 0) (N2, .inl (fun j => Int32.ofInt (M o2 j)))) (Int32.ofInt 0) (Int32.ofInt 0) (Int32.ofInt (L : Int)) = vp_cell (G.2.1 0) (N2, .inl (fun j => Int32.ofInt (cpy0 (M o) (M o2) L j))) := by
    have e2 := va_copied (fun z => Value.int z) (G.2.1 0) (G.2.1 0) (n0 := N) (n1 := N2) (sp := 0) (dp := 0) (n := L) (fun j => Int32.ofInt (M o j)) (fun j => Int32.ofInt (M o2 j)) (by omega)
    rw [← hcl] at e2
    refine Eq.trans e2 ?_
    rw [hcl]
    have e3 : (fun j => Value.int (va_cpy (fun j => Int32.ofInt (M o j)) (fun j => Int32.ofInt (M o2 j)) 0 0 L j)) = (fun j => Value.int (Int32.ofInt (cpy0 (M o) (M o2) L j))) := ?_
    · exact congrArg (arrV (G.2.1 0) N2) e3
    funext j
    simp only [va_cpy, cpy0]
    by_cases hj : j < L
    · rw [if_pos ⟨Nat.zero_le _, by omega⟩, if_pos hj]
      simp
    · rw [if_neg (by omega), if_neg hj]
  rw [e1] at X' step
  have hlt : G.2.2 + o2 < H.size := (Array.getElem?_eq_some_iff.mp hc1).1
  have hheap : ((T.setVm vm').setCell (G.2.2 + o2) (vp_cell (G.2.1 0) (N2, .inl (fun j => Int32.ofInt (cpy0 (M o) (M o2) L j))))).heap = H.setIfInBounds (G.2.2 + o2) (vp_cell (G.2.1 0) (N2, .inl (fun j => Int32.ofInt (cpy0 (M o) (M o2) L j)))) := by rw [← hT]; rfl
  have oq : ∀ q : Nat, q ≠ G.2.2 + o2 → (H.setIfInBounds (G.2.2 + o2) (vp_cell (G.2.1 0) (N2, .inl (fun j => Int32.ofInt (cpy0 (M o) (M o2) L j)))))[q]? = H[q]? := fun q hq => by simp [Array.getElem?_setIfInBounds, Ne.symm hq]
  obtain ⟨t, a1, b1⟩ := kk _ _ ls (xH_put (κ' := κ) (M' := mset M o2 (cpy0 (M o) (M o2) L)) hH hO2.1 (fun q h => ⟨rfl, mset_ne M _ h⟩) (by
      rw [hO2.2, mset_self]
      show (H.setIfInBounds (G.2.2 + o2) _)[G.2.2 + o2]? = some _
      simp [Array.getElem?_setIfInBounds, hlt]) (by simp) oq) ⟨by simp; exact hS.1, fun q g1 g2 => by
      rw [oq q (fun e => g2 (by rw [e]; exact Nat.le_add_right _ _))]
      exact hS.2.1 q g1 g2, fun q hq => by
      rcases List.mem_append.mp hq with h | h
      · exact hS.2.2 q h
      · obtain ⟨z, -, hz⟩ := List.mem_map.mp h
        rw [← hz]
        exact Nat.le_add_right _ _⟩ hl _ hheap X'
  exact ⟨t, step t a1, b1⟩
end XR2
end
section
/-! what a method answers: nothing (V), an int (I), a value with nothing changed (P); the calls in these forms -/
def pV (κ : XKs) (hs : Nat) (B : XM → Prop) : XP := fun r κ' M' hs' => κ' = κ ∧ hs' = hs ∧ r = none ∧ B M'
def pI (κ : XKs) (hs : Nat) (B : Int → XM → Prop) : XP := fun r κ' M' hs' => κ' = κ ∧ hs' = hs ∧ ∃ a, r = some (xI a) ∧ B a M'
def pP (κ : XKs) (M : XM) (hs : Nat) (v : XV) : XP := fun r κ' M' hs' => κ' = κ ∧ hs' = hs ∧ r = some v ∧ M' = M
theorem pV_i {κ : XKs} {hs : Nat} {B : XM → Prop} {M : XM} (h : B M) : pV κ hs B none κ M hs := ⟨rfl, rfl, rfl, h⟩
theorem pI_i {κ : XKs} {hs : Nat} {B : Int → XM → Prop} {M : XM} {a : Int} (h : B a M) : pI κ hs B (some (xI a)) κ M hs := ⟨rfl, rfl, a, rfl, h⟩
theorem pP_i {κ : XKs} {hs : Nat} {M : XM} {v w : XV} (h : w = v) : pP κ M hs v (some w) κ M hs := ⟨rfl, rfl, congrArg some h, rfl⟩
section XR3
variable {G : XG} {md : XD} {d mc ms : Nat} {X : XX} {Q : State → Prop} {k n pc : Nat} {loc : List (Option XV)} {st rest : List XV} {κ : XKs} {M : XM} {hs : Nat}
theorem x_cV_P (hX : Xx G md d mc ms X) {md' : XD} {d' idx nn ci o N : Nat} {As : List XV} {fl : List XF} {T : u_T} {v : XV} (hC : XC G md' d' 0 0 (xR o :: As) κ M hs (pP κ M hs v)) (hO : xO κ hs o (kO ci fl)) (hci : vwCl[ci]? = some (md'.1.cls, T, N)) (hL : xLV md.1.cls idx md'.1 nn) (hnn : As.length = nn) (hst : As.reverse ++ xR o :: rest = st) (hcat : (rest.map xcat).sum ≤ 8) (hd : d' + 1 ≤ d) (hc : k ≤ mc) (hsl : n ≤ ms) (hdg : decode md.2.1 pc = .ok (.invokevirtual idx, 3)) (kk : XW G X md Q k n (pc + 3) loc (v :: rest) κ M hs) : XW G X md Q k n pc loc st κ M hs := by
  refine x_callV hX hC hO hci hL hnn hst hcat hd hc hsl hdg (fun r κ' M' hs' hp => ?_)
  obtain ⟨rfl, rfl, rfl, rfl⟩ := hp
  exact kk
theorem x_cV_I (hX : Xx G md d mc ms X) {md' : XD} {d' idx nn ci o N : Nat} {As : List XV} {fl : List XF} {T : u_T} {B : Int → XM → Prop} (hC : XC G md' d' 0 0 (xR o :: As) κ M hs (pI κ hs B)) (hO : xO κ hs o (kO ci fl)) (hci : vwCl[ci]? = some (md'.1.cls, T, N)) (hL : xLV md.1.cls idx md'.1 nn) (hnn : As.length = nn) (hst : As.reverse ++ xR o :: rest = st) (hcat : (rest.map xcat).sum ≤ 8) (hd : d' + 1 ≤ d) (hc : k ≤ mc) (hsl : n ≤ ms) (hdg : decode md.2.1 pc = .ok (.invokevirtual idx, 3)) (kk : ∀ (a : Int) (M2 : XM), B a M2 → XW G X md Q k n (pc + 3) loc (xI a :: rest) κ M2 hs) : XW G X md Q k n pc loc st κ M hs := by
  refine x_callV hX hC hO hci hL hnn hst hcat hd hc hsl hdg (fun r κ' M' hs' hp => ?_)
  obtain ⟨rfl, rfl, a, rfl, hp⟩ := hp
  exact kk a M' hp
theorem x_cV_V (hX : Xx G md d mc ms X) {md' : XD} {d' idx nn ci o N : Nat} {As : List XV} {fl : List XF} {T : u_T} {B : XM → Prop} (hC : XC G md' d' 0 0 (xR o :: As) κ M hs (pV κ hs B)) (hO : xO κ hs o (kO ci fl)) (hci : vwCl[ci]? = some (md'.1.cls, T, N)) (hL : xLV md.1.cls idx md'.1 nn) (hnn : As.length = nn) (hst : As.reverse ++ xR o :: rest = st) (hcat : (rest.map xcat).sum ≤ 8) (hd : d' + 1 ≤ d) (hc : k ≤ mc) (hsl : n ≤ ms) (hdg : decode md.2.1 pc = .ok (.invokevirtual idx, 3)) (kk : ∀ (M2 : XM), B M2 → XW G X md Q k n (pc + 3) loc rest κ M2 hs) : XW G X md Q k n pc loc st κ M hs := by
  refine x_callV hX hC hO hci hL hnn hst hcat hd hc hsl hdg (fun r κ' M' hs' hp => ?_)
  obtain ⟨rfl, rfl, rfl, hp⟩ := hp
  exact kk M' hp
theorem x_cS_P (hX : Xx G md d mc ms X) {md' : XD} {d' idx nn : Nat} {As : List XV} {v : XV} (hC : XC G md' d' 0 0 As κ M hs (pP κ M hs v)) (hL : xLS md.1.cls idx md'.1 nn) (hnn : As.length = nn) (hst : As.reverse ++ rest = st) (hcat : (rest.map xcat).sum ≤ 8) (hd : d' + 1 ≤ d) (hc : k ≤ mc) (hsl : n ≤ ms) (hdg : decode md.2.1 pc = .ok (.invokestatic idx, 3)) (kk : XW G X md Q k n (pc + 3) loc (v :: rest) κ M hs) : XW G X md Q k n pc loc st κ M hs := by
  refine x_callS hX hC  hL hnn hst hcat hd hc hsl hdg (fun r κ' M' hs' hp => ?_)
  obtain ⟨rfl, rfl, rfl, rfl⟩ := hp
  exact kk
theorem x_cS_I (hX : Xx G md d mc ms X) {md' : XD} {d' idx nn : Nat} {As : List XV} {B : Int → XM → Prop} (hC : XC G md' d' 0 0 As κ M hs (pI κ hs B)) (hL : xLS md.1.cls idx md'.1 nn) (hnn : As.length = nn) (hst : As.reverse ++ rest = st) (hcat : (rest.map xcat).sum ≤ 8) (hd : d' + 1 ≤ d) (hc : k ≤ mc) (hsl : n ≤ ms) (hdg : decode md.2.1 pc = .ok (.invokestatic idx, 3)) (kk : ∀ (a : Int) (M2 : XM), B a M2 → XW G X md Q k n (pc + 3) loc (xI a :: rest) κ M2 hs) : XW G X md Q k n pc loc st κ M hs := by
  refine x_callS hX hC  hL hnn hst hcat hd hc hsl hdg (fun r κ' M' hs' hp => ?_)
  obtain ⟨rfl, rfl, a, rfl, hp⟩ := hp
  exact kk a M' hp
theorem x_cS_V (hX : Xx G md d mc ms X) {md' : XD} {d' idx nn : Nat} {As : List XV} {B : XM → Prop} (hC : XC G md' d' 0 0 As κ M hs (pV κ hs B)) (hL : xLS md.1.cls idx md'.1 nn) (hnn : As.length = nn) (hst : As.reverse ++ rest = st) (hcat : (rest.map xcat).sum ≤ 8) (hd : d' + 1 ≤ d) (hc : k ≤ mc) (hsl : n ≤ ms) (hdg : decode md.2.1 pc = .ok (.invokestatic idx, 3)) (kk : ∀ (M2 : XM), B M2 → XW G X md Q k n (pc + 3) loc rest κ M2 hs) : XW G X md Q k n pc loc st κ M hs := by
  refine x_callS hX hC  hL hnn hst hcat hd hc hsl hdg (fun r κ' M' hs' hp => ?_)
  obtain ⟨rfl, rfl, rfl, hp⟩ := hp
  exact kk M' hp
theorem x_cI_V (hX : Xx G md d mc ms X) {md' : XD} {d' idx nn o : Nat} {As : List XV} {B : XM → Prop} (hC : XC G md' d' 0 0 (xR o :: As) κ M hs (pV κ hs B)) (hret : md'.2.2.2 = none) (hL : xLI md.1.cls idx md'.1 nn) (hnn : As.length = nn) (hst : As.reverse ++ xR o :: rest = st) (hcat : (rest.map xcat).sum ≤ 8) (hd : d' + 1 ≤ d) (hc : k ≤ mc) (hsl : n ≤ ms) (hdg : decode md.2.1 pc = .ok (.invokespecial idx, 3)) (kk : ∀ (M2 : XM), B M2 → XW G X md Q k n (pc + 3) loc rest κ M2 hs) : XW G X md Q k n pc loc st κ M hs := by
  refine x_callI hX hC hret hL hnn hst hcat hd hc hsl hdg (fun r κ' M' hs' hp => ?_)
  obtain ⟨rfl, rfl, rfl, hp⟩ := hp
  exact kk M' hp
end XR3
end
section
/-! columns as lists of runs; what a cell of ints says of them -/
abbrev Ru : Type := List (Nat × Nat)
def rv (L : Ru) (i : Nat) : Nat := (L.getD i (0, 0)).1
def rn (L : Ru) (i : Nat) : Nat := (L.getD i (0, 0)).2
def tot {α : Type} : List (α × Nat) → Nat
  | [] => 0
  | (_, n) :: t => n + tot t
def rows {α : Type} : List (α × Nat) → List α
  | [] => []
  | (v, n) :: t => List.replicate n v ++ rows t
theorem rows_len {α : Type} : ∀ (L : List (α × Nat)), (rows L).length = tot L
  | [] => rfl
  | (v, n) :: t => by rw [rows, tot, List.length_append, List.length_replicate, rows_len t]
theorem ru_drop {L : Ru} {k : Nat} (h : k < L.length) : L.drop k = (rv L k, rn L k) :: L.drop (k + 1) := by
  rw [List.drop_eq_getElem_cons h]
  have e : L.getD k (0, 0) = L[k] := by simp [h]
  simp only [rv, rn, e]
theorem ru_end {α : Type} (L : List α) {k : Nat} (h : L.length ≤ k) : L.drop k = [] := List.drop_eq_nil_of_le h
theorem ru_take {L : Ru} {k : Nat} (h : k < L.length) : L.take (k + 1) = L.take k ++ [(rv L k, rn L k)] := by
  rw [List.take_succ_eq_append_getElem h]
  have e : L.getD k (0, 0) = L[k] := by simp [h]
  simp only [rv, rn, e]
theorem tot_app {α : Type} : ∀ (A B : List (α × Nat)), tot (A ++ B) = tot A + tot B
  | [], B => by simp [tot]
  | (v, n) :: t, B => by rw [List.cons_append, tot, tot, tot_app t B]; omega
theorem rows_app {α : Type} : ∀ (A B : List (α × Nat)), rows (A ++ B) = rows A ++ rows B
  | [], B => rfl
  | (v, n) :: t, B => by rw [List.cons_append, rows, rows, rows_app t B, List.append_assoc]
theorem tot_split {α : Type} (L : List (α × Nat)) (k : Nat) : tot (L.take k) + tot (L.drop k) = tot L := by rw [← tot_app, List.take_append_drop]
theorem tot_drop {L : Ru} {k : Nat} (h : k < L.length) : tot (L.drop k) = rn L k + tot (L.drop (k + 1)) := by rw [ru_drop h, tot]
theorem rn_le {L : Ru} {k : Nat} (h : k < L.length) : rn L k ≤ tot L := by
  have h1 := tot_split L k
  rw [tot_drop h] at h1
  omega
theorem tot_take_le {α : Type} (L : List (α × Nat)) (k : Nat) : tot (L.take k) ≤ tot L := by
  have h1 := tot_split L k
  omega
theorem tot_take_succ {L : Ru} {k : Nat} (h : k < L.length) : tot (L.take (k + 1)) = tot (L.take k) + rn L k := by
  have h1 := tot_split L k
  have h2 := tot_split L (k + 1)
  rw [tot_drop h] at h1
  omega
theorem rows_take_succ {L : Ru} {k : Nat} (h : k < L.length) : rows (L.take (k + 1)) = rows (L.take k) ++ List.replicate (rn L k) (rv L k) := by
  rw [ru_take h, rows_app]
  simp [rows]
def alt {α : Type} : List (α × Nat) → Prop
  | [] => True
  | [_] => True
  | a :: b :: t => a.1 ≠ b.1 ∧ alt (b :: t)
/-- runs that are as they should be: none is empty, two side by side are never alike -/
def Can {α : Type} (L : List (α × Nat)) : Prop := alt L ∧ ∀ p ∈ L, 1 ≤ p.2
theorem alt.tail {α : Type} {a : α × Nat} {t : List (α × Nat)} (h : alt (a :: t)) : alt t := by
  cases t with
  | nil => trivial
  | cons b t => exact h.2
theorem Can.tail {α : Type} {a : α × Nat} {t : List (α × Nat)} (h : Can (a :: t)) : Can t := ⟨h.1.tail, fun p hp => h.2 p (List.mem_cons_of_mem _ hp)⟩
/-- a row ahead of runs -/
def cr {α : Type} [DecidableEq α] (v : α) : List (α × Nat) → List (α × Nat)
  | [] => [(v, 1)]
  | (w, m) :: t => if v = w then (w, m + 1) :: t else (v, 1) :: (w, m) :: t
def enc {α : Type} [DecidableEq α] : List α → List (α × Nat)
  | [] => []
  | v :: t => cr v (enc t)
theorem cr_cons {α : Type} [DecidableEq α] (v w : α) (m : Nat) (t : List (α × Nat)) : cr v ((w, m) :: t) = if v = w then (w, m + 1) :: t else (v, 1) :: (w, m) :: t := rfl
theorem rows_cr {α : Type} [DecidableEq α] (v : α) (L : List (α × Nat)) : rows (cr v L) = v :: rows L := by
  cases L with
  | nil => rfl
  | cons a t =>
    obtain ⟨w, m⟩ := a
    rw [cr_cons]
    by_cases h : v = w
    · rw [if_pos h, rows, rows, List.replicate_succ, h]
      rfl
    · rw [if_neg h]
      rfl
theorem rows_enc {α : Type} [DecidableEq α] : ∀ (l : List α), rows (enc l) = l
  | [] => rfl
  | v :: t => by rw [enc, rows_cr, rows_enc t]
theorem can_cr {α : Type} [DecidableEq α] (v : α) {L : List (α × Nat)} (h : Can L) : Can (cr v L) := by
  cases L with
  | nil => exact ⟨trivial, fun p hp => by simp [cr] at hp; subst hp; exact Nat.le_refl _⟩
  | cons a t =>
    obtain ⟨w, m⟩ := a
    rw [cr_cons]
    by_cases e : v = w
    · rw [if_pos e]
      refine ⟨?_, fun p hp => ?_⟩
      · cases t with
        | nil => trivial
        | cons b t => exact ⟨h.1.1, h.1.2⟩
      · rcases List.mem_cons.mp hp with rfl | hp
        · exact Nat.le_add_left 1 m
        · exact h.2 p (List.mem_cons_of_mem _ hp)
    · rw [if_neg e]
      refine ⟨⟨e, h.1⟩, fun p hp => ?_⟩
      rcases List.mem_cons.mp hp with rfl | hp
      · exact Nat.le_refl _
      · exact h.2 p hp
theorem can_enc {α : Type} [DecidableEq α] : ∀ (l : List α), Can (enc l)
  | [] => ⟨trivial, fun p hp => by cases hp⟩
  | v :: t => can_cr v (can_enc t)
theorem enc_rep {α : Type} [DecidableEq α] (v : α) (l : List α) (hl : ∀ w m t, enc l = (w, m) :: t → w ≠ v) : ∀ (n : Nat), enc (List.replicate (n + 1) v ++ l) = (v, n + 1) :: enc l
  | 0 => by
    show cr v (enc l) = _
    cases e : enc l with
    | nil => rfl
    | cons a t =>
      obtain ⟨w, m⟩ := a
      show (if v = w then _ else _) = _
      rw [if_neg (fun q => hl w m t e q.symm)]
  | n + 1 => by
    rw [List.replicate_succ, List.cons_append, enc, enc_rep v l hl n]
    show (if v = v then _ else _) = _
    rw [if_pos rfl]
/-- runs that are as they should be are those of their rows -/
theorem enc_rows {α : Type} [DecidableEq α] : ∀ (L : List (α × Nat)), Can L → enc (rows L) = L
  | [], _ => rfl
  | (v, n) :: t, h => by
    have ih := enc_rows t h.tail
    have hn : 1 ≤ n := h.2 (v, n) List.mem_cons_self
    obtain ⟨n, rfl⟩ : ∃ m, n = m + 1 := ⟨n - 1, by omega⟩
    rw [rows, enc_rep v (rows t) ?_ n, ih]
    intro w m t' e
    rw [ih] at e
    subst e
    exact fun q => h.1.1 q.symm
theorem can_eq {α : Type} [DecidableEq α] {A B : List (α × Nat)} (hA : Can A) (hB : Can B) (h : rows A = rows B) : A = B := by rw [← enc_rows A hA, ← enc_rows B hB, h]
/-- a run behind runs -/
def addr {α : Type} [DecidableEq α] : List (α × Nat) → α → Nat → List (α × Nat)
  | [], v, n => [(v, n)]
  | [(w, m)], v, n => if w = v then [(w, m + n)] else [(w, m), (v, n)]
  | a :: b :: t, v, n => a :: addr (b :: t) v n
theorem addr_one {α : Type} [DecidableEq α] (v w : α) (m n : Nat) : addr [(w, m)] v n = if w = v then [(w, m + n)] else [(w, m), (v, n)] := rfl
theorem rows_addr {α : Type} [DecidableEq α] : ∀ (L : List (α × Nat)) (v : α) (n : Nat), rows (addr L v n) = rows L ++ List.replicate n v
  | [], v, n => by simp [addr, rows]
  | [(w, m)], v, n => by
    rw [addr_one]
    by_cases h : w = v
    · rw [if_pos h, h]
      simp [rows]
    · rw [if_neg h]
      simp [rows]
  | (w, m) :: b :: t, v, n => by
    show List.replicate m w ++ rows (addr (b :: t) v n) = (List.replicate m w ++ rows (b :: t)) ++ _
    rw [rows_addr (b :: t) v n, List.append_assoc]
theorem addr_head {α : Type} [DecidableEq α] (b : α × Nat) (t : List (α × Nat)) (v : α) (n : Nat) : ∃ m t', addr (b :: t) v n = (b.1, m) :: t' := by
  obtain ⟨w, m⟩ := b
  cases t with
  | nil =>
    rw [addr_one]
    by_cases h : w = v
    · rw [if_pos h]
      exact ⟨_, _, rfl⟩
    · rw [if_neg h]
      exact ⟨_, _, rfl⟩
  | cons c t => exact ⟨_, _, rfl⟩
theorem can_addr {α : Type} [DecidableEq α] : ∀ (L : List (α × Nat)) (v : α) (n : Nat), Can L → 1 ≤ n → Can (addr L v n)
  | [], v, n, _, hn => ⟨trivial, fun p hp => by simp [addr] at hp; subst hp; exact hn⟩
  | [(w, m)], v, n, h, hn => by
    have hm : 1 ≤ m := h.2 (w, m) List.mem_cons_self
    rw [addr_one]
    by_cases e : w = v
    · rw [if_pos e]
      exact ⟨trivial, fun p hp => by simp at hp; subst hp; exact Nat.le_add_right_of_le hm⟩
    · rw [if_neg e]
      refine ⟨⟨e, trivial⟩, fun p hp => ?_⟩
      simp at hp
      rcases hp with rfl | rfl
      · exact hm
      · exact hn
  | a :: b :: t, v, n, h, hn => by
    have ih := can_addr (b :: t) v n h.tail hn
    rw [addr]
    obtain ⟨m, t', e⟩ := addr_head b t v n
    refine ⟨?_, fun p hp => ?_⟩
    · rw [e] at ih ⊢
      exact ⟨h.1.1, ih.1⟩
    · rcases List.mem_cons.mp hp with rfl | hp
      · exact h.2 p List.mem_cons_self
      · exact ih.2 p hp
theorem enc_addr {α : Type} [DecidableEq α] (l : List α) (v : α) {n : Nat} (hn : 1 ≤ n) : enc (l ++ List.replicate n v) = addr (enc l) v n := by
  refine can_eq (can_enc _) (can_addr _ v n (can_enc l) hn) ?_
  rw [rows_enc, rows_addr, rows_enc]
theorem enc_snoc {α : Type} [DecidableEq α] (l : List α) (v : α) : enc (l ++ [v]) = addr (enc l) v 1 := enc_addr l v (Nat.le_refl 1)
theorem addr_len {α : Type} [DecidableEq α] : ∀ (L : List (α × Nat)) (v : α) (n : Nat), L.length ≤ (addr L v n).length
  | [], v, n => Nat.zero_le _
  | [(w, m)], v, n => by
    rw [addr_one]
    by_cases e : w = v
    · rw [if_pos e]
      exact Nat.le_refl _
    · rw [if_neg e]
      exact Nat.le_succ _
  | a :: b :: t, v, n => Nat.succ_le_succ (addr_len (b :: t) v n)
theorem enc_mono {α : Type} [DecidableEq α] : ∀ (x l : List α), (enc l).length ≤ (enc (l ++ x)).length
  | [], l => by rw [List.append_nil]; exact Nat.le_refl _
  | v :: t, l => by
    have h1 := enc_mono t (l ++ [v])
    rw [List.append_assoc] at h1
    have h2 := addr_len (enc l) v 1
    rw [← enc_snoc] at h2
    exact Nat.le_trans h2 h1
theorem tot_enc {α : Type} [DecidableEq α] (l : List α) : tot (enc l) = l.length := by rw [← rows_len, rows_enc]
theorem enc_len_le {α : Type} [DecidableEq α] (l : List α) : (enc l).length ≤ l.length := by
  have key : ∀ (L : List (α × Nat)), (∀ p ∈ L, 1 ≤ p.2) → L.length ≤ tot L := by
    intro L
    induction L with
    | nil => intro _; exact Nat.le_refl _
    | cons a t ih =>
      intro h
      obtain ⟨w, m⟩ := a
      have h1 : 1 ≤ m := h (w, m) List.mem_cons_self
      have h2 := ih (fun p hp => h p (List.mem_cons_of_mem _ hp))
      show t.length + 1 ≤ m + tot t
      omega
  have h := key (enc l) (can_enc l).2
  rw [tot_enc] at h
  exact h
theorem enc_nil_iff {α : Type} [DecidableEq α] {l : List α} (h : enc l = []) : l = [] := by
  have h1 := rows_enc l
  rw [h] at h1
  exact h1.symm
theorem rows_mem {α : Type} : ∀ (L : List (α × Nat)), (∀ p ∈ L, 1 ≤ p.2) → ∀ p ∈ L, p.1 ∈ rows L
  | [], _, p, hp => by cases hp
  | (v, n) :: t, h, p, hp => by
    rw [rows]
    rcases List.mem_cons.mp hp with rfl | hp
    · have h1 : 1 ≤ n := h (v, n) List.mem_cons_self
      exact List.mem_append_left _ (List.mem_replicate.mpr ⟨by omega, rfl⟩)
    · exact List.mem_append_right _ (rows_mem t (fun q hq => h q (List.mem_cons_of_mem _ hq)) p hp)
theorem enc_mem {α : Type} [DecidableEq α] {l : List α} {p : α × Nat} (hp : p ∈ enc l) : p.1 ∈ l := by
  have h := rows_mem (enc l) (can_enc l).2 p hp
  rw [rows_enc] at h
  exact h
/-- rows that a column can have -/
def fit (l : List Nat) : Prop := l.length ≤ 999 ∧ (enc l).length ≤ 40
def Ok (l : List Nat) : Prop := fit l ∧ ∀ v ∈ l, v ≤ 9
theorem fit.left {l x : List Nat} (h : fit (l ++ x)) : fit l := by
  obtain ⟨h1, h2⟩ := h
  rw [List.length_append] at h1
  exact ⟨by omega, Nat.le_trans (enc_mono x l) h2⟩
theorem ru_mem {L : Ru} {k : Nat} (hk : k < L.length) : (rv L k, rn L k) ∈ L := by
  have e : L.getD k (0, 0) = L[k] := by simp [hk]
  have e2 : (rv L k, rn L k) = L[k] := by simp only [rv, rn, e]
  rw [e2]
  exact List.getElem_mem hk
theorem enc_rv {l : List Nat} {k : Nat} (hk : k < (enc l).length) : rv (enc l) k ∈ l ∧ 1 ≤ rn (enc l) k ∧ rn (enc l) k ≤ l.length := by
  have h := ru_mem hk
  refine ⟨enc_mem h, (can_enc l).2 _ h, ?_⟩
  have h2 := rn_le hk
  rw [tot_enc] at h2
  exact h2
-- what cells hold
def CRep (M : XM) (o : Nat) (L : Ru) : Prop := M o 2 = (L.length : Int) ∧ M o 3 = (tot L : Int) ∧ ∀ i, i < L.length → M (o + 1) i = (rv L i : Int) ∧ M (o + 2) i = (rn L i : Int)
/-- a column that holds the rows l -/
def Col (M : XM) (o : Nat) (l : List Nat) : Prop := CRep M o (enc l) ∧ M o 4 = 0 ∧ Ok l
/-- a draft to which the rows l were added -/
def Dra (M : XM) (o : Nat) (l : List Nat) : Prop := (∀ v ∈ l, v ≤ 9) ∧ (fit l → CRep M o (enc l) ∧ M o 4 = 0) ∧ (¬ fit l → M o 4 = 1)
theorem CRep.congr {M M' : XM} {o : Nat} {L : Ru} (h : CRep M o L) (h0 : M' o = M o) (h1 : M' (o + 1) = M (o + 1)) (h2 : M' (o + 2) = M (o + 2)) : CRep M' o L := by
  refine ⟨by rw [h0]; exact h.1, by rw [h0]; exact h.2.1, fun i hi => ?_⟩
  rw [h1, h2]
  exact h.2.2 i hi
theorem Col.congr {M M' : XM} {o : Nat} {l : List Nat} (h : Col M o l) (hq : ∀ a, o ≤ a → a < o + 3 → M' a = M a) : Col M' o l := ⟨h.1.congr (hq o (Nat.le_refl _) (by omega)) (hq _ (by omega) (by omega)) (hq _ (by omega) (by omega)), by rw [hq o (Nat.le_refl _) (by omega)]; exact h.2.1, h.2.2⟩
theorem Dra.congr {M M' : XM} {o : Nat} {l : List Nat} (h : Dra M o l) (hq : ∀ a, o ≤ a → a < o + 3 → M' a = M a) : Dra M' o l := ⟨h.1, fun hf => ⟨(h.2.1 hf).1.congr (hq o (Nat.le_refl _) (by omega)) (hq _ (by omega) (by omega)) (hq _ (by omega) (by omega)), by rw [hq o (Nat.le_refl _) (by omega)]; exact (h.2.1 hf).2⟩, fun hf => by rw [hq o (Nat.le_refl _) (by omega)]; exact h.2.2 hf⟩
/-- nothing but the cells from a on below b has changed -/
def Same (a b : Nat) (M M' : XM) : Prop := ∀ q, (q < a ∨ b ≤ q) → M' q = M q
theorem Same.rf {a b : Nat} {M : XM} : Same a b M M := fun _ _ => rfl
theorem Same.tr {a b : Nat} {M M1 M2 : XM} (h : Same a b M M1) (h2 : Same a b M1 M2) : Same a b M M2 := fun q hq => (h2 q hq).trans (h q hq)
theorem Same.mono {a b c d : Nat} {M M1 : XM} (h : Same a b M M1) (h1 : c ≤ a) (h2 : b ≤ d) : Same c d M M1 := fun q hq => h q (by omega)
theorem Same.put {a b o j : Nat} {v : Int} {M : XM} (h1 : a ≤ o) (h2 : o < b) : Same a b M (mput M o j v) := fun q hq => mput_ne M j v (by omega)
theorem Same.set {a b o : Nat} {f : Nat → Int} {M : XM} (h1 : a ≤ o) (h2 : o < b) : Same a b M (mset M o f) := fun q hq => mset_ne M f (by omega)
theorem Col.same {M M' : XM} {o a b : Nat} {l : List Nat} (h : Col M o l) (hq : Same a b M M') (hd : o + 3 ≤ a ∨ b ≤ o) : Col M' o l := h.congr (fun q h1 h2 => hq q (by omega))
theorem Dra.same {M M' : XM} {o a b : Nat} {l : List Nat} (h : Dra M o l) (hq : Same a b M M') (hd : o + 3 ≤ a ∨ b ≤ o) : Dra M' o l := h.congr (fun q h1 h2 => hq q (by omega))
-- shapes
def KCol (κ : XKs) (hs o : Nat) : Prop := xO κ hs o (kO 0 [fR (o + 1), fR (o + 2), fI, fI, fI]) ∧ xO κ hs (o + 1) (kA 0 40) ∧ xO κ hs (o + 2) (kA 0 40)
def InR (a : Int) : Prop := -2147483648 ≤ a ∧ a < 2147483648
theorem Col.mem {M : XM} {o : Nat} {l : List Nat} (h : Col M o l) {k : Nat} (hk : k < (enc l).length) : M (o + 1) k = (rv (enc l) k : Int) ∧ M (o + 2) k = (rn (enc l) k : Int) ∧ rv (enc l) k ≤ 9 ∧ 1 ≤ rn (enc l) k ∧ rn (enc l) k ≤ 999 := by
  have h1 := h.1.2.2 k hk
  have h2 := enc_rv hk
  exact ⟨h1.1, h1.2, h.2.2.2 _ h2.1, h2.2.1, Nat.le_trans h2.2.2 h.2.2.1.1⟩
theorem Col.len {M : XM} {o : Nat} {l : List Nat} (h : Col M o l) : M o 2 = ((enc l).length : Int) ∧ M o 3 = (l.length : Int) ∧ (enc l).length ≤ 40 ∧ l.length ≤ 999 := by
  have h1 := h.1.2.1
  rw [tot_enc] at h1
  exact ⟨h.1.1, h1, h.2.2.1.2, h.2.2.1.1⟩
end
section
/-! what is asked of a column: functions over its runs, as loops over them add up -/
def fRows (v : Int) : Int → Ru → Int
  | acc, [] => acc
  | acc, (w, n) :: t => fRows v (if (w : Int) = v then acc + n else acc) t
def fRuns (v : Int) : Int → Ru → Int
  | acc, [] => acc
  | acc, (w, _) :: t => fRuns v (if (w : Int) = v then acc + 1 else acc) t
def fLongOf (v : Int) : Int → Ru → Int
  | acc, [] => acc
  | acc, (w, n) :: t => fLongOf v (if (w : Int) = v then (if acc < (n : Int) then (n : Int) else acc) else acc) t
def fLong : Int → Ru → Int
  | acc, [] => acc
  | acc, (_, n) :: t => fLong (if acc < (n : Int) then (n : Int) else acc) t
def fSum : Int → Ru → Int
  | acc, [] => acc
  | acc, (w, n) :: t => fSum (acc + (w : Int) * n) t
def fSet : Nat → Ru → Nat
  | acc, [] => acc
  | acc, (w, _) :: t => fSet (acc ||| 2 ^ w) t
def nFall : Ru → Bool
  | [] => true
  | [_] => true
  | a :: b :: t => if b.1 < a.1 then false else nFall (b :: t)
def nRise : Ru → Bool
  | [] => true
  | [_] => true
  | a :: b :: t => if a.1 < b.1 then false else nRise (b :: t)
def fRank (v : Int) : Nat → Nat → Ru → Int
  | _, _, [] => -6
  | first, left, (w, n) :: t => if (w : Int) = v then (if left < n then ((first + left : Nat) : Int) else fRank v (first + n) (left - n) t) else fRank v (first + n) left t
/-- the run of a row -/
def rof : Ru → Nat → Nat
  | [], _ => 0
  | (_, n) :: t, r => if r < n then 0 else 1 + rof t (r - n)
theorem rof_spec : ∀ (L : Ru) (r : Nat), r < tot L → rof L r < L.length ∧ tot (L.take (rof L r)) ≤ r ∧ r < tot (L.take (rof L r)) + rn L (rof L r)
  | [], r, h => by simp [tot] at h
  | (v, n) :: t, r, h => by
    rw [rof]
    by_cases e : r < n
    · rw [if_pos e]
      refine ⟨Nat.zero_lt_succ _, Nat.zero_le _, ?_⟩
      show r < 0 + n
      omega
    · rw [if_neg e]
      have ht : r - n < tot t := by
        rw [tot] at h
        omega
      obtain ⟨h1, h2, h3⟩ := rof_spec t (r - n) ht
      have e1 : ((v, n) :: t).take (1 + rof t (r - n)) = (v, n) :: t.take (rof t (r - n)) := by rw [Nat.add_comm]; rfl
      have e2 : rn ((v, n) :: t) (1 + rof t (r - n)) = rn t (rof t (r - n)) := by rw [Nat.add_comm]; rfl
      rw [e1, e2, tot]
      refine ⟨by rw [List.length_cons]; omega, by omega, by omega⟩
theorem rof_uniq {L : Ru} {r k : Nat} (hk : k < L.length) (h1 : tot (L.take k) ≤ r) (h2 : r < tot (L.take k) + rn L k) : rof L r = k := by
  have hr : r < tot L := by
    have := tot_take_le L (k + 1)
    rw [tot_take_succ hk] at this
    omega
  obtain ⟨g1, g2, g3⟩ := rof_spec L r hr
  have mono : ∀ a b : Nat, a < b → b ≤ L.length → a < L.length → tot (L.take (a + 1)) ≤ tot (L.take b) := by
    intro a b hab _ _
    have e : L.take (a + 1) = (L.take b).take (a + 1) := by rw [List.take_take, Nat.min_eq_left (by omega)]
    rw [e]
    exact tot_take_le _ _
  rcases Nat.lt_trichotomy (rof L r) k with h | h | h
  · have := mono _ _ h (by omega) g1
    rw [tot_take_succ g1] at this
    omega
  · exact h
  · have := mono _ _ h (by omega) hk
    rw [tot_take_succ hk] at this
    omega
theorem xor2 (a b : Nat) : Int32.ofInt ((a ||| b : Nat) : Int) = Int32.ofInt (a : Int) ||| Int32.ofInt (b : Int) := by
  rw [Int32.ofInt_eq_ofNat, Int32.ofInt_eq_ofNat, Int32.ofInt_eq_ofNat]
  apply Int32.toBitVec.inj
  simp
theorem xshl1 (w : Nat) (hw : w ≤ 9) : Int32.ofInt ((2 ^ w : Nat) : Int) = Int32.ofInt 1 <<< (Int32.ofInt (w : Int) &&& 31) := by
  rcases (show w = 0 ∨ w = 1 ∨ w = 2 ∨ w = 3 ∨ w = 4 ∨ w = 5 ∨ w = 6 ∨ w = 7 ∨ w = 8 ∨ w = 9 by omega) with rfl | rfl | rfl | rfl | rfl | rfl | rfl | rfl | rfl | rfl <;> rfl
/-- a value by a run's number, -6 beyond both ends -/
def rvO (L : Ru) (i : Int) : Int := if 0 ≤ i ∧ i < L.length then (rv L i.toNat : Int) else -6
def rnO (L : Ru) (i : Int) : Int := if 0 ≤ i ∧ i < L.length then (rn L i.toNat : Int) else 0
/-- how many runs there would be behind set() of a row -/
def asets (L : Ru) (r : Nat) (v : Int) : Int :=
  if rvO L (rof L r) = v then (L.length : Int) else
    L.length + (if r = tot (L.take (rof L r)) then (if rvO L ((rof L r : Int) - 1) = v then -1 else 0) else 1) + (if r + 1 = tot (L.take (rof L r)) + rn L (rof L r) then (if rvO L ((rof L r : Int) + 1) = v then -1 else 0) else 1)
def best1 (L : Ru) (v : Int) (r : Nat) (q : Nat × Int) : Nat × Int := if asets L r v < q.2 then (r, asets L r v) else q
def fBest (L : Ru) (v : Int) : Nat → Nat × Int → Ru → Nat × Int
  | _, q, [] => q
  | first, q, (_, n) :: t => fBest L v (first + n) (best1 L v (first + n - 1) (best1 L v first q)) t
/-- a part of rows -/
def slice {α : Type} (l : List α) (a b : Nat) : List α := (l.take b).drop a
theorem slice_snoc {α : Type} (A : List α) (v : α) (n a b : Nat) : slice (A ++ List.replicate n v) a b = slice A a b ++ List.replicate (min (A.length + n) b - max A.length a) v := by
  unfold slice
  rw [List.take_append, List.take_replicate, List.drop_append, List.drop_replicate, List.length_take]
  congr 2
  omega
theorem slice_all {α : Type} (l : List α) {b : Nat} (h : l.length ≤ b) : slice l 0 b = l := by
  unfold slice
  rw [List.take_of_length_le h, List.drop_zero]
end
section
/-! Column: its reads -/
set_option maxHeartbeats 4000000 in
set_option maxRecDepth 100000 in
theorem tX0_runs {G : XG} {κ : XKs} {M : XM} {hs o : Nat} {l : List Nat} (hK : KCol κ hs o) (hC : Col M o l) : XC G mX0_runs 0 0 0 [xR o] κ M hs (pP κ M hs (xI ((enc l).length : Int))) := by
  refine XC.intro cdX0_runs (by decide) (by decide) (Nat.le_of_ble_eq_true rfl) (loc := [some (xR o)]) rfl (fun X hX => ?_)
  refine x_aload_n (pc := 0) hX rfl rfl dX0_runs_0 ?_
  refine x_getI (pc := 1) hX fl_X0_18 hK.1 rfl hC.len.1 dX0_runs_1 ?_
  refine x_iret (pc := 4) hX rfl (Nat.zero_le _) (Nat.zero_le _) dX0_runs_4 (pP_i rfl)

set_option maxHeartbeats 4000000 in
set_option maxRecDepth 100000 in
theorem tX0_rows {G : XG} {κ : XKs} {M : XM} {hs o : Nat} {l : List Nat} (hK : KCol κ hs o) (hC : Col M o l) : XC G mX0_rows 0 0 0 [xR o] κ M hs (pP κ M hs (xI (l.length : Int))) := by
  refine XC.intro cdX0_rows (by decide) (by decide) (Nat.le_of_ble_eq_true rfl) (loc := [some (xR o)]) rfl (fun X hX => ?_)
  refine x_aload_n (pc := 0) hX rfl rfl dX0_rows_0 ?_
  refine x_getI (pc := 1) hX fl_X0_22 hK.1 rfl hC.len.2.1 dX0_rows_1 ?_
  refine x_iret (pc := 4) hX rfl (Nat.zero_le _) (Nat.zero_le _) dX0_rows_4 (pP_i rfl)

set_option maxHeartbeats 4000000 in
set_option maxRecDepth 100000 in
theorem tX0_isOverfull {G : XG} {κ : XKs} {M : XM} {hs o : Nat} {l : List Nat} (hK : KCol κ hs o) (hC : Dra M o l) (b : Int) (hb : M o 4 = b) (hb2 : b = 0 ∨ b = 1) : XC G mX0_isOverfull 0 0 0 [xR o] κ M hs (pP κ M hs (xI b)) := by
  refine XC.intro cdX0_isOverfull (by decide) (by decide) (Nat.le_of_ble_eq_true rfl) (loc := [some (xR o)]) rfl (fun X hX => ?_)
  refine x_aload_n (pc := 0) hX rfl rfl dX0_isOverfull_0 ?_
  refine x_getI (pc := 1) hX fl_X0_25 hK.1 rfl hb dX0_isOverfull_1 ?_
  refine x_zret (pc := 4) hX rfl (xn_bool hb2) (Nat.zero_le _) (Nat.zero_le _) dX0_isOverfull_4 (pP_i rfl)

set_option maxHeartbeats 4000000 in
set_option maxRecDepth 100000 in
theorem tX0_valueOfRun {G : XG} {κ : XKs} {M : XM} {hs o : Nat} {l : List Nat} (hK : KCol κ hs o) (hC : Col M o l) (a : Int) (ha : InR a) : XC G mX0_valueOfRun 0 0 0 [xR o, xI a] κ M hs (pP κ M hs (xI (rvO (enc l) a))) := by
  refine XC.intro cdX0_valueOfRun (by decide) (by decide) (Nat.le_of_ble_eq_true rfl) (loc := [some (xR o), some (xI a)]) rfl (fun X hX => ?_)
  unfold InR at ha
  have hl := hC.len
  refine x_iload_n (pc := 0) hX rfl rfl dX0_valueOfRun_0 ?_
  refine x_if_lt (pc := 1) (tgt := 21) hX dX0_valueOfRun_1 (by decide) (by omega) (fun h1 => ?_) (fun h1 => ?_)
  · refine x_bipush (pc := 21) hX (by decide) dX0_valueOfRun_21 ?_
    refine x_iret (pc := 23) hX rfl (Nat.zero_le _) (Nat.zero_le _) dX0_valueOfRun_23 ?_
    exact pP_i (congrArg xI (by unfold rvO; first | rw [if_pos (by omega)] | rw [if_neg (by omega)]))
  · refine x_iload_n (pc := 4) hX rfl rfl dX0_valueOfRun_4 ?_
    refine x_aload_n (pc := 5) hX rfl rfl dX0_valueOfRun_5 ?_
    refine x_getI (pc := 6) hX fl_X0_18 hK.1 rfl hl.1 dX0_valueOfRun_6 ?_
    refine x_icmp_ge (pc := 9) (tgt := 21) hX dX0_valueOfRun_9 (by decide) (by omega) (fun h9 => ?_) (fun h9 => ?_)
    · refine x_bipush (pc := 21) hX (by decide) dX0_valueOfRun_21 ?_
      refine x_iret (pc := 23) hX rfl (Nat.zero_le _) (Nat.zero_le _) dX0_valueOfRun_23 ?_
      exact pP_i (congrArg xI (by unfold rvO; first | rw [if_pos (by omega)] | rw [if_neg (by omega)]))
    · refine x_aload_n (pc := 12) hX rfl rfl dX0_valueOfRun_12 ?_
      refine x_getR (pc := 13) hX fl_X0_9 hK.1 rfl dX0_valueOfRun_13 ?_
      refine x_iload_n (pc := 16) hX rfl rfl dX0_valueOfRun_16 ?_
      have hn : a.toNat < (enc l).length := by omega
      refine x_iald (pc := 17) (j := a.toNat) hX hK.2.1 (by omega) (by omega) (by decide) (hC.mem hn).1 dX0_valueOfRun_17 ?_
      refine x_goto (pc := 18) (tgt := 23) hX dX0_valueOfRun_18 (by decide) ?_
      refine x_iret (pc := 23) hX rfl (Nat.zero_le _) (Nat.zero_le _) dX0_valueOfRun_23 ?_
      exact pP_i (congrArg xI (by unfold rvO; first | rw [if_pos (by omega)] | rw [if_neg (by omega)]))

set_option maxHeartbeats 4000000 in
set_option maxRecDepth 100000 in
theorem tX0_lengthOfRun {G : XG} {κ : XKs} {M : XM} {hs o : Nat} {l : List Nat} (hK : KCol κ hs o) (hC : Col M o l) (a : Int) (ha : InR a) : XC G mX0_lengthOfRun 0 0 0 [xR o, xI a] κ M hs (pP κ M hs (xI (rnO (enc l) a))) := by
  refine XC.intro cdX0_lengthOfRun (by decide) (by decide) (Nat.le_of_ble_eq_true rfl) (loc := [some (xR o), some (xI a)]) rfl (fun X hX => ?_)
  unfold InR at ha
  have hl := hC.len
  refine x_iload_n (pc := 0) hX rfl rfl dX0_lengthOfRun_0 ?_
  refine x_if_lt (pc := 1) (tgt := 21) hX dX0_lengthOfRun_1 (by decide) (by omega) (fun h1 => ?_) (fun h1 => ?_)
  · refine x_iconst (pc := 21) hX dX0_lengthOfRun_21 ?_
    refine x_iret (pc := 22) hX rfl (Nat.zero_le _) (Nat.zero_le _) dX0_lengthOfRun_22 ?_
    exact pP_i (congrArg xI (by unfold rnO; first | rw [if_pos (by omega)] | rw [if_neg (by omega)]))
  · refine x_iload_n (pc := 4) hX rfl rfl dX0_lengthOfRun_4 ?_
    refine x_aload_n (pc := 5) hX rfl rfl dX0_lengthOfRun_5 ?_
    refine x_getI (pc := 6) hX fl_X0_18 hK.1 rfl hl.1 dX0_lengthOfRun_6 ?_
    refine x_icmp_ge (pc := 9) (tgt := 21) hX dX0_lengthOfRun_9 (by decide) (by omega) (fun h9 => ?_) (fun h9 => ?_)
    · refine x_iconst (pc := 21) hX dX0_lengthOfRun_21 ?_
      refine x_iret (pc := 22) hX rfl (Nat.zero_le _) (Nat.zero_le _) dX0_lengthOfRun_22 ?_
      exact pP_i (congrArg xI (by unfold rnO; first | rw [if_pos (by omega)] | rw [if_neg (by omega)]))
    · refine x_aload_n (pc := 12) hX rfl rfl dX0_lengthOfRun_12 ?_
      refine x_getR (pc := 13) hX fl_X0_15 hK.1 rfl dX0_lengthOfRun_13 ?_
      refine x_iload_n (pc := 16) hX rfl rfl dX0_lengthOfRun_16 ?_
      have hn : a.toNat < (enc l).length := by omega
      refine x_iald (pc := 17) (j := a.toNat) hX hK.2.2 (by omega) (by omega) (by decide) (hC.mem hn).2.1 dX0_lengthOfRun_17 ?_
      refine x_goto (pc := 18) (tgt := 22) hX dX0_lengthOfRun_18 (by decide) ?_
      refine x_iret (pc := 22) hX rfl (Nat.zero_le _) (Nat.zero_le _) dX0_lengthOfRun_22 ?_
      exact pP_i (congrArg xI (by unfold rnO; first | rw [if_pos (by omega)] | rw [if_neg (by omega)]))

set_option maxHeartbeats 4000000 in
set_option maxRecDepth 100000 in
theorem tX0_firstRowOfRun {G : XG} {κ : XKs} {M : XM} {hs o : Nat} {l : List Nat} (hK : KCol κ hs o) (hC : Col M o l) (a : Nat) (ha : a ≤ (enc l).length) : XC G mX0_firstRowOfRun 0 0 0 [xR o, xI (a : Int)] κ M hs (pP κ M hs (xI (tot ((enc l).take a) : Int))) := by
  refine XC.intro cdX0_firstRowOfRun (by decide) (by decide) (Nat.le_of_ble_eq_true rfl) (loc := [some (xR o), some (xI (a : Int)), none, none]) rfl (fun X hX => ?_)
  have hl := hC.len
  have loop : ∀ (n k : Nat), k ≤ (enc l).length → (enc l).length < k + n → k ≤ a → XW G X mX0_firstRowOfRun (xq G (pP κ M hs (xI (tot ((enc l).take a) : Int))) 0 0 X) 0 0 4 [some (xR o), some (xI (a : Int)), some (xI (tot ((enc l).take k) : Int)), some (xI (k : Int))] [] κ M hs := by
    intro n
    induction n with
    | zero => intro k  h1 h2; omega
    | succ n ih =>
      intro k  h1 h2 h3
      refine x_iload_n (pc := 4) hX rfl rfl dX0_firstRowOfRun_4 ?_
      refine x_iload_n (pc := 5) hX rfl rfl dX0_firstRowOfRun_5 ?_
      refine x_icmp_ge (pc := 6) (tgt := 32) hX dX0_firstRowOfRun_6 (by decide) (by omega) (fun h6 => ?_) (fun h6 => ?_)
      · refine x_iload_n (pc := 32) hX rfl rfl dX0_firstRowOfRun_32 ?_
        refine x_iret (pc := 33) hX rfl (Nat.zero_le _) (Nat.zero_le _) dX0_firstRowOfRun_33 ?_
        have hka : k = a := by omega
        exact pP_i (by rw [hka])
      · refine x_iload_n (pc := 9) hX rfl rfl dX0_firstRowOfRun_9 ?_
        refine x_aload_n (pc := 10) hX rfl rfl dX0_firstRowOfRun_10 ?_
        refine x_getI (pc := 11) hX fl_X0_18 hK.1 rfl hl.1 dX0_firstRowOfRun_11 ?_
        refine x_icmp_ge (pc := 14) (tgt := 32) hX dX0_firstRowOfRun_14 (by decide) (by omega) (fun h14 => ?_) (fun h14 => ?_)
        · refine x_iload_n (pc := 32) hX rfl rfl dX0_firstRowOfRun_32 ?_
          refine x_iret (pc := 33) hX rfl (Nat.zero_le _) (Nat.zero_le _) dX0_firstRowOfRun_33 ?_
          have hka : k = a := by omega
          exact pP_i (by rw [hka])
        · have hk2 : k < (enc l).length := by omega
          have hm := hC.mem hk2
          refine x_iload_n (pc := 17) hX rfl rfl dX0_firstRowOfRun_17 ?_
          refine x_aload_n (pc := 18) hX rfl rfl dX0_firstRowOfRun_18 ?_
          refine x_getR (pc := 19) hX fl_X0_15 hK.1 rfl dX0_firstRowOfRun_19 ?_
          refine x_iload_n (pc := 22) hX rfl rfl dX0_firstRowOfRun_22 ?_
          refine x_iald (pc := 23) (j := k) hX hK.2.2 (by omega) (by omega) (by decide) hm.2.1 dX0_firstRowOfRun_23 ?_
          refine x_iadd (pc := 24) (v := (tot ((enc l).take (k + 1)) : Int)) hX dX0_firstRowOfRun_24 (by rw [tot_take_succ hk2]; omega) ?_
          refine x_istore_n (pc := 25) hX rfl (by decide) rfl rfl dX0_firstRowOfRun_25 ?_
          refine x_iinc (pc := 26) (v := ((k + 1 : Nat) : Int)) hX dX0_firstRowOfRun_26 rfl (by decide) rfl (by omega) rfl ?_
          refine x_goto (pc := 29) (tgt := 4) hX dX0_firstRowOfRun_29 (by decide) ?_
          exact ih (k + 1) (by omega) (by omega) (by omega)
  refine x_iconst (pc := 0) hX dX0_firstRowOfRun_0 ?_
  refine x_istore_n (pc := 1) hX rfl (by decide) rfl rfl dX0_firstRowOfRun_1 ?_
  refine x_iconst (pc := 2) hX dX0_firstRowOfRun_2 ?_
  refine x_istore_n (pc := 3) hX rfl (by decide) rfl rfl dX0_firstRowOfRun_3 ?_
  exact loop ((enc l).length + 1) 0 (by omega) (by omega) (by omega)

set_option maxHeartbeats 4000000 in
set_option maxRecDepth 100000 in
theorem tX0_runOfRow {G : XG} {κ : XKs} {M : XM} {hs o : Nat} {l : List Nat} (hK : KCol κ hs o) (hC : Col M o l) (r : Nat) (hr : r < l.length) : XC G mX0_runOfRow 0 0 0 [xR o, xI (r : Int)] κ M hs (pP κ M hs (xI (rof (enc l) r : Int))) := by
  refine XC.intro cdX0_runOfRow (by decide) (by decide) (Nat.le_of_ble_eq_true rfl) (loc := [some (xR o), some (xI (r : Int)), none, none]) rfl (fun X hX => ?_)
  have hl := hC.len
  have loop : ∀ (n k : Nat), k ≤ (enc l).length → (enc l).length < k + n → tot ((enc l).take k) ≤ r → XW G X mX0_runOfRow (xq G (pP κ M hs (xI (rof (enc l) r : Int))) 0 0 X) 0 0 4 [some (xR o), some (xI (r : Int)), some (xI (tot ((enc l).take k) : Int)), some (xI (k : Int))] [] κ M hs := by
    intro n
    induction n with
    | zero => intro k  h1 h2; omega
    | succ n ih =>
      intro k  h1 h2 h3
      refine x_iload_n (pc := 4) hX rfl rfl dX0_runOfRow_4 ?_
      refine x_aload_n (pc := 5) hX rfl rfl dX0_runOfRow_5 ?_
      refine x_getI (pc := 6) hX fl_X0_18 hK.1 rfl hl.1 dX0_runOfRow_6 ?_
      refine x_icmp_ge (pc := 9) (tgt := 34) hX dX0_runOfRow_9 (by decide) (by omega) (fun h9 => ?_) (fun h9 => ?_)
      · exfalso
        have e9 : (enc l).take k = enc l := List.take_of_length_le (by omega)
        rw [e9, tot_enc] at h3
        omega
      · have hk2 : k < (enc l).length := by omega
        have hm := hC.mem hk2
        have ht := tot_take_succ hk2
        have ht2 := tot_take_le (enc l) (k + 1)
        rw [tot_enc] at ht2
        refine x_iload_n (pc := 12) hX rfl rfl dX0_runOfRow_12 ?_
        refine x_aload_n (pc := 13) hX rfl rfl dX0_runOfRow_13 ?_
        refine x_getR (pc := 14) hX fl_X0_15 hK.1 rfl dX0_runOfRow_14 ?_
        refine x_iload_n (pc := 17) hX rfl rfl dX0_runOfRow_17 ?_
        refine x_iald (pc := 18) (j := k) hX hK.2.2 (by omega) (by omega) (by decide) hm.2.1 dX0_runOfRow_18 ?_
        refine x_iadd (pc := 19) (v := (tot ((enc l).take (k + 1)) : Int)) hX dX0_runOfRow_19 (by rw [ht]; omega) ?_
        refine x_istore_n (pc := 20) hX rfl (by decide) rfl rfl dX0_runOfRow_20 ?_
        refine x_iload_n (pc := 21) hX rfl rfl dX0_runOfRow_21 ?_
        refine x_iload_n (pc := 22) hX rfl rfl dX0_runOfRow_22 ?_
        refine x_icmp_ge (pc := 23) (tgt := 28) hX dX0_runOfRow_23 (by decide) (by omega) (fun h23 => ?_) (fun h23 => ?_)
        · refine x_iinc (pc := 28) (v := ((k + 1 : Nat) : Int)) hX dX0_runOfRow_28 rfl (by decide) rfl (by omega) rfl ?_
          refine x_goto (pc := 31) (tgt := 4) hX dX0_runOfRow_31 (by decide) ?_
          exact ih (k + 1) (by omega) (by omega) (by omega)
        · refine x_iload_n (pc := 26) hX rfl rfl dX0_runOfRow_26 ?_
          refine x_iret (pc := 27) hX rfl (Nat.zero_le _) (Nat.zero_le _) dX0_runOfRow_27 ?_
          exact pP_i (by rw [rof_uniq hk2 h3 (by omega)])
  refine x_iconst (pc := 0) hX dX0_runOfRow_0 ?_
  refine x_istore_n (pc := 1) hX rfl (by decide) rfl rfl dX0_runOfRow_1 ?_
  refine x_iconst (pc := 2) hX dX0_runOfRow_2 ?_
  refine x_istore_n (pc := 3) hX rfl (by decide) rfl rfl dX0_runOfRow_3 ?_
  exact loop ((enc l).length + 1) 0 (by omega) (by omega) (by show tot (List.take 0 (enc l)) ≤ r; simp [tot])

set_option maxHeartbeats 4000000 in
set_option maxRecDepth 100000 in
theorem tX0_valueOfRow {G : XG} {κ : XKs} {M : XM} {hs o : Nat} {l : List Nat} (hK : KCol κ hs o) (hC : Col M o l) (r : Nat) (hr : r < l.length) : XC G mX0_valueOfRow 1 0 0 [xR o, xI (r : Int)] κ M hs (pP κ M hs (xI (rvO (enc l) (rof (enc l) r)))) := by
  refine XC.intro cdX0_valueOfRow (by decide) (by decide) (Nat.le_of_ble_eq_true rfl) (loc := [some (xR o), some (xI (r : Int))]) rfl (fun X hX => ?_)
  have hl := hC.len
  have hq := rof_spec (enc l) r (by rw [tot_enc]; exact hr)
  refine x_aload_n (pc := 0) hX rfl rfl dX0_valueOfRow_0 ?_
  refine x_aload_n (pc := 1) hX rfl rfl dX0_valueOfRow_1 ?_
  refine x_iload_n (pc := 2) hX rfl rfl dX0_valueOfRow_2 ?_
  refine x_cV_P (pc := 3) hX (tX0_runOfRow hK hC r hr) hK.1 rfl lk_X0_29 rfl rfl (Nat.le_of_ble_eq_true rfl) (by decide) (Nat.zero_le _) (Nat.zero_le _) dX0_valueOfRow_3 ?_
  refine x_cV_P (pc := 6) hX (tX0_valueOfRun hK hC _ (by unfold InR; omega)) hK.1 rfl lk_X0_33 rfl rfl (Nat.le_of_ble_eq_true rfl) (by decide) (Nat.zero_le _) (Nat.zero_le _) dX0_valueOfRow_6 ?_
  refine x_iret (pc := 9) hX rfl (Nat.zero_le _) (Nat.zero_le _) dX0_valueOfRow_9 (pP_i rfl)

set_option maxHeartbeats 4000000 in
set_option maxRecDepth 100000 in
theorem tX0_rowOfRank {G : XG} {κ : XKs} {M : XM} {hs o : Nat} {l : List Nat} (hK : KCol κ hs o) (hC : Col M o l) (v : Int) (hv : InR v) (rk : Nat) (hrk : rk < 2147483648) : XC G mX0_rowOfRank 0 0 0 [xR o, xI v, xI (rk : Int)] κ M hs (pP κ M hs (xI (fRank v 0 rk (enc l)))) := by
  refine XC.intro cdX0_rowOfRank (by decide) (by decide) (Nat.le_of_ble_eq_true rfl) (loc := [some (xR o), some (xI v), some (xI (rk : Int)), none, none, none]) rfl (fun X hX => ?_)
  unfold InR at hv
  have hl := hC.len
  have loop : ∀ (n k : Nat) (left : Nat), k ≤ (enc l).length → (enc l).length < k + n → left ≤ rk → fRank v (tot ((enc l).take k)) left ((enc l).drop k) = fRank v 0 rk (enc l) → XW G X mX0_rowOfRank (xq G (pP κ M hs (xI (fRank v 0 rk (enc l)))) 0 0 X) 0 0 8 [some (xR o), some (xI v), some (xI (rk : Int)), some (xI (tot ((enc l).take k) : Int)), some (xI (left : Int)), some (xI (k : Int))] [] κ M hs := by
    intro n
    induction n with
    | zero => intro k left h1 h2; omega
    | succ n ih =>
      intro k left h1 h2 h3 hF
      refine x_iload (pc := 8) hX rfl dX0_rowOfRank_8 ?_
      refine x_aload_n (pc := 10) hX rfl rfl dX0_rowOfRank_10 ?_
      refine x_getI (pc := 11) hX fl_X0_18 hK.1 rfl hl.1 dX0_rowOfRank_11 ?_
      refine x_icmp_ge (pc := 14) (tgt := 73) hX dX0_rowOfRank_14 (by decide) (by omega) (fun h14 => ?_) (fun h14 => ?_)
      · refine x_bipush (pc := 73) hX (by decide) dX0_rowOfRank_73 ?_
        refine x_iret (pc := 75) hX rfl (Nat.zero_le _) (Nat.zero_le _) dX0_rowOfRank_75 ?_
        exact pP_i (congrArg xI (by rw [← hF, ru_end _ (by omega)]; rfl))
      · have hk2 : k < (enc l).length := by omega
        have hm := hC.mem hk2
        have ht := tot_take_succ hk2
        have ht2 := tot_take_le (enc l) k
        rw [tot_enc] at ht2
        refine x_aload_n (pc := 17) hX rfl rfl dX0_rowOfRank_17 ?_
        refine x_getR (pc := 18) hX fl_X0_9 hK.1 rfl dX0_rowOfRank_18 ?_
        refine x_iload (pc := 21) hX rfl dX0_rowOfRank_21 ?_
        refine x_iald (pc := 23) (j := k) hX hK.2.1 (by omega) (by omega) (by decide) hm.1 dX0_rowOfRank_23 ?_
        refine x_iload_n (pc := 24) hX rfl rfl dX0_rowOfRank_24 ?_
        refine x_icmp_ne (pc := 25) (tgt := 57) hX dX0_rowOfRank_25 (by decide) (by omega) (fun h25 => ?_) (fun h25 => ?_)
        · refine x_iload_n (pc := 57) hX rfl rfl dX0_rowOfRank_57 ?_
          refine x_aload_n (pc := 58) hX rfl rfl dX0_rowOfRank_58 ?_
          refine x_getR (pc := 59) hX fl_X0_15 hK.1 rfl dX0_rowOfRank_59 ?_
          refine x_iload (pc := 62) hX rfl dX0_rowOfRank_62 ?_
          refine x_iald (pc := 64) (j := k) hX hK.2.2 (by omega) (by omega) (by decide) hm.2.1 dX0_rowOfRank_64 ?_
          refine x_iadd (pc := 65) (v := (tot ((enc l).take (k + 1)) : Int)) hX dX0_rowOfRank_65 (by rw [ht]; omega) ?_
          refine x_istore_n (pc := 66) hX rfl (by decide) rfl rfl dX0_rowOfRank_66 ?_
          refine x_iinc (pc := 67) (v := ((k + 1 : Nat) : Int)) hX dX0_rowOfRank_67 rfl (by decide) rfl (by omega) rfl ?_
          refine x_goto (pc := 70) (tgt := 8) hX dX0_rowOfRank_70 (by decide) ?_
          first
          | exact ih (k + 1) (left - rn (enc l) k) (by omega) (by omega) (by omega) (by rw [← hF, ru_drop hk2, fRank, if_pos (by omega), if_neg (by omega), ht])
          | exact ih (k + 1) left (by omega) (by omega) (by omega) (by rw [← hF, ru_drop hk2, fRank, if_neg (by omega), ht])
        · refine x_iload (pc := 28) hX rfl dX0_rowOfRank_28 ?_
          refine x_aload_n (pc := 30) hX rfl rfl dX0_rowOfRank_30 ?_
          refine x_getR (pc := 31) hX fl_X0_15 hK.1 rfl dX0_rowOfRank_31 ?_
          refine x_iload (pc := 34) hX rfl dX0_rowOfRank_34 ?_
          refine x_iald (pc := 36) (j := k) hX hK.2.2 (by omega) (by omega) (by decide) hm.2.1 dX0_rowOfRank_36 ?_
          refine x_icmp_ge (pc := 37) (tgt := 45) hX dX0_rowOfRank_37 (by decide) (by omega) (fun h37 => ?_) (fun h37 => ?_)
          · refine x_iload (pc := 45) hX rfl dX0_rowOfRank_45 ?_
            refine x_aload_n (pc := 47) hX rfl rfl dX0_rowOfRank_47 ?_
            refine x_getR (pc := 48) hX fl_X0_15 hK.1 rfl dX0_rowOfRank_48 ?_
            refine x_iload (pc := 51) hX rfl dX0_rowOfRank_51 ?_
            refine x_iald (pc := 53) (j := k) hX hK.2.2 (by omega) (by omega) (by decide) hm.2.1 dX0_rowOfRank_53 ?_
            refine x_isub (pc := 54) (v := ((left - rn (enc l) k : Nat) : Int)) hX dX0_rowOfRank_54 (by omega) ?_
            refine x_istore (pc := 55) hX (by decide) rfl rfl dX0_rowOfRank_55 ?_
            refine x_iload_n (pc := 57) hX rfl rfl dX0_rowOfRank_57 ?_
            refine x_aload_n (pc := 58) hX rfl rfl dX0_rowOfRank_58 ?_
            refine x_getR (pc := 59) hX fl_X0_15 hK.1 rfl dX0_rowOfRank_59 ?_
            refine x_iload (pc := 62) hX rfl dX0_rowOfRank_62 ?_
            refine x_iald (pc := 64) (j := k) hX hK.2.2 (by omega) (by omega) (by decide) hm.2.1 dX0_rowOfRank_64 ?_
            refine x_iadd (pc := 65) (v := (tot ((enc l).take (k + 1)) : Int)) hX dX0_rowOfRank_65 (by rw [ht]; omega) ?_
            refine x_istore_n (pc := 66) hX rfl (by decide) rfl rfl dX0_rowOfRank_66 ?_
            refine x_iinc (pc := 67) (v := ((k + 1 : Nat) : Int)) hX dX0_rowOfRank_67 rfl (by decide) rfl (by omega) rfl ?_
            refine x_goto (pc := 70) (tgt := 8) hX dX0_rowOfRank_70 (by decide) ?_
            first
            | exact ih (k + 1) (left - rn (enc l) k) (by omega) (by omega) (by omega) (by rw [← hF, ru_drop hk2, fRank, if_pos (by omega), if_neg (by omega), ht])
            | exact ih (k + 1) left (by omega) (by omega) (by omega) (by rw [← hF, ru_drop hk2, fRank, if_neg (by omega), ht])
          · refine x_iload_n (pc := 40) hX rfl rfl dX0_rowOfRank_40 ?_
            refine x_iload (pc := 41) hX rfl dX0_rowOfRank_41 ?_
            refine x_iadd (pc := 43) hX dX0_rowOfRank_43 rfl ?_
            refine x_iret (pc := 44) hX rfl (Nat.zero_le _) (Nat.zero_le _) dX0_rowOfRank_44 ?_
            exact pP_i (congrArg xI (by rw [← hF, ru_drop hk2, fRank, if_pos (by omega), if_pos (by omega)]; omega))
  refine x_iconst (pc := 0) hX dX0_rowOfRank_0 ?_
  refine x_istore_n (pc := 1) hX rfl (by decide) rfl rfl dX0_rowOfRank_1 ?_
  refine x_iload_n (pc := 2) hX rfl rfl dX0_rowOfRank_2 ?_
  refine x_istore (pc := 3) hX (by decide) rfl rfl dX0_rowOfRank_3 ?_
  refine x_iconst (pc := 5) hX dX0_rowOfRank_5 ?_
  refine x_istore (pc := 6) hX (by decide) rfl rfl dX0_rowOfRank_6 ?_
  exact loop ((enc l).length + 1) 0 rk (by omega) (by omega) (by omega) rfl

set_option maxHeartbeats 4000000 in
set_option maxRecDepth 100000 in
theorem tX0_rowsOf {G : XG} {κ : XKs} {M : XM} {hs o : Nat} {l : List Nat} (hK : KCol κ hs o) (hC : Col M o l) (v : Int) (hv : InR v) : XC G mX0_rowsOf 0 0 0 [xR o, xI v] κ M hs (pP κ M hs (xI (fRows v 0 (enc l)))) := by
  refine XC.intro cdX0_rowsOf (by decide) (by decide) (Nat.le_of_ble_eq_true rfl) (loc := [some (xR o), some (xI v), none, none]) rfl (fun X hX => ?_)
  unfold InR at hv
  have hl := hC.len
  have loop : ∀ (n k : Nat) (acc : Int), k ≤ (enc l).length → (enc l).length < k + n → fRows v acc ((enc l).drop k) = fRows v 0 (enc l) → XW G X mX0_rowsOf (xq G (pP κ M hs (xI (fRows v 0 (enc l)))) 0 0 X) 0 0 4 [some (xR o), some (xI v), some (xI acc), some (xI (k : Int))] [] κ M hs := by
    intro n
    induction n with
    | zero => intro k acc h1 h2; omega
    | succ n ih =>
      intro k acc h1 h2 hF
      refine x_iload_n (pc := 4) hX rfl rfl dX0_rowsOf_4 ?_
      refine x_aload_n (pc := 5) hX rfl rfl dX0_rowsOf_5 ?_
      refine x_getI (pc := 6) hX fl_X0_18 hK.1 rfl hl.1 dX0_rowsOf_6 ?_
      refine x_icmp_ge (pc := 9) (tgt := 37) hX dX0_rowsOf_9 (by decide) (by omega) (fun h9 => ?_) (fun h9 => ?_)
      · refine x_iload_n (pc := 37) hX rfl rfl dX0_rowsOf_37 ?_
        refine x_iret (pc := 38) hX rfl (Nat.zero_le _) (Nat.zero_le _) dX0_rowsOf_38 ?_
        exact pP_i (congrArg xI (by rw [← hF, ru_end _ (by omega)]; rfl))
      · have hk2 : k < (enc l).length := by omega
        have hm := hC.mem hk2
        refine x_aload_n (pc := 12) hX rfl rfl dX0_rowsOf_12 ?_
        refine x_getR (pc := 13) hX fl_X0_9 hK.1 rfl dX0_rowsOf_13 ?_
        refine x_iload_n (pc := 16) hX rfl rfl dX0_rowsOf_16 ?_
        refine x_iald (pc := 17) (j := k) hX hK.2.1 (by omega) (by omega) (by decide) hm.1 dX0_rowsOf_17 ?_
        refine x_iload_n (pc := 18) hX rfl rfl dX0_rowsOf_18 ?_
        refine x_icmp_ne (pc := 19) (tgt := 31) hX dX0_rowsOf_19 (by decide) (by omega) (fun h19 => ?_) (fun h19 => ?_)
        · refine x_iinc (pc := 31) (v := ((k + 1 : Nat) : Int)) hX dX0_rowsOf_31 rfl (by decide) rfl (by omega) rfl ?_
          refine x_goto (pc := 34) (tgt := 4) hX dX0_rowsOf_34 (by decide) ?_
          first
          | exact ih (k + 1) _ (by omega) (by omega) (by rw [← hF, ru_drop hk2, fRows, if_pos (show ((rv (enc l) k : Nat) : Int) = v by omega)])
          | exact ih (k + 1) _ (by omega) (by omega) (by rw [← hF, ru_drop hk2, fRows, if_neg (show ¬ ((rv (enc l) k : Nat) : Int) = v by omega)])
        · refine x_iload_n (pc := 22) hX rfl rfl dX0_rowsOf_22 ?_
          refine x_aload_n (pc := 23) hX rfl rfl dX0_rowsOf_23 ?_
          refine x_getR (pc := 24) hX fl_X0_15 hK.1 rfl dX0_rowsOf_24 ?_
          refine x_iload_n (pc := 27) hX rfl rfl dX0_rowsOf_27 ?_
          refine x_iald (pc := 28) (j := k) hX hK.2.2 (by omega) (by omega) (by decide) hm.2.1 dX0_rowsOf_28 ?_
          refine x_iadd (pc := 29) hX dX0_rowsOf_29 rfl ?_
          refine x_istore_n (pc := 30) hX rfl (by decide) rfl rfl dX0_rowsOf_30 ?_
          refine x_iinc (pc := 31) (v := ((k + 1 : Nat) : Int)) hX dX0_rowsOf_31 rfl (by decide) rfl (by omega) rfl ?_
          refine x_goto (pc := 34) (tgt := 4) hX dX0_rowsOf_34 (by decide) ?_
          first
          | exact ih (k + 1) _ (by omega) (by omega) (by rw [← hF, ru_drop hk2, fRows, if_pos (show ((rv (enc l) k : Nat) : Int) = v by omega)])
          | exact ih (k + 1) _ (by omega) (by omega) (by rw [← hF, ru_drop hk2, fRows, if_neg (show ¬ ((rv (enc l) k : Nat) : Int) = v by omega)])
  refine x_iconst (pc := 0) hX dX0_rowsOf_0 ?_
  refine x_istore_n (pc := 1) hX rfl (by decide) rfl rfl dX0_rowsOf_1 ?_
  refine x_iconst (pc := 2) hX dX0_rowsOf_2 ?_
  refine x_istore_n (pc := 3) hX rfl (by decide) rfl rfl dX0_rowsOf_3 ?_
  exact loop ((enc l).length + 1) 0 0 (by omega) (by omega) rfl

set_option maxHeartbeats 4000000 in
set_option maxRecDepth 100000 in
theorem tX0_runsOf {G : XG} {κ : XKs} {M : XM} {hs o : Nat} {l : List Nat} (hK : KCol κ hs o) (hC : Col M o l) (v : Int) (hv : InR v) : XC G mX0_runsOf 0 0 0 [xR o, xI v] κ M hs (pP κ M hs (xI (fRuns v 0 (enc l)))) := by
  refine XC.intro cdX0_runsOf (by decide) (by decide) (Nat.le_of_ble_eq_true rfl) (loc := [some (xR o), some (xI v), none, none]) rfl (fun X hX => ?_)
  unfold InR at hv
  have hl := hC.len
  have loop : ∀ (n k : Nat) (acc : Int), k ≤ (enc l).length → (enc l).length < k + n → fRuns v acc ((enc l).drop k) = fRuns v 0 (enc l) → XW G X mX0_runsOf (xq G (pP κ M hs (xI (fRuns v 0 (enc l)))) 0 0 X) 0 0 4 [some (xR o), some (xI v), some (xI acc), some (xI (k : Int))] [] κ M hs := by
    intro n
    induction n with
    | zero => intro k acc h1 h2; omega
    | succ n ih =>
      intro k acc h1 h2 hF
      refine x_iload_n (pc := 4) hX rfl rfl dX0_runsOf_4 ?_
      refine x_aload_n (pc := 5) hX rfl rfl dX0_runsOf_5 ?_
      refine x_getI (pc := 6) hX fl_X0_18 hK.1 rfl hl.1 dX0_runsOf_6 ?_
      refine x_icmp_ge (pc := 9) (tgt := 31) hX dX0_runsOf_9 (by decide) (by omega) (fun h9 => ?_) (fun h9 => ?_)
      · refine x_iload_n (pc := 31) hX rfl rfl dX0_runsOf_31 ?_
        refine x_iret (pc := 32) hX rfl (Nat.zero_le _) (Nat.zero_le _) dX0_runsOf_32 ?_
        exact pP_i (congrArg xI (by rw [← hF, ru_end _ (by omega)]; rfl))
      · have hk2 : k < (enc l).length := by omega
        have hm := hC.mem hk2
        refine x_aload_n (pc := 12) hX rfl rfl dX0_runsOf_12 ?_
        refine x_getR (pc := 13) hX fl_X0_9 hK.1 rfl dX0_runsOf_13 ?_
        refine x_iload_n (pc := 16) hX rfl rfl dX0_runsOf_16 ?_
        refine x_iald (pc := 17) (j := k) hX hK.2.1 (by omega) (by omega) (by decide) hm.1 dX0_runsOf_17 ?_
        refine x_iload_n (pc := 18) hX rfl rfl dX0_runsOf_18 ?_
        refine x_icmp_ne (pc := 19) (tgt := 25) hX dX0_runsOf_19 (by decide) (by omega) (fun h19 => ?_) (fun h19 => ?_)
        · refine x_iinc (pc := 25) (v := ((k + 1 : Nat) : Int)) hX dX0_runsOf_25 rfl (by decide) rfl (by omega) rfl ?_
          refine x_goto (pc := 28) (tgt := 4) hX dX0_runsOf_28 (by decide) ?_
          first
          | exact ih (k + 1) _ (by omega) (by omega) (by rw [← hF, ru_drop hk2, fRuns, if_pos (show ((rv (enc l) k : Nat) : Int) = v by omega)])
          | exact ih (k + 1) _ (by omega) (by omega) (by rw [← hF, ru_drop hk2, fRuns, if_neg (show ¬ ((rv (enc l) k : Nat) : Int) = v by omega)])
        · refine x_iinc (pc := 22) hX dX0_runsOf_22 rfl (by decide) rfl rfl rfl ?_
          refine x_iinc (pc := 25) (v := ((k + 1 : Nat) : Int)) hX dX0_runsOf_25 rfl (by decide) rfl (by omega) rfl ?_
          refine x_goto (pc := 28) (tgt := 4) hX dX0_runsOf_28 (by decide) ?_
          first
          | exact ih (k + 1) _ (by omega) (by omega) (by rw [← hF, ru_drop hk2, fRuns, if_pos (show ((rv (enc l) k : Nat) : Int) = v by omega)])
          | exact ih (k + 1) _ (by omega) (by omega) (by rw [← hF, ru_drop hk2, fRuns, if_neg (show ¬ ((rv (enc l) k : Nat) : Int) = v by omega)])
  refine x_iconst (pc := 0) hX dX0_runsOf_0 ?_
  refine x_istore_n (pc := 1) hX rfl (by decide) rfl rfl dX0_runsOf_1 ?_
  refine x_iconst (pc := 2) hX dX0_runsOf_2 ?_
  refine x_istore_n (pc := 3) hX rfl (by decide) rfl rfl dX0_runsOf_3 ?_
  exact loop ((enc l).length + 1) 0 0 (by omega) (by omega) rfl

set_option maxHeartbeats 4000000 in
set_option maxRecDepth 100000 in
theorem tX0_sum {G : XG} {κ : XKs} {M : XM} {hs o : Nat} {l : List Nat} (hK : KCol κ hs o) (hC : Col M o l) : XC G mX0_sum 0 0 0 [xR o] κ M hs (pP κ M hs (xI (fSum  0 (enc l)))) := by
  refine XC.intro cdX0_sum (by decide) (by decide) (Nat.le_of_ble_eq_true rfl) (loc := [some (xR o), none, none]) rfl (fun X hX => ?_)
  have hl := hC.len
  have loop : ∀ (n k : Nat) (acc : Int), k ≤ (enc l).length → (enc l).length < k + n → fSum  acc ((enc l).drop k) = fSum  0 (enc l) → XW G X mX0_sum (xq G (pP κ M hs (xI (fSum  0 (enc l)))) 0 0 X) 0 0 4 [some (xR o), some (xI acc), some (xI (k : Int))] [] κ M hs := by
    intro n
    induction n with
    | zero => intro k acc h1 h2; omega
    | succ n ih =>
      intro k acc h1 h2 hF
      refine x_iload_n (pc := 4) hX rfl rfl dX0_sum_4 ?_
      refine x_aload_n (pc := 5) hX rfl rfl dX0_sum_5 ?_
      refine x_getI (pc := 6) hX fl_X0_18 hK.1 rfl hl.1 dX0_sum_6 ?_
      refine x_icmp_ge (pc := 9) (tgt := 34) hX dX0_sum_9 (by decide) (by omega) (fun h9 => ?_) (fun h9 => ?_)
      · refine x_iload_n (pc := 34) hX rfl rfl dX0_sum_34 ?_
        refine x_iret (pc := 35) hX rfl (Nat.zero_le _) (Nat.zero_le _) dX0_sum_35 ?_
        exact pP_i (congrArg xI (by rw [← hF, ru_end _ (by omega)]; rfl))
      · have hk2 : k < (enc l).length := by omega
        have hm := hC.mem hk2
        refine x_iload_n (pc := 12) hX rfl rfl dX0_sum_12 ?_
        refine x_aload_n (pc := 13) hX rfl rfl dX0_sum_13 ?_
        refine x_getR (pc := 14) hX fl_X0_9 hK.1 rfl dX0_sum_14 ?_
        refine x_iload_n (pc := 17) hX rfl rfl dX0_sum_17 ?_
        refine x_iald (pc := 18) (j := k) hX hK.2.1 (by omega) (by omega) (by decide) hm.1 dX0_sum_18 ?_
        refine x_aload_n (pc := 19) hX rfl rfl dX0_sum_19 ?_
        refine x_getR (pc := 20) hX fl_X0_15 hK.1 rfl dX0_sum_20 ?_
        refine x_iload_n (pc := 23) hX rfl rfl dX0_sum_23 ?_
        refine x_iald (pc := 24) (j := k) hX hK.2.2 (by omega) (by omega) (by decide) hm.2.1 dX0_sum_24 ?_
        refine x_imul (pc := 25) hX dX0_sum_25 rfl ?_
        refine x_iadd (pc := 26) hX dX0_sum_26 rfl ?_
        refine x_istore_n (pc := 27) hX rfl (by decide) rfl rfl dX0_sum_27 ?_
        refine x_iinc (pc := 28) (v := ((k + 1 : Nat) : Int)) hX dX0_sum_28 rfl (by decide) rfl (by omega) rfl ?_
        refine x_goto (pc := 31) (tgt := 4) hX dX0_sum_31 (by decide) ?_
        first
        | exact ih (k + 1) _ (by omega) (by omega) (by rw [← hF, ru_drop hk2, fSum])
  refine x_iconst (pc := 0) hX dX0_sum_0 ?_
  refine x_istore_n (pc := 1) hX rfl (by decide) rfl rfl dX0_sum_1 ?_
  refine x_iconst (pc := 2) hX dX0_sum_2 ?_
  refine x_istore_n (pc := 3) hX rfl (by decide) rfl rfl dX0_sum_3 ?_
  exact loop ((enc l).length + 1) 0 0 (by omega) (by omega) rfl

set_option maxHeartbeats 4000000 in
set_option maxRecDepth 100000 in
theorem tX0_valueSet {G : XG} {κ : XKs} {M : XM} {hs o : Nat} {l : List Nat} (hK : KCol κ hs o) (hC : Col M o l) : XC G mX0_valueSet 0 0 0 [xR o] κ M hs (pP κ M hs (xI (fSet  0 (enc l) : Nat))) := by
  refine XC.intro cdX0_valueSet (by decide) (by decide) (Nat.le_of_ble_eq_true rfl) (loc := [some (xR o), none, none]) rfl (fun X hX => ?_)
  have hl := hC.len
  have loop : ∀ (n k : Nat) (acc : Nat), k ≤ (enc l).length → (enc l).length < k + n → fSet  acc ((enc l).drop k) = fSet  0 (enc l) → XW G X mX0_valueSet (xq G (pP κ M hs (xI (fSet  0 (enc l) : Nat))) 0 0 X) 0 0 4 [some (xR o), some (xI (acc : Int)), some (xI (k : Int))] [] κ M hs := by
    intro n
    induction n with
    | zero => intro k acc h1 h2; omega
    | succ n ih =>
      intro k acc h1 h2 hF
      refine x_iload_n (pc := 4) hX rfl rfl dX0_valueSet_4 ?_
      refine x_aload_n (pc := 5) hX rfl rfl dX0_valueSet_5 ?_
      refine x_getI (pc := 6) hX fl_X0_18 hK.1 rfl hl.1 dX0_valueSet_6 ?_
      refine x_icmp_ge (pc := 9) (tgt := 29) hX dX0_valueSet_9 (by decide) (by omega) (fun h9 => ?_) (fun h9 => ?_)
      · refine x_iload_n (pc := 29) hX rfl rfl dX0_valueSet_29 ?_
        refine x_iret (pc := 30) hX rfl (Nat.zero_le _) (Nat.zero_le _) dX0_valueSet_30 ?_
        exact pP_i (congrArg xI (by rw [← hF, ru_end _ (by omega)]; rfl))
      · have hk2 : k < (enc l).length := by omega
        have hm := hC.mem hk2
        refine x_iload_n (pc := 12) hX rfl rfl dX0_valueSet_12 ?_
        refine x_iconst (pc := 13) hX dX0_valueSet_13 ?_
        refine x_aload_n (pc := 14) hX rfl rfl dX0_valueSet_14 ?_
        refine x_getR (pc := 15) hX fl_X0_9 hK.1 rfl dX0_valueSet_15 ?_
        refine x_iload_n (pc := 18) hX rfl rfl dX0_valueSet_18 ?_
        refine x_iald (pc := 19) (j := k) hX hK.2.1 (by omega) (by omega) (by decide) hm.1 dX0_valueSet_19 ?_
        refine x_ishl (pc := 20) (v := ((2 ^ rv (enc l) k : Nat) : Int)) hX dX0_valueSet_20 (xshl1 _ hm.2.2.1) ?_
        refine x_ior (pc := 21) (v := ((acc ||| 2 ^ rv (enc l) k : Nat) : Int)) hX dX0_valueSet_21 (xor2 _ _) ?_
        refine x_istore_n (pc := 22) hX rfl (by decide) rfl rfl dX0_valueSet_22 ?_
        refine x_iinc (pc := 23) (v := ((k + 1 : Nat) : Int)) hX dX0_valueSet_23 rfl (by decide) rfl (by omega) rfl ?_
        refine x_goto (pc := 26) (tgt := 4) hX dX0_valueSet_26 (by decide) ?_
        first
        | exact ih (k + 1) _ (by omega) (by omega) (by rw [← hF, ru_drop hk2, fSet])
  refine x_iconst (pc := 0) hX dX0_valueSet_0 ?_
  refine x_istore_n (pc := 1) hX rfl (by decide) rfl rfl dX0_valueSet_1 ?_
  refine x_iconst (pc := 2) hX dX0_valueSet_2 ?_
  refine x_istore_n (pc := 3) hX rfl (by decide) rfl rfl dX0_valueSet_3 ?_
  exact loop ((enc l).length + 1) 0 0 (by omega) (by omega) rfl

set_option maxHeartbeats 4000000 in
set_option maxRecDepth 100000 in
theorem tX0_longest {G : XG} {κ : XKs} {M : XM} {hs o : Nat} {l : List Nat} (hK : KCol κ hs o) (hC : Col M o l) : XC G mX0_longest 1 0 0 [xR o] κ M hs (pP κ M hs (xI (fLong  0 (enc l)))) := by
  refine XC.intro cdX0_longest (by decide) (by decide) (Nat.le_of_ble_eq_true rfl) (loc := [some (xR o), none, none]) rfl (fun X hX => ?_)
  have hl := hC.len
  have loop : ∀ (n k : Nat) (acc : Int), k ≤ (enc l).length → (enc l).length < k + n → 0 ≤ acc ∧ acc ≤ 999 → fLong  acc ((enc l).drop k) = fLong  0 (enc l) → XW G X mX0_longest (xq G (pP κ M hs (xI (fLong  0 (enc l)))) 0 0 X) 0 0 4 [some (xR o), some (xI acc), some (xI (k : Int))] [] κ M hs := by
    intro n
    induction n with
    | zero => intro k acc h1 h2; omega
    | succ n ih =>
      intro k acc h1 h2 h3 hF
      refine x_iload_n (pc := 4) hX rfl rfl dX0_longest_4 ?_
      refine x_aload_n (pc := 5) hX rfl rfl dX0_longest_5 ?_
      refine x_getI (pc := 6) hX fl_X0_18 hK.1 rfl hl.1 dX0_longest_6 ?_
      refine x_icmp_ge (pc := 9) (tgt := 29) hX dX0_longest_9 (by decide) (by omega) (fun h9 => ?_) (fun h9 => ?_)
      · refine x_iload_n (pc := 29) hX rfl rfl dX0_longest_29 ?_
        refine x_iret (pc := 30) hX rfl (Nat.zero_le _) (Nat.zero_le _) dX0_longest_30 ?_
        exact pP_i (congrArg xI (by rw [← hF, ru_end _ (by omega)]; rfl))
      · have hk2 : k < (enc l).length := by omega
        have hm := hC.mem hk2
        refine x_iload_n (pc := 12) hX rfl rfl dX0_longest_12 ?_
        refine x_aload_n (pc := 13) hX rfl rfl dX0_longest_13 ?_
        refine x_getR (pc := 14) hX fl_X0_15 hK.1 rfl dX0_longest_14 ?_
        refine x_iload_n (pc := 17) hX rfl rfl dX0_longest_17 ?_
        refine x_iald (pc := 18) (j := k) hX hK.2.2 (by omega) (by omega) (by decide) hm.2.1 dX0_longest_18 ?_
        refine x_max (pc := 19) hX lk_X0_36.1 (by omega) rfl (by decide) (Nat.zero_le _) (Nat.zero_le _) (Nat.le_of_ble_eq_true rfl) dX0_longest_19 ?_
        refine x_istore_n (pc := 22) hX rfl (by decide) rfl rfl dX0_longest_22 ?_
        refine x_iinc (pc := 23) (v := ((k + 1 : Nat) : Int)) hX dX0_longest_23 rfl (by decide) rfl (by omega) rfl ?_
        refine x_goto (pc := 26) (tgt := 4) hX dX0_longest_26 (by decide) ?_
        first
        | exact ih (k + 1) _ (by omega) (by omega) (by split <;> omega) (by rw [← hF, ru_drop hk2, fLong])
  refine x_iconst (pc := 0) hX dX0_longest_0 ?_
  refine x_istore_n (pc := 1) hX rfl (by decide) rfl rfl dX0_longest_1 ?_
  refine x_iconst (pc := 2) hX dX0_longest_2 ?_
  refine x_istore_n (pc := 3) hX rfl (by decide) rfl rfl dX0_longest_3 ?_
  exact loop ((enc l).length + 1) 0 0 (by omega) (by omega) (by omega) rfl

set_option maxHeartbeats 4000000 in
set_option maxRecDepth 100000 in
theorem tX0_longestOf {G : XG} {κ : XKs} {M : XM} {hs o : Nat} {l : List Nat} (hK : KCol κ hs o) (hC : Col M o l) (v : Int) (hv : InR v) : XC G mX0_longestOf 1 0 0 [xR o, xI v] κ M hs (pP κ M hs (xI (fLongOf v 0 (enc l)))) := by
  refine XC.intro cdX0_longestOf (by decide) (by decide) (Nat.le_of_ble_eq_true rfl) (loc := [some (xR o), some (xI v), none, none]) rfl (fun X hX => ?_)
  unfold InR at hv
  have hl := hC.len
  have loop : ∀ (n k : Nat) (acc : Int), k ≤ (enc l).length → (enc l).length < k + n → 0 ≤ acc ∧ acc ≤ 999 → fLongOf v acc ((enc l).drop k) = fLongOf v 0 (enc l) → XW G X mX0_longestOf (xq G (pP κ M hs (xI (fLongOf v 0 (enc l)))) 0 0 X) 0 0 4 [some (xR o), some (xI v), some (xI acc), some (xI (k : Int))] [] κ M hs := by
    intro n
    induction n with
    | zero => intro k acc h1 h2; omega
    | succ n ih =>
      intro k acc h1 h2 h3 hF
      refine x_iload_n (pc := 4) hX rfl rfl dX0_longestOf_4 ?_
      refine x_aload_n (pc := 5) hX rfl rfl dX0_longestOf_5 ?_
      refine x_getI (pc := 6) hX fl_X0_18 hK.1 rfl hl.1 dX0_longestOf_6 ?_
      refine x_icmp_ge (pc := 9) (tgt := 39) hX dX0_longestOf_9 (by decide) (by omega) (fun h9 => ?_) (fun h9 => ?_)
      · refine x_iload_n (pc := 39) hX rfl rfl dX0_longestOf_39 ?_
        refine x_iret (pc := 40) hX rfl (Nat.zero_le _) (Nat.zero_le _) dX0_longestOf_40 ?_
        exact pP_i (congrArg xI (by rw [← hF, ru_end _ (by omega)]; rfl))
      · have hk2 : k < (enc l).length := by omega
        have hm := hC.mem hk2
        refine x_aload_n (pc := 12) hX rfl rfl dX0_longestOf_12 ?_
        refine x_getR (pc := 13) hX fl_X0_9 hK.1 rfl dX0_longestOf_13 ?_
        refine x_iload_n (pc := 16) hX rfl rfl dX0_longestOf_16 ?_
        refine x_iald (pc := 17) (j := k) hX hK.2.1 (by omega) (by omega) (by decide) hm.1 dX0_longestOf_17 ?_
        refine x_iload_n (pc := 18) hX rfl rfl dX0_longestOf_18 ?_
        refine x_icmp_ne (pc := 19) (tgt := 33) hX dX0_longestOf_19 (by decide) (by omega) (fun h19 => ?_) (fun h19 => ?_)
        · refine x_iinc (pc := 33) (v := ((k + 1 : Nat) : Int)) hX dX0_longestOf_33 rfl (by decide) rfl (by omega) rfl ?_
          refine x_goto (pc := 36) (tgt := 4) hX dX0_longestOf_36 (by decide) ?_
          first
          | exact ih (k + 1) _ (by omega) (by omega) (by split <;> omega) (by rw [← hF, ru_drop hk2, fLongOf, if_pos (show ((rv (enc l) k : Nat) : Int) = v by omega)])
          | exact ih (k + 1) _ (by omega) (by omega) h3 (by rw [← hF, ru_drop hk2, fLongOf, if_neg (show ¬ ((rv (enc l) k : Nat) : Int) = v by omega)])
        · refine x_iload_n (pc := 22) hX rfl rfl dX0_longestOf_22 ?_
          refine x_aload_n (pc := 23) hX rfl rfl dX0_longestOf_23 ?_
          refine x_getR (pc := 24) hX fl_X0_15 hK.1 rfl dX0_longestOf_24 ?_
          refine x_iload_n (pc := 27) hX rfl rfl dX0_longestOf_27 ?_
          refine x_iald (pc := 28) (j := k) hX hK.2.2 (by omega) (by omega) (by decide) hm.2.1 dX0_longestOf_28 ?_
          refine x_max (pc := 29) hX lk_X0_36.1 (by omega) rfl (by decide) (Nat.zero_le _) (Nat.zero_le _) (Nat.le_of_ble_eq_true rfl) dX0_longestOf_29 ?_
          refine x_istore_n (pc := 32) hX rfl (by decide) rfl rfl dX0_longestOf_32 ?_
          refine x_iinc (pc := 33) (v := ((k + 1 : Nat) : Int)) hX dX0_longestOf_33 rfl (by decide) rfl (by omega) rfl ?_
          refine x_goto (pc := 36) (tgt := 4) hX dX0_longestOf_36 (by decide) ?_
          first
          | exact ih (k + 1) _ (by omega) (by omega) (by split <;> omega) (by rw [← hF, ru_drop hk2, fLongOf, if_pos (show ((rv (enc l) k : Nat) : Int) = v by omega)])
          | exact ih (k + 1) _ (by omega) (by omega) h3 (by rw [← hF, ru_drop hk2, fLongOf, if_neg (show ¬ ((rv (enc l) k : Nat) : Int) = v by omega)])
  refine x_iconst (pc := 0) hX dX0_longestOf_0 ?_
  refine x_istore_n (pc := 1) hX rfl (by decide) rfl rfl dX0_longestOf_1 ?_
  refine x_iconst (pc := 2) hX dX0_longestOf_2 ?_
  refine x_istore_n (pc := 3) hX rfl (by decide) rfl rfl dX0_longestOf_3 ?_
  exact loop ((enc l).length + 1) 0 0 (by omega) (by omega) (by omega) rfl

set_option maxHeartbeats 4000000 in
set_option maxRecDepth 100000 in
theorem tX0_neverFalls {G : XG} {κ : XKs} {M : XM} {hs o : Nat} {l : List Nat} (hK : KCol κ hs o) (hC : Col M o l) : XC G mX0_neverFalls 0 0 0 [xR o] κ M hs (pP κ M hs (xI (if nFall (enc l) = true then 1 else 0))) := by
  refine XC.intro cdX0_neverFalls (by decide) (by decide) (Nat.le_of_ble_eq_true rfl) (loc := [some (xR o), none]) rfl (fun X hX => ?_)
  have hl := hC.len
  have loop : ∀ (n k : Nat), k ≤ (enc l).length + 1 → (enc l).length + 1 < k + n → 1 ≤ k → nFall ((enc l).drop (k - 1)) = nFall (enc l) → XW G X mX0_neverFalls (xq G (pP κ M hs (xI (if nFall (enc l) = true then 1 else 0))) 0 0 X) 0 0 2 [some (xR o), some (xI (k : Int))] [] κ M hs := by
    intro n
    induction n with
    | zero => intro k  h1 h2; omega
    | succ n ih =>
      intro k  h1 h2 h3 hF
      refine x_iload_n (pc := 2) hX rfl rfl dX0_neverFalls_2 ?_
      refine x_aload_n (pc := 3) hX rfl rfl dX0_neverFalls_3 ?_
      refine x_getI (pc := 4) hX fl_X0_18 hK.1 rfl hl.1 dX0_neverFalls_4 ?_
      refine x_icmp_ge (pc := 7) (tgt := 35) hX dX0_neverFalls_7 (by decide) (by omega) (fun h7 => ?_) (fun h7 => ?_)
      · refine x_iconst (pc := 35) hX dX0_neverFalls_35 ?_
        refine x_zret (pc := 36) hX rfl (xn_bool (by omega)) (Nat.zero_le _) (Nat.zero_le _) dX0_neverFalls_36 ?_
        refine pP_i (congrArg xI ?_)
        rw [if_pos]
        rw [← hF]
        have e8 : ((enc l).drop (k - 1)).length ≤ 1 := by rw [List.length_drop]; omega
        match (enc l).drop (k - 1), e8 with
        | [], _ => rfl
        | [_], _ => rfl
      · have hk2 : k < (enc l).length := by omega
        have hm := hC.mem hk2
        have hk3 : k - 1 < (enc l).length := by omega
        have hm3 := hC.mem hk3
        have e9 := ru_drop hk3
        rw [show k - 1 + 1 = k by omega, ru_drop hk2] at e9
        refine x_aload_n (pc := 10) hX rfl rfl dX0_neverFalls_10 ?_
        refine x_getR (pc := 11) hX fl_X0_9 hK.1 rfl dX0_neverFalls_11 ?_
        refine x_iload_n (pc := 14) hX rfl rfl dX0_neverFalls_14 ?_
        refine x_iald (pc := 15) (j := k) hX hK.2.1 (by omega) (by omega) (by decide) hm.1 dX0_neverFalls_15 ?_
        refine x_aload_n (pc := 16) hX rfl rfl dX0_neverFalls_16 ?_
        refine x_getR (pc := 17) hX fl_X0_9 hK.1 rfl dX0_neverFalls_17 ?_
        refine x_iload_n (pc := 20) hX rfl rfl dX0_neverFalls_20 ?_
        refine x_iconst (pc := 21) hX dX0_neverFalls_21 ?_
        refine x_isub (pc := 22) (v := ((k - 1 : Nat) : Int)) hX dX0_neverFalls_22 (by omega) ?_
        refine x_iald (pc := 23) (j := k - 1) hX hK.2.1 (by omega) (by omega) (by decide) hm3.1 dX0_neverFalls_23 ?_
        refine x_icmp_ge (pc := 24) (tgt := 29) hX dX0_neverFalls_24 (by decide) (by omega) (fun h24 => ?_) (fun h24 => ?_)
        · refine x_iinc (pc := 29) (v := ((k + 1 : Nat) : Int)) hX dX0_neverFalls_29 rfl (by decide) rfl (by omega) rfl ?_
          refine x_goto (pc := 32) (tgt := 2) hX dX0_neverFalls_32 (by decide) ?_
          exact ih (k + 1) (by omega) (by omega) (by omega) (by rw [← hF, e9, nFall, if_neg (by show ¬ _ < _; omega), Nat.add_sub_cancel, ru_drop hk2])
        · refine x_iconst (pc := 27) hX dX0_neverFalls_27 ?_
          refine x_zret (pc := 28) hX rfl (xn_bool (by omega)) (Nat.zero_le _) (Nat.zero_le _) dX0_neverFalls_28 ?_
          have e7 : nFall (enc l) = false := by
            rw [← hF, e9, nFall]
            exact if_pos (show rv (enc l) k < rv (enc l) (k - 1) by omega)
          exact pP_i (congrArg xI (by rw [e7]; rfl))
  refine x_iconst (pc := 0) hX dX0_neverFalls_0 ?_
  refine x_istore_n (pc := 1) hX rfl (by decide) rfl rfl dX0_neverFalls_1 ?_
  exact loop ((enc l).length + 1) 1 (by omega) (by omega) (by omega) rfl

set_option maxHeartbeats 4000000 in
set_option maxRecDepth 100000 in
theorem tX0_neverRises {G : XG} {κ : XKs} {M : XM} {hs o : Nat} {l : List Nat} (hK : KCol κ hs o) (hC : Col M o l) : XC G mX0_neverRises 0 0 0 [xR o] κ M hs (pP κ M hs (xI (if nRise (enc l) = true then 1 else 0))) := by
  refine XC.intro cdX0_neverRises (by decide) (by decide) (Nat.le_of_ble_eq_true rfl) (loc := [some (xR o), none]) rfl (fun X hX => ?_)
  have hl := hC.len
  have loop : ∀ (n k : Nat), k ≤ (enc l).length + 1 → (enc l).length + 1 < k + n → 1 ≤ k → nRise ((enc l).drop (k - 1)) = nRise (enc l) → XW G X mX0_neverRises (xq G (pP κ M hs (xI (if nRise (enc l) = true then 1 else 0))) 0 0 X) 0 0 2 [some (xR o), some (xI (k : Int))] [] κ M hs := by
    intro n
    induction n with
    | zero => intro k  h1 h2; omega
    | succ n ih =>
      intro k  h1 h2 h3 hF
      refine x_iload_n (pc := 2) hX rfl rfl dX0_neverRises_2 ?_
      refine x_aload_n (pc := 3) hX rfl rfl dX0_neverRises_3 ?_
      refine x_getI (pc := 4) hX fl_X0_18 hK.1 rfl hl.1 dX0_neverRises_4 ?_
      refine x_icmp_ge (pc := 7) (tgt := 35) hX dX0_neverRises_7 (by decide) (by omega) (fun h7 => ?_) (fun h7 => ?_)
      · refine x_iconst (pc := 35) hX dX0_neverRises_35 ?_
        refine x_zret (pc := 36) hX rfl (xn_bool (by omega)) (Nat.zero_le _) (Nat.zero_le _) dX0_neverRises_36 ?_
        refine pP_i (congrArg xI ?_)
        rw [if_pos]
        rw [← hF]
        have e8 : ((enc l).drop (k - 1)).length ≤ 1 := by rw [List.length_drop]; omega
        match (enc l).drop (k - 1), e8 with
        | [], _ => rfl
        | [_], _ => rfl
      · have hk2 : k < (enc l).length := by omega
        have hm := hC.mem hk2
        have hk3 : k - 1 < (enc l).length := by omega
        have hm3 := hC.mem hk3
        have e9 := ru_drop hk3
        rw [show k - 1 + 1 = k by omega, ru_drop hk2] at e9
        refine x_aload_n (pc := 10) hX rfl rfl dX0_neverRises_10 ?_
        refine x_getR (pc := 11) hX fl_X0_9 hK.1 rfl dX0_neverRises_11 ?_
        refine x_iload_n (pc := 14) hX rfl rfl dX0_neverRises_14 ?_
        refine x_iald (pc := 15) (j := k) hX hK.2.1 (by omega) (by omega) (by decide) hm.1 dX0_neverRises_15 ?_
        refine x_aload_n (pc := 16) hX rfl rfl dX0_neverRises_16 ?_
        refine x_getR (pc := 17) hX fl_X0_9 hK.1 rfl dX0_neverRises_17 ?_
        refine x_iload_n (pc := 20) hX rfl rfl dX0_neverRises_20 ?_
        refine x_iconst (pc := 21) hX dX0_neverRises_21 ?_
        refine x_isub (pc := 22) (v := ((k - 1 : Nat) : Int)) hX dX0_neverRises_22 (by omega) ?_
        refine x_iald (pc := 23) (j := k - 1) hX hK.2.1 (by omega) (by omega) (by decide) hm3.1 dX0_neverRises_23 ?_
        refine x_icmp_le (pc := 24) (tgt := 29) hX dX0_neverRises_24 (by decide) (by omega) (fun h24 => ?_) (fun h24 => ?_)
        · refine x_iinc (pc := 29) (v := ((k + 1 : Nat) : Int)) hX dX0_neverRises_29 rfl (by decide) rfl (by omega) rfl ?_
          refine x_goto (pc := 32) (tgt := 2) hX dX0_neverRises_32 (by decide) ?_
          exact ih (k + 1) (by omega) (by omega) (by omega) (by rw [← hF, e9, nRise, if_neg (by show ¬ _ < _; omega), Nat.add_sub_cancel, ru_drop hk2])
        · refine x_iconst (pc := 27) hX dX0_neverRises_27 ?_
          refine x_zret (pc := 28) hX rfl (xn_bool (by omega)) (Nat.zero_le _) (Nat.zero_le _) dX0_neverRises_28 ?_
          have e7 : nRise (enc l) = false := by
            rw [← hF, e9, nRise]
            exact if_pos (show rv (enc l) (k - 1) < rv (enc l) k by omega)
          exact pP_i (congrArg xI (by rw [e7]; rfl))
  refine x_iconst (pc := 0) hX dX0_neverRises_0 ?_
  refine x_istore_n (pc := 1) hX rfl (by decide) rfl rfl dX0_neverRises_1 ?_
  exact loop ((enc l).length + 1) 1 (by omega) (by omega) (by omega) rfl
end
section
/-! what a run behind runs changes; reads of written cells -/
theorem mp_eq (M : XM) (a j : Nat) (v : Int) : mput M a j v a j = v := by rw [mput_self, up1_self]
theorem mp_ne (M : XM) {a j i : Nat} (v : Int) (h : i ≠ j) : mput M a j v a i = M a i := by rw [mput_self, up1_ne _ _ h]
theorem mp_at (M : XM) (a j q i : Nat) (v : Int) : mput M a j v q i = if q = a ∧ i = j then v else M q i := by
  by_cases h : q = a
  · subst h
    by_cases h2 : i = j
    · subst h2
      rw [mp_eq, if_pos ⟨rfl, rfl⟩]
    · rw [mp_ne _ _ h2, if_neg (fun z => h2 z.2)]
  · rw [mput_ne _ _ _ h, if_neg (fun z => h z.1)]
theorem rv_s (a : Nat × Nat) (t : Ru) (i : Nat) : rv (a :: t) (i + 1) = rv t i := rfl
theorem rn_s (a : Nat × Nat) (t : Ru) (i : Nat) : rn (a :: t) (i + 1) = rn t i := rfl
theorem rv_app {L : Ru} {i : Nat} (x : Ru) (h : i < L.length) : rv (L ++ x) i = rv L i := by
  simp only [rv, List.getD_eq_getElem?_getD, List.getElem?_append_left h]
theorem rn_app {L : Ru} {i : Nat} (x : Ru) (h : i < L.length) : rn (L ++ x) i = rn L i := by
  simp only [rn, List.getD_eq_getElem?_getD, List.getElem?_append_left h]
theorem rv_last (L : Ru) (v n : Nat) : rv (L ++ [(v, n)]) L.length = v := by
  simp [rv]
theorem rn_last (L : Ru) (v n : Nat) : rn (L ++ [(v, n)]) L.length = n := by
  simp [rn]
theorem addr_ne : ∀ (L : Ru) (v n : Nat), (L = [] ∨ rv L (L.length - 1) ≠ v) → addr L v n = L ++ [(v, n)]
  | [], v, n, _ => rfl
  | [(w, m)], v, n, h => by
    rcases h with h | h
    · cases h
    · have h2 : ¬ w = v := h
      rw [addr_one, if_neg h2]
      rfl
  | a :: b :: t, v, n, h => by
    rw [addr, addr_ne (b :: t) v n (Or.inr ?_)]
    · rfl
    · rcases h with h | h
      · cases h
      · exact h
theorem addr_eq : ∀ (L : Ru) (v n : Nat), L ≠ [] → rv L (L.length - 1) = v → (addr L v n).length = L.length ∧ (∀ i, i < L.length → rv (addr L v n) i = rv L i) ∧ (∀ i, i + 1 < L.length → rn (addr L v n) i = rn L i) ∧ rn (addr L v n) (L.length - 1) = rn L (L.length - 1) + n
  | [], v, n, h, _ => absurd rfl h
  | [(w, m)], v, n, _, h => by
    have h2 : w = v := h
    rw [addr_one, if_pos h2]
    refine ⟨rfl, fun i hi => ?_, fun i hi => ?_, rfl⟩
    · have : i = 0 := by simp at hi; exact hi
      subst this
      rfl
    · simp at hi
  | a :: b :: t, v, n, _, h => by
    obtain ⟨h1, h2, h3, h4⟩ := addr_eq (b :: t) v n (fun z => by cases z) h
    rw [addr]
    refine ⟨by rw [List.length_cons, h1]; rfl, fun i hi => ?_, fun i hi => ?_, ?_⟩
    · cases i with
      | zero => rfl
      | succ i => exact h2 i (by simp at hi ⊢; omega)
    · cases i with
      | zero => rfl
      | succ i => exact h3 i (by simp at hi ⊢; omega)
    · exact h4
theorem Col.dra {M : XM} {o : Nat} {l : List Nat} (h : Col M o l) : Dra M o l := ⟨h.2.2.2, fun _ => ⟨h.1, h.2.1⟩, fun hf => absurd h.2.2.1 hf⟩
theorem Dra.col {M : XM} {o : Nat} {l : List Nat} (h : Dra M o l) (hf : fit l) : Col M o l := ⟨(h.2.1 hf).1, (h.2.1 hf).2, hf, h.1⟩
theorem Dra.zero {M : XM} {o : Nat} {l : List Nat} (h : Dra M o l) (hz : M o 4 = 0) : fit l := by
  by_cases hf : fit l
  · exact hf
  · have := h.2.2 hf
    omega
theorem Dra.one {M : XM} {o : Nat} {l : List Nat} (h : Dra M o l) (hz : M o 4 ≠ 0) : ¬ fit l := fun hf => hz (h.2.1 hf).2
theorem Dra.bit {M : XM} {o : Nat} {l : List Nat} (h : Dra M o l) : M o 4 = 0 ∨ M o 4 = 1 := by
  by_cases hf : fit l
  · exact Or.inl (h.2.1 hf).2
  · exact Or.inr (h.2.2 hf)
theorem Dra.over {M M' : XM} {o : Nat} {l x : List Nat} (h : Dra M o l) (hx : ∀ v ∈ x, v ≤ 9) (hf : ¬ fit (l ++ x)) (h1 : M' o 4 = 1) : Dra M' o (l ++ x) := ⟨fun v hv => (List.mem_append.mp hv).elim (h.1 v) (hx v), fun z => absurd z hf, fun _ => h1⟩
/-- the last run grows -/
theorem Dra.grow {M : XM} {o v n : Nat} {l : List Nat} (h : Dra M o l) (hf : fit l) (hv : v ≤ 9) (hn : 1 ≤ n) (hl : l.length + n ≤ 999) (h0 : 0 < (enc l).length) (he : rv (enc l) ((enc l).length - 1) = v) :
    Dra (mput (mput M (o + 2) ((enc l).length - 1) (M (o + 2) ((enc l).length - 1) + n)) o 3 (M o 3 + n)) o (l ++ List.replicate n v) := by
  obtain ⟨⟨r1, r2, r3⟩, r4⟩ := h.2.1 hf
  have hne : enc l ≠ [] := fun z => by rw [z] at h0; exact Nat.lt_irrefl 0 h0
  obtain ⟨a1, a2, a3, a4⟩ := addr_eq (enc l) v n hne he
  have e1 := enc_addr l v hn
  have hx : ∀ w ∈ List.replicate n v, w ≤ 9 := fun w hw => by rw [(List.mem_replicate.mp hw).2]; exact hv
  refine ⟨fun w hw => (List.mem_append.mp hw).elim (h.1 w) (hx w), fun _ => ⟨⟨?_, ?_, fun i hi => ?_⟩, ?_⟩, fun z => absurd ⟨by simp; omega, by rw [e1, a1]; exact hf.2⟩ z⟩
  · rw [mp_ne _ _ (by decide), mput_ne _ _ _ (by omega), r1, e1, a1]
  · rw [mp_eq, r2, tot_enc, tot_enc]
    simp
  · rw [mput_ne _ _ _ (by omega), mput_ne _ _ _ (by omega), mput_ne _ _ _ (by omega)]
    rw [e1, a1] at hi
    rw [e1, a2 i hi]
    refine ⟨(r3 i hi).1, ?_⟩
    by_cases hi2 : i = (enc l).length - 1
    · subst hi2
      rw [mp_eq, a4, (r3 _ hi).2]
      simp
    · rw [mp_ne _ _ hi2, a3 i (by omega)]
      exact (r3 i hi).2
  · rw [mp_ne _ _ (by decide), mput_ne _ _ _ (by omega)]
    exact r4
/-- a run comes behind -/
theorem Dra.more {M : XM} {o v n : Nat} {l : List Nat} (h : Dra M o l) (hf : fit l) (hv : v ≤ 9) (hn : 1 ≤ n) (hl : l.length + n ≤ 999) (h0 : (enc l).length < 40) (he : enc l = [] ∨ rv (enc l) ((enc l).length - 1) ≠ v) :
    Dra (mput (mput (mput (mput M (o + 1) (enc l).length v) (o + 2) (enc l).length n) o 2 ((enc l).length + 1)) o 3 (M o 3 + n)) o (l ++ List.replicate n v) := by
  obtain ⟨⟨r1, r2, r3⟩, r4⟩ := h.2.1 hf
  have e1 := enc_addr l v hn
  rw [addr_ne _ _ _ he] at e1
  have hx : ∀ w ∈ List.replicate n v, w ≤ 9 := fun w hw => by rw [(List.mem_replicate.mp hw).2]; exact hv
  refine ⟨fun w hw => (List.mem_append.mp hw).elim (h.1 w) (hx w), fun _ => ⟨⟨?_, ?_, fun i hi => ?_⟩, ?_⟩, fun z => absurd ⟨by simp; omega, by rw [e1]; simp; omega⟩ z⟩
  · rw [mp_ne _ _ (by decide), mp_eq, e1]
    simp
  · rw [mp_eq, r2, tot_enc, tot_enc]
    simp
  · rw [e1, List.length_append] at hi
    have hi3 : i < (enc l).length + 1 := hi
    rw [e1]
    by_cases hi2 : i = (enc l).length
    · subst hi2
      rw [rv_last, rn_last]
      refine ⟨?_, ?_⟩
      · simp [mp_at]
      · simp [mp_at]
    · rw [rv_app _ (by omega), rn_app _ (by omega)]
      have r5 := r3 i (by omega)
      refine ⟨?_, ?_⟩
      · simp [mp_at, hi2, r5.1]
      · simp [mp_at, hi2, r5.2]
  · rw [mp_ne _ _ (by decide), mp_ne _ _ (by decide), mput_ne _ _ _ (by omega), mput_ne _ _ _ (by omega)]
    exact r4
theorem more_over {v n : Nat} {l : List Nat} (hn : 1 ≤ n) (h0 : (enc l).length = 40) (he : enc l = [] ∨ rv (enc l) ((enc l).length - 1) ≠ v) : ¬ fit (l ++ List.replicate n v) := by
  intro h
  have e1 := enc_addr l v hn
  rw [addr_ne _ _ _ he] at e1
  have h2 := h.2
  rw [e1, List.length_append, h0] at h2
  exact absurd (show 40 + 1 ≤ 40 from h2) (by decide)
/-- a column copied -/
def Copy (q o : Nat) (M M' : XM) : Prop := (M' o 2 = M q 2 ∧ M' o 3 = M q 3 ∧ M' o 4 = M q 4) ∧ (∀ i, i < 40 → M' (o + 1) i = M (q + 1) i ∧ M' (o + 2) i = M (q + 2) i) ∧ Same o (o + 3) M M'
theorem Copy.col {q o : Nat} {M M' : XM} {l : List Nat} (h : Copy q o M M') (hC : Col M q l) : Col M' o l := by
  have hl := hC.len
  refine ⟨⟨by rw [h.1.1]; exact hC.1.1, by rw [h.1.2.1]; exact hC.1.2.1, fun i hi => ?_⟩, by rw [h.1.2.2]; exact hC.2.1, hC.2.2⟩
  rw [(h.2.1 i (by omega)).1, (h.2.1 i (by omega)).2]
  exact hC.1.2.2 i hi
theorem rvO_rng {M : XM} {o : Nat} {l : List Nat} (h : Col M o l) (a : Int) : -6 ≤ rvO (enc l) a ∧ rvO (enc l) a ≤ 9 := by
  unfold rvO
  split
  · have := h.mem (k := a.toNat) (by omega)
    omega
  · omega
theorem asets_rng {M : XM} {o : Nat} {l : List Nat} (h : Col M o l) (r : Nat) (v : Int) : -2 ≤ asets (enc l) r v ∧ asets (enc l) r v ≤ 42 := by
  have := h.len
  unfold asets
  repeat' split
  all_goals omega
theorem best1_pos {L : Ru} {v : Int} {r b : Nat} {f : Int} (h : asets L r v < f) : best1 L v r (b, f) = (r, asets L r v) := if_pos h
theorem best1_neg {L : Ru} {v : Int} {r b : Nat} {f : Int} (h : ¬ asets L r v < f) : best1 L v r (b, f) = (b, f) := if_neg h
end
section
theorem ms_at (M : XM) (a q : Nat) (f : Nat → Int) : mset M a f q = if q = a then f else M q := rfl
/-! Column: what would be, and its writes -/
set_option maxHeartbeats 4000000 in
set_option maxRecDepth 100000 in
theorem tX0_runsAfterSet {G : XG} {κ : XKs} {M : XM} {hs o : Nat} {l : List Nat} (hK : KCol κ hs o) (hC : Col M o l) (r : Nat) (hr : r < l.length) (v : Int) (hv : InR v) : XC G mX0_runsAfterSet 1 0 0 [xR o, xI (r : Int), xI v] κ M hs (pP κ M hs (xI (asets (enc l) r v))) := by
  refine XC.intro cdX0_runsAfterSet (by decide) (by decide) (Nat.le_of_ble_eq_true rfl) (loc := [some (xR o), some (xI (r : Int)), some (xI v), none, none, none, none, none]) rfl (fun X hX => ?_)
  unfold InR at hv
  have hl := hC.len
  have hq := rof_spec (enc l) r (by rw [tot_enc]; exact hr)
  have hq2 := tot_take_le (enc l) (rof (enc l) r)
  rw [tot_enc] at hq2
  have hq3 : rnO (enc l) (rof (enc l) r) = (rn (enc l) (rof (enc l) r) : Int) := by unfold rnO; rw [if_pos (by omega)]; rfl
  have hq4 := rvO_rng hC (rof (enc l) r)
  have hq5 := rvO_rng hC ((rof (enc l) r : Int) - 1)
  have hq6 := rvO_rng hC ((rof (enc l) r : Int) + 1)
  have hq7 := hC.mem hq.1
  refine x_aload_n (pc := 0) hX rfl rfl dX0_runsAfterSet_0 ?_
  refine x_iload_n (pc := 1) hX rfl rfl dX0_runsAfterSet_1 ?_
  refine x_cV_P (pc := 2) hX (tX0_runOfRow hK hC r hr) hK.1 rfl lk_X0_29 rfl rfl (Nat.le_of_ble_eq_true rfl) (by decide) (Nat.zero_le _) (Nat.zero_le _) dX0_runsAfterSet_2 ?_
  refine x_istore_n (pc := 5) hX rfl (by decide) rfl rfl dX0_runsAfterSet_5 ?_
  refine x_aload_n (pc := 6) hX rfl rfl dX0_runsAfterSet_6 ?_
  refine x_iload_n (pc := 7) hX rfl rfl dX0_runsAfterSet_7 ?_
  refine x_cV_P (pc := 8) hX (tX0_valueOfRun hK hC _ (by unfold InR; omega)) hK.1 rfl lk_X0_33 rfl rfl (Nat.le_of_ble_eq_true rfl) (by decide) (Nat.zero_le _) (Nat.zero_le _) dX0_runsAfterSet_8 ?_
  refine x_iload_n (pc := 11) hX rfl rfl dX0_runsAfterSet_11 ?_
  refine x_icmp_ne (pc := 12) (tgt := 20) hX dX0_runsAfterSet_12 (by decide) (by omega) (fun h12 => ?_) (fun h12 => ?_)
  · refine x_aload_n (pc := 20) hX rfl rfl dX0_runsAfterSet_20 ?_
    refine x_iload_n (pc := 21) hX rfl rfl dX0_runsAfterSet_21 ?_
    refine x_cV_P (pc := 22) hX (tX0_firstRowOfRun hK hC _ (by omega)) hK.1 rfl lk_X0_42 rfl rfl (Nat.le_of_ble_eq_true rfl) (by decide) (Nat.zero_le _) (Nat.zero_le _) dX0_runsAfterSet_22 ?_
    refine x_istore (pc := 25) hX (by decide) rfl rfl dX0_runsAfterSet_25 ?_
    refine x_iload_n (pc := 27) hX rfl rfl dX0_runsAfterSet_27 ?_
    refine x_iload (pc := 28) hX rfl dX0_runsAfterSet_28 ?_
    refine x_icmp_ne (pc := 30) (tgt := 37) hX dX0_runsAfterSet_30 (by decide) (by omega) (fun h30 => ?_) (fun h30 => ?_)
    · refine x_iconst (pc := 37) hX dX0_runsAfterSet_37 ?_
      refine x_istore (pc := 38) hX (by decide) rfl rfl dX0_runsAfterSet_38 ?_
      refine x_iload_n (pc := 40) hX rfl rfl dX0_runsAfterSet_40 ?_
      refine x_iload (pc := 41) hX rfl dX0_runsAfterSet_41 ?_
      refine x_aload_n (pc := 43) hX rfl rfl dX0_runsAfterSet_43 ?_
      refine x_iload_n (pc := 44) hX rfl rfl dX0_runsAfterSet_44 ?_
      refine x_cV_P (pc := 45) hX (tX0_lengthOfRun hK hC _ (by unfold InR; omega)) hK.1 rfl lk_X0_45 rfl rfl (Nat.le_of_ble_eq_true rfl) (by decide) (Nat.zero_le _) (Nat.zero_le _) dX0_runsAfterSet_45 ?_
      refine x_iadd (pc := 48) (v := ((tot ((enc l).take (rof (enc l) r)) + rn (enc l) (rof (enc l) r) : Nat) : Int)) hX dX0_runsAfterSet_48 (by rw [hq3]; omega) ?_
      refine x_iconst (pc := 49) hX dX0_runsAfterSet_49 ?_
      refine x_isub (pc := 50) hX dX0_runsAfterSet_50 rfl ?_
      refine x_icmp_ne (pc := 51) (tgt := 58) hX dX0_runsAfterSet_51 (by decide) (by omega) (fun h51 => ?_) (fun h51 => ?_)
      · refine x_iconst (pc := 58) hX dX0_runsAfterSet_58 ?_
        refine x_istore (pc := 59) hX (by decide) rfl rfl dX0_runsAfterSet_59 ?_
        refine x_aload_n (pc := 61) hX rfl rfl dX0_runsAfterSet_61 ?_
        refine x_getI (pc := 62) hX fl_X0_18 hK.1 rfl hl.1 dX0_runsAfterSet_62 ?_
        refine x_istore (pc := 65) hX (by decide) rfl rfl dX0_runsAfterSet_65 ?_
        refine x_iload (pc := 67) hX rfl dX0_runsAfterSet_67 ?_
        refine x_if_ne (pc := 69) (tgt := 78) hX dX0_runsAfterSet_69 (by decide) (by omega) (fun h69 => ?_) (fun h69 => ?_)
        · exfalso; omega
        · refine x_iinc (pc := 72) hX dX0_runsAfterSet_72 rfl (by decide) rfl rfl rfl ?_
          refine x_goto (pc := 75) (tgt := 92) hX dX0_runsAfterSet_75 (by decide) ?_
          refine x_iload (pc := 92) hX rfl dX0_runsAfterSet_92 ?_
          refine x_if_ne (pc := 94) (tgt := 103) hX dX0_runsAfterSet_94 (by decide) (by omega) (fun h94 => ?_) (fun h94 => ?_)
          · exfalso; omega
          · refine x_iinc (pc := 97) hX dX0_runsAfterSet_97 rfl (by decide) rfl rfl rfl ?_
            refine x_goto (pc := 100) (tgt := 117) hX dX0_runsAfterSet_100 (by decide) ?_
            refine x_iload (pc := 117) hX rfl dX0_runsAfterSet_117 ?_
            refine x_iret (pc := 119) hX rfl (Nat.zero_le _) (Nat.zero_le _) dX0_runsAfterSet_119 ?_
            exact pP_i (congrArg xI (by unfold asets; repeat' split; all_goals omega))
      · refine x_iconst (pc := 54) hX dX0_runsAfterSet_54 ?_
        refine x_goto (pc := 55) (tgt := 59) hX dX0_runsAfterSet_55 (by decide) ?_
        refine x_istore (pc := 59) hX (by decide) rfl rfl dX0_runsAfterSet_59 ?_
        refine x_aload_n (pc := 61) hX rfl rfl dX0_runsAfterSet_61 ?_
        refine x_getI (pc := 62) hX fl_X0_18 hK.1 rfl hl.1 dX0_runsAfterSet_62 ?_
        refine x_istore (pc := 65) hX (by decide) rfl rfl dX0_runsAfterSet_65 ?_
        refine x_iload (pc := 67) hX rfl dX0_runsAfterSet_67 ?_
        refine x_if_ne (pc := 69) (tgt := 78) hX dX0_runsAfterSet_69 (by decide) (by omega) (fun h69 => ?_) (fun h69 => ?_)
        · exfalso; omega
        · refine x_iinc (pc := 72) hX dX0_runsAfterSet_72 rfl (by decide) rfl rfl rfl ?_
          refine x_goto (pc := 75) (tgt := 92) hX dX0_runsAfterSet_75 (by decide) ?_
          refine x_iload (pc := 92) hX rfl dX0_runsAfterSet_92 ?_
          refine x_if_ne (pc := 94) (tgt := 103) hX dX0_runsAfterSet_94 (by decide) (by omega) (fun h94 => ?_) (fun h94 => ?_)
          · refine x_aload_n (pc := 103) hX rfl rfl dX0_runsAfterSet_103 ?_
            refine x_iload_n (pc := 104) hX rfl rfl dX0_runsAfterSet_104 ?_
            refine x_iconst (pc := 105) hX dX0_runsAfterSet_105 ?_
            refine x_iadd (pc := 106) hX dX0_runsAfterSet_106 rfl ?_
            refine x_cV_P (pc := 107) hX (tX0_valueOfRun hK hC _ (by unfold InR; omega)) hK.1 rfl lk_X0_33 rfl rfl (Nat.le_of_ble_eq_true rfl) (by decide) (Nat.zero_le _) (Nat.zero_le _) dX0_runsAfterSet_107 ?_
            refine x_iload_n (pc := 110) hX rfl rfl dX0_runsAfterSet_110 ?_
            refine x_icmp_ne (pc := 111) (tgt := 117) hX dX0_runsAfterSet_111 (by decide) (by omega) (fun h111 => ?_) (fun h111 => ?_)
            · refine x_iload (pc := 117) hX rfl dX0_runsAfterSet_117 ?_
              refine x_iret (pc := 119) hX rfl (Nat.zero_le _) (Nat.zero_le _) dX0_runsAfterSet_119 ?_
              exact pP_i (congrArg xI (by unfold asets; repeat' split; all_goals omega))
            · refine x_iinc (pc := 114) hX dX0_runsAfterSet_114 rfl (by decide) rfl rfl rfl ?_
              refine x_iload (pc := 117) hX rfl dX0_runsAfterSet_117 ?_
              refine x_iret (pc := 119) hX rfl (Nat.zero_le _) (Nat.zero_le _) dX0_runsAfterSet_119 ?_
              exact pP_i (congrArg xI (by unfold asets; repeat' split; all_goals omega))
          · exfalso; omega
    · refine x_iconst (pc := 33) hX dX0_runsAfterSet_33 ?_
      refine x_goto (pc := 34) (tgt := 38) hX dX0_runsAfterSet_34 (by decide) ?_
      refine x_istore (pc := 38) hX (by decide) rfl rfl dX0_runsAfterSet_38 ?_
      refine x_iload_n (pc := 40) hX rfl rfl dX0_runsAfterSet_40 ?_
      refine x_iload (pc := 41) hX rfl dX0_runsAfterSet_41 ?_
      refine x_aload_n (pc := 43) hX rfl rfl dX0_runsAfterSet_43 ?_
      refine x_iload_n (pc := 44) hX rfl rfl dX0_runsAfterSet_44 ?_
      refine x_cV_P (pc := 45) hX (tX0_lengthOfRun hK hC _ (by unfold InR; omega)) hK.1 rfl lk_X0_45 rfl rfl (Nat.le_of_ble_eq_true rfl) (by decide) (Nat.zero_le _) (Nat.zero_le _) dX0_runsAfterSet_45 ?_
      refine x_iadd (pc := 48) (v := ((tot ((enc l).take (rof (enc l) r)) + rn (enc l) (rof (enc l) r) : Nat) : Int)) hX dX0_runsAfterSet_48 (by rw [hq3]; omega) ?_
      refine x_iconst (pc := 49) hX dX0_runsAfterSet_49 ?_
      refine x_isub (pc := 50) hX dX0_runsAfterSet_50 rfl ?_
      refine x_icmp_ne (pc := 51) (tgt := 58) hX dX0_runsAfterSet_51 (by decide) (by omega) (fun h51 => ?_) (fun h51 => ?_)
      · refine x_iconst (pc := 58) hX dX0_runsAfterSet_58 ?_
        refine x_istore (pc := 59) hX (by decide) rfl rfl dX0_runsAfterSet_59 ?_
        refine x_aload_n (pc := 61) hX rfl rfl dX0_runsAfterSet_61 ?_
        refine x_getI (pc := 62) hX fl_X0_18 hK.1 rfl hl.1 dX0_runsAfterSet_62 ?_
        refine x_istore (pc := 65) hX (by decide) rfl rfl dX0_runsAfterSet_65 ?_
        refine x_iload (pc := 67) hX rfl dX0_runsAfterSet_67 ?_
        refine x_if_ne (pc := 69) (tgt := 78) hX dX0_runsAfterSet_69 (by decide) (by omega) (fun h69 => ?_) (fun h69 => ?_)
        · refine x_aload_n (pc := 78) hX rfl rfl dX0_runsAfterSet_78 ?_
          refine x_iload_n (pc := 79) hX rfl rfl dX0_runsAfterSet_79 ?_
          refine x_iconst (pc := 80) hX dX0_runsAfterSet_80 ?_
          refine x_isub (pc := 81) hX dX0_runsAfterSet_81 rfl ?_
          refine x_cV_P (pc := 82) hX (tX0_valueOfRun hK hC _ (by unfold InR; omega)) hK.1 rfl lk_X0_33 rfl rfl (Nat.le_of_ble_eq_true rfl) (by decide) (Nat.zero_le _) (Nat.zero_le _) dX0_runsAfterSet_82 ?_
          refine x_iload_n (pc := 85) hX rfl rfl dX0_runsAfterSet_85 ?_
          refine x_icmp_ne (pc := 86) (tgt := 92) hX dX0_runsAfterSet_86 (by decide) (by omega) (fun h86 => ?_) (fun h86 => ?_)
          · refine x_iload (pc := 92) hX rfl dX0_runsAfterSet_92 ?_
            refine x_if_ne (pc := 94) (tgt := 103) hX dX0_runsAfterSet_94 (by decide) (by omega) (fun h94 => ?_) (fun h94 => ?_)
            · exfalso; omega
            · refine x_iinc (pc := 97) hX dX0_runsAfterSet_97 rfl (by decide) rfl rfl rfl ?_
              refine x_goto (pc := 100) (tgt := 117) hX dX0_runsAfterSet_100 (by decide) ?_
              refine x_iload (pc := 117) hX rfl dX0_runsAfterSet_117 ?_
              refine x_iret (pc := 119) hX rfl (Nat.zero_le _) (Nat.zero_le _) dX0_runsAfterSet_119 ?_
              exact pP_i (congrArg xI (by unfold asets; repeat' split; all_goals omega))
          · refine x_iinc (pc := 89) hX dX0_runsAfterSet_89 rfl (by decide) rfl rfl rfl ?_
            refine x_iload (pc := 92) hX rfl dX0_runsAfterSet_92 ?_
            refine x_if_ne (pc := 94) (tgt := 103) hX dX0_runsAfterSet_94 (by decide) (by omega) (fun h94 => ?_) (fun h94 => ?_)
            · exfalso; omega
            · refine x_iinc (pc := 97) hX dX0_runsAfterSet_97 rfl (by decide) rfl rfl rfl ?_
              refine x_goto (pc := 100) (tgt := 117) hX dX0_runsAfterSet_100 (by decide) ?_
              refine x_iload (pc := 117) hX rfl dX0_runsAfterSet_117 ?_
              refine x_iret (pc := 119) hX rfl (Nat.zero_le _) (Nat.zero_le _) dX0_runsAfterSet_119 ?_
              exact pP_i (congrArg xI (by unfold asets; repeat' split; all_goals omega))
        · exfalso; omega
      · refine x_iconst (pc := 54) hX dX0_runsAfterSet_54 ?_
        refine x_goto (pc := 55) (tgt := 59) hX dX0_runsAfterSet_55 (by decide) ?_
        refine x_istore (pc := 59) hX (by decide) rfl rfl dX0_runsAfterSet_59 ?_
        refine x_aload_n (pc := 61) hX rfl rfl dX0_runsAfterSet_61 ?_
        refine x_getI (pc := 62) hX fl_X0_18 hK.1 rfl hl.1 dX0_runsAfterSet_62 ?_
        refine x_istore (pc := 65) hX (by decide) rfl rfl dX0_runsAfterSet_65 ?_
        refine x_iload (pc := 67) hX rfl dX0_runsAfterSet_67 ?_
        refine x_if_ne (pc := 69) (tgt := 78) hX dX0_runsAfterSet_69 (by decide) (by omega) (fun h69 => ?_) (fun h69 => ?_)
        · refine x_aload_n (pc := 78) hX rfl rfl dX0_runsAfterSet_78 ?_
          refine x_iload_n (pc := 79) hX rfl rfl dX0_runsAfterSet_79 ?_
          refine x_iconst (pc := 80) hX dX0_runsAfterSet_80 ?_
          refine x_isub (pc := 81) hX dX0_runsAfterSet_81 rfl ?_
          refine x_cV_P (pc := 82) hX (tX0_valueOfRun hK hC _ (by unfold InR; omega)) hK.1 rfl lk_X0_33 rfl rfl (Nat.le_of_ble_eq_true rfl) (by decide) (Nat.zero_le _) (Nat.zero_le _) dX0_runsAfterSet_82 ?_
          refine x_iload_n (pc := 85) hX rfl rfl dX0_runsAfterSet_85 ?_
          refine x_icmp_ne (pc := 86) (tgt := 92) hX dX0_runsAfterSet_86 (by decide) (by omega) (fun h86 => ?_) (fun h86 => ?_)
          · refine x_iload (pc := 92) hX rfl dX0_runsAfterSet_92 ?_
            refine x_if_ne (pc := 94) (tgt := 103) hX dX0_runsAfterSet_94 (by decide) (by omega) (fun h94 => ?_) (fun h94 => ?_)
            · refine x_aload_n (pc := 103) hX rfl rfl dX0_runsAfterSet_103 ?_
              refine x_iload_n (pc := 104) hX rfl rfl dX0_runsAfterSet_104 ?_
              refine x_iconst (pc := 105) hX dX0_runsAfterSet_105 ?_
              refine x_iadd (pc := 106) hX dX0_runsAfterSet_106 rfl ?_
              refine x_cV_P (pc := 107) hX (tX0_valueOfRun hK hC _ (by unfold InR; omega)) hK.1 rfl lk_X0_33 rfl rfl (Nat.le_of_ble_eq_true rfl) (by decide) (Nat.zero_le _) (Nat.zero_le _) dX0_runsAfterSet_107 ?_
              refine x_iload_n (pc := 110) hX rfl rfl dX0_runsAfterSet_110 ?_
              refine x_icmp_ne (pc := 111) (tgt := 117) hX dX0_runsAfterSet_111 (by decide) (by omega) (fun h111 => ?_) (fun h111 => ?_)
              · refine x_iload (pc := 117) hX rfl dX0_runsAfterSet_117 ?_
                refine x_iret (pc := 119) hX rfl (Nat.zero_le _) (Nat.zero_le _) dX0_runsAfterSet_119 ?_
                exact pP_i (congrArg xI (by unfold asets; repeat' split; all_goals omega))
              · refine x_iinc (pc := 114) hX dX0_runsAfterSet_114 rfl (by decide) rfl rfl rfl ?_
                refine x_iload (pc := 117) hX rfl dX0_runsAfterSet_117 ?_
                refine x_iret (pc := 119) hX rfl (Nat.zero_le _) (Nat.zero_le _) dX0_runsAfterSet_119 ?_
                exact pP_i (congrArg xI (by unfold asets; repeat' split; all_goals omega))
            · exfalso; omega
          · refine x_iinc (pc := 89) hX dX0_runsAfterSet_89 rfl (by decide) rfl rfl rfl ?_
            refine x_iload (pc := 92) hX rfl dX0_runsAfterSet_92 ?_
            refine x_if_ne (pc := 94) (tgt := 103) hX dX0_runsAfterSet_94 (by decide) (by omega) (fun h94 => ?_) (fun h94 => ?_)
            · refine x_aload_n (pc := 103) hX rfl rfl dX0_runsAfterSet_103 ?_
              refine x_iload_n (pc := 104) hX rfl rfl dX0_runsAfterSet_104 ?_
              refine x_iconst (pc := 105) hX dX0_runsAfterSet_105 ?_
              refine x_iadd (pc := 106) hX dX0_runsAfterSet_106 rfl ?_
              refine x_cV_P (pc := 107) hX (tX0_valueOfRun hK hC _ (by unfold InR; omega)) hK.1 rfl lk_X0_33 rfl rfl (Nat.le_of_ble_eq_true rfl) (by decide) (Nat.zero_le _) (Nat.zero_le _) dX0_runsAfterSet_107 ?_
              refine x_iload_n (pc := 110) hX rfl rfl dX0_runsAfterSet_110 ?_
              refine x_icmp_ne (pc := 111) (tgt := 117) hX dX0_runsAfterSet_111 (by decide) (by omega) (fun h111 => ?_) (fun h111 => ?_)
              · refine x_iload (pc := 117) hX rfl dX0_runsAfterSet_117 ?_
                refine x_iret (pc := 119) hX rfl (Nat.zero_le _) (Nat.zero_le _) dX0_runsAfterSet_119 ?_
                exact pP_i (congrArg xI (by unfold asets; repeat' split; all_goals omega))
              · refine x_iinc (pc := 114) hX dX0_runsAfterSet_114 rfl (by decide) rfl rfl rfl ?_
                refine x_iload (pc := 117) hX rfl dX0_runsAfterSet_117 ?_
                refine x_iret (pc := 119) hX rfl (Nat.zero_le _) (Nat.zero_le _) dX0_runsAfterSet_119 ?_
                exact pP_i (congrArg xI (by unfold asets; repeat' split; all_goals omega))
            · exfalso; omega
        · exfalso; omega
  · refine x_aload_n (pc := 15) hX rfl rfl dX0_runsAfterSet_15 ?_
    refine x_getI (pc := 16) hX fl_X0_18 hK.1 rfl hl.1 dX0_runsAfterSet_16 ?_
    refine x_iret (pc := 19) hX rfl (Nat.zero_le _) (Nat.zero_le _) dX0_runsAfterSet_19 ?_
    exact pP_i (congrArg xI (by unfold asets; repeat' split; all_goals omega))

set_option maxHeartbeats 4000000 in
set_option maxRecDepth 100000 in
theorem tX0_bestRowToSet {G : XG} {κ : XKs} {M : XM} {hs o : Nat} {l : List Nat} (hK : KCol κ hs o) (hC : Col M o l) (h0 : 0 < l.length) (v : Int) (hv : InR v) : XC G mX0_bestRowToSet 2 0 0 [xR o, xI v] κ M hs (pP κ M hs (xI ((fBest (enc l) v 0 (0, asets (enc l) 0 v) (enc l)).1 : Int))) := by
  refine XC.intro cdX0_bestRowToSet (by decide) (by decide) (Nat.le_of_ble_eq_true rfl) (loc := [some (xR o), some (xI v), none, none, none, none, none]) rfl (fun X hX => ?_)
  have hv2 := hv
  unfold InR at hv2
  have hl := hC.len
  have loop : ∀ (n k : Nat) (best : Nat) (few : Int) (z : Option XV), k ≤ (enc l).length → (enc l).length < k + n → -2 ≤ few ∧ few ≤ 42 → best < l.length → fBest (enc l) v (tot ((enc l).take k)) (best, few) ((enc l).drop k) = fBest (enc l) v 0 (0, asets (enc l) 0 v) (enc l) → XW G X mX0_bestRowToSet (xq G (pP κ M hs (xI ((fBest (enc l) v 0 (0, asets (enc l) 0 v) (enc l)).1 : Int))) 0 0 X) 0 0 15 [some (xR o), some (xI v), some (xI (best : Int)), some (xI few), some (xI (tot ((enc l).take k) : Int)), some (xI (k : Int)), z] [] κ M hs := by
    intro n
    induction n with
    | zero => intro k best few z h1 h2; omega
    | succ n ih =>
      intro k best few z h1 h2 h3 h4 hF
      refine x_iload (pc := 15) hX rfl dX0_bestRowToSet_15 ?_
      refine x_aload_n (pc := 17) hX rfl rfl dX0_bestRowToSet_17 ?_
      refine x_getI (pc := 18) hX fl_X0_18 hK.1 rfl hl.1 dX0_bestRowToSet_18 ?_
      refine x_icmp_ge (pc := 21) (tgt := 94) hX dX0_bestRowToSet_21 (by decide) (by omega) (fun h21 => ?_) (fun h21 => ?_)
      · refine x_iload_n (pc := 94) hX rfl rfl dX0_bestRowToSet_94 ?_
        refine x_iret (pc := 95) hX rfl (Nat.zero_le _) (Nat.zero_le _) dX0_bestRowToSet_95 ?_
        exact pP_i (congrArg xI (by rw [← hF, ru_end _ (by omega)]; rfl))
      · have hk2 : k < (enc l).length := by omega
        have hm := hC.mem hk2
        have ht := tot_take_succ hk2
        have ht2 := tot_take_le (enc l) (k + 1)
        rw [tot_enc] at ht2
        have ha1 := asets_rng hC (tot ((enc l).take k)) v
        have ha2 := asets_rng hC (tot ((enc l).take k) + rn (enc l) k - 1) v
        refine x_iload (pc := 24) hX rfl dX0_bestRowToSet_24 ?_
        refine x_aload_n (pc := 26) hX rfl rfl dX0_bestRowToSet_26 ?_
        refine x_getR (pc := 27) hX fl_X0_15 hK.1 rfl dX0_bestRowToSet_27 ?_
        refine x_iload (pc := 30) hX rfl dX0_bestRowToSet_30 ?_
        refine x_iald (pc := 32) (j := k) hX hK.2.2 (by omega) (by omega) (by decide) hm.2.1 dX0_bestRowToSet_32 ?_
        refine x_iadd (pc := 33) hX dX0_bestRowToSet_33 rfl ?_
        refine x_iconst (pc := 34) hX dX0_bestRowToSet_34 ?_
        refine x_isub (pc := 35) (v := ((tot ((enc l).take k) + rn (enc l) k - 1 : Nat) : Int)) hX dX0_bestRowToSet_35 (by omega) ?_
        refine x_istore (pc := 36) hX (by decide) rfl rfl dX0_bestRowToSet_36 ?_
        refine x_aload_n (pc := 38) hX rfl rfl dX0_bestRowToSet_38 ?_
        refine x_iload (pc := 39) hX rfl dX0_bestRowToSet_39 ?_
        refine x_iload_n (pc := 41) hX rfl rfl dX0_bestRowToSet_41 ?_
        refine x_cV_P (pc := 42) hX (tX0_runsAfterSet hK hC _ (by omega) v hv) hK.1 rfl lk_X0_48 rfl rfl (Nat.le_of_ble_eq_true rfl) (by decide) (Nat.zero_le _) (Nat.zero_le _) dX0_bestRowToSet_42 ?_
        refine x_iload_n (pc := 45) hX rfl rfl dX0_bestRowToSet_45 ?_
        refine x_icmp_ge (pc := 46) (tgt := 60) hX dX0_bestRowToSet_46 (by decide) (by omega) (fun h46 => ?_) (fun h46 => ?_)
        · refine x_aload_n (pc := 60) hX rfl rfl dX0_bestRowToSet_60 ?_
          refine x_iload (pc := 61) hX rfl dX0_bestRowToSet_61 ?_
          refine x_iload_n (pc := 63) hX rfl rfl dX0_bestRowToSet_63 ?_
          refine x_cV_P (pc := 64) hX (tX0_runsAfterSet hK hC _ (by omega) v hv) hK.1 rfl lk_X0_48 rfl rfl (Nat.le_of_ble_eq_true rfl) (by decide) (Nat.zero_le _) (Nat.zero_le _) dX0_bestRowToSet_64 ?_
          refine x_iload_n (pc := 67) hX rfl rfl dX0_bestRowToSet_67 ?_
          refine x_icmp_ge (pc := 68) (tgt := 82) hX dX0_bestRowToSet_68 (by decide) (by omega) (fun h68 => ?_) (fun h68 => ?_)
          · refine x_iload (pc := 82) hX rfl dX0_bestRowToSet_82 ?_
            refine x_iconst (pc := 84) hX dX0_bestRowToSet_84 ?_
            refine x_iadd (pc := 85) (v := (tot ((enc l).take (k + 1)) : Int)) hX dX0_bestRowToSet_85 (by rw [ht]; omega) ?_
            refine x_istore (pc := 86) hX (by decide) rfl rfl dX0_bestRowToSet_86 ?_
            refine x_iinc (pc := 88) (v := ((k + 1 : Nat) : Int)) hX dX0_bestRowToSet_88 rfl (by decide) rfl (by omega) rfl ?_
            refine x_goto (pc := 91) (tgt := 15) hX dX0_bestRowToSet_91 (by decide) ?_
            refine ih (k + 1) _ _ _ (by omega) (by omega) (by omega) (by omega) ?_
            rw [← hF, ru_drop hk2, fBest, ht]
            first
            | rw [best1_pos (b := best) (f := few) (by omega), best1_pos (by omega)]
            | rw [best1_pos (b := best) (f := few) (by omega), best1_neg (by omega)]
            | rw [best1_neg (b := best) (f := few) (by omega), best1_pos (by omega)]
            | rw [best1_neg (b := best) (f := few) (by omega), best1_neg (by omega)]
          · refine x_iload (pc := 71) hX rfl dX0_bestRowToSet_71 ?_
            refine x_istore_n (pc := 73) hX rfl (by decide) rfl rfl dX0_bestRowToSet_73 ?_
            refine x_aload_n (pc := 74) hX rfl rfl dX0_bestRowToSet_74 ?_
            refine x_iload (pc := 75) hX rfl dX0_bestRowToSet_75 ?_
            refine x_iload_n (pc := 77) hX rfl rfl dX0_bestRowToSet_77 ?_
            refine x_cV_P (pc := 78) hX (tX0_runsAfterSet hK hC _ (by omega) v hv) hK.1 rfl lk_X0_48 rfl rfl (Nat.le_of_ble_eq_true rfl) (by decide) (Nat.zero_le _) (Nat.zero_le _) dX0_bestRowToSet_78 ?_
            refine x_istore_n (pc := 81) hX rfl (by decide) rfl rfl dX0_bestRowToSet_81 ?_
            refine x_iload (pc := 82) hX rfl dX0_bestRowToSet_82 ?_
            refine x_iconst (pc := 84) hX dX0_bestRowToSet_84 ?_
            refine x_iadd (pc := 85) (v := (tot ((enc l).take (k + 1)) : Int)) hX dX0_bestRowToSet_85 (by rw [ht]; omega) ?_
            refine x_istore (pc := 86) hX (by decide) rfl rfl dX0_bestRowToSet_86 ?_
            refine x_iinc (pc := 88) (v := ((k + 1 : Nat) : Int)) hX dX0_bestRowToSet_88 rfl (by decide) rfl (by omega) rfl ?_
            refine x_goto (pc := 91) (tgt := 15) hX dX0_bestRowToSet_91 (by decide) ?_
            refine ih (k + 1) _ _ _ (by omega) (by omega) (by omega) (by omega) ?_
            rw [← hF, ru_drop hk2, fBest, ht]
            first
            | rw [best1_pos (b := best) (f := few) (by omega), best1_pos (by omega)]
            | rw [best1_pos (b := best) (f := few) (by omega), best1_neg (by omega)]
            | rw [best1_neg (b := best) (f := few) (by omega), best1_pos (by omega)]
            | rw [best1_neg (b := best) (f := few) (by omega), best1_neg (by omega)]
        · refine x_iload (pc := 49) hX rfl dX0_bestRowToSet_49 ?_
          refine x_istore_n (pc := 51) hX rfl (by decide) rfl rfl dX0_bestRowToSet_51 ?_
          refine x_aload_n (pc := 52) hX rfl rfl dX0_bestRowToSet_52 ?_
          refine x_iload (pc := 53) hX rfl dX0_bestRowToSet_53 ?_
          refine x_iload_n (pc := 55) hX rfl rfl dX0_bestRowToSet_55 ?_
          refine x_cV_P (pc := 56) hX (tX0_runsAfterSet hK hC _ (by omega) v hv) hK.1 rfl lk_X0_48 rfl rfl (Nat.le_of_ble_eq_true rfl) (by decide) (Nat.zero_le _) (Nat.zero_le _) dX0_bestRowToSet_56 ?_
          refine x_istore_n (pc := 59) hX rfl (by decide) rfl rfl dX0_bestRowToSet_59 ?_
          refine x_aload_n (pc := 60) hX rfl rfl dX0_bestRowToSet_60 ?_
          refine x_iload (pc := 61) hX rfl dX0_bestRowToSet_61 ?_
          refine x_iload_n (pc := 63) hX rfl rfl dX0_bestRowToSet_63 ?_
          refine x_cV_P (pc := 64) hX (tX0_runsAfterSet hK hC _ (by omega) v hv) hK.1 rfl lk_X0_48 rfl rfl (Nat.le_of_ble_eq_true rfl) (by decide) (Nat.zero_le _) (Nat.zero_le _) dX0_bestRowToSet_64 ?_
          refine x_iload_n (pc := 67) hX rfl rfl dX0_bestRowToSet_67 ?_
          refine x_icmp_ge (pc := 68) (tgt := 82) hX dX0_bestRowToSet_68 (by decide) (by omega) (fun h68 => ?_) (fun h68 => ?_)
          · refine x_iload (pc := 82) hX rfl dX0_bestRowToSet_82 ?_
            refine x_iconst (pc := 84) hX dX0_bestRowToSet_84 ?_
            refine x_iadd (pc := 85) (v := (tot ((enc l).take (k + 1)) : Int)) hX dX0_bestRowToSet_85 (by rw [ht]; omega) ?_
            refine x_istore (pc := 86) hX (by decide) rfl rfl dX0_bestRowToSet_86 ?_
            refine x_iinc (pc := 88) (v := ((k + 1 : Nat) : Int)) hX dX0_bestRowToSet_88 rfl (by decide) rfl (by omega) rfl ?_
            refine x_goto (pc := 91) (tgt := 15) hX dX0_bestRowToSet_91 (by decide) ?_
            refine ih (k + 1) _ _ _ (by omega) (by omega) (by omega) (by omega) ?_
            rw [← hF, ru_drop hk2, fBest, ht]
            first
            | rw [best1_pos (b := best) (f := few) (by omega), best1_pos (by omega)]
            | rw [best1_pos (b := best) (f := few) (by omega), best1_neg (by omega)]
            | rw [best1_neg (b := best) (f := few) (by omega), best1_pos (by omega)]
            | rw [best1_neg (b := best) (f := few) (by omega), best1_neg (by omega)]
          · refine x_iload (pc := 71) hX rfl dX0_bestRowToSet_71 ?_
            refine x_istore_n (pc := 73) hX rfl (by decide) rfl rfl dX0_bestRowToSet_73 ?_
            refine x_aload_n (pc := 74) hX rfl rfl dX0_bestRowToSet_74 ?_
            refine x_iload (pc := 75) hX rfl dX0_bestRowToSet_75 ?_
            refine x_iload_n (pc := 77) hX rfl rfl dX0_bestRowToSet_77 ?_
            refine x_cV_P (pc := 78) hX (tX0_runsAfterSet hK hC _ (by omega) v hv) hK.1 rfl lk_X0_48 rfl rfl (Nat.le_of_ble_eq_true rfl) (by decide) (Nat.zero_le _) (Nat.zero_le _) dX0_bestRowToSet_78 ?_
            refine x_istore_n (pc := 81) hX rfl (by decide) rfl rfl dX0_bestRowToSet_81 ?_
            refine x_iload (pc := 82) hX rfl dX0_bestRowToSet_82 ?_
            refine x_iconst (pc := 84) hX dX0_bestRowToSet_84 ?_
            refine x_iadd (pc := 85) (v := (tot ((enc l).take (k + 1)) : Int)) hX dX0_bestRowToSet_85 (by rw [ht]; omega) ?_
            refine x_istore (pc := 86) hX (by decide) rfl rfl dX0_bestRowToSet_86 ?_
            refine x_iinc (pc := 88) (v := ((k + 1 : Nat) : Int)) hX dX0_bestRowToSet_88 rfl (by decide) rfl (by omega) rfl ?_
            refine x_goto (pc := 91) (tgt := 15) hX dX0_bestRowToSet_91 (by decide) ?_
            refine ih (k + 1) _ _ _ (by omega) (by omega) (by omega) (by omega) ?_
            rw [← hF, ru_drop hk2, fBest, ht]
            first
            | rw [best1_pos (b := best) (f := few) (by omega), best1_pos (by omega)]
            | rw [best1_pos (b := best) (f := few) (by omega), best1_neg (by omega)]
            | rw [best1_neg (b := best) (f := few) (by omega), best1_pos (by omega)]
            | rw [best1_neg (b := best) (f := few) (by omega), best1_neg (by omega)]
  refine x_iconst (pc := 0) hX dX0_bestRowToSet_0 ?_
  refine x_istore_n (pc := 1) hX rfl (by decide) rfl rfl dX0_bestRowToSet_1 ?_
  refine x_aload_n (pc := 2) hX rfl rfl dX0_bestRowToSet_2 ?_
  refine x_iconst (pc := 3) hX dX0_bestRowToSet_3 ?_
  refine x_iload_n (pc := 4) hX rfl rfl dX0_bestRowToSet_4 ?_
  refine x_cV_P (pc := 5) hX (tX0_runsAfterSet hK hC 0 h0 v hv) hK.1 rfl lk_X0_48 rfl rfl (Nat.le_of_ble_eq_true rfl) (by decide) (Nat.zero_le _) (Nat.zero_le _) dX0_bestRowToSet_5 ?_
  refine x_istore_n (pc := 8) hX rfl (by decide) rfl rfl dX0_bestRowToSet_8 ?_
  refine x_iconst (pc := 9) hX dX0_bestRowToSet_9 ?_
  refine x_istore (pc := 10) hX (by decide) rfl rfl dX0_bestRowToSet_10 ?_
  refine x_iconst (pc := 12) hX dX0_bestRowToSet_12 ?_
  refine x_istore (pc := 13) hX (by decide) rfl rfl dX0_bestRowToSet_13 ?_
  exact loop ((enc l).length + 1) 0 0 _ none (by omega) (by omega) (asets_rng hC 0 v) h0 rfl

set_option maxHeartbeats 4000000 in
set_option maxRecDepth 100000 in
theorem tX0_clear {G : XG} {κ : XKs} {M : XM} {hs o : Nat} (hK : KCol κ hs o) : XC G mX0_clear 0 0 0 [xR o] κ M hs (pV κ hs (fun M' => Dra M' o [] ∧ Same o (o + 3) M M')) := by
  refine XC.intro cdX0_clear (by decide) (by decide) (Nat.le_of_ble_eq_true rfl) (loc := [some (xR o)]) rfl (fun X hX => ?_)
  refine x_aload_n (pc := 0) hX rfl rfl dX0_clear_0 ?_
  refine x_iconst (pc := 1) hX dX0_clear_1 ?_
  refine x_putI (pc := 2) hX fl_X0_18 hK.1 rfl rfl rfl dX0_clear_2 ?_
  refine x_aload_n (pc := 5) hX rfl rfl dX0_clear_5 ?_
  refine x_iconst (pc := 6) hX dX0_clear_6 ?_
  refine x_putI (pc := 7) hX fl_X0_22 hK.1 rfl rfl rfl dX0_clear_7 ?_
  refine x_aload_n (pc := 10) hX rfl rfl dX0_clear_10 ?_
  refine x_iconst (pc := 11) hX dX0_clear_11 ?_
  refine x_putI (pc := 12) hX fl_X0_25 hK.1 rfl (xn_bool (Or.inl rfl)) (xf_bool (Or.inl rfl)) dX0_clear_12 ?_
  refine x_vret (pc := 15) hX rfl (Nat.zero_le _) (Nat.zero_le _) dX0_clear_15 ?_
  refine pV_i ⟨⟨fun v hv => (by cases hv), fun _ => ⟨⟨?_, ?_, fun i hi => (by cases hi)⟩, ?_⟩, fun hf => absurd ⟨Nat.zero_le _, Nat.zero_le _⟩ hf⟩, ?_⟩
  · simp [mp_at, enc]
  · simp [mp_at, enc, tot]
  · simp [mp_at]
  · exact ((Same.put (by omega) (by omega)).tr (Same.put (by omega) (by omega))).tr (Same.put (by omega) (by omega))

set_option maxHeartbeats 4000000 in
set_option maxRecDepth 100000 in
theorem tX0_copyFrom {G : XG} {κ : XKs} {M : XM} {hs o q : Nat} (hK : KCol κ hs o) (hK2 : KCol κ hs q) (hd : q + 3 ≤ o ∨ o + 3 ≤ q) (hz : M q 4 = 0 ∨ M q 4 = 1) : XC G mX0_copyFrom 1 0 0 [xR o, xR q] κ M hs (pV κ hs (fun M' => Copy q o M M')) := by
  refine XC.intro cdX0_copyFrom (by decide) (by decide) (Nat.le_of_ble_eq_true rfl) (loc := [some (xR o), some (xR q)]) rfl (fun X hX => ?_)
  have hne : ¬ q = o := by omega
  have hne1 : ¬ q = o + 1 := by omega
  have hne2 : ¬ q = o + 2 := by omega
  have hne3 : ¬ q + 2 = o + 1 := by omega
  refine x_aload_n (pc := 0) hX rfl rfl dX0_copyFrom_0 ?_
  refine x_getR (pc := 1) hX fl_X0_9 hK2.1 rfl dX0_copyFrom_1 ?_
  refine x_iconst (pc := 4) hX dX0_copyFrom_4 ?_
  refine x_aload_n (pc := 5) hX rfl rfl dX0_copyFrom_5 ?_
  refine x_getR (pc := 6) hX fl_X0_9 hK.1 rfl dX0_copyFrom_6 ?_
  refine x_iconst (pc := 9) hX dX0_copyFrom_9 ?_
  refine x_bipush (pc := 10) hX (by decide) dX0_copyFrom_10 ?_
  refine x_copy (pc := 12) (L := 40) hX tw_236 hK2.2.1 hK.2.1 rfl rfl rfl (by decide) (by decide) (by decide) (Nat.le_refl 1) (Nat.le_of_ble_eq_true rfl) dX0_copyFrom_12 ?_
  refine x_aload_n (pc := 15) hX rfl rfl dX0_copyFrom_15 ?_
  refine x_getR (pc := 16) hX fl_X0_15 hK2.1 rfl dX0_copyFrom_16 ?_
  refine x_iconst (pc := 19) hX dX0_copyFrom_19 ?_
  refine x_aload_n (pc := 20) hX rfl rfl dX0_copyFrom_20 ?_
  refine x_getR (pc := 21) hX fl_X0_15 hK.1 rfl dX0_copyFrom_21 ?_
  refine x_iconst (pc := 24) hX dX0_copyFrom_24 ?_
  refine x_bipush (pc := 25) hX (by decide) dX0_copyFrom_25 ?_
  refine x_copy (pc := 27) (L := 40) hX tw_236 hK2.2.2 hK.2.2 rfl rfl rfl (by decide) (by decide) (by decide) (Nat.le_refl 1) (Nat.le_of_ble_eq_true rfl) dX0_copyFrom_27 ?_
  refine x_aload_n (pc := 30) hX rfl rfl dX0_copyFrom_30 ?_
  refine x_aload_n (pc := 31) hX rfl rfl dX0_copyFrom_31 ?_
  refine x_getI (pc := 32) hX fl_X0_18 hK2.1 rfl rfl dX0_copyFrom_32 ?_
  refine x_putI (pc := 35) hX fl_X0_18 hK.1 rfl rfl rfl dX0_copyFrom_35 ?_
  refine x_aload_n (pc := 38) hX rfl rfl dX0_copyFrom_38 ?_
  refine x_aload_n (pc := 39) hX rfl rfl dX0_copyFrom_39 ?_
  refine x_getI (pc := 40) hX fl_X0_22 hK2.1 rfl rfl dX0_copyFrom_40 ?_
  refine x_putI (pc := 43) hX fl_X0_22 hK.1 rfl rfl rfl dX0_copyFrom_43 ?_
  refine x_aload_n (pc := 46) hX rfl rfl dX0_copyFrom_46 ?_
  refine x_aload_n (pc := 47) hX rfl rfl dX0_copyFrom_47 ?_
  refine x_getI (pc := 48) hX fl_X0_25 hK2.1 rfl rfl dX0_copyFrom_48 ?_
  refine x_putI (pc := 51) hX fl_X0_25 hK.1 rfl (xn_bool (by simp [mp_at, ms_at, hne, hne1, hne2]; exact hz)) (xf_bool (by simp [mp_at, ms_at, hne, hne1, hne2]; exact hz)) dX0_copyFrom_51 ?_
  refine x_vret (pc := 54) hX rfl (Nat.zero_le _) (Nat.zero_le _) dX0_copyFrom_54 ?_
  refine pV_i ⟨⟨?_, ?_, ?_⟩, fun i hi => ⟨?_, ?_⟩, ?_⟩
  · simp [mp_at, ms_at, hne, hne1, hne2]
  · simp [mp_at, ms_at, hne, hne1, hne2]
  · simp [mp_at, ms_at, hne, hne1, hne2]
  · simp [mp_at, ms_at, cpy0, hi]
  · simp [mp_at, ms_at, cpy0, hi, hne3]
  · exact ((((Same.set (by omega) (by omega)).tr (Same.set (by omega) (by omega))).tr (Same.put (by omega) (by omega))).tr (Same.put (by omega) (by omega))).tr (Same.put (by omega) (by omega))

set_option maxHeartbeats 4000000 in
set_option maxRecDepth 100000 in
theorem tX0_addRun {G : XG} {κ : XKs} {M : XM} {hs o : Nat} {l : List Nat} (hK : KCol κ hs o) (hD : Dra M o l) (v : Nat) (hv : v ≤ 9) (n : Int) (hn : InR n) : XC G mX0_addRun 0 0 0 [xR o, xI (v : Int), xI n] κ M hs (pV κ hs (fun M' => Dra M' o (l ++ List.replicate n.toNat v) ∧ Same o (o + 3) M M')) := by
  refine XC.intro cdX0_addRun (by decide) (by decide) (Nat.le_of_ble_eq_true rfl) (loc := [some (xR o), some (xI (v : Int)), some (xI n)]) rfl (fun X hX => ?_)
  unfold InR at hn
  have hb := hD.bit
  refine x_iload_n (pc := 0) hX rfl rfl dX0_addRun_0 ?_
  refine x_iconst (pc := 1) hX dX0_addRun_1 ?_
  refine x_icmp_lt (pc := 2) (tgt := 12) hX dX0_addRun_2 (by decide) (by omega) (fun h2 => ?_) (fun h2 => ?_)
  · refine x_vret (pc := 12) hX rfl (Nat.zero_le _) (Nat.zero_le _) dX0_addRun_12 ?_
    refine pV_i ⟨?_, Same.rf⟩
    rw [show n.toNat = 0 by omega, List.replicate_zero, List.append_nil]
    exact hD
  · refine x_aload_n (pc := 5) hX rfl rfl dX0_addRun_5 ?_
    refine x_getI (pc := 6) hX fl_X0_25 hK.1 rfl rfl dX0_addRun_6 ?_
    refine x_if_eq (pc := 9) (tgt := 13) hX dX0_addRun_9 (by decide) (by omega) (fun h9 => ?_) (fun h9 => ?_)
    · have hf : fit l := hD.zero h9
      obtain ⟨⟨r1, r2, r3⟩, r4⟩ := hD.2.1 hf
      have hl1 := hf.1
      have hl2 := hf.2
      have r2b := r2
      rw [tot_enc] at r2b
      obtain ⟨j, rfl⟩ : ∃ j : Nat, n = (j : Int) := ⟨n.toNat, by omega⟩
      have hj : ((j : Int)).toNat = j := rfl
      have hx : ∀ w ∈ List.replicate j v, w ≤ 9 := fun w hw => by rw [(List.mem_replicate.mp hw).2]; exact hv
      have hla : (l ++ List.replicate j v).length = l.length + j := by simp
      refine x_iload_n (pc := 13) hX rfl rfl dX0_addRun_13 ?_
      refine x_sipush (pc := 14) hX (by decide) dX0_addRun_14 ?_
      refine x_aload_n (pc := 17) hX rfl rfl dX0_addRun_17 ?_
      refine x_getI (pc := 18) hX fl_X0_22 hK.1 rfl r2b dX0_addRun_18 ?_
      refine x_isub (pc := 21) hX dX0_addRun_21 rfl ?_
      refine x_icmp_le (pc := 22) (tgt := 33) hX dX0_addRun_22 (by decide) (by omega) (fun h22 => ?_) (fun h22 => ?_)
      · refine x_aload_n (pc := 33) hX rfl rfl dX0_addRun_33 ?_
        refine x_getI (pc := 34) hX fl_X0_18 hK.1 rfl r1 dX0_addRun_34 ?_
        refine x_if_le (pc := 37) (tgt := 92) hX dX0_addRun_37 (by decide) (by omega) (fun h37 => ?_) (fun h37 => ?_)
        · have he : enc l = [] ∨ rv (enc l) ((enc l).length - 1) ≠ v := Or.inl (List.eq_nil_of_length_eq_zero (by omega))
          refine x_aload_n (pc := 92) hX rfl rfl dX0_addRun_92 ?_
          refine x_getI (pc := 93) hX fl_X0_18 hK.1 rfl r1 dX0_addRun_93 ?_
          refine x_bipush (pc := 96) hX (by decide) dX0_addRun_96 ?_
          refine x_icmp_ge (pc := 98) (tgt := 144) hX dX0_addRun_98 (by decide) (by omega) (fun h98 => ?_) (fun h98 => ?_)
          · refine x_aload_n (pc := 144) hX rfl rfl dX0_addRun_144 ?_
            refine x_iconst (pc := 145) hX dX0_addRun_145 ?_
            refine x_putI (pc := 146) hX fl_X0_25 hK.1 rfl (xn_bool (Or.inr rfl)) (xf_bool (Or.inr rfl)) dX0_addRun_146 ?_
            refine x_vret (pc := 149) hX rfl (Nat.zero_le _) (Nat.zero_le _) dX0_addRun_149 ?_
            refine pV_i ⟨hD.over hx (more_over (by omega) (by omega) he) (mp_eq _ _ _ _), Same.put (by omega) (by omega)⟩
          · refine x_aload_n (pc := 101) hX rfl rfl dX0_addRun_101 ?_
            refine x_getR (pc := 102) hX fl_X0_9 hK.1 rfl dX0_addRun_102 ?_
            refine x_aload_n (pc := 105) hX rfl rfl dX0_addRun_105 ?_
            refine x_getI (pc := 106) hX fl_X0_18 hK.1 rfl r1 dX0_addRun_106 ?_
            refine x_iload_n (pc := 109) hX rfl rfl dX0_addRun_109 ?_
            refine x_iast (pc := 110) (j := (enc l).length) hX hK.2.1 (by omega) (by omega) (by decide) dX0_addRun_110 ?_
            refine x_aload_n (pc := 111) hX rfl rfl dX0_addRun_111 ?_
            refine x_getR (pc := 112) hX fl_X0_15 hK.1 rfl dX0_addRun_112 ?_
            refine x_aload_n (pc := 115) hX rfl rfl dX0_addRun_115 ?_
            refine x_getI (pc := 116) (v := ((enc l).length : Int)) hX fl_X0_18 hK.1 rfl (by rw [mput_ne _ _ _ (by omega)]; exact r1) dX0_addRun_116 ?_
            refine x_iload_n (pc := 119) hX rfl rfl dX0_addRun_119 ?_
            refine x_iast (pc := 120) (j := (enc l).length) hX hK.2.2 (by omega) (by omega) (by decide) dX0_addRun_120 ?_
            refine x_aload_n (pc := 121) hX rfl rfl dX0_addRun_121 ?_
            refine x_dup (pc := 122) hX rfl dX0_addRun_122 ?_
            refine x_getI (pc := 123) (v := ((enc l).length : Int)) hX fl_X0_18 hK.1 rfl (by rw [mput_ne _ _ _ (by omega), mput_ne _ _ _ (by omega)]; exact r1) dX0_addRun_123 ?_
            refine x_iconst (pc := 126) hX dX0_addRun_126 ?_
            refine x_iadd (pc := 127) hX dX0_addRun_127 rfl ?_
            refine x_putI (pc := 128) hX fl_X0_18 hK.1 rfl rfl rfl dX0_addRun_128 ?_
            refine x_aload_n (pc := 131) hX rfl rfl dX0_addRun_131 ?_
            refine x_dup (pc := 132) hX rfl dX0_addRun_132 ?_
            refine x_getI (pc := 133) (v := M o 3) hX fl_X0_22 hK.1 rfl (by rw [mp_ne _ _ (by decide), mput_ne _ _ _ (by omega), mput_ne _ _ _ (by omega)]) dX0_addRun_133 ?_
            refine x_iload_n (pc := 136) hX rfl rfl dX0_addRun_136 ?_
            refine x_iadd (pc := 137) hX dX0_addRun_137 rfl ?_
            refine x_putI (pc := 138) hX fl_X0_22 hK.1 rfl rfl rfl dX0_addRun_138 ?_
            refine x_goto (pc := 141) (tgt := 149) hX dX0_addRun_141 (by decide) ?_
            refine x_vret (pc := 149) hX rfl (Nat.zero_le _) (Nat.zero_le _) dX0_addRun_149 ?_
            exact pV_i ⟨hD.more hf hv (by omega) (by omega) (by omega) he, (((Same.put (by omega) (by omega)).tr (Same.put (by omega) (by omega))).tr (Same.put (by omega) (by omega))).tr (Same.put (by omega) (by omega))⟩
        · refine x_aload_n (pc := 40) hX rfl rfl dX0_addRun_40 ?_
          refine x_getI (pc := 41) hX fl_X0_18 hK.1 rfl r1 dX0_addRun_41 ?_
          refine x_bipush (pc := 44) hX (by decide) dX0_addRun_44 ?_
          refine x_icmp_gt (pc := 46) (tgt := 92) hX dX0_addRun_46 (by decide) (by omega) (fun h46 => ?_) (fun h46 => ?_)
          · exfalso; omega
          · refine x_aload_n (pc := 49) hX rfl rfl dX0_addRun_49 ?_
            refine x_getR (pc := 50) hX fl_X0_9 hK.1 rfl dX0_addRun_50 ?_
            refine x_aload_n (pc := 53) hX rfl rfl dX0_addRun_53 ?_
            refine x_getI (pc := 54) hX fl_X0_18 hK.1 rfl r1 dX0_addRun_54 ?_
            refine x_iconst (pc := 57) hX dX0_addRun_57 ?_
            refine x_isub (pc := 58) (v := (((enc l).length - 1 : Nat) : Int)) hX dX0_addRun_58 (by omega) ?_
            have hr9 := enc_rv (l := l) (k := (enc l).length - 1) (by omega)
            have hr8 := hD.1 _ hr9.1
            refine x_iald (pc := 59) (j := (enc l).length - 1) hX hK.2.1 (by omega) (by omega) (by decide) (r3 _ (by omega)).1 dX0_addRun_59 ?_
            refine x_iload_n (pc := 60) hX rfl rfl dX0_addRun_60 ?_
            refine x_icmp_ne (pc := 61) (tgt := 92) hX dX0_addRun_61 (by decide) (by omega) (fun h61 => ?_) (fun h61 => ?_)
            · have he : enc l = [] ∨ rv (enc l) ((enc l).length - 1) ≠ v := Or.inr (by omega)
              refine x_aload_n (pc := 92) hX rfl rfl dX0_addRun_92 ?_
              refine x_getI (pc := 93) hX fl_X0_18 hK.1 rfl r1 dX0_addRun_93 ?_
              refine x_bipush (pc := 96) hX (by decide) dX0_addRun_96 ?_
              refine x_icmp_ge (pc := 98) (tgt := 144) hX dX0_addRun_98 (by decide) (by omega) (fun h98 => ?_) (fun h98 => ?_)
              · refine x_aload_n (pc := 144) hX rfl rfl dX0_addRun_144 ?_
                refine x_iconst (pc := 145) hX dX0_addRun_145 ?_
                refine x_putI (pc := 146) hX fl_X0_25 hK.1 rfl (xn_bool (Or.inr rfl)) (xf_bool (Or.inr rfl)) dX0_addRun_146 ?_
                refine x_vret (pc := 149) hX rfl (Nat.zero_le _) (Nat.zero_le _) dX0_addRun_149 ?_
                refine pV_i ⟨hD.over hx (more_over (by omega) (by omega) he) (mp_eq _ _ _ _), Same.put (by omega) (by omega)⟩
              · refine x_aload_n (pc := 101) hX rfl rfl dX0_addRun_101 ?_
                refine x_getR (pc := 102) hX fl_X0_9 hK.1 rfl dX0_addRun_102 ?_
                refine x_aload_n (pc := 105) hX rfl rfl dX0_addRun_105 ?_
                refine x_getI (pc := 106) hX fl_X0_18 hK.1 rfl r1 dX0_addRun_106 ?_
                refine x_iload_n (pc := 109) hX rfl rfl dX0_addRun_109 ?_
                refine x_iast (pc := 110) (j := (enc l).length) hX hK.2.1 (by omega) (by omega) (by decide) dX0_addRun_110 ?_
                refine x_aload_n (pc := 111) hX rfl rfl dX0_addRun_111 ?_
                refine x_getR (pc := 112) hX fl_X0_15 hK.1 rfl dX0_addRun_112 ?_
                refine x_aload_n (pc := 115) hX rfl rfl dX0_addRun_115 ?_
                refine x_getI (pc := 116) (v := ((enc l).length : Int)) hX fl_X0_18 hK.1 rfl (by rw [mput_ne _ _ _ (by omega)]; exact r1) dX0_addRun_116 ?_
                refine x_iload_n (pc := 119) hX rfl rfl dX0_addRun_119 ?_
                refine x_iast (pc := 120) (j := (enc l).length) hX hK.2.2 (by omega) (by omega) (by decide) dX0_addRun_120 ?_
                refine x_aload_n (pc := 121) hX rfl rfl dX0_addRun_121 ?_
                refine x_dup (pc := 122) hX rfl dX0_addRun_122 ?_
                refine x_getI (pc := 123) (v := ((enc l).length : Int)) hX fl_X0_18 hK.1 rfl (by rw [mput_ne _ _ _ (by omega), mput_ne _ _ _ (by omega)]; exact r1) dX0_addRun_123 ?_
                refine x_iconst (pc := 126) hX dX0_addRun_126 ?_
                refine x_iadd (pc := 127) hX dX0_addRun_127 rfl ?_
                refine x_putI (pc := 128) hX fl_X0_18 hK.1 rfl rfl rfl dX0_addRun_128 ?_
                refine x_aload_n (pc := 131) hX rfl rfl dX0_addRun_131 ?_
                refine x_dup (pc := 132) hX rfl dX0_addRun_132 ?_
                refine x_getI (pc := 133) (v := M o 3) hX fl_X0_22 hK.1 rfl (by rw [mp_ne _ _ (by decide), mput_ne _ _ _ (by omega), mput_ne _ _ _ (by omega)]) dX0_addRun_133 ?_
                refine x_iload_n (pc := 136) hX rfl rfl dX0_addRun_136 ?_
                refine x_iadd (pc := 137) hX dX0_addRun_137 rfl ?_
                refine x_putI (pc := 138) hX fl_X0_22 hK.1 rfl rfl rfl dX0_addRun_138 ?_
                refine x_goto (pc := 141) (tgt := 149) hX dX0_addRun_141 (by decide) ?_
                refine x_vret (pc := 149) hX rfl (Nat.zero_le _) (Nat.zero_le _) dX0_addRun_149 ?_
                exact pV_i ⟨hD.more hf hv (by omega) (by omega) (by omega) he, (((Same.put (by omega) (by omega)).tr (Same.put (by omega) (by omega))).tr (Same.put (by omega) (by omega))).tr (Same.put (by omega) (by omega))⟩
            · refine x_aload_n (pc := 64) hX rfl rfl dX0_addRun_64 ?_
              refine x_getR (pc := 65) hX fl_X0_15 hK.1 rfl dX0_addRun_65 ?_
              refine x_aload_n (pc := 68) hX rfl rfl dX0_addRun_68 ?_
              refine x_getI (pc := 69) hX fl_X0_18 hK.1 rfl r1 dX0_addRun_69 ?_
              refine x_iconst (pc := 72) hX dX0_addRun_72 ?_
              refine x_isub (pc := 73) (v := (((enc l).length - 1 : Nat) : Int)) hX dX0_addRun_73 (by omega) ?_
              refine x_dup2 (pc := 74) hX rfl rfl dX0_addRun_74 ?_
              refine x_iald (pc := 75) (j := (enc l).length - 1) hX hK.2.2 (by omega) (by omega) (by decide) rfl dX0_addRun_75 ?_
              refine x_iload_n (pc := 76) hX rfl rfl dX0_addRun_76 ?_
              refine x_iadd (pc := 77) hX dX0_addRun_77 rfl ?_
              refine x_iast (pc := 78) (j := (enc l).length - 1) hX hK.2.2 (by omega) (by omega) (by decide) dX0_addRun_78 ?_
              refine x_aload_n (pc := 79) hX rfl rfl dX0_addRun_79 ?_
              refine x_dup (pc := 80) hX rfl dX0_addRun_80 ?_
              refine x_getI (pc := 81) (v := M o 3) hX fl_X0_22 hK.1 rfl (congrFun (mput_ne _ _ _ (by omega)) 3) dX0_addRun_81 ?_
              refine x_iload_n (pc := 84) hX rfl rfl dX0_addRun_84 ?_
              refine x_iadd (pc := 85) hX dX0_addRun_85 rfl ?_
              refine x_putI (pc := 86) hX fl_X0_22 hK.1 rfl rfl rfl dX0_addRun_86 ?_
              refine x_goto (pc := 89) (tgt := 149) hX dX0_addRun_89 (by decide) ?_
              refine x_vret (pc := 149) hX rfl (Nat.zero_le _) (Nat.zero_le _) dX0_addRun_149 ?_
              exact pV_i ⟨hD.grow hf hv (by omega) (by omega) (by omega) (by omega), (Same.put (by omega) (by omega)).tr (Same.put (by omega) (by omega))⟩
      · refine x_aload_n (pc := 25) hX rfl rfl dX0_addRun_25 ?_
        refine x_iconst (pc := 26) hX dX0_addRun_26 ?_
        refine x_putI (pc := 27) hX fl_X0_25 hK.1 rfl (xn_bool (Or.inr rfl)) (xf_bool (Or.inr rfl)) dX0_addRun_27 ?_
        refine x_goto (pc := 30) (tgt := 149) hX dX0_addRun_30 (by decide) ?_
        refine x_vret (pc := 149) hX rfl (Nat.zero_le _) (Nat.zero_le _) dX0_addRun_149 ?_
        refine pV_i ⟨hD.over hx (fun z => ?_) (mp_eq _ _ _ _), Same.put (by omega) (by omega)⟩
        have h8 : (l ++ List.replicate j v).length ≤ 999 := z.1
        omega
    · refine x_vret (pc := 12) hX rfl (Nat.zero_le _) (Nat.zero_le _) dX0_addRun_12 ?_
      have hf : ¬ fit l := hD.one h9
      refine pV_i ⟨⟨fun w hw => ?_, fun z => absurd z.left hf, fun _ => by omega⟩, Same.rf⟩
      rcases List.mem_append.mp hw with h | h
      · exact hD.1 w h
      · rw [(List.mem_replicate.mp h).2]; exact hv

set_option maxHeartbeats 4000000 in
set_option maxRecDepth 100000 in
theorem tX0_addRows {G : XG} {κ : XKs} {M : XM} {hs o q : Nat} {l l2 : List Nat} (hK : KCol κ hs o) (hK2 : KCol κ hs q) (hd : q + 3 ≤ o ∨ o + 3 ≤ q) (hD : Dra M o l) (hC : Col M q l2) (a b : Nat) (ha : a ≤ 1000) (hb : b ≤ 1000) : XC G mX0_addRows 1 0 0 [xR o, xR q, xI (a : Int), xI (b : Int)] κ M hs (pV κ hs (fun M' => Dra M' o (l ++ slice l2 a b) ∧ Same o (o + 3) M M')) := by
  refine XC.intro cdX0_addRows (by decide) (by decide) (Nat.le_of_ble_eq_true rfl) (loc := [some (xR o), some (xR q), some (xI (a : Int)), some (xI (b : Int)), none, none, none]) rfl (fun X hX => ?_)
  have loop : ∀ (n k : Nat) (M1 : XM) (z : Option XV), k ≤ (enc l2).length → (enc l2).length < k + n → Dra M1 o (l ++ slice (rows ((enc l2).take k)) a b) → Same o (o + 3) M M1 → XW G X mX0_addRows (xq G (pV κ hs (fun M' => Dra M' o (l ++ slice l2 a b) ∧ Same o (o + 3) M M')) 0 0 X) 0 0 6 [some (xR o), some (xR q), some (xI (a : Int)), some (xI (b : Int)), some (xI (tot ((enc l2).take k) : Int)), some (xI (k : Int)), z] [] κ M1 hs := by
    intro n
    induction n with
    | zero => intro k M1 z h1 h2; omega
    | succ n ih =>
      intro k M1 z h1 h2 hD1 hS1
      have hC1 := hC.same hS1 (by omega)
      have hl := hC1.len
      refine x_iload (pc := 6) hX rfl dX0_addRows_6 ?_
      refine x_aload_n (pc := 8) hX rfl rfl dX0_addRows_8 ?_
      refine x_getI (pc := 9) hX fl_X0_18 hK2.1 rfl hl.1 dX0_addRows_9 ?_
      refine x_icmp_ge (pc := 12) (tgt := 61) hX dX0_addRows_12 (by decide) (by omega) (fun h12 => ?_) (fun h12 => ?_)
      · refine x_vret (pc := 61) hX rfl (Nat.zero_le _) (Nat.zero_le _) dX0_addRows_61 ?_
        refine pV_i ⟨?_, hS1⟩
        rw [List.take_of_length_le (by omega), rows_enc] at hD1
        exact hD1
      · have hk2 : k < (enc l2).length := by omega
        have hm := hC1.mem hk2
        have ht := tot_take_succ hk2
        have ht2 := tot_take_le (enc l2) (k + 1)
        rw [tot_enc] at ht2
        refine x_iload (pc := 15) hX rfl dX0_addRows_15 ?_
        refine x_aload_n (pc := 17) hX rfl rfl dX0_addRows_17 ?_
        refine x_getR (pc := 18) hX fl_X0_15 hK2.1 rfl dX0_addRows_18 ?_
        refine x_iload (pc := 21) hX rfl dX0_addRows_21 ?_
        refine x_iald (pc := 23) (j := k) hX hK2.2.2 (by omega) (by omega) (by decide) hm.2.1 dX0_addRows_23 ?_
        refine x_iadd (pc := 24) (v := (tot ((enc l2).take (k + 1)) : Int)) hX dX0_addRows_24 (by rw [ht]; omega) ?_
        refine x_istore (pc := 25) hX (by decide) rfl rfl dX0_addRows_25 ?_
        refine x_aload_n (pc := 27) hX rfl rfl dX0_addRows_27 ?_
        refine x_aload_n (pc := 28) hX rfl rfl dX0_addRows_28 ?_
        refine x_getR (pc := 29) hX fl_X0_9 hK2.1 rfl dX0_addRows_29 ?_
        refine x_iload (pc := 32) hX rfl dX0_addRows_32 ?_
        refine x_iald (pc := 34) (j := k) hX hK2.2.1 (by omega) (by omega) (by decide) hm.1 dX0_addRows_34 ?_
        refine x_iload (pc := 35) hX rfl dX0_addRows_35 ?_
        refine x_iload_n (pc := 37) hX rfl rfl dX0_addRows_37 ?_
        refine x_min (pc := 38) (v := ((min (tot ((enc l2).take (k + 1))) b : Nat) : Int)) hX lk_X0_57.1 (by omega) (by split <;> omega) (by decide) (Nat.zero_le _) (Nat.zero_le _) (Nat.le_of_ble_eq_true rfl) dX0_addRows_38 ?_
        refine x_iload (pc := 41) hX rfl dX0_addRows_41 ?_
        refine x_iload_n (pc := 43) hX rfl rfl dX0_addRows_43 ?_
        refine x_max (pc := 44) (v := ((max (tot ((enc l2).take k)) a : Nat) : Int)) hX lk_X0_36.1 (by omega) (by split <;> omega) (by decide) (Nat.zero_le _) (Nat.zero_le _) (Nat.le_of_ble_eq_true rfl) dX0_addRows_44 ?_
        refine x_isub (pc := 47) hX dX0_addRows_47 rfl ?_
        refine x_cV_V (pc := 48) hX (tX0_addRun hK hD1 _ hm.2.2.1 _ (by unfold InR; omega)) hK.1 rfl lk_X0_60 rfl rfl (Nat.le_of_ble_eq_true rfl) (by decide) (Nat.zero_le _) (Nat.zero_le _) dX0_addRows_48 (fun M2 hp => ?_)
        obtain ⟨hD2, hS2⟩ := hp
        refine x_iload (pc := 51) hX rfl dX0_addRows_51 ?_
        refine x_istore (pc := 53) hX (by decide) rfl rfl dX0_addRows_53 ?_
        refine x_iinc (pc := 55) (v := ((k + 1 : Nat) : Int)) hX dX0_addRows_55 rfl (by decide) rfl (by omega) rfl ?_
        refine x_goto (pc := 58) (tgt := 6) hX dX0_addRows_58 (by decide) ?_
        refine ih (k + 1) _ _ (by omega) (by omega) ?_ (hS1.tr hS2)
        have e8 := slice_snoc (rows ((enc l2).take k)) (rv (enc l2) k) (rn (enc l2) k) a b
        rw [← rows_take_succ hk2, rows_len] at e8
        rw [e8, ← List.append_assoc]
        have e7 : (((min (tot ((enc l2).take (k + 1))) b : Nat) : Int) - ((max (tot ((enc l2).take k)) a : Nat) : Int)).toNat = min (tot ((enc l2).take k) + rn (enc l2) k) b - max (tot ((enc l2).take k)) a := by omega
        rw [e7] at hD2
        exact hD2
  refine x_iconst (pc := 0) hX dX0_addRows_0 ?_
  refine x_istore (pc := 1) hX (by decide) rfl rfl dX0_addRows_1 ?_
  refine x_iconst (pc := 3) hX dX0_addRows_3 ?_
  refine x_istore (pc := 4) hX (by decide) rfl rfl dX0_addRows_4 ?_
  exact loop ((enc l2).length + 1) 0 M none (by omega) (by omega) (by rw [List.take_zero]; show Dra M o (l ++ slice [] a b); simp only [slice, List.take_nil, List.drop_nil, List.append_nil]; exact hD) Same.rf

set_option maxHeartbeats 4000000 in
set_option maxRecDepth 100000 in
theorem tX0_addTurned {G : XG} {κ : XKs} {M : XM} {hs o q : Nat} {l l2 : List Nat} (hK : KCol κ hs o) (hK2 : KCol κ hs q) (hd : q + 3 ≤ o ∨ o + 3 ≤ q) (hD : Dra M o l) (hC : Col M q l2) : XC G mX0_addTurned 1 0 0 [xR o, xR q] κ M hs (pV κ hs (fun M' => Dra M' o (l ++ l2.reverse) ∧ Same o (o + 3) M M')) := by
  refine XC.intro cdX0_addTurned (by decide) (by decide) (Nat.le_of_ble_eq_true rfl) (loc := [some (xR o), some (xR q), none]) rfl (fun X hX => ?_)
  have hl := hC.len
  have loop : ∀ (n k : Nat) (M1 : XM), k ≤ (enc l2).length → k < n → Dra M1 o (l ++ (rows ((enc l2).drop k)).reverse) → Same o (o + 3) M M1 → XW G X mX0_addTurned (xq G (pV κ hs (fun M' => Dra M' o (l ++ l2.reverse) ∧ Same o (o + 3) M M')) 0 0 X) 0 0 7 [some (xR o), some (xR q), some (xI ((k : Int) - 1))] [] κ M1 hs := by
    intro n
    induction n with
    | zero => intro k M1 h1 h2; omega
    | succ n ih =>
      intro k M1 h1 h2 hD1 hS1
      have hC1 := hC.same hS1 (by omega)
      have hl := hC1.len
      refine x_iload_n (pc := 7) hX rfl rfl dX0_addTurned_7 ?_
      refine x_if_lt (pc := 8) (tgt := 33) hX dX0_addTurned_8 (by decide) (by omega) (fun h8 => ?_) (fun h8 => ?_)
      · refine x_vret (pc := 33) hX rfl (Nat.zero_le _) (Nat.zero_le _) dX0_addTurned_33 ?_
        refine pV_i ⟨?_, hS1⟩
        have hk0 : k = 0 := by omega
        subst hk0
        rw [List.drop_zero, rows_enc] at hD1
        exact hD1
      · have hk2 : k - 1 < (enc l2).length := by omega
        have hm := hC1.mem hk2
        obtain ⟨k, rfl⟩ : ∃ j, k = j + 1 := ⟨k - 1, by omega⟩
        rw [Nat.add_sub_cancel] at hk2 hm
        refine x_aload_n (pc := 11) hX rfl rfl dX0_addTurned_11 ?_
        refine x_aload_n (pc := 12) hX rfl rfl dX0_addTurned_12 ?_
        refine x_getR (pc := 13) hX fl_X0_9 hK2.1 rfl dX0_addTurned_13 ?_
        refine x_iload_n (pc := 16) hX rfl rfl dX0_addTurned_16 ?_
        refine x_iald (pc := 17) (j := k) hX hK2.2.1 (by omega) (by omega) (by decide) hm.1 dX0_addTurned_17 ?_
        refine x_aload_n (pc := 18) hX rfl rfl dX0_addTurned_18 ?_
        refine x_getR (pc := 19) hX fl_X0_15 hK2.1 rfl dX0_addTurned_19 ?_
        refine x_iload_n (pc := 22) hX rfl rfl dX0_addTurned_22 ?_
        refine x_iald (pc := 23) (j := k) hX hK2.2.2 (by omega) (by omega) (by decide) hm.2.1 dX0_addTurned_23 ?_
        refine x_cV_V (pc := 24) hX (tX0_addRun hK hD1 _ hm.2.2.1 _ (by unfold InR; omega)) hK.1 rfl lk_X0_60 rfl rfl (Nat.le_of_ble_eq_true rfl) (by decide) (Nat.zero_le _) (Nat.zero_le _) dX0_addTurned_24 (fun M2 hp => ?_)
        obtain ⟨hD2, hS2⟩ := hp
        refine x_iinc (pc := 27) (v := ((k : Int) - 1)) hX dX0_addTurned_27 rfl (by decide) rfl (by omega) rfl ?_
        refine x_goto (pc := 30) (tgt := 7) hX dX0_addTurned_30 (by decide) ?_
        refine ih k _ (by omega) (by omega) ?_ (hS1.tr hS2)
        have e7 : ((rn (enc l2) k : Int)).toNat = rn (enc l2) k := rfl
        rw [e7, List.append_assoc] at hD2
        have e8 : (rows ((enc l2).drop (k + 1))).reverse ++ List.replicate (rn (enc l2) k) (rv (enc l2) k) = (rows ((enc l2).drop k)).reverse := by
          rw [ru_drop hk2, rows, List.reverse_append, List.reverse_replicate]
        rw [e8] at hD2
        exact hD2
  refine x_aload_n (pc := 0) hX rfl rfl dX0_addTurned_0 ?_
  refine x_getI (pc := 1) hX fl_X0_18 hK2.1 rfl hl.1 dX0_addTurned_1 ?_
  refine x_iconst (pc := 4) hX dX0_addTurned_4 ?_
  refine x_isub (pc := 5) hX dX0_addTurned_5 rfl ?_
  refine x_istore_n (pc := 6) hX rfl (by decide) rfl rfl dX0_addTurned_6 ?_
  exact loop ((enc l2).length + 1) (enc l2).length M (by omega) (by omega) (by rw [ru_end _ (Nat.le_refl _)]; show Dra M o (l ++ []); rw [List.append_nil]; exact hD) Same.rf
end
