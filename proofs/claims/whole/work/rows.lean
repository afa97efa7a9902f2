section
-- ===== PART A: goes FIRST, ahead of the names: the tables' words, and 'selects' of the private methods out of them =====
/-- a private method of a class that the tables say can be made, by its rows of tables_1 -/
def lw_okq (q : MethodName × Nat) : Prop := (q.1.cls ≠ "java/lang/invoke/MethodHandle" ∧ q.1.cls ≠ "java/lang/invoke/VarHandle") ∧ Cond.instantiable q.1.cls q.2 ∈ tables_1 ∧ Cond.privateMethod q.1 ∈ tables_1 ∧ Cond.instanceMethod q.1 ∈ tables_1
theorem lw_p0 : lw_okq (⟨"HoistsAreShared", "refuse", "(I)I"⟩, 14) := ⟨⟨by decide +kernel, by decide +kernel⟩, List.mem_of_getElem? (i := 13) (by decide +kernel), List.mem_of_getElem? (i := 123) (by decide +kernel), List.mem_of_getElem? (i := 124) (by decide +kernel)⟩
theorem lw_p1 : lw_okq (⟨"HoistsAreShared$Telling", "brokenAt", "()I"⟩, 2) := ⟨⟨by decide +kernel, by decide +kernel⟩, List.mem_of_getElem? (i := 61) (by decide +kernel), List.mem_of_getElem? (i := 148) (by decide +kernel), List.mem_of_getElem? (i := 149) (by decide +kernel)⟩
theorem lw_p2 : lw_okq (⟨"HoistsAreShared$Telling", "goesOn", "(II)Z"⟩, 2) := ⟨⟨by decide +kernel, by decide +kernel⟩, List.mem_of_getElem? (i := 61) (by decide +kernel), List.mem_of_getElem? (i := 152) (by decide +kernel), List.mem_of_getElem? (i := 153) (by decide +kernel)⟩
theorem lw_p3 : lw_okq (⟨"HoistsAreShared$Telling", "letterAt", "(I)I"⟩, 2) := ⟨⟨by decide +kernel, by decide +kernel⟩, List.mem_of_getElem? (i := 61) (by decide +kernel), List.mem_of_getElem? (i := 156) (by decide +kernel), List.mem_of_getElem? (i := 157) (by decide +kernel)⟩
theorem lw_p4 : lw_okq (⟨"HoistsAreShared$Telling", "tellStatement", "(LHoistsAreShared$Hoist;I)Z"⟩, 2) := ⟨⟨by decide +kernel, by decide +kernel⟩, List.mem_of_getElem? (i := 61) (by decide +kernel), List.mem_of_getElem? (i := 251) (by decide +kernel), List.mem_of_getElem? (i := 252) (by decide +kernel)⟩
theorem lw_p5 : lw_okq (⟨"HoistsAreShared$Telling", "digit", "(I)I"⟩, 2) := ⟨⟨by decide +kernel, by decide +kernel⟩, List.mem_of_getElem? (i := 61) (by decide +kernel), List.mem_of_getElem? (i := 255) (by decide +kernel), List.mem_of_getElem? (i := 256) (by decide +kernel)⟩
theorem lw_p6 : lw_okq (⟨"HoistsAreShared$Telling", "number", "(I)I"⟩, 2) := ⟨⟨by decide +kernel, by decide +kernel⟩, List.mem_of_getElem? (i := 61) (by decide +kernel), List.mem_of_getElem? (i := 279) (by decide +kernel), List.mem_of_getElem? (i := 280) (by decide +kernel)⟩
theorem lw_p7 : lw_okq (⟨"HoistsAreShared", "howFar", "(I)I"⟩, 14) := ⟨⟨by decide +kernel, by decide +kernel⟩, List.mem_of_getElem? (i := 13) (by decide +kernel), List.mem_of_getElem? (i := 386) (by decide +kernel), List.mem_of_getElem? (i := 387) (by decide +kernel)⟩
theorem lw_p8 : lw_okq (⟨"HoistsAreShared", "firstAt", "(II)I"⟩, 14) := ⟨⟨by decide +kernel, by decide +kernel⟩, List.mem_of_getElem? (i := 13) (by decide +kernel), List.mem_of_getElem? (i := 453) (by decide +kernel), List.mem_of_getElem? (i := 454) (by decide +kernel)⟩
theorem lw_p9 : lw_okq (⟨"HoistsAreShared", "firstStrike", "()I"⟩, 14) := ⟨⟨by decide +kernel, by decide +kernel⟩, List.mem_of_getElem? (i := 13) (by decide +kernel), List.mem_of_getElem? (i := 469) (by decide +kernel), List.mem_of_getElem? (i := 470) (by decide +kernel)⟩
theorem lw_p10 : lw_okq (⟨"HoistsAreShared", "firstStill", "()I"⟩, 14) := ⟨⟨by decide +kernel, by decide +kernel⟩, List.mem_of_getElem? (i := 13) (by decide +kernel), List.mem_of_getElem? (i := 473) (by decide +kernel), List.mem_of_getElem? (i := 474) (by decide +kernel)⟩
theorem lw_p11 : lw_okq (⟨"HoistsAreShared", "apartIfPut", "(III)I"⟩, 14) := ⟨⟨by decide +kernel, by decide +kernel⟩, List.mem_of_getElem? (i := 13) (by decide +kernel), List.mem_of_getElem? (i := 497) (by decide +kernel), List.mem_of_getElem? (i := 498) (by decide +kernel)⟩
theorem lw_p12 : lw_okq (⟨"HoistsAreShared", "reckonShifts", "()V"⟩, 14) := ⟨⟨by decide +kernel, by decide +kernel⟩, List.mem_of_getElem? (i := 13) (by decide +kernel), List.mem_of_getElem? (i := 509) (by decide +kernel), List.mem_of_getElem? (i := 510) (by decide +kernel)⟩
theorem lw_p13 : lw_okq (⟨"HoistsAreShared", "shiftOf", "(I)I"⟩, 14) := ⟨⟨by decide +kernel, by decide +kernel⟩, List.mem_of_getElem? (i := 13) (by decide +kernel), List.mem_of_getElem? (i := 519) (by decide +kernel), List.mem_of_getElem? (i := 520) (by decide +kernel)⟩
theorem lw_p14 : lw_okq (⟨"HoistsAreShared", "reckonPulls", "(I)V"⟩, 14) := ⟨⟨by decide +kernel, by decide +kernel⟩, List.mem_of_getElem? (i := 13) (by decide +kernel), List.mem_of_getElem? (i := 528) (by decide +kernel), List.mem_of_getElem? (i := 529) (by decide +kernel)⟩
theorem lw_p15 : lw_okq (⟨"HoistsAreShared", "apartIfPulled", "(II)I"⟩, 14) := ⟨⟨by decide +kernel, by decide +kernel⟩, List.mem_of_getElem? (i := 13) (by decide +kernel), List.mem_of_getElem? (i := 532) (by decide +kernel), List.mem_of_getElem? (i := 533) (by decide +kernel)⟩
def lw_privs_1 : List (MethodName × Nat) := [(⟨"HoistsAreShared", "refuse", "(I)I"⟩, 14), (⟨"HoistsAreShared$Telling", "brokenAt", "()I"⟩, 2), (⟨"HoistsAreShared$Telling", "goesOn", "(II)Z"⟩, 2), (⟨"HoistsAreShared$Telling", "letterAt", "(I)I"⟩, 2), (⟨"HoistsAreShared$Telling", "tellStatement", "(LHoistsAreShared$Hoist;I)Z"⟩, 2), (⟨"HoistsAreShared$Telling", "digit", "(I)I"⟩, 2), (⟨"HoistsAreShared$Telling", "number", "(I)I"⟩, 2), (⟨"HoistsAreShared", "howFar", "(I)I"⟩, 14), (⟨"HoistsAreShared", "firstAt", "(II)I"⟩, 14), (⟨"HoistsAreShared", "firstStrike", "()I"⟩, 14), (⟨"HoistsAreShared", "firstStill", "()I"⟩, 14), (⟨"HoistsAreShared", "apartIfPut", "(III)I"⟩, 14), (⟨"HoistsAreShared", "reckonShifts", "()V"⟩, 14), (⟨"HoistsAreShared", "shiftOf", "(I)I"⟩, 14), (⟨"HoistsAreShared", "reckonPulls", "(I)V"⟩, 14), (⟨"HoistsAreShared", "apartIfPulled", "(II)I"⟩, 14)]
theorem lw_r1 : ∀ q ∈ lw_privs_1, lw_okq q := List.forall_mem_cons.mpr ⟨lw_p0, List.forall_mem_cons.mpr ⟨lw_p1, List.forall_mem_cons.mpr ⟨lw_p2, List.forall_mem_cons.mpr ⟨lw_p3, List.forall_mem_cons.mpr ⟨lw_p4, List.forall_mem_cons.mpr ⟨lw_p5, List.forall_mem_cons.mpr ⟨lw_p6, List.forall_mem_cons.mpr ⟨lw_p7, List.forall_mem_cons.mpr ⟨lw_p8, List.forall_mem_cons.mpr ⟨lw_p9, List.forall_mem_cons.mpr ⟨lw_p10, List.forall_mem_cons.mpr ⟨lw_p11, List.forall_mem_cons.mpr ⟨lw_p12, List.forall_mem_cons.mpr ⟨lw_p13, List.forall_mem_cons.mpr ⟨lw_p14, List.forall_mem_cons.mpr ⟨lw_p15, fun _ h => absurd h List.not_mem_nil⟩⟩⟩⟩⟩⟩⟩⟩⟩⟩⟩⟩⟩⟩⟩⟩
theorem lw_p16 : lw_okq (⟨"HoistsAreShared", "outweighing", "(I)I"⟩, 14) := ⟨⟨by decide +kernel, by decide +kernel⟩, List.mem_of_getElem? (i := 13) (by decide +kernel), List.mem_of_getElem? (i := 550) (by decide +kernel), List.mem_of_getElem? (i := 551) (by decide +kernel)⟩
theorem lw_p17 : lw_okq (⟨"HoistsAreShared", "gaining", "(I)I"⟩, 14) := ⟨⟨by decide +kernel, by decide +kernel⟩, List.mem_of_getElem? (i := 13) (by decide +kernel), List.mem_of_getElem? (i := 558) (by decide +kernel), List.mem_of_getElem? (i := 559) (by decide +kernel)⟩
theorem lw_p18 : lw_okq (⟨"HoistsAreShared", "reckonOutcomes", "(III)V"⟩, 14) := ⟨⟨by decide +kernel, by decide +kernel⟩, List.mem_of_getElem? (i := 13) (by decide +kernel), List.mem_of_getElem? (i := 566) (by decide +kernel), List.mem_of_getElem? (i := 567) (by decide +kernel)⟩
theorem lw_p19 : lw_okq (⟨"HoistsAreShared", "isSettled", "(III)Z"⟩, 14) := ⟨⟨by decide +kernel, by decide +kernel⟩, List.mem_of_getElem? (i := 13) (by decide +kernel), List.mem_of_getElem? (i := 570) (by decide +kernel), List.mem_of_getElem? (i := 571) (by decide +kernel)⟩
theorem lw_p20 : lw_okq (⟨"HoistsAreShared", "gain", "(III)I"⟩, 14) := ⟨⟨by decide +kernel, by decide +kernel⟩, List.mem_of_getElem? (i := 13) (by decide +kernel), List.mem_of_getElem? (i := 574) (by decide +kernel), List.mem_of_getElem? (i := 575) (by decide +kernel)⟩
theorem lw_p21 : lw_okq (⟨"HoistsAreShared", "reckonOdds", "(II)J"⟩, 14) := ⟨⟨by decide +kernel, by decide +kernel⟩, List.mem_of_getElem? (i := 13) (by decide +kernel), List.mem_of_getElem? (i := 583) (by decide +kernel), List.mem_of_getElem? (i := 584) (by decide +kernel)⟩
theorem lw_p22 : lw_okq (⟨"HoistsAreShared", "spreadOdds", "(II)V"⟩, 14) := ⟨⟨by decide +kernel, by decide +kernel⟩, List.mem_of_getElem? (i := 13) (by decide +kernel), List.mem_of_getElem? (i := 587) (by decide +kernel), List.mem_of_getElem? (i := 588) (by decide +kernel)⟩
theorem lw_p23 : lw_okq (⟨"HoistsAreShared", "kindsByRow", "(I)I"⟩, 14) := ⟨⟨by decide +kernel, by decide +kernel⟩, List.mem_of_getElem? (i := 13) (by decide +kernel), List.mem_of_getElem? (i := 609) (by decide +kernel), List.mem_of_getElem? (i := 610) (by decide +kernel)⟩
theorem lw_p24 : lw_okq (⟨"HoistsAreShared", "isAsRowTells", "()Z"⟩, 14) := ⟨⟨by decide +kernel, by decide +kernel⟩, List.mem_of_getElem? (i := 13) (by decide +kernel), List.mem_of_getElem? (i := 613) (by decide +kernel), List.mem_of_getElem? (i := 614) (by decide +kernel)⟩
theorem lw_p25 : lw_okq (⟨"HoistsAreShared", "figuresByRow", "(I)I"⟩, 14) := ⟨⟨by decide +kernel, by decide +kernel⟩, List.mem_of_getElem? (i := 13) (by decide +kernel), List.mem_of_getElem? (i := 617) (by decide +kernel), List.mem_of_getElem? (i := 618) (by decide +kernel)⟩
theorem lw_p26 : lw_okq (⟨"HoistsAreShared", "refusalsOf", "(I)I"⟩, 14) := ⟨⟨by decide +kernel, by decide +kernel⟩, List.mem_of_getElem? (i := 13) (by decide +kernel), List.mem_of_getElem? (i := 658) (by decide +kernel), List.mem_of_getElem? (i := 659) (by decide +kernel)⟩
theorem lw_p27 : lw_okq (⟨"HoistsAreSharedModel", "no", "(I)I"⟩, 13) := ⟨⟨by decide +kernel, by decide +kernel⟩, List.mem_of_getElem? (i := 662) (by decide +kernel), List.mem_of_getElem? (i := 713) (by decide +kernel), List.mem_of_getElem? (i := 714) (by decide +kernel)⟩
theorem lw_p28 : lw_okq (⟨"HoistsAreSharedModel", "readsStatement", "()Z"⟩, 13) := ⟨⟨by decide +kernel, by decide +kernel⟩, List.mem_of_getElem? (i := 662) (by decide +kernel), List.mem_of_getElem? (i := 721) (by decide +kernel), List.mem_of_getElem? (i := 722) (by decide +kernel)⟩
theorem lw_p29 : lw_okq (⟨"HoistsAreSharedModel", "here", "()I"⟩, 13) := ⟨⟨by decide +kernel, by decide +kernel⟩, List.mem_of_getElem? (i := 662) (by decide +kernel), List.mem_of_getElem? (i := 725) (by decide +kernel), List.mem_of_getElem? (i := 726) (by decide +kernel)⟩
theorem lw_p30 : lw_okq (⟨"HoistsAreSharedModel", "readsKind", "()Z"⟩, 13) := ⟨⟨by decide +kernel, by decide +kernel⟩, List.mem_of_getElem? (i := 662) (by decide +kernel), List.mem_of_getElem? (i := 729) (by decide +kernel), List.mem_of_getElem? (i := 730) (by decide +kernel)⟩
theorem lw_p31 : lw_okq (⟨"HoistsAreSharedModel", "readsNumber", "(II)Z"⟩, 13) := ⟨⟨by decide +kernel, by decide +kernel⟩, List.mem_of_getElem? (i := 662) (by decide +kernel), List.mem_of_getElem? (i := 736) (by decide +kernel), List.mem_of_getElem? (i := 737) (by decide +kernel)⟩
def lw_privs_2 : List (MethodName × Nat) := [(⟨"HoistsAreShared", "outweighing", "(I)I"⟩, 14), (⟨"HoistsAreShared", "gaining", "(I)I"⟩, 14), (⟨"HoistsAreShared", "reckonOutcomes", "(III)V"⟩, 14), (⟨"HoistsAreShared", "isSettled", "(III)Z"⟩, 14), (⟨"HoistsAreShared", "gain", "(III)I"⟩, 14), (⟨"HoistsAreShared", "reckonOdds", "(II)J"⟩, 14), (⟨"HoistsAreShared", "spreadOdds", "(II)V"⟩, 14), (⟨"HoistsAreShared", "kindsByRow", "(I)I"⟩, 14), (⟨"HoistsAreShared", "isAsRowTells", "()Z"⟩, 14), (⟨"HoistsAreShared", "figuresByRow", "(I)I"⟩, 14), (⟨"HoistsAreShared", "refusalsOf", "(I)I"⟩, 14), (⟨"HoistsAreSharedModel", "no", "(I)I"⟩, 13), (⟨"HoistsAreSharedModel", "readsStatement", "()Z"⟩, 13), (⟨"HoistsAreSharedModel", "here", "()I"⟩, 13), (⟨"HoistsAreSharedModel", "readsKind", "()Z"⟩, 13), (⟨"HoistsAreSharedModel", "readsNumber", "(II)Z"⟩, 13)]
theorem lw_r2 : ∀ q ∈ lw_privs_2, lw_okq q := List.forall_mem_cons.mpr ⟨lw_p16, List.forall_mem_cons.mpr ⟨lw_p17, List.forall_mem_cons.mpr ⟨lw_p18, List.forall_mem_cons.mpr ⟨lw_p19, List.forall_mem_cons.mpr ⟨lw_p20, List.forall_mem_cons.mpr ⟨lw_p21, List.forall_mem_cons.mpr ⟨lw_p22, List.forall_mem_cons.mpr ⟨lw_p23, List.forall_mem_cons.mpr ⟨lw_p24, List.forall_mem_cons.mpr ⟨lw_p25, List.forall_mem_cons.mpr ⟨lw_p26, List.forall_mem_cons.mpr ⟨lw_p27, List.forall_mem_cons.mpr ⟨lw_p28, List.forall_mem_cons.mpr ⟨lw_p29, List.forall_mem_cons.mpr ⟨lw_p30, List.forall_mem_cons.mpr ⟨lw_p31, fun _ h => absurd h List.not_mem_nil⟩⟩⟩⟩⟩⟩⟩⟩⟩⟩⟩⟩⟩⟩⟩⟩
theorem lw_p32 : lw_okq (⟨"HoistsAreSharedModel", "isDone", "(I)Z"⟩, 13) := ⟨⟨by decide +kernel, by decide +kernel⟩, List.mem_of_getElem? (i := 662) (by decide +kernel), List.mem_of_getElem? (i := 746) (by decide +kernel), List.mem_of_getElem? (i := 747) (by decide +kernel)⟩
theorem lw_p33 : lw_okq (⟨"HoistsAreSharedModel", "isThing", "(I)Z"⟩, 13) := ⟨⟨by decide +kernel, by decide +kernel⟩, List.mem_of_getElem? (i := 662) (by decide +kernel), List.mem_of_getElem? (i := 756) (by decide +kernel), List.mem_of_getElem? (i := 757) (by decide +kernel)⟩
theorem lw_p34 : lw_okq (⟨"HoistsAreSharedModel", "nearestDoor", "(I)I"⟩, 13) := ⟨⟨by decide +kernel, by decide +kernel⟩, List.mem_of_getElem? (i := 662) (by decide +kernel), List.mem_of_getElem? (i := 804) (by decide +kernel), List.mem_of_getElem? (i := 805) (by decide +kernel)⟩
theorem lw_p35 : lw_okq (⟨"HoistsAreSharedModel", "onSide", "(I)I"⟩, 13) := ⟨⟨by decide +kernel, by decide +kernel⟩, List.mem_of_getElem? (i := 662) (by decide +kernel), List.mem_of_getElem? (i := 811) (by decide +kernel), List.mem_of_getElem? (i := 812) (by decide +kernel)⟩
theorem lw_p36 : lw_okq (⟨"HoistsAreSharedModel", "sets", "(II)I"⟩, 13) := ⟨⟨by decide +kernel, by decide +kernel⟩, List.mem_of_getElem? (i := 662) (by decide +kernel), List.mem_of_getElem? (i := 826) (by decide +kernel), List.mem_of_getElem? (i := 827) (by decide +kernel)⟩
theorem lw_p37 : lw_okq (⟨"HoistsAreSharedModel", "takes", "(I)V"⟩, 13) := ⟨⟨by decide +kernel, by decide +kernel⟩, List.mem_of_getElem? (i := 662) (by decide +kernel), List.mem_of_getElem? (i := 850) (by decide +kernel), List.mem_of_getElem? (i := 851) (by decide +kernel)⟩
theorem lw_p38 : lw_okq (⟨"HoistsAreSharedModel", "noFar", "(I)I"⟩, 13) := ⟨⟨by decide +kernel, by decide +kernel⟩, List.mem_of_getElem? (i := 662) (by decide +kernel), List.mem_of_getElem? (i := 862) (by decide +kernel), List.mem_of_getElem? (i := 863) (by decide +kernel)⟩
theorem lw_p39 : lw_okq (⟨"HoistsAreSharedModel", "whenAt", "(II)I"⟩, 13) := ⟨⟨by decide +kernel, by decide +kernel⟩, List.mem_of_getElem? (i := 662) (by decide +kernel), List.mem_of_getElem? (i := 871) (by decide +kernel), List.mem_of_getElem? (i := 872) (by decide +kernel)⟩
theorem lw_p40 : lw_okq (⟨"HoistsAreSharedModel", "still", "()I"⟩, 13) := ⟨⟨by decide +kernel, by decide +kernel⟩, List.mem_of_getElem? (i := 662) (by decide +kernel), List.mem_of_getElem? (i := 884) (by decide +kernel), List.mem_of_getElem? (i := 885) (by decide +kernel)⟩
theorem lw_p41 : lw_okq (⟨"HoistsAreSharedModel", "apartNow", "(I)I"⟩, 13) := ⟨⟨by decide +kernel, by decide +kernel⟩, List.mem_of_getElem? (i := 662) (by decide +kernel), List.mem_of_getElem? (i := 900) (by decide +kernel), List.mem_of_getElem? (i := 901) (by decide +kernel)⟩
theorem lw_p42 : lw_okq (⟨"HoistsAreSharedModel", "apartThen", "(I)I"⟩, 13) := ⟨⟨by decide +kernel, by decide +kernel⟩, List.mem_of_getElem? (i := 662) (by decide +kernel), List.mem_of_getElem? (i := 904) (by decide +kernel), List.mem_of_getElem? (i := 905) (by decide +kernel)⟩
theorem lw_p43 : lw_okq (⟨"HoistsAreSharedModel", "apartHung", "(III)I"⟩, 13) := ⟨⟨by decide +kernel, by decide +kernel⟩, List.mem_of_getElem? (i := 662) (by decide +kernel), List.mem_of_getElem? (i := 911) (by decide +kernel), List.mem_of_getElem? (i := 912) (by decide +kernel)⟩
theorem lw_p44 : lw_okq (⟨"HoistsAreSharedModel", "hasBy", "(IIIIII)I"⟩, 13) := ⟨⟨by decide +kernel, by decide +kernel⟩, List.mem_of_getElem? (i := 662) (by decide +kernel), List.mem_of_getElem? (i := 949) (by decide +kernel), List.mem_of_getElem? (i := 950) (by decide +kernel)⟩
theorem lw_p45 : lw_okq (⟨"HoistsAreSharedModel", "noWide", "(I)J"⟩, 13) := ⟨⟨by decide +kernel, by decide +kernel⟩, List.mem_of_getElem? (i := 662) (by decide +kernel), List.mem_of_getElem? (i := 957) (by decide +kernel), List.mem_of_getElem? (i := 958) (by decide +kernel)⟩
theorem lw_p46 : lw_okq (⟨"HoistsAreSharedModel", "allWeigh", "()I"⟩, 13) := ⟨⟨by decide +kernel, by decide +kernel⟩, List.mem_of_getElem? (i := 662) (by decide +kernel), List.mem_of_getElem? (i := 972) (by decide +kernel), List.mem_of_getElem? (i := 973) (by decide +kernel)⟩
theorem lw_p47 : lw_okq (⟨"HoistsAreSharedModel", "drawn", "(I)I"⟩, 13) := ⟨⟨by decide +kernel, by decide +kernel⟩, List.mem_of_getElem? (i := 662) (by decide +kernel), List.mem_of_getElem? (i := 996) (by decide +kernel), List.mem_of_getElem? (i := 997) (by decide +kernel)⟩
def lw_privs_3 : List (MethodName × Nat) := [(⟨"HoistsAreSharedModel", "isDone", "(I)Z"⟩, 13), (⟨"HoistsAreSharedModel", "isThing", "(I)Z"⟩, 13), (⟨"HoistsAreSharedModel", "nearestDoor", "(I)I"⟩, 13), (⟨"HoistsAreSharedModel", "onSide", "(I)I"⟩, 13), (⟨"HoistsAreSharedModel", "sets", "(II)I"⟩, 13), (⟨"HoistsAreSharedModel", "takes", "(I)V"⟩, 13), (⟨"HoistsAreSharedModel", "noFar", "(I)I"⟩, 13), (⟨"HoistsAreSharedModel", "whenAt", "(II)I"⟩, 13), (⟨"HoistsAreSharedModel", "still", "()I"⟩, 13), (⟨"HoistsAreSharedModel", "apartNow", "(I)I"⟩, 13), (⟨"HoistsAreSharedModel", "apartThen", "(I)I"⟩, 13), (⟨"HoistsAreSharedModel", "apartHung", "(III)I"⟩, 13), (⟨"HoistsAreSharedModel", "hasBy", "(IIIIII)I"⟩, 13), (⟨"HoistsAreSharedModel", "noWide", "(I)J"⟩, 13), (⟨"HoistsAreSharedModel", "allWeigh", "()I"⟩, 13), (⟨"HoistsAreSharedModel", "drawn", "(I)I"⟩, 13)]
theorem lw_r3 : ∀ q ∈ lw_privs_3, lw_okq q := List.forall_mem_cons.mpr ⟨lw_p32, List.forall_mem_cons.mpr ⟨lw_p33, List.forall_mem_cons.mpr ⟨lw_p34, List.forall_mem_cons.mpr ⟨lw_p35, List.forall_mem_cons.mpr ⟨lw_p36, List.forall_mem_cons.mpr ⟨lw_p37, List.forall_mem_cons.mpr ⟨lw_p38, List.forall_mem_cons.mpr ⟨lw_p39, List.forall_mem_cons.mpr ⟨lw_p40, List.forall_mem_cons.mpr ⟨lw_p41, List.forall_mem_cons.mpr ⟨lw_p42, List.forall_mem_cons.mpr ⟨lw_p43, List.forall_mem_cons.mpr ⟨lw_p44, List.forall_mem_cons.mpr ⟨lw_p45, List.forall_mem_cons.mpr ⟨lw_p46, List.forall_mem_cons.mpr ⟨lw_p47, fun _ h => absurd h List.not_mem_nil⟩⟩⟩⟩⟩⟩⟩⟩⟩⟩⟩⟩⟩⟩⟩⟩
def lw_privs : List (MethodName × Nat) := lw_privs_1 ++ (lw_privs_2 ++ (lw_privs_3))
def lw_tbl : List Cond := k2_sels lw_privs ++ tables_1
theorem lw_privs_ok : ∀ q ∈ lw_privs, lw_okq q := by
  show ∀ q ∈ lw_privs_1 ++ (lw_privs_2 ++ (lw_privs_3)), lw_okq q
  exact List.forall_mem_append.mpr ⟨lw_r1, List.forall_mem_append.mpr ⟨lw_r2, lw_r3⟩⟩
end
section
/-! ===== BEGIN words of one list among another's, by their places ===== -/
theorem goodIn_r {big : List Cond} (ws : List Cond) (ps : List Nat) (hp : ws = ps.filterMap (fun i => big[i]?)) (h : ws.all goodWord = true) : GoodIn big ws := by
  intro w hw
  have h1 := List.all_eq_true.mp h w hw
  rw [hp] at hw
  obtain ⟨i, -, hi⟩ := List.mem_filterMap.mp hw
  have hm : w ∈ big := by first | exact List.mem_of_getElem? hi | exact List.getElem?_mem hi
  exact ⟨hm, good_of_word h1⟩
theorem goodIn_app {big a b : List Cond} (ha : GoodIn big a) (hb : GoodIn big b) : GoodIn big (a ++ b) := fun w h => (List.mem_append.mp h).elim (ha w) (hb w)
theorem goodIn_ca {big a b : List Cond} {c : Cond} (ha : GoodIn big (c :: a)) (hb : GoodIn big b) : GoodIn big (c :: (a ++ b)) := fun w h => (List.mem_cons.mp h).elim (fun e => ha w (List.mem_cons.mpr (Or.inl e))) (fun h => (List.mem_append.mp h).elim (fun h => ha w (List.mem_cons.mpr (Or.inr h))) (hb w))
theorem goodIn_sub {big ws : List Cond} (hm : ∀ w ∈ ws, w ∈ big) (h : ws.all goodWord = true) : GoodIn big ws := fun w hw => ⟨hm w hw, good_of_word (List.all_eq_true.mp h w hw)⟩
/-! ===== END ===== -/

/-! ===== BEGIN printed: names, fields, word lists, decode rows ===== -/
def RX0 : String := "HoistsAreShared$Hoist"
def TX0 : u_T := fun k => match k with
  | 0 => ("HoistsAreShared$Hoist", "floor", "I", false)
  | 1 => ("HoistsAreShared$Hoist", "doorBits", "I", false)
  | 2 => ("HoistsAreShared$Hoist", "day", "I", false)
  | 3 => ("HoistsAreShared$Hoist", "things", "I", false)
  | 4 => ("HoistsAreShared$Hoist", "ballasts", "[I", true)
  | 5 => ("HoistsAreShared$Hoist", "kinds", "[I", true)
  | 6 => ("HoistsAreShared$Hoist", "figures", "[I", true)
  | 7 => ("HoistsAreShared$Hoist", "places", "[I", true)
  | _ => ("HoistsAreShared$Hoist", "sinces", "[I", true)
def tyX0 : Nat → FieldType := fun k => match k with
  | 0 => .int
  | 1 => .int
  | 2 => .int
  | 3 => .int
  | 4 => .array .int
  | 5 => .array .int
  | 6 => .array .int
  | 7 => .array .int
  | _ => .array .int
abbrev wsX00 : List Cond := u_ws RX0 TX0 9
theorem nmX0 : ∀ a, a < 9 → ∀ b, b < 9 → a ≠ b → (TX0 a).2.1 ≠ (TX0 b).2.1 := by decide +kernel
theorem tyX0_ok : ∀ k, k < 9 → parseFieldDescriptor (TX0 k).2.2.1 = some (tyX0 k) := by decide +kernel
abbrev cX0_init : ByteArray := prog_2_method_1_code
def yX0_init : MethodName := ⟨RX0, "<init>", "()V"⟩
abbrev cX0_copy : ByteArray := prog_2_method_2_code
def yX0_copy : MethodName := ⟨RX0, "copy", "(LHoistsAreShared$Hoist;)V"⟩
abbrev cX0_isSide : ByteArray := prog_2_method_3_code
def yX0_isSide : MethodName := ⟨RX0, "isSide", "(I)Z"⟩
abbrev cX0_isFloor : ByteArray := prog_2_method_4_code
def yX0_isFloor : MethodName := ⟨RX0, "isFloor", "(I)Z"⟩
abbrev cX0_isPlace : ByteArray := prog_2_method_5_code
def yX0_isPlace : MethodName := ⟨RX0, "isPlace", "(I)Z"⟩
abbrev cX0_isKind : ByteArray := prog_2_method_6_code
def yX0_isKind : MethodName := ⟨RX0, "isKind", "(I)Z"⟩
abbrev cX0_has : ByteArray := prog_2_method_7_code
def yX0_has : MethodName := ⟨RX0, "has", "(I)Z"⟩
abbrev cX0_kindOf : ByteArray := prog_2_method_8_code
def yX0_kindOf : MethodName := ⟨RX0, "kindOf", "(I)I"⟩
abbrev cX0_figureOf : ByteArray := prog_2_method_9_code
def yX0_figureOf : MethodName := ⟨RX0, "figureOf", "(I)I"⟩
abbrev cX0_placeOf : ByteArray := prog_2_method_10_code
def yX0_placeOf : MethodName := ⟨RX0, "placeOf", "(I)I"⟩
abbrev cX0_sinceOf : ByteArray := prog_2_method_11_code
def yX0_sinceOf : MethodName := ⟨RX0, "sinceOf", "(I)I"⟩
abbrev cX0_ballastOf : ByteArray := prog_2_method_12_code
def yX0_ballastOf : MethodName := ⟨RX0, "ballastOf", "(I)I"⟩
abbrev cX0_add : ByteArray := prog_2_method_13_code
def yX0_add : MethodName := ⟨RX0, "add", "(III)Z"⟩
abbrev cX0_put : ByteArray := prog_2_method_14_code
def yX0_put : MethodName := ⟨RX0, "put", "(II)Z"⟩
abbrev cX0_become : ByteArray := prog_2_method_15_code
def yX0_become : MethodName := ⟨RX0, "become", "(III)V"⟩
abbrev cX0_load : ByteArray := prog_2_method_16_code
def yX0_load : MethodName := ⟨RX0, "load", "(II)Z"⟩
abbrev cX0_lift : ByteArray := prog_2_method_17_code
def yX0_lift : MethodName := ⟨RX0, "lift", "(I)Z"⟩
abbrev cX0_switchDoor : ByteArray := prog_2_method_18_code
def yX0_switchDoor : MethodName := ⟨RX0, "switchDoor", "(I)Z"⟩
abbrev cX0_hasDays : ByteArray := prog_2_method_19_code
def yX0_hasDays : MethodName := ⟨RX0, "hasDays", "(I)Z"⟩
abbrev cX0_pass : ByteArray := prog_2_method_20_code
def yX0_pass : MethodName := ⟨RX0, "pass", "(I)Z"⟩
abbrev cX0_weighs : ByteArray := prog_2_method_21_code
def yX0_weighs : MethodName := ⟨RX0, "weighs", "(II)I"⟩
abbrev cX0_weighsAll : ByteArray := prog_2_method_22_code
def yX0_weighsAll : MethodName := ⟨RX0, "weighsAll", "()I"⟩
abbrev cX0_weightOf : ByteArray := prog_2_method_23_code
def yX0_weightOf : MethodName := ⟨RX0, "weightOf", "(I)I"⟩
abbrev cX0_bitsAt : ByteArray := prog_2_method_24_code
def yX0_bitsAt : MethodName := ⟨RX0, "bitsAt", "(I)I"⟩
abbrev cX0_pullAfter : ByteArray := prog_2_method_25_code
def yX0_pullAfter : MethodName := ⟨RX0, "pullAfter", "(I)I"⟩
abbrev cX0_speedBy : ByteArray := prog_2_method_26_code
def yX0_speedBy : MethodName := ⟨RX0, "speedBy", "(I)I"⟩
abbrev cX0_moved : ByteArray := prog_2_method_27_code
def yX0_moved : MethodName := ⟨RX0, "moved", "(II)I"⟩
abbrev cX0_floorAfter : ByteArray := prog_2_method_28_code
def yX0_floorAfter : MethodName := ⟨RX0, "floorAfter", "(I)I"⟩
abbrev cX0_foresee : ByteArray := prog_2_method_29_code
def yX0_foresee : MethodName := ⟨RX0, "foresee", "([II)V"⟩
abbrev cX0_heightOf : ByteArray := prog_2_method_30_code
def yX0_heightOf : MethodName := ⟨RX0, "heightOf", "(II)I"⟩
abbrev cX0_apartAt : ByteArray := prog_2_method_31_code
def yX0_apartAt : MethodName := ⟨RX0, "apartAt", "(I)I"⟩
abbrev cX0_apartAfter : ByteArray := prog_2_method_32_code
def yX0_apartAfter : MethodName := ⟨RX0, "apartAfter", "(I)I"⟩
abbrev cX0_isDoor : ByteArray := prog_2_method_33_code
def yX0_isDoor : MethodName := ⟨RX0, "isDoor", "(I)Z"⟩
abbrev cX0_openAt : ByteArray := prog_2_method_34_code
def yX0_openAt : MethodName := ⟨RX0, "openAt", "(I)I"⟩
abbrev cX0_nearestDoor : ByteArray := prog_2_method_35_code
def yX0_nearestDoor : MethodName := ⟨RX0, "nearestDoor", "(I)I"⟩
def RX1 : String := "HoistsAreShared$Telling"
def TX1 : u_T := fun k => match k with
  | 0 => ("HoistsAreShared$Telling", "told", "I", false)
  | _ => ("HoistsAreShared$Telling", "letters", "[I", true)
def tyX1 : Nat → FieldType := fun k => match k with
  | 0 => .int
  | _ => .array .int
abbrev wsX10 : List Cond := u_ws RX1 TX1 2
theorem nmX1 : ∀ a, a < 2 → ∀ b, b < 2 → a ≠ b → (TX1 a).2.1 ≠ (TX1 b).2.1 := by decide +kernel
theorem tyX1_ok : ∀ k, k < 2 → parseFieldDescriptor (TX1 k).2.2.1 = some (tyX1 k) := by decide +kernel
abbrev cX1_init : ByteArray := prog_3_method_1_code
def yX1_init : MethodName := ⟨RX1, "<init>", "()V"⟩
abbrev cX1_isFull : ByteArray := prog_3_method_2_code
def yX1_isFull : MethodName := ⟨RX1, "isFull", "()Z"⟩
abbrev cX1_add : ByteArray := prog_3_method_3_code
def yX1_add : MethodName := ⟨RX1, "add", "(I)V"⟩
abbrev cX1_forget : ByteArray := prog_3_method_4_code
def yX1_forget : MethodName := ⟨RX1, "forget", "()V"⟩
abbrev cX1_tell : ByteArray := prog_3_method_5_code
def yX1_tell : MethodName := ⟨RX1, "tell", "(LHoistsAreShared$Hoist;)I"⟩
abbrev cX1_brokenAt : ByteArray := prog_3_method_6_code
def yX1_brokenAt : MethodName := ⟨RX1, "brokenAt", "()I"⟩
abbrev cX1_goesOn : ByteArray := prog_3_method_7_code
def yX1_goesOn : MethodName := ⟨RX1, "goesOn", "(II)Z"⟩
abbrev cX1_lengthOf : ByteArray := prog_3_method_8_code
def yX1_lengthOf : MethodName := ⟨RX1, "lengthOf", "(I)I"⟩
abbrev cX1_tellStatement : ByteArray := prog_3_method_9_code
def yX1_tellStatement : MethodName := ⟨RX1, "tellStatement", "(LHoistsAreShared$Hoist;I)Z"⟩
abbrev cX1_letterAt : ByteArray := prog_3_method_10_code
def yX1_letterAt : MethodName := ⟨RX1, "letterAt", "(I)I"⟩
abbrev cX1_digit : ByteArray := prog_3_method_11_code
def yX1_digit : MethodName := ⟨RX1, "digit", "(I)I"⟩
abbrev cX1_number : ByteArray := prog_3_method_12_code
def yX1_number : MethodName := ⟨RX1, "number", "(I)I"⟩
def RX2 : String := "HoistsAreShared"
def TX2 : u_T := fun k => match k with
  | 0 => ("HoistsAreShared", "now", "LHoistsAreShared$Hoist;", true)
  | 1 => ("HoistsAreShared", "mind", "LHoistsAreShared$Hoist;", true)
  | 2 => ("HoistsAreShared", "kept", "LHoistsAreShared$Hoist;", true)
  | 3 => ("HoistsAreShared", "telling", "LHoistsAreShared$Telling;", true)
  | 4 => ("HoistsAreShared", "path", "[I", true)
  | 5 => ("HoistsAreShared", "pulls", "[I", true)
  | 6 => ("HoistsAreShared", "shifts", "[I", true)
  | 7 => ("HoistsAreShared", "outcomes", "[I", true)
  | 8 => ("HoistsAreShared", "odds", "[J", true)
  | 9 => ("HoistsAreShared", "nextOdds", "[J", true)
  | 10 => ("HoistsAreShared", "numbers", "[I", true)
  | 11 => ("HoistsAreShared", "refusals", "[I", true)
  | 12 => ("HoistsAreShared", "rowLength", "I", false)
  | _ => ("HoistsAreShared", "imaged", "Z", false)
def tyX2 : Nat → FieldType := fun k => match k with
  | 0 => .object "HoistsAreShared$Hoist"
  | 1 => .object "HoistsAreShared$Hoist"
  | 2 => .object "HoistsAreShared$Hoist"
  | 3 => .object "HoistsAreShared$Telling"
  | 4 => .array .int
  | 5 => .array .int
  | 6 => .array .int
  | 7 => .array .int
  | 8 => .array .long
  | 9 => .array .long
  | 10 => .array .int
  | 11 => .array .int
  | 12 => .int
  | _ => .boolean
abbrev wsX20 : List Cond := u_ws RX2 TX2 14
theorem nmX2 : ∀ a, a < 14 → ∀ b, b < 14 → a ≠ b → (TX2 a).2.1 ≠ (TX2 b).2.1 := by decide +kernel
theorem tyX2_ok : ∀ k, k < 14 → parseFieldDescriptor (TX2 k).2.2.1 = some (tyX2 k) := by decide +kernel
abbrev cX2_init : ByteArray := prog_1_method_1_code
def yX2_init : MethodName := ⟨RX2, "<init>", "()V"⟩
abbrev cX2_letter : ByteArray := prog_1_method_2_code
def yX2_letter : MethodName := ⟨RX2, "letter", "(I)I"⟩
abbrev cX2_hoist : ByteArray := prog_1_method_3_code
def yX2_hoist : MethodName := ⟨RX2, "hoist", "()I"⟩
abbrev cX2_thing : ByteArray := prog_1_method_4_code
def yX2_thing : MethodName := ⟨RX2, "thing", "(II)I"⟩
abbrev cX2_side : ByteArray := prog_1_method_5_code
def yX2_side : MethodName := ⟨RX2, "side", "(II)I"⟩
abbrev cX2_hangs : ByteArray := prog_1_method_6_code
def yX2_hangs : MethodName := ⟨RX2, "hangs", "(II)I"⟩
abbrev cX2_loads : ByteArray := prog_1_method_7_code
def yX2_loads : MethodName := ⟨RX2, "loads", "(II)I"⟩
abbrev cX2_lifts : ByteArray := prog_1_method_8_code
def yX2_lifts : MethodName := ⟨RX2, "lifts", "(I)I"⟩
abbrev cX2_doors : ByteArray := prog_1_method_9_code
def yX2_doors : MethodName := ⟨RX2, "doors", "(I)I"⟩
abbrev cX2_turn : ByteArray := prog_1_method_10_code
def yX2_turn : MethodName := ⟨RX2, "turn", "(III)I"⟩
abbrev cX2_days : ByteArray := prog_1_method_11_code
def yX2_days : MethodName := ⟨RX2, "days", "(I)I"⟩
abbrev cX2_floorThen : ByteArray := prog_1_method_12_code
def yX2_floorThen : MethodName := ⟨RX2, "floorThen", "(II)I"⟩
abbrev cX2_weighsThen : ByteArray := prog_1_method_13_code
def yX2_weighsThen : MethodName := ⟨RX2, "weighsThen", "(II)I"⟩
abbrev cX2_pull : ByteArray := prog_1_method_14_code
def yX2_pull : MethodName := ⟨RX2, "pull", "(I)I"⟩
abbrev cX2_meets : ByteArray := prog_1_method_15_code
def yX2_meets : MethodName := ⟨RX2, "meets", "()I"⟩
abbrev cX2_comes : ByteArray := prog_1_method_16_code
def yX2_comes : MethodName := ⟨RX2, "comes", "(II)I"⟩
abbrev cX2_strikes : ByteArray := prog_1_method_17_code
def yX2_strikes : MethodName := ⟨RX2, "strikes", "(I)I"⟩
abbrev cX2_door : ByteArray := prog_1_method_18_code
def yX2_door : MethodName := ⟨RX2, "door", "(I)I"⟩
abbrev cX2_level : ByteArray := prog_1_method_19_code
def yX2_level : MethodName := ⟨RX2, "level", "(I)I"⟩
abbrev cX2_take : ByteArray := prog_1_method_20_code
def yX2_take : MethodName := ⟨RX2, "take", "(I)I"⟩
abbrev cX2_hang : ByteArray := prog_1_method_21_code
def yX2_hang : MethodName := ⟨RX2, "hang", "(I)I"⟩
abbrev cX2_change : ByteArray := prog_1_method_22_code
def yX2_change : MethodName := ⟨RX2, "change", "()I"⟩
abbrev cX2_ballast : ByteArray := prog_1_method_23_code
def yX2_ballast : MethodName := ⟨RX2, "ballast", "(III)I"⟩
abbrev cX2_mustWeigh : ByteArray := prog_1_method_24_code
def yX2_mustWeigh : MethodName := ⟨RX2, "mustWeigh", "(III)I"⟩
abbrev cX2_bestKind : ByteArray := prog_1_method_25_code
def yX2_bestKind : MethodName := ⟨RX2, "bestKind", "(III)I"⟩
abbrev cX2_heaviest : ByteArray := prog_1_method_26_code
def yX2_heaviest : MethodName := ⟨RX2, "heaviest", "(I)I"⟩
abbrev cX2_two : ByteArray := prog_1_method_27_code
def yX2_two : MethodName := ⟨RX2, "two", "(III)I"⟩
abbrev cX2_draught : ByteArray := prog_1_method_28_code
def yX2_draught : MethodName := ⟨RX2, "draught", "(IIII)J"⟩
abbrev cX2_mean : ByteArray := prog_1_method_29_code
def yX2_mean : MethodName := ⟨RX2, "mean", "(I)J"⟩
abbrev cX2_whatIs : ByteArray := prog_1_method_30_code
def yX2_whatIs : MethodName := ⟨RX2, "whatIs", "(II)I"⟩
abbrev cX2_row : ByteArray := prog_1_method_31_code
def yX2_row : MethodName := ⟨RX2, "row", "(I)I"⟩
abbrev cX2_judge : ByteArray := prog_1_method_32_code
def yX2_judge : MethodName := ⟨RX2, "judge", "()I"⟩
abbrev cX2_clear : ByteArray := prog_1_method_33_code
def yX2_clear : MethodName := ⟨RX2, "clear", "()I"⟩
abbrev cX2_lots : ByteArray := prog_1_method_34_code
def yX2_lots : MethodName := ⟨RX2, "lots", "(III)I"⟩
abbrev cX2_image : ByteArray := prog_1_method_35_code
def yX2_image : MethodName := ⟨RX2, "image", "()I"⟩
abbrev cX2_on : ByteArray := prog_1_method_36_code
def yX2_on : MethodName := ⟨RX2, "on", "()I"⟩
abbrev cX2_count : ByteArray := prog_1_method_37_code
def yX2_count : MethodName := ⟨RX2, "count", "(I)I"⟩
abbrev cX2_refuse : ByteArray := prog_1_method_38_code
def yX2_refuse : MethodName := ⟨RX2, "refuse", "(I)I"⟩
abbrev cX2_refusalsOf : ByteArray := prog_1_method_39_code
def yX2_refusalsOf : MethodName := ⟨RX2, "refusalsOf", "(I)I"⟩
abbrev cX2_faultOf : ByteArray := prog_1_method_40_code
def yX2_faultOf : MethodName := ⟨RX2, "faultOf", "(III)I"⟩
abbrev cX2_howFar : ByteArray := prog_1_method_41_code
def yX2_howFar : MethodName := ⟨RX2, "howFar", "(I)I"⟩
abbrev cX2_firstAt : ByteArray := prog_1_method_42_code
def yX2_firstAt : MethodName := ⟨RX2, "firstAt", "(II)I"⟩
abbrev cX2_firstStrike : ByteArray := prog_1_method_43_code
def yX2_firstStrike : MethodName := ⟨RX2, "firstStrike", "()I"⟩
abbrev cX2_firstStill : ByteArray := prog_1_method_44_code
def yX2_firstStill : MethodName := ⟨RX2, "firstStill", "()I"⟩
abbrev cX2_apartIfPut : ByteArray := prog_1_method_45_code
def yX2_apartIfPut : MethodName := ⟨RX2, "apartIfPut", "(III)I"⟩
abbrev cX2_reckonShifts : ByteArray := prog_1_method_46_code
def yX2_reckonShifts : MethodName := ⟨RX2, "reckonShifts", "()V"⟩
abbrev cX2_shiftOf : ByteArray := prog_1_method_47_code
def yX2_shiftOf : MethodName := ⟨RX2, "shiftOf", "(I)I"⟩
abbrev cX2_reckonPulls : ByteArray := prog_1_method_48_code
def yX2_reckonPulls : MethodName := ⟨RX2, "reckonPulls", "(I)V"⟩
abbrev cX2_apartIfPulled : ByteArray := prog_1_method_49_code
def yX2_apartIfPulled : MethodName := ⟨RX2, "apartIfPulled", "(II)I"⟩
abbrev cX2_outweighing : ByteArray := prog_1_method_50_code
def yX2_outweighing : MethodName := ⟨RX2, "outweighing", "(I)I"⟩
abbrev cX2_gaining : ByteArray := prog_1_method_51_code
def yX2_gaining : MethodName := ⟨RX2, "gaining", "(I)I"⟩
abbrev cX2_reckonOutcomes : ByteArray := prog_1_method_52_code
def yX2_reckonOutcomes : MethodName := ⟨RX2, "reckonOutcomes", "(III)V"⟩
abbrev cX2_isSettled : ByteArray := prog_1_method_53_code
def yX2_isSettled : MethodName := ⟨RX2, "isSettled", "(III)Z"⟩
abbrev cX2_gain : ByteArray := prog_1_method_54_code
def yX2_gain : MethodName := ⟨RX2, "gain", "(III)I"⟩
abbrev cX2_reckonOdds : ByteArray := prog_1_method_55_code
def yX2_reckonOdds : MethodName := ⟨RX2, "reckonOdds", "(II)J"⟩
abbrev cX2_spreadOdds : ByteArray := prog_1_method_56_code
def yX2_spreadOdds : MethodName := ⟨RX2, "spreadOdds", "(II)V"⟩
abbrev cX2_partOf : ByteArray := prog_1_method_57_code
def yX2_partOf : MethodName := ⟨RX2, "partOf", "(JJI)J"⟩
abbrev cX2_greatestDivisor : ByteArray := prog_1_method_58_code
def yX2_greatestDivisor : MethodName := ⟨RX2, "greatestDivisor", "(JJ)J"⟩
abbrev cX2_kindsByRow : ByteArray := prog_1_method_59_code
def yX2_kindsByRow : MethodName := ⟨RX2, "kindsByRow", "(I)I"⟩
abbrev cX2_figuresByRow : ByteArray := prog_1_method_60_code
def yX2_figuresByRow : MethodName := ⟨RX2, "figuresByRow", "(I)I"⟩
abbrev cX2_isAsRowTells : ByteArray := prog_1_method_61_code
def yX2_isAsRowTells : MethodName := ⟨RX2, "isAsRowTells", "()Z"⟩
abbrev cX2_nextSeed : ByteArray := prog_1_method_62_code
def yX2_nextSeed : MethodName := ⟨RX2, "nextSeed", "(I)I"⟩
abbrev cX2_drawPlace : ByteArray := prog_1_method_63_code
def yX2_drawPlace : MethodName := ⟨RX2, "drawPlace", "(I)I"⟩
def RX3 : String := "HoistsAreSharedModel"
def TX3 : u_T := fun k => match k with
  | 0 => ("HoistsAreSharedModel", "s", "[I", true)
  | 1 => ("HoistsAreSharedModel", "m", "[I", true)
  | 2 => ("HoistsAreSharedModel", "image", "[I", true)
  | 3 => ("HoistsAreSharedModel", "was", "[I", true)
  | 4 => ("HoistsAreSharedModel", "hasImage", "Z", false)
  | 5 => ("HoistsAreSharedModel", "letters", "[I", true)
  | 6 => ("HoistsAreSharedModel", "row", "[I", true)
  | 7 => ("HoistsAreSharedModel", "refused", "[I", true)
  | 8 => ("HoistsAreSharedModel", "letterMany", "I", false)
  | 9 => ("HoistsAreSharedModel", "rowMany", "I", false)
  | 10 => ("HoistsAreSharedModel", "place", "I", false)
  | 11 => ("HoistsAreSharedModel", "numbers", "[I", true)
  | _ => ("HoistsAreSharedModel", "seed", "I", false)
def tyX3 : Nat → FieldType := fun k => match k with
  | 0 => .array .int
  | 1 => .array .int
  | 2 => .array .int
  | 3 => .array .int
  | 4 => .boolean
  | 5 => .array .int
  | 6 => .array .int
  | 7 => .array .int
  | 8 => .int
  | 9 => .int
  | 10 => .int
  | 11 => .array .int
  | _ => .int
abbrev wsX30 : List Cond := u_ws RX3 TX3 13
theorem nmX3 : ∀ a, a < 13 → ∀ b, b < 13 → a ≠ b → (TX3 a).2.1 ≠ (TX3 b).2.1 := by decide +kernel
theorem tyX3_ok : ∀ k, k < 13 → parseFieldDescriptor (TX3 k).2.2.1 = some (tyX3 k) := by decide +kernel
abbrev cX3_init : ByteArray := prog_5_method_1_code
def yX3_init : MethodName := ⟨RX3, "<init>", "()V"⟩
abbrev cX3_isIn : ByteArray := prog_5_method_2_code
def yX3_isIn : MethodName := ⟨RX3, "isIn", "(III)Z"⟩
abbrev cX3_least : ByteArray := prog_5_method_3_code
def yX3_least : MethodName := ⟨RX3, "least", "(II)I"⟩
abbrev cX3_sized : ByteArray := prog_5_method_4_code
def yX3_sized : MethodName := ⟨RX3, "sized", "(I)I"⟩
abbrev cX3_copies : ByteArray := prog_5_method_5_code
def yX3_copies : MethodName := ⟨RX3, "copies", "([I[I)V"⟩
abbrev cX3_no : ByteArray := prog_5_method_6_code
def yX3_no : MethodName := ⟨RX3, "no", "(I)I"⟩
abbrev cX3_noFar : ByteArray := prog_5_method_7_code
def yX3_noFar : MethodName := ⟨RX3, "noFar", "(I)I"⟩
abbrev cX3_noWide : ByteArray := prog_5_method_8_code
def yX3_noWide : MethodName := ⟨RX3, "noWide", "(I)J"⟩
abbrev cX3_of : ByteArray := prog_5_method_9_code
def yX3_of : MethodName := ⟨RX3, "of", "(II)I"⟩
abbrev cX3_isThing : ByteArray := prog_5_method_10_code
def yX3_isThing : MethodName := ⟨RX3, "isThing", "(I)Z"⟩
abbrev cX3_isSide : ByteArray := prog_5_method_11_code
def yX3_isSide : MethodName := ⟨RX3, "isSide", "(I)Z"⟩
abbrev cX3_isFloor : ByteArray := prog_5_method_12_code
def yX3_isFloor : MethodName := ⟨RX3, "isFloor", "(I)Z"⟩
abbrev cX3_has : ByteArray := prog_5_method_13_code
def yX3_has : MethodName := ⟨RX3, "has", "(II)Z"⟩
abbrev cX3_bits : ByteArray := prog_5_method_14_code
def yX3_bits : MethodName := ⟨RX3, "bits", "(I)I"⟩
abbrev cX3_weighsBy : ByteArray := prog_5_method_15_code
def yX3_weighsBy : MethodName := ⟨RX3, "weighsBy", "(IIII)I"⟩
abbrev cX3_weighsOn : ByteArray := prog_5_method_16_code
def yX3_weighsOn : MethodName := ⟨RX3, "weighsOn", "([III)I"⟩
abbrev cX3_weighs : ByteArray := prog_5_method_17_code
def yX3_weighs : MethodName := ⟨RX3, "weighs", "([II)I"⟩
abbrev cX3_weight : ByteArray := prog_5_method_18_code
def yX3_weight : MethodName := ⟨RX3, "weight", "([II)I"⟩
abbrev cX3_pullIn : ByteArray := prog_5_method_19_code
def yX3_pullIn : MethodName := ⟨RX3, "pullIn", "([I)I"⟩
abbrev cX3_floorOf : ByteArray := prog_5_method_20_code
def yX3_floorOf : MethodName := ⟨RX3, "floorOf", "([II)I"⟩
abbrev cX3_isAtDoor : ByteArray := prog_5_method_21_code
def yX3_isAtDoor : MethodName := ⟨RX3, "isAtDoor", "([II)Z"⟩
abbrev cX3_apart : ByteArray := prog_5_method_22_code
def yX3_apart : MethodName := ⟨RX3, "apart", "([I)I"⟩
abbrev cX3_day : ByteArray := prog_5_method_23_code
def yX3_day : MethodName := ⟨RX3, "day", "([II)V"⟩
abbrev cX3_daysOn : ByteArray := prog_5_method_24_code
def yX3_daysOn : MethodName := ⟨RX3, "daysOn", "([II)V"⟩
abbrev cX3_hangsIn : ByteArray := prog_5_method_25_code
def yX3_hangsIn : MethodName := ⟨RX3, "hangsIn", "([III)V"⟩
abbrev cX3_letter : ByteArray := prog_5_method_26_code
def yX3_letter : MethodName := ⟨RX3, "letter", "(I)I"⟩
abbrev cX3_here : ByteArray := prog_5_method_27_code
def yX3_here : MethodName := ⟨RX3, "here", "()I"⟩
abbrev cX3_readsNumber : ByteArray := prog_5_method_28_code
def yX3_readsNumber : MethodName := ⟨RX3, "readsNumber", "(II)Z"⟩
abbrev cX3_kindBy : ByteArray := prog_5_method_29_code
def yX3_kindBy : MethodName := ⟨RX3, "kindBy", "(I)I"⟩
abbrev cX3_readsKind : ByteArray := prog_5_method_30_code
def yX3_readsKind : MethodName := ⟨RX3, "readsKind", "()Z"⟩
abbrev cX3_readsStatement : ByteArray := prog_5_method_31_code
def yX3_readsStatement : MethodName := ⟨RX3, "readsStatement", "()Z"⟩
abbrev cX3_isDone : ByteArray := prog_5_method_32_code
def yX3_isDone : MethodName := ⟨RX3, "isDone", "(I)Z"⟩
abbrev cX3_hoist : ByteArray := prog_5_method_33_code
def yX3_hoist : MethodName := ⟨RX3, "hoist", "()I"⟩
abbrev cX3_thing : ByteArray := prog_5_method_34_code
def yX3_thing : MethodName := ⟨RX3, "thing", "(II)I"⟩
abbrev cX3_onSide : ByteArray := prog_5_method_35_code
def yX3_onSide : MethodName := ⟨RX3, "onSide", "(I)I"⟩
abbrev cX3_nearestDoor : ByteArray := prog_5_method_36_code
def yX3_nearestDoor : MethodName := ⟨RX3, "nearestDoor", "(I)I"⟩
abbrev cX3_side : ByteArray := prog_5_method_37_code
def yX3_side : MethodName := ⟨RX3, "side", "(II)I"⟩
abbrev cX3_hangs : ByteArray := prog_5_method_38_code
def yX3_hangs : MethodName := ⟨RX3, "hangs", "(II)I"⟩
abbrev cX3_wrongBy : ByteArray := prog_5_method_39_code
def yX3_wrongBy : MethodName := ⟨RX3, "wrongBy", "(III)I"⟩
abbrev cX3_sets : ByteArray := prog_5_method_40_code
def yX3_sets : MethodName := ⟨RX3, "sets", "(II)I"⟩
abbrev cX3_loads : ByteArray := prog_5_method_41_code
def yX3_loads : MethodName := ⟨RX3, "loads", "(II)I"⟩
abbrev cX3_lifts : ByteArray := prog_5_method_42_code
def yX3_lifts : MethodName := ⟨RX3, "lifts", "(I)I"⟩
abbrev cX3_doors : ByteArray := prog_5_method_43_code
def yX3_doors : MethodName := ⟨RX3, "doors", "(I)I"⟩
abbrev cX3_turn : ByteArray := prog_5_method_44_code
def yX3_turn : MethodName := ⟨RX3, "turn", "(III)I"⟩
abbrev cX3_days : ByteArray := prog_5_method_45_code
def yX3_days : MethodName := ⟨RX3, "days", "(I)I"⟩
abbrev cX3_takes : ByteArray := prog_5_method_46_code
def yX3_takes : MethodName := ⟨RX3, "takes", "(I)V"⟩
abbrev cX3_floorThen : ByteArray := prog_5_method_47_code
def yX3_floorThen : MethodName := ⟨RX3, "floorThen", "(II)I"⟩
abbrev cX3_weighsThen : ByteArray := prog_5_method_48_code
def yX3_weighsThen : MethodName := ⟨RX3, "weighsThen", "(II)I"⟩
abbrev cX3_pull : ByteArray := prog_5_method_49_code
def yX3_pull : MethodName := ⟨RX3, "pull", "(I)I"⟩
abbrev cX3_whenAt : ByteArray := prog_5_method_50_code
def yX3_whenAt : MethodName := ⟨RX3, "whenAt", "(II)I"⟩
abbrev cX3_meets : ByteArray := prog_5_method_51_code
def yX3_meets : MethodName := ⟨RX3, "meets", "()I"⟩
abbrev cX3_comes : ByteArray := prog_5_method_52_code
def yX3_comes : MethodName := ⟨RX3, "comes", "(II)I"⟩
abbrev cX3_still : ByteArray := prog_5_method_53_code
def yX3_still : MethodName := ⟨RX3, "still", "()I"⟩
abbrev cX3_strikes : ByteArray := prog_5_method_54_code
def yX3_strikes : MethodName := ⟨RX3, "strikes", "(I)I"⟩
abbrev cX3_door : ByteArray := prog_5_method_55_code
def yX3_door : MethodName := ⟨RX3, "door", "(I)I"⟩
abbrev cX3_level : ByteArray := prog_5_method_56_code
def yX3_level : MethodName := ⟨RX3, "level", "(I)I"⟩
abbrev cX3_apartThen : ByteArray := prog_5_method_57_code
def yX3_apartThen : MethodName := ⟨RX3, "apartThen", "(I)I"⟩
abbrev cX3_apartNow : ByteArray := prog_5_method_58_code
def yX3_apartNow : MethodName := ⟨RX3, "apartNow", "(I)I"⟩
abbrev cX3_apartHung : ByteArray := prog_5_method_59_code
def yX3_apartHung : MethodName := ⟨RX3, "apartHung", "(III)I"⟩
abbrev cX3_take : ByteArray := prog_5_method_60_code
def yX3_take : MethodName := ⟨RX3, "take", "(I)I"⟩
abbrev cX3_hang : ByteArray := prog_5_method_61_code
def yX3_hang : MethodName := ⟨RX3, "hang", "(I)I"⟩
abbrev cX3_change : ByteArray := prog_5_method_62_code
def yX3_change : MethodName := ⟨RX3, "change", "()I"⟩
abbrev cX3_ballast : ByteArray := prog_5_method_63_code
def yX3_ballast : MethodName := ⟨RX3, "ballast", "(III)I"⟩
abbrev cX3_mustWeigh : ByteArray := prog_5_method_64_code
def yX3_mustWeigh : MethodName := ⟨RX3, "mustWeigh", "(III)I"⟩
abbrev cX3_bestKind : ByteArray := prog_5_method_65_code
def yX3_bestKind : MethodName := ⟨RX3, "bestKind", "(III)I"⟩
abbrev cX3_heaviest : ByteArray := prog_5_method_66_code
def yX3_heaviest : MethodName := ⟨RX3, "heaviest", "(I)I"⟩
abbrev cX3_hasBy : ByteArray := prog_5_method_67_code
def yX3_hasBy : MethodName := ⟨RX3, "hasBy", "(IIIIII)I"⟩
abbrev cX3_two : ByteArray := prog_5_method_68_code
def yX3_two : MethodName := ⟨RX3, "two", "(III)I"⟩
abbrev cX3_gcd : ByteArray := prog_5_method_69_code
def yX3_gcd : MethodName := ⟨RX3, "gcd", "(JJ)J"⟩
abbrev cX3_partOf : ByteArray := prog_5_method_70_code
def yX3_partOf : MethodName := ⟨RX3, "partOf", "(JJI)J"⟩
abbrev cX3_draught : ByteArray := prog_5_method_71_code
def yX3_draught : MethodName := ⟨RX3, "draught", "(IIII)J"⟩
abbrev cX3_allWeigh : ByteArray := prog_5_method_72_code
def yX3_allWeigh : MethodName := ⟨RX3, "allWeigh", "()I"⟩
abbrev cX3_mean : ByteArray := prog_5_method_73_code
def yX3_mean : MethodName := ⟨RX3, "mean", "(I)J"⟩
abbrev cX3_whatIs : ByteArray := prog_5_method_74_code
def yX3_whatIs : MethodName := ⟨RX3, "whatIs", "(II)I"⟩
abbrev cX3_row : ByteArray := prog_5_method_75_code
def yX3_row : MethodName := ⟨RX3, "row", "(I)I"⟩
abbrev cX3_judge : ByteArray := prog_5_method_76_code
def yX3_judge : MethodName := ⟨RX3, "judge", "()I"⟩
abbrev cX3_clear : ByteArray := prog_5_method_77_code
def yX3_clear : MethodName := ⟨RX3, "clear", "()I"⟩
abbrev cX3_drawn : ByteArray := prog_5_method_78_code
def yX3_drawn : MethodName := ⟨RX3, "drawn", "(I)I"⟩
abbrev cX3_lots : ByteArray := prog_5_method_79_code
def yX3_lots : MethodName := ⟨RX3, "lots", "(III)I"⟩
abbrev cX3_image : ByteArray := prog_5_method_80_code
def yX3_image : MethodName := ⟨RX3, "image", "()I"⟩
abbrev cX3_on : ByteArray := prog_5_method_81_code
def yX3_on : MethodName := ⟨RX3, "on", "()I"⟩
abbrev cX3_count : ByteArray := prog_5_method_82_code
def yX3_count : MethodName := ⟨RX3, "count", "(I)I"⟩
def RJ11 : String := "java/lang/Character"
def TJ11 : u_T := fun k => match k with
  | _ => ("", "", "", false)
def tyJ11 : Nat → FieldType := fun k => match k with
  | _ => .int
abbrev wsJ110 : List Cond := u_ws RJ11 TJ11 0
theorem nmJ11 : ∀ a, a < 0 → ∀ b, b < 0 → a ≠ b → (TJ11 a).2.1 ≠ (TJ11 b).2.1 := by decide +kernel
theorem tyJ11_ok : ∀ k, k < 0 → parseFieldDescriptor (TJ11 k).2.2.1 = some (tyJ11 k) := by decide +kernel
abbrev cJ11_isValidCodePoint_9a6ad : ByteArray := prog_6_method_11_code
def yJ11_isValidCodePoint_9a6ad : MethodName := ⟨RJ11, "isValidCodePoint", "(I)Z"⟩
abbrev cJ11_highSurrogate_5068e : ByteArray := prog_6_method_28_code
def yJ11_highSurrogate_5068e : MethodName := ⟨RJ11, "highSurrogate", "(I)C"⟩
abbrev cJ11_lowSurrogate_5068e : ByteArray := prog_6_method_29_code
def yJ11_lowSurrogate_5068e : MethodName := ⟨RJ11, "lowSurrogate", "(I)C"⟩
def RJ6 : String := "java/lang/Integer"
def TJ6 : u_T := fun k => match k with
  | _ => ("", "", "", false)
def tyJ6 : Nat → FieldType := fun k => match k with
  | _ => .int
abbrev wsJ60 : List Cond := u_ws RJ6 TJ6 0
theorem nmJ6 : ∀ a, a < 0 → ∀ b, b < 0 → a ≠ b → (TJ6 a).2.1 ≠ (TJ6 b).2.1 := by decide +kernel
theorem tyJ6_ok : ∀ k, k < 0 → parseFieldDescriptor (TJ6 k).2.2.1 = some (tyJ6 k) := by decide +kernel
abbrev cJ6_bitCount_0f7a4 : ByteArray := prog_7_method_49_code
def yJ6_bitCount_0f7a4 : MethodName := ⟨RJ6, "bitCount", "(I)I"⟩
def RJ9 : String := "java/lang/Math"
def TJ9 : u_T := fun k => match k with
  | _ => ("", "", "", false)
def tyJ9 : Nat → FieldType := fun k => match k with
  | _ => .int
abbrev wsJ90 : List Cond := u_ws RJ9 TJ9 0
theorem nmJ9 : ∀ a, a < 0 → ∀ b, b < 0 → a ≠ b → (TJ9 a).2.1 ≠ (TJ9 b).2.1 := by decide +kernel
theorem tyJ9_ok : ∀ k, k < 0 → parseFieldDescriptor (TJ9 k).2.2.1 = some (tyJ9 k) := by decide +kernel
abbrev cJ9_abs_0f7a4 : ByteArray := prog_8_method_59_code
def yJ9_abs_0f7a4 : MethodName := ⟨RJ9, "abs", "(I)I"⟩
abbrev cJ9_max_7cf53 : ByteArray := prog_8_method_65_code
def yJ9_max_7cf53 : MethodName := ⟨RJ9, "max", "(II)I"⟩
abbrev cJ9_min_7cf53 : ByteArray := prog_8_method_69_code
def yJ9_min_7cf53 : MethodName := ⟨RJ9, "min", "(II)I"⟩
def RJ0 : String := "java/lang/String"
def TJ0 : u_T := fun k => match k with
  | _ => ("", "", "", false)
def tyJ0 : Nat → FieldType := fun k => match k with
  | _ => .int
abbrev wsJ00 : List Cond := u_ws RJ0 TJ0 0
theorem nmJ0 : ∀ a, a < 0 → ∀ b, b < 0 → a ≠ b → (TJ0 a).2.1 ≠ (TJ0 b).2.1 := by decide +kernel
theorem tyJ0_ok : ∀ k, k < 0 → parseFieldDescriptor (TJ0 k).2.2.1 = some (tyJ0 k) := by decide +kernel
abbrev cJ0_length_8abf5 : ByteArray := prog_9_method_54_code
def yJ0_length_8abf5 : MethodName := ⟨RJ0, "length", "()I"⟩
abbrev cJ0_indexOf_0f7a4 : ByteArray := prog_9_method_79_code
def yJ0_indexOf_0f7a4 : MethodName := ⟨RJ0, "indexOf", "(I)I"⟩
abbrev cJ0_indexOf_7cf53 : ByteArray := prog_9_method_80_code
def yJ0_indexOf_7cf53 : MethodName := ⟨RJ0, "indexOf", "(II)I"⟩
abbrev cJ0_coder_7d493 : ByteArray := prog_9_method_152_code
def yJ0_coder_7d493 : MethodName := ⟨RJ0, "coder", "()B"⟩
abbrev cJ0_isLatin1_aae02 : ByteArray := prog_9_method_154_code
def yJ0_isLatin1_aae02 : MethodName := ⟨RJ0, "isLatin1", "()Z"⟩
abbrev cJ0_checkBoundsBeginEnd_23922 : ByteArray := prog_9_method_158_code
def yJ0_checkBoundsBeginEnd_23922 : MethodName := ⟨RJ0, "checkBoundsBeginEnd", "(III)V"⟩
def RJ1 : String := "java/lang/StringLatin1"
def TJ1 : u_T := fun k => match k with
  | _ => ("", "", "", false)
def tyJ1 : Nat → FieldType := fun k => match k with
  | _ => .int
abbrev wsJ10 : List Cond := u_ws RJ1 TJ1 0
theorem nmJ1 : ∀ a, a < 0 → ∀ b, b < 0 → a ≠ b → (TJ1 a).2.1 ≠ (TJ1 b).2.1 := by decide +kernel
theorem tyJ1_ok : ∀ k, k < 0 → parseFieldDescriptor (TJ1 k).2.2.1 = some (tyJ1 k) := by decide +kernel
abbrev cJ1_canEncode_9a6ad : ByteArray := prog_10_method_4_code
def yJ1_canEncode_9a6ad : MethodName := ⟨RJ1, "canEncode", "(I)Z"⟩
abbrev cJ1_indexOf_4cfef : ByteArray := prog_10_method_22_code
def yJ1_indexOf_4cfef : MethodName := ⟨RJ1, "indexOf", "([BIII)I"⟩
abbrev cJ1_indexOfChar_4cfef : ByteArray := prog_10_method_23_code
def yJ1_indexOfChar_4cfef : MethodName := ⟨RJ1, "indexOfChar", "([BIII)I"⟩
def RJ2 : String := "java/lang/StringUTF16"
def TJ2 : u_T := fun k => match k with
  | _ => ("", "", "", false)
def tyJ2 : Nat → FieldType := fun k => match k with
  | _ => .int
abbrev wsJ20 : List Cond := u_ws RJ2 TJ2 0
theorem nmJ2 : ∀ a, a < 0 → ∀ b, b < 0 → a ≠ b → (TJ2 a).2.1 ≠ (TJ2 b).2.1 := by decide +kernel
theorem tyJ2_ok : ∀ k, k < 0 → parseFieldDescriptor (TJ2 k).2.2.1 = some (tyJ2 k) := by decide +kernel
abbrev cJ2_getChar_3b067 : ByteArray := prog_11_method_5_code
def yJ2_getChar_3b067 : MethodName := ⟨RJ2, "getChar", "([BI)C"⟩
abbrev cJ2_length_9d52b : ByteArray := prog_11_method_6_code
def yJ2_length_9d52b : MethodName := ⟨RJ2, "length", "([B)I"⟩
abbrev cJ2_indexOf_4cfef : ByteArray := prog_11_method_40_code
def yJ2_indexOf_4cfef : MethodName := ⟨RJ2, "indexOf", "([BIII)I"⟩
abbrev cJ2_indexOfChar_4cfef : ByteArray := prog_11_method_47_code
def yJ2_indexOfChar_4cfef : MethodName := ⟨RJ2, "indexOfChar", "([BIII)I"⟩
abbrev cJ2_indexOfCharUnsafe_4cfef : ByteArray := prog_11_method_48_code
def yJ2_indexOfCharUnsafe_4cfef : MethodName := ⟨RJ2, "indexOfCharUnsafe", "([BIII)I"⟩
abbrev cJ2_indexOfSupplementary_4cfef : ByteArray := prog_11_method_49_code
def yJ2_indexOfSupplementary_4cfef : MethodName := ⟨RJ2, "indexOfSupplementary", "([BIII)I"⟩
abbrev cJ2_checkBoundsBeginEnd_d044e : ByteArray := prog_11_method_93_code
def yJ2_checkBoundsBeginEnd_d044e : MethodName := ⟨RJ2, "checkBoundsBeginEnd", "(II[B)V"⟩
def RJ3 : String := "jdk/internal/util/Preconditions"
def TJ3 : u_T := fun k => match k with
  | _ => ("", "", "", false)
def tyJ3 : Nat → FieldType := fun k => match k with
  | _ => .int
abbrev wsJ30 : List Cond := u_ws RJ3 TJ3 0
theorem nmJ3 : ∀ a, a < 0 → ∀ b, b < 0 → a ≠ b → (TJ3 a).2.1 ≠ (TJ3 b).2.1 := by decide +kernel
theorem tyJ3_ok : ∀ k, k < 0 → parseFieldDescriptor (TJ3 k).2.2.1 = some (tyJ3 k) := by decide +kernel
abbrev cJ3_checkFromToIndex_8c36e : ByteArray := prog_12_method_12_code
def yJ3_checkFromToIndex_8c36e : MethodName := ⟨RJ3, "checkFromToIndex", "(IIILjava/util/function/BiFunction;)I"⟩
def RL : String := "HoistsAreSharedLaw"
abbrev cL_law : ByteArray := code
def yL_law : MethodName := ⟨RL, "law", "([I)Z"⟩
abbrev vwCl : List vw_C := [(RX0, TX0, 9), (RX1, TX1, 2), (RX2, TX2, 14), (RX3, TX3, 13)]
end
section
/-! states: cell, place -> int (long); the operations that a method's meaning is written with -/
abbrev St : Type := Nat → Nat → Int32
abbrev LSt : Type := Nat → Nat → Int64
def up2 (σ : St) (c i : Nat) (v : Int32) : St := fun d => cond (Nat.beq d c) (upd (σ c) i v) (σ d)
def up2L (τ : LSt) (c i : Nat) (v : Int64) : LSt := fun d => cond (Nat.beq d c) (vp_updL (τ c) i v) (τ d)
def rdI (σ : St) (c n : Nat) (i : Int32) : Option Int32 := if i < 0 ∨ n ≤ i.toNatClampNeg then none else some (σ c i.toNatClampNeg)
def rdL (τ : LSt) (c n : Nat) (i : Int32) : Option Int64 := if i < 0 ∨ n ≤ i.toNatClampNeg then none else some (τ c i.toNatClampNeg)
def wrI (σ : St) (c n : Nat) (i x : Int32) : Option St := if i < 0 ∨ n ≤ i.toNatClampNeg then none else some (up2 σ c i.toNatClampNeg x)
def wrL (τ : LSt) (c n : Nat) (i : Int32) (x : Int64) : Option LSt := if i < 0 ∨ n ≤ i.toNatClampNeg then none else some (up2L τ c i.toNatClampNeg x)
def lt_ {α β : Type} (x : α) (k : α → β) : β := k x
def bo {α β : Type} (x : Option α) (k : α → Option β) : Option β := x.bind k
def dvI (x y : Int32) : Option Int32 := if y = 0 then none else some (x / y)
def rmI (x y : Int32) : Option Int32 := if y = 0 then none else some (x - x / y * y)
def dvL (x y : Int64) : Option Int64 := if y = 0 then none else some (x / y)
def rmL (x y : Int64) : Option Int64 := if y = 0 then none else some (x - x / y * y)
def zr (v : Int32) : Option Int32 := if v = 0 ∨ v = 1 then some v else none
/-- a callee's state out of the caller's, by the places of its cells; and back -/
def sb {α : Type} (is : List Nat) (σ : Nat → α) : Nat → α := fun c => σ (is.getD c 0)
def pbG {α : Type} : List Nat → Nat → (Nat → α) → (Nat → α) → Nat → α
  | [], _, _, σ, c => σ c
  | x :: l, k, τ, σ, c => cond (Nat.beq c x) (τ k) (pbG l (k + 1) τ σ c)
def pb {α : Type} (is : List Nat) (τ σ : Nat → α) : Nat → α := fun c => pbG is 0 τ σ c
def bw {ρ : Type} (x : Option (Int32 × St)) (is : List Nat) (σ : St) (k : Int32 → St → Option ρ) : Option ρ := x.bind (fun y => k y.1 (pb is y.2 σ))
def bv {ρ : Type} (x : Option St) (is : List Nat) (σ : St) (k : St → Option ρ) : Option ρ := x.bind (fun y => k (pb is y σ))
theorem rdI_e {σ : St} {c n : Nat} {i v : Int32} (h : rdI σ c n i = some v) : vp_in i n ∧ σ c i.toNatClampNeg = v := by
  unfold rdI at h
  by_cases q : i < 0 ∨ n ≤ i.toNatClampNeg
  · rw [if_pos q] at h; cases h
  · rw [if_neg q] at h; exact ⟨q, Option.some.inj h⟩
theorem rdL_e {σ : LSt} {c n : Nat} {i : Int32} {v : Int64} (h : rdL σ c n i = some v) : vp_in i n ∧ σ c i.toNatClampNeg = v := by
  unfold rdL at h
  by_cases q : i < 0 ∨ n ≤ i.toNatClampNeg
  · rw [if_pos q] at h; cases h
  · rw [if_neg q] at h; exact ⟨q, Option.some.inj h⟩
theorem wrI_e {σ τ : St} {c n : Nat} {i x : Int32} (h : wrI σ c n i x = some τ) : vp_in i n ∧ up2 σ c i.toNatClampNeg x = τ := by
  unfold wrI at h
  by_cases q : i < 0 ∨ n ≤ i.toNatClampNeg
  · rw [if_pos q] at h; cases h
  · rw [if_neg q] at h; exact ⟨q, Option.some.inj h⟩
theorem wrL_e {σ τ : LSt} {c n : Nat} {i : Int32} {x : Int64} (h : wrL σ c n i x = some τ) : vp_in i n ∧ up2L σ c i.toNatClampNeg x = τ := by
  unfold wrL at h
  by_cases q : i < 0 ∨ n ≤ i.toNatClampNeg
  · rw [if_pos q] at h; cases h
  · rw [if_neg q] at h; exact ⟨q, Option.some.inj h⟩
theorem bo_e {α β : Type} {x : Option α} {k : α → Option β} {r : β} (h : bo x k = some r) : ∃ v, x = some v ∧ k v = some r := by
  cases x with
  | none => cases h
  | some v => exact ⟨v, rfl, h⟩
theorem bw_e {ρ : Type} {x : Option (Int32 × St)} {is : List Nat} {σ : St} {k : Int32 → St → Option ρ} {r : ρ} (h : bw x is σ k = some r) : ∃ v τ, x = some (v, τ) ∧ k v (pb is τ σ) = some r := by
  cases x with
  | none => cases h
  | some v => exact ⟨v.1, v.2, rfl, h⟩
theorem bv_e {ρ : Type} {x : Option St} {is : List Nat} {σ : St} {k : St → Option ρ} {r : ρ} (h : bv x is σ k = some r) : ∃ τ, x = some τ ∧ k (pb is τ σ) = some r := by
  cases x with
  | none => cases h
  | some v => exact ⟨v, rfl, h⟩
theorem zr_e {v w : Int32} (h : zr v = some w) : narrow .boolean (.int v) = .int v ∧ v = w := by
  unfold zr at h
  by_cases q : v = 0 ∨ v = 1
  · rw [if_pos q] at h
    refine ⟨?_, Option.some.inj h⟩
    rcases q with rfl | rfl <;> rfl
  · rw [if_neg q] at h; cases h
/-! contracts of methods that only read (R), and of methods that write in their world (W) -/
abbrev tyIJ (cI cJ : ClassId) : List (ClassId × FieldType) := [(cI, .int), (cJ, .long)]
def fr0 (sz : Nat) : Nat → Prop := fun q => sz ≤ q
def RPre (av : List Value) (sz : Nat) (D : va_G) (tys : List (ClassId × FieldType)) (w : va_W) : Array Value → State → Prop := va_Pc av (fun U => U.heap.size = sz ∧ va_P D vwCl w U.heap ∧ va_K D vwCl tys U)
def RQi (sz : Nat) (v : Int32) : Array Value → State → Outcome → State → Prop := va_Qi (fun r (_ : Unit) => r = v) (fun _ _ => True) (fr0 sz)
def RQl (sz : Nat) (v : Int64) : Array Value → State → Outcome → State → Prop := va_Ql (fun r (_ : Unit) => r = v) (fun _ _ => True) (fr0 sz)
def WPre (av : List Value) (sz : Nat) (D : va_G) (tys : List (ClassId × FieldType)) (w : va_W) : Array Value → State → Prop := va_Pc av (fun U => U.heap.size = sz ∧ va_P D vwCl w U.heap ∧ va_K D vwCl tys U ∧ va_D (fun _ => True) w)
def WQi (sz : Nat) (D : va_G) (w w' : va_W) (v : Int32) : Array Value → State → Outcome → State → Prop := va_Qi (fun r (_ : Unit) => r = v) (fun _ t => va_P D vwCl w' t.heap) (va_A w sz)
def WQl (sz : Nat) (D : va_G) (w w' : va_W) (v : Int64) : Array Value → State → Outcome → State → Prop := va_Ql (fun r (_ : Unit) => r = v) (fun _ t => va_P D vwCl w' t.heap) (va_A w sz)
def WQv (sz : Nat) (D : va_G) (w w' : va_W) : Array Value → State → Outcome → State → Prop := va_Qv (fun (_ : Unit) => True) (fun _ t => va_P D vwCl w' t.heap) (va_A w sz)
theorem RPre.blind {av : List Value} {sz : Nat} {D : va_G} {tys : List (ClassId × FieldType)} {w : va_W} : FrameBlind (RPre av sz D tys w) := fun a U g mk q => by
  obtain ⟨q0, q1, qP, qK⟩ := q
  exact ⟨q0, q1, qP, va_K.moved (u := U) (U := U.calling g mk a) (Vm.Alike.refl U.vm) qK⟩
theorem WPre.blind {av : List Value} {sz : Nat} {D : va_G} {tys : List (ClassId × FieldType)} {w : va_W} : FrameBlind (WPre av sz D tys w) := fun a U g mk q => by
  obtain ⟨q0, q1, qP, qK, qD⟩ := q
  exact ⟨q0, q1, qP, va_K.moved (u := U) (U := U.calling g mk a) (Vm.Alike.refl U.vm) qK, qD⟩
theorem R_start {l : Launch} {y : MethodName} {ws ws' : List Cond} {rm : Room} {av : List Value} {sz : Nat} {D : va_G} {tys : List (ClassId × FieldType)} {w : va_W} {Qc : Array Value → State → Outcome → State → Prop} {cc : ByteArray} {maxL : Nat} {ret : Option FieldType}
    (hy : plainName y.cls = true) (hw : ws = Cond.code y cc maxL ret :: ws') (hn : (lg_sl av).length ≤ maxL)
    (body : ∀ (p : Program) (e : Env) (s : State) (m : MethodId) (below : List Frame) (meth : Method) (c : Code) (ls : Array Slot), p.tables.exec = Jvm.exec → c.code = cc → meth.sig.returnType = ret → c.maxLocals = maxL → s.vm.findClass y.cls = some m.cls → (∀ w ∈ ws, w.before av.toArray s = true) → meth.locks = false → va_P D vwCl w s.heap → va_K D vwCl tys s → va_S (fr0 s.heap.size) s.heap s.heap [] → (∀ q : Nat, s.heap.size ≤ q → fr0 s.heap.size q) → s.heap.size = sz → lv_has ls maxL (lv_args 0 av) →
      W p l e rm s m av.toArray below meth c s.heap [] 0 0 (MQ below Qc av.toArray s 0 0 (fr0 sz)) (F0 m 0 ls [])) : Met l y ws rm (RPre av sz D tys w) Qc 0 0 (fr0 sz) := by
  refine Met.ofW (cc := cc) (maxL := maxL) (ret := ret) hy hw ?_
  intro p e s m args below meth c s₁ B hml hv
  obtain ⟨rfl, hsz, hP, hK⟩ := hv
  have hl := lv_entry av (n := maxL) hn
  rw [lg_entry_eq]
  exact body p e s m below meth c _ B.exec B.bytes B.returns hml (findClass_of_methodNamed B.named) (atoms_spec (ws := ws) B.pre) B.notSynchronized hP hK va_S.rf (fun _ h => h) hsz hl
theorem W_start {l : Launch} {y : MethodName} {ws ws' : List Cond} {rm : Room} {av : List Value} {sz : Nat} {D : va_G} {tys : List (ClassId × FieldType)} {w : va_W} {Qc : Array Value → State → Outcome → State → Prop} {cc : ByteArray} {maxL : Nat} {ret : Option FieldType}
    (hy : plainName y.cls = true) (hw : ws = Cond.code y cc maxL ret :: ws') (hn : (lg_sl av).length ≤ maxL)
    (body : ∀ (p : Program) (e : Env) (s : State) (m : MethodId) (below : List Frame) (meth : Method) (c : Code) (ls : Array Slot) (A : Nat → Prop), p.tables.exec = Jvm.exec → c.code = cc → meth.sig.returnType = ret → c.maxLocals = maxL → s.vm.findClass y.cls = some m.cls → (∀ w ∈ ws, w.before av.toArray s = true) → meth.locks = false → va_P D vwCl w s.heap → va_K D vwCl tys s → va_S A s.heap s.heap [] → (∀ q : Nat, s.heap.size ≤ q → A q) → va_D A w → A = va_A w sz → lv_has ls maxL (lv_args 0 av) →
      W p l e rm s m av.toArray below meth c s.heap [] 0 0 (MQ below Qc av.toArray s 0 0 A) (F0 m 0 ls [])) : Met l y ws rm (WPre av sz D tys w) Qc 0 0 (va_A w sz) := by
  refine Met.ofW (cc := cc) (maxL := maxL) (ret := ret) hy hw ?_
  intro p e s m args below meth c s₁ B hml hv
  obtain ⟨rfl, hsz, hP, hK, hD⟩ := hv
  have hl := lv_entry av (n := maxL) hn
  rw [lg_entry_eq]
  exact body p e s m below meth c _ _ B.exec B.bytes B.returns hml (findClass_of_methodNamed B.named) (atoms_spec (ws := ws) B.pre) B.notSynchronized hP hK va_S.rf (fun q h => Or.inr (by rw [← hsz]; exact h)) hD.self rfl hl
/-- the addresses alone decide va_D -/
theorem va_D.ad {A : Nat → Prop} {w w' : va_W} (h : va_D A w) (e : w'.map (fun q => q.1) = w.map (fun q => q.1)) : va_D A w' := by
  have at' : ∀ (k : Nat) (q : Nat × va_E), w'[k]? = some q → ∃ q', w[k]? = some q' ∧ q'.1 = q.1 := by
    intro k q hq
    have h1 : (w'.map (fun q => q.1))[k]? = some q.1 := by rw [List.getElem?_map, hq]; rfl
    rw [e, List.getElem?_map] at h1
    cases hk : w[k]? with
    | none => rw [hk] at h1; cases h1
    | some q' => rw [hk] at h1; exact ⟨q', rfl, Option.some.inj h1⟩
  refine ⟨fun i j p q hi hj hpq => ?_, fun k q hk => ?_⟩
  · obtain ⟨p', h1, h2⟩ := at' i p hi
    obtain ⟨q', h3, h4⟩ := at' j q hj
    exact h.1 i j p' q' h1 h3 (by rw [h2, h4, hpq])
  · obtain ⟨q', h1, h2⟩ := at' k q hk
    rw [← h2]
    exact h.2 k q' h1
section KB
variable {p : Program} {l : Launch} {e : Env} {R : Room} {s : State} {m : MethodId} {args : Array Value} {below : List Frame} {meth : Method} {c : Code} {H : Heap} {locs : List Loc} {cells slots : Nat} {Q : State → Prop} {cc : ByteArray} {pc : Nat} {ls : Array Slot} {rest : List Value} {ρ : Type} {r : ρ} {O P' : Option ρ}
/-! branches -/
theorem k_if_eq (hx : p.tables.exec = Jvm.exec) (hb : c.code = cc) {x : Int32} {off : Int} {tgt : Nat} (hd : decode cc pc = .ok (.ifCond .eq off, 3)) (ht : (pc : Int) + off = (tgt : Int)) (hf : (if x = 0 then O else P') = some r) (kt : O = some r → W p l e R s m args below meth c H locs cells slots Q (F0 m tgt ls rest)) (kf : P' = some r → W p l e R s m args below meth c H locs cells slots Q (F0 m (pc + 3) ls rest)) : W p l e R s m args below meth c H locs cells slots Q (F0 m pc ls (.int x :: rest)) :=
  lv_if_eq hx hb hd ht (fun q => kt ((if_pos q).symm.trans hf)) (fun q => kf ((if_neg q).symm.trans hf))
theorem k_if_ne (hx : p.tables.exec = Jvm.exec) (hb : c.code = cc) {x : Int32} {off : Int} {tgt : Nat} (hd : decode cc pc = .ok (.ifCond .ne off, 3)) (ht : (pc : Int) + off = (tgt : Int)) (hf : (if x = 0 then P' else O) = some r) (kt : O = some r → W p l e R s m args below meth c H locs cells slots Q (F0 m tgt ls rest)) (kf : P' = some r → W p l e R s m args below meth c H locs cells slots Q (F0 m (pc + 3) ls rest)) : W p l e R s m args below meth c H locs cells slots Q (F0 m pc ls (.int x :: rest)) :=
  lv_if_ne hx hb hd ht (fun q => kt ((if_neg q).symm.trans hf)) (fun q => kf ((if_pos q).symm.trans hf))
theorem k_if_lt (hx : p.tables.exec = Jvm.exec) (hb : c.code = cc) {x : Int32} {off : Int} {tgt : Nat} (hd : decode cc pc = .ok (.ifCond .lt off, 3)) (ht : (pc : Int) + off = (tgt : Int)) (hf : (if x < 0 then O else P') = some r) (kt : O = some r → W p l e R s m args below meth c H locs cells slots Q (F0 m tgt ls rest)) (kf : P' = some r → W p l e R s m args below meth c H locs cells slots Q (F0 m (pc + 3) ls rest)) : W p l e R s m args below meth c H locs cells slots Q (F0 m pc ls (.int x :: rest)) :=
  lv_if_lt hx hb hd ht (fun q => kt ((if_pos q).symm.trans hf)) (fun q => kf ((if_neg q).symm.trans hf))
theorem k_if_ge (hx : p.tables.exec = Jvm.exec) (hb : c.code = cc) {x : Int32} {off : Int} {tgt : Nat} (hd : decode cc pc = .ok (.ifCond .ge off, 3)) (ht : (pc : Int) + off = (tgt : Int)) (hf : (if 0 ≤ x then O else P') = some r) (kt : O = some r → W p l e R s m args below meth c H locs cells slots Q (F0 m tgt ls rest)) (kf : P' = some r → W p l e R s m args below meth c H locs cells slots Q (F0 m (pc + 3) ls rest)) : W p l e R s m args below meth c H locs cells slots Q (F0 m pc ls (.int x :: rest)) :=
  lv_if_ge hx hb hd ht (fun q => kt ((if_pos q).symm.trans hf)) (fun q => kf ((if_neg q).symm.trans hf))
theorem k_if_gt (hx : p.tables.exec = Jvm.exec) (hb : c.code = cc) {x : Int32} {off : Int} {tgt : Nat} (hd : decode cc pc = .ok (.ifCond .gt off, 3)) (ht : (pc : Int) + off = (tgt : Int)) (hf : (if 0 < x then O else P') = some r) (kt : O = some r → W p l e R s m args below meth c H locs cells slots Q (F0 m tgt ls rest)) (kf : P' = some r → W p l e R s m args below meth c H locs cells slots Q (F0 m (pc + 3) ls rest)) : W p l e R s m args below meth c H locs cells slots Q (F0 m pc ls (.int x :: rest)) :=
  lv_if_gt hx hb hd ht (fun q => kt ((if_pos q).symm.trans hf)) (fun q => kf ((if_neg q).symm.trans hf))
theorem k_if_le (hx : p.tables.exec = Jvm.exec) (hb : c.code = cc) {x : Int32} {off : Int} {tgt : Nat} (hd : decode cc pc = .ok (.ifCond .le off, 3)) (ht : (pc : Int) + off = (tgt : Int)) (hf : (if x ≤ 0 then O else P') = some r) (kt : O = some r → W p l e R s m args below meth c H locs cells slots Q (F0 m tgt ls rest)) (kf : P' = some r → W p l e R s m args below meth c H locs cells slots Q (F0 m (pc + 3) ls rest)) : W p l e R s m args below meth c H locs cells slots Q (F0 m pc ls (.int x :: rest)) :=
  lv_if_le hx hb hd ht (fun q => kt ((if_pos q).symm.trans hf)) (fun q => kf ((if_neg q).symm.trans hf))
theorem k_icmp_eq (hx : p.tables.exec = Jvm.exec) (hb : c.code = cc) {x y : Int32} {off : Int} {tgt : Nat} (hd : decode cc pc = .ok (.if_icmp .eq off, 3)) (ht : (pc : Int) + off = (tgt : Int)) (hf : (if x = y then O else P') = some r) (kt : O = some r → W p l e R s m args below meth c H locs cells slots Q (F0 m tgt ls rest)) (kf : P' = some r → W p l e R s m args below meth c H locs cells slots Q (F0 m (pc + 3) ls rest)) : W p l e R s m args below meth c H locs cells slots Q (F0 m pc ls (.int y :: .int x :: rest)) :=
  lv_icmp_eq hx hb hd ht (fun q => kt ((if_pos q).symm.trans hf)) (fun q => kf ((if_neg q).symm.trans hf))
theorem k_icmp_ne (hx : p.tables.exec = Jvm.exec) (hb : c.code = cc) {x y : Int32} {off : Int} {tgt : Nat} (hd : decode cc pc = .ok (.if_icmp .ne off, 3)) (ht : (pc : Int) + off = (tgt : Int)) (hf : (if x = y then P' else O) = some r) (kt : O = some r → W p l e R s m args below meth c H locs cells slots Q (F0 m tgt ls rest)) (kf : P' = some r → W p l e R s m args below meth c H locs cells slots Q (F0 m (pc + 3) ls rest)) : W p l e R s m args below meth c H locs cells slots Q (F0 m pc ls (.int y :: .int x :: rest)) :=
  lv_icmp_ne hx hb hd ht (fun q => kt ((if_neg q).symm.trans hf)) (fun q => kf ((if_pos q).symm.trans hf))
theorem k_icmp_lt (hx : p.tables.exec = Jvm.exec) (hb : c.code = cc) {x y : Int32} {off : Int} {tgt : Nat} (hd : decode cc pc = .ok (.if_icmp .lt off, 3)) (ht : (pc : Int) + off = (tgt : Int)) (hf : (if x < y then O else P') = some r) (kt : O = some r → W p l e R s m args below meth c H locs cells slots Q (F0 m tgt ls rest)) (kf : P' = some r → W p l e R s m args below meth c H locs cells slots Q (F0 m (pc + 3) ls rest)) : W p l e R s m args below meth c H locs cells slots Q (F0 m pc ls (.int y :: .int x :: rest)) :=
  lv_icmp_lt hx hb hd ht (fun q => kt ((if_pos q).symm.trans hf)) (fun q => kf ((if_neg q).symm.trans hf))
theorem k_icmp_ge (hx : p.tables.exec = Jvm.exec) (hb : c.code = cc) {x y : Int32} {off : Int} {tgt : Nat} (hd : decode cc pc = .ok (.if_icmp .ge off, 3)) (ht : (pc : Int) + off = (tgt : Int)) (hf : (if y ≤ x then O else P') = some r) (kt : O = some r → W p l e R s m args below meth c H locs cells slots Q (F0 m tgt ls rest)) (kf : P' = some r → W p l e R s m args below meth c H locs cells slots Q (F0 m (pc + 3) ls rest)) : W p l e R s m args below meth c H locs cells slots Q (F0 m pc ls (.int y :: .int x :: rest)) :=
  lv_icmp_ge hx hb hd ht (fun q => kt ((if_pos q).symm.trans hf)) (fun q => kf ((if_neg q).symm.trans hf))
theorem k_icmp_gt (hx : p.tables.exec = Jvm.exec) (hb : c.code = cc) {x y : Int32} {off : Int} {tgt : Nat} (hd : decode cc pc = .ok (.if_icmp .gt off, 3)) (ht : (pc : Int) + off = (tgt : Int)) (hf : (if y < x then O else P') = some r) (kt : O = some r → W p l e R s m args below meth c H locs cells slots Q (F0 m tgt ls rest)) (kf : P' = some r → W p l e R s m args below meth c H locs cells slots Q (F0 m (pc + 3) ls rest)) : W p l e R s m args below meth c H locs cells slots Q (F0 m pc ls (.int y :: .int x :: rest)) :=
  lv_icmp_gt hx hb hd ht (fun q => kt ((if_pos q).symm.trans hf)) (fun q => kf ((if_neg q).symm.trans hf))
theorem k_icmp_le (hx : p.tables.exec = Jvm.exec) (hb : c.code = cc) {x y : Int32} {off : Int} {tgt : Nat} (hd : decode cc pc = .ok (.if_icmp .le off, 3)) (ht : (pc : Int) + off = (tgt : Int)) (hf : (if x ≤ y then O else P') = some r) (kt : O = some r → W p l e R s m args below meth c H locs cells slots Q (F0 m tgt ls rest)) (kf : P' = some r → W p l e R s m args below meth c H locs cells slots Q (F0 m (pc + 3) ls rest)) : W p l e R s m args below meth c H locs cells slots Q (F0 m pc ls (.int y :: .int x :: rest)) :=
  lv_icmp_le hx hb hd ht (fun q => kt ((if_pos q).symm.trans hf)) (fun q => kf ((if_neg q).symm.trans hf))
/-! division by what may be 0 -/
theorem k_idiv (hx : p.tables.exec = Jvm.exec) (hb : c.code = cc) {x y : Int32} {K : Int32 → Option ρ} (hd : decode cc pc = .ok (.idiv, 1)) (hf : bo (dvI x y) K = some r) (k : ∀ v, K v = some r → W p l e R s m args below meth c H locs cells slots Q (F0 m (pc + 1) ls (.int v :: rest))) : W p l e R s m args below meth c H locs cells slots Q (F0 m pc ls (.int y :: .int x :: rest)) := by
  obtain ⟨v, h1, h2⟩ := bo_e hf
  unfold dvI at h1
  by_cases q : y = 0
  · rw [if_pos q] at h1; cases h1
  · rw [if_neg q] at h1
    exact lv_idiv hx hb hd q (by rw [Option.some.inj h1]; exact k v h2)
theorem k_irem (hx : p.tables.exec = Jvm.exec) (hb : c.code = cc) {x y : Int32} {K : Int32 → Option ρ} (hd : decode cc pc = .ok (.irem, 1)) (hf : bo (rmI x y) K = some r) (k : ∀ v, K v = some r → W p l e R s m args below meth c H locs cells slots Q (F0 m (pc + 1) ls (.int v :: rest))) : W p l e R s m args below meth c H locs cells slots Q (F0 m pc ls (.int y :: .int x :: rest)) := by
  obtain ⟨v, h1, h2⟩ := bo_e hf
  unfold rmI at h1
  by_cases q : y = 0
  · rw [if_pos q] at h1; cases h1
  · rw [if_neg q] at h1
    exact lv_irem hx hb hd q (by rw [Option.some.inj h1]; exact k v h2)
theorem k_ldiv (hx : p.tables.exec = Jvm.exec) (hb : c.code = cc) {x y : Int64} {K : Int64 → Option ρ} (hd : decode cc pc = .ok (.ldiv, 1)) (hf : bo (dvL x y) K = some r) (k : ∀ v, K v = some r → W p l e R s m args below meth c H locs cells slots Q (F0 m (pc + 1) ls (.long v :: rest))) : W p l e R s m args below meth c H locs cells slots Q (F0 m pc ls (.long y :: .long x :: rest)) := by
  obtain ⟨v, h1, h2⟩ := bo_e hf
  unfold dvL at h1
  by_cases q : y = 0
  · rw [if_pos q] at h1; cases h1
  · rw [if_neg q] at h1
    exact lv_ldiv hx hb hd q (by rw [Option.some.inj h1]; exact k v h2)
theorem k_lrem (hx : p.tables.exec = Jvm.exec) (hb : c.code = cc) {x y : Int64} {K : Int64 → Option ρ} (hd : decode cc pc = .ok (.lrem, 1)) (hf : bo (rmL x y) K = some r) (k : ∀ v, K v = some r → W p l e R s m args below meth c H locs cells slots Q (F0 m (pc + 1) ls (.long v :: rest))) : W p l e R s m args below meth c H locs cells slots Q (F0 m pc ls (.long y :: .long x :: rest)) := by
  obtain ⟨v, h1, h2⟩ := bo_e hf
  unfold rmL at h1
  by_cases q : y = 0
  · rw [if_pos q] at h1; cases h1
  · rw [if_neg q] at h1
    exact lv_lrem hx hb hd q (by rw [Option.some.inj h1]; exact k v h2)
/-! a computed number gets a name -/
theorem k_let {x : Int32} {K : Int32 → Option ρ} (hf : lt_ x K = some r) (k : ∀ v, K v = some r → W p l e R s m args below meth c H locs cells slots Q (F0 m pc ls (.int v :: rest))) : W p l e R s m args below meth c H locs cells slots Q (F0 m pc ls (.int x :: rest)) := k x hf
theorem k_letL {x : Int64} {K : Int64 → Option ρ} (hf : lt_ x K = some r) (k : ∀ v, K v = some r → W p l e R s m args below meth c H locs cells slots Q (F0 m pc ls (.long v :: rest))) : W p l e R s m args below meth c H locs cells slots Q (F0 m pc ls (.long x :: rest)) := k x hf
theorem k_iinc (hx : p.tables.exec = Jvm.exec) (hb : c.code = cc) {i nL k : Nat} {n : Int} {x d : Int32} {lv : List (Nat × Value)} {lv' : Int32 → List (Nat × Value)} {K : Int32 → Option ρ} (hd : decode cc pc = .ok (.iinc i n, 3)) (h : lv_has ls nL lv) (hk : lv[k]? = some (i, .int x)) (hv : Int32.ofInt n = d) (hn : i < nL) (hl : ∀ v, (i, Value.int v) :: lv.filter (fun q => !(q.1 == i) && !(q.1 + 1 == i && q.2.category == 2)) = lv' v) (hf : lt_ (x + d) K = some r)
    (kk : ∀ (v : Int32) (ls' : Array Slot), lv_has ls' nL (lv' v) → K v = some r → W p l e R s m args below meth c H locs cells slots Q (F0 m (pc + 3) ls' rest)) : W p l e R s m args below meth c H locs cells slots Q (F0 m pc ls rest) :=
  lv_iinc (v := x + d) (lv' := lv' (x + d)) hx hb hd h hk (by rw [hv]) hn (hl _) (fun ls' h' => kk (x + d) ls' h' hf)
end KB
end
section
/-- a call that writes: by the callee's end to the caller's new state -/
def bx {ρ β S T : Type} (x : Option (β × T)) (put : T → S) (k : β → S → Option ρ) : Option ρ := x.bind (fun y => k y.1 (put y.2))
def by_ {ρ S T : Type} (x : Option T) (put : T → S) (k : S → Option ρ) : Option ρ := x.bind (fun y => k (put y))
theorem bx_e {ρ β S T : Type} {x : Option (β × T)} {put : T → S} {k : β → S → Option ρ} {r : ρ} (h : bx x put k = some r) : ∃ v τ, x = some (v, τ) ∧ k v (put τ) = some r := by
  cases x with
  | none => cases h
  | some v => exact ⟨v.1, v.2, rfl, h⟩
theorem by_e {ρ S T : Type} {x : Option T} {put : T → S} {k : S → Option ρ} {r : ρ} (h : by_ x put k = some r) : ∃ τ, x = some τ ∧ k (put τ) = some r := by
  cases x with
  | none => cases h
  | some v => exact ⟨v, rfl, h⟩
section KC
variable {p : Program} {l : Launch} {e : Env} {R : Room} {s : State} {m : MethodId} {args : Array Value} {below : List Frame} {meth : Method} {c : Code} {H : Heap} {locs : List Loc} {cells slots : Nat} {Q : State → Prop} {cc : ByteArray} {pc : Nat} {ls : Array Slot} {rest : List Value} {ρ : Type} {r : ρ}
variable {D : va_G} {tys : List (ClassId × FieldType)} {A : Nat → Prop} {a : Nat} {H0 : Heap}
theorem k_iald (hx : p.tables.exec = Jvm.exec) (hb : c.code = cc) (hK : va_K D vwCl tys s) {w : va_W} (hP : va_P D vwCl w H) (q0 t0 : Nat) {cA : ClassId} {n cN : Nat} {σ : St} {i : Int32} {K : Int32 → Option ρ} (hf : bo (rdI σ cN n i) K = some r) (ha : w[q0]? = some (a, .inl (cA, n, .inl (σ cN)))) (ht : tys[t0]? = some (cA, .int)) (hd : decode cc pc = .ok (.iaload, 1))
    (kk : ∀ v, K v = some r → W p l e R s m args below meth c H locs cells slots Q (F0 m (pc + 1) ls (.int v :: rest))) : W p l e R s m args below meth c H locs cells slots Q (F0 m pc ls (.int i :: .ref a :: rest)) := by
  obtain ⟨v, h1, h2⟩ := bo_e hf
  obtain ⟨h3, h4⟩ := rdI_e h1
  exact va_iald hx hb hK hP q0 t0 ha ht h3 hd (by rw [h4]; exact kk v h2)
theorem k_lald (hx : p.tables.exec = Jvm.exec) (hb : c.code = cc) (hK : va_K D vwCl tys s) {w : va_W} (hP : va_P D vwCl w H) (q0 t0 : Nat) {cA : ClassId} {n cN : Nat} {σ : LSt} {i : Int32} {K : Int64 → Option ρ} (hf : bo (rdL σ cN n i) K = some r) (ha : w[q0]? = some (a, .inl (cA, n, .inr (.inl (σ cN))))) (ht : tys[t0]? = some (cA, .long)) (hd : decode cc pc = .ok (.laload, 1))
    (kk : ∀ v, K v = some r → W p l e R s m args below meth c H locs cells slots Q (F0 m (pc + 1) ls (.long v :: rest))) : W p l e R s m args below meth c H locs cells slots Q (F0 m pc ls (.int i :: .ref a :: rest)) := by
  obtain ⟨v, h1, h2⟩ := bo_e hf
  obtain ⟨h3, h4⟩ := rdL_e h1
  exact va_lald hx hb hK hP q0 t0 ha ht h3 hd (by rw [h4]; exact kk v h2)
theorem k_iast (hx : p.tables.exec = Jvm.exec) (hb : c.code = cc) (hK : va_K D vwCl tys s) {w : St → va_W} {σ : St} (hP : va_P D vwCl (w σ) H) (hD : ∀ z, va_D A (w z)) (hS : va_S A H0 H locs) (q0 t0 : Nat) {cA : ClassId} {n cN : Nat} {i x : Int32} {K : St → Option ρ} (hf : bo (wrI σ cN n i x) K = some r) (ha : (w σ)[q0]? = some (a, .inl (cA, n, .inl (σ cN)))) (ht : tys[t0]? = some (cA, .int)) (hw : ∀ j, (w σ).set q0 (a, .inl (cA, n, .inl (upd (σ cN) j x))) = w (up2 σ cN j x)) (hd : decode cc pc = .ok (.iastore, 1))
    (kk : ∀ (z : St) (H1 : Heap) (locs1 : List Loc), va_P D vwCl (w z) H1 → va_S A H0 H1 locs1 → K z = some r → W p l e R s m args below meth c H1 locs1 cells slots Q (F0 m (pc + 1) ls rest)) : W p l e R s m args below meth c H locs cells slots Q (F0 m pc ls (.int x :: .int i :: .ref a :: rest)) := by
  obtain ⟨v, h1, h2⟩ := bo_e hf
  obtain ⟨h3, h4⟩ := wrI_e h1
  refine va_iast hx hb hK hP (hD σ) hS q0 t0 ha ht h3 hd (fun H1 locs1 g1 _ g3 => ?_)
  rw [hw, h4] at g1
  exact kk v H1 locs1 g1 g3 h2
theorem k_last (hx : p.tables.exec = Jvm.exec) (hb : c.code = cc) (hK : va_K D vwCl tys s) {w : LSt → va_W} {σ : LSt} (hP : va_P D vwCl (w σ) H) (hD : ∀ z, va_D A (w z)) (hS : va_S A H0 H locs) (q0 t0 : Nat) {cA : ClassId} {n cN : Nat} {i : Int32} {x : Int64} {K : LSt → Option ρ} (hf : bo (wrL σ cN n i x) K = some r) (ha : (w σ)[q0]? = some (a, .inl (cA, n, .inr (.inl (σ cN))))) (ht : tys[t0]? = some (cA, .long)) (hw : ∀ j, (w σ).set q0 (a, .inl (cA, n, .inr (.inl (vp_updL (σ cN) j x)))) = w (up2L σ cN j x)) (hd : decode cc pc = .ok (.lastore, 1))
    (kk : ∀ (z : LSt) (H1 : Heap) (locs1 : List Loc), va_P D vwCl (w z) H1 → va_S A H0 H1 locs1 → K z = some r → W p l e R s m args below meth c H1 locs1 cells slots Q (F0 m (pc + 1) ls rest)) : W p l e R s m args below meth c H locs cells slots Q (F0 m pc ls (.long x :: .int i :: .ref a :: rest)) := by
  obtain ⟨v, h1, h2⟩ := bo_e hf
  obtain ⟨h3, h4⟩ := wrL_e h1
  refine va_last hx hb hK hP (hD σ) hS q0 t0 ha ht h3 hd (fun H1 locs1 g1 _ g3 => ?_)
  rw [hw, h4] at g1
  exact kk v H1 locs1 g1 g3 h2
theorem k_put (hx : p.tables.exec = Jvm.exec) (hb : c.code = cc) {own ref C : String} {T : u_T} {N ci index : Nat} {Ts : List Cond} (hts : ∀ w ∈ Ts, w.before args s = true) (hin : ∀ w ∈ u_ws C T N, w ∈ Ts) (ty0 : Nat → FieldType) (hty : ∀ k, k < N → parseFieldDescriptor (T k).2.2.1 = some (ty0 k)) (hnm : ∀ a, a < N → ∀ b, b < N → a ≠ b → (T a).2.1 ≠ (T b).2.1) (hown : s.vm.findClass own = some m.cls) (hK : va_K D vwCl tys s) {w : St → va_W} {σ : St} (hP : va_P D vwCl (w σ) H) (hD : ∀ z, va_D A (w z)) (hS : va_S A H0 H locs) (q0 : Nat) {fs : List Value} (he : (w σ)[q0]? = some (a, .inr (ci, fs))) (hc : vwCl[ci]? = some (C, T, N)) (k : Nat) (hk : k < N) (hlink : (Cond.fieldLink own index ref (T k).2.1 (T k).2.2.1).before args s = true) (hsame : ∀ x, s.fieldFound? (T k).1 (T k).2.1 (T k).2.2.1 = some x → s.fieldFound? ref (T k).2.1 (T k).2.2.1 = some x) (hfin : (T k).2.2.2 = false) {ty : FieldType} {v : Int32} (hdt : parseFieldDescriptor (T k).2.2.1 = some ty) (hn : narrow ty (.int v) = .int v) (hfit : fits ty (.int v) = true) (hl : k < fs.length) {cN : Nat} {K : St → Option ρ} (hf : lt_ (up2 σ cN k v) K = some r) (hw : (w σ).set q0 (a, .inr (ci, fs.set k (.int v))) = w (up2 σ cN k v)) (hd : decode cc pc = .ok (.putfield index, 3))
    (kk : ∀ (z : St) (H1 : Heap) (locs1 : List Loc), va_P D vwCl (w z) H1 → va_S A H0 H1 locs1 → K z = some r → W p l e R s m args below meth c H1 locs1 cells slots Q (F0 m (pc + 3) ls rest)) : W p l e R s m args below meth c H locs cells slots Q (F0 m pc ls (.int v :: .ref a :: rest)) := by
  refine va_put hx hb hts hin ty0 hty hnm hown hK hP (hD σ) hS q0 he hc k hk hlink hsame hfin hdt hn hfit hl hd (fun H1 locs1 g1 _ g3 => ?_)
  rw [hw] at g1
  exact kk _ H1 locs1 g1 g3 hf
/-! the ends -/
theorem R_iret {sz : Nat} (hx : p.tables.exec = Jvm.exec) (hb : c.code = cc) (hr : meth.sig.returnType = some .int) (hlk : meth.locks = false) (hS : va_S (fr0 s.heap.size) s.heap H locs) (hsz : s.heap.size = sz) {v z : Int32} (hf : some v = some z) (hd : decode cc pc = .ok (.ireturn, 1)) : W p l e R s m args below meth c H locs 0 0 (MQ below (RQi sz z) args s 0 0 (fr0 sz)) (F0 m pc ls [.int v]) := by
  subst hsz
  cases hf
  exact W.iret (v := v) hx hb hr (fun t ht _ => ⟨⟨v, (), rfl, rfl, trivial⟩, hS.F ht⟩) hS.2.2 hd hlk
theorem R_zret {sz : Nat} (hx : p.tables.exec = Jvm.exec) (hb : c.code = cc) (hr : meth.sig.returnType = some .boolean) (hlk : meth.locks = false) (hS : va_S (fr0 s.heap.size) s.heap H locs) (hsz : s.heap.size = sz) {v z : Int32} (hf : zr v = some z) (hd : decode cc pc = .ok (.ireturn, 1)) : W p l e R s m args below meth c H locs 0 0 (MQ below (RQi sz z) args s 0 0 (fr0 sz)) (F0 m pc ls [.int v]) := by
  subst hsz
  obtain ⟨h1, rfl⟩ := zr_e hf
  exact W.zret (v := v) hx hb hr h1 (fun t ht _ => ⟨⟨v, (), rfl, rfl, trivial⟩, hS.F ht⟩) hS.2.2 hd hlk
theorem R_lret {sz : Nat} (hx : p.tables.exec = Jvm.exec) (hb : c.code = cc) (hr : meth.sig.returnType = some .long) (hlk : meth.locks = false) (hS : va_S (fr0 s.heap.size) s.heap H locs) (hsz : s.heap.size = sz) {v z : Int64} (hf : some v = some z) (hd : decode cc pc = .ok (.lreturn, 1)) : W p l e R s m args below meth c H locs 0 0 (MQ below (RQl sz z) args s 0 0 (fr0 sz)) (F0 m pc ls [.long v]) := by
  subst hsz
  cases hf
  exact W.lret (v := v) hx hb hr (fun t ht _ => ⟨⟨v, (), rfl, rfl, trivial⟩, hS.F ht⟩) hS.2.2 hd hlk
theorem W_iret {S : Type} {sz : Nat} {w0 : va_W} (w : S → va_W) (hx : p.tables.exec = Jvm.exec) (hb : c.code = cc) (hr : meth.sig.returnType = some .int) (hlk : meth.locks = false) {σ : S} (hP : va_P D vwCl (w σ) H) (hS : va_S A s.heap H locs) (hAe : A = va_A w0 sz) {v : Int32} {z : Int32 × S} (hf : some (v, σ) = some z) (hd : decode cc pc = .ok (.ireturn, 1)) : W p l e R s m args below meth c H locs 0 0 (MQ below (WQi sz D w0 (w z.2) z.1) args s 0 0 A) (F0 m pc ls [.int v]) := by
  subst hAe
  cases hf
  exact W.iret (v := v) hx hb hr (fun t ht _ => ⟨⟨v, (), rfl, rfl, by show va_P D vwCl (w σ) t.heap; rw [ht]; exact hP⟩, hS.F ht⟩) hS.2.2 hd hlk
theorem W_zret {S : Type} {sz : Nat} {w0 : va_W} (w : S → va_W) (hx : p.tables.exec = Jvm.exec) (hb : c.code = cc) (hr : meth.sig.returnType = some .boolean) (hlk : meth.locks = false) {σ : S} (hP : va_P D vwCl (w σ) H) (hS : va_S A s.heap H locs) (hAe : A = va_A w0 sz) {v : Int32} {z : Int32 × S} (hf : bo (zr v) (fun v => some (v, σ)) = some z) (hd : decode cc pc = .ok (.ireturn, 1)) : W p l e R s m args below meth c H locs 0 0 (MQ below (WQi sz D w0 (w z.2) z.1) args s 0 0 A) (F0 m pc ls [.int v]) := by
  subst hAe
  obtain ⟨v', h1, h2⟩ := bo_e hf
  obtain ⟨h3, rfl⟩ := zr_e h1
  cases h2
  exact W.zret (v := v) hx hb hr h3 (fun t ht _ => ⟨⟨v, (), rfl, rfl, by show va_P D vwCl (w σ) t.heap; rw [ht]; exact hP⟩, hS.F ht⟩) hS.2.2 hd hlk
theorem W_lret {S : Type} {sz : Nat} {w0 : va_W} (w : S → va_W) (hx : p.tables.exec = Jvm.exec) (hb : c.code = cc) (hr : meth.sig.returnType = some .long) (hlk : meth.locks = false) {σ : S} (hP : va_P D vwCl (w σ) H) (hS : va_S A s.heap H locs) (hAe : A = va_A w0 sz) {v : Int64} {z : Int64 × S} (hf : some (v, σ) = some z) (hd : decode cc pc = .ok (.lreturn, 1)) : W p l e R s m args below meth c H locs 0 0 (MQ below (WQl sz D w0 (w z.2) z.1) args s 0 0 A) (F0 m pc ls [.long v]) := by
  subst hAe
  cases hf
  exact W.lret (v := v) hx hb hr (fun t ht _ => ⟨⟨v, (), rfl, rfl, by show va_P D vwCl (w σ) t.heap; rw [ht]; exact hP⟩, hS.F ht⟩) hS.2.2 hd hlk
theorem W_vret {S : Type} {sz : Nat} {w0 : va_W} (w : S → va_W) (hx : p.tables.exec = Jvm.exec) (hb : c.code = cc) (hr : meth.sig.returnType = none) (hlk : meth.locks = false) {σ : S} (hP : va_P D vwCl (w σ) H) (hS : va_S A s.heap H locs) (hAe : A = va_A w0 sz) {z : S} (hf : some σ = some z) (hd : decode cc pc = .ok (.return_, 1)) : W p l e R s m args below meth c H locs 0 0 (MQ below (WQv sz D w0 (w z)) args s 0 0 A) (F0 m pc ls []) := by
  subst hAe
  cases hf
  exact W.vret hx hb hr (fun t ht _ => ⟨⟨(), rfl, trivial, by show va_P D vwCl (w σ) t.heap; rw [ht]; exact hP⟩, hS.F ht⟩) hS.2.2 hd hlk
end KC
section KD
variable {p : Program} {l : Launch} {e : Env} {R : Room} {s : State} {m : MethodId} {args : Array Value} {below : List Frame} {meth : Method} {c : Code} {H : Heap} {locs : List Loc} {cells slots : Nat} {Q : State → Prop} {cc : ByteArray} {pc : Nat} {ls : Array Slot} {rest st0 : List Value} {ρ : Type} {r : ρ}
variable {D : va_G} {tys : List (ClassId × FieldType)} {A0 : Nat → Prop} {H0 : Heap}
variable {y : MethodName} {bytes : ByteArray} {maxL nL n index : Nat} {ret : Option FieldType} {ws Ts : List Cond} {rm : Room} {own C : String} {b : Addr} {As : List Value}
theorem va_P.keep0 {w : va_W} {H1 : Heap} (hP : va_P D vwCl w H) (hk : ∀ q : Nat, q < H.size → ¬ fr0 H.size q → H1[q]? = H[q]?) : va_P D vwCl w H1 := hP.kept (fun k q hq => by
  have hl := (hP k q hq).lt
  exact hk q.1 hl (Nat.not_le.mpr hl))
/-- calls that only read -/
theorem r_runI {a : Array Value} {v : Int32} {w : va_W} (hr : va_Run p l e R s m args below meth c H locs cells slots 0 0 (F0 m pc ls st0) rest (RQi H.size v a) (fr0 H.size)) (hP : va_P D vwCl w H) (hS : va_S A0 H0 H locs) (hA : ∀ q, H0.size ≤ q → A0 q)
    (kk : ∀ (H1 : Heap) (locs1 : List Loc), va_P D vwCl w H1 → va_S A0 H0 H1 locs1 → W p l e R s m args below meth c H1 locs1 cells slots Q (F0 m (pc + 3) ls (.int v :: rest))) : W p l e R s m args below meth c H locs cells slots Q (F0 m pc ls st0) := by
  refine va_calli hr hS (fun q h1 h2 => absurd h2 (Nat.not_le.mpr h1)) (fun q h => hA q (Nat.le_trans hS.1 h)) (fun r u t H1 locs1 ht hvm hp hB hz hk hS1 => ?_)
  subst hp
  exact kk H1 locs1 (hP.keep0 hk) hS1
theorem r_runL {a : Array Value} {v : Int64} {w : va_W} (hr : va_Run p l e R s m args below meth c H locs cells slots 0 0 (F0 m pc ls st0) rest (RQl H.size v a) (fr0 H.size)) (hP : va_P D vwCl w H) (hS : va_S A0 H0 H locs) (hA : ∀ q, H0.size ≤ q → A0 q)
    (kk : ∀ (H1 : Heap) (locs1 : List Loc), va_P D vwCl w H1 → va_S A0 H0 H1 locs1 → W p l e R s m args below meth c H1 locs1 cells slots Q (F0 m (pc + 3) ls (.long v :: rest))) : W p l e R s m args below meth c H locs cells slots Q (F0 m pc ls st0) := by
  refine va_calll hr hS (fun q h1 h2 => absurd h2 (Nat.not_le.mpr h1)) (fun q h => hA q (Nat.le_trans hS.1 h)) (fun r u t H1 locs1 ht hvm hp hB hz hk hS1 => ?_)
  subst hp
  exact kk H1 locs1 (hP.keep0 hk) hS1
theorem r_callV (S : CallFix p m c cc nL s args Ts own) {fc : Option Int32} {w wc : va_W} {K : Int32 → Option ρ} (hf : bo fc K = some r) (hM : ∀ v, fc = some v → Met l y ws rm (RPre (.ref b :: As) H.size D tys wc) (RQi H.size v) 0 0 (fr0 H.size)) (cw : CallW R s args own C index y bytes maxL ret ws rm 0 0 n) (hK : va_K D vwCl tys s) (hP : va_P D vwCl w H) (hS : va_S A0 H0 H locs) (hA : ∀ q, H0.size ≤ q → A0 q) (is : List Nat) (his : is.filterMap (fun i => w[i]?) = wc) (ci : Nat) {fs : List Value} {q : vw_C} (hc : vwCl[ci]? = some q) (hq : q.1 = C) (he : wc[0]? = some (b, .inr (ci, fs))) (hn : As.length = n) (hsize : ls.size = nL) (hst : st0 = As.reverse ++ .ref b :: rest) (hW : (rest.map fun v => v.category).sum ≤ 8) (hd : decode cc pc = .ok (.invokevirtual index, 3)) (hcs : cells ≤ R.cells ∧ slots ≤ R.slots)
    (kk : ∀ (v : Int32) (H1 : Heap) (locs1 : List Loc), va_P D vwCl w H1 → va_S A0 H0 H1 locs1 → K v = some r → W p l e R s m args below meth c H1 locs1 cells slots Q (F0 m (pc + 3) ls (.int v :: rest))) : W p l e R s m args below meth c H locs cells slots Q (F0 m pc ls st0) := by
  obtain ⟨v, h1, h2⟩ := bo_e hf
  subst hst
  have hPc := hP.sub is his
  refine r_runI (va_runV S (hM v h1) cw ⟨RPre.blind, by rw [← hq]; exact va_recv hK hPc hc he, fun U hU hW1 => ⟨rfl, by rw [hU], by rw [hU]; exact hPc, va_K.moved hW1.alike hK⟩⟩ rfl hn hsize rfl (lv_room hW) hd hcs) hP hS hA (fun H1 locs1 g1 g2 => kk v H1 locs1 g1 g2 h2)
theorem r_callS (S : CallFix p m c cc nL s args Ts own) {fc : Option Int32} {w wc : va_W} {K : Int32 → Option ρ} (hf : bo fc K = some r) (hM : ∀ v, fc = some v → Met l y ws rm (RPre As H.size D tys wc) (RQi H.size v) 0 0 (fr0 H.size)) (cw : CallB R s args own index y bytes maxL ret ws rm 0 0 n ∧ (Cond.static y).before args s = true) (hK : va_K D vwCl tys s) (hP : va_P D vwCl w H) (hS : va_S A0 H0 H locs) (hA : ∀ q, H0.size ≤ q → A0 q) (is : List Nat) (his : is.filterMap (fun i => w[i]?) = wc) (hn : As.length = n) (hsize : ls.size = nL) (hst : st0 = As.reverse ++ rest) (hW : (rest.map fun v => v.category).sum ≤ 8) (hd : decode cc pc = .ok (.invokestatic index, 3)) (hcs : cells ≤ R.cells ∧ slots ≤ R.slots)
    (kk : ∀ (v : Int32) (H1 : Heap) (locs1 : List Loc), va_P D vwCl w H1 → va_S A0 H0 H1 locs1 → K v = some r → W p l e R s m args below meth c H1 locs1 cells slots Q (F0 m (pc + 3) ls (.int v :: rest))) : W p l e R s m args below meth c H locs cells slots Q (F0 m pc ls st0) := by
  obtain ⟨v, h1, h2⟩ := bo_e hf
  subst hst
  have hPc := hP.sub is his
  refine r_runI (va_runS S (hM v h1) cw ⟨RPre.blind, fun U hU hW1 => ⟨rfl, by rw [hU], by rw [hU]; exact hPc, va_K.moved hW1.alike hK⟩⟩ rfl hn hsize rfl (lv_room hW) hd hcs) hP hS hA (fun H1 locs1 g1 g2 => kk v H1 locs1 g1 g2 h2)
theorem r_callSL (S : CallFix p m c cc nL s args Ts own) {fc : Option Int64} {w wc : va_W} {K : Int64 → Option ρ} (hf : bo fc K = some r) (hM : ∀ v, fc = some v → Met l y ws rm (RPre As H.size D tys wc) (RQl H.size v) 0 0 (fr0 H.size)) (cw : CallB R s args own index y bytes maxL ret ws rm 0 0 n ∧ (Cond.static y).before args s = true) (hK : va_K D vwCl tys s) (hP : va_P D vwCl w H) (hS : va_S A0 H0 H locs) (hA : ∀ q, H0.size ≤ q → A0 q) (is : List Nat) (his : is.filterMap (fun i => w[i]?) = wc) (hn : As.length = n) (hsize : ls.size = nL) (hst : st0 = As.reverse ++ rest) (hW : (rest.map fun v => v.category).sum ≤ 8) (hd : decode cc pc = .ok (.invokestatic index, 3)) (hcs : cells ≤ R.cells ∧ slots ≤ R.slots)
    (kk : ∀ (v : Int64) (H1 : Heap) (locs1 : List Loc), va_P D vwCl w H1 → va_S A0 H0 H1 locs1 → K v = some r → W p l e R s m args below meth c H1 locs1 cells slots Q (F0 m (pc + 3) ls (.long v :: rest))) : W p l e R s m args below meth c H locs cells slots Q (F0 m pc ls st0) := by
  obtain ⟨v, h1, h2⟩ := bo_e hf
  subst hst
  have hPc := hP.sub is his
  refine r_runL (va_runS S (hM v h1) cw ⟨RPre.blind, fun U hU hW1 => ⟨rfl, by rw [hU], by rw [hU]; exact hPc, va_K.moved hW1.alike hK⟩⟩ rfl hn hsize rfl (lv_room hW) hd hcs) hP hS hA (fun H1 locs1 g1 g2 => kk v H1 locs1 g1 g2 h2)
/-- the frame of a call that writes -/
theorem w_join {w w' wc wc' : va_W} {H1 : Heap} (hP : va_P D vwCl w H) (hD : va_D A0 w) (is rs : List Nat) (nW : Nat) (hC : is.map (fun i => w[i]?) = wc.map some) (hC' : is.map (fun i => w'[i]?) = wc'.map some) (hR : rs.map (fun i => w'[i]?) = rs.map (fun i => w[i]?)) (hlen : w'.length = nW) (hall : ∀ i, i < nW → i ∈ is ∨ i ∈ rs) (hdis : ∀ i ∈ rs, i ∉ is) (hk : ∀ q : Nat, q < H.size → ¬ va_A wc H.size q → H1[q]? = H[q]?) (hP1 : va_P D vwCl wc' H1) : va_P D vwCl w' H1 := by
  intro k q hq
  have hlt : k < nW := by rw [← hlen]; exact (List.getElem?_eq_some_iff.mp hq).1
  rcases hall k hlt with h | h
  · obtain ⟨j, hj⟩ := List.mem_iff_getElem?.mp h
    have h1 : (is.map (fun i => w'[i]?))[j]? = some (some q) := by rw [List.getElem?_map, hj]; show some (w'[k]?) = _; rw [hq]
    rw [hC', List.getElem?_map] at h1
    cases h2 : wc'[j]? with
    | none => rw [h2] at h1; cases h1
    | some q' => rw [h2] at h1; cases h1; exact hP1 j q h2
  · obtain ⟨j, hj⟩ := List.mem_iff_getElem?.mp h
    have h1 : (rs.map (fun i => w'[i]?))[j]? = some (some q) := by rw [List.getElem?_map, hj]; show some (w'[k]?) = _; rw [hq]
    rw [hR, List.getElem?_map, hj] at h1
    have h2 : w[k]? = some q := Option.some.inj h1
    have hl := (hP k q h2).lt
    refine (hP k q h2).kept (hk q.1 hl ?_)
    rintro (⟨k2, e2, h3⟩ | h3)
    · have h4 : (is.map (fun i => w[i]?))[k2]? = some (some (q.1, e2)) := by rw [hC, List.getElem?_map, h3]; rfl
      rw [List.getElem?_map] at h4
      cases hi : is[k2]? with
      | none => rw [hi] at h4; cases h4
      | some i =>
        rw [hi] at h4
        have h5 : w[i]? = some (q.1, e2) := Option.some.inj h4
        have h6 := hD.1 k i q (q.1, e2) h2 h5 rfl
        subst h6
        exact hdis k h (List.mem_of_getElem? hi)
    · exact absurd h3 (Nat.not_le.mpr hl)
theorem w_callV {S' T : Type} (S : CallFix p m c cc nL s args Ts own) {fc : Option (Int32 × T)} {w : S' → va_W} {wc : T → va_W} {put : T → S'} {σ : S'} {τ0 : T} {K : Int32 → S' → Option ρ} (hf : bx fc put K = some r) (hM : ∀ v τ, fc = some (v, τ) → Met l y ws rm (WPre (.ref b :: As) H.size D tys (wc τ0)) (WQi H.size D (wc τ0) (wc τ) v) 0 0 (va_A (wc τ0) H.size)) (cw : CallW R s args own C index y bytes maxL ret ws rm 0 0 n) (hK : va_K D vwCl tys s) (hP : va_P D vwCl (w σ) H) (hD : ∀ z, va_D A0 (w z)) (hS : va_S A0 H0 H locs) (hA : ∀ q, H0.size ≤ q → A0 q) (is rs : List Nat) (nW : Nat) (hC : is.map (fun i => (w σ)[i]?) = (wc τ0).map some) (hC' : ∀ τ, is.map (fun i => (w (put τ))[i]?) = (wc τ).map some) (hR : ∀ τ, rs.map (fun i => (w (put τ))[i]?) = rs.map (fun i => (w σ)[i]?)) (hlen : ∀ z, (w z).length = nW) (hall : (∀ i, i < nW → i ∈ is ∨ i ∈ rs) ∧ (∀ i ∈ rs, i ∉ is) ∧ va_nd is = true) (ci : Nat) {fs : List Value} {q : vw_C} (hc : vwCl[ci]? = some q) (hq : q.1 = C) (he : (wc τ0)[0]? = some (b, .inr (ci, fs))) (hn : As.length = n) (hsize : ls.size = nL) (hst : st0 = As.reverse ++ .ref b :: rest) (hW : (rest.map fun v => v.category).sum ≤ 8) (hd : decode cc pc = .ok (.invokevirtual index, 3)) (hcs : cells ≤ R.cells ∧ slots ≤ R.slots)
    (kk : ∀ (v : Int32) (z : S') (H1 : Heap) (locs1 : List Loc), va_P D vwCl (w z) H1 → va_S A0 H0 H1 locs1 → K v z = some r → W p l e R s m args below meth c H1 locs1 cells slots Q (F0 m (pc + 3) ls (.int v :: rest))) : W p l e R s m args below meth c H locs cells slots Q (F0 m pc ls st0) := by
  obtain ⟨v, τ, h1, h2⟩ := bx_e hf
  subst hst
  have hDc := (hD σ).sub (ws' := wc τ0) is hall.2.2 hC
  have hPc : va_P D vwCl (wc τ0) H := hP.sub is (by
    have h := congrArg (List.filterMap id) hC
    simpa [List.filterMap_map, Function.comp_def] using h)
  have hFc := va_free (wc := wc τ0) (hD σ) hS hA is hC
  refine va_calli (va_runV S (hM v τ h1) cw ⟨WPre.blind, by rw [← hq]; exact va_recv hK hPc hc he, fun U hU hW1 => ⟨rfl, by rw [hU], by rw [hU]; exact hPc, va_K.moved hW1.alike hK, hDc.weaken (fun _ _ _ _ => trivial)⟩⟩ rfl hn hsize rfl (lv_room hW) hd hcs) hS (fun q _ h => hFc q h) hFc (fun r' u t H1 locs1 ht hvm hp hB hz hk hS1 => ?_)
  subst hp
  rw [ht] at hB
  exact kk r' (put τ) H1 locs1 (w_join hP (hD σ) is rs nW hC (hC' τ) (hR τ) (hlen _) hall.1 hall.2.1 hk hB) hS1 h2
theorem w_callVL {S' T : Type} (S : CallFix p m c cc nL s args Ts own) {fc : Option (Int64 × T)} {w : S' → va_W} {wc : T → va_W} {put : T → S'} {σ : S'} {τ0 : T} {K : Int64 → S' → Option ρ} (hf : bx fc put K = some r) (hM : ∀ v τ, fc = some (v, τ) → Met l y ws rm (WPre (.ref b :: As) H.size D tys (wc τ0)) (WQl H.size D (wc τ0) (wc τ) v) 0 0 (va_A (wc τ0) H.size)) (cw : CallW R s args own C index y bytes maxL ret ws rm 0 0 n) (hK : va_K D vwCl tys s) (hP : va_P D vwCl (w σ) H) (hD : ∀ z, va_D A0 (w z)) (hS : va_S A0 H0 H locs) (hA : ∀ q, H0.size ≤ q → A0 q) (is rs : List Nat) (nW : Nat) (hC : is.map (fun i => (w σ)[i]?) = (wc τ0).map some) (hC' : ∀ τ, is.map (fun i => (w (put τ))[i]?) = (wc τ).map some) (hR : ∀ τ, rs.map (fun i => (w (put τ))[i]?) = rs.map (fun i => (w σ)[i]?)) (hlen : ∀ z, (w z).length = nW) (hall : (∀ i, i < nW → i ∈ is ∨ i ∈ rs) ∧ (∀ i ∈ rs, i ∉ is) ∧ va_nd is = true) (ci : Nat) {fs : List Value} {q : vw_C} (hc : vwCl[ci]? = some q) (hq : q.1 = C) (he : (wc τ0)[0]? = some (b, .inr (ci, fs))) (hn : As.length = n) (hsize : ls.size = nL) (hst : st0 = As.reverse ++ .ref b :: rest) (hW : (rest.map fun v => v.category).sum ≤ 8) (hd : decode cc pc = .ok (.invokevirtual index, 3)) (hcs : cells ≤ R.cells ∧ slots ≤ R.slots)
    (kk : ∀ (v : Int64) (z : S') (H1 : Heap) (locs1 : List Loc), va_P D vwCl (w z) H1 → va_S A0 H0 H1 locs1 → K v z = some r → W p l e R s m args below meth c H1 locs1 cells slots Q (F0 m (pc + 3) ls (.long v :: rest))) : W p l e R s m args below meth c H locs cells slots Q (F0 m pc ls st0) := by
  obtain ⟨v, τ, h1, h2⟩ := bx_e hf
  subst hst
  have hDc := (hD σ).sub (ws' := wc τ0) is hall.2.2 hC
  have hPc : va_P D vwCl (wc τ0) H := hP.sub is (by
    have h := congrArg (List.filterMap id) hC
    simpa [List.filterMap_map, Function.comp_def] using h)
  have hFc := va_free (wc := wc τ0) (hD σ) hS hA is hC
  refine va_calll (va_runV S (hM v τ h1) cw ⟨WPre.blind, by rw [← hq]; exact va_recv hK hPc hc he, fun U hU hW1 => ⟨rfl, by rw [hU], by rw [hU]; exact hPc, va_K.moved hW1.alike hK, hDc.weaken (fun _ _ _ _ => trivial)⟩⟩ rfl hn hsize rfl (lv_room hW) hd hcs) hS (fun q _ h => hFc q h) hFc (fun r' u t H1 locs1 ht hvm hp hB hz hk hS1 => ?_)
  subst hp
  rw [ht] at hB
  exact kk r' (put τ) H1 locs1 (w_join hP (hD σ) is rs nW hC (hC' τ) (hR τ) (hlen _) hall.1 hall.2.1 hk hB) hS1 h2
theorem w_callVv {S' T : Type} (S : CallFix p m c cc nL s args Ts own) {fc : Option T} {w : S' → va_W} {wc : T → va_W} {put : T → S'} {σ : S'} {τ0 : T} {K : S' → Option ρ} (hf : by_ fc put K = some r) (hM : ∀ τ, fc = some τ → Met l y ws rm (WPre (.ref b :: As) H.size D tys (wc τ0)) (WQv H.size D (wc τ0) (wc τ)) 0 0 (va_A (wc τ0) H.size)) (cw : CallW R s args own C index y bytes maxL ret ws rm 0 0 n) (hK : va_K D vwCl tys s) (hP : va_P D vwCl (w σ) H) (hD : ∀ z, va_D A0 (w z)) (hS : va_S A0 H0 H locs) (hA : ∀ q, H0.size ≤ q → A0 q) (is rs : List Nat) (nW : Nat) (hC : is.map (fun i => (w σ)[i]?) = (wc τ0).map some) (hC' : ∀ τ, is.map (fun i => (w (put τ))[i]?) = (wc τ).map some) (hR : ∀ τ, rs.map (fun i => (w (put τ))[i]?) = rs.map (fun i => (w σ)[i]?)) (hlen : ∀ z, (w z).length = nW) (hall : (∀ i, i < nW → i ∈ is ∨ i ∈ rs) ∧ (∀ i ∈ rs, i ∉ is) ∧ va_nd is = true) (ci : Nat) {fs : List Value} {q : vw_C} (hc : vwCl[ci]? = some q) (hq : q.1 = C) (he : (wc τ0)[0]? = some (b, .inr (ci, fs))) (hn : As.length = n) (hsize : ls.size = nL) (hst : st0 = As.reverse ++ .ref b :: rest) (hW : (rest.map fun v => v.category).sum ≤ 8) (hd : decode cc pc = .ok (.invokevirtual index, 3)) (hcs : cells ≤ R.cells ∧ slots ≤ R.slots)
    (kk : ∀ (z : S') (H1 : Heap) (locs1 : List Loc), va_P D vwCl (w z) H1 → va_S A0 H0 H1 locs1 → K z = some r → W p l e R s m args below meth c H1 locs1 cells slots Q (F0 m (pc + 3) ls rest)) : W p l e R s m args below meth c H locs cells slots Q (F0 m pc ls st0) := by
  obtain ⟨τ, h1, h2⟩ := by_e hf
  subst hst
  have hDc := (hD σ).sub (ws' := wc τ0) is hall.2.2 hC
  have hPc : va_P D vwCl (wc τ0) H := hP.sub is (by
    have h := congrArg (List.filterMap id) hC
    simpa [List.filterMap_map, Function.comp_def] using h)
  have hFc := va_free (wc := wc τ0) (hD σ) hS hA is hC
  refine va_callv (va_runV S (hM τ h1) cw ⟨WPre.blind, by rw [← hq]; exact va_recv hK hPc hc he, fun U hU hW1 => ⟨rfl, by rw [hU], by rw [hU]; exact hPc, va_K.moved hW1.alike hK, hDc.weaken (fun _ _ _ _ => trivial)⟩⟩ rfl hn hsize rfl (lv_room hW) hd hcs) hS (fun q _ h => hFc q h) hFc (fun u t H1 locs1 ht hvm hp hB hz hk hS1 => ?_)
  rw [ht] at hB
  exact kk (put τ) H1 locs1 (w_join hP (hD σ) is rs nW hC (hC' τ) (hR τ) (hlen _) hall.1 hall.2.1 hk hB) hS1 h2
theorem w_callSv {S' T : Type} (S : CallFix p m c cc nL s args Ts own) {fc : Option T} {w : S' → va_W} {wc : T → va_W} {put : T → S'} {σ : S'} {τ0 : T} {K : S' → Option ρ} (hf : by_ fc put K = some r) (hM : ∀ τ, fc = some τ → Met l y ws rm (WPre As H.size D tys (wc τ0)) (WQv H.size D (wc τ0) (wc τ)) 0 0 (va_A (wc τ0) H.size)) (cw : CallB R s args own index y bytes maxL ret ws rm 0 0 n ∧ (Cond.static y).before args s = true) (hK : va_K D vwCl tys s) (hP : va_P D vwCl (w σ) H) (hD : ∀ z, va_D A0 (w z)) (hS : va_S A0 H0 H locs) (hA : ∀ q, H0.size ≤ q → A0 q) (is rs : List Nat) (nW : Nat) (hC : is.map (fun i => (w σ)[i]?) = (wc τ0).map some) (hC' : ∀ τ, is.map (fun i => (w (put τ))[i]?) = (wc τ).map some) (hR : ∀ τ, rs.map (fun i => (w (put τ))[i]?) = rs.map (fun i => (w σ)[i]?)) (hlen : ∀ z, (w z).length = nW) (hall : (∀ i, i < nW → i ∈ is ∨ i ∈ rs) ∧ (∀ i ∈ rs, i ∉ is) ∧ va_nd is = true) (hn : As.length = n) (hsize : ls.size = nL) (hst : st0 = As.reverse ++ rest) (hW : (rest.map fun v => v.category).sum ≤ 8) (hd : decode cc pc = .ok (.invokestatic index, 3)) (hcs : cells ≤ R.cells ∧ slots ≤ R.slots)
    (kk : ∀ (z : S') (H1 : Heap) (locs1 : List Loc), va_P D vwCl (w z) H1 → va_S A0 H0 H1 locs1 → K z = some r → W p l e R s m args below meth c H1 locs1 cells slots Q (F0 m (pc + 3) ls rest)) : W p l e R s m args below meth c H locs cells slots Q (F0 m pc ls st0) := by
  obtain ⟨τ, h1, h2⟩ := by_e hf
  subst hst
  have hDc := (hD σ).sub (ws' := wc τ0) is hall.2.2 hC
  have hPc : va_P D vwCl (wc τ0) H := hP.sub is (by
    have h := congrArg (List.filterMap id) hC
    simpa [List.filterMap_map, Function.comp_def] using h)
  have hFc := va_free (wc := wc τ0) (hD σ) hS hA is hC
  refine va_callv (va_runS S (hM τ h1) cw ⟨WPre.blind, fun U hU hW1 => ⟨rfl, by rw [hU], by rw [hU]; exact hPc, va_K.moved hW1.alike hK, hDc.weaken (fun _ _ _ _ => trivial)⟩⟩ rfl hn hsize rfl (lv_room hW) hd hcs) hS (fun q _ h => hFc q h) hFc (fun u t H1 locs1 ht hvm hp hB hz hk hS1 => ?_)
  rw [ht] at hB
  exact kk (put τ) H1 locs1 (w_join hP (hD σ) is rs nW hC (hC' τ) (hR τ) (hlen _) hall.1 hall.2.1 hk hB) hS1 h2
end KD
/-! the worlds: which cells, how long their rows -/
abbrev wNo : va_W := []
abbrev wHo (cI : ClassId) (a : Nat → Nat) (σ : St) : va_W := [(a 0, .inr (0, [.int (σ 0 0), .int (σ 0 1), .int (σ 0 2), .int (σ 0 3), .ref (a 1), .ref (a 2), .ref (a 3), .ref (a 4), .ref (a 5)])), (a 1, .inl (cI, 2, .inl (σ 1))), (a 2, .inl (cI, 8, .inl (σ 2))), (a 3, .inl (cI, 8, .inl (σ 3))), (a 4, .inl (cI, 8, .inl (σ 4))), (a 5, .inl (cI, 8, .inl (σ 5)))]
abbrev wHo2 (cI : ClassId) (a : Nat → Nat) (σ : St) : va_W := [(a 0, .inr (0, [.int (σ 0 0), .int (σ 0 1), .int (σ 0 2), .int (σ 0 3), .ref (a 1), .ref (a 2), .ref (a 3), .ref (a 4), .ref (a 5)])), (a 1, .inl (cI, 2, .inl (σ 1))), (a 2, .inl (cI, 8, .inl (σ 2))), (a 3, .inl (cI, 8, .inl (σ 3))), (a 4, .inl (cI, 8, .inl (σ 4))), (a 5, .inl (cI, 8, .inl (σ 5))),
  (a 6, .inr (0, [.int (σ 6 0), .int (σ 6 1), .int (σ 6 2), .int (σ 6 3), .ref (a 7), .ref (a 8), .ref (a 9), .ref (a 10), .ref (a 11)])), (a 7, .inl (cI, 2, .inl (σ 7))), (a 8, .inl (cI, 8, .inl (σ 8))), (a 9, .inl (cI, 8, .inl (σ 9))), (a 10, .inl (cI, 8, .inl (σ 10))), (a 11, .inl (cI, 8, .inl (σ 11)))]
abbrev wHoP (cI : ClassId) (a : Nat → Nat) (σ : St) : va_W := [(a 0, .inr (0, [.int (σ 0 0), .int (σ 0 1), .int (σ 0 2), .int (σ 0 3), .ref (a 1), .ref (a 2), .ref (a 3), .ref (a 4), .ref (a 5)])), (a 1, .inl (cI, 2, .inl (σ 1))), (a 2, .inl (cI, 8, .inl (σ 2))), (a 3, .inl (cI, 8, .inl (σ 3))), (a 4, .inl (cI, 8, .inl (σ 4))), (a 5, .inl (cI, 8, .inl (σ 5))), (a 6, .inl (cI, 71, .inl (σ 6)))]
abbrev wTe (cI : ClassId) (a : Nat → Nat) (σ : St) : va_W := [(a 0, .inr (1, [.int (σ 0 0), .ref (a 1)])), (a 1, .inl (cI, 96, .inl (σ 1)))]
abbrev wTeH (cI : ClassId) (a : Nat → Nat) (σ : St) : va_W := [(a 0, .inr (1, [.int (σ 0 0), .ref (a 1)])), (a 1, .inl (cI, 96, .inl (σ 1))),
  (a 2, .inr (0, [.int (σ 2 0), .int (σ 2 1), .int (σ 2 2), .int (σ 2 3), .ref (a 3), .ref (a 4), .ref (a 5), .ref (a 6), .ref (a 7)])), (a 3, .inl (cI, 2, .inl (σ 3))), (a 4, .inl (cI, 8, .inl (σ 4))), (a 5, .inl (cI, 8, .inl (σ 5))), (a 6, .inl (cI, 8, .inl (σ 6))), (a 7, .inl (cI, 8, .inl (σ 7)))]
abbrev wHA (cI cJ : ClassId) (a : Nat → Nat) (τ : LSt) (σ : St) : va_W := [(a 0, .inr (2, [.ref (a 1), .ref (a 7), .ref (a 13), .ref (a 19), .ref (a 21), .ref (a 22), .ref (a 23), .ref (a 24), .ref (a 25), .ref (a 26), .ref (a 27), .ref (a 28), .int (σ 0 12), .int (σ 0 13)])),
  (a 1, .inr (0, [.int (σ 1 0), .int (σ 1 1), .int (σ 1 2), .int (σ 1 3), .ref (a 2), .ref (a 3), .ref (a 4), .ref (a 5), .ref (a 6)])), (a 2, .inl (cI, 2, .inl (σ 2))), (a 3, .inl (cI, 8, .inl (σ 3))), (a 4, .inl (cI, 8, .inl (σ 4))), (a 5, .inl (cI, 8, .inl (σ 5))), (a 6, .inl (cI, 8, .inl (σ 6))),
  (a 7, .inr (0, [.int (σ 7 0), .int (σ 7 1), .int (σ 7 2), .int (σ 7 3), .ref (a 8), .ref (a 9), .ref (a 10), .ref (a 11), .ref (a 12)])), (a 8, .inl (cI, 2, .inl (σ 8))), (a 9, .inl (cI, 8, .inl (σ 9))), (a 10, .inl (cI, 8, .inl (σ 10))), (a 11, .inl (cI, 8, .inl (σ 11))), (a 12, .inl (cI, 8, .inl (σ 12))),
  (a 13, .inr (0, [.int (σ 13 0), .int (σ 13 1), .int (σ 13 2), .int (σ 13 3), .ref (a 14), .ref (a 15), .ref (a 16), .ref (a 17), .ref (a 18)])), (a 14, .inl (cI, 2, .inl (σ 14))), (a 15, .inl (cI, 8, .inl (σ 15))), (a 16, .inl (cI, 8, .inl (σ 16))), (a 17, .inl (cI, 8, .inl (σ 17))), (a 18, .inl (cI, 8, .inl (σ 18))),
  (a 19, .inr (1, [.int (σ 19 0), .ref (a 20)])), (a 20, .inl (cI, 96, .inl (σ 20))),
  (a 21, .inl (cI, 71, .inl (σ 21))), (a 22, .inl (cI, 31, .inl (σ 22))), (a 23, .inl (cI, 8, .inl (σ 23))), (a 24, .inl (cI, 4, .inl (σ 24))), (a 25, .inl (cJ, 21, .inr (.inl (τ 0)))), (a 26, .inl (cJ, 21, .inr (.inl (τ 1)))), (a 27, .inl (cI, 16, .inl (σ 27))), (a 28, .inl (cI, 7, .inl (σ 28)))]
abbrev wAr (cI : ClassId) (a : Nat → Nat) (σ : St) : va_W := [(a 0, .inl (cI, 38, .inl (σ 0)))]
abbrev wAr2 (cI : ClassId) (a : Nat → Nat) (σ : St) : va_W := [(a 0, .inl (cI, 38, .inl (σ 0))), (a 1, .inl (cI, 38, .inl (σ 1)))]
abbrev wMo (cI : ClassId) (a : Nat → Nat) (σ : St) : va_W := [(a 0, .inr (3, [.ref (a 1), .ref (a 2), .ref (a 3), .ref (a 4), .int (σ 0 4), .ref (a 5), .ref (a 6), .ref (a 7), .int (σ 0 8), .int (σ 0 9), .int (σ 0 10), .ref (a 8), .int (σ 0 12)])), (a 1, .inl (cI, 38, .inl (σ 1))), (a 2, .inl (cI, 38, .inl (σ 2))), (a 3, .inl (cI, 38, .inl (σ 3))), (a 4, .inl (cI, 38, .inl (σ 4))), (a 5, .inl (cI, 96, .inl (σ 5))), (a 6, .inl (cI, 16, .inl (σ 6))), (a 7, .inl (cI, 7, .inl (σ 7))), (a 8, .inl (cI, 3, .inl (σ 8)))]
end
