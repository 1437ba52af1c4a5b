section
-- ===== PART A: goes FIRST, ahead of the names: the tables' words, and 'selects' of the private methods out of them =====
/-- a private method of a class that the tables say can be made, by its rows of tables_1 -/
def lw_okq (q : MethodName × Nat) : Prop := (q.1.cls ≠ "java/lang/invoke/MethodHandle" ∧ q.1.cls ≠ "java/lang/invoke/VarHandle") ∧ Cond.instantiable q.1.cls q.2 ∈ tables_1 ∧ Cond.privateMethod q.1 ∈ tables_1 ∧ Cond.instanceMethod q.1 ∈ tables_1
theorem lw_p0 : lw_okq (⟨"BeastRoad$Wagons", "weightWith", "(III)I"⟩, 6) := ⟨⟨by decide +kernel, by decide +kernel⟩, List.mem_of_getElem? (i := 96) (by decide +kernel), List.mem_of_getElem? (i := 260) (by decide +kernel), List.mem_of_getElem? (i := 261) (by decide +kernel)⟩
theorem lw_p1 : lw_okq (⟨"BeastRoad$Herd", "isDay", "(I)Z"⟩, 13) := ⟨⟨by decide +kernel, by decide +kernel⟩, List.mem_of_getElem? (i := 27) (by decide +kernel), List.mem_of_getElem? (i := 294) (by decide +kernel), List.mem_of_getElem? (i := 295) (by decide +kernel)⟩
theorem lw_p2 : lw_okq (⟨"BeastRoad$Herd", "recall", "(I)V"⟩, 13) := ⟨⟨by decide +kernel, by decide +kernel⟩, List.mem_of_getElem? (i := 27) (by decide +kernel), List.mem_of_getElem? (i := 314) (by decide +kernel), List.mem_of_getElem? (i := 315) (by decide +kernel)⟩
theorem lw_p3 : lw_okq (⟨"BeastRoad$Herd", "stands", "(III)Z"⟩, 13) := ⟨⟨by decide +kernel, by decide +kernel⟩, List.mem_of_getElem? (i := 27) (by decide +kernel), List.mem_of_getElem? (i := 318) (by decide +kernel), List.mem_of_getElem? (i := 319) (by decide +kernel)⟩
theorem lw_p4 : lw_okq (⟨"BeastRoad$Book", "linesDue", "(I[I)I"⟩, 4) := ⟨⟨by decide +kernel, by decide +kernel⟩, List.mem_of_getElem? (i := 77) (by decide +kernel), List.mem_of_getElem? (i := 346) (by decide +kernel), List.mem_of_getElem? (i := 347) (by decide +kernel)⟩
theorem lw_p5 : lw_okq (⟨"BeastRoad$Book", "makeRoom", "(I)V"⟩, 4) := ⟨⟨by decide +kernel, by decide +kernel⟩, List.mem_of_getElem? (i := 77) (by decide +kernel), List.mem_of_getElem? (i := 350) (by decide +kernel), List.mem_of_getElem? (i := 351) (by decide +kernel)⟩
theorem lw_p6 : lw_okq (⟨"BeastRoad$Book", "write", "(III)V"⟩, 4) := ⟨⟨by decide +kernel, by decide +kernel⟩, List.mem_of_getElem? (i := 77) (by decide +kernel), List.mem_of_getElem? (i := 375) (by decide +kernel), List.mem_of_getElem? (i := 376) (by decide +kernel)⟩
theorem lw_p7 : lw_okq (⟨"BeastRoad$Wagons", "meetsFoeAhead", "(I)Z"⟩, 6) := ⟨⟨by decide +kernel, by decide +kernel⟩, List.mem_of_getElem? (i := 96) (by decide +kernel), List.mem_of_getElem? (i := 440) (by decide +kernel), List.mem_of_getElem? (i := 441) (by decide +kernel)⟩
theorem lw_p8 : lw_okq (⟨"BeastRoad$Wagons", "findKinds", "()V"⟩, 6) := ⟨⟨by decide +kernel, by decide +kernel⟩, List.mem_of_getElem? (i := 96) (by decide +kernel), List.mem_of_getElem? (i := 452) (by decide +kernel), List.mem_of_getElem? (i := 453) (by decide +kernel)⟩
theorem lw_p9 : lw_okq (⟨"BeastRoad$Wagons", "filledWagons", "()I"⟩, 6) := ⟨⟨by decide +kernel, by decide +kernel⟩, List.mem_of_getElem? (i := 96) (by decide +kernel), List.mem_of_getElem? (i := 456) (by decide +kernel), List.mem_of_getElem? (i := 457) (by decide +kernel)⟩
theorem lw_p10 : lw_okq (⟨"BeastRoad$Wagons", "findFoes", "()V"⟩, 6) := ⟨⟨by decide +kernel, by decide +kernel⟩, List.mem_of_getElem? (i := 96) (by decide +kernel), List.mem_of_getElem? (i := 466) (by decide +kernel), List.mem_of_getElem? (i := 467) (by decide +kernel)⟩
theorem lw_p11 : lw_okq (⟨"BeastRoad$Wagons", "kindsBarredBy", "(I)I"⟩, 6) := ⟨⟨by decide +kernel, by decide +kernel⟩, List.mem_of_getElem? (i := 96) (by decide +kernel), List.mem_of_getElem? (i := 470) (by decide +kernel), List.mem_of_getElem? (i := 471) (by decide +kernel)⟩
theorem lw_p12 : lw_okq (⟨"BeastRoad$Wagons", "findBeginnings", "(I)V"⟩, 6) := ⟨⟨by decide +kernel, by decide +kernel⟩, List.mem_of_getElem? (i := 96) (by decide +kernel), List.mem_of_getElem? (i := 474) (by decide +kernel), List.mem_of_getElem? (i := 475) (by decide +kernel)⟩
theorem lw_p13 : lw_okq (⟨"BeastRoad$Wagons", "beginningsOf", "(I)I"⟩, 6) := ⟨⟨by decide +kernel, by decide +kernel⟩, List.mem_of_getElem? (i := 96) (by decide +kernel), List.mem_of_getElem? (i := 478) (by decide +kernel), List.mem_of_getElem? (i := 479) (by decide +kernel)⟩
theorem lw_p14 : lw_okq (⟨"BeastRoad$Wagons", "placeByLowest", "(II)I"⟩, 6) := ⟨⟨by decide +kernel, by decide +kernel⟩, List.mem_of_getElem? (i := 96) (by decide +kernel), List.mem_of_getElem? (i := 482) (by decide +kernel), List.mem_of_getElem? (i := 483) (by decide +kernel)⟩
theorem lw_p15 : lw_okq (⟨"BeastRoad$Fairs", "plan", "(II)Z"⟩, 13) := ⟨⟨by decide +kernel, by decide +kernel⟩, List.mem_of_getElem? (i := 122) (by decide +kernel), List.mem_of_getElem? (i := 526) (by decide +kernel), List.mem_of_getElem? (i := 527) (by decide +kernel)⟩
def lw_privs_1 : List (MethodName × Nat) := [(⟨"BeastRoad$Wagons", "weightWith", "(III)I"⟩, 6), (⟨"BeastRoad$Herd", "isDay", "(I)Z"⟩, 13), (⟨"BeastRoad$Herd", "recall", "(I)V"⟩, 13), (⟨"BeastRoad$Herd", "stands", "(III)Z"⟩, 13), (⟨"BeastRoad$Book", "linesDue", "(I[I)I"⟩, 4), (⟨"BeastRoad$Book", "makeRoom", "(I)V"⟩, 4), (⟨"BeastRoad$Book", "write", "(III)V"⟩, 4), (⟨"BeastRoad$Wagons", "meetsFoeAhead", "(I)Z"⟩, 6), (⟨"BeastRoad$Wagons", "findKinds", "()V"⟩, 6), (⟨"BeastRoad$Wagons", "filledWagons", "()I"⟩, 6), (⟨"BeastRoad$Wagons", "findFoes", "()V"⟩, 6), (⟨"BeastRoad$Wagons", "kindsBarredBy", "(I)I"⟩, 6), (⟨"BeastRoad$Wagons", "findBeginnings", "(I)V"⟩, 6), (⟨"BeastRoad$Wagons", "beginningsOf", "(I)I"⟩, 6), (⟨"BeastRoad$Wagons", "placeByLowest", "(II)I"⟩, 6), (⟨"BeastRoad$Fairs", "plan", "(II)Z"⟩, 13)]
theorem lw_r1 : ∀ q ∈ lw_privs_1, lw_okq q := List.forall_mem_cons.mpr ⟨lw_p0, List.forall_mem_cons.mpr ⟨lw_p1, List.forall_mem_cons.mpr ⟨lw_p2, List.forall_mem_cons.mpr ⟨lw_p3, List.forall_mem_cons.mpr ⟨lw_p4, List.forall_mem_cons.mpr ⟨lw_p5, List.forall_mem_cons.mpr ⟨lw_p6, List.forall_mem_cons.mpr ⟨lw_p7, List.forall_mem_cons.mpr ⟨lw_p8, List.forall_mem_cons.mpr ⟨lw_p9, List.forall_mem_cons.mpr ⟨lw_p10, List.forall_mem_cons.mpr ⟨lw_p11, List.forall_mem_cons.mpr ⟨lw_p12, List.forall_mem_cons.mpr ⟨lw_p13, List.forall_mem_cons.mpr ⟨lw_p14, List.forall_mem_cons.mpr ⟨lw_p15, fun _ h => absurd h List.not_mem_nil⟩⟩⟩⟩⟩⟩⟩⟩⟩⟩⟩⟩⟩⟩⟩⟩
theorem lw_p16 : lw_okq (⟨"BeastRoad$Fairs", "visit", "(IIII)V"⟩, 13) := ⟨⟨by decide +kernel, by decide +kernel⟩, List.mem_of_getElem? (i := 122) (by decide +kernel), List.mem_of_getElem? (i := 530) (by decide +kernel), List.mem_of_getElem? (i := 531) (by decide +kernel)⟩
theorem lw_p17 : lw_okq (⟨"BeastRoad$Fairs", "keepIfBetter", "(II)V"⟩, 13) := ⟨⟨by decide +kernel, by decide +kernel⟩, List.mem_of_getElem? (i := 122) (by decide +kernel), List.mem_of_getElem? (i := 535) (by decide +kernel), List.mem_of_getElem? (i := 536) (by decide +kernel)⟩
theorem lw_p18 : lw_okq (⟨"BeastRoad$Fairs", "isBetter", "(II)Z"⟩, 13) := ⟨⟨by decide +kernel, by decide +kernel⟩, List.mem_of_getElem? (i := 122) (by decide +kernel), List.mem_of_getElem? (i := 539) (by decide +kernel), List.mem_of_getElem? (i := 540) (by decide +kernel)⟩
theorem lw_p19 : lw_okq (⟨"BeastRoad$Fairs", "mayGetBetter", "(II)Z"⟩, 13) := ⟨⟨by decide +kernel, by decide +kernel⟩, List.mem_of_getElem? (i := 122) (by decide +kernel), List.mem_of_getElem? (i := 544) (by decide +kernel), List.mem_of_getElem? (i := 545) (by decide +kernel)⟩
theorem lw_p20 : lw_okq (⟨"BeastRoad$Fairs", "goOn", "(IIII)V"⟩, 13) := ⟨⟨by decide +kernel, by decide +kernel⟩, List.mem_of_getElem? (i := 122) (by decide +kernel), List.mem_of_getElem? (i := 549) (by decide +kernel), List.mem_of_getElem? (i := 550) (by decide +kernel)⟩
theorem lw_p21 : lw_okq (⟨"BeastRoad$Tape", "pastBlanks", "(I)I"⟩, 2) := ⟨⟨by decide +kernel, by decide +kernel⟩, List.mem_of_getElem? (i := 169) (by decide +kernel), List.mem_of_getElem? (i := 601) (by decide +kernel), List.mem_of_getElem? (i := 602) (by decide +kernel)⟩
theorem lw_p22 : lw_okq (⟨"BeastRoad$Tape", "readClause", "(ILBeastRoad$Law;)I"⟩, 2) := ⟨⟨by decide +kernel, by decide +kernel⟩, List.mem_of_getElem? (i := 169) (by decide +kernel), List.mem_of_getElem? (i := 605) (by decide +kernel), List.mem_of_getElem? (i := 606) (by decide +kernel)⟩
theorem lw_p23 : lw_okq (⟨"BeastRoad$Tape", "sortAt", "(I)I"⟩, 2) := ⟨⟨by decide +kernel, by decide +kernel⟩, List.mem_of_getElem? (i := 169) (by decide +kernel), List.mem_of_getElem? (i := 609) (by decide +kernel), List.mem_of_getElem? (i := 610) (by decide +kernel)⟩
theorem lw_p24 : lw_okq (⟨"BeastRoad$Tape", "standsAt", "(ILjava/lang/String;)Z"⟩, 2) := ⟨⟨by decide +kernel, by decide +kernel⟩, List.mem_of_getElem? (i := 169) (by decide +kernel), List.mem_of_getElem? (i := 622) (by decide +kernel), List.mem_of_getElem? (i := 623) (by decide +kernel)⟩
theorem lw_p25 : lw_okq (⟨"BeastRoad$Tape", "pastDigits", "(I)I"⟩, 2) := ⟨⟨by decide +kernel, by decide +kernel⟩, List.mem_of_getElem? (i := 169) (by decide +kernel), List.mem_of_getElem? (i := 674) (by decide +kernel), List.mem_of_getElem? (i := 675) (by decide +kernel)⟩
theorem lw_p26 : lw_okq (⟨"BeastRoad$Tape", "valueOf", "(II)I"⟩, 2) := ⟨⟨by decide +kernel, by decide +kernel⟩, List.mem_of_getElem? (i := 169) (by decide +kernel), List.mem_of_getElem? (i := 678) (by decide +kernel), List.mem_of_getElem? (i := 679) (by decide +kernel)⟩
theorem lw_p27 : lw_okq (⟨"BeastRoad$Law", "forbid", "(I)Z"⟩, 2) := ⟨⟨by decide +kernel, by decide +kernel⟩, List.mem_of_getElem? (i := 183) (by decide +kernel), List.mem_of_getElem? (i := 686) (by decide +kernel), List.mem_of_getElem? (i := 687) (by decide +kernel)⟩
theorem lw_p28 : lw_okq (⟨"BeastRoad$Law", "isAbove", "(II)Z"⟩, 2) := ⟨⟨by decide +kernel, by decide +kernel⟩, List.mem_of_getElem? (i := 183) (by decide +kernel), List.mem_of_getElem? (i := 720) (by decide +kernel), List.mem_of_getElem? (i := 721) (by decide +kernel)⟩
theorem lw_p29 : lw_okq (⟨"BeastRoad$Law", "numberOrZero", "(I)I"⟩, 2) := ⟨⟨by decide +kernel, by decide +kernel⟩, List.mem_of_getElem? (i := 183) (by decide +kernel), List.mem_of_getElem? (i := 732) (by decide +kernel), List.mem_of_getElem? (i := 733) (by decide +kernel)⟩
theorem lw_p30 : lw_okq (⟨"BeastRoad$Field", "spread", "(I)V"⟩, 5) := ⟨⟨by decide +kernel, by decide +kernel⟩, List.mem_of_getElem? (i := 197) (by decide +kernel), List.mem_of_getElem? (i := 769) (by decide +kernel), List.mem_of_getElem? (i := 770) (by decide +kernel)⟩
theorem lw_p31 : lw_okq (⟨"BeastRoad$Field", "isOpen", "(I)Z"⟩, 5) := ⟨⟨by decide +kernel, by decide +kernel⟩, List.mem_of_getElem? (i := 197) (by decide +kernel), List.mem_of_getElem? (i := 785) (by decide +kernel), List.mem_of_getElem? (i := 786) (by decide +kernel)⟩
def lw_privs_2 : List (MethodName × Nat) := [(⟨"BeastRoad$Fairs", "visit", "(IIII)V"⟩, 13), (⟨"BeastRoad$Fairs", "keepIfBetter", "(II)V"⟩, 13), (⟨"BeastRoad$Fairs", "isBetter", "(II)Z"⟩, 13), (⟨"BeastRoad$Fairs", "mayGetBetter", "(II)Z"⟩, 13), (⟨"BeastRoad$Fairs", "goOn", "(IIII)V"⟩, 13), (⟨"BeastRoad$Tape", "pastBlanks", "(I)I"⟩, 2), (⟨"BeastRoad$Tape", "readClause", "(ILBeastRoad$Law;)I"⟩, 2), (⟨"BeastRoad$Tape", "sortAt", "(I)I"⟩, 2), (⟨"BeastRoad$Tape", "standsAt", "(ILjava/lang/String;)Z"⟩, 2), (⟨"BeastRoad$Tape", "pastDigits", "(I)I"⟩, 2), (⟨"BeastRoad$Tape", "valueOf", "(II)I"⟩, 2), (⟨"BeastRoad$Law", "forbid", "(I)Z"⟩, 2), (⟨"BeastRoad$Law", "isAbove", "(II)Z"⟩, 2), (⟨"BeastRoad$Law", "numberOrZero", "(I)I"⟩, 2), (⟨"BeastRoad$Field", "spread", "(I)V"⟩, 5), (⟨"BeastRoad$Field", "isOpen", "(I)Z"⟩, 5)]
theorem lw_r2 : ∀ q ∈ lw_privs_2, lw_okq q := List.forall_mem_cons.mpr ⟨lw_p16, List.forall_mem_cons.mpr ⟨lw_p17, List.forall_mem_cons.mpr ⟨lw_p18, List.forall_mem_cons.mpr ⟨lw_p19, List.forall_mem_cons.mpr ⟨lw_p20, List.forall_mem_cons.mpr ⟨lw_p21, List.forall_mem_cons.mpr ⟨lw_p22, List.forall_mem_cons.mpr ⟨lw_p23, List.forall_mem_cons.mpr ⟨lw_p24, List.forall_mem_cons.mpr ⟨lw_p25, List.forall_mem_cons.mpr ⟨lw_p26, List.forall_mem_cons.mpr ⟨lw_p27, List.forall_mem_cons.mpr ⟨lw_p28, List.forall_mem_cons.mpr ⟨lw_p29, List.forall_mem_cons.mpr ⟨lw_p30, List.forall_mem_cons.mpr ⟨lw_p31, fun _ h => absurd h List.not_mem_nil⟩⟩⟩⟩⟩⟩⟩⟩⟩⟩⟩⟩⟩⟩⟩⟩
theorem lw_p32 : lw_okq (⟨"BeastRoad$Field", "allMaybes", "()J"⟩, 5) := ⟨⟨by decide +kernel, by decide +kernel⟩, List.mem_of_getElem? (i := 197) (by decide +kernel), List.mem_of_getElem? (i := 789) (by decide +kernel), List.mem_of_getElem? (i := 790) (by decide +kernel)⟩
theorem lw_p33 : lw_okq (⟨"BeastRoadModel", "weightOf", "(I)I"⟩, 44) := ⟨⟨by decide +kernel, by decide +kernel⟩, List.mem_of_getElem? (i := 851) (by decide +kernel), List.mem_of_getElem? (i := 997) (by decide +kernel), List.mem_of_getElem? (i := 998) (by decide +kernel)⟩
theorem lw_p34 : lw_okq (⟨"BeastRoadModel", "isDay", "(I)Z"⟩, 44) := ⟨⟨by decide +kernel, by decide +kernel⟩, List.mem_of_getElem? (i := 851) (by decide +kernel), List.mem_of_getElem? (i := 1005) (by decide +kernel), List.mem_of_getElem? (i := 1006) (by decide +kernel)⟩
theorem lw_p35 : lw_okq (⟨"BeastRoadModel", "isBeast", "(I)Z"⟩, 44) := ⟨⟨by decide +kernel, by decide +kernel⟩, List.mem_of_getElem? (i := 851) (by decide +kernel), List.mem_of_getElem? (i := 1013) (by decide +kernel), List.mem_of_getElem? (i := 1014) (by decide +kernel)⟩
theorem lw_p36 : lw_okq (⟨"BeastRoadModel", "isHere", "(III)Z"⟩, 44) := ⟨⟨by decide +kernel, by decide +kernel⟩, List.mem_of_getElem? (i := 851) (by decide +kernel), List.mem_of_getElem? (i := 1021) (by decide +kernel), List.mem_of_getElem? (i := 1022) (by decide +kernel)⟩
theorem lw_p37 : lw_okq (⟨"BeastRoadModel", "rationOf", "(II)I"⟩, 44) := ⟨⟨by decide +kernel, by decide +kernel⟩, List.mem_of_getElem? (i := 851) (by decide +kernel), List.mem_of_getElem? (i := 1029) (by decide +kernel), List.mem_of_getElem? (i := 1030) (by decide +kernel)⟩
theorem lw_p38 : lw_okq (⟨"BeastRoadModel", "manyIn", "(I)I"⟩, 44) := ⟨⟨by decide +kernel, by decide +kernel⟩, List.mem_of_getElem? (i := 851) (by decide +kernel), List.mem_of_getElem? (i := 1061) (by decide +kernel), List.mem_of_getElem? (i := 1062) (by decide +kernel)⟩
theorem lw_p39 : lw_okq (⟨"BeastRoadModel", "areBarred", "(II)Z"⟩, 44) := ⟨⟨by decide +kernel, by decide +kernel⟩, List.mem_of_getElem? (i := 851) (by decide +kernel), List.mem_of_getElem? (i := 1065) (by decide +kernel), List.mem_of_getElem? (i := 1066) (by decide +kernel)⟩
theorem lw_p40 : lw_okq (⟨"BeastRoadModel", "lays", "(II)Z"⟩, 44) := ⟨⟨by decide +kernel, by decide +kernel⟩, List.mem_of_getElem? (i := 851) (by decide +kernel), List.mem_of_getElem? (i := 1073) (by decide +kernel), List.mem_of_getElem? (i := 1074) (by decide +kernel)⟩
theorem lw_p41 : lw_okq (⟨"BeastRoadModel", "isTown", "(I)Z"⟩, 44) := ⟨⟨by decide +kernel, by decide +kernel⟩, List.mem_of_getElem? (i := 851) (by decide +kernel), List.mem_of_getElem? (i := 1085) (by decide +kernel), List.mem_of_getElem? (i := 1086) (by decide +kernel)⟩
theorem lw_p42 : lw_okq (⟨"BeastRoadModel", "findTour", "(II)V"⟩, 44) := ⟨⟨by decide +kernel, by decide +kernel⟩, List.mem_of_getElem? (i := 851) (by decide +kernel), List.mem_of_getElem? (i := 1097) (by decide +kernel), List.mem_of_getElem? (i := 1098) (by decide +kernel)⟩
theorem lw_p43 : lw_okq (⟨"BeastRoadModel", "goOn", "(IIIII)V"⟩, 44) := ⟨⟨by decide +kernel, by decide +kernel⟩, List.mem_of_getElem? (i := 851) (by decide +kernel), List.mem_of_getElem? (i := 1101) (by decide +kernel), List.mem_of_getElem? (i := 1102) (by decide +kernel)⟩
theorem lw_p44 : lw_okq (⟨"BeastRoadModel", "isLower", "(I)Z"⟩, 44) := ⟨⟨by decide +kernel, by decide +kernel⟩, List.mem_of_getElem? (i := 851) (by decide +kernel), List.mem_of_getElem? (i := 1106) (by decide +kernel), List.mem_of_getElem? (i := 1107) (by decide +kernel)⟩
theorem lw_p45 : lw_okq (⟨"BeastRoadModel", "blanks", "(I)I"⟩, 44) := ⟨⟨by decide +kernel, by decide +kernel⟩, List.mem_of_getElem? (i := 851) (by decide +kernel), List.mem_of_getElem? (i := 1129) (by decide +kernel), List.mem_of_getElem? (i := 1130) (by decide +kernel)⟩
theorem lw_p46 : lw_okq (⟨"BeastRoadModel", "clause", "(I)I"⟩, 44) := ⟨⟨by decide +kernel, by decide +kernel⟩, List.mem_of_getElem? (i := 851) (by decide +kernel), List.mem_of_getElem? (i := 1133) (by decide +kernel), List.mem_of_getElem? (i := 1134) (by decide +kernel)⟩
theorem lw_p47 : lw_okq (⟨"BeastRoadModel", "isWord", "(ILjava/lang/String;)Z"⟩, 44) := ⟨⟨by decide +kernel, by decide +kernel⟩, List.mem_of_getElem? (i := 851) (by decide +kernel), List.mem_of_getElem? (i := 1146) (by decide +kernel), List.mem_of_getElem? (i := 1147) (by decide +kernel)⟩
def lw_privs_3 : List (MethodName × Nat) := [(⟨"BeastRoad$Field", "allMaybes", "()J"⟩, 5), (⟨"BeastRoadModel", "weightOf", "(I)I"⟩, 44), (⟨"BeastRoadModel", "isDay", "(I)Z"⟩, 44), (⟨"BeastRoadModel", "isBeast", "(I)Z"⟩, 44), (⟨"BeastRoadModel", "isHere", "(III)Z"⟩, 44), (⟨"BeastRoadModel", "rationOf", "(II)I"⟩, 44), (⟨"BeastRoadModel", "manyIn", "(I)I"⟩, 44), (⟨"BeastRoadModel", "areBarred", "(II)Z"⟩, 44), (⟨"BeastRoadModel", "lays", "(II)Z"⟩, 44), (⟨"BeastRoadModel", "isTown", "(I)Z"⟩, 44), (⟨"BeastRoadModel", "findTour", "(II)V"⟩, 44), (⟨"BeastRoadModel", "goOn", "(IIIII)V"⟩, 44), (⟨"BeastRoadModel", "isLower", "(I)Z"⟩, 44), (⟨"BeastRoadModel", "blanks", "(I)I"⟩, 44), (⟨"BeastRoadModel", "clause", "(I)I"⟩, 44), (⟨"BeastRoadModel", "isWord", "(ILjava/lang/String;)Z"⟩, 44)]
theorem lw_r3 : ∀ q ∈ lw_privs_3, lw_okq q := List.forall_mem_cons.mpr ⟨lw_p32, List.forall_mem_cons.mpr ⟨lw_p33, List.forall_mem_cons.mpr ⟨lw_p34, List.forall_mem_cons.mpr ⟨lw_p35, List.forall_mem_cons.mpr ⟨lw_p36, List.forall_mem_cons.mpr ⟨lw_p37, List.forall_mem_cons.mpr ⟨lw_p38, List.forall_mem_cons.mpr ⟨lw_p39, List.forall_mem_cons.mpr ⟨lw_p40, List.forall_mem_cons.mpr ⟨lw_p41, List.forall_mem_cons.mpr ⟨lw_p42, List.forall_mem_cons.mpr ⟨lw_p43, List.forall_mem_cons.mpr ⟨lw_p44, List.forall_mem_cons.mpr ⟨lw_p45, List.forall_mem_cons.mpr ⟨lw_p46, List.forall_mem_cons.mpr ⟨lw_p47, fun _ h => absurd h List.not_mem_nil⟩⟩⟩⟩⟩⟩⟩⟩⟩⟩⟩⟩⟩⟩⟩⟩
theorem lw_p48 : lw_okq (⟨"BeastRoadModel", "hereNow", "()I"⟩, 44) := ⟨⟨by decide +kernel, by decide +kernel⟩, List.mem_of_getElem? (i := 851) (by decide +kernel), List.mem_of_getElem? (i := 1161) (by decide +kernel), List.mem_of_getElem? (i := 1162) (by decide +kernel)⟩
theorem lw_p49 : lw_okq (⟨"BeastRoadModel", "beside", "(II)I"⟩, 44) := ⟨⟨by decide +kernel, by decide +kernel⟩, List.mem_of_getElem? (i := 851) (by decide +kernel), List.mem_of_getElem? (i := 1181) (by decide +kernel), List.mem_of_getElem? (i := 1182) (by decide +kernel)⟩
theorem lw_p50 : lw_okq (⟨"BeastRoadModel", "all", "()J"⟩, 44) := ⟨⟨by decide +kernel, by decide +kernel⟩, List.mem_of_getElem? (i := 851) (by decide +kernel), List.mem_of_getElem? (i := 1189) (by decide +kernel), List.mem_of_getElem? (i := 1190) (by decide +kernel)⟩
def lw_privs_4 : List (MethodName × Nat) := [(⟨"BeastRoadModel", "hereNow", "()I"⟩, 44), (⟨"BeastRoadModel", "beside", "(II)I"⟩, 44), (⟨"BeastRoadModel", "all", "()J"⟩, 44)]
theorem lw_r4 : ∀ q ∈ lw_privs_4, lw_okq q := List.forall_mem_cons.mpr ⟨lw_p48, List.forall_mem_cons.mpr ⟨lw_p49, List.forall_mem_cons.mpr ⟨lw_p50, fun _ h => absurd h List.not_mem_nil⟩⟩⟩
def lw_privs : List (MethodName × Nat) := lw_privs_1 ++ (lw_privs_2 ++ (lw_privs_3 ++ (lw_privs_4)))
def lw_tbl : List Cond := k2_sels lw_privs ++ tables_1
theorem lw_privs_ok : ∀ q ∈ lw_privs, lw_okq q := by
  show ∀ q ∈ lw_privs_1 ++ (lw_privs_2 ++ (lw_privs_3 ++ (lw_privs_4))), lw_okq q
  exact List.forall_mem_append.mpr ⟨lw_r1, List.forall_mem_append.mpr ⟨lw_r2, List.forall_mem_append.mpr ⟨lw_r3, lw_r4⟩⟩⟩
end
section
def RX0 : String := "BeastRoad$Book"
def TX0 : u_T := fun k => match k with
  | 0 => ("BeastRoad$Book", "units", "[I", true)
  | 1 => ("BeastRoad$Book", "all", "I", false)
  | 2 => ("BeastRoad$Book", "lines", "[I", false)
  | _ => ("BeastRoad$Book", "count", "I", false)
def tyX0 : Nat → FieldType := fun k => match k with
  | 0 => .array .int
  | 1 => .int
  | 2 => .array .int
  | _ => .int
theorem nmX0 : ∀ a, a < 4 → ∀ b, b < 4 → a ≠ b → (TX0 a).2.1 ≠ (TX0 b).2.1 := by decide +kernel
theorem tyX0_ok : ∀ k, k < 4 → parseFieldDescriptor (TX0 k).2.2.1 = some (tyX0 k) := by decide +kernel
abbrev cX0_init : ByteArray := prog_2_method_1_code
def yX0_init : MethodName := ⟨RX0, "<init>", "()V"⟩
abbrev cX0_size : ByteArray := prog_2_method_2_code
def yX0_size : MethodName := ⟨RX0, "size", "()I"⟩
abbrev cX0_unitsInAll : ByteArray := prog_2_method_3_code
def yX0_unitsInAll : MethodName := ⟨RX0, "unitsInAll", "()I"⟩
abbrev cX0_unitsFor : ByteArray := prog_2_method_4_code
def yX0_unitsFor : MethodName := ⟨RX0, "unitsFor", "(I)I"⟩
abbrev cX0_linePart : ByteArray := prog_2_method_5_code
def yX0_linePart : MethodName := ⟨RX0, "linePart", "(II)I"⟩
abbrev cX0_closeDay : ByteArray := prog_2_method_6_code
def yX0_closeDay : MethodName := ⟨RX0, "closeDay", "(I[I)I"⟩
abbrev cX0_linesDue : ByteArray := prog_2_method_7_code
def yX0_linesDue : MethodName := ⟨RX0, "linesDue", "(I[I)I"⟩
abbrev cX0_makeRoom : ByteArray := prog_2_method_8_code
def yX0_makeRoom : MethodName := ⟨RX0, "makeRoom", "(I)V"⟩
abbrev cX0_write : ByteArray := prog_2_method_9_code
def yX0_write : MethodName := ⟨RX0, "write", "(III)V"⟩
def RX1 : String := "BeastRoad$Fairs"
def TX1 : u_T := fun k => match k with
  | 0 => ("BeastRoad$Fairs", "towns", "I", false)
  | 1 => ("BeastRoad$Fairs", "first", "[I", true)
  | 2 => ("BeastRoad$Fairs", "last", "[I", true)
  | 3 => ("BeastRoad$Fairs", "brings", "[I", true)
  | 4 => ("BeastRoad$Fairs", "ways", "[I", true)
  | 5 => ("BeastRoad$Fairs", "fodder", "I", false)
  | 6 => ("BeastRoad$Fairs", "plannedTown", "I", false)
  | 7 => ("BeastRoad$Fairs", "plannedDay", "I", false)
  | 8 => ("BeastRoad$Fairs", "best", "[I", true)
  | 9 => ("BeastRoad$Fairs", "bestCount", "I", false)
  | 10 => ("BeastRoad$Fairs", "bestValue", "I", false)
  | 11 => ("BeastRoad$Fairs", "path", "[I", true)
  | _ => ("BeastRoad$Fairs", "seen", "I", false)
def tyX1 : Nat → FieldType := fun k => match k with
  | 0 => .int
  | 1 => .array .int
  | 2 => .array .int
  | 3 => .array .int
  | 4 => .array .int
  | 5 => .int
  | 6 => .int
  | 7 => .int
  | 8 => .array .int
  | 9 => .int
  | 10 => .int
  | 11 => .array .int
  | _ => .int
theorem nmX1 : ∀ a, a < 13 → ∀ b, b < 13 → a ≠ b → (TX1 a).2.1 ≠ (TX1 b).2.1 := by decide +kernel
theorem tyX1_ok : ∀ k, k < 13 → parseFieldDescriptor (TX1 k).2.2.1 = some (tyX1 k) := by decide +kernel
abbrev cX1_init : ByteArray := prog_3_method_1_code
def yX1_init : MethodName := ⟨RX1, "<init>", "()V"⟩
abbrev cX1_size : ByteArray := prog_3_method_2_code
def yX1_size : MethodName := ⟨RX1, "size", "()I"⟩
abbrev cX1_isTown : ByteArray := prog_3_method_3_code
def yX1_isTown : MethodName := ⟨RX1, "isTown", "(I)Z"⟩
abbrev cX1_addTown : ByteArray := prog_3_method_4_code
def yX1_addTown : MethodName := ⟨RX1, "addTown", "(III)I"⟩
abbrev cX1_setWay : ByteArray := prog_3_method_5_code
def yX1_setWay : MethodName := ⟨RX1, "setWay", "(III)Z"⟩
abbrev cX1_setFodder : ByteArray := prog_3_method_6_code
def yX1_setFodder : MethodName := ⟨RX1, "setFodder", "(I)Z"⟩
abbrev cX1_bestBrings : ByteArray := prog_3_method_7_code
def yX1_bestBrings : MethodName := ⟨RX1, "bestBrings", "(II)I"⟩
abbrev cX1_bestStop : ByteArray := prog_3_method_8_code
def yX1_bestStop : MethodName := ⟨RX1, "bestStop", "(III)I"⟩
abbrev cX1_plan : ByteArray := prog_3_method_9_code
def yX1_plan : MethodName := ⟨RX1, "plan", "(II)Z"⟩
abbrev cX1_visit : ByteArray := prog_3_method_10_code
def yX1_visit : MethodName := ⟨RX1, "visit", "(IIII)V"⟩
abbrev cX1_goOn : ByteArray := prog_3_method_11_code
def yX1_goOn : MethodName := ⟨RX1, "goOn", "(IIII)V"⟩
abbrev cX1_keepIfBetter : ByteArray := prog_3_method_12_code
def yX1_keepIfBetter : MethodName := ⟨RX1, "keepIfBetter", "(II)V"⟩
abbrev cX1_isBetter : ByteArray := prog_3_method_13_code
def yX1_isBetter : MethodName := ⟨RX1, "isBetter", "(II)Z"⟩
abbrev cX1_mayGetBetter : ByteArray := prog_3_method_14_code
def yX1_mayGetBetter : MethodName := ⟨RX1, "mayGetBetter", "(II)Z"⟩
def RX2 : String := "BeastRoad$Field"
def TX2 : u_T := fun k => match k with
  | 0 => ("BeastRoad$Field", "walls", "[Z", true)
  | 1 => ("BeastRoad$Field", "maybes", "[J", true)
  | 2 => ("BeastRoad$Field", "nextMaybes", "[J", true)
  | 3 => ("BeastRoad$Field", "beast", "I", false)
  | _ => ("BeastRoad$Field", "hours", "I", false)
def tyX2 : Nat → FieldType := fun k => match k with
  | 0 => .array .boolean
  | 1 => .array .long
  | 2 => .array .long
  | 3 => .int
  | _ => .int
theorem nmX2 : ∀ a, a < 5 → ∀ b, b < 5 → a ≠ b → (TX2 a).2.1 ≠ (TX2 b).2.1 := by decide +kernel
theorem tyX2_ok : ∀ k, k < 5 → parseFieldDescriptor (TX2 k).2.2.1 = some (tyX2 k) := by decide +kernel
abbrev cX2_init : ByteArray := prog_4_method_1_code
def yX2_init : MethodName := ⟨RX2, "<init>", "()V"⟩
abbrev cX2_beastAway : ByteArray := prog_4_method_2_code
def yX2_beastAway : MethodName := ⟨RX2, "beastAway", "()I"⟩
abbrev cX2_hoursGone : ByteArray := prog_4_method_3_code
def yX2_hoursGone : MethodName := ⟨RX2, "hoursGone", "()I"⟩
abbrev cX2_setWall : ByteArray := prog_4_method_4_code
def yX2_setWall : MethodName := ⟨RX2, "setWall", "(IZ)Z"⟩
abbrev cX2_lose : ByteArray := prog_4_method_5_code
def yX2_lose : MethodName := ⟨RX2, "lose", "(II)Z"⟩
abbrev cX2_passHour : ByteArray := prog_4_method_6_code
def yX2_passHour : MethodName := ⟨RX2, "passHour", "()I"⟩
abbrev cX2_lookAt : ByteArray := prog_4_method_7_code
def yX2_lookAt : MethodName := ⟨RX2, "lookAt", "(I)I"⟩
abbrev cX2_maybeOf : ByteArray := prog_4_method_8_code
def yX2_maybeOf : MethodName := ⟨RX2, "maybeOf", "(I)J"⟩
abbrev cX2_chanceOf : ByteArray := prog_4_method_9_code
def yX2_chanceOf : MethodName := ⟨RX2, "chanceOf", "(II)J"⟩
abbrev cX2_likeliest : ByteArray := prog_4_method_10_code
def yX2_likeliest : MethodName := ⟨RX2, "likeliest", "()I"⟩
abbrev cX2_isCell : ByteArray := prog_4_method_11_code
def yX2_isCell : MethodName := ⟨RX2, "isCell", "(I)Z"⟩
abbrev cX2_isOpen : ByteArray := prog_4_method_12_code
def yX2_isOpen : MethodName := ⟨RX2, "isOpen", "(I)Z"⟩
abbrev cX2_spread : ByteArray := prog_4_method_13_code
def yX2_spread : MethodName := ⟨RX2, "spread", "(I)V"⟩
abbrev cX2_beside : ByteArray := prog_4_method_14_code
def yX2_beside : MethodName := ⟨RX2, "beside", "(II)I"⟩
abbrev cX2_allMaybes : ByteArray := prog_4_method_15_code
def yX2_allMaybes : MethodName := ⟨RX2, "allMaybes", "()J"⟩
abbrev cX2_commonDivisor : ByteArray := prog_4_method_16_code
def yX2_commonDivisor : MethodName := ⟨RX2, "commonDivisor", "(JJ)J"⟩
def RX3 : String := "BeastRoad$Herd"
def TX3 : u_T := fun k => match k with
  | 0 => ("BeastRoad$Herd", "feedOf", "[I", true)
  | 1 => ("BeastRoad$Herd", "weightOf", "[I", true)
  | 2 => ("BeastRoad$Herd", "beasts", "I", false)
  | 3 => ("BeastRoad$Herd", "kindOf", "[I", true)
  | 4 => ("BeastRoad$Herd", "firstDay", "[I", true)
  | 5 => ("BeastRoad$Herd", "toldOn", "[I", true)
  | 6 => ("BeastRoad$Herd", "tellings", "I", false)
  | 7 => ("BeastRoad$Herd", "tellingBeast", "[I", true)
  | 8 => ("BeastRoad$Herd", "tellingFrom", "[I", true)
  | 9 => ("BeastRoad$Herd", "tellingOn", "[I", true)
  | 10 => ("BeastRoad$Herd", "now", "I", false)
  | 11 => ("BeastRoad$Herd", "goneFrom", "[I", true)
  | _ => ("BeastRoad$Herd", "rations", "[I", true)
def tyX3 : Nat → FieldType := fun k => match k with
  | 0 => .array .int
  | 1 => .array .int
  | 2 => .int
  | 3 => .array .int
  | 4 => .array .int
  | 5 => .array .int
  | 6 => .int
  | 7 => .array .int
  | 8 => .array .int
  | 9 => .array .int
  | 10 => .int
  | 11 => .array .int
  | _ => .array .int
theorem nmX3 : ∀ a, a < 13 → ∀ b, b < 13 → a ≠ b → (TX3 a).2.1 ≠ (TX3 b).2.1 := by decide +kernel
theorem tyX3_ok : ∀ k, k < 13 → parseFieldDescriptor (TX3 k).2.2.1 = some (tyX3 k) := by decide +kernel
abbrev cX3_init : ByteArray := prog_5_method_1_code
def yX3_init : MethodName := ⟨RX3, "<init>", "()V"⟩
abbrev cX3_today : ByteArray := prog_5_method_2_code
def yX3_today : MethodName := ⟨RX3, "today", "()I"⟩
abbrev cX3_nextDay : ByteArray := prog_5_method_3_code
def yX3_nextDay : MethodName := ⟨RX3, "nextDay", "()V"⟩
abbrev cX3_size : ByteArray := prog_5_method_4_code
def yX3_size : MethodName := ⟨RX3, "size", "()I"⟩
abbrev cX3_isBeast : ByteArray := prog_5_method_5_code
def yX3_isBeast : MethodName := ⟨RX3, "isBeast", "(I)Z"⟩
abbrev cX3_kindOfBeast : ByteArray := prog_5_method_6_code
def yX3_kindOfBeast : MethodName := ⟨RX3, "kindOfBeast", "(I)I"⟩
abbrev cX3_weightOfKind : ByteArray := prog_5_method_7_code
def yX3_weightOfKind : MethodName := ⟨RX3, "weightOfKind", "(I)I"⟩
abbrev cX3_setKind : ByteArray := prog_5_method_8_code
def yX3_setKind : MethodName := ⟨RX3, "setKind", "(III)V"⟩
abbrev cX3_tellBeast : ByteArray := prog_5_method_9_code
def yX3_tellBeast : MethodName := ⟨RX3, "tellBeast", "(II)I"⟩
abbrev cX3_tellGone : ByteArray := prog_5_method_10_code
def yX3_tellGone : MethodName := ⟨RX3, "tellGone", "(II)Z"⟩
abbrev cX3_isHere : ByteArray := prog_5_method_11_code
def yX3_isHere : MethodName := ⟨RX3, "isHere", "(III)Z"⟩
abbrev cX3_rationOf : ByteArray := prog_5_method_12_code
def yX3_rationOf : MethodName := ⟨RX3, "rationOf", "(II)I"⟩
abbrev cX3_rationsToToday : ByteArray := prog_5_method_13_code
def yX3_rationsToToday : MethodName := ⟨RX3, "rationsToToday", "()[I"⟩
abbrev cX3_beastsHereToday : ByteArray := prog_5_method_14_code
def yX3_beastsHereToday : MethodName := ⟨RX3, "beastsHereToday", "()I"⟩
abbrev cX3_kindsHereToday : ByteArray := prog_5_method_15_code
def yX3_kindsHereToday : MethodName := ⟨RX3, "kindsHereToday", "()I"⟩
abbrev cX3_isDay : ByteArray := prog_5_method_16_code
def yX3_isDay : MethodName := ⟨RX3, "isDay", "(I)Z"⟩
abbrev cX3_recall : ByteArray := prog_5_method_17_code
def yX3_recall : MethodName := ⟨RX3, "recall", "(I)V"⟩
abbrev cX3_stands : ByteArray := prog_5_method_18_code
def yX3_stands : MethodName := ⟨RX3, "stands", "(III)Z"⟩
def RX4 : String := "BeastRoad$Law"
def TX4 : u_T := fun k => match k with
  | 0 => ("BeastRoad$Law", "forbidden", "I", false)
  | _ => ("BeastRoad$Law", "numbers", "[I", true)
def tyX4 : Nat → FieldType := fun k => match k with
  | 0 => .int
  | _ => .array .int
theorem nmX4 : ∀ a, a < 2 → ∀ b, b < 2 → a ≠ b → (TX4 a).2.1 ≠ (TX4 b).2.1 := by decide +kernel
theorem tyX4_ok : ∀ k, k < 2 → parseFieldDescriptor (TX4 k).2.2.1 = some (tyX4 k) := by decide +kernel
abbrev cX4_init : ByteArray := prog_6_method_1_code
def yX4_init : MethodName := ⟨RX4, "<init>", "()V"⟩
abbrev cX4_clear : ByteArray := prog_6_method_2_code
def yX4_clear : MethodName := ⟨RX4, "clear", "()V"⟩
abbrev cX4_copyFrom : ByteArray := prog_6_method_3_code
def yX4_copyFrom : MethodName := ⟨RX4, "copyFrom", "(LBeastRoad$Law;)V"⟩
abbrev cX4_take : ByteArray := prog_6_method_4_code
def yX4_take : MethodName := ⟨RX4, "take", "(II)Z"⟩
abbrev cX4_verdict : ByteArray := prog_6_method_5_code
def yX4_verdict : MethodName := ⟨RX4, "verdict", "(III)I"⟩
abbrev cX4_price : ByteArray := prog_6_method_6_code
def yX4_price : MethodName := ⟨RX4, "price", "(I)I"⟩
abbrev cX4_forbid : ByteArray := prog_6_method_7_code
def yX4_forbid : MethodName := ⟨RX4, "forbid", "(I)Z"⟩
abbrev cX4_isAbove : ByteArray := prog_6_method_8_code
def yX4_isAbove : MethodName := ⟨RX4, "isAbove", "(II)Z"⟩
abbrev cX4_numberOrZero : ByteArray := prog_6_method_9_code
def yX4_numberOrZero : MethodName := ⟨RX4, "numberOrZero", "(I)I"⟩
def RX5 : String := "BeastRoad$Tape"
def TX5 : u_T := fun k => match k with
  | 0 => ("BeastRoad$Tape", "bytes", "[I", true)
  | _ => ("BeastRoad$Tape", "length", "I", false)
def tyX5 : Nat → FieldType := fun k => match k with
  | 0 => .array .int
  | _ => .int
theorem nmX5 : ∀ a, a < 2 → ∀ b, b < 2 → a ≠ b → (TX5 a).2.1 ≠ (TX5 b).2.1 := by decide +kernel
theorem tyX5_ok : ∀ k, k < 2 → parseFieldDescriptor (TX5 k).2.2.1 = some (tyX5 k) := by decide +kernel
abbrev cX5_init : ByteArray := prog_7_method_1_code
def yX5_init : MethodName := ⟨RX5, "<init>", "()V"⟩
abbrev cX5_bytesIn : ByteArray := prog_7_method_2_code
def yX5_bytesIn : MethodName := ⟨RX5, "bytesIn", "(I)I"⟩
abbrev cX5_size : ByteArray := prog_7_method_3_code
def yX5_size : MethodName := ⟨RX5, "size", "()I"⟩
abbrev cX5_hasRoomFor : ByteArray := prog_7_method_4_code
def yX5_hasRoomFor : MethodName := ⟨RX5, "hasRoomFor", "(I)Z"⟩
abbrev cX5_append : ByteArray := prog_7_method_5_code
def yX5_append : MethodName := ⟨RX5, "append", "(I)V"⟩
abbrev cX5_cutTo : ByteArray := prog_7_method_6_code
def yX5_cutTo : MethodName := ⟨RX5, "cutTo", "(I)Z"⟩
abbrev cX5_readInto : ByteArray := prog_7_method_7_code
def yX5_readInto : MethodName := ⟨RX5, "readInto", "(LBeastRoad$Law;)I"⟩
abbrev cX5_readClause : ByteArray := prog_7_method_8_code
def yX5_readClause : MethodName := ⟨RX5, "readClause", "(ILBeastRoad$Law;)I"⟩
abbrev cX5_sortAt : ByteArray := prog_7_method_9_code
def yX5_sortAt : MethodName := ⟨RX5, "sortAt", "(I)I"⟩
abbrev cX5_standsAt : ByteArray := prog_7_method_10_code
def yX5_standsAt : MethodName := ⟨RX5, "standsAt", "(ILjava/lang/String;)Z"⟩
abbrev cX5_pastBlanks : ByteArray := prog_7_method_11_code
def yX5_pastBlanks : MethodName := ⟨RX5, "pastBlanks", "(I)I"⟩
abbrev cX5_pastDigits : ByteArray := prog_7_method_12_code
def yX5_pastDigits : MethodName := ⟨RX5, "pastDigits", "(I)I"⟩
abbrev cX5_valueOf : ByteArray := prog_7_method_13_code
def yX5_valueOf : MethodName := ⟨RX5, "valueOf", "(II)I"⟩
abbrev cX5_wordOf : ByteArray := prog_7_method_14_code
def yX5_wordOf : MethodName := ⟨RX5, "wordOf", "(I)Ljava/lang/String;"⟩
def RX6 : String := "BeastRoad$Wagons"
def TX6 : u_T := fun k => match k with
  | 0 => ("BeastRoad$Wagons", "herd", "LBeastRoad$Herd;", true)
  | 1 => ("BeastRoad$Wagons", "wagonOf", "[I", true)
  | 2 => ("BeastRoad$Wagons", "barredBy", "[I", true)
  | 3 => ("BeastRoad$Wagons", "kindsIn", "[I", true)
  | 4 => ("BeastRoad$Wagons", "foes", "[I", true)
  | _ => ("BeastRoad$Wagons", "beginnings", "[I", true)
def tyX6 : Nat → FieldType := fun k => match k with
  | 0 => .object "BeastRoad$Herd"
  | 1 => .array .int
  | 2 => .array .int
  | 3 => .array .int
  | 4 => .array .int
  | _ => .array .int
theorem nmX6 : ∀ a, a < 6 → ∀ b, b < 6 → a ≠ b → (TX6 a).2.1 ≠ (TX6 b).2.1 := by decide +kernel
theorem tyX6_ok : ∀ k, k < 6 → parseFieldDescriptor (TX6 k).2.2.1 = some (tyX6 k) := by decide +kernel
abbrev cX6_init : ByteArray := prog_8_method_1_code
def yX6_init : MethodName := ⟨RX6, "<init>", "(LBeastRoad$Herd;)V"⟩
abbrev cX6_put : ByteArray := prog_8_method_2_code
def yX6_put : MethodName := ⟨RX6, "put", "(II)Z"⟩
abbrev cX6_setBar : ByteArray := prog_8_method_3_code
def yX6_setBar : MethodName := ⟨RX6, "setBar", "(IIZ)Z"⟩
abbrev cX6_wouldBear : ByteArray := prog_8_method_4_code
def yX6_wouldBear : MethodName := ⟨RX6, "wouldBear", "(II)Z"⟩
abbrev cX6_weightIn : ByteArray := prog_8_method_5_code
def yX6_weightIn : MethodName := ⟨RX6, "weightIn", "(I)I"⟩
abbrev cX6_beastsIn : ByteArray := prog_8_method_6_code
def yX6_beastsIn : MethodName := ⟨RX6, "beastsIn", "(I)I"⟩
abbrev cX6_beastsInAll : ByteArray := prog_8_method_7_code
def yX6_beastsInAll : MethodName := ⟨RX6, "beastsInAll", "()I"⟩
abbrev cX6_isSound : ByteArray := prog_8_method_8_code
def yX6_isSound : MethodName := ⟨RX6, "isSound", "(I)Z"⟩
abbrev cX6_placeInOrder : ByteArray := prog_8_method_9_code
def yX6_placeInOrder : MethodName := ⟨RX6, "placeInOrder", "(I)I"⟩
abbrev cX6_weightWith : ByteArray := prog_8_method_10_code
def yX6_weightWith : MethodName := ⟨RX6, "weightWith", "(III)I"⟩
abbrev cX6_meetsFoeAhead : ByteArray := prog_8_method_11_code
def yX6_meetsFoeAhead : MethodName := ⟨RX6, "meetsFoeAhead", "(I)Z"⟩
abbrev cX6_findKinds : ByteArray := prog_8_method_12_code
def yX6_findKinds : MethodName := ⟨RX6, "findKinds", "()V"⟩
abbrev cX6_filledWagons : ByteArray := prog_8_method_13_code
def yX6_filledWagons : MethodName := ⟨RX6, "filledWagons", "()I"⟩
abbrev cX6_findFoes : ByteArray := prog_8_method_14_code
def yX6_findFoes : MethodName := ⟨RX6, "findFoes", "()V"⟩
abbrev cX6_kindsBarredBy : ByteArray := prog_8_method_15_code
def yX6_kindsBarredBy : MethodName := ⟨RX6, "kindsBarredBy", "(I)I"⟩
abbrev cX6_findBeginnings : ByteArray := prog_8_method_16_code
def yX6_findBeginnings : MethodName := ⟨RX6, "findBeginnings", "(I)V"⟩
abbrev cX6_beginningsOf : ByteArray := prog_8_method_17_code
def yX6_beginningsOf : MethodName := ⟨RX6, "beginningsOf", "(I)I"⟩
abbrev cX6_placeByLowest : ByteArray := prog_8_method_18_code
def yX6_placeByLowest : MethodName := ⟨RX6, "placeByLowest", "(II)I"⟩
abbrev cX6_lowest : ByteArray := prog_8_method_19_code
def yX6_lowest : MethodName := ⟨RX6, "lowest", "(I)I"⟩
def RX7 : String := "BeastRoad"
def TX7 : u_T := fun k => match k with
  | 0 => ("BeastRoad", "herd", "LBeastRoad$Herd;", true)
  | 1 => ("BeastRoad", "book", "LBeastRoad$Book;", true)
  | 2 => ("BeastRoad", "wagons", "LBeastRoad$Wagons;", true)
  | 3 => ("BeastRoad", "fairs", "LBeastRoad$Fairs;", true)
  | 4 => ("BeastRoad", "tape", "LBeastRoad$Tape;", true)
  | 5 => ("BeastRoad", "laws", "[LBeastRoad$Law;", true)
  | 6 => ("BeastRoad", "draft", "LBeastRoad$Law;", true)
  | _ => ("BeastRoad", "field", "LBeastRoad$Field;", true)
def tyX7 : Nat → FieldType := fun k => match k with
  | 0 => .object "BeastRoad$Herd"
  | 1 => .object "BeastRoad$Book"
  | 2 => .object "BeastRoad$Wagons"
  | 3 => .object "BeastRoad$Fairs"
  | 4 => .object "BeastRoad$Tape"
  | 5 => .array (.object "BeastRoad$Law")
  | 6 => .object "BeastRoad$Law"
  | _ => .object "BeastRoad$Field"
theorem nmX7 : ∀ a, a < 8 → ∀ b, b < 8 → a ≠ b → (TX7 a).2.1 ≠ (TX7 b).2.1 := by decide +kernel
theorem tyX7_ok : ∀ k, k < 8 → parseFieldDescriptor (TX7 k).2.2.1 = some (tyX7 k) := by decide +kernel
abbrev cX7_init : ByteArray := prog_1_method_1_code
def yX7_init : MethodName := ⟨RX7, "<init>", "()V"⟩
abbrev cX7_kind : ByteArray := prog_1_method_2_code
def yX7_kind : MethodName := ⟨RX7, "kind", "(III)Z"⟩
abbrev cX7_beast : ByteArray := prog_1_method_3_code
def yX7_beast : MethodName := ⟨RX7, "beast", "(II)I"⟩
abbrev cX7_gone : ByteArray := prog_1_method_4_code
def yX7_gone : MethodName := ⟨RX7, "gone", "(II)Z"⟩
abbrev cX7_here : ByteArray := prog_1_method_5_code
def yX7_here : MethodName := ⟨RX7, "here", "(III)Z"⟩
abbrev cX7_ration : ByteArray := prog_1_method_6_code
def yX7_ration : MethodName := ⟨RX7, "ration", "(II)I"⟩
abbrev cX7_day : ByteArray := prog_1_method_7_code
def yX7_day : MethodName := ⟨RX7, "day", "()I"⟩
abbrev cX7_line : ByteArray := prog_1_method_8_code
def yX7_line : MethodName := ⟨RX7, "line", "(II)I"⟩
abbrev cX7_booked : ByteArray := prog_1_method_9_code
def yX7_booked : MethodName := ⟨RX7, "booked", "(I)I"⟩
abbrev cX7_load : ByteArray := prog_1_method_10_code
def yX7_load : MethodName := ⟨RX7, "load", "(II)Z"⟩
abbrev cX7_bar : ByteArray := prog_1_method_11_code
def yX7_bar : MethodName := ⟨RX7, "bar", "(IIZ)Z"⟩
abbrev cX7_wagon : ByteArray := prog_1_method_12_code
def yX7_wagon : MethodName := ⟨RX7, "wagon", "(II)I"⟩
abbrev cX7_order : ByteArray := prog_1_method_13_code
def yX7_order : MethodName := ⟨RX7, "order", "(I)I"⟩
abbrev cX7_town : ByteArray := prog_1_method_14_code
def yX7_town : MethodName := ⟨RX7, "town", "(III)I"⟩
abbrev cX7_way : ByteArray := prog_1_method_15_code
def yX7_way : MethodName := ⟨RX7, "way", "(III)Z"⟩
abbrev cX7_fodder : ByteArray := prog_1_method_16_code
def yX7_fodder : MethodName := ⟨RX7, "fodder", "(I)Z"⟩
abbrev cX7_tour : ByteArray := prog_1_method_17_code
def yX7_tour : MethodName := ⟨RX7, "tour", "(II)I"⟩
abbrev cX7_stop : ByteArray := prog_1_method_18_code
def yX7_stop : MethodName := ⟨RX7, "stop", "(III)I"⟩
abbrev cX7_feed : ByteArray := prog_1_method_19_code
def yX7_feed : MethodName := ⟨RX7, "feed", "(IIIII)I"⟩
abbrev cX7_end : ByteArray := prog_1_method_20_code
def yX7_end : MethodName := ⟨RX7, "end", "(I)Z"⟩
abbrev cX7_fault : ByteArray := prog_1_method_21_code
def yX7_fault : MethodName := ⟨RX7, "fault", "()I"⟩
abbrev cX7_law : ByteArray := prog_1_method_22_code
def yX7_law : MethodName := ⟨RX7, "law", "(I)Z"⟩
abbrev cX7_may : ByteArray := prog_1_method_23_code
def yX7_may : MethodName := ⟨RX7, "may", "(II)I"⟩
abbrev cX7_fee : ByteArray := prog_1_method_24_code
def yX7_fee : MethodName := ⟨RX7, "fee", "(I)I"⟩
abbrev cX7_wall : ByteArray := prog_1_method_25_code
def yX7_wall : MethodName := ⟨RX7, "wall", "(IZ)Z"⟩
abbrev cX7_away : ByteArray := prog_1_method_26_code
def yX7_away : MethodName := ⟨RX7, "away", "(II)Z"⟩
abbrev cX7_hour : ByteArray := prog_1_method_27_code
def yX7_hour : MethodName := ⟨RX7, "hour", "()I"⟩
abbrev cX7_look : ByteArray := prog_1_method_28_code
def yX7_look : MethodName := ⟨RX7, "look", "(I)I"⟩
abbrev cX7_maybe : ByteArray := prog_1_method_29_code
def yX7_maybe : MethodName := ⟨RX7, "maybe", "(I)J"⟩
abbrev cX7_chance : ByteArray := prog_1_method_30_code
def yX7_chance : MethodName := ⟨RX7, "chance", "(II)J"⟩
abbrev cX7_where : ByteArray := prog_1_method_31_code
def yX7_where : MethodName := ⟨RX7, "where", "()I"⟩
abbrev cX7_count : ByteArray := prog_1_method_32_code
def yX7_count : MethodName := ⟨RX7, "count", "(I)I"⟩
abbrev cX7_within : ByteArray := prog_1_method_33_code
def yX7_within : MethodName := ⟨RX7, "within", "(III)Z"⟩
abbrev cX7_isKind : ByteArray := prog_1_method_34_code
def yX7_isKind : MethodName := ⟨RX7, "isKind", "(I)Z"⟩
abbrev cX7_has : ByteArray := prog_1_method_35_code
def yX7_has : MethodName := ⟨RX7, "has", "(II)Z"⟩
def RX8 : String := "BeastRoadModel"
def TX8 : u_T := fun k => match k with
  | 0 => ("BeastRoadModel", "now", "I", false)
  | 1 => ("BeastRoadModel", "beasts", "I", false)
  | 2 => ("BeastRoadModel", "gones", "I", false)
  | 3 => ("BeastRoadModel", "lines", "I", false)
  | 4 => ("BeastRoadModel", "towns", "I", false)
  | 5 => ("BeastRoadModel", "fodder", "I", false)
  | 6 => ("BeastRoadModel", "awayBeast", "I", false)
  | 7 => ("BeastRoadModel", "hours", "I", false)
  | 8 => ("BeastRoadModel", "feed", "[I", true)
  | 9 => ("BeastRoadModel", "weight", "[I", true)
  | 10 => ("BeastRoadModel", "kindOf", "[I", true)
  | 11 => ("BeastRoadModel", "from", "[I", true)
  | 12 => ("BeastRoadModel", "toldOn", "[I", true)
  | 13 => ("BeastRoadModel", "wagonOf", "[I", true)
  | 14 => ("BeastRoadModel", "goneBeast", "[I", true)
  | 15 => ("BeastRoadModel", "goneFrom", "[I", true)
  | 16 => ("BeastRoadModel", "goneTold", "[I", true)
  | 17 => ("BeastRoadModel", "bookedFor", "[I", true)
  | 18 => ("BeastRoadModel", "lineOn", "[I", false)
  | 19 => ("BeastRoadModel", "lineFor", "[I", false)
  | 20 => ("BeastRoadModel", "lineUnits", "[I", false)
  | 21 => ("BeastRoadModel", "bars", "[Z", true)
  | 22 => ("BeastRoadModel", "row", "[I", true)
  | 23 => ("BeastRoadModel", "placed", "[Z", true)
  | 24 => ("BeastRoadModel", "barred", "[Z", true)
  | 25 => ("BeastRoadModel", "fairFirst", "[I", true)
  | 26 => ("BeastRoadModel", "fairLast", "[I", true)
  | 27 => ("BeastRoadModel", "fairBrings", "[I", true)
  | 28 => ("BeastRoadModel", "ways", "[I", true)
  | 29 => ("BeastRoadModel", "path", "[I", true)
  | 30 => ("BeastRoadModel", "best", "[I", true)
  | 31 => ("BeastRoadModel", "bestMany", "I", false)
  | 32 => ("BeastRoadModel", "bestSum", "I", false)
  | 33 => ("BeastRoadModel", "beginning", "I", false)
  | 34 => ("BeastRoadModel", "tape", "[I", true)
  | 35 => ("BeastRoadModel", "size", "I", false)
  | 36 => ("BeastRoadModel", "forbids", "[I", true)
  | 37 => ("BeastRoadModel", "numbers", "[I", true)
  | 38 => ("BeastRoadModel", "hasLaws", "[Z", true)
  | 39 => ("BeastRoadModel", "readForbids", "I", false)
  | 40 => ("BeastRoadModel", "readNumbers", "[I", true)
  | 41 => ("BeastRoadModel", "walls", "[Z", true)
  | 42 => ("BeastRoadModel", "maybes", "[J", false)
  | _ => ("BeastRoadModel", "others", "[J", false)
def tyX8 : Nat → FieldType := fun k => match k with
  | 0 => .int
  | 1 => .int
  | 2 => .int
  | 3 => .int
  | 4 => .int
  | 5 => .int
  | 6 => .int
  | 7 => .int
  | 8 => .array .int
  | 9 => .array .int
  | 10 => .array .int
  | 11 => .array .int
  | 12 => .array .int
  | 13 => .array .int
  | 14 => .array .int
  | 15 => .array .int
  | 16 => .array .int
  | 17 => .array .int
  | 18 => .array .int
  | 19 => .array .int
  | 20 => .array .int
  | 21 => .array .boolean
  | 22 => .array .int
  | 23 => .array .boolean
  | 24 => .array .boolean
  | 25 => .array .int
  | 26 => .array .int
  | 27 => .array .int
  | 28 => .array .int
  | 29 => .array .int
  | 30 => .array .int
  | 31 => .int
  | 32 => .int
  | 33 => .int
  | 34 => .array .int
  | 35 => .int
  | 36 => .array .int
  | 37 => .array .int
  | 38 => .array .boolean
  | 39 => .int
  | 40 => .array .int
  | 41 => .array .boolean
  | 42 => .array .long
  | _ => .array .long
theorem nmX8 : ∀ a, a < 44 → ∀ b, b < 44 → a ≠ b → (TX8 a).2.1 ≠ (TX8 b).2.1 := by decide +kernel
theorem tyX8_ok : ∀ k, k < 44 → parseFieldDescriptor (TX8 k).2.2.1 = some (tyX8 k) := by decide +kernel
abbrev cX8_init : ByteArray := prog_10_method_1_code
def yX8_init : MethodName := ⟨RX8, "<init>", "()V"⟩
abbrev cX8_in : ByteArray := prog_10_method_2_code
def yX8_in : MethodName := ⟨RX8, "in", "(III)Z"⟩
abbrev cX8_isBeast : ByteArray := prog_10_method_3_code
def yX8_isBeast : MethodName := ⟨RX8, "isBeast", "(I)Z"⟩
abbrev cX8_isDay : ByteArray := prog_10_method_4_code
def yX8_isDay : MethodName := ⟨RX8, "isDay", "(I)Z"⟩
abbrev cX8_weightOf : ByteArray := prog_10_method_5_code
def yX8_weightOf : MethodName := ⟨RX8, "weightOf", "(I)I"⟩
abbrev cX8_kind : ByteArray := prog_10_method_6_code
def yX8_kind : MethodName := ⟨RX8, "kind", "(III)Z"⟩
abbrev cX8_beast : ByteArray := prog_10_method_7_code
def yX8_beast : MethodName := ⟨RX8, "beast", "(II)I"⟩
abbrev cX8_gone : ByteArray := prog_10_method_8_code
def yX8_gone : MethodName := ⟨RX8, "gone", "(II)Z"⟩
abbrev cX8_isHere : ByteArray := prog_10_method_9_code
def yX8_isHere : MethodName := ⟨RX8, "isHere", "(III)Z"⟩
abbrev cX8_here : ByteArray := prog_10_method_10_code
def yX8_here : MethodName := ⟨RX8, "here", "(III)Z"⟩
abbrev cX8_rationOf : ByteArray := prog_10_method_11_code
def yX8_rationOf : MethodName := ⟨RX8, "rationOf", "(II)I"⟩
abbrev cX8_ration : ByteArray := prog_10_method_12_code
def yX8_ration : MethodName := ⟨RX8, "ration", "(II)I"⟩
abbrev cX8_longer : ByteArray := prog_10_method_13_code
def yX8_longer : MethodName := ⟨RX8, "longer", "([I)[I"⟩
abbrev cX8_day : ByteArray := prog_10_method_14_code
def yX8_day : MethodName := ⟨RX8, "day", "()I"⟩
abbrev cX8_line : ByteArray := prog_10_method_15_code
def yX8_line : MethodName := ⟨RX8, "line", "(II)I"⟩
abbrev cX8_booked : ByteArray := prog_10_method_16_code
def yX8_booked : MethodName := ⟨RX8, "booked", "(I)I"⟩
abbrev cX8_load : ByteArray := prog_10_method_17_code
def yX8_load : MethodName := ⟨RX8, "load", "(II)Z"⟩
abbrev cX8_bar : ByteArray := prog_10_method_18_code
def yX8_bar : MethodName := ⟨RX8, "bar", "(IIZ)Z"⟩
abbrev cX8_areBarred : ByteArray := prog_10_method_19_code
def yX8_areBarred : MethodName := ⟨RX8, "areBarred", "(II)Z"⟩
abbrev cX8_manyIn : ByteArray := prog_10_method_20_code
def yX8_manyIn : MethodName := ⟨RX8, "manyIn", "(I)I"⟩
abbrev cX8_wagon : ByteArray := prog_10_method_21_code
def yX8_wagon : MethodName := ⟨RX8, "wagon", "(II)I"⟩
abbrev cX8_lays : ByteArray := prog_10_method_22_code
def yX8_lays : MethodName := ⟨RX8, "lays", "(II)Z"⟩
abbrev cX8_order : ByteArray := prog_10_method_23_code
def yX8_order : MethodName := ⟨RX8, "order", "(I)I"⟩
abbrev cX8_town : ByteArray := prog_10_method_24_code
def yX8_town : MethodName := ⟨RX8, "town", "(III)I"⟩
abbrev cX8_isTown : ByteArray := prog_10_method_25_code
def yX8_isTown : MethodName := ⟨RX8, "isTown", "(I)Z"⟩
abbrev cX8_way : ByteArray := prog_10_method_26_code
def yX8_way : MethodName := ⟨RX8, "way", "(III)Z"⟩
abbrev cX8_fodder : ByteArray := prog_10_method_27_code
def yX8_fodder : MethodName := ⟨RX8, "fodder", "(I)Z"⟩
abbrev cX8_isLower : ByteArray := prog_10_method_28_code
def yX8_isLower : MethodName := ⟨RX8, "isLower", "(I)Z"⟩
abbrev cX8_goOn : ByteArray := prog_10_method_29_code
def yX8_goOn : MethodName := ⟨RX8, "goOn", "(IIIII)V"⟩
abbrev cX8_findTour : ByteArray := prog_10_method_30_code
def yX8_findTour : MethodName := ⟨RX8, "findTour", "(II)V"⟩
abbrev cX8_tour : ByteArray := prog_10_method_31_code
def yX8_tour : MethodName := ⟨RX8, "tour", "(II)I"⟩
abbrev cX8_stop : ByteArray := prog_10_method_32_code
def yX8_stop : MethodName := ⟨RX8, "stop", "(III)I"⟩
abbrev cX8_byteOf : ByteArray := prog_10_method_33_code
def yX8_byteOf : MethodName := ⟨RX8, "byteOf", "(IIIIII)I"⟩
abbrev cX8_feed : ByteArray := prog_10_method_34_code
def yX8_feed : MethodName := ⟨RX8, "feed", "(IIIII)I"⟩
abbrev cX8_end : ByteArray := prog_10_method_35_code
def yX8_end : MethodName := ⟨RX8, "end", "(I)Z"⟩
abbrev cX8_blanks : ByteArray := prog_10_method_36_code
def yX8_blanks : MethodName := ⟨RX8, "blanks", "(I)I"⟩
abbrev cX8_isWord : ByteArray := prog_10_method_37_code
def yX8_isWord : MethodName := ⟨RX8, "isWord", "(ILjava/lang/String;)Z"⟩
abbrev cX8_word : ByteArray := prog_10_method_38_code
def yX8_word : MethodName := ⟨RX8, "word", "(I)Ljava/lang/String;"⟩
abbrev cX8_clause : ByteArray := prog_10_method_39_code
def yX8_clause : MethodName := ⟨RX8, "clause", "(I)I"⟩
abbrev cX8_fault : ByteArray := prog_10_method_40_code
def yX8_fault : MethodName := ⟨RX8, "fault", "()I"⟩
abbrev cX8_law : ByteArray := prog_10_method_41_code
def yX8_law : MethodName := ⟨RX8, "law", "(I)Z"⟩
abbrev cX8_hereNow : ByteArray := prog_10_method_42_code
def yX8_hereNow : MethodName := ⟨RX8, "hereNow", "()I"⟩
abbrev cX8_may : ByteArray := prog_10_method_43_code
def yX8_may : MethodName := ⟨RX8, "may", "(II)I"⟩
abbrev cX8_fee : ByteArray := prog_10_method_44_code
def yX8_fee : MethodName := ⟨RX8, "fee", "(I)I"⟩
abbrev cX8_wall : ByteArray := prog_10_method_45_code
def yX8_wall : MethodName := ⟨RX8, "wall", "(IZ)Z"⟩
abbrev cX8_away : ByteArray := prog_10_method_46_code
def yX8_away : MethodName := ⟨RX8, "away", "(II)Z"⟩
abbrev cX8_beside : ByteArray := prog_10_method_47_code
def yX8_beside : MethodName := ⟨RX8, "beside", "(II)I"⟩
abbrev cX8_hour : ByteArray := prog_10_method_48_code
def yX8_hour : MethodName := ⟨RX8, "hour", "()I"⟩
abbrev cX8_all : ByteArray := prog_10_method_49_code
def yX8_all : MethodName := ⟨RX8, "all", "()J"⟩
abbrev cX8_look : ByteArray := prog_10_method_50_code
def yX8_look : MethodName := ⟨RX8, "look", "(I)I"⟩
abbrev cX8_maybe : ByteArray := prog_10_method_51_code
def yX8_maybe : MethodName := ⟨RX8, "maybe", "(I)J"⟩
abbrev cX8_chance : ByteArray := prog_10_method_52_code
def yX8_chance : MethodName := ⟨RX8, "chance", "(II)J"⟩
abbrev cX8_where : ByteArray := prog_10_method_53_code
def yX8_where : MethodName := ⟨RX8, "where", "()I"⟩
abbrev cX8_count : ByteArray := prog_10_method_54_code
def yX8_count : MethodName := ⟨RX8, "count", "(I)I"⟩
def RJ6 : String := "java/lang/Integer"
abbrev cJ6_bitCount_0f7a4 : ByteArray := prog_12_method_49_code
def yJ6_bitCount_0f7a4 : MethodName := ⟨RJ6, "bitCount", "(I)I"⟩
def RJ9 : String := "java/lang/Math"
abbrev cJ9_max_7cf53 : ByteArray := prog_13_method_65_code
def yJ9_max_7cf53 : MethodName := ⟨RJ9, "max", "(II)I"⟩
abbrev cJ9_min_7cf53 : ByteArray := prog_13_method_69_code
def yJ9_min_7cf53 : MethodName := ⟨RJ9, "min", "(II)I"⟩
def RJ0 : String := "java/lang/String"
abbrev cJ0_length_8abf5 : ByteArray := prog_14_method_54_code
def yJ0_length_8abf5 : MethodName := ⟨RJ0, "length", "()I"⟩
abbrev cJ0_charAt_5068e : ByteArray := prog_14_method_56_code
def yJ0_charAt_5068e : MethodName := ⟨RJ0, "charAt", "(I)C"⟩
abbrev cJ0_coder_7d493 : ByteArray := prog_14_method_152_code
def yJ0_coder_7d493 : MethodName := ⟨RJ0, "coder", "()B"⟩
abbrev cJ0_isLatin1_aae02 : ByteArray := prog_14_method_154_code
def yJ0_isLatin1_aae02 : MethodName := ⟨RJ0, "isLatin1", "()Z"⟩
abbrev cJ0_checkIndex_df160 : ByteArray := prog_14_method_155_code
def yJ0_checkIndex_df160 : MethodName := ⟨RJ0, "checkIndex", "(II)V"⟩
def RJ1 : String := "java/lang/StringLatin1"
abbrev cJ1_charAt_3b067 : ByteArray := prog_15_method_2_code
def yJ1_charAt_3b067 : MethodName := ⟨RJ1, "charAt", "([BI)C"⟩
def RJ2 : String := "java/lang/StringUTF16"
abbrev cJ2_getChar_3b067 : ByteArray := prog_16_method_5_code
def yJ2_getChar_3b067 : MethodName := ⟨RJ2, "getChar", "([BI)C"⟩
abbrev cJ2_length_9d52b : ByteArray := prog_16_method_6_code
def yJ2_length_9d52b : MethodName := ⟨RJ2, "length", "([B)I"⟩
abbrev cJ2_charAt_3b067 : ByteArray := prog_16_method_83_code
def yJ2_charAt_3b067 : MethodName := ⟨RJ2, "charAt", "([BI)C"⟩
abbrev cJ2_checkIndex_2214a : ByteArray := prog_16_method_91_code
def yJ2_checkIndex_2214a : MethodName := ⟨RJ2, "checkIndex", "(I[B)V"⟩
def RJ10 : String := "java/lang/System"
def RJ7 : String := "java/util/Arrays"
abbrev cJ7_fill_d0a16 : ByteArray := prog_18_method_101_code
def yJ7_fill_d0a16 : MethodName := ⟨RJ7, "fill", "([JJ)V"⟩
abbrev cJ7_fill_53178 : ByteArray := prog_18_method_103_code
def yJ7_fill_53178 : MethodName := ⟨RJ7, "fill", "([II)V"⟩
abbrev cJ7_copyOf_59c91 : ByteArray := prog_18_method_123_code
def yJ7_copyOf_59c91 : MethodName := ⟨RJ7, "copyOf", "([II)[I"⟩
def RJ3 : String := "jdk/internal/util/Preconditions"
abbrev cJ3_checkIndex_8e157 : ByteArray := prog_19_method_11_code
def yJ3_checkIndex_8e157 : MethodName := ⟨RJ3, "checkIndex", "(IILjava/util/function/BiFunction;)I"⟩
def RL : String := "BeastRoadLaw"
abbrev cL_law : ByteArray := code
def yL_law : MethodName := ⟨RL, "law", "([I)Z"⟩
abbrev vwCl : List vw_C := [(RX0, TX0, 4), (RX1, TX1, 13), (RX2, TX2, 5), (RX3, TX3, 13), (RX4, TX4, 2), (RX5, TX5, 2), (RX6, TX6, 6), (RX7, TX7, 8), (RX8, TX8, 44)]
theorem iX0 : ∀ w ∈ u_ws RX0 TX0 4, w ∈ lw_tbl := by decide +kernel
theorem iX1 : ∀ w ∈ u_ws RX1 TX1 13, w ∈ lw_tbl := by decide +kernel
theorem iX2 : ∀ w ∈ u_ws RX2 TX2 5, w ∈ lw_tbl := by decide +kernel
theorem iX3 : ∀ w ∈ u_ws RX3 TX3 13, w ∈ lw_tbl := by decide +kernel
theorem iX4 : ∀ w ∈ u_ws RX4 TX4 2, w ∈ lw_tbl := by decide +kernel
theorem iX5 : ∀ w ∈ u_ws RX5 TX5 2, w ∈ lw_tbl := by decide +kernel
theorem iX6 : ∀ w ∈ u_ws RX6 TX6 6, w ∈ lw_tbl := by decide +kernel
theorem iX7 : ∀ w ∈ u_ws RX7 TX7 8, w ∈ lw_tbl := by decide +kernel
theorem iX8 : ∀ w ∈ u_ws RX8 TX8 44, w ∈ lw_tbl := by decide +kernel
end
section
/-! the cells, numbered as they are made: 0 .. 84 by the two constructors, from 85 on arrays of ints that grew -/
def em_k (k : Nat) : Nat := bif Nat.blt k 85 then (bif Nat.blt k 42 then (bif Nat.blt k 21 then (bif Nat.blt k 10 then (bif Nat.blt k 5 then (bif Nat.blt k 2 then (bif Nat.blt k 1 then 7 else 3) else 9) else 9) else (bif Nat.blt k 15 then (bif Nat.blt k 12 then 9 else (bif Nat.blt k 13 then 0 else 9)) else (bif Nat.blt k 18 then (bif Nat.blt k 16 then 6 else 9) else 9))) else (bif Nat.blt k 31 then (bif Nat.blt k 26 then (bif Nat.blt k 23 then (bif Nat.blt k 22 then 1 else 9) else 9) else (bif Nat.blt k 28 then 9 else (bif Nat.blt k 29 then 5 else (bif Nat.blt k 30 then 9 else 12)))) else (bif Nat.blt k 36 then (bif Nat.blt k 33 then (bif Nat.blt k 32 then 4 else 9) else (bif Nat.blt k 34 then 4 else (bif Nat.blt k 35 then 9 else 4))) else (bif Nat.blt k 39 then (bif Nat.blt k 37 then 9 else (bif Nat.blt k 38 then 4 else 9)) else (bif Nat.blt k 40 then 4 else (bif Nat.blt k 41 then 9 else 4)))))) else (bif Nat.blt k 63 then (bif Nat.blt k 52 then (bif Nat.blt k 47 then (bif Nat.blt k 44 then (bif Nat.blt k 43 then 9 else 4) else (bif Nat.blt k 45 then 9 else (bif Nat.blt k 46 then 4 else 9))) else (bif Nat.blt k 49 then (bif Nat.blt k 48 then 4 else 9) else (bif Nat.blt k 50 then 2 else (bif Nat.blt k 51 then 11 else 10)))) else (bif Nat.blt k 57 then (bif Nat.blt k 54 then (bif Nat.blt k 53 then 10 else 8) else 9) else 9)) else (bif Nat.blt k 74 then (bif Nat.blt k 68 then (bif Nat.blt k 65 then 9 else (bif Nat.blt k 66 then 9 else (bif Nat.blt k 67 then 9 else 11))) else (bif Nat.blt k 71 then (bif Nat.blt k 69 then 9 else 11) else 9)) else (bif Nat.blt k 79 then 9 else (bif Nat.blt k 82 then (bif Nat.blt k 80 then 9 else (bif Nat.blt k 81 then 11 else 9)) else (bif Nat.blt k 83 then 11 else 10)))))) else 9
def em_lS (k : Nat) : Nat := (bif Nat.blt k 42 then (bif Nat.blt k 21 then (bif Nat.blt k 10 then (bif Nat.blt k 5 then (bif Nat.blt k 2 then 0 else (bif Nat.blt k 3 then 8 else (bif Nat.blt k 4 then 8 else 40))) else (bif Nat.blt k 7 then 40 else 200)) else (bif Nat.blt k 15 then (bif Nat.blt k 12 then (bif Nat.blt k 11 then 40 else 401) else (bif Nat.blt k 13 then 0 else (bif Nat.blt k 14 then 401 else 96))) else (bif Nat.blt k 18 then (bif Nat.blt k 16 then 0 else (bif Nat.blt k 17 then 40 else 8)) else (bif Nat.blt k 19 then 8 else (bif Nat.blt k 20 then 8 else 256))))) else (bif Nat.blt k 31 then (bif Nat.blt k 26 then (bif Nat.blt k 23 then (bif Nat.blt k 22 then 0 else 8) else (bif Nat.blt k 24 then 8 else (bif Nat.blt k 25 then 8 else 64))) else (bif Nat.blt k 28 then 8 else (bif Nat.blt k 29 then 0 else (bif Nat.blt k 30 then 200 else 8)))) else (bif Nat.blt k 36 then (bif Nat.blt k 33 then (bif Nat.blt k 32 then 0 else 6) else (bif Nat.blt k 34 then 0 else (bif Nat.blt k 35 then 6 else 0))) else (bif Nat.blt k 39 then (bif Nat.blt k 37 then 6 else (bif Nat.blt k 38 then 0 else 6)) else (bif Nat.blt k 40 then 0 else (bif Nat.blt k 41 then 6 else 0)))))) else (bif Nat.blt k 63 then (bif Nat.blt k 52 then (bif Nat.blt k 47 then (bif Nat.blt k 44 then (bif Nat.blt k 43 then 6 else 0) else (bif Nat.blt k 45 then 6 else (bif Nat.blt k 46 then 0 else 6))) else (bif Nat.blt k 49 then (bif Nat.blt k 48 then 0 else 6) else (bif Nat.blt k 50 then 0 else 64))) else (bif Nat.blt k 57 then (bif Nat.blt k 54 then (bif Nat.blt k 53 then 64 else 0) else (bif Nat.blt k 55 then 8 else (bif Nat.blt k 56 then 8 else 40))) else (bif Nat.blt k 60 then 40 else 200))) else (bif Nat.blt k 74 then (bif Nat.blt k 68 then (bif Nat.blt k 65 then (bif Nat.blt k 64 then 402 else 256) else (bif Nat.blt k 66 then 256 else (bif Nat.blt k 67 then 256 else 64))) else (bif Nat.blt k 71 then (bif Nat.blt k 69 then 8 else (bif Nat.blt k 70 then 8 else 64)) else 8)) else (bif Nat.blt k 79 then (bif Nat.blt k 76 then (bif Nat.blt k 75 then 64 else 8) else (bif Nat.blt k 77 then 8 else (bif Nat.blt k 78 then 220 else 8))) else (bif Nat.blt k 82 then (bif Nat.blt k 80 then 40 else (bif Nat.blt k 81 then 8 else 5)) else 64)))))
def em_ty (c : Nat) : Nat → FieldType := match c with
  | 0 => tyX0
  | 1 => tyX1
  | 2 => tyX2
  | 3 => tyX3
  | 4 => tyX4
  | 5 => tyX5
  | 6 => tyX6
  | 7 => tyX7
  | _ => tyX8
def em_nf (c : Nat) : Nat := match c with
  | 0 => 4
  | 1 => 13
  | 2 => 5
  | 3 => 13
  | 4 => 2
  | 5 => 2
  | 6 => 6
  | 7 => 8
  | _ => 44
theorem em_k_dyn {k : Nat} (h : 85 ≤ k) : em_k k = 9 := by
  have h1 : Nat.blt k 85 = false := by
    cases hb : Nat.blt k 85 with
    | false => rfl
    | true => have := Nat.le_of_ble_eq_true hb; omega
  simp [em_k, h1]
end
section
/-! THE ABSTRACT MACHINE. A context: the launch; where the heap ended at the law's entry, and that heap; the classes' numbers; the array classes; outside addresses (0: the script, 1 .. 6: the six words, 7 .. 12: their bytes); the script. -/
abbrev em_Cx : Type := Launch × (Nat × Heap) × va_G × (ClassId × ClassId × ClassId × ClassId) × (Nat → Nat) × (Nat × (Nat → Int32))
abbrev em_l (Γ : em_Cx) : Launch := Γ.1
abbrev em_z (Γ : em_Cx) : Nat := Γ.2.1.1
abbrev em_h (Γ : em_Cx) : Heap := Γ.2.1.2
abbrev em_D (Γ : em_Cx) : va_G := Γ.2.2.1
abbrev em_cI (Γ : em_Cx) : ClassId := Γ.2.2.2.1.1
abbrev em_cJ (Γ : em_Cx) : ClassId := Γ.2.2.2.1.2.1
abbrev em_cZ (Γ : em_Cx) : ClassId := Γ.2.2.2.1.2.2.1
abbrev em_cL (Γ : em_Cx) : ClassId := Γ.2.2.2.1.2.2.2
abbrev em_x (Γ : em_Cx) : Nat → Nat := Γ.2.2.2.2.1
abbrev em_L (Γ : em_Cx) : Nat := Γ.2.2.2.2.2.1
abbrev em_s (Γ : em_Cx) : Nat → Int32 := Γ.2.2.2.2.2.2
/-- a heap: how many cells and slots; lengths of the grown arrays; ints, longs and references by cell and place -/
abbrev em_Hp : Type := (Nat × Nat) × (Nat → Nat) × (Nat → Nat → Int32) × (Nat → Nat → Int64) × (Nat → Nat → Option Nat)
abbrev em_n (hp : em_Hp) : Nat := hp.1.1
abbrev em_m (hp : em_Hp) : Nat := hp.1.2
abbrev em_d (hp : em_Hp) : Nat → Nat := hp.2.1
abbrev em_I (hp : em_Hp) : Nat → Nat → Int32 := hp.2.2.1
abbrev em_J (hp : em_Hp) : Nat → Nat → Int64 := hp.2.2.2.1
abbrev em_R (hp : em_Hp) : Nat → Nat → Option Nat := hp.2.2.2.2
/-- an abstract value's value: a reference counts from the heap's end at the law's entry; .float i is the outside address i -/
def em_v (Γ : em_Cx) : Value → Value
  | .ref r => .ref (em_z Γ + r)
  | .float u => .ref (em_x Γ u.toNat)
  | v => v
theorem em_v_cat (Γ : em_Cx) (v : Value) : (em_v Γ v).category = v.category := by cases v <;> rfl
def em_rf : Option Nat → Value
  | none => .null
  | some r => .ref r
def em_ln (hp : em_Hp) (k : Nat) : Nat := bif Nat.blt k 85 then em_lS k else em_d hp k
def em_fv (hp : em_Hp) (c k j : Nat) : Value := match em_ty c j with
  | .int => .int (em_I hp k j)
  | _ => em_rf (em_R hp k j)
/-- cell k, as the heap has it -/
def em_cl (Γ : em_Cx) (hp : em_Hp) (H : Heap) (k : Nat) : Prop := match em_k k with
  | 9 => H[em_z Γ + k]? = some (arrV (em_cI Γ) (em_ln hp k) (fun j => .int (em_I hp k j)))
  | 10 => H[em_z Γ + k]? = some (arrV (em_cJ Γ) (em_ln hp k) (fun j => .long (em_J hp k j)))
  | 11 => H[em_z Γ + k]? = some (arrV (em_cZ Γ) (em_ln hp k) (fun j => .int (em_I hp k j)))
  | 12 => H[em_z Γ + k]? = some (arrV (em_cL Γ) (em_ln hp k) (fun j => em_v Γ (em_rf (em_R hp k j))))
  | c => t_OB (em_z Γ + k) ((em_D Γ).1 c) (em_nf c) ((em_D Γ).2 c) H (fun j => em_v Γ (em_fv hp c k j))
theorem em_cl_9 {Γ : em_Cx} {hp : em_Hp} {H : Heap} {k : Nat} (hk : em_k k = 9) : em_cl Γ hp H k ↔ H[em_z Γ + k]? = some (arrV (em_cI Γ) (em_ln hp k) (fun j => .int (em_I hp k j))) := by simp only [em_cl, hk]
theorem em_cl_10 {Γ : em_Cx} {hp : em_Hp} {H : Heap} {k : Nat} (hk : em_k k = 10) : em_cl Γ hp H k ↔ H[em_z Γ + k]? = some (arrV (em_cJ Γ) (em_ln hp k) (fun j => .long (em_J hp k j))) := by simp only [em_cl, hk]
theorem em_cl_11 {Γ : em_Cx} {hp : em_Hp} {H : Heap} {k : Nat} (hk : em_k k = 11) : em_cl Γ hp H k ↔ H[em_z Γ + k]? = some (arrV (em_cZ Γ) (em_ln hp k) (fun j => .int (em_I hp k j))) := by simp only [em_cl, hk]
theorem em_cl_12 {Γ : em_Cx} {hp : em_Hp} {H : Heap} {k : Nat} (hk : em_k k = 12) : em_cl Γ hp H k ↔ H[em_z Γ + k]? = some (arrV (em_cL Γ) (em_ln hp k) (fun j => em_v Γ (em_rf (em_R hp k j)))) := by simp only [em_cl, hk]
theorem em_cl_c {Γ : em_Cx} {hp : em_Hp} {H : Heap} {k c : Nat} (hk : em_k k = c) (hc : c < 9) : em_cl Γ hp H k ↔ t_OB (em_z Γ + k) ((em_D Γ).1 c) (em_nf c) ((em_D Γ).2 c) H (fun j => em_v Γ (em_fv hp c k j)) := by
  rcases (show c = 0 ∨ c = 1 ∨ c = 2 ∨ c = 3 ∨ c = 4 ∨ c = 5 ∨ c = 6 ∨ c = 7 ∨ c = 8 by omega) with rfl | rfl | rfl | rfl | rfl | rfl | rfl | rfl | rfl <;> simp only [em_cl, hk]
theorem em_cl_kept {Γ : em_Cx} {hp hp' : em_Hp} {H H' : Heap} {k : Nat} (hI : em_I hp' k = em_I hp k) (hJ : em_J hp' k = em_J hp k) (hR : em_R hp' k = em_R hp k) (hl : em_ln hp' k = em_ln hp k) (hH : H'[em_z Γ + k]? = H[em_z Γ + k]?) (h : em_cl Γ hp H k) : em_cl Γ hp' H' k := by
  unfold em_cl em_fv at h ⊢
  rw [hI, hJ, hR, hl]
  split at h
  · exact hH.trans h
  · exact hH.trans h
  · exact hH.trans h
  · exact hH.trans h
  · exact h.kept hH
/-- the heap holds the abstract one, and is below as it was at the law's entry -/
def em_W (Γ : em_Cx) (hp : em_Hp) (H : Heap) : Prop := H.size = em_z Γ + em_n hp ∧ (∀ q : Nat, q < em_z Γ → H[q]? = (em_h Γ)[q]?) ∧ ∀ k : Nat, k < em_n hp → em_cl Γ hp H k
theorem em_W_set {Γ : em_Cx} {hp hp' : em_Hp} {H H' : Heap} {k : Nat} (hW : em_W Γ hp H) (hn : em_n hp' = em_n hp) (hd : ∀ j, j < em_n hp → em_ln hp' j = em_ln hp j) (hI : ∀ j, j ≠ k → em_I hp' j = em_I hp j) (hJ : ∀ j, j ≠ k → em_J hp' j = em_J hp j) (hR : ∀ j, j ≠ k → em_R hp' j = em_R hp j)
    (hz : H'.size = H.size) (ho : ∀ q : Nat, q ≠ em_z Γ + k → H'[q]? = H[q]?) (hc : em_cl Γ hp' H' k) : em_W Γ hp' H' := by
  refine ⟨by rw [hz, hn]; exact hW.1, fun q hq => (ho q (by omega)).trans (hW.2.1 q hq), fun j hj => ?_⟩
  rw [hn] at hj
  by_cases hjk : j = k
  · subst hjk; exact hc
  · exact em_cl_kept (hI j hjk) (hJ j hjk) (hR j hjk) (hd j hj) (ho _ (by omega)) (hW.2.2 j hj)
theorem em_W_push {Γ : em_Cx} {hp hp' : em_Hp} {H H' : Heap} (hW : em_W Γ hp H) (hn : em_n hp' = em_n hp + 1) (hd : ∀ j, j < em_n hp → em_ln hp' j = em_ln hp j) (hI : ∀ j, j < em_n hp → em_I hp' j = em_I hp j) (hJ : ∀ j, j < em_n hp → em_J hp' j = em_J hp j) (hR : ∀ j, j < em_n hp → em_R hp' j = em_R hp j)
    (hz : H'.size = H.size + 1) (ho : ∀ q : Nat, q < H.size → H'[q]? = H[q]?) (hc : em_cl Γ hp' H' (em_n hp)) : em_W Γ hp' H' := by
  refine ⟨by rw [hz, hn, hW.1]; omega, fun q hq => (ho q (by rw [hW.1]; omega)).trans (hW.2.1 q hq), fun j hj => ?_⟩
  by_cases hjk : j = em_n hp
  · subst hjk; exact hc
  · exact em_cl_kept (hI j (by omega)) (hJ j (by omega)) (hR j (by omega)) (hd j (by omega)) (ho _ (by rw [hW.1]; omega)) (hW.2.2 j (by omega))
/-! what the tables and the start say, at any state behind the start -/
def em_okw (w : Cond) : Bool := goodWord w || (match w with
  | .fieldLinkNest _ _ _ _ _ _ => true
  | .methodLinkNest _ _ _ _ => true
  | _ => false)
def em_tys (Γ : em_Cx) : List (ClassId × FieldType) := [(em_cI Γ, .int), (em_cJ Γ, .long), (em_cZ Γ, .boolean), (em_cL Γ, .object "BeastRoad$Law")]
def em_tl : List Nat := [2, 4, 3, 3, 4, 2]
def em_tb : List (List Int32) := [[110, 111], [109, 111, 115, 116], [102, 101, 101], [112, 101, 114], [102, 114, 111, 109], [116, 111]]
def em_tx (i : Nat) : String := match i with
  | 0 => "no"
  | 1 => "most"
  | 2 => "fee"
  | 3 => "per"
  | 4 => "from"
  | _ => "to"
def em_ti (i : Nat) : Nat := 67 + 2 * i
def em_tm (i : Nat) : Nat := match i with
  | 0 => 209
  | 1 => 211
  | 2 => 213
  | 3 => 215
  | 4 => 217
  | _ => 218
abbrev em_A (Γ : em_Cx) : Nat → Prop := fun q => em_z Γ ≤ q
def em_X (Γ : em_Cx) (U : State) : Prop := va_AO "BeastRoad$Law" U ∧ (em_h Γ).size = em_z Γ ∧ em_x Γ 0 < em_z Γ ∧ va_X (em_x Γ 0) (em_L Γ) (em_s Γ) U (em_h Γ) ∧ vk_S 6 em_tl em_tb (fun i => em_x Γ (1 + i)) (fun i => em_x Γ (7 + i)) (em_A Γ) U (em_h Γ) ∧ va_Z "java/lang/String" "COMPACT_STRINGS" "Z" (.int 1) (em_A Γ) U (em_h Γ) ∧
  (∃ v : Value, va_Z "jdk/internal/util/Preconditions" "SIOOBE_FORMATTER" "Ljava/util/function/BiFunction;" v (em_A Γ) U (em_h Γ) ∧ (v = .null ∨ ∃ a, v = .ref a)) ∧ ∀ i, i < 6 → vk_R "BeastRoad$Tape" (em_ti i) (em_tx i) (em_x Γ (1 + i)) U ∧ vk_R "BeastRoadModel" (em_tm i) (em_tx i) (em_x Γ (1 + i)) U
def em_G (Γ : em_Cx) (U : State) : Prop := (∀ w ∈ lw_tbl, em_okw w = true → ∀ a : Array Value, w.before a U = true) ∧ va_K (em_D Γ) vwCl (em_tys Γ) U ∧ em_X Γ U
theorem em_G_warm {Γ : em_Cx} {s U : State} (hW : s.WarmedH U.vm) (h : em_G Γ s) : em_G Γ U := by
  obtain ⟨h1, h2, gA, g0, g1, g2, g3, g4, ⟨v, g5, g6⟩, g7⟩ := h
  refine ⟨fun w hw ho a => ?_, va_K.moved hW.alike h2, va_AO.moved hW.alike gA, g0, g1, va_X.moved hW.alike g2, vk_S.moved hW.alike g3, va_Z.moved hW.alike g4, ⟨v, va_Z.moved hW.alike g5, g6⟩, fun i hi => ⟨(g7 i hi).1.warm hW, (g7 i hi).2.warm hW⟩⟩
  have hs := h1 w hw ho #[]
  unfold em_okw at ho
  rcases (Bool.or_eq_true _ _).mp ho with hg | hg
  · exact word_at hW (good_of_word hg) hs
  · cases w <;> first | exact va_Nw.use rfl (va_Nw.warmF hW (va_Nw.of rfl hs)) | exact va_Nw.use rfl (va_Nw.warmM hW (va_Nw.of rfl hs)) | simp at hg
theorem em_G_call {Γ : em_Cx} {U : State} {g : JFrame} {mk : MethodId} {a : Array Value} (h : em_G Γ U) : em_G Γ (U.calling g mk a) := em_G_warm (s := U) (U := U.calling g mk a) (State.WarmedH.refl U) h
end
section
/-! METHODS AND THE JUDGEMENT. A method: ((its class, its name, its code, its locals, its answer's type), instructions (operation, number, constant, next pc) by pc, fields by pool index (class, slot), int constants by pool index) -/
abbrev em_Me : Type := (String × MethodName × ByteArray × Nat × Option FieldType) × (Nat → Option (Nat × Nat × Int32 × Nat)) × (Nat → Option (Nat × Nat)) × (Nat → Option Int32)
abbrev em_own (μ : em_Me) : String := μ.1.1
abbrev em_y (μ : em_Me) : MethodName := μ.1.2.1
abbrev em_c (μ : em_Me) : ByteArray := μ.1.2.2.1
abbrev em_nL (μ : em_Me) : Nat := μ.1.2.2.2.1
abbrev em_rt (μ : em_Me) : Option FieldType := μ.1.2.2.2.2
abbrev em_i (μ : em_Me) : Nat → Option (Nat × Nat × Int32 × Nat) := μ.2.1
abbrev em_fl (μ : em_Me) : Nat → Option (Nat × Nat) := μ.2.2.1
abbrev em_kl (μ : em_Me) : Nat → Option Int32 := μ.2.2.2
def em_rm (K mc ms : Nat) : Room := { frames := K, cells := mc, slots := ms, locals := 40 * K }
def em_lv (Γ : em_Cx) (lc : List (Nat × Value)) : List (Nat × Value) := lc.map (fun q => (q.1, em_v Γ q.2))
def em_Pc (Γ : em_Cx) (av : List Value) (hp : em_Hp) : Array Value → State → Prop := fun v U => v = (av.map (em_v Γ)).toArray ∧ em_G Γ U ∧ em_W Γ hp U.heap
def em_Q (Γ : em_Cx) (r : Option Value) (hp : em_Hp) : Array Value → State → Outcome → State → Prop := fun _ _ oc t => oc = .returned (r.map (em_v Γ)) ∧ em_W Γ hp t.heap
/-- a method's contract: of height K, from these arguments and this heap it comes to this answer and this heap -/
def em_MC (Γ : em_Cx) (K : Nat) (μ : em_Me) (av : List Value) (hp : em_Hp) (r : Option Value) (hp' : em_Hp) : Prop :=
  em_n hp ≤ em_n hp' ∧ em_m hp ≤ em_m hp' ∧ Met (em_l Γ) (em_y μ) [.code (em_y μ) (em_c μ) (em_nL μ) (em_rt μ)] (em_rm K (em_n hp' - em_n hp) (em_m hp' - em_m hp)) (em_Pc Γ av hp) (em_Q Γ r hp') (em_n hp' - em_n hp) (em_m hp' - em_m hp) (em_A Γ)
/-- the judgement: from this point of the method's body, with these locals, this stack and this heap, the method ends with the answer and the heap of fin; hp0 was the heap at its entry -/
def em_EW (Γ : em_Cx) (K : Nat) (μ : em_Me) (hp0 : em_Hp) (fin : Option Value × em_Hp) (pc : Nat) (lc : List (Nat × Value)) (st : List Value) (hp : em_Hp) : Prop :=
  ∀ (p : Program) (e : Env) (s : State) (m : MethodId) (args : Array Value) (below : List Frame) (meth : Method) (c : Code),
    p.tables.exec = Jvm.exec → c.code = em_c μ → meth.sig.returnType = em_rt μ → meth.locks = false → c.maxLocals = em_nL μ → s.vm.findClass (em_own μ) = some m.cls → meth.name = (em_y μ).name → em_G Γ s → s.heap.size = em_z Γ + em_n hp0 →
    ∀ (H : Heap) (locs : List Loc) (cells slots : Nat) (ls : Array Slot), em_W Γ hp H → (∀ q ∈ locs, em_A Γ q.base) → cells + em_n hp0 = em_n hp → slots + em_m hp0 = em_m hp → lv_has ls (em_nL μ) (em_lv Γ lc) →
      W p (em_l Γ) e (em_rm K (em_n fin.2 - em_n hp0) (em_m fin.2 - em_m hp0)) s m args below meth c H locs cells slots (MQ below (em_Q Γ fin.1 fin.2) args s (em_n fin.2 - em_n hp0) (em_m fin.2 - em_m hp0) (em_A Γ)) (F0 m pc ls (st.map (em_v Γ)))
theorem em_lv_args (Γ : em_Cx) : ∀ (i : Nat) (vs : List Value), lv_args i (vs.map (em_v Γ)) = em_lv Γ (lv_args i vs)
  | _, [] => rfl
  | i, v :: vs => by
    show (i, em_v Γ v) :: lv_args (if (em_v Γ v).category = 2 then i + 2 else i + 1) (vs.map (em_v Γ)) = (i, em_v Γ v) :: em_lv Γ (lv_args (if v.category = 2 then i + 2 else i + 1) vs)
    rw [em_v_cat, em_lv_args Γ _ vs]
def em_cats (vs : List Value) : Nat := (vs.map (fun v => v.category)).sum
theorem em_sl_len (Γ : em_Cx) : ∀ (vs : List Value), (lg_sl (vs.map (em_v Γ))).length = em_cats vs
  | [] => rfl
  | v :: vs => by
    have ih := em_sl_len Γ vs
    have e : lg_sl ((v :: vs).map (em_v Γ)) = lg_sl [em_v Γ v] ++ lg_sl (vs.map (em_v Γ)) := by simp [lg_sl]
    rw [e, List.length_append, ih]
    show _ = v.category + em_cats vs
    rcases lv_cat v with h | h <;> simp [lg_sl, em_v_cat, h]
theorem em_MC_of {Γ : em_Cx} {K : Nat} {μ : em_Me} {av : List Value} {hp : em_Hp} {r : Option Value} {hp' : em_Hp} (hn : em_n hp ≤ em_n hp') (hm : em_m hp ≤ em_m hp') (hy : plainName (em_y μ).cls = true) (hc : (em_y μ).cls = em_own μ) (ha : em_cats av ≤ em_nL μ)
    (k : em_EW Γ K μ hp (r, hp') 0 (lv_args 0 av) [] hp) : em_MC Γ K μ av hp r hp' := by
  refine ⟨hn, hm, Met.ofW (cc := em_c μ) (maxL := em_nL μ) (ret := em_rt μ) hy rfl ?_⟩
  intro p e s m args below meth c s₁ B hml hv
  obtain ⟨rfl, hG, hW⟩ := hv
  have hown : s.vm.findClass (em_y μ).cls = some m.cls := findClass_of_methodNamed B.named
  rw [hc] at hown
  have hl := lv_entry (av.map (em_v Γ)) (n := em_nL μ) (by rw [em_sl_len]; exact ha)
  rw [lg_entry_eq]
  rw [em_lv_args] at hl
  exact k p e s m _ below meth c B.exec B.bytes B.returns B.notSynchronized hml hown (name_of_methodNamed B.named B.method).1 hG hW.1 s.heap [] 0 0 _ hW (fun q h => by cases h) (by omega) (by omega) hl
theorem em_EW_as {Γ : em_Cx} {K : Nat} {μ : em_Me} {hp0 : em_Hp} {fin : Option Value × em_Hp} {pc : Nat} {lc lc' : List (Nat × Value)} {st st' : List Value} {hp hp' : em_Hp} (k : em_EW Γ K μ hp0 fin pc lc st hp) (h1 : lc = lc') (h2 : st = st') (h3 : hp = hp') : em_EW Γ K μ hp0 fin pc lc' st' hp' := by subst h1; subst h2; subst h3; exact k
/-! what is checked of a method's tables, once -/
def em_f4 (f : Fin 4 → Instr) (a : Nat) : Option (Instr × Nat) := if h : a < 4 then some (f ⟨a, h⟩, 1) else none
def em_br (pc a : Nat) : Int := (a : Int) - (pc : Int)
def em_dec (op a : Nat) (b : Int32) (pc : Nat) : Option (Instr × Nat) := match op with
  | 0 => some (.iconst b.toInt, 1)
  | 1 => if (Int8.ofInt b.toInt).toInt32 = b then some (.bipush b.toInt, 2) else none
  | 2 => if (Int16.ofInt b.toInt).toInt32 = b then some (.sipush b.toInt, 3) else none
  | 3 => if a = 0 then some (.lconst 0, 1) else if a = 1 then some (.lconst 1, 1) else none
  | 4 => em_f4 .iload_n a
  | 5 => some (.iload a, 2)
  | 6 => em_f4 .lload_n a
  | 7 => some (.lload a, 2)
  | 8 => em_f4 .aload_n a
  | 9 => some (.aload a, 2)
  | 10 => em_f4 .istore_n a
  | 11 => some (.istore a, 2)
  | 12 => em_f4 .lstore_n a
  | 13 => some (.lstore a, 2)
  | 14 => em_f4 .astore_n a
  | 15 => some (.astore a, 2)
  | 16 => some (.iinc a b.toInt, 3)
  | 17 => some (.iadd, 1)
  | 18 => some (.isub, 1)
  | 19 => some (.imul, 1)
  | 20 => some (.iand, 1)
  | 21 => some (.ior, 1)
  | 22 => some (.ixor, 1)
  | 23 => some (.ishl, 1)
  | 24 => some (.ishr, 1)
  | 25 => some (.iushr, 1)
  | 26 => some (.ladd, 1)
  | 27 => some (.lmul, 1)
  | 28 => some (.i2l, 1)
  | 29 => some (.lcmp, 1)
  | 30 => some (.dup, 1)
  | 31 => some (.dup2, 1)
  | 32 => some (.goto (em_br pc a), 3)
  | 33 => some (.getfield a, 3)
  | 34 => some (.arraylength, 1)
  | 35 => some (.ldc a, 2)
  | 36 => some (.ldc_w a, 3)
  | 37 => some (.ldc2_w a, 3)
  | 50 => some (.ifCond .eq (em_br pc a), 3)
  | 51 => some (.ifCond .ne (em_br pc a), 3)
  | 52 => some (.ifCond .lt (em_br pc a), 3)
  | 53 => some (.ifCond .ge (em_br pc a), 3)
  | 54 => some (.ifCond .gt (em_br pc a), 3)
  | 55 => some (.ifCond .le (em_br pc a), 3)
  | 56 => some (.if_icmp .eq (em_br pc a), 3)
  | 57 => some (.if_icmp .ne (em_br pc a), 3)
  | 58 => some (.if_icmp .lt (em_br pc a), 3)
  | 59 => some (.if_icmp .ge (em_br pc a), 3)
  | 60 => some (.if_icmp .gt (em_br pc a), 3)
  | 61 => some (.if_icmp .le (em_br pc a), 3)
  | 62 => some (.iaload, 1)
  | 63 => some (.baload, 1)
  | 64 => some (.laload, 1)
  | 65 => some (.aaload, 1)
  | 66 => some (.iastore, 1)
  | 67 => some (.bastore, 1)
  | 68 => some (.lastore, 1)
  | 69 => some (.aastore, 1)
  | 70 => some (.idiv, 1)
  | 71 => some (.irem, 1)
  | 72 => some (.ldiv, 1)
  | 73 => some (.lrem, 1)
  | 74 => some (.putfield a, 3)
  | 75 => some (.new a, 3)
  | 76 => some (.newarray .int, 2)
  | 77 => some (.newarray .long, 2)
  | 78 => some (.newarray .boolean, 2)
  | 79 => some (.anewarray a, 3)
  | 80 => some (.invokestatic a, 3)
  | 81 => some (.invokevirtual a, 3)
  | 82 => some (.invokespecial a, 3)
  | 83 => some (.ireturn, 1)
  | 84 => some (.lreturn, 1)
  | 85 => some (.areturn, 1)
  | 86 => some (.return_, 1)
  | _ => none
/-- the instructions are the code's, below a bound; the next pc is where the next one stands -/
def em_okI (μ : em_Me) (N : Nat) : Prop := (∀ pc, N ≤ pc → em_i μ pc = none) ∧ ∀ pc, pc < N → ∀ op a b nx, em_i μ pc = some (op, a, b, nx) → ∃ i len, em_dec op a b pc = some (i, len) ∧ decode (em_c μ) pc = .ok (i, len) ∧ nx = pc + len
/-- a field's link, among the tables' words -/
def em_okF (own : String) (idx c j : Nat) : Prop := ∃ r : vw_C, vwCl[c]? = some r ∧ j < r.2.2 ∧ Cond.fieldLink own idx (r.2.1 j).1 (r.2.1 j).2.1 (r.2.1 j).2.2.1 ∈ lw_tbl
def em_ok (μ : em_Me) : Prop := (∃ N, em_okI μ N) ∧ (∀ idx c j, em_fl μ idx = some (c, j) → em_okF (em_own μ) idx c j) ∧ (∀ idx v, em_kl μ idx = some v → Cond.constant (em_own μ) idx v ∈ lw_tbl) ∧ ∀ pc a b nx, em_i μ pc = some (37, a, b, nx) → Cond.constantLong (em_own μ) a (-1) ∈ lw_tbl
theorem em_ok.dec {μ : em_Me} (h : em_ok μ) {pc op a nx : Nat} {b : Int32} (hi : em_i μ pc = some (op, a, b, nx)) : ∃ i len, em_dec op a b pc = some (i, len) ∧ decode (em_c μ) pc = .ok (i, len) ∧ nx = pc + len := by
  obtain ⟨⟨N, h1, h2⟩, -⟩ := h
  by_cases hN : pc < N
  · exact h2 pc hN op a b nx hi
  · rw [h1 pc (by omega)] at hi; cases hi
end
section
theorem em_nf_ok {c : Nat} {r : vw_C} (h : vwCl[c]? = some r) : em_nf c = r.2.2 := by
  match c, h with
  | 0, h => cases h; rfl
  | 1, h => cases h; rfl
  | 2, h => cases h; rfl
  | 3, h => cases h; rfl
  | 4, h => cases h; rfl
  | 5, h => cases h; rfl
  | 6, h => cases h; rfl
  | 7, h => cases h; rfl
  | 8, h => cases h; rfl
  | n + 9, h => simp [vwCl] at h
theorem em_uin {c : Nat} {r : vw_C} (h : vwCl[c]? = some r) : ∀ w ∈ u_ws r.1 r.2.1 r.2.2, w ∈ lw_tbl := by
  match c, h with
  | 0, h => cases h; exact iX0
  | 1, h => cases h; exact iX1
  | 2, h => cases h; exact iX2
  | 3, h => cases h; exact iX3
  | 4, h => cases h; exact iX4
  | 5, h => cases h; exact iX5
  | 6, h => cases h; exact iX6
  | 7, h => cases h; exact iX7
  | 8, h => cases h; exact iX8
  | n + 9, h => simp [vwCl] at h
theorem em_okl (C : String) (T : u_T) (k : Nat) : em_okw (u_lay C T k) = true := by
  unfold u_lay
  split <;> rfl
theorem em_layAt {Γ : em_Cx} {s : State} {args : Array Value} (hG : em_G Γ s) {c j : Nat} {r : vw_C} (h : vwCl[c]? = some r) (hj : j < r.2.2) : (u_lay r.1 r.2.1 j).before args s = true := hG.1 _ (em_uin h _ (u_in_lay hj)) (em_okl _ _ _) args
theorem em_lays {Γ : em_Cx} {s : State} {args : Array Value} (hG : em_G Γ s) {c j : Nat} {r : vw_C} (h : vwCl[c]? = some r) (hj : j < r.2.2) : (Cond.lays r.1 (r.2.1 j).1 (r.2.1 j).2.1 (r.2.1 j).2.2.1).before args s = true ∨ (Cond.laysFinal r.1 (r.2.1 j).1 (r.2.1 j).2.1 (r.2.1 j).2.2.1).before args s = true := by
  have h1 := em_layAt (args := args) hG h hj
  unfold u_lay at h1
  split at h1
  · exact Or.inr h1
  · exact Or.inl h1
/-! THE PURE STEPS: no heap is changed, no branch taken -/
def em_lk : List (Nat × Value) → Nat → Option Value
  | [], _ => none
  | (j, v) :: t, i => bif Nat.beq j i then some v else em_lk t i
theorem em_lk_mem : ∀ {lc : List (Nat × Value)} {i : Nat} {v : Value}, em_lk lc i = some v → (i, v) ∈ lc
  | [], _, _, h => by cases h
  | (j, w) :: t, i, v, h => by
    unfold em_lk at h
    cases hb : Nat.beq j i with
    | true =>
      rw [hb] at h
      have e := Nat.eq_of_beq_eq_true hb
      subst e
      cases h
      exact List.mem_cons_self
    | false =>
      rw [hb] at h
      exact List.mem_cons_of_mem _ (em_lk_mem h)
theorem em_at {Γ : em_Cx} {ls : Array Slot} {nL : Nat} {lc : List (Nat × Value)} {i : Nat} {v : Value} (hl : lv_has ls nL (em_lv Γ lc)) (h : em_lk lc i = some v) : ls[i]? = some (.val (em_v Γ v)) := hl.2.2 (i, em_v Γ v) (List.mem_map.mpr ⟨(i, v), em_lk_mem h, rfl⟩)
def em_st1 (lc : List (Nat × Value)) (i : Nat) (v : Value) : List (Nat × Value) := (i, v) :: lc.filter (fun q => !(q.1 == i) && !(q.1 + 1 == i && q.2.category == 2))
def em_st2 (lc : List (Nat × Value)) (i : Nat) (v : Value) : List (Nat × Value) := (i, v) :: lc.filter (fun q => !(q.1 == i) && (!(q.1 == i + 1) && !(q.1 + 1 == i && q.2.category == 2)))
theorem em_lv_st1 (Γ : em_Cx) (lc : List (Nat × Value)) (i : Nat) (v : Value) : (i, em_v Γ v) :: (em_lv Γ lc).filter (fun q => !(q.1 == i) && !(q.1 + 1 == i && q.2.category == 2)) = em_lv Γ (em_st1 lc i v) := by
  show _ = (i, em_v Γ v) :: List.map _ (List.filter _ lc)
  rw [em_lv, List.filter_map]
  congr 2
  apply List.filter_congr
  intro q _
  simp [em_v_cat]
theorem em_lv_st2 (Γ : em_Cx) (lc : List (Nat × Value)) (i : Nat) (v : Value) : (i, em_v Γ v) :: (em_lv Γ lc).filter (fun q => !(q.1 == i) && (!(q.1 == i + 1) && !(q.1 + 1 == i && q.2.category == 2))) = em_lv Γ (em_st2 lc i v) := by
  show _ = (i, em_v Γ v) :: List.map _ (List.filter _ lc)
  rw [em_lv, List.filter_map]
  congr 2
  apply List.filter_congr
  intro q _
  simp [em_v_cat]
abbrev em_S3 : Type := Option (Nat × List (Nat × Value) × List Value)
def em_ii (nx : Nat) (lc : List (Nat × Value)) (st : List Value) (f : Int32 → Int32 → Int32) : em_S3 := match st with
  | .int y :: .int x :: t => some (nx, lc, .int (f x y) :: t)
  | _ => none
def em_ll (nx : Nat) (lc : List (Nat × Value)) (st : List Value) (f : Int64 → Int64 → Int64) : em_S3 := match st with
  | .long y :: .long x :: t => some (nx, lc, .long (f x y) :: t)
  | _ => none
def em_ldI (nx : Nat) (lc : List (Nat × Value)) (st : List Value) (a : Nat) : em_S3 := match em_lk lc a with
  | some (.int x) => some (nx, lc, .int x :: st)
  | _ => none
def em_ldJ (nx : Nat) (lc : List (Nat × Value)) (st : List Value) (a : Nat) : em_S3 := match em_lk lc a with
  | some (.long x) => some (nx, lc, .long x :: st)
  | _ => none
def em_ldA (nx : Nat) (lc : List (Nat × Value)) (st : List Value) (a : Nat) : em_S3 := match em_lk lc a with
  | some (.ref x) => some (nx, lc, .ref x :: st)
  | some (.float x) => some (nx, lc, .float x :: st)
  | _ => none
def em_stI (nx nL : Nat) (lc : List (Nat × Value)) (st : List Value) (a : Nat) : em_S3 := match st with
  | .int x :: t => bif Nat.blt a nL then some (nx, em_st1 lc a (.int x), t) else none
  | _ => none
def em_stJ (nx nL : Nat) (lc : List (Nat × Value)) (st : List Value) (a : Nat) : em_S3 := match st with
  | .long x :: t => bif Nat.blt (a + 1) nL then some (nx, em_st2 lc a (.long x), t) else none
  | _ => none
def em_stA (nx nL : Nat) (lc : List (Nat × Value)) (st : List Value) (a : Nat) : em_S3 := match st with
  | .ref x :: t => bif Nat.blt a nL then some (nx, em_st1 lc a (.ref x), t) else none
  | .float x :: t => bif Nat.blt a nL then some (nx, em_st1 lc a (.float x), t) else none
  | _ => none
def em_po (B : Nat) (μ : em_Me) (hp : em_Hp) (lc : List (Nat × Value)) (st : List Value) (op a : Nat) (b : Int32) (nx : Nat) : em_S3 := match op with
  | 0 => some (nx, lc, .int b :: st)
  | 1 => some (nx, lc, .int b :: st)
  | 2 => some (nx, lc, .int b :: st)
  | 3 => some (nx, lc, .long (bif Nat.beq a 0 then 0 else 1) :: st)
  | 4 => em_ldI nx lc st a
  | 5 => em_ldI nx lc st a
  | 6 => em_ldJ nx lc st a
  | 7 => em_ldJ nx lc st a
  | 8 => em_ldA nx lc st a
  | 9 => em_ldA nx lc st a
  | 10 => em_stI nx (em_nL μ) lc st a
  | 11 => em_stI nx (em_nL μ) lc st a
  | 12 => em_stJ nx (em_nL μ) lc st a
  | 13 => em_stJ nx (em_nL μ) lc st a
  | 14 => em_stA nx (em_nL μ) lc st a
  | 15 => em_stA nx (em_nL μ) lc st a
  | 16 => match em_lk lc a with
    | some (.int x) => bif Nat.blt a (em_nL μ) then some (nx, em_st1 lc a (.int (x + b)), st) else none
    | _ => none
  | 17 => em_ii nx lc st (fun x y => x + y)
  | 18 => em_ii nx lc st (fun x y => x - y)
  | 19 => em_ii nx lc st (fun x y => x * y)
  | 20 => em_ii nx lc st (fun x y => x &&& y)
  | 21 => em_ii nx lc st (fun x y => x ||| y)
  | 22 => em_ii nx lc st (fun x y => x ^^^ y)
  | 23 => em_ii nx lc st (fun x y => x <<< (y &&& 31))
  | 24 => em_ii nx lc st (fun x y => x >>> (y &&& 31))
  | 25 => em_ii nx lc st (fun x y => (x.toUInt32 >>> (y.toUInt32 &&& Int32.toUInt32 31)).toInt32)
  | 26 => em_ll nx lc st (fun x y => x + y)
  | 27 => em_ll nx lc st (fun x y => x * y)
  | 28 => match st with
    | .int x :: t => some (nx, lc, .long x.toInt64 :: t)
    | _ => none
  | 29 => match st with
    | .long y :: .long x :: t => some (nx, lc, .int (lg_cmp x y) :: t)
    | _ => none
  | 30 => match st with
    | .int x :: t => some (nx, lc, .int x :: .int x :: t)
    | .ref x :: t => some (nx, lc, .ref x :: .ref x :: t)
    | _ => none
  | 31 => match st with
    | .int x :: .ref y :: t => some (nx, lc, .int x :: .ref y :: .int x :: .ref y :: t)
    | _ => none
  | 32 => some (a, lc, st)
  | 33 => match st, em_fl μ a with
    | .ref k :: t, some (c, j) => bif Nat.beq (em_k k) c && (Nat.blt c 9 && Nat.blt k B) then some (nx, lc, em_fv hp c k j :: t) else none
    | _, _ => none
  | 35 => match em_kl μ a with
    | some v => some (nx, lc, .int v :: st)
    | none => none
  | 36 => match em_kl μ a with
    | some v => some (nx, lc, .int v :: st)
    | none => none
  | 37 => some (nx, lc, .long (-1) :: st)
  | _ => none
def em_ps (B : Nat) (μ : em_Me) (hp : em_Hp) (pc : Nat) (lc : List (Nat × Value)) (st : List Value) : em_S3 := match em_i μ pc with
  | some (op, a, b, nx) => em_po B μ hp lc st op a b nx
  | none => none

section EmPure
variable {Γ : em_Cx} {K : Nat} {μ : em_Me} {hp0 : em_Hp} {fin : Option Value × em_Hp} {B pc pc' a : Nat} {b : Int32} {lc lc' : List (Nat × Value)} {st st' : List Value} {hp : em_Hp}

theorem em_o0 (hB : B ≤ em_n hp) {nx : Nat} (hok : em_ok μ) (hi : em_i μ pc = some (0, a, b, nx)) (h : em_po B μ hp lc st 0 a b nx = some (pc', lc', st')) (k : em_EW Γ K μ hp0 fin pc' lc' st' hp) : em_EW Γ K μ hp0 fin pc lc st hp := by
  obtain ⟨i, len, hd, hdec, hnx⟩ := hok.dec hi
  subst hnx
  simp only [em_dec] at hd
  cases hd
  cases h
  intro p e s m args below meth c hx hb hr hlk hml hown hnm hG hs H locs cells slots ls hW hlo hcl hsl hl
  exact lv_iconst hx hb hdec (Int32.ofInt_toInt b) (k p e s m args below meth c hx hb hr hlk hml hown hnm hG hs H locs cells slots ls hW hlo hcl hsl hl)

theorem em_o1 (hB : B ≤ em_n hp) {nx : Nat} (hok : em_ok μ) (hi : em_i μ pc = some (1, a, b, nx)) (h : em_po B μ hp lc st 1 a b nx = some (pc', lc', st')) (k : em_EW Γ K μ hp0 fin pc' lc' st' hp) : em_EW Γ K μ hp0 fin pc lc st hp := by
  obtain ⟨i, len, hd, hdec, hnx⟩ := hok.dec hi
  subst hnx
  simp only [em_dec] at hd
  split at hd
  · rename_i hq
    cases hd
    cases h
    intro p e s m args below meth c hx hb hr hlk hml hown hnm hG hs H locs cells slots ls hW hlo hcl hsl hl
    exact lv_bipush hx hb hdec hq (k p e s m args below meth c hx hb hr hlk hml hown hnm hG hs H locs cells slots ls hW hlo hcl hsl hl)
  · cases hd

theorem em_o2 (hB : B ≤ em_n hp) {nx : Nat} (hok : em_ok μ) (hi : em_i μ pc = some (2, a, b, nx)) (h : em_po B μ hp lc st 2 a b nx = some (pc', lc', st')) (k : em_EW Γ K μ hp0 fin pc' lc' st' hp) : em_EW Γ K μ hp0 fin pc lc st hp := by
  obtain ⟨i, len, hd, hdec, hnx⟩ := hok.dec hi
  subst hnx
  simp only [em_dec] at hd
  split at hd
  · rename_i hq
    cases hd
    cases h
    intro p e s m args below meth c hx hb hr hlk hml hown hnm hG hs H locs cells slots ls hW hlo hcl hsl hl
    exact lv_sipush hx hb hdec hq (k p e s m args below meth c hx hb hr hlk hml hown hnm hG hs H locs cells slots ls hW hlo hcl hsl hl)
  · cases hd

theorem em_o3 (hB : B ≤ em_n hp) {nx : Nat} (hok : em_ok μ) (hi : em_i μ pc = some (3, a, b, nx)) (h : em_po B μ hp lc st 3 a b nx = some (pc', lc', st')) (k : em_EW Γ K μ hp0 fin pc' lc' st' hp) : em_EW Γ K μ hp0 fin pc lc st hp := by
  obtain ⟨i, len, hd, hdec, hnx⟩ := hok.dec hi
  subst hnx
  simp only [em_dec] at hd
  split at hd
  · rename_i hq
    subst hq
    cases hd
    cases h
    intro p e s m args below meth c hx hb hr hlk hml hown hnm hG hs H locs cells slots ls hW hlo hcl hsl hl
    exact lv_lconst hx hb hdec rfl (k p e s m args below meth c hx hb hr hlk hml hown hnm hG hs H locs cells slots ls hW hlo hcl hsl hl)
  · split at hd
    · rename_i hq
      subst hq
      cases hd
      cases h
      intro p e s m args below meth c hx hb hr hlk hml hown hnm hG hs H locs cells slots ls hW hlo hcl hsl hl
      exact lv_lconst hx hb hdec rfl (k p e s m args below meth c hx hb hr hlk hml hown hnm hG hs H locs cells slots ls hW hlo hcl hsl hl)
    · cases hd

theorem em_o4 (hB : B ≤ em_n hp) {nx : Nat} (hok : em_ok μ) (hi : em_i μ pc = some (4, a, b, nx)) (h : em_po B μ hp lc st 4 a b nx = some (pc', lc', st')) (k : em_EW Γ K μ hp0 fin pc' lc' st' hp) : em_EW Γ K μ hp0 fin pc lc st hp := by
  obtain ⟨i, len, hd, hdec, hnx⟩ := hok.dec hi
  subst hnx
  simp only [em_po, em_ldI] at h
  simp only [em_dec, em_f4] at hd
  split at hd
  case isFalse => cases hd
  cases hd
  split at h
  · rename_i x hx1
    cases h
    intro p e s m args below meth c hx hb hr hlk hml hown hnm hG hs H locs cells slots ls hW hlo hcl hsl hl
    exact lv_iload_n hx hb hdec rfl (em_at hl hx1) (k p e s m args below meth c hx hb hr hlk hml hown hnm hG hs H locs cells slots ls hW hlo hcl hsl hl)
  · cases h

theorem em_o5 (hB : B ≤ em_n hp) {nx : Nat} (hok : em_ok μ) (hi : em_i μ pc = some (5, a, b, nx)) (h : em_po B μ hp lc st 5 a b nx = some (pc', lc', st')) (k : em_EW Γ K μ hp0 fin pc' lc' st' hp) : em_EW Γ K μ hp0 fin pc lc st hp := by
  obtain ⟨i, len, hd, hdec, hnx⟩ := hok.dec hi
  subst hnx
  simp only [em_po, em_ldI] at h
  simp only [em_dec] at hd
  cases hd
  split at h
  · rename_i x hx1
    cases h
    intro p e s m args below meth c hx hb hr hlk hml hown hnm hG hs H locs cells slots ls hW hlo hcl hsl hl
    exact lv_iload hx hb hdec (em_at hl hx1) (k p e s m args below meth c hx hb hr hlk hml hown hnm hG hs H locs cells slots ls hW hlo hcl hsl hl)
  · cases h

theorem em_o6 (hB : B ≤ em_n hp) {nx : Nat} (hok : em_ok μ) (hi : em_i μ pc = some (6, a, b, nx)) (h : em_po B μ hp lc st 6 a b nx = some (pc', lc', st')) (k : em_EW Γ K μ hp0 fin pc' lc' st' hp) : em_EW Γ K μ hp0 fin pc lc st hp := by
  obtain ⟨i, len, hd, hdec, hnx⟩ := hok.dec hi
  subst hnx
  simp only [em_po, em_ldJ] at h
  simp only [em_dec, em_f4] at hd
  split at hd
  case isFalse => cases hd
  cases hd
  split at h
  · rename_i x hx1
    cases h
    intro p e s m args below meth c hx hb hr hlk hml hown hnm hG hs H locs cells slots ls hW hlo hcl hsl hl
    exact lv_lload_n hx hb hdec rfl (em_at hl hx1) (k p e s m args below meth c hx hb hr hlk hml hown hnm hG hs H locs cells slots ls hW hlo hcl hsl hl)
  · cases h

theorem em_o7 (hB : B ≤ em_n hp) {nx : Nat} (hok : em_ok μ) (hi : em_i μ pc = some (7, a, b, nx)) (h : em_po B μ hp lc st 7 a b nx = some (pc', lc', st')) (k : em_EW Γ K μ hp0 fin pc' lc' st' hp) : em_EW Γ K μ hp0 fin pc lc st hp := by
  obtain ⟨i, len, hd, hdec, hnx⟩ := hok.dec hi
  subst hnx
  simp only [em_po, em_ldJ] at h
  simp only [em_dec] at hd
  cases hd
  split at h
  · rename_i x hx1
    cases h
    intro p e s m args below meth c hx hb hr hlk hml hown hnm hG hs H locs cells slots ls hW hlo hcl hsl hl
    exact lv_lload hx hb hdec (em_at hl hx1) (k p e s m args below meth c hx hb hr hlk hml hown hnm hG hs H locs cells slots ls hW hlo hcl hsl hl)
  · cases h

theorem em_o8 (hB : B ≤ em_n hp) {nx : Nat} (hok : em_ok μ) (hi : em_i μ pc = some (8, a, b, nx)) (h : em_po B μ hp lc st 8 a b nx = some (pc', lc', st')) (k : em_EW Γ K μ hp0 fin pc' lc' st' hp) : em_EW Γ K μ hp0 fin pc lc st hp := by
  obtain ⟨i, len, hd, hdec, hnx⟩ := hok.dec hi
  subst hnx
  simp only [em_po, em_ldA] at h
  simp only [em_dec, em_f4] at hd
  split at hd
  case isFalse => cases hd
  cases hd
  split at h
  · rename_i x hx1
    cases h
    intro p e s m args below meth c hx hb hr hlk hml hown hnm hG hs H locs cells slots ls hW hlo hcl hsl hl
    exact lv_aload_n hx hb hdec rfl (em_at hl hx1) (k p e s m args below meth c hx hb hr hlk hml hown hnm hG hs H locs cells slots ls hW hlo hcl hsl hl)
  · rename_i x hx1
    cases h
    intro p e s m args below meth c hx hb hr hlk hml hown hnm hG hs H locs cells slots ls hW hlo hcl hsl hl
    exact lv_aload_n hx hb hdec rfl (em_at hl hx1) (k p e s m args below meth c hx hb hr hlk hml hown hnm hG hs H locs cells slots ls hW hlo hcl hsl hl)
  · cases h

theorem em_o9 (hB : B ≤ em_n hp) {nx : Nat} (hok : em_ok μ) (hi : em_i μ pc = some (9, a, b, nx)) (h : em_po B μ hp lc st 9 a b nx = some (pc', lc', st')) (k : em_EW Γ K μ hp0 fin pc' lc' st' hp) : em_EW Γ K μ hp0 fin pc lc st hp := by
  obtain ⟨i, len, hd, hdec, hnx⟩ := hok.dec hi
  subst hnx
  simp only [em_po, em_ldA] at h
  simp only [em_dec] at hd
  cases hd
  split at h
  · rename_i x hx1
    cases h
    intro p e s m args below meth c hx hb hr hlk hml hown hnm hG hs H locs cells slots ls hW hlo hcl hsl hl
    exact lv_aload hx hb hdec (em_at hl hx1) (k p e s m args below meth c hx hb hr hlk hml hown hnm hG hs H locs cells slots ls hW hlo hcl hsl hl)
  · rename_i x hx1
    cases h
    intro p e s m args below meth c hx hb hr hlk hml hown hnm hG hs H locs cells slots ls hW hlo hcl hsl hl
    exact lv_aload hx hb hdec (em_at hl hx1) (k p e s m args below meth c hx hb hr hlk hml hown hnm hG hs H locs cells slots ls hW hlo hcl hsl hl)
  · cases h

theorem em_o10 (hB : B ≤ em_n hp) {nx : Nat} (hok : em_ok μ) (hi : em_i μ pc = some (10, a, b, nx)) (h : em_po B μ hp lc st 10 a b nx = some (pc', lc', st')) (k : em_EW Γ K μ hp0 fin pc' lc' st' hp) : em_EW Γ K μ hp0 fin pc lc st hp := by
  obtain ⟨i, len, hd, hdec, hnx⟩ := hok.dec hi
  subst hnx
  simp only [em_po, em_stI] at h
  simp only [em_dec, em_f4] at hd
  split at hd
  case isFalse => cases hd
  cases hd
  split at h
  · rename_i x t
    cases hq : Nat.blt a (em_nL μ) with
    | false => rw [hq] at h; cases h
    | true =>
      rw [hq] at h
      cases h
      intro p e s m args below meth c hx hb hr hlk hml hown hnm hG hs H locs cells slots ls hW hlo hcl hsl hl
      exact lv_istore_n hx hb hdec rfl hl (Nat.le_of_ble_eq_true hq) (em_lv_st1 Γ lc a (.int x)) (fun ls' hl' => k p e s m args below meth c hx hb hr hlk hml hown hnm hG hs H locs cells slots ls' hW hlo hcl hsl (hl'))
  · cases h

theorem em_o11 (hB : B ≤ em_n hp) {nx : Nat} (hok : em_ok μ) (hi : em_i μ pc = some (11, a, b, nx)) (h : em_po B μ hp lc st 11 a b nx = some (pc', lc', st')) (k : em_EW Γ K μ hp0 fin pc' lc' st' hp) : em_EW Γ K μ hp0 fin pc lc st hp := by
  obtain ⟨i, len, hd, hdec, hnx⟩ := hok.dec hi
  subst hnx
  simp only [em_po, em_stI] at h
  simp only [em_dec] at hd
  cases hd
  split at h
  · rename_i x t
    cases hq : Nat.blt a (em_nL μ) with
    | false => rw [hq] at h; cases h
    | true =>
      rw [hq] at h
      cases h
      intro p e s m args below meth c hx hb hr hlk hml hown hnm hG hs H locs cells slots ls hW hlo hcl hsl hl
      exact lv_istore hx hb hdec hl (Nat.le_of_ble_eq_true hq) (em_lv_st1 Γ lc a (.int x)) (fun ls' hl' => k p e s m args below meth c hx hb hr hlk hml hown hnm hG hs H locs cells slots ls' hW hlo hcl hsl (hl'))
  · cases h

theorem em_o12 (hB : B ≤ em_n hp) {nx : Nat} (hok : em_ok μ) (hi : em_i μ pc = some (12, a, b, nx)) (h : em_po B μ hp lc st 12 a b nx = some (pc', lc', st')) (k : em_EW Γ K μ hp0 fin pc' lc' st' hp) : em_EW Γ K μ hp0 fin pc lc st hp := by
  obtain ⟨i, len, hd, hdec, hnx⟩ := hok.dec hi
  subst hnx
  simp only [em_po, em_stJ] at h
  simp only [em_dec, em_f4] at hd
  split at hd
  case isFalse => cases hd
  cases hd
  split at h
  · rename_i x t
    cases hq : Nat.blt (a + 1) (em_nL μ) with
    | false => rw [hq] at h; cases h
    | true =>
      rw [hq] at h
      cases h
      intro p e s m args below meth c hx hb hr hlk hml hown hnm hG hs H locs cells slots ls hW hlo hcl hsl hl
      exact lv_lstore_n hx hb hdec rfl hl (Nat.le_of_ble_eq_true hq) (em_lv_st2 Γ lc a (.long x)) (fun ls' hl' => k p e s m args below meth c hx hb hr hlk hml hown hnm hG hs H locs cells slots ls' hW hlo hcl hsl (hl'))
  · cases h

theorem em_o13 (hB : B ≤ em_n hp) {nx : Nat} (hok : em_ok μ) (hi : em_i μ pc = some (13, a, b, nx)) (h : em_po B μ hp lc st 13 a b nx = some (pc', lc', st')) (k : em_EW Γ K μ hp0 fin pc' lc' st' hp) : em_EW Γ K μ hp0 fin pc lc st hp := by
  obtain ⟨i, len, hd, hdec, hnx⟩ := hok.dec hi
  subst hnx
  simp only [em_po, em_stJ] at h
  simp only [em_dec] at hd
  cases hd
  split at h
  · rename_i x t
    cases hq : Nat.blt (a + 1) (em_nL μ) with
    | false => rw [hq] at h; cases h
    | true =>
      rw [hq] at h
      cases h
      intro p e s m args below meth c hx hb hr hlk hml hown hnm hG hs H locs cells slots ls hW hlo hcl hsl hl
      exact lv_lstore hx hb hdec hl (Nat.le_of_ble_eq_true hq) (em_lv_st2 Γ lc a (.long x)) (fun ls' hl' => k p e s m args below meth c hx hb hr hlk hml hown hnm hG hs H locs cells slots ls' hW hlo hcl hsl (hl'))
  · cases h

theorem em_o14 (hB : B ≤ em_n hp) {nx : Nat} (hok : em_ok μ) (hi : em_i μ pc = some (14, a, b, nx)) (h : em_po B μ hp lc st 14 a b nx = some (pc', lc', st')) (k : em_EW Γ K μ hp0 fin pc' lc' st' hp) : em_EW Γ K μ hp0 fin pc lc st hp := by
  obtain ⟨i, len, hd, hdec, hnx⟩ := hok.dec hi
  subst hnx
  simp only [em_po, em_stA] at h
  simp only [em_dec, em_f4] at hd
  split at hd
  case isFalse => cases hd
  cases hd
  split at h
  · rename_i x t
    cases hq : Nat.blt a (em_nL μ) with
    | false => rw [hq] at h; cases h
    | true =>
      rw [hq] at h
      cases h
      intro p e s m args below meth c hx hb hr hlk hml hown hnm hG hs H locs cells slots ls hW hlo hcl hsl hl
      exact lv_astore_n hx hb hdec rfl hl (Nat.le_of_ble_eq_true hq) (em_lv_st1 Γ lc a (.ref x)) (fun ls' hl' => k p e s m args below meth c hx hb hr hlk hml hown hnm hG hs H locs cells slots ls' hW hlo hcl hsl (hl'))
  · rename_i x t
    cases hq : Nat.blt a (em_nL μ) with
    | false => rw [hq] at h; cases h
    | true =>
      rw [hq] at h
      cases h
      intro p e s m args below meth c hx hb hr hlk hml hown hnm hG hs H locs cells slots ls hW hlo hcl hsl hl
      exact lv_astore_n hx hb hdec rfl hl (Nat.le_of_ble_eq_true hq) (em_lv_st1 Γ lc a (.float x)) (fun ls' hl' => k p e s m args below meth c hx hb hr hlk hml hown hnm hG hs H locs cells slots ls' hW hlo hcl hsl (hl'))
  · cases h

theorem em_o15 (hB : B ≤ em_n hp) {nx : Nat} (hok : em_ok μ) (hi : em_i μ pc = some (15, a, b, nx)) (h : em_po B μ hp lc st 15 a b nx = some (pc', lc', st')) (k : em_EW Γ K μ hp0 fin pc' lc' st' hp) : em_EW Γ K μ hp0 fin pc lc st hp := by
  obtain ⟨i, len, hd, hdec, hnx⟩ := hok.dec hi
  subst hnx
  simp only [em_po, em_stA] at h
  simp only [em_dec] at hd
  cases hd
  split at h
  · rename_i x t
    cases hq : Nat.blt a (em_nL μ) with
    | false => rw [hq] at h; cases h
    | true =>
      rw [hq] at h
      cases h
      intro p e s m args below meth c hx hb hr hlk hml hown hnm hG hs H locs cells slots ls hW hlo hcl hsl hl
      exact lv_astore hx hb hdec hl (Nat.le_of_ble_eq_true hq) (em_lv_st1 Γ lc a (.ref x)) (fun ls' hl' => k p e s m args below meth c hx hb hr hlk hml hown hnm hG hs H locs cells slots ls' hW hlo hcl hsl (hl'))
  · rename_i x t
    cases hq : Nat.blt a (em_nL μ) with
    | false => rw [hq] at h; cases h
    | true =>
      rw [hq] at h
      cases h
      intro p e s m args below meth c hx hb hr hlk hml hown hnm hG hs H locs cells slots ls hW hlo hcl hsl hl
      exact lv_astore hx hb hdec hl (Nat.le_of_ble_eq_true hq) (em_lv_st1 Γ lc a (.float x)) (fun ls' hl' => k p e s m args below meth c hx hb hr hlk hml hown hnm hG hs H locs cells slots ls' hW hlo hcl hsl (hl'))
  · cases h

theorem em_o16 (hB : B ≤ em_n hp) {nx : Nat} (hok : em_ok μ) (hi : em_i μ pc = some (16, a, b, nx)) (h : em_po B μ hp lc st 16 a b nx = some (pc', lc', st')) (k : em_EW Γ K μ hp0 fin pc' lc' st' hp) : em_EW Γ K μ hp0 fin pc lc st hp := by
  obtain ⟨i, len, hd, hdec, hnx⟩ := hok.dec hi
  subst hnx
  simp only [em_dec] at hd
  cases hd
  simp only [em_po] at h
  split at h
  · rename_i x hx1
    cases hq : Nat.blt a (em_nL μ) with
    | false => rw [hq] at h; cases h
    | true =>
      rw [hq] at h
      cases h
      intro p e s m args below meth c hx hb hr hlk hml hown hnm hG hs H locs cells slots ls hW hlo hcl hsl hl
      obtain ⟨k0, hk0⟩ := List.getElem?_of_mem (List.mem_map.mpr ⟨(a, _), em_lk_mem hx1, rfl⟩ : (a, em_v Γ (.int x)) ∈ em_lv Γ lc)
      exact lv_iinc hx hb hdec hl hk0 (by rw [Int32.ofInt_toInt]) (Nat.le_of_ble_eq_true hq) (em_lv_st1 Γ lc a (.int (x + b))) (fun ls' hl' => k p e s m args below meth c hx hb hr hlk hml hown hnm hG hs H locs cells slots ls' hW hlo hcl hsl (hl'))
  · cases h

theorem em_o17 (hB : B ≤ em_n hp) {nx : Nat} (hok : em_ok μ) (hi : em_i μ pc = some (17, a, b, nx)) (h : em_po B μ hp lc st 17 a b nx = some (pc', lc', st')) (k : em_EW Γ K μ hp0 fin pc' lc' st' hp) : em_EW Γ K μ hp0 fin pc lc st hp := by
  obtain ⟨i, len, hd, hdec, hnx⟩ := hok.dec hi
  subst hnx
  simp only [em_dec] at hd
  cases hd
  simp only [em_po, em_ii] at h
  split at h
  · rename_i y x t
    cases h
    intro p e s m args below meth c hx hb hr hlk hml hown hnm hG hs H locs cells slots ls hW hlo hcl hsl hl
    exact lv_iadd hx hb hdec (k p e s m args below meth c hx hb hr hlk hml hown hnm hG hs H locs cells slots ls hW hlo hcl hsl hl)
  · cases h

theorem em_o18 (hB : B ≤ em_n hp) {nx : Nat} (hok : em_ok μ) (hi : em_i μ pc = some (18, a, b, nx)) (h : em_po B μ hp lc st 18 a b nx = some (pc', lc', st')) (k : em_EW Γ K μ hp0 fin pc' lc' st' hp) : em_EW Γ K μ hp0 fin pc lc st hp := by
  obtain ⟨i, len, hd, hdec, hnx⟩ := hok.dec hi
  subst hnx
  simp only [em_dec] at hd
  cases hd
  simp only [em_po, em_ii] at h
  split at h
  · rename_i y x t
    cases h
    intro p e s m args below meth c hx hb hr hlk hml hown hnm hG hs H locs cells slots ls hW hlo hcl hsl hl
    exact lv_isub hx hb hdec (k p e s m args below meth c hx hb hr hlk hml hown hnm hG hs H locs cells slots ls hW hlo hcl hsl hl)
  · cases h

theorem em_o19 (hB : B ≤ em_n hp) {nx : Nat} (hok : em_ok μ) (hi : em_i μ pc = some (19, a, b, nx)) (h : em_po B μ hp lc st 19 a b nx = some (pc', lc', st')) (k : em_EW Γ K μ hp0 fin pc' lc' st' hp) : em_EW Γ K μ hp0 fin pc lc st hp := by
  obtain ⟨i, len, hd, hdec, hnx⟩ := hok.dec hi
  subst hnx
  simp only [em_dec] at hd
  cases hd
  simp only [em_po, em_ii] at h
  split at h
  · rename_i y x t
    cases h
    intro p e s m args below meth c hx hb hr hlk hml hown hnm hG hs H locs cells slots ls hW hlo hcl hsl hl
    exact lv_imul hx hb hdec (k p e s m args below meth c hx hb hr hlk hml hown hnm hG hs H locs cells slots ls hW hlo hcl hsl hl)
  · cases h

theorem em_o20 (hB : B ≤ em_n hp) {nx : Nat} (hok : em_ok μ) (hi : em_i μ pc = some (20, a, b, nx)) (h : em_po B μ hp lc st 20 a b nx = some (pc', lc', st')) (k : em_EW Γ K μ hp0 fin pc' lc' st' hp) : em_EW Γ K μ hp0 fin pc lc st hp := by
  obtain ⟨i, len, hd, hdec, hnx⟩ := hok.dec hi
  subst hnx
  simp only [em_dec] at hd
  cases hd
  simp only [em_po, em_ii] at h
  split at h
  · rename_i y x t
    cases h
    intro p e s m args below meth c hx hb hr hlk hml hown hnm hG hs H locs cells slots ls hW hlo hcl hsl hl
    exact lv_iand hx hb hdec (k p e s m args below meth c hx hb hr hlk hml hown hnm hG hs H locs cells slots ls hW hlo hcl hsl hl)
  · cases h

theorem em_o21 (hB : B ≤ em_n hp) {nx : Nat} (hok : em_ok μ) (hi : em_i μ pc = some (21, a, b, nx)) (h : em_po B μ hp lc st 21 a b nx = some (pc', lc', st')) (k : em_EW Γ K μ hp0 fin pc' lc' st' hp) : em_EW Γ K μ hp0 fin pc lc st hp := by
  obtain ⟨i, len, hd, hdec, hnx⟩ := hok.dec hi
  subst hnx
  simp only [em_dec] at hd
  cases hd
  simp only [em_po, em_ii] at h
  split at h
  · rename_i y x t
    cases h
    intro p e s m args below meth c hx hb hr hlk hml hown hnm hG hs H locs cells slots ls hW hlo hcl hsl hl
    exact lv_ior hx hb hdec (k p e s m args below meth c hx hb hr hlk hml hown hnm hG hs H locs cells slots ls hW hlo hcl hsl hl)
  · cases h

theorem em_o22 (hB : B ≤ em_n hp) {nx : Nat} (hok : em_ok μ) (hi : em_i μ pc = some (22, a, b, nx)) (h : em_po B μ hp lc st 22 a b nx = some (pc', lc', st')) (k : em_EW Γ K μ hp0 fin pc' lc' st' hp) : em_EW Γ K μ hp0 fin pc lc st hp := by
  obtain ⟨i, len, hd, hdec, hnx⟩ := hok.dec hi
  subst hnx
  simp only [em_dec] at hd
  cases hd
  simp only [em_po, em_ii] at h
  split at h
  · rename_i y x t
    cases h
    intro p e s m args below meth c hx hb hr hlk hml hown hnm hG hs H locs cells slots ls hW hlo hcl hsl hl
    exact lv_ixor hx hb hdec (k p e s m args below meth c hx hb hr hlk hml hown hnm hG hs H locs cells slots ls hW hlo hcl hsl hl)
  · cases h

theorem em_o23 (hB : B ≤ em_n hp) {nx : Nat} (hok : em_ok μ) (hi : em_i μ pc = some (23, a, b, nx)) (h : em_po B μ hp lc st 23 a b nx = some (pc', lc', st')) (k : em_EW Γ K μ hp0 fin pc' lc' st' hp) : em_EW Γ K μ hp0 fin pc lc st hp := by
  obtain ⟨i, len, hd, hdec, hnx⟩ := hok.dec hi
  subst hnx
  simp only [em_dec] at hd
  cases hd
  simp only [em_po, em_ii] at h
  split at h
  · rename_i y x t
    cases h
    intro p e s m args below meth c hx hb hr hlk hml hown hnm hG hs H locs cells slots ls hW hlo hcl hsl hl
    exact lv_ishl hx hb hdec (k p e s m args below meth c hx hb hr hlk hml hown hnm hG hs H locs cells slots ls hW hlo hcl hsl hl)
  · cases h

theorem em_o24 (hB : B ≤ em_n hp) {nx : Nat} (hok : em_ok μ) (hi : em_i μ pc = some (24, a, b, nx)) (h : em_po B μ hp lc st 24 a b nx = some (pc', lc', st')) (k : em_EW Γ K μ hp0 fin pc' lc' st' hp) : em_EW Γ K μ hp0 fin pc lc st hp := by
  obtain ⟨i, len, hd, hdec, hnx⟩ := hok.dec hi
  subst hnx
  simp only [em_dec] at hd
  cases hd
  simp only [em_po, em_ii] at h
  split at h
  · rename_i y x t
    cases h
    intro p e s m args below meth c hx hb hr hlk hml hown hnm hG hs H locs cells slots ls hW hlo hcl hsl hl
    exact lv_ishr hx hb hdec (k p e s m args below meth c hx hb hr hlk hml hown hnm hG hs H locs cells slots ls hW hlo hcl hsl hl)
  · cases h

theorem em_o25 (hB : B ≤ em_n hp) {nx : Nat} (hok : em_ok μ) (hi : em_i μ pc = some (25, a, b, nx)) (h : em_po B μ hp lc st 25 a b nx = some (pc', lc', st')) (k : em_EW Γ K μ hp0 fin pc' lc' st' hp) : em_EW Γ K μ hp0 fin pc lc st hp := by
  obtain ⟨i, len, hd, hdec, hnx⟩ := hok.dec hi
  subst hnx
  simp only [em_dec] at hd
  cases hd
  simp only [em_po, em_ii] at h
  split at h
  · rename_i y x t
    cases h
    intro p e s m args below meth c hx hb hr hlk hml hown hnm hG hs H locs cells slots ls hW hlo hcl hsl hl
    exact lv_iushr hx hb hdec rfl (k p e s m args below meth c hx hb hr hlk hml hown hnm hG hs H locs cells slots ls hW hlo hcl hsl hl)
  · cases h

theorem em_o26 (hB : B ≤ em_n hp) {nx : Nat} (hok : em_ok μ) (hi : em_i μ pc = some (26, a, b, nx)) (h : em_po B μ hp lc st 26 a b nx = some (pc', lc', st')) (k : em_EW Γ K μ hp0 fin pc' lc' st' hp) : em_EW Γ K μ hp0 fin pc lc st hp := by
  obtain ⟨i, len, hd, hdec, hnx⟩ := hok.dec hi
  subst hnx
  simp only [em_dec] at hd
  cases hd
  simp only [em_po, em_ll] at h
  split at h
  · rename_i y x t
    cases h
    intro p e s m args below meth c hx hb hr hlk hml hown hnm hG hs H locs cells slots ls hW hlo hcl hsl hl
    exact lv_ladd hx hb hdec (k p e s m args below meth c hx hb hr hlk hml hown hnm hG hs H locs cells slots ls hW hlo hcl hsl hl)
  · cases h

theorem em_o27 (hB : B ≤ em_n hp) {nx : Nat} (hok : em_ok μ) (hi : em_i μ pc = some (27, a, b, nx)) (h : em_po B μ hp lc st 27 a b nx = some (pc', lc', st')) (k : em_EW Γ K μ hp0 fin pc' lc' st' hp) : em_EW Γ K μ hp0 fin pc lc st hp := by
  obtain ⟨i, len, hd, hdec, hnx⟩ := hok.dec hi
  subst hnx
  simp only [em_dec] at hd
  cases hd
  simp only [em_po, em_ll] at h
  split at h
  · rename_i y x t
    cases h
    intro p e s m args below meth c hx hb hr hlk hml hown hnm hG hs H locs cells slots ls hW hlo hcl hsl hl
    exact lv_lmul hx hb hdec (k p e s m args below meth c hx hb hr hlk hml hown hnm hG hs H locs cells slots ls hW hlo hcl hsl hl)
  · cases h

theorem em_o28 (hB : B ≤ em_n hp) {nx : Nat} (hok : em_ok μ) (hi : em_i μ pc = some (28, a, b, nx)) (h : em_po B μ hp lc st 28 a b nx = some (pc', lc', st')) (k : em_EW Γ K μ hp0 fin pc' lc' st' hp) : em_EW Γ K μ hp0 fin pc lc st hp := by
  obtain ⟨i, len, hd, hdec, hnx⟩ := hok.dec hi
  subst hnx
  simp only [em_dec] at hd
  cases hd
  simp only [em_po] at h
  split at h
  · rename_i x t
    cases h
    intro p e s m args below meth c hx hb hr hlk hml hown hnm hG hs H locs cells slots ls hW hlo hcl hsl hl
    exact lv_i2l hx hb hdec rfl (k p e s m args below meth c hx hb hr hlk hml hown hnm hG hs H locs cells slots ls hW hlo hcl hsl hl)
  · cases h

theorem em_o29 (hB : B ≤ em_n hp) {nx : Nat} (hok : em_ok μ) (hi : em_i μ pc = some (29, a, b, nx)) (h : em_po B μ hp lc st 29 a b nx = some (pc', lc', st')) (k : em_EW Γ K μ hp0 fin pc' lc' st' hp) : em_EW Γ K μ hp0 fin pc lc st hp := by
  obtain ⟨i, len, hd, hdec, hnx⟩ := hok.dec hi
  subst hnx
  simp only [em_dec] at hd
  cases hd
  simp only [em_po] at h
  split at h
  · rename_i y x t
    cases h
    intro p e s m args below meth c hx hb hr hlk hml hown hnm hG hs H locs cells slots ls hW hlo hcl hsl hl
    exact W.lcmp hx hb hdec (k p e s m args below meth c hx hb hr hlk hml hown hnm hG hs H locs cells slots ls hW hlo hcl hsl hl)
  · cases h

theorem em_o30 (hB : B ≤ em_n hp) {nx : Nat} (hok : em_ok μ) (hi : em_i μ pc = some (30, a, b, nx)) (h : em_po B μ hp lc st 30 a b nx = some (pc', lc', st')) (k : em_EW Γ K μ hp0 fin pc' lc' st' hp) : em_EW Γ K μ hp0 fin pc lc st hp := by
  obtain ⟨i, len, hd, hdec, hnx⟩ := hok.dec hi
  subst hnx
  simp only [em_dec] at hd
  cases hd
  simp only [em_po] at h
  split at h
  · rename_i x t
    cases h
    intro p e s m args below meth c hx hb hr hlk hml hown hnm hG hs H locs cells slots ls hW hlo hcl hsl hl
    exact lv_dup hx hb hdec rfl (k p e s m args below meth c hx hb hr hlk hml hown hnm hG hs H locs cells slots ls hW hlo hcl hsl hl)
  · rename_i x t
    cases h
    intro p e s m args below meth c hx hb hr hlk hml hown hnm hG hs H locs cells slots ls hW hlo hcl hsl hl
    exact lv_dup hx hb hdec rfl (k p e s m args below meth c hx hb hr hlk hml hown hnm hG hs H locs cells slots ls hW hlo hcl hsl hl)
  · cases h

theorem em_o31 (hB : B ≤ em_n hp) {nx : Nat} (hok : em_ok μ) (hi : em_i μ pc = some (31, a, b, nx)) (h : em_po B μ hp lc st 31 a b nx = some (pc', lc', st')) (k : em_EW Γ K μ hp0 fin pc' lc' st' hp) : em_EW Γ K μ hp0 fin pc lc st hp := by
  obtain ⟨i, len, hd, hdec, hnx⟩ := hok.dec hi
  subst hnx
  simp only [em_dec] at hd
  cases hd
  simp only [em_po] at h
  split at h
  · rename_i x y t
    cases h
    intro p e s m args below meth c hx hb hr hlk hml hown hnm hG hs H locs cells slots ls hW hlo hcl hsl hl
    exact lv_dup2_11 hx hb hdec rfl rfl (k p e s m args below meth c hx hb hr hlk hml hown hnm hG hs H locs cells slots ls hW hlo hcl hsl hl)
  · cases h

theorem em_o32 (hB : B ≤ em_n hp) {nx : Nat} (hok : em_ok μ) (hi : em_i μ pc = some (32, a, b, nx)) (h : em_po B μ hp lc st 32 a b nx = some (pc', lc', st')) (k : em_EW Γ K μ hp0 fin pc' lc' st' hp) : em_EW Γ K μ hp0 fin pc lc st hp := by
  obtain ⟨i, len, hd, hdec, hnx⟩ := hok.dec hi
  subst hnx
  simp only [em_dec] at hd
  cases hd
  cases h
  intro p e s m args below meth c hx hb hr hlk hml hown hnm hG hs H locs cells slots ls hW hlo hcl hsl hl
  exact lv_goto hx hb hdec (by unfold em_br; omega) (k p e s m args below meth c hx hb hr hlk hml hown hnm hG hs H locs cells slots ls hW hlo hcl hsl hl)

theorem em_o33 (hB : B ≤ em_n hp) {nx : Nat} (hok : em_ok μ) (hi : em_i μ pc = some (33, a, b, nx)) (h : em_po B μ hp lc st 33 a b nx = some (pc', lc', st')) (k : em_EW Γ K μ hp0 fin pc' lc' st' hp) : em_EW Γ K μ hp0 fin pc lc st hp := by
  obtain ⟨i, len, hd, hdec, hnx⟩ := hok.dec hi
  subst hnx
  simp only [em_dec] at hd
  cases hd
  simp only [em_po] at h
  split at h
  · rename_i k1 t c1 j1 hf1
    cases hq : (Nat.beq (em_k k1) c1 && (Nat.blt c1 9 && Nat.blt k1 B)) with
    | false => rw [hq] at h; cases h
    | true =>
      rw [hq] at h
      cases h
      rw [Bool.and_eq_true, Bool.and_eq_true] at hq
      obtain ⟨q1, q2, q3⟩ := hq
      have e1 := Nat.eq_of_beq_eq_true q1
      have e2 : c1 < 9 := Nat.le_of_ble_eq_true q2
      have e3 : k1 < em_n hp := Nat.lt_of_lt_of_le (Nat.le_of_ble_eq_true q3) hB
      obtain ⟨r, hr1, hj, hlink⟩ := hok.2.1 _ _ _ hf1
      intro p e s m args below meth c hx hb hr hlk hml hown hnm hG hs H locs cells slots ls hW hlo hcl hsl hl
      have hcell := (em_cl_c e1 e2).mp (hW.2.2 k1 e3)
      obtain ⟨cell, g1, g2, g3, g4⟩ := hcell
      obtain ⟨hS, hfc, kC, hkC, hkind⟩ := hG.2.1.1 c1 r hr1
      obtain ⟨cf, kf, fi, f, hfi, hfs⟩ := hS j1 hj
      have hnf : em_nf c1 = r.2.2 := em_nf_ok hr1
      have hlays := em_lays hG hr1 hj (args := args)
      refine W.getf hx hb hown (hG.1 _ hlink rfl args) hfi (u_facts hfc hkC hlays hfi).1 g1 (by rw [g3]; exact fun h => by cases h) (v := em_v Γ (em_fv hp c1 k1 j1)) (by rw [hfs, g4 j1 (by rw [hnf]; exact hj)]) rfl rfl hdec ?_
      exact k p e s m args below meth c hx hb hr hlk hml hown hnm hG hs H locs cells slots ls hW hlo hcl hsl hl
  · cases h

theorem em_o35 (hB : B ≤ em_n hp) {nx : Nat} (hok : em_ok μ) (hi : em_i μ pc = some (35, a, b, nx)) (h : em_po B μ hp lc st 35 a b nx = some (pc', lc', st')) (k : em_EW Γ K μ hp0 fin pc' lc' st' hp) : em_EW Γ K μ hp0 fin pc lc st hp := by
  obtain ⟨i, len, hd, hdec, hnx⟩ := hok.dec hi
  subst hnx
  simp only [em_dec] at hd
  cases hd
  simp only [em_po] at h
  split at h
  · rename_i v1 hv1
    cases h
    intro p e s m args below meth c hx hb hr hlk hml hown hnm hG hs H locs cells slots ls hW hlo hcl hsl hl
    exact lv_ldc hx hb hown (hG.1 _ (hok.2.2.1 _ _ hv1) rfl args) hdec (k p e s m args below meth c hx hb hr hlk hml hown hnm hG hs H locs cells slots ls hW hlo hcl hsl hl)
  · cases h

theorem em_o36 (hB : B ≤ em_n hp) {nx : Nat} (hok : em_ok μ) (hi : em_i μ pc = some (36, a, b, nx)) (h : em_po B μ hp lc st 36 a b nx = some (pc', lc', st')) (k : em_EW Γ K μ hp0 fin pc' lc' st' hp) : em_EW Γ K μ hp0 fin pc lc st hp := by
  obtain ⟨i, len, hd, hdec, hnx⟩ := hok.dec hi
  subst hnx
  simp only [em_dec] at hd
  cases hd
  simp only [em_po] at h
  split at h
  · rename_i v1 hv1
    cases h
    intro p e s m args below meth c hx hb hr hlk hml hown hnm hG hs H locs cells slots ls hW hlo hcl hsl hl
    exact lv_ldcw hx hb hown (hG.1 _ (hok.2.2.1 _ _ hv1) rfl args) hdec (k p e s m args below meth c hx hb hr hlk hml hown hnm hG hs H locs cells slots ls hW hlo hcl hsl hl)
  · cases h

theorem em_o37 (hB : B ≤ em_n hp) {nx : Nat} (hok : em_ok μ) (hi : em_i μ pc = some (37, a, b, nx)) (h : em_po B μ hp lc st 37 a b nx = some (pc', lc', st')) (k : em_EW Γ K μ hp0 fin pc' lc' st' hp) : em_EW Γ K μ hp0 fin pc lc st hp := by
  obtain ⟨i, len, hd, hdec, hnx⟩ := hok.dec hi
  subst hnx
  simp only [em_dec] at hd
  cases hd
  cases h
  intro p e s m args below meth c hx hb hr hlk hml hown hnm hG hs H locs cells slots ls hW hlo hcl hsl hl
  exact lv_ldc2 hx hb hown (hG.1 _ (hok.2.2.2 _ _ _ _ hi) rfl args) hdec (k p e s m args below meth c hx hb hr hlk hml hown hnm hG hs H locs cells slots ls hW hlo hcl hsl hl)

theorem em_pure (hB : B ≤ em_n hp) (hok : em_ok μ) (h : em_ps B μ hp pc lc st = some (pc', lc', st')) (k : em_EW Γ K μ hp0 fin pc' lc' st' hp) : em_EW Γ K μ hp0 fin pc lc st hp := by
  unfold em_ps at h
  split at h
  · rename_i op a b nx hi
    match op, hi, h with
    | 0, hi, h => exact em_o0 hB hok hi h k
    | 1, hi, h => exact em_o1 hB hok hi h k
    | 2, hi, h => exact em_o2 hB hok hi h k
    | 3, hi, h => exact em_o3 hB hok hi h k
    | 4, hi, h => exact em_o4 hB hok hi h k
    | 5, hi, h => exact em_o5 hB hok hi h k
    | 6, hi, h => exact em_o6 hB hok hi h k
    | 7, hi, h => exact em_o7 hB hok hi h k
    | 8, hi, h => exact em_o8 hB hok hi h k
    | 9, hi, h => exact em_o9 hB hok hi h k
    | 10, hi, h => exact em_o10 hB hok hi h k
    | 11, hi, h => exact em_o11 hB hok hi h k
    | 12, hi, h => exact em_o12 hB hok hi h k
    | 13, hi, h => exact em_o13 hB hok hi h k
    | 14, hi, h => exact em_o14 hB hok hi h k
    | 15, hi, h => exact em_o15 hB hok hi h k
    | 16, hi, h => exact em_o16 hB hok hi h k
    | 17, hi, h => exact em_o17 hB hok hi h k
    | 18, hi, h => exact em_o18 hB hok hi h k
    | 19, hi, h => exact em_o19 hB hok hi h k
    | 20, hi, h => exact em_o20 hB hok hi h k
    | 21, hi, h => exact em_o21 hB hok hi h k
    | 22, hi, h => exact em_o22 hB hok hi h k
    | 23, hi, h => exact em_o23 hB hok hi h k
    | 24, hi, h => exact em_o24 hB hok hi h k
    | 25, hi, h => exact em_o25 hB hok hi h k
    | 26, hi, h => exact em_o26 hB hok hi h k
    | 27, hi, h => exact em_o27 hB hok hi h k
    | 28, hi, h => exact em_o28 hB hok hi h k
    | 29, hi, h => exact em_o29 hB hok hi h k
    | 30, hi, h => exact em_o30 hB hok hi h k
    | 31, hi, h => exact em_o31 hB hok hi h k
    | 32, hi, h => exact em_o32 hB hok hi h k
    | 33, hi, h => exact em_o33 hB hok hi h k
    | 35, hi, h => exact em_o35 hB hok hi h k
    | 36, hi, h => exact em_o36 hB hok hi h k
    | 37, hi, h => exact em_o37 hB hok hi h k
    | 34, hi, h => cases h
    | n + 38, hi, h => cases h
  · cases h
end EmPure
end
section
/-! BRANCHES, ARRAYS, FIELDS, ANSWERS -/
def em_bs (μ : em_Me) (pc : Nat) (st : List Value) : Option (Prop × Nat × Nat × List Value) := match em_i μ pc with
  | some (op, a, _, nx) => match op with
    | 50 => match st with
      | .int x :: t => some (x = 0, a, nx, t)
      | _ => none
    | 51 => match st with
      | .int x :: t => some (¬ x = 0, a, nx, t)
      | _ => none
    | 52 => match st with
      | .int x :: t => some (x < 0, a, nx, t)
      | _ => none
    | 53 => match st with
      | .int x :: t => some (0 ≤ x, a, nx, t)
      | _ => none
    | 54 => match st with
      | .int x :: t => some (0 < x, a, nx, t)
      | _ => none
    | 55 => match st with
      | .int x :: t => some (x ≤ 0, a, nx, t)
      | _ => none
    | 56 => match st with
      | .int y :: .int x :: t => some (x = y, a, nx, t)
      | _ => none
    | 57 => match st with
      | .int y :: .int x :: t => some (¬ x = y, a, nx, t)
      | _ => none
    | 58 => match st with
      | .int y :: .int x :: t => some (x < y, a, nx, t)
      | _ => none
    | 59 => match st with
      | .int y :: .int x :: t => some (y ≤ x, a, nx, t)
      | _ => none
    | 60 => match st with
      | .int y :: .int x :: t => some (y < x, a, nx, t)
      | _ => none
    | 61 => match st with
      | .int y :: .int x :: t => some (x ≤ y, a, nx, t)
      | _ => none
    | _ => none
  | none => none
/-- an array's read or a division: two on the stack -/
def em_as (op : Nat) (μ : em_Me) (pc : Nat) (st : List Value) : Option (Int32 × Nat × Nat × List Value) := match em_i μ pc with
  | some (o, _, _, nx) => bif Nat.beq o op then (match st with
    | .int i :: .ref k :: t => some (i, k, nx, t)
    | _ => none) else none
  | none => none
def em_wI (op : Nat) (μ : em_Me) (pc : Nat) (st : List Value) : Option (Int32 × Int32 × Nat × Nat × List Value) := match em_i μ pc with
  | some (o, _, _, nx) => bif Nat.beq o op then (match st with
    | .int x :: .int i :: .ref k :: t => some (x, i, k, nx, t)
    | _ => none) else none
  | none => none
def em_wJ (μ : em_Me) (pc : Nat) (st : List Value) : Option (Int64 × Int32 × Nat × Nat × List Value) := match em_i μ pc with
  | some (o, _, _, nx) => bif Nat.beq o 68 then (match st with
    | .long x :: .int i :: .ref k :: t => some (x, i, k, nx, t)
    | _ => none) else none
  | none => none
def em_wA (μ : em_Me) (pc : Nat) (st : List Value) : Option (Nat × Int32 × Nat × Nat × List Value) := match em_i μ pc with
  | some (o, _, _, nx) => bif Nat.beq o 69 then (match st with
    | .ref x :: .int i :: .ref k :: t => some (x, i, k, nx, t)
    | _ => none) else none
  | none => none
def em_dI (op : Nat) (μ : em_Me) (pc : Nat) (st : List Value) : Option (Int32 × Int32 × Nat × List Value) := match em_i μ pc with
  | some (o, _, _, nx) => bif Nat.beq o op then (match st with
    | .int y :: .int x :: t => some (y, x, nx, t)
    | _ => none) else none
  | none => none
def em_dJ (op : Nat) (μ : em_Me) (pc : Nat) (st : List Value) : Option (Int64 × Int64 × Nat × List Value) := match em_i μ pc with
  | some (o, _, _, nx) => bif Nat.beq o op then (match st with
    | .long y :: .long x :: t => some (y, x, nx, t)
    | _ => none) else none
  | none => none
/-- an instruction of this number at pc -/
def em_at1 (op : Nat) (μ : em_Me) (pc : Nat) : Option (Nat × Nat) := match em_i μ pc with
  | some (o, a, _, nx) => bif Nat.beq o op then some (a, nx) else none
  | none => none
theorem em_at1_i {op : Nat} {μ : em_Me} {pc a nx : Nat} (h : em_at1 op μ pc = some (a, nx)) : ∃ b, em_i μ pc = some (op, a, b, nx) := by
  unfold em_at1 at h
  split at h
  · rename_i o a1 b1 n1 hi
    cases hq : Nat.beq o op with
    | false => rw [hq] at h; cases h
    | true =>
      rw [hq] at h
      have := Nat.eq_of_beq_eq_true hq
      subst this
      cases h
      exact ⟨_, hi⟩
  · cases h
abbrev em_sI (hp : em_Hp) (k : Nat) (r : Nat → Int32) : em_Hp := (hp.1, hp.2.1, va_up hp.2.2.1 k r, hp.2.2.2.1, hp.2.2.2.2)
abbrev em_sJ (hp : em_Hp) (k : Nat) (r : Nat → Int64) : em_Hp := (hp.1, hp.2.1, hp.2.2.1, va_up hp.2.2.2.1 k r, hp.2.2.2.2)
abbrev em_sR (hp : em_Hp) (k : Nat) (r : Nat → Option Nat) : em_Hp := (hp.1, hp.2.1, hp.2.2.1, hp.2.2.2.1, va_up hp.2.2.2.2 k r)
theorem em_arrI {Γ : em_Cx} {s : State} (hG : em_G Γ s) (n : Nat) (f : Nat → Value) : s.isArrayOf (arrV (em_cI Γ) n f) .int := (hG.2.1.2 0 _ rfl).1 n f
theorem em_arrJ {Γ : em_Cx} {s : State} (hG : em_G Γ s) (n : Nat) (f : Nat → Value) : s.isArrayOf (arrV (em_cJ Γ) n f) .long := (hG.2.1.2 1 _ rfl).1 n f
theorem em_arrZ {Γ : em_Cx} {s : State} (hG : em_G Γ s) (n : Nat) (f : Nat → Value) : s.isArrayOf (arrV (em_cZ Γ) n f) .boolean := (hG.2.1.2 2 _ rfl).1 n f
theorem em_arrL {Γ : em_Cx} {s : State} (hG : em_G Γ s) (n : Nat) (f : Nat → Value) : s.isArrayOf (arrV (em_cL Γ) n f) (.object "BeastRoad$Law") := (hG.2.1.2 3 _ rfl).1 n f
theorem em_lo {Γ : em_Cx} {locs : List Loc} (h : ∀ q ∈ locs, em_A Γ q.base) (k i : Nat) : ∀ q ∈ locs ++ [(⟨em_z Γ + k, i⟩ : Loc)], em_A Γ q.base := by
  intro q hq
  rcases List.mem_append.mp hq with h1 | h1
  · exact h q h1
  · rw [List.mem_singleton.mp h1]
    exact Nat.le_add_right _ _
theorem em_inS {cI : ClassId} {i : Int32} {n : Nat} {f : Nat → Value} (hin : vp_in i n) : ¬ (i < 0 ∨ (arrV cI n f).slots.size ≤ i.toNatClampNeg) := by rw [arrV_size]; exact hin
theorem em_inR {cI : ClassId} {i : Int32} {n : Nat} {f : Nat → Value} (hin : vp_in i n) : (arrV cI n f).slots[i.toNatClampNeg]? = some (f i.toNatClampNeg) := arrV_read _ _ (Nat.not_le.mp fun q => hin (Or.inr q))
theorem em_updV {α : Type} (g : α → Value) (f : Nat → α) (k : Nat) (x : α) : updV (fun j => g (f j)) k (g x) = fun j => g (va_up f k x j) := by
  funext j
  by_cases h : j = k
  · simp [updV, va_up, h]
  · simp [updV, va_up, h]
section EmRules
variable {Γ : em_Cx} {K : Nat} {μ : em_Me} {hp0 : em_Hp} {fin : Option Value × em_Hp} {pc a nx : Nat} {b : Int32} {lc : List (Nat × Value)} {st t : List Value} {hp : em_Hp}
theorem em_branch {P : Prop} {tgt : Nat} (hok : em_ok μ) (h : em_bs μ pc st = some (P, tgt, nx, t)) (kt : P → em_EW Γ K μ hp0 fin tgt lc t hp) (kf : ¬ P → em_EW Γ K μ hp0 fin nx lc t hp) : em_EW Γ K μ hp0 fin pc lc st hp := by
  unfold em_bs at h
  split at h
  · rename_i op a b n1 hi
    obtain ⟨i, len, hd, hdec, hnx⟩ := hok.dec hi
    subst hnx
    have he : (pc : Int) + em_br pc a = (a : Int) := by unfold em_br; omega
    split at h <;> first
      | (cases h; done)
      | (split at h
         · cases h
           simp only [em_dec] at hd
           cases hd
           intro p e s m args below meth c hx hb hr hlk hml hown hnm hG hs H locs cells slots ls hW hlo hcl hsl hl
           have k1 := fun q => kt q p e s m args below meth c hx hb hr hlk hml hown hnm hG hs H locs cells slots ls hW hlo hcl hsl hl
           have k2 := fun q => kf q p e s m args below meth c hx hb hr hlk hml hown hnm hG hs H locs cells slots ls hW hlo hcl hsl hl
           first
             | exact lv_if_eq hx hb hdec he k1 k2
             | exact lv_if_ne hx hb hdec he k1 (fun q => k2 (fun z => z q))
             | exact lv_if_lt hx hb hdec he k1 k2
             | exact lv_if_ge hx hb hdec he k1 k2
             | exact lv_if_gt hx hb hdec he k1 k2
             | exact lv_if_le hx hb hdec he k1 k2
             | exact lv_icmp_eq hx hb hdec he k1 k2
             | exact lv_icmp_ne hx hb hdec he k1 (fun q => k2 (fun z => z q))
             | exact lv_icmp_lt hx hb hdec he k1 k2
             | exact lv_icmp_ge hx hb hdec he k1 k2
             | exact lv_icmp_gt hx hb hdec he k1 k2
             | exact lv_icmp_le hx hb hdec he k1 k2
         · cases h)
  · cases h
theorem em_as_i {op : Nat} {i : Int32} {k : Nat} (h : em_as op μ pc st = some (i, k, nx, t)) : (∃ a b, em_i μ pc = some (op, a, b, nx)) ∧ st = .int i :: .ref k :: t := by
  unfold em_as at h
  split at h
  · rename_i o a b n1 hi
    cases hq : Nat.beq o op with
    | false => rw [hq] at h; cases h
    | true =>
      rw [hq] at h
      have := Nat.eq_of_beq_eq_true hq
      subst this
      simp only [cond_true] at h
      split at h
      · cases h; exact ⟨⟨_, _, hi⟩, rfl⟩
      · cases h
  · cases h
theorem em_iald {i : Int32} {k : Nat} (hok : em_ok μ) (h : em_as 62 μ pc st = some (i, k, nx, t)) (hk : em_k k = 9) (hn : k < em_n hp) (hin : vp_in i (em_ln hp k)) (kk : em_EW Γ K μ hp0 fin nx lc (.int (em_I hp k i.toNatClampNeg) :: t) hp) : em_EW Γ K μ hp0 fin pc lc st hp := by
  obtain ⟨⟨a, b, hi⟩, rfl⟩ := em_as_i h
  obtain ⟨ii, len, hd, hdec, hnx⟩ := hok.dec hi
  subst hnx
  cases hd
  intro p e s m args below meth c hx hb hr hlk hml hown hnm hG hs H locs cells slots ls hW hlo hcl hsl hl
  exact W.iald hx hb ((em_cl_9 hk).mp (hW.2.2 k hn)) (em_arrI hG _ _) (fun q => by cases q) (em_inS hin) (em_inR hin) rfl rfl hdec (kk p e s m args below meth c hx hb hr hlk hml hown hnm hG hs H locs cells slots ls hW hlo hcl hsl hl)
theorem em_zald {i : Int32} {k : Nat} (hok : em_ok μ) (h : em_as 63 μ pc st = some (i, k, nx, t)) (hk : em_k k = 11) (hn : k < em_n hp) (hin : vp_in i (em_ln hp k)) (kk : em_EW Γ K μ hp0 fin nx lc (.int (em_I hp k i.toNatClampNeg) :: t) hp) : em_EW Γ K μ hp0 fin pc lc st hp := by
  obtain ⟨⟨a, b, hi⟩, rfl⟩ := em_as_i h
  obtain ⟨ii, len, hd, hdec, hnx⟩ := hok.dec hi
  subst hnx
  cases hd
  intro p e s m args below meth c hx hb hr hlk hml hown hnm hG hs H locs cells slots ls hW hlo hcl hsl hl
  exact W.zald hx hb ((em_cl_11 hk).mp (hW.2.2 k hn)) (em_arrZ hG _ _) (fun q => by cases q) (em_inS hin) (em_inR hin) rfl rfl hdec (kk p e s m args below meth c hx hb hr hlk hml hown hnm hG hs H locs cells slots ls hW hlo hcl hsl hl)
theorem em_lald {i : Int32} {k : Nat} (hok : em_ok μ) (h : em_as 64 μ pc st = some (i, k, nx, t)) (hk : em_k k = 10) (hn : k < em_n hp) (hin : vp_in i (em_ln hp k)) (kk : em_EW Γ K μ hp0 fin nx lc (.long (em_J hp k i.toNatClampNeg) :: t) hp) : em_EW Γ K μ hp0 fin pc lc st hp := by
  obtain ⟨⟨a, b, hi⟩, rfl⟩ := em_as_i h
  obtain ⟨ii, len, hd, hdec, hnx⟩ := hok.dec hi
  subst hnx
  cases hd
  intro p e s m args below meth c hx hb hr hlk hml hown hnm hG hs H locs cells slots ls hW hlo hcl hsl hl
  exact W.lald hx hb ((em_cl_10 hk).mp (hW.2.2 k hn)) (em_arrJ hG _ _) (fun q => by cases q) (em_inS hin) (em_inR hin) rfl rfl hdec (kk p e s m args below meth c hx hb hr hlk hml hown hnm hG hs H locs cells slots ls hW hlo hcl hsl hl)
theorem em_aald {i : Int32} {k : Nat} (hok : em_ok μ) (h : em_as 65 μ pc st = some (i, k, nx, t)) (hk : em_k k = 12) (hn : k < em_n hp) (hin : vp_in i (em_ln hp k)) (kk : em_EW Γ K μ hp0 fin nx lc (em_rf (em_R hp k i.toNatClampNeg) :: t) hp) : em_EW Γ K μ hp0 fin pc lc st hp := by
  obtain ⟨⟨a, b, hi⟩, rfl⟩ := em_as_i h
  obtain ⟨ii, len, hd, hdec, hnx⟩ := hok.dec hi
  subst hnx
  cases hd
  intro p e s m args below meth c hx hb hr hlk hml hown hnm hG hs H locs cells slots ls hW hlo hcl hsl hl
  exact W.aald (ty := .object "BeastRoad$Law") hx hb ((em_cl_12 hk).mp (hW.2.2 k hn)) (em_arrL hG _ _) rfl (fun q => by cases q) (em_inS hin) (em_inR hin) rfl rfl hdec (kk p e s m args below meth c hx hb hr hlk hml hown hnm hG hs H locs cells slots ls hW hlo hcl hsl hl)
theorem em_alen {k : Nat} (hok : em_ok μ) (h : em_at1 34 μ pc = some (a, nx)) (hk : em_k k = 9 ∨ em_k k = 10 ∨ em_k k = 11) (hn : k < em_n hp) (kk : em_EW Γ K μ hp0 fin nx lc (.int (nI (em_ln hp k)) :: t) hp) : em_EW Γ K μ hp0 fin pc lc (.ref k :: t) hp := by
  obtain ⟨b, hi⟩ := em_at1_i h
  obtain ⟨ii, len, hd, hdec, hnx⟩ := hok.dec hi
  subst hnx
  cases hd
  intro p e s m args below meth c hx hb hr hlk hml hown hnm hG hs H locs cells slots ls hW hlo hcl hsl hl
  have k0 := kk p e s m args below meth c hx hb hr hlk hml hown hnm hG hs H locs cells slots ls hW hlo hcl hsl hl
  rcases hk with hk | hk | hk
  · exact W.alen (n := nI (em_ln hp k)) hx hb ((em_cl_9 hk).mp (hW.2.2 k hn)) (em_arrI hG _ _) (by rw [arrV_size]; rfl) rfl rfl hdec k0
  · exact W.alen (n := nI (em_ln hp k)) hx hb ((em_cl_10 hk).mp (hW.2.2 k hn)) (em_arrJ hG _ _) (by rw [arrV_size]; rfl) rfl rfl hdec k0
  · exact W.alen (n := nI (em_ln hp k)) hx hb ((em_cl_11 hk).mp (hW.2.2 k hn)) (em_arrZ hG _ _) (by rw [arrV_size]; rfl) rfl rfl hdec k0
theorem em_wI_i {op : Nat} {x i : Int32} {k : Nat} (h : em_wI op μ pc st = some (x, i, k, nx, t)) : (∃ a b, em_i μ pc = some (op, a, b, nx)) ∧ st = .int x :: .int i :: .ref k :: t := by
  unfold em_wI at h
  split at h
  · rename_i o a b n1 hi
    cases hq : Nat.beq o op with
    | false => rw [hq] at h; cases h
    | true =>
      rw [hq] at h
      have := Nat.eq_of_beq_eq_true hq
      subst this
      simp only [cond_true] at h
      split at h
      · cases h; exact ⟨⟨_, _, hi⟩, rfl⟩
      · cases h
  · cases h
theorem em_ne {α : Type} {f : Nat → α} {k : Nat} {r : α} : ∀ j, j ≠ k → va_up f k r j = f j := fun _ h => va_up_ne _ _ h
theorem em_iast {x i : Int32} {k : Nat} (hok : em_ok μ) (h : em_wI 66 μ pc st = some (x, i, k, nx, t)) (hk : em_k k = 9) (hn : k < em_n hp) (hin : vp_in i (em_ln hp k)) (kk : em_EW Γ K μ hp0 fin nx lc t (em_sI hp k (va_up (em_I hp k) i.toNatClampNeg x))) : em_EW Γ K μ hp0 fin pc lc st hp := by
  obtain ⟨⟨a, b, hi⟩, rfl⟩ := em_wI_i h
  obtain ⟨ii, len, hd, hdec, hnx⟩ := hok.dec hi
  subst hnx
  cases hd
  intro p e s m args below meth c hx hb hr hlk hml hown hnm hG hs H locs cells slots ls hW hlo hcl hsl hl
  refine W.iast hx hb ((em_cl_9 hk).mp (hW.2.2 k hn)) (em_arrI hG _ _) (fun q => by cases q) (em_inS hin) rfl rfl hdec fun H1 e1 z1 oq => ?_
  refine kk p e s m args below meth c hx hb hr hlk hml hown hnm hG hs H1 _ cells slots ls (em_W_set (k := k) hW rfl (fun _ _ => rfl) em_ne (fun _ _ => rfl) (fun _ _ => rfl) z1 oq ((em_cl_9 hk).mpr ?_)) (em_lo hlo k _) hcl hsl hl
  rw [e1, arrV_store, em_updV (fun z => Value.int z)]
  show some (arrV _ _ _) = some (arrV _ _ (fun j => Value.int (va_up (em_I hp) k _ k j)))
  rw [va_up_self]
  rfl
theorem em_zast {x i : Int32} {k : Nat} (hok : em_ok μ) (h : em_wI 67 μ pc st = some (x, i, k, nx, t)) (hk : em_k k = 11) (hn : k < em_n hp) (hin : vp_in i (em_ln hp k)) (hx01 : x = 0 ∨ x = 1) (kk : em_EW Γ K μ hp0 fin nx lc t (em_sI hp k (va_up (em_I hp k) i.toNatClampNeg x))) : em_EW Γ K μ hp0 fin pc lc st hp := by
  obtain ⟨⟨a, b, hi⟩, rfl⟩ := em_wI_i h
  obtain ⟨ii, len, hd, hdec, hnx⟩ := hok.dec hi
  subst hnx
  cases hd
  intro p e s m args below meth c hx hb hr hlk hml hown hnm hG hs H locs cells slots ls hW hlo hcl hsl hl
  have hnar : narrow .boolean (.int x) = .int x := by rcases hx01 with rfl | rfl <;> rfl
  refine W.zast hx hb ((em_cl_11 hk).mp (hW.2.2 k hn)) (em_arrZ hG _ _) (fun q => by cases q) (em_inS hin) rfl rfl hdec fun H1 e1 z1 oq => ?_
  refine kk p e s m args below meth c hx hb hr hlk hml hown hnm hG hs H1 _ cells slots ls (em_W_set (k := k) hW rfl (fun _ _ => rfl) em_ne (fun _ _ => rfl) (fun _ _ => rfl) z1 oq ((em_cl_11 hk).mpr ?_)) (em_lo hlo k _) hcl hsl hl
  rw [e1, hnar, arrV_store, em_updV (fun z => Value.int z)]
  show some (arrV _ _ _) = some (arrV _ _ (fun j => Value.int (va_up (em_I hp) k _ k j)))
  rw [va_up_self]
  rfl
theorem em_last {x : Int64} {i : Int32} {k : Nat} (hok : em_ok μ) (h : em_wJ μ pc st = some (x, i, k, nx, t)) (hk : em_k k = 10) (hn : k < em_n hp) (hin : vp_in i (em_ln hp k)) (kk : em_EW Γ K μ hp0 fin nx lc t (em_sJ hp k (va_up (em_J hp k) i.toNatClampNeg x))) : em_EW Γ K μ hp0 fin pc lc st hp := by
  have hii : (∃ a b, em_i μ pc = some (68, a, b, nx)) ∧ st = .long x :: .int i :: .ref k :: t := by
    unfold em_wJ at h
    split at h
    · rename_i o a b n1 hi
      cases hq : Nat.beq o 68 with
      | false => rw [hq] at h; cases h
      | true =>
        rw [hq] at h
        have := Nat.eq_of_beq_eq_true hq
        subst this
        simp only [cond_true] at h
        split at h
        · cases h; exact ⟨⟨_, _, hi⟩, rfl⟩
        · cases h
    · cases h
  obtain ⟨⟨a, b, hi⟩, rfl⟩ := hii
  obtain ⟨ii, len, hd, hdec, hnx⟩ := hok.dec hi
  subst hnx
  cases hd
  intro p e s m args below meth c hx hb hr hlk hml hown hnm hG hs H locs cells slots ls hW hlo hcl hsl hl
  refine W.last hx hb ((em_cl_10 hk).mp (hW.2.2 k hn)) (em_arrJ hG _ _) (fun q => by cases q) (em_inS hin) rfl rfl hdec fun H1 e1 z1 oq => ?_
  refine kk p e s m args below meth c hx hb hr hlk hml hown hnm hG hs H1 _ cells slots ls (em_W_set (k := k) hW rfl (fun _ _ => rfl) (fun _ _ => rfl) em_ne (fun _ _ => rfl) z1 oq ((em_cl_10 hk).mpr ?_)) (em_lo hlo k _) hcl hsl hl
  rw [e1, arrV_store, em_updV (fun z => Value.long z)]
  show some (arrV _ _ _) = some (arrV _ _ (fun j => Value.long (va_up (em_J hp) k _ k j)))
  rw [va_up_self]
  rfl
theorem em_dI_i {op : Nat} {x y : Int32} (h : em_dI op μ pc st = some (y, x, nx, t)) : (∃ a b, em_i μ pc = some (op, a, b, nx)) ∧ st = .int y :: .int x :: t := by
  unfold em_dI at h
  split at h
  · rename_i o a b n1 hi
    cases hq : Nat.beq o op with
    | false => rw [hq] at h; cases h
    | true =>
      rw [hq] at h
      have := Nat.eq_of_beq_eq_true hq
      subst this
      simp only [cond_true] at h
      split at h
      · cases h; exact ⟨⟨_, _, hi⟩, rfl⟩
      · cases h
  · cases h
theorem em_dJ_i {op : Nat} {x y : Int64} (h : em_dJ op μ pc st = some (y, x, nx, t)) : (∃ a b, em_i μ pc = some (op, a, b, nx)) ∧ st = .long y :: .long x :: t := by
  unfold em_dJ at h
  split at h
  · rename_i o a b n1 hi
    cases hq : Nat.beq o op with
    | false => rw [hq] at h; cases h
    | true =>
      rw [hq] at h
      have := Nat.eq_of_beq_eq_true hq
      subst this
      simp only [cond_true] at h
      split at h
      · cases h; exact ⟨⟨_, _, hi⟩, rfl⟩
      · cases h
  · cases h
theorem em_idiv {x y : Int32} (hok : em_ok μ) (h : em_dI 70 μ pc st = some (y, x, nx, t)) (h0 : ¬ y = 0) (kk : em_EW Γ K μ hp0 fin nx lc (.int (x / y) :: t) hp) : em_EW Γ K μ hp0 fin pc lc st hp := by
  obtain ⟨⟨a, b, hi⟩, rfl⟩ := em_dI_i h
  obtain ⟨ii, len, hd, hdec, hnx⟩ := hok.dec hi
  subst hnx
  cases hd
  intro p e s m args below meth c hx hb hr hlk hml hown hnm hG hs H locs cells slots ls hW hlo hcl hsl hl
  exact lv_idiv hx hb hdec h0 (kk p e s m args below meth c hx hb hr hlk hml hown hnm hG hs H locs cells slots ls hW hlo hcl hsl hl)
theorem em_irem {x y : Int32} (hok : em_ok μ) (h : em_dI 71 μ pc st = some (y, x, nx, t)) (h0 : ¬ y = 0) (kk : em_EW Γ K μ hp0 fin nx lc (.int (x - x / y * y) :: t) hp) : em_EW Γ K μ hp0 fin pc lc st hp := by
  obtain ⟨⟨a, b, hi⟩, rfl⟩ := em_dI_i h
  obtain ⟨ii, len, hd, hdec, hnx⟩ := hok.dec hi
  subst hnx
  cases hd
  intro p e s m args below meth c hx hb hr hlk hml hown hnm hG hs H locs cells slots ls hW hlo hcl hsl hl
  exact lv_irem hx hb hdec h0 (kk p e s m args below meth c hx hb hr hlk hml hown hnm hG hs H locs cells slots ls hW hlo hcl hsl hl)
theorem em_ldiv {x y : Int64} (hok : em_ok μ) (h : em_dJ 72 μ pc st = some (y, x, nx, t)) (h0 : ¬ y = 0) (kk : em_EW Γ K μ hp0 fin nx lc (.long (x / y) :: t) hp) : em_EW Γ K μ hp0 fin pc lc st hp := by
  obtain ⟨⟨a, b, hi⟩, rfl⟩ := em_dJ_i h
  obtain ⟨ii, len, hd, hdec, hnx⟩ := hok.dec hi
  subst hnx
  cases hd
  intro p e s m args below meth c hx hb hr hlk hml hown hnm hG hs H locs cells slots ls hW hlo hcl hsl hl
  exact lv_ldiv hx hb hdec h0 (kk p e s m args below meth c hx hb hr hlk hml hown hnm hG hs H locs cells slots ls hW hlo hcl hsl hl)
theorem em_lrem {x y : Int64} (hok : em_ok μ) (h : em_dJ 73 μ pc st = some (y, x, nx, t)) (h0 : ¬ y = 0) (kk : em_EW Γ K μ hp0 fin nx lc (.long (x - x / y * y) :: t) hp) : em_EW Γ K μ hp0 fin pc lc st hp := by
  obtain ⟨⟨a, b, hi⟩, rfl⟩ := em_dJ_i h
  obtain ⟨ii, len, hd, hdec, hnx⟩ := hok.dec hi
  subst hnx
  cases hd
  intro p e s m args below meth c hx hb hr hlk hml hown hnm hG hs H locs cells slots ls hW hlo hcl hsl hl
  exact lv_lrem hx hb hdec h0 (kk p e s m args below meth c hx hb hr hlk hml hown hnm hG hs H locs cells slots ls hW hlo hcl hsl hl)
/-! answers -/
theorem em_iret {v : Int32} {ty : FieldType} (hok : em_ok μ) (h : em_at1 83 μ pc = some (a, nx)) (hrt : em_rt μ = some ty) (hnv : narrow ty (.int v) = .int v) (hf : fin = (some (.int v), hp)) : em_EW Γ K μ hp0 fin pc lc [.int v] hp := by
  obtain ⟨b, hi⟩ := em_at1_i h
  obtain ⟨ii, len, hd, hdec, hnx⟩ := hok.dec hi
  cases hd
  subst hf
  intro p e s m args below meth c hx hb hr hlk hml hown hnm hG hs H locs cells slots ls hW hlo hcl hsl hl
  obtain rfl : cells = em_n hp - em_n hp0 := by omega
  obtain rfl : slots = em_m hp - em_m hp0 := by omega
  exact W.zret hx hb (hr.trans hrt) hnv (fun t ht _ => ⟨rfl, by rw [ht]; exact hW⟩) hlo hdec hlk
theorem em_lret {v : Int64} (hok : em_ok μ) (h : em_at1 84 μ pc = some (a, nx)) (hrt : em_rt μ = some .long) (hf : fin = (some (.long v), hp)) : em_EW Γ K μ hp0 fin pc lc [.long v] hp := by
  obtain ⟨b, hi⟩ := em_at1_i h
  obtain ⟨ii, len, hd, hdec, hnx⟩ := hok.dec hi
  cases hd
  subst hf
  intro p e s m args below meth c hx hb hr hlk hml hown hnm hG hs H locs cells slots ls hW hlo hcl hsl hl
  obtain rfl : cells = em_n hp - em_n hp0 := by omega
  obtain rfl : slots = em_m hp - em_m hp0 := by omega
  exact W.lret hx hb (hr.trans hrt) (fun t ht _ => ⟨rfl, by rw [ht]; exact hW⟩) hlo hdec hlk
theorem em_aret {v : Value} {ty : FieldType} (hok : em_ok μ) (h : em_at1 85 μ pc = some (a, nx)) (hrt : em_rt μ = some ty) (hty : (∃ n, ty = .object n) ∨ ∃ t, ty = .array t) (hv : (∃ r, v = .ref r) ∨ ∃ u, v = .float u) (hf : fin = (some v, hp)) : em_EW Γ K μ hp0 fin pc lc [v] hp := by
  obtain ⟨b, hi⟩ := em_at1_i h
  obtain ⟨ii, len, hd, hdec, hnx⟩ := hok.dec hi
  cases hd
  subst hf
  intro p e s m args below meth c hx hb hr hlk hml hown hnm hG hs H locs cells slots ls hW hlo hcl hsl hl
  obtain rfl : cells = em_n hp - em_n hp0 := by omega
  obtain rfl : slots = em_m hp - em_m hp0 := by omega
  refine W.aret (v := em_v Γ v) hx hb (hr.trans hrt) hty ?_ (fun t ht _ => ⟨rfl, by rw [ht]; exact hW⟩) hlo hdec hlk
  rcases hv with ⟨r, rfl⟩ | ⟨u, rfl⟩
  · exact Or.inr ⟨_, rfl⟩
  · exact Or.inr ⟨_, rfl⟩
theorem em_vret (hok : em_ok μ) (h : em_at1 86 μ pc = some (a, nx)) (hrt : em_rt μ = none) (hf : fin = (none, hp)) : em_EW Γ K μ hp0 fin pc lc [] hp := by
  obtain ⟨b, hi⟩ := em_at1_i h
  obtain ⟨ii, len, hd, hdec, hnx⟩ := hok.dec hi
  cases hd
  subst hf
  intro p e s m args below meth c hx hb hr hlk hml hown hnm hG hs H locs cells slots ls hW hlo hcl hsl hl
  obtain rfl : cells = em_n hp - em_n hp0 := by omega
  obtain rfl : slots = em_m hp - em_m hp0 := by omega
  exact W.vret hx hb (hr.trans hrt) (fun t ht _ => ⟨rfl, by rw [ht]; exact hW⟩) hlo hdec hlk
end EmRules
end
section
/-! FIELDS, NEW CELLS, CALLS -/
theorem em_ap {Γ : em_Cx} {s : State} {args : Array Value} (hG : em_G Γ s) {c : Nat} {r : vw_C} (h : vwCl[c]? = some r) (hnm : ∀ a, a < r.2.2 → ∀ b, b < r.2.2 → a ≠ b → (r.2.1 a).2.1 ≠ (r.2.1 b).2.1) (hty : ∀ k, k < r.2.2 → ∃ ty, parseFieldDescriptor (r.2.1 k).2.2.1 = some ty) : ∀ x y, x < r.2.2 → y < r.2.2 → x ≠ y → ((em_D Γ).2 c) x ≠ ((em_D Γ).2 c) y := by
  intro x y hx hy hne
  obtain ⟨hS, -⟩ := hG.2.1.1 c _ h
  obtain ⟨_, _, _, fa, hia, ea⟩ := hS x hx
  obtain ⟨_, _, _, fb, hib, eb⟩ := hS y hy
  rw [← ea, ← eb]
  obtain ⟨t1, h1⟩ := hty x hx
  obtain ⟨t2, h2⟩ := hty y hy
  refine u_apart (args := args) (em_lays hG h hx) (em_lays hG h hy) hia hib ?_
  rw [(State.fieldFound?_type hia h1).1, (State.fieldFound?_type hib h2).1]
  exact hnm x hx y hy hne
theorem em_nms {c : Nat} {r : vw_C} (h : vwCl[c]? = some r) : ∀ a, a < r.2.2 → ∀ b, b < r.2.2 → a ≠ b → (r.2.1 a).2.1 ≠ (r.2.1 b).2.1 := by
  match c, h with
  | 0, h => cases h; exact nmX0
  | 1, h => cases h; exact nmX1
  | 2, h => cases h; exact nmX2
  | 3, h => cases h; exact nmX3
  | 4, h => cases h; exact nmX4
  | 5, h => cases h; exact nmX5
  | 6, h => cases h; exact nmX6
  | 7, h => cases h; exact nmX7
  | 8, h => cases h; exact nmX8
  | n + 9, h => simp [vwCl] at h
theorem em_tyo {c : Nat} {r : vw_C} (h : vwCl[c]? = some r) : ∀ k, k < r.2.2 → parseFieldDescriptor (r.2.1 k).2.2.1 = some (em_ty c k) := by
  match c, h with
  | 0, h => cases h; exact tyX0_ok
  | 1, h => cases h; exact tyX1_ok
  | 2, h => cases h; exact tyX2_ok
  | 3, h => cases h; exact tyX3_ok
  | 4, h => cases h; exact tyX4_ok
  | 5, h => cases h; exact tyX5_ok
  | 6, h => cases h; exact tyX6_ok
  | 7, h => cases h; exact tyX7_ok
  | 8, h => cases h; exact tyX8_ok
  | n + 9, h => simp [vwCl] at h
def em_pf (μ : em_Me) (pc : Nat) : Option (Nat × Nat × Nat) := match em_i μ pc with
  | some (o, a, _, nx) => bif Nat.beq o 74 then (match em_fl μ a with
    | some (c, j) => some (c, j, nx)
    | none => none) else none
  | none => none
section EmCalls
variable {Γ : em_Cx} {K : Nat} {μ : em_Me} {hp0 : em_Hp} {fin : Option Value × em_Hp} {pc a nx : Nat} {b : Int32} {lc : List (Nat × Value)} {st t : List Value} {hp hp' : em_Hp}
theorem em_put {c j k : Nat} {v : Value} {r : vw_C} (hok : em_ok μ) (h : em_pf μ pc = some (c, j, nx)) (hk : em_k k = c) (hc9 : c < 9) (hn : k < em_n hp) (hr0 : vwCl[c]? = some r) (hfin : (r.2.1 j).2.2.2 = false ∨ ((r.2.1 j).2.2.2 = true ∧ (em_y μ).name = "<init>" ∧ (r.2.1 j).1 = em_own μ))
    (hnar : narrow (em_ty c j) (em_v Γ v) = em_v Γ v) (hfit : fits (em_ty c j) (em_v Γ v) = true) (hn' : em_n hp' = em_n hp) (hm' : em_m hp' = em_m hp) (hd' : ∀ q, em_ln hp' q = em_ln hp q) (hI : ∀ q, q ≠ k → em_I hp' q = em_I hp q) (hJ : ∀ q, q ≠ k → em_J hp' q = em_J hp q) (hR : ∀ q, q ≠ k → em_R hp' q = em_R hp q)
    (hv : ∀ q, em_fv hp' c k q = if q = j then v else em_fv hp c k q) (kk : em_EW Γ K μ hp0 fin nx lc t hp') : em_EW Γ K μ hp0 fin pc lc (v :: .ref k :: t) hp := by
  unfold em_pf at h
  split at h
  case h_2 => cases h
  rename_i o a1 b1 n1 hi
  cases hq : Nat.beq o 74 with
  | false => rw [hq] at h; cases h
  | true =>
    rw [hq] at h
    have e0 := Nat.eq_of_beq_eq_true hq
    subst e0
    simp only [cond_true] at h
    split at h
    case h_2 => cases h
    rename_i c1 j1 hf1
    cases h
    obtain ⟨ii, len, hd, hdec, hnx⟩ := hok.dec hi
    subst hnx
    cases hd
    obtain ⟨r', hr1, hj, hlink⟩ := hok.2.1 _ _ _ hf1
    obtain rfl : r' = r := Option.some.inj (hr1.symm.trans hr0)
    intro p e s m args below meth c0 hx hb hr hlk hml hown hnm hG hs H locs cells slots ls hW hlo hcl hsl hl
    have hnf : em_nf c = r'.2.2 := em_nf_ok hr0
    obtain ⟨cell, g1, g2, g3, g4⟩ := (em_cl_c hk hc9).mp (hW.2.2 k hn)
    obtain ⟨hS, hfc, kC, hkC, hkind⟩ := hG.2.1.1 c r' hr0
    obtain ⟨cf, kf, fi, f, hfi, hfs⟩ := hS j hj
    have hap := em_ap (args := args) hG hr0 (em_nms hr0) (fun k hk => ⟨_, em_tyo hr0 k hk⟩)
    have hlays := em_lays (args := args) hG hr0 hj
    have hst := (u_facts hfc hkC hlays hfi).1
    have fini : ∀ H1 : Heap, H1[em_z Γ + k]? = some (cell.setSlot f.slot (em_v Γ v)) → H1.size = H.size → (∀ q, q ≠ em_z Γ + k → H1[q]? = H[q]?) → em_W Γ hp' H1 := by
      intro H1 e1 z1 oq
      refine em_W_set (k := k) hW hn' (fun q _ => hd' q) hI hJ hR z1 oq ((em_cl_c hk hc9).mpr ?_)
      rw [hfs] at e1
      refine t_OB.to (V := updV (fun j => em_v Γ (em_fv hp c k j)) j (em_v Γ v)) ⟨_, e1, g2, g3, t_set g4 (by rw [hnf]; exact hap) (by rw [hnf]; exact hj) (em_v Γ v)⟩ (fun q _ => ?_)
      rw [hv q]
      by_cases hqj : q = j
      · simp [updV, hqj]
      · simp [updV, hqj]
    rcases hfin with hf0 | ⟨hf0, hf1', hf2⟩
    · have hlay := em_layAt (args := args) hG hr0 hj
      unfold u_lay at hlay
      rw [if_neg (by rw [hf0]; decide)] at hlay
      have h6 := u_store hfc hkC hkind hlay hfi (em_tyo hr0 j hj) hnar hfit
      refine W.putK hx hb (f := f) ⟨hown, hG.1 _ hlink rfl args, ⟨_, _, _, hfi⟩, hst⟩ (by rw [g2]; exact h6) g1 g3 (by rw [hfs]; exact k2_hasslot (g4 j (by rw [hnf]; exact hj))) rfl rfl hdec fun H1 e1 z1 oq => ?_
      exact kk p e s m args below meth c0 hx hb hr hlk hml hown hnm hG hs H1 _ cells slots ls (fini H1 e1 z1 oq) (em_lo hlo k _) (by rw [hn']; exact hcl) (by rw [hm']; exact hsl) hl
    · have hlay := em_layAt (args := args) hG hr0 hj
      unfold u_lay at hlay
      rw [if_pos hf0] at hlay
      have hcf : m.cls = cf := by
        obtain ⟨_, _, c', _, _, _, -, -, hf', -, -, -, hown2, -⟩ := Cond.laysFinal_spec hlay
        have e1 : c' = cf := by have := hfi.symm.trans hf'; simp at this; exact this.1.symm
        rw [hf2] at hown2
        rw [← e1]; exact Option.some.inj (hown.symm.trans hown2)
      have h6 := u_fits hfc hkC hkind (Or.inr hlay) hfi (em_tyo hr0 j hj) hnar hfit
      refine W.putFinK hx hb hown (hG.1 _ hlink rfl args) hfi hst hcf (hnm.trans hf1') (by rw [g2]; exact h6) g1 g3 (by rw [hfs]; exact k2_hasslot (g4 j (by rw [hnf]; exact hj))) rfl rfl hdec fun H1 e1 z1 oq => ?_
      exact kk p e s m args below meth c0 hx hb hr hlk hml hown hnm hG hs H1 _ cells slots ls (fini H1 e1 z1 oq) (em_lo hlo k _) (by rw [hn']; exact hcl) (by rw [hm']; exact hsl) hl
theorem em_putI {c j k : Nat} {x : Int32} {r : vw_C} (hok : em_ok μ) (h : em_pf μ pc = some (c, j, nx)) (hk : em_k k = c) (hc9 : c < 9) (hn : k < em_n hp) (hr0 : vwCl[c]? = some r) (hfin : (r.2.1 j).2.2.2 = false) (ht : em_ty c j = .int) (kk : em_EW Γ K μ hp0 fin nx lc t (em_sI hp k (va_up (em_I hp k) j x))) : em_EW Γ K μ hp0 fin pc lc (.int x :: .ref k :: t) hp := by
  refine em_put (hp' := em_sI hp k (va_up (em_I hp k) j x)) hok h hk hc9 hn hr0 (Or.inl hfin) (by rw [ht]; rfl) (by rw [ht]; rfl) rfl rfl (fun _ => rfl) em_ne (fun _ _ => rfl) (fun _ _ => rfl) (fun q => ?_) kk
  unfold em_fv
  by_cases hq : q = j
  · subst hq
    rw [ht, if_pos rfl]
    simp [em_I, va_up]
  · rw [if_neg hq]
    split
    · simp [em_I, va_up, hq]
    · rfl
theorem em_putR {c j k x : Nat} {r : vw_C} (hok : em_ok μ) (h : em_pf μ pc = some (c, j, nx)) (hk : em_k k = c) (hc9 : c < 9) (hn : k < em_n hp) (hr0 : vwCl[c]? = some r) (hfin : (r.2.1 j).2.2.2 = false ∨ ((r.2.1 j).2.2.2 = true ∧ (em_y μ).name = "<init>" ∧ (r.2.1 j).1 = em_own μ)) (ht : (∃ n, em_ty c j = .object n) ∨ ∃ n, em_ty c j = .array n) (kk : em_EW Γ K μ hp0 fin nx lc t (em_sR hp k (va_up (em_R hp k) j (some x)))) : em_EW Γ K μ hp0 fin pc lc (.ref x :: .ref k :: t) hp := by
  refine em_put (hp' := em_sR hp k (va_up (em_R hp k) j (some x))) hok h hk hc9 hn hr0 hfin (by rcases ht with ⟨n, e⟩ | ⟨n, e⟩ <;> rw [e] <;> rfl) (by rcases ht with ⟨n, e⟩ | ⟨n, e⟩ <;> rw [e] <;> rfl) rfl rfl (fun _ => rfl) (fun _ _ => rfl) (fun _ _ => rfl) em_ne (fun q => ?_) kk
  unfold em_fv
  by_cases hq : q = j
  · subst hq
    rw [if_pos rfl]
    rcases ht with ⟨n, e⟩ | ⟨n, e⟩ <;> rw [e] <;> simp [em_R, va_up, em_rf]
  · rw [if_neg hq]
    split
    · rfl
    · simp [em_R, va_up, hq]
end EmCalls
end
section
/-! CALLS. What the tables say of a call's place: static, instance, constructor; by a plain link or by a nest mate's -/
def em_lk1 (own : String) (idx : Nat) (y : MethodName) : Prop := Cond.methodLink own idx y ∈ lw_tbl ∨ ∃ host, Cond.methodLinkNest own idx y host ∈ lw_tbl
def em_cd (μ : em_Me) : Cond := Cond.code (em_y μ) (em_c μ) (em_nL μ) (em_rt μ)
def em_tg (μ : em_Me) (n : Nat) : Prop := em_cd μ ∈ lw_tbl ∧ Cond.initialized (em_y μ).cls ∈ lw_tbl ∧ ((em_y μ).cls ≠ "java/lang/invoke/MethodHandle" ∧ (em_y μ).cls ≠ "java/lang/invoke/VarHandle") ∧ (parseMethodDescriptor (em_y μ).desc).map (fun d => d.parameters.length) = some n ∧ em_nL μ ≤ 21
def em_tS (μ : em_Me) (n : Nat) : Prop := em_tg μ n ∧ Cond.static (em_y μ) ∈ lw_tbl
def em_tV (μ : em_Me) (n c : Nat) : Prop := em_tg μ n ∧ Cond.instanceMethod (em_y μ) ∈ lw_tbl ∧ ∃ r : vw_C, vwCl[c]? = some r ∧ Cond.selects r.1 (em_y μ) (em_y μ) ∈ lw_tbl
def em_tI (μ : em_Me) (n : Nat) : Prop := em_tg μ n ∧ Cond.instanceMethod (em_y μ) ∈ lw_tbl ∧ (em_y μ).name = "<init>" ∧ em_rt μ = none
theorem em_blind (Γ : em_Cx) (av : List Value) (hp : em_Hp) : FrameBlind (em_Pc Γ av hp) := fun a U g mk h => ⟨h.1, em_G_call h.2.1, h.2.2⟩
theorem em_sums (Γ : em_Cx) (t : List Value) : ((t.map (em_v Γ)).map fun v => v.category).sum = em_cats t := by
  unfold em_cats
  rw [List.map_map]
  congr 1
  apply List.map_congr_left
  intro v _
  exact em_v_cat Γ v
theorem em_rev (Γ : em_Cx) (av t : List Value) : (av.reverse ++ t).map (em_v Γ) = (av.map (em_v Γ)).reverse ++ t.map (em_v Γ) := by simp
section EmInvoke
variable {Γ : em_Cx} {K K' : Nat} {μ μ' : em_Me} {hp0 : em_Hp} {fin : Option Value × em_Hp} {pc a nx n : Nat} {b : Int32} {lc : List (Nat × Value)} {st t av : List Value} {hp hp' : em_Hp} {r : Option Value}
theorem em_goes {p : Program} {e : Env} {s : State} {m : MethodId} {args : Array Value} {below : List Frame} {meth : Method} {c : Code} {a' : Array Value} {H : Heap} {locs : List Loc} {cells slots mc ms : Nat} {ls : Array Slot} {st0 : List Value}
    (hx : p.tables.exec = Jvm.exec) (hb : c.code = em_c μ) (hr : meth.sig.returnType = em_rt μ) (hlk : meth.locks = false) (hml : c.maxLocals = em_nL μ) (hown : s.vm.findClass (em_own μ) = some m.cls) (hnm : meth.name = (em_y μ).name) (hG : em_G Γ s) (hs : s.heap.size = em_z Γ + em_n hp0) (hlo : ∀ q ∈ locs, em_A Γ q.base) (hcl : cells + em_n hp0 = em_n hp) (hsl : slots + em_m hp0 = em_m hp) (hl : lv_has ls (em_nL μ) (em_lv Γ lc)) (h1 : em_n hp + mc = em_n hp') (h2 : em_m hp + ms = em_m hp')
    (hrun : va_Run p (em_l Γ) e (em_rm K (em_n fin.2 - em_n hp0) (em_m fin.2 - em_m hp0)) s m args below meth c H locs cells slots mc ms (F0 m pc ls st0) (t.map (em_v Γ)) (em_Q Γ r hp' a') (em_A Γ))
    (kk : em_EW Γ K μ hp0 fin (pc + 3) lc (r.toList ++ t) hp') : W p (em_l Γ) e (em_rm K (em_n fin.2 - em_n hp0) (em_m fin.2 - em_m hp0)) s m args below meth c H locs cells slots (MQ below (em_Q Γ fin.1 fin.2) args s (em_n fin.2 - em_n hp0) (em_m fin.2 - em_m hp0) (em_A Γ)) (F0 m pc ls st0) := by
  intro T hT X
  obtain ⟨v, st₀, tt, T', L, h0, X', hL, e1, e2, ⟨hv, hW'⟩, stp⟩ := hrun T hT X
  have hv' : v = r.map (em_v Γ) := Outcome.returned.inj hv
  subst hv'
  have k0 := kk p e s m args below meth c hx hb hr hlk hml hown hnm hG hs T'.heap (locs ++ L) (cells + mc) (slots + ms) ls (by rw [e1]; exact hW') (fun q hq => by
    rcases List.mem_append.mp hq with h | h
    · exact hlo q h
    · exact hL q h) (by omega) (by omega) hl
  have es : (r.toList ++ t).map (em_v Γ) = (r.map (em_v Γ)).toList ++ t.map (em_v Γ) := by cases r <;> simp
  rw [es] at k0
  obtain ⟨t2, a1, b1⟩ := k0 T' rfl X'
  exact ⟨t2, stp t2 a1, b1⟩
theorem em_fit {cells slots : Nat} (h1 : em_n hp ≤ em_n hp') (h2 : em_m hp ≤ em_m hp') (f1 : em_n hp' ≤ em_n fin.2) (f2 : em_m hp' ≤ em_m fin.2) (hcl : cells + em_n hp0 = em_n hp) (hsl : slots + em_m hp0 = em_m hp) : cells + (em_n hp' - em_n hp) ≤ (em_rm K (em_n fin.2 - em_n hp0) (em_m fin.2 - em_m hp0)).cells ∧ slots + (em_m hp' - em_m hp) ≤ (em_rm K (em_n fin.2 - em_n hp0) (em_m fin.2 - em_m hp0)).slots := by
  constructor
  · show _ ≤ em_n fin.2 - em_n hp0; omega
  · show _ ≤ em_m fin.2 - em_m hp0; omega
theorem em_tg_cb {s : State} {args : Array Value} {mc ms m1 m2 : Nat} (hG : em_G Γ s) (ht : em_tg μ' n) (hK : K' + 1 ≤ K) (idx : Nat) (hl : Cond.methodLink (em_own μ) idx (em_y μ') ∈ lw_tbl) : CallB (em_rm K m1 m2) s args (em_own μ) idx (em_y μ') (em_c μ') (em_nL μ') (em_rt μ') [em_cd μ'] (em_rm K' mc ms) mc ms n := by
  obtain ⟨t1, t2, t3, t4, t5⟩ := ht
  refine ⟨rfl, rfl, hK, ?_, fun w hw a' U hW => ?_, List.mem_singleton.mpr rfl, hG.1 _ t1 rfl args, hG.1 _ t2 rfl args, t3, fun sig h => ?_, hG.1 _ hl rfl args⟩
  · show 8 + (em_nL μ' + 11) + 40 * K' ≤ 40 * K
    omega
  · rw [List.mem_singleton.mp hw]
    exact (em_G_warm hW hG).1 _ t1 rfl a'
  · rw [h] at t4
    exact (Option.some.inj t4).symm
theorem em_tg_cn {s : State} {args : Array Value} {mc ms m1 m2 : Nat} (hG : em_G Γ s) (ht : em_tg μ' n) (hK : K' + 1 ≤ K) (idx : Nat) {host : String} (hl : Cond.methodLinkNest (em_own μ) idx (em_y μ') host ∈ lw_tbl) : va_CN (em_rm K m1 m2) s args (em_own μ) idx (em_y μ') host (em_c μ') (em_nL μ') (em_rt μ') [em_cd μ'] (em_rm K' mc ms) mc ms n := by
  obtain ⟨t1, t2, t3, t4, t5⟩ := ht
  refine ⟨⟨rfl, rfl, hK, ?_, fun w hw a' U hW => ?_, List.mem_singleton.mpr rfl⟩, hG.1 _ t1 rfl args, hG.1 _ t2 rfl args, t3, fun sig h => ?_, hG.1 _ hl rfl args⟩
  · show 8 + (em_nL μ' + 11) + 40 * K' ≤ 40 * K
    omega
  · rw [List.mem_singleton.mp hw]
    exact (em_G_warm hW hG).1 _ t1 rfl a'
  · rw [h] at t4
    exact (Option.some.inj t4).symm
/-- a static method -/
theorem em_callS (hok : em_ok μ) (h : em_at1 80 μ pc = some (a, nx)) (hlk1 : em_lk1 (em_own μ) a (em_y μ')) (ht : em_tS μ' n) (hM : em_MC Γ K' μ' av hp r hp') (hst : st = av.reverse ++ t) (hn : av.length = n) (hK : K' + 1 ≤ K) (hcat : em_cats t ≤ 8) (f1 : em_n hp' ≤ em_n fin.2) (f2 : em_m hp' ≤ em_m fin.2) (kk : em_EW Γ K μ hp0 fin nx lc (r.toList ++ t) hp') : em_EW Γ K μ hp0 fin pc lc st hp := by
  obtain ⟨b, hi⟩ := em_at1_i h
  obtain ⟨ii, len, hd, hdec, hnx⟩ := hok.dec hi
  subst hnx
  cases hd
  subst hst
  obtain ⟨h1, h2, hMet⟩ := hM
  intro p e s m args below meth c hx hb hr hlk hml hown hnm hG hs H locs cells slots ls hW hlo hcl hsl hl
  have hPre : PreS s H (em_Pc Γ av hp) (av.map (em_v Γ)) := ⟨em_blind Γ av hp, fun U hU hWU => ⟨rfl, em_G_warm hWU hG, by rw [hU]; exact hW⟩⟩
  have hW8 : 2 * (F0 m pc ls ((av.reverse ++ t).map (em_v Γ))).monitorRoom + ((t.map (em_v Γ)).map fun v => v.category).sum ≤ 8 := lv_room (by rw [em_sums]; exact hcat)
  have hlen : (av.map (em_v Γ)).length = n := by rw [List.length_map]; exact hn
  rcases hlk1 with hl1 | ⟨host, hl1⟩
  · exact em_goes hx hb hr hlk hml hown hnm hG hs hlo hcl hsl hl (by omega) (by omega) (va_runS (Ts := []) ⟨hx, hb, hml, hown, fun _ h => by cases h⟩ hMet ⟨em_tg_cb hG ht.1 hK a hl1, hG.1 _ ht.2 rfl args⟩ hPre rfl hlen hl.1 (em_rev Γ av t) hW8 hdec (em_fit h1 h2 f1 f2 hcl hsl)) kk
  · exact em_goes hx hb hr hlk hml hown hnm hG hs hlo hcl hsl hl (by omega) (by omega) (va_runSN (Ts := []) ⟨hx, hb, hml, hown, fun _ h => by cases h⟩ hMet ⟨em_tg_cn hG ht.1 hK a hl1, hG.1 _ ht.2 rfl args, trivial⟩ hPre rfl hlen hl.1 (em_rev Γ av t) hW8 hdec (em_fit h1 h2 f1 f2 hcl hsl)) kk
/-- an instance method of a class of ours, on cell k -/
theorem em_callV {c1 k : Nat} (hok : em_ok μ) (h : em_at1 81 μ pc = some (a, nx)) (hlk1 : em_lk1 (em_own μ) a (em_y μ')) (ht : em_tV μ' n c1) (hc9 : c1 < 9) (hkc : em_k k = c1) (hkn : k < em_n hp) (hM : em_MC Γ K' μ' (.ref k :: av) hp r hp') (hst : st = av.reverse ++ .ref k :: t) (hn : av.length = n) (hK : K' + 1 ≤ K) (hcat : em_cats t ≤ 8) (f1 : em_n hp' ≤ em_n fin.2) (f2 : em_m hp' ≤ em_m fin.2) (kk : em_EW Γ K μ hp0 fin nx lc (r.toList ++ t) hp') : em_EW Γ K μ hp0 fin pc lc st hp := by
  obtain ⟨b, hi⟩ := em_at1_i h
  obtain ⟨ii, len, hd, hdec, hnx⟩ := hok.dec hi
  subst hnx
  cases hd
  subst hst
  obtain ⟨h1, h2, hMet⟩ := hM
  obtain ⟨ht1, ht2, rc, hrc, hsel⟩ := ht
  intro p e s m args below meth c hx hb hr hlk hml hown hnm hG hs H locs cells slots ls hW hlo hcl hsl hl
  have hrecv : ∃ cellB : Cell, H[em_z Γ + k]? = some cellB ∧ cellB.vm.isStatics = false ∧ s.vm.findClass rc.1 = some cellB.cls := by
    obtain ⟨cell, g1, g2, g3, -⟩ := (em_cl_c hkc hc9).mp (hW.2.2 k hkn)
    exact ⟨cell, g1, by rw [g3]; rfl, by rw [g2]; exact (hG.2.1.1 c1 rc hrc).2.1⟩
  have hPre : PreV s H rc.1 (em_z Γ + k) (em_Pc Γ (.ref k :: av) hp) (av.map (em_v Γ)) := ⟨em_blind Γ _ hp, hrecv, fun U hU hWU => ⟨rfl, em_G_warm hWU hG, by rw [hU]; exact hW⟩⟩
  have hW8 : 2 * (F0 m pc ls ((av.reverse ++ .ref k :: t).map (em_v Γ))).monitorRoom + ((t.map (em_v Γ)).map fun v => v.category).sum ≤ 8 := lv_room (by rw [em_sums]; exact hcat)
  have hlen : (av.map (em_v Γ)).length = n := by rw [List.length_map]; exact hn
  have hstk : ((av.reverse ++ .ref k :: t).map (em_v Γ)) = (av.map (em_v Γ)).reverse ++ .ref (em_z Γ + k) :: t.map (em_v Γ) := by rw [em_rev]; rfl
  rcases hlk1 with hl1 | ⟨host, hl1⟩
  · exact em_goes hx hb hr hlk hml hown hnm hG hs hlo hcl hsl hl (by omega) (by omega) (va_runV (Ts := []) (C := rc.1) ⟨hx, hb, hml, hown, fun _ h => by cases h⟩ hMet ⟨em_tg_cb hG ht1 hK a hl1, hG.1 _ ht2 rfl args, hG.1 _ hsel rfl args⟩ hPre rfl hlen hl.1 hstk hW8 hdec (em_fit h1 h2 f1 f2 hcl hsl)) kk
  · exact em_goes hx hb hr hlk hml hown hnm hG hs hlo hcl hsl hl (by omega) (by omega) (va_runVN (Ts := []) (C := rc.1) ⟨hx, hb, hml, hown, fun _ h => by cases h⟩ hMet ⟨em_tg_cn hG ht1 hK a hl1, hG.1 _ ht2 rfl args, hG.1 _ hsel rfl args⟩ hPre rfl hlen hl.1 hstk hW8 hdec (em_fit h1 h2 f1 f2 hcl hsl)) kk
/-- a constructor, on cell k -/
theorem em_callI {k : Nat} (hok : em_ok μ) (h : em_at1 82 μ pc = some (a, nx)) (hlk1 : em_lk1 (em_own μ) a (em_y μ')) (ht : em_tI μ' n) (hM : em_MC Γ K' μ' (.ref k :: av) hp none hp') (hst : st = av.reverse ++ .ref k :: t) (hn : av.length = n) (hK : K' + 1 ≤ K) (hcat : em_cats t ≤ 8) (f1 : em_n hp' ≤ em_n fin.2) (f2 : em_m hp' ≤ em_m fin.2) (kk : em_EW Γ K μ hp0 fin nx lc t hp') : em_EW Γ K μ hp0 fin pc lc st hp := by
  obtain ⟨b, hi⟩ := em_at1_i h
  obtain ⟨ii, len, hd, hdec, hnx⟩ := hok.dec hi
  subst hnx
  cases hd
  subst hst
  obtain ⟨h1, h2, hMet⟩ := hM
  obtain ⟨ht1, ht2, hini, hrt⟩ := ht
  intro p e s m args below meth c hx hb hr hlk hml hown hnm hG hs H locs cells slots ls hW hlo hcl hsl hl
  have hPre : PreS s H (em_Pc Γ (.ref k :: av) hp) (.ref (em_z Γ + k) :: av.map (em_v Γ)) := ⟨em_blind Γ _ hp, fun U hU hWU => ⟨rfl, em_G_warm hWU hG, by rw [hU]; exact hW⟩⟩
  have hW8 : 2 * (F0 m pc ls ((av.reverse ++ .ref k :: t).map (em_v Γ))).monitorRoom + ((t.map (em_v Γ)).map fun v => v.category).sum ≤ 8 := lv_room (by rw [em_sums]; exact hcat)
  have hlen : (av.map (em_v Γ)).length = n := by rw [List.length_map]; exact hn
  have hstk : ((av.reverse ++ .ref k :: t).map (em_v Γ)) = (av.map (em_v Γ)).reverse ++ .ref (em_z Γ + k) :: t.map (em_v Γ) := by rw [em_rev]; rfl
  rcases hlk1 with hl1 | ⟨host, hl1⟩
  · have cb := em_tg_cb (μ := μ) (args := args) (mc := em_n hp' - em_n hp) (ms := em_m hp' - em_m hp) (m1 := em_n fin.2 - em_n hp0) (m2 := em_m fin.2 - em_m hp0) hG ht1 hK a hl1
    rw [hrt] at cb
    exact em_goes (r := none) hx hb hr hlk hml hown hnm hG hs hlo hcl hsl hl (by omega) (by omega) (va_runI (Ts := []) ⟨hx, hb, hml, hown, fun _ h => by cases h⟩ hMet ⟨cb, hini, hG.1 _ ht2 rfl args⟩ hPre rfl hlen hl.1 hstk hW8 hdec (em_fit h1 h2 f1 f2 hcl hsl)) kk
  · have cb := em_tg_cn (μ := μ) (args := args) (mc := em_n hp' - em_n hp) (ms := em_m hp' - em_m hp) (m1 := em_n fin.2 - em_n hp0) (m2 := em_m fin.2 - em_m hp0) hG ht1 hK a hl1
    rw [hrt] at cb
    exact em_goes (r := none) hx hb hr hlk hml hown hnm hG hs hlo hcl hsl hl (by omega) (by omega) (va_runIN (Ts := []) ⟨hx, hb, hml, hown, fun _ h => by cases h⟩ hMet ⟨cb, hini, hG.1 _ ht2 rfl args⟩ hPre rfl hlen hl.1 hstk hW8 hdec (em_fit h1 h2 f1 f2 hcl hsl)) kk
end EmInvoke
end
section
/-! NEW CELLS, COPIES, SWITCHES, THE SCRIPT, THE WORDS -/
theorem em_cats1 {Γ : em_Cx} {t : List Value} : ((t.map (em_v Γ)).map fun v => v.category).sum = em_cats t := em_sums Γ t
theorem em_obj1 : Cond.instanceMethod objectInit ∈ lw_tbl := by decide +kernel
theorem em_obj2 : Cond.code objectInit ⟨#[0xb1]⟩ 1 none ∈ lw_tbl := by decide +kernel
theorem em_tys3 {c : Nat} {r : vw_C} (h : vwCl[c]? = some r) : ∀ j, j < r.2.2 → em_ty c j = .int ∨ (∃ n, em_ty c j = .object n) ∨ ∃ n, em_ty c j = .array n := by
  have key : ∀ c, c < 9 → ∀ j, j < 44 → (match em_ty c j with
    | .int => true
    | .object _ => true
    | .array _ => true
    | _ => false) = true := by decide +kernel
  have hc : c < 9 := by
    have := (List.getElem?_eq_some_iff.mp h).1
    exact this
  have hr : r.2.2 ≤ 44 := by
    rw [← em_nf_ok h]
    rcases (show c = 0 ∨ c = 1 ∨ c = 2 ∨ c = 3 ∨ c = 4 ∨ c = 5 ∨ c = 6 ∨ c = 7 ∨ c = 8 by omega) with rfl | rfl | rfl | rfl | rfl | rfl | rfl | rfl | rfl <;> decide
  intro j hj
  have hk := key c hc j (by omega)
  split at hk
  · exact Or.inl (by assumption)
  · exact Or.inr (Or.inl ⟨_, by assumption⟩)
  · exact Or.inr (Or.inr ⟨_, by assumption⟩)
  · cases hk
section EmCells
variable {Γ : em_Cx} {K : Nat} {μ : em_Me} {hp0 : em_Hp} {fin : Option Value × em_Hp} {pc a nx : Nat} {b : Int32} {lc : List (Nat × Value)} {st t : List Value} {hp hp' : em_Hp}
/-- a heap with one cell more, of N slots: what was there stays -/
def em_gr (hp hp' : em_Hp) (N : Nat) : Prop := em_n hp' = em_n hp + 1 ∧ em_m hp' = em_m hp + N ∧ (∀ j, j < em_n hp → em_ln hp' j = em_ln hp j) ∧ (∀ j, j < em_n hp → em_I hp' j = em_I hp j) ∧ (∀ j, j < em_n hp → em_J hp' j = em_J hp j) ∧ ∀ j, j < em_n hp → em_R hp' j = em_R hp j
theorem em_newa {ty : FieldType} {at1 : ArrayType} {op N : Nat} (hok : em_ok μ) (hop : (op = 76 ∧ at1 = .int ∧ ty = .int) ∨ (op = 77 ∧ at1 = .long ∧ ty = .long) ∨ (op = 78 ∧ at1 = .boolean ∧ ty = .boolean)) (h : em_at1 op μ pc = some (a, nx)) (hgr : em_gr hp hp' N) (hN : N < 100000) (hl0 : em_ln hp' (em_n hp) = N)
    (hkd : (op = 76 ∧ em_k (em_n hp) = 9 ∧ ∀ j, em_I hp' (em_n hp) j = 0) ∨ (op = 77 ∧ em_k (em_n hp) = 10 ∧ ∀ j, em_J hp' (em_n hp) j = 0) ∨ (op = 78 ∧ em_k (em_n hp) = 11 ∧ ∀ j, em_I hp' (em_n hp) j = 0)) (hac : Cond.arrayClass ty ∈ lw_tbl) (f1 : em_n hp' ≤ em_n fin.2) (f2 : em_m hp' ≤ em_m fin.2) (kk : em_EW Γ K μ hp0 fin nx lc (.ref (em_n hp) :: t) hp') : em_EW Γ K μ hp0 fin pc lc (.int (nI N) :: t) hp := by
  obtain ⟨b, hi⟩ := em_at1_i h
  obtain ⟨ii, len, hd, hdec, hnx⟩ := hok.dec hi
  subst hnx
  obtain ⟨q1, q2, q3, q4, q5, q6⟩ := hgr
  have hd2 : ii = .newarray at1 ∧ len = 2 := by rcases hop with ⟨rfl, rfl, rfl⟩ | ⟨rfl, rfl, rfl⟩ | ⟨rfl, rfl, rfl⟩ <;> (cases hd; exact ⟨rfl, rfl⟩)
  obtain ⟨rfl, rfl⟩ := hd2
  have hty : newarray.typeOf at1 = ty := by rcases hop with ⟨rfl, rfl, rfl⟩ | ⟨rfl, rfl, rfl⟩ | ⟨rfl, rfl, rfl⟩ <;> rfl
  have hby : componentBytes ty ≤ 8 := by rcases hop with ⟨rfl, rfl, rfl⟩ | ⟨rfl, rfl, rfl⟩ | ⟨rfl, rfl, rfl⟩ <;> decide
  intro p e s m args below meth c hx hb hr hlk hml hown hnm hG hs H locs cells slots ls hW hlo hcl hsl hl
  refine va_newaK hx hb (atype := at1) (by rw [hty]; exact hG.1 _ hac rfl args) rfl hdec rfl (nI_pos (by omega)) (nI_clamp (by omega)) (by
    rw [hty]
    have := Nat.mul_le_mul (Nat.le_of_lt hN) hby
    omega) (show cells + 1 ≤ em_n fin.2 - em_n hp0 by omega) (show slots + N ≤ em_m fin.2 - em_m hp0 by omega) (h := em_z Γ + em_n hp) hW.1 fun H1 cA e1 z1 o1 hAr hNm => ?_
  refine kk p e s m args below meth c hx hb hr hlk hml hown hnm hG hs H1 locs (cells + 1) (slots + N) ls (em_W_push hW q1 q3 q4 q5 q6 (by rw [z1, hW.1]) (fun q hq => o1 q (by rw [← hW.1]; exact hq)) ?_) hlo (by omega) (by omega) hl
  rcases hop with ⟨rfl, rfl, rfl⟩ | ⟨rfl, rfl, rfl⟩ | ⟨rfl, rfl, rfl⟩
  · rcases hkd with ⟨-, k1, k2⟩ | ⟨h9, -⟩ | ⟨h9, -⟩
    · have hc : cA = em_cI Γ := Option.some.inj (hNm.symm.trans (hG.2.1.2 0 _ rfl).2)
      rw [em_cl_9 k1, e1, hl0, hc]
      congr 2
      funext j
      rw [k2 j]
      rfl
    · cases h9
    · cases h9
  · rcases hkd with ⟨h9, -⟩ | ⟨-, k1, k2⟩ | ⟨h9, -⟩
    · cases h9
    · have hc : cA = em_cJ Γ := Option.some.inj (hNm.symm.trans (hG.2.1.2 1 _ rfl).2)
      rw [em_cl_10 k1, e1, hl0, hc]
      congr 2
      funext j
      rw [k2 j]
      rfl
    · cases h9
  · rcases hkd with ⟨h9, -⟩ | ⟨h9, -⟩ | ⟨-, k1, k2⟩
    · cases h9
    · cases h9
    · have hc : cA = em_cZ Γ := Option.some.inj (hNm.symm.trans (hG.2.1.2 2 _ rfl).2)
      rw [em_cl_11 k1, e1, hl0, hc]
      congr 2
      funext j
      rw [k2 j]
      rfl
theorem em_anew {N : Nat} (hok : em_ok μ) (h : em_at1 79 μ pc = some (a, nx)) (hgr : em_gr hp hp' N) (hN : N < 100000) (hl0 : em_ln hp' (em_n hp) = N) (k1 : em_k (em_n hp) = 12) (k2 : ∀ j, em_R hp' (em_n hp) j = none) (hcl0 : Cond.classLink (em_own μ) a "BeastRoad$Law" ∈ lw_tbl) (f1 : em_n hp' ≤ em_n fin.2) (f2 : em_m hp' ≤ em_m fin.2) (kk : em_EW Γ K μ hp0 fin nx lc (.ref (em_n hp) :: t) hp') : em_EW Γ K μ hp0 fin pc lc (.int (nI N) :: t) hp := by
  obtain ⟨b, hi⟩ := em_at1_i h
  obtain ⟨ii, len, hd, hdec, hnx⟩ := hok.dec hi
  subst hnx
  cases hd
  obtain ⟨q1, q2, q3, q4, q5, q6⟩ := hgr
  intro p e s m args below meth c hx hb hr hlk hml hown hnm hG hs H locs cells slots ls hW hlo hcl hsl hl
  have hcc : (nI N).toNatClampNeg = N := nI_clamp (by omega)
  refine W.anew hx hb hown (hG.1 _ hcl0 rfl args) (va_AO.use hG.2.2.1) rfl hdec rfl (nI_pos (by omega)) (by rw [hcc]; omega) (show cells + 1 ≤ em_n fin.2 - em_n hp0 by omega) (show slots + _ ≤ em_m fin.2 - em_m hp0 by rw [hcc]; omega) fun cA kA comp g1 g2 g3 g4 => ?_
  have hc : cA = em_cL Γ := by
    obtain ⟨_, _, _, _, _, w4⟩ := (hG.2.1.2 3 _ rfl).2
    exact Option.some.inj (g1.symm.trans w4)
  have es : H.size = em_z Γ + em_n hp := hW.1
  rw [hcc]
  have k0 := kk p e s m args below meth c hx hb hr hlk hml hown hnm hG hs (H.push { cls := cA, slots := Array.replicate N .null, vm := .none }) locs (cells + 1) (slots + N) ls (em_W_push hW q1 q3 q4 q5 q6 (by rw [Array.size_push]) (fun q hq => by rw [Array.getElem?_push, if_neg (Nat.ne_of_lt hq)]) (by
    rw [em_cl_12 k1, ← es, Array.getElem?_push_size, arrV_new, hl0, hc]
    congr 2
    funext j
    rw [k2 j]
    rfl)) hlo (by omega) (by omega) hl
  rw [es]
  exact k0
theorem em_new {c1 : Nat} {r : vw_C} (hok : em_ok μ) (h : em_at1 75 μ pc = some (a, nx)) (hr0 : vwCl[c1]? = some r) (hc9 : c1 < 9) (hgr : em_gr hp hp' r.2.2) (k1 : em_k (em_n hp) = c1) (kI : ∀ j, em_I hp' (em_n hp) j = 0) (kR : ∀ j, em_R hp' (em_n hp) j = none) (hcl0 : Cond.classLink (em_own μ) a r.1 ∈ lw_tbl) (hins : Cond.instantiable r.1 r.2.2 ∈ lw_tbl) (hini : Cond.initialized r.1 ∈ lw_tbl) (f1 : em_n hp' ≤ em_n fin.2) (f2 : em_m hp' ≤ em_m fin.2) (kk : em_EW Γ K μ hp0 fin nx lc (.ref (em_n hp) :: t) hp') : em_EW Γ K μ hp0 fin pc lc t hp := by
  obtain ⟨b, hi⟩ := em_at1_i h
  obtain ⟨ii, len, hd, hdec, hnx⟩ := hok.dec hi
  subst hnx
  cases hd
  obtain ⟨q1, q2, q3, q4, q5, q6⟩ := hgr
  intro p e s m args below meth c hx hb hr hlk hml hown hnm hG hs H locs cells slots ls hW hlo hcl hsl hl
  have hKn := hG.2.1.1 c1 r hr0
  refine W.newcK hx hb hown (hG.1 _ hcl0 rfl args) (hG.1 _ hins rfl args) (hG.1 _ hini rfl args) rfl hdec (show cells + 1 ≤ em_n fin.2 - em_n hp0 by omega) (show slots + r.2.2 ≤ em_m fin.2 - em_m hp0 by omega) hKn.2.1 (h := em_z Γ + em_n hp) hW.1 fun H1 kC hkC e1 z1 o1 => ?_
  refine kk p e s m args below meth c hx hb hr hlk hml hown hnm hG hs H1 locs (cells + 1) (slots + r.2.2) ls (em_W_push hW q1 q3 q4 q5 q6 (by rw [z1, hW.1]) (fun q hq => o1 q (by rw [← hW.1]; exact hq)) ?_) hlo (by omega) (by omega) hl
  rw [em_cl_c k1 hc9, em_nf_ok hr0]
  refine (u_born (ws := u_ws r.1 r.2.1 r.2.2) (args := args) (em_ty c1) (fun w hw => ?_) (fun w hw => hw) hKn hkC e1 (em_tyo hr0)).to (fun j hj => ?_)
  · obtain ⟨j, hj, rfl⟩ := List.mem_map.mp hw
    exact em_layAt hG hr0 (List.mem_range.mp hj)
  · unfold em_fv
    rw [kI j, kR j]
    have hcase : em_ty c1 j = .int ∨ (∃ n, em_ty c1 j = .object n) ∨ ∃ n, em_ty c1 j = .array n := em_tys3 hr0 j hj
    rcases hcase with e | ⟨n, e⟩ | ⟨n, e⟩ <;> rw [e] <;> rfl
/-- Object's constructor -/
theorem em_obj {k : Nat} (hok : em_ok μ) (h : em_at1 82 μ pc = some (a, nx)) (hlk0 : Cond.methodLink (em_own μ) a objectInit ∈ lw_tbl) (hK : 1 ≤ K) (hcat : em_cats t ≤ 8) (kk : em_EW Γ K μ hp0 fin nx lc t hp) : em_EW Γ K μ hp0 fin pc lc (.ref k :: t) hp := by
  obtain ⟨b, hi⟩ := em_at1_i h
  obtain ⟨ii, len, hd, hdec, hnx⟩ := hok.dec hi
  subst hnx
  cases hd
  intro p e s m args below meth c hx hb hr hlk hml hown hnm hG hs H locs cells slots ls hW hlo hcl hsl hl
  have hroom : 2 * (F0 m pc ls ((Value.ref k :: t).map (em_v Γ))).monitorRoom + ((t.map (em_v Γ)).map fun v => v.category).sum ≤ 8 := lv_room (by rw [em_sums]; exact hcat)
  refine W.objInit hx hb hown (hG.1 _ hlk0 rfl args) (hG.1 _ em_obj1 rfl args) (hG.1 _ em_obj2 rfl args) rfl (by rw [hml]; exact hl.1) rfl hdec (show 1 ≤ K from hK) (Nat.le_trans (Nat.add_le_add_right hroom 12) (show 8 + 12 ≤ 40 * K by omega)) ?_
  exact kk p e s m args below meth c hx hb hr hlk hml hown hnm hG hs H locs cells slots ls hW hlo hcl hsl hl
theorem em_tsIn {dflt lo hi off : Int} {offs : Array Int} {len tgt : Nat} {x : Int32} (hdec : decode (em_c μ) pc = .ok (.tableswitch dflt lo hi offs, len)) (h1 : ¬ x.toInt < lo) (h2 : ¬ hi < x.toInt) (ho : offs[(x.toInt - lo).toNat]? = some off) (ht : (pc : Int) + off = (tgt : Int)) (kk : em_EW Γ K μ hp0 fin tgt lc t hp) : em_EW Γ K μ hp0 fin pc lc (.int x :: t) hp := by
  intro p e s m args below meth c hx hb hr hlk hml hown hnm hG hs H locs cells slots ls hW hlo hcl hsl hl
  exact lv_tableIn hx hb hdec h1 h2 ho ht (kk p e s m args below meth c hx hb hr hlk hml hown hnm hG hs H locs cells slots ls hW hlo hcl hsl hl)
theorem em_tsOut {dflt lo hi : Int} {offs : Array Int} {len tgt : Nat} {x : Int32} (hdec : decode (em_c μ) pc = .ok (.tableswitch dflt lo hi offs, len)) (h1 : x.toInt < lo ∨ hi < x.toInt) (ht : (pc : Int) + dflt = (tgt : Int)) (kk : em_EW Γ K μ hp0 fin tgt lc t hp) : em_EW Γ K μ hp0 fin pc lc (.int x :: t) hp := by
  intro p e s m args below meth c hx hb hr hlk hml hown hnm hG hs H locs cells slots ls hW hlo hcl hsl hl
  exact lv_tableOut hx hb hdec h1 ht (kk p e s m args below meth c hx hb hr hlk hml hown hnm hG hs H locs cells slots ls hW hlo hcl hsl hl)
/-- the script's numbers, and how many -/
theorem em_sld {i : Int32} (hok : em_ok μ) (h : em_at1 62 μ pc = some (a, nx)) (hin : vp_in i (em_L Γ)) (kk : em_EW Γ K μ hp0 fin nx lc (.int (em_s Γ i.toNatClampNeg) :: t) hp) : em_EW Γ K μ hp0 fin pc lc (.int i :: .float 0 :: t) hp := by
  obtain ⟨b, hi⟩ := em_at1_i h
  obtain ⟨ii, len, hd, hdec, hnx⟩ := hok.dec hi
  subst hnx
  cases hd
  intro p e s m args below meth c hx hb hr hlk hml hown hnm hG hs H locs cells slots ls hW hlo hcl hsl hl
  obtain ⟨-, g0, g1, ⟨scr, w1, w2, w3, w4, w5⟩, -⟩ := hG.2.2
  exact W.iald (v := .int (em_s Γ i.toNatClampNeg)) hx hb (a := em_x Γ 0) (by rw [hW.2.1 _ g1]; exact w1) w2 w3 (by rw [w4]; exact hin) (w5 _ (Nat.not_le.mp fun q => hin (Or.inr q))) rfl rfl hdec (kk p e s m args below meth c hx hb hr hlk hml hown hnm hG hs H locs cells slots ls hW hlo hcl hsl hl)
theorem em_slen (hok : em_ok μ) (h : em_at1 34 μ pc = some (a, nx)) (kk : em_EW Γ K μ hp0 fin nx lc (.int (nI (em_L Γ)) :: t) hp) : em_EW Γ K μ hp0 fin pc lc (.float 0 :: t) hp := by
  obtain ⟨b, hi⟩ := em_at1_i h
  obtain ⟨ii, len, hd, hdec, hnx⟩ := hok.dec hi
  subst hnx
  cases hd
  intro p e s m args below meth c hx hb hr hlk hml hown hnm hG hs H locs cells slots ls hW hlo hcl hsl hl
  obtain ⟨-, g0, g1, ⟨scr, w1, w2, w3, w4, w5⟩, -⟩ := hG.2.2
  exact W.alen (n := nI (em_L Γ)) hx hb (a := em_x Γ 0) (by rw [hW.2.1 _ g1]; exact w1) w2 (by rw [w4]; rfl) rfl rfl hdec (kk p e s m args below meth c hx hb hr hlk hml hown hnm hG hs H locs cells slots ls hW hlo hcl hsl hl)
/-- a word -/
theorem em_word {i : Nat} (hok : em_ok μ) (h : em_at1 35 μ pc = some (a, nx)) (hi6 : i < 6) (ho : (em_own μ = "BeastRoad$Tape" ∧ a = em_ti i) ∨ (em_own μ = "BeastRoadModel" ∧ a = em_tm i)) {u : UInt32} (hu : u.toNat = 1 + i) (kk : em_EW Γ K μ hp0 fin nx lc (.float u :: st) hp) : em_EW Γ K μ hp0 fin pc lc st hp := by
  obtain ⟨b, hi⟩ := em_at1_i h
  obtain ⟨ii, len, hd, hdec, hnx⟩ := hok.dec hi
  subst hnx
  cases hd
  intro p e s m args below meth c hx hb hr hlk hml hown hnm hG hs H locs cells slots ls hW hlo hcl hsl hl
  obtain ⟨-, -, -, -, -, -, -, g7⟩ := hG.2.2
  have k0 := kk p e s m args below meth c hx hb hr hlk hml hown hnm hG hs H locs cells slots ls hW hlo hcl hsl hl
  have e0 : em_v Γ (.float u) = .ref (em_x Γ (1 + i)) := by show Value.ref (em_x Γ u.toNat) = _; rw [hu]
  rw [List.map_cons, e0] at k0
  rcases ho with ⟨o1, rfl⟩ | ⟨o1, rfl⟩
  · rw [o1] at hown
    exact va_ldcS hx hb hown (g7 i hi6).1 hdec k0
  · rw [o1] at hown
    exact va_ldcS hx hb hown (g7 i hi6).2 hdec k0
/-- a reference into the row of laws -/
theorem em_aast {x k c1 : Nat} {i : Int32} {r : vw_C} (hok : em_ok μ) (h : em_at1 69 μ pc = some (a, nx)) (hk : em_k k = 12) (hn : k < em_n hp) (hin : vp_in i (em_ln hp k)) (hr0 : vwCl[c1]? = some r) (hr1 : r.1 = "BeastRoad$Law") (hx0 : em_k x = c1) (hc9 : c1 < 9) (hxn : x < em_n hp) (kk : em_EW Γ K μ hp0 fin nx lc t (em_sR hp k (va_up (em_R hp k) i.toNatClampNeg (some x)))) : em_EW Γ K μ hp0 fin pc lc (.ref x :: .int i :: .ref k :: t) hp := by
  obtain ⟨b, hi⟩ := em_at1_i h
  obtain ⟨ii, len, hd, hdec, hnx⟩ := hok.dec hi
  subst hnx
  cases hd
  intro p e s m args below meth c hx hb hr hlk hml hown hnm hG hs H locs cells slots ls hW hlo hcl hsl hl
  have hlt : i.toNatClampNeg < em_ln hp k := Nat.not_le.mp fun q => hin (Or.inr q)
  have h0 : ¬ i < 0 := fun q => hin (Or.inl q)
  obtain ⟨cellV, g1, g2, g3, -⟩ := (em_cl_c hx0 hc9).mp (hW.2.2 x hxn)
  have hcls := (hG.2.1.1 c1 r hr0).2
  obtain ⟨kA, comp, k1, k2, k3, -⟩ := (hG.2.1.2 3 _ rfl).2
  rw [hr1] at hcls
  have hcomp : comp = (em_D Γ).1 c1 := Option.some.inj (k3.symm.trans hcls.1)
  subst hcomp
  obtain ⟨kC, hkC, -⟩ := id hcls.2
  refine W.aast hx hb ((em_cl_12 hk).mp (hW.2.2 k hn)) (fun q h => by cases h) (fun h => by cases h) k1 k2 rfl hkC ⟨h0, by rw [arrV_size]; exact hlt⟩ g1 (fun q h => by rw [g3] at h; cases h) (by rw [g2]; exact hkC) (by rw [g2]; exact va_assign hcls) rfl rfl hdec fun H1 e1 z1 oq => ?_
  refine kk p e s m args below meth c hx hb hr hlk hml hown hnm hG hs H1 _ cells slots ls (em_W_set (k := k) hW rfl (fun _ _ => rfl) (fun _ _ => rfl) (fun _ _ => rfl) em_ne z1 oq ((em_cl_12 hk).mpr ?_)) (em_lo hlo k _) hcl hsl hl
  rw [e1, arrV_store]
  show some (arrV _ _ _) = some (arrV _ _ (fun j => em_v Γ (em_rf (va_up (em_R hp) k _ k j))))
  rw [va_up_self]
  congr 2
  funext j
  by_cases hj : j = i.toNatClampNeg
  · simp [updV, va_up, hj, em_rf, em_v]
  · simp [updV, va_up, hj]
end EmCells
end
section
/-! System.arraycopy between two arrays of ints, or of longs -/
theorem em_nat (z : Int32) (hz : ¬ z < 0) : z.toInt = (z.toNatClampNeg : Int) := by
  have hz0 : (0 : Int) ≤ z.toInt := by
    have := Int32.not_lt.mp hz
    simpa using Int32.le_iff_toInt_le.mp this
  show z.toInt = ((z.toInt.toNat : Nat) : Int)
  omega
theorem em_ac1 : Cond.native arraycopyName ∈ lw_tbl := by decide +kernel
theorem em_ac2 : Cond.static arraycopyName ∈ lw_tbl := by decide +kernel
theorem em_ac3 : Cond.initialized "java/lang/System" ∈ lw_tbl := by decide +kernel
section EmCopy
variable {Γ : em_Cx} {K : Nat} {μ : em_Me} {hp0 : em_Hp} {fin : Option Value × em_Hp} {pc a nx : Nat} {b : Int32} {lc : List (Nat × Value)} {st t : List Value} {hp hp' : em_Hp}
theorem em_locs {Γ : em_Cx} {locs : List Loc} {k : Nat} (h : ∀ q ∈ locs, em_A Γ q.base) (vs : List (Value × Nat)) (d : Nat) : ∀ q ∈ locs ++ vs.map (fun q => (⟨em_z Γ + k, d + q.2⟩ : Loc)), em_A Γ q.base := by
  intro q hq
  rcases List.mem_append.mp hq with h1 | h1
  · exact h q h1
  · obtain ⟨z, -, rfl⟩ := List.mem_map.mp h1
    exact Nat.le_add_right _ _
theorem em_copyI {k0 k1 : Nat} {sp dp n : Int32} (hok : em_ok μ) (h : em_at1 80 μ pc = some (a, nx)) (hl0 : Cond.methodLink (em_own μ) a arraycopyName ∈ lw_tbl) (hk0 : em_k k0 = 9) (hk1 : em_k k1 = 9) (hn0 : k0 < em_n hp) (hn1 : k1 < em_n hp) (h1 : ¬ sp < 0) (h2 : ¬ dp < 0) (h3 : ¬ n < 0) (h4 : sp.toNatClampNeg + n.toNatClampNeg ≤ em_ln hp k0) (h5 : dp.toNatClampNeg + n.toNatClampNeg ≤ em_ln hp k1) (hK : 2 ≤ K) (hcat : em_cats t ≤ 8)
    (kk : em_EW Γ K μ hp0 fin nx lc t (em_sI hp k1 (va_cpy (em_I hp k0) (em_I hp k1) sp.toNatClampNeg dp.toNatClampNeg n.toNatClampNeg))) : em_EW Γ K μ hp0 fin pc lc (.int n :: .int dp :: .ref k1 :: .int sp :: .ref k0 :: t) hp := by
  obtain ⟨b, hi⟩ := em_at1_i h
  obtain ⟨ii, len, hd, hdec, hnx⟩ := hok.dec hi
  subst hnx
  cases hd
  intro p e s m args below meth c hx hb hr hlk hml hown hnm hG hs H locs cells slots ls hW hlo hcl hsl hl
  have hc0 := (em_cl_9 hk0).mp (hW.2.2 k0 hn0)
  have hc1 := (em_cl_9 hk1).mp (hW.2.2 k1 hn1)
  obtain ⟨-, kI, hkI, cmp, hkk⟩ := em_arrI hG (em_ln hp k0) (fun j => .int (em_I hp k0 j))
  intro T hT X
  obtain ⟨vm', X', step⟩ := X.arraycopy hx hown (hG.1 _ hl0 rfl args) (hG.1 _ em_ac1 rfl args) (hG.1 _ em_ac2 rfl args) (hG.1 _ em_ac3 rfl args) (cs := arrV (em_cI Γ) (em_ln hp k0) (fun j => .int (em_I hp k0 j))) (cd := arrV (em_cI Γ) (em_ln hp k1) (fun j => .int (em_I hp k1 j))) (srcPos := sp) (destPos := dp) (n := n) (by rw [hT]; exact hc0) (by rw [hT]; exact hc1)
    (fun _ h => by cases h) (fun _ h => by cases h) (fun h => by cases h) (fun h => by cases h) hkI hkI hkk hkk (by rfl) h1 h2 h3
    (by rw [em_nat sp h1, em_nat n h3, arrV_size]; omega) (by rw [em_nat dp h2, em_nat n h3, arrV_size]; omega)
    (fun vm₁ _ i hi => by
      have e : (arrV (em_cI Γ) (em_ln hp k0) (fun j => .int (em_I hp k0 j))).slots.getD (sp.toNatClampNeg + i) .null = .int (em_I hp k0 (sp.toNatClampNeg + i)) := by
        rw [Array.getD_eq_getD_getElem?, arrV_read _ _ (by omega)]
        rfl
      exact ⟨by rw [e]; rfl, by rw [e]; exact trivial⟩)
    (g := F0 m pc ls ((Value.int n :: .int dp :: .ref k1 :: .int sp :: .ref k0 :: t).map (em_v Γ))) rfl (by rw [hml]; exact hl.1) (rest := t.map (em_v Γ)) rfl (by rw [hb]; exact hdec) (show 1 ≤ K by omega)
    (by
      have h8 : 2 * (F0 m pc ls ((Value.int n :: .int dp :: .ref k1 :: .int sp :: .ref k0 :: t).map (em_v Γ))).monitorRoom + ((t.map (em_v Γ)).map fun v => v.category).sum ≤ 8 := lv_room (by rw [em_sums]; exact hcat)
      have h9 : nativeFrameWords "java/lang/System" "arraycopy" 5 ≤ 40 := by decide +kernel
      show _ ≤ 40 * K
      omega)
  have e1 : copied (arrV (em_cI Γ) (em_ln hp k0) (fun j => .int (em_I hp k0 j))) (arrV (em_cI Γ) (em_ln hp k1) (fun j => .int (em_I hp k1 j))) sp dp n = arrV (em_cI Γ) (em_ln hp k1) (fun j => .int (va_cpy (em_I hp k0) (em_I hp k1) sp.toNatClampNeg dp.toNatClampNeg n.toNatClampNeg j)) := va_copied (fun z => .int z) _ _ _ _ h4
  rw [e1] at X' step
  have hlt : em_z Γ + k1 < H.size := (Array.getElem?_eq_some_iff.mp hc1).1
  generalize hNC : arrV (em_cI Γ) (em_ln hp k1) (fun j => .int (va_cpy (em_I hp k0) (em_I hp k1) sp.toNatClampNeg dp.toNatClampNeg n.toNatClampNeg j)) = NC at X' step
  have hheap : ((T.setVm vm').setCell (em_z Γ + k1) NC).heap = H.setIfInBounds (em_z Γ + k1) NC := by rw [← hT]; rfl
  obtain ⟨t2, a1, b1⟩ := kk p e s m args below meth c hx hb hr hlk hml hown hnm hG hs (H.setIfInBounds (em_z Γ + k1) NC) _ cells slots ls (em_W_set (k := k1) hW rfl (fun _ _ => rfl) em_ne (fun _ _ => rfl) (fun _ _ => rfl) (by simp) (fun q hq => by simp [Array.getElem?_setIfInBounds, Ne.symm hq]) ((em_cl_9 hk1).mpr (by
      have e3 : (H.setIfInBounds (em_z Γ + k1) NC)[em_z Γ + k1]? = some NC := by simp [Array.getElem?_setIfInBounds, hlt]
      rw [e3, ← hNC]
      show some (arrV _ _ _) = some (arrV _ _ (fun j => Value.int (va_up (em_I hp) k1 _ k1 j)))
      rw [va_up_self]
      rfl))) (em_locs hlo _ _) hcl hsl hl _ hheap X'
  exact ⟨t2, step t2 a1, b1⟩
theorem em_copyJ {k0 k1 : Nat} {sp dp n : Int32} (hok : em_ok μ) (h : em_at1 80 μ pc = some (a, nx)) (hl0 : Cond.methodLink (em_own μ) a arraycopyName ∈ lw_tbl) (hk0 : em_k k0 = 10) (hk1 : em_k k1 = 10) (hn0 : k0 < em_n hp) (hn1 : k1 < em_n hp) (h1 : ¬ sp < 0) (h2 : ¬ dp < 0) (h3 : ¬ n < 0) (h4 : sp.toNatClampNeg + n.toNatClampNeg ≤ em_ln hp k0) (h5 : dp.toNatClampNeg + n.toNatClampNeg ≤ em_ln hp k1) (hK : 2 ≤ K) (hcat : em_cats t ≤ 8)
    (kk : em_EW Γ K μ hp0 fin nx lc t (em_sJ hp k1 (va_cpy (em_J hp k0) (em_J hp k1) sp.toNatClampNeg dp.toNatClampNeg n.toNatClampNeg))) : em_EW Γ K μ hp0 fin pc lc (.int n :: .int dp :: .ref k1 :: .int sp :: .ref k0 :: t) hp := by
  obtain ⟨b, hi⟩ := em_at1_i h
  obtain ⟨ii, len, hd, hdec, hnx⟩ := hok.dec hi
  subst hnx
  cases hd
  intro p e s m args below meth c hx hb hr hlk hml hown hnm hG hs H locs cells slots ls hW hlo hcl hsl hl
  have hc0 := (em_cl_10 hk0).mp (hW.2.2 k0 hn0)
  have hc1 := (em_cl_10 hk1).mp (hW.2.2 k1 hn1)
  obtain ⟨-, kI, hkI, cmp, hkk⟩ := em_arrJ hG (em_ln hp k0) (fun j => .long (em_J hp k0 j))
  intro T hT X
  obtain ⟨vm', X', step⟩ := X.arraycopy hx hown (hG.1 _ hl0 rfl args) (hG.1 _ em_ac1 rfl args) (hG.1 _ em_ac2 rfl args) (hG.1 _ em_ac3 rfl args) (cs := arrV (em_cJ Γ) (em_ln hp k0) (fun j => .long (em_J hp k0 j))) (cd := arrV (em_cJ Γ) (em_ln hp k1) (fun j => .long (em_J hp k1 j))) (srcPos := sp) (destPos := dp) (n := n) (by rw [hT]; exact hc0) (by rw [hT]; exact hc1)
    (fun _ h => by cases h) (fun _ h => by cases h) (fun h => by cases h) (fun h => by cases h) hkI hkI hkk hkk (by rfl) h1 h2 h3
    (by rw [em_nat sp h1, em_nat n h3, arrV_size]; omega) (by rw [em_nat dp h2, em_nat n h3, arrV_size]; omega)
    (fun vm₁ _ i hi => by
      have e : (arrV (em_cJ Γ) (em_ln hp k0) (fun j => .long (em_J hp k0 j))).slots.getD (sp.toNatClampNeg + i) .null = .long (em_J hp k0 (sp.toNatClampNeg + i)) := by
        rw [Array.getD_eq_getD_getElem?, arrV_read _ _ (by omega)]
        rfl
      exact ⟨by rw [e]; rfl, by rw [e]; exact trivial⟩)
    (g := F0 m pc ls ((Value.int n :: .int dp :: .ref k1 :: .int sp :: .ref k0 :: t).map (em_v Γ))) rfl (by rw [hml]; exact hl.1) (rest := t.map (em_v Γ)) rfl (by rw [hb]; exact hdec) (show 1 ≤ K by omega)
    (by
      have h8 : 2 * (F0 m pc ls ((Value.int n :: .int dp :: .ref k1 :: .int sp :: .ref k0 :: t).map (em_v Γ))).monitorRoom + ((t.map (em_v Γ)).map fun v => v.category).sum ≤ 8 := lv_room (by rw [em_sums]; exact hcat)
      have h9 : nativeFrameWords "java/lang/System" "arraycopy" 5 ≤ 40 := by decide +kernel
      show _ ≤ 40 * K
      omega)
  have e1 : copied (arrV (em_cJ Γ) (em_ln hp k0) (fun j => .long (em_J hp k0 j))) (arrV (em_cJ Γ) (em_ln hp k1) (fun j => .long (em_J hp k1 j))) sp dp n = arrV (em_cJ Γ) (em_ln hp k1) (fun j => .long (va_cpy (em_J hp k0) (em_J hp k1) sp.toNatClampNeg dp.toNatClampNeg n.toNatClampNeg j)) := va_copied (fun z => .long z) _ _ _ _ h4
  rw [e1] at X' step
  have hlt : em_z Γ + k1 < H.size := (Array.getElem?_eq_some_iff.mp hc1).1
  generalize hNC : arrV (em_cJ Γ) (em_ln hp k1) (fun j => .long (va_cpy (em_J hp k0) (em_J hp k1) sp.toNatClampNeg dp.toNatClampNeg n.toNatClampNeg j)) = NC at X' step
  have hheap : ((T.setVm vm').setCell (em_z Γ + k1) NC).heap = H.setIfInBounds (em_z Γ + k1) NC := by rw [← hT]; rfl
  obtain ⟨t2, a1, b1⟩ := kk p e s m args below meth c hx hb hr hlk hml hown hnm hG hs (H.setIfInBounds (em_z Γ + k1) NC) _ cells slots ls (em_W_set (k := k1) hW rfl (fun _ _ => rfl) (fun _ _ => rfl) em_ne (fun _ _ => rfl) (by simp) (fun q hq => by simp [Array.getElem?_setIfInBounds, Ne.symm hq]) ((em_cl_10 hk1).mpr (by
      have e3 : (H.setIfInBounds (em_z Γ + k1) NC)[em_z Γ + k1]? = some NC := by simp [Array.getElem?_setIfInBounds, hlt]
      rw [e3, ← hNC]
      show some (arrV _ _ _) = some (arrV _ _ (fun j => Value.long (va_up (em_J hp) k1 _ k1 j)))
      rw [va_up_self]
      rfl))) (em_locs hlo _ _) hcl hsl hl _ hheap X'
  exact ⟨t2, step t2 a1, b1⟩
end EmCopy
end
section
/-! THE METHODS' TABLES: how they are checked -/
def em_tr {α : Type} (N : Nat) (f : Nat → Option α) : Nat → Option α := fun pc => bif Nat.blt pc N then f pc else none
theorem em_tr_none {α : Type} {N : Nat} {f : Nat → Option α} {pc : Nat} (h : N ≤ pc) : em_tr N f pc = none := by
  have h1 : Nat.blt pc N = false := by
    cases hb : Nat.blt pc N with
    | false => rfl
    | true => have := Nat.le_of_ble_eq_true hb; omega
  simp [em_tr, h1]
theorem em_in {k : Nat} {w : Cond} (h : tables_1[k]? = some w) : w ∈ lw_tbl := List.mem_append_right _ (List.mem_of_getElem? h)
def em_ck1 (own : String) (c : ByteArray) (q : Nat × Nat × Int32 × Nat) (pc : Nat) : Bool := match em_dec q.1 q.2.1 q.2.2.1 pc with
  | some (i, len) => decide (decode c pc = .ok (i, len)) && (decide (q.2.2.2 = pc + len) && (!decide (q.1 = 37) || decide (Cond.constantLong own q.2.1 (-1) ∈ lw_tbl)))
  | none => false
def em_ckR (own : String) (c : ByteArray) (f : Nat → Option (Nat × Nat × Int32 × Nat)) (lo n : Nat) : Bool := (List.range n).all (fun i => match f (lo + i) with
  | some q => em_ck1 own c q (lo + i)
  | none => true)
theorem em_ckR_at {own : String} {c : ByteArray} {f : Nat → Option (Nat × Nat × Int32 × Nat)} {lo n : Nat} (h : em_ckR own c f lo n = true) {pc : Nat} (h1 : lo ≤ pc) (h2 : pc < lo + n) {q : Nat × Nat × Int32 × Nat} (hq : f pc = some q) : em_ck1 own c q pc = true := by
  have h3 := List.all_eq_true.mp h (pc - lo) (List.mem_range.mpr (by omega))
  rw [show lo + (pc - lo) = pc by omega, hq] at h3
  exact h3
def em_ckF (own : String) (f : Nat → Option (Nat × Nat)) (N : Nat) : Bool := (List.range N).all (fun idx => match f idx with
  | some (c, j) => (match vwCl[c]? with
    | some r => decide (j < r.2.2) && decide (Cond.fieldLink own idx (r.2.1 j).1 (r.2.1 j).2.1 (r.2.1 j).2.2.1 ∈ lw_tbl)
    | none => false)
  | none => true)
theorem em_okF_of {own : String} {f : Nat → Option (Nat × Nat)} {N : Nat} (h : em_ckF own (em_tr N f) N = true) : ∀ idx c j, em_tr N f idx = some (c, j) → em_okF own idx c j := by
  intro idx c j hf
  by_cases hN : idx < N
  · have h3 := List.all_eq_true.mp h idx (List.mem_range.mpr hN)
    rw [hf] at h3
    simp only at h3
    split at h3
    · rename_i r hr
      rw [Bool.and_eq_true, decide_eq_true_eq, decide_eq_true_eq] at h3
      exact ⟨r, hr, h3.1, h3.2⟩
    · cases h3
  · rw [em_tr_none (by omega)] at hf
    cases hf
def em_ckK (own : String) (f : Nat → Option Int32) (N : Nat) : Bool := (List.range N).all (fun idx => match f idx with
  | some v => decide (Cond.constant own idx v ∈ lw_tbl)
  | none => true)
theorem em_okK_of {own : String} {f : Nat → Option Int32} {N : Nat} (h : em_ckK own (em_tr N f) N = true) : ∀ idx v, em_tr N f idx = some v → Cond.constant own idx v ∈ lw_tbl := by
  intro idx v hf
  by_cases hN : idx < N
  · have h3 := List.all_eq_true.mp h idx (List.mem_range.mpr hN)
    rw [hf] at h3
    exact of_decide_eq_true h3
  · rw [em_tr_none (by omega)] at hf
    cases hf
theorem em_okM {μ : em_Me} {N : Nat} {f : Nat → Option (Nat × Nat × Int32 × Nat)} (he : em_i μ = em_tr N f) (h : ∀ pc, pc < N → ∀ q, em_tr N f pc = some q → em_ck1 (em_own μ) (em_c μ) q pc = true) (hF : ∀ idx c j, em_fl μ idx = some (c, j) → em_okF (em_own μ) idx c j) (hK : ∀ idx v, em_kl μ idx = some v → Cond.constant (em_own μ) idx v ∈ lw_tbl) : em_ok μ := by
  have key : ∀ pc op a b nx, em_i μ pc = some (op, a, b, nx) → em_ck1 (em_own μ) (em_c μ) (op, a, b, nx) pc = true := by
    intro pc op a b nx hi
    rw [he] at hi
    by_cases hN : pc < N
    · exact h pc hN _ hi
    · rw [em_tr_none (by omega)] at hi; cases hi
  refine ⟨⟨N, fun pc hpc => by rw [he]; exact em_tr_none hpc, fun pc hpc op a b nx hi => ?_⟩, hF, hK, fun pc a b nx hi => ?_⟩
  · have h1 := key pc op a b nx hi
    unfold em_ck1 at h1
    split at h1
    · rename_i i len hd
      rw [Bool.and_eq_true, Bool.and_eq_true, decide_eq_true_eq, decide_eq_true_eq] at h1
      exact ⟨i, len, hd, h1.1, h1.2.1⟩
    · cases h1
  · have h1 := key pc 37 a b nx hi
    unfold em_ck1 at h1
    split at h1
    · rw [Bool.and_eq_true, Bool.and_eq_true] at h1
      have h2 := h1.2.2
      simp only [decide_true, Bool.not_true, Bool.false_or, decide_eq_true_eq] at h2
      exact h2
    · cases h1

def fX0 : Nat → Option (Nat × Nat) := em_tr 23 (fun i => (bif Nat.blt i 18 then (bif Nat.blt i 15 then (bif Nat.beq i 9 then some (0, 0) else none) else (bif Nat.beq i 15 then some (0, 2) else none)) else (bif Nat.blt i 22 then (bif Nat.beq i 18 then some (0, 3) else none) else (bif Nat.beq i 22 then some (0, 1) else none))))
theorem fX0_ok : ∀ idx c j, fX0 idx = some (c, j) → em_okF RX0 idx c j := em_okF_of (by decide +kernel)
def qX0 : Nat → Option Int32 := em_tr 43 (fun i => (bif Nat.blt i 42 then (bif Nat.beq i 29 then some (-1000000) else none) else (bif Nat.beq i 42 then some (60000) else none)))
theorem qX0_ok : ∀ idx v, qX0 idx = some v → Cond.constant RX0 idx v ∈ lw_tbl := em_okK_of (by decide +kernel)
def fX1 : Nat → Option (Nat × Nat) := em_tr 68 (fun i => (bif Nat.blt i 31 then (bif Nat.blt i 21 then (bif Nat.blt i 15 then (bif Nat.beq i 9 then some (1, 1) else none) else (bif Nat.blt i 18 then (bif Nat.beq i 15 then some (1, 2) else none) else (bif Nat.beq i 18 then some (1, 3) else none))) else (bif Nat.blt i 24 then (bif Nat.beq i 21 then some (1, 4) else none) else (bif Nat.blt i 28 then (bif Nat.beq i 24 then some (1, 6) else none) else (bif Nat.beq i 28 then some (1, 8) else none)))) else (bif Nat.blt i 58 then (bif Nat.blt i 40 then (bif Nat.beq i 31 then some (1, 11) else none) else (bif Nat.blt i 51 then (bif Nat.beq i 40 then some (1, 0) else none) else (bif Nat.beq i 51 then some (1, 5) else none))) else (bif Nat.blt i 64 then (bif Nat.blt i 61 then (bif Nat.beq i 58 then some (1, 10) else none) else (bif Nat.beq i 61 then some (1, 9) else none)) else (bif Nat.blt i 67 then (bif Nat.beq i 64 then some (1, 7) else none) else (bif Nat.beq i 67 then some (1, 12) else none))))))
theorem fX1_ok : ∀ idx c j, fX1 idx = some (c, j) → em_okF RX1 idx c j := em_okF_of (by decide +kernel)
def qX1 : Nat → Option Int32 := em_tr 0 (fun i => none)
theorem qX1_ok : ∀ idx v, qX1 idx = some v → Cond.constant RX1 idx v ∈ lw_tbl := em_okK_of (by decide +kernel)
def fX2 : Nat → Option (Nat × Nat) := em_tr 27 (fun i => (bif Nat.blt i 19 then (bif Nat.blt i 15 then (bif Nat.beq i 9 then some (2, 0) else none) else (bif Nat.beq i 15 then some (2, 1) else none)) else (bif Nat.blt i 22 then (bif Nat.beq i 19 then some (2, 2) else none) else (bif Nat.blt i 26 then (bif Nat.beq i 22 then some (2, 3) else none) else (bif Nat.beq i 26 then some (2, 4) else none)))))
theorem fX2_ok : ∀ idx c j, fX2 idx = some (c, j) → em_okF RX2 idx c j := em_okF_of (by decide +kernel)
def qX2 : Nat → Option Int32 := em_tr 0 (fun i => none)
theorem qX2_ok : ∀ idx v, qX2 idx = some v → Cond.constant RX2 idx v ∈ lw_tbl := em_okK_of (by decide +kernel)
def fX3 : Nat → Option (Nat × Nat) := em_tr 70 (fun i => (bif Nat.blt i 30 then (bif Nat.blt i 21 then (bif Nat.blt i 15 then (bif Nat.beq i 9 then some (3, 0) else none) else (bif Nat.blt i 18 then (bif Nat.beq i 15 then some (3, 1) else none) else (bif Nat.beq i 18 then some (3, 3) else none))) else (bif Nat.blt i 24 then (bif Nat.beq i 21 then some (3, 4) else none) else (bif Nat.blt i 27 then (bif Nat.beq i 24 then some (3, 5) else none) else (bif Nat.beq i 27 then some (3, 7) else none)))) else (bif Nat.blt i 39 then (bif Nat.blt i 33 then (bif Nat.beq i 30 then some (3, 8) else none) else (bif Nat.blt i 36 then (bif Nat.beq i 33 then some (3, 9) else none) else (bif Nat.beq i 36 then some (3, 11) else none))) else (bif Nat.blt i 52 then (bif Nat.blt i 48 then (bif Nat.beq i 39 then some (3, 12) else none) else (bif Nat.beq i 48 then some (3, 10) else none)) else (bif Nat.blt i 69 then (bif Nat.beq i 52 then some (3, 2) else none) else (bif Nat.beq i 69 then some (3, 6) else none))))))
theorem fX3_ok : ∀ idx c j, fX3 idx = some (c, j) → em_okF RX3 idx c j := em_okF_of (by decide +kernel)
def qX3 : Nat → Option Int32 := em_tr 0 (fun i => none)
theorem qX3_ok : ∀ idx v, qX3 idx = some v → Cond.constant RX3 idx v ∈ lw_tbl := em_okK_of (by decide +kernel)
def fX4 : Nat → Option (Nat × Nat) := em_tr 22 (fun i => (bif Nat.blt i 21 then (bif Nat.beq i 9 then some (4, 1) else none) else (bif Nat.beq i 21 then some (4, 0) else none)))
theorem fX4_ok : ∀ idx c j, fX4 idx = some (c, j) → em_okF RX4 idx c j := em_okF_of (by decide +kernel)
def qX4 : Nat → Option Int32 := em_tr 0 (fun i => none)
theorem qX4_ok : ∀ idx v, qX4 idx = some v → Cond.constant RX4 idx v ∈ lw_tbl := em_okK_of (by decide +kernel)
def fX5 : Nat → Option (Nat × Nat) := em_tr 16 (fun i => (bif Nat.blt i 15 then (bif Nat.beq i 9 then some (5, 0) else none) else (bif Nat.beq i 15 then some (5, 1) else none)))
theorem fX5_ok : ∀ idx c j, fX5 idx = some (c, j) → em_okF RX5 idx c j := em_okF_of (by decide +kernel)
def qX5 : Nat → Option Int32 := em_tr 0 (fun i => none)
theorem qX5_ok : ∀ idx v, qX5 idx = some v → Cond.constant RX5 idx v ∈ lw_tbl := em_okK_of (by decide +kernel)
def fX6 : Nat → Option (Nat × Nat) := em_tr 28 (fun i => (bif Nat.blt i 21 then (bif Nat.blt i 15 then (bif Nat.beq i 9 then some (6, 1) else none) else (bif Nat.blt i 18 then (bif Nat.beq i 15 then some (6, 2) else none) else (bif Nat.beq i 18 then some (6, 3) else none))) else (bif Nat.blt i 24 then (bif Nat.beq i 21 then some (6, 4) else none) else (bif Nat.blt i 27 then (bif Nat.beq i 24 then some (6, 5) else none) else (bif Nat.beq i 27 then some (6, 0) else none)))))
theorem fX6_ok : ∀ idx c j, fX6 idx = some (c, j) → em_okF RX6 idx c j := em_okF_of (by decide +kernel)
def qX6 : Nat → Option Int32 := em_tr 0 (fun i => none)
theorem qX6_ok : ∀ idx v, qX6 idx = some v → Cond.constant RX6 idx v ∈ lw_tbl := em_okK_of (by decide +kernel)
def fX7 : Nat → Option (Nat × Nat) := em_tr 61 (fun i => (bif Nat.blt i 42 then (bif Nat.blt i 28 then (bif Nat.blt i 19 then (bif Nat.beq i 10 then some (7, 0) else none) else (bif Nat.beq i 19 then some (7, 1) else none)) else (bif Nat.blt i 35 then (bif Nat.beq i 28 then some (7, 2) else none) else (bif Nat.beq i 35 then some (7, 3) else none))) else (bif Nat.blt i 53 then (bif Nat.blt i 48 then (bif Nat.beq i 42 then some (7, 4) else none) else (bif Nat.beq i 48 then some (7, 5) else none)) else (bif Nat.blt i 60 then (bif Nat.beq i 53 then some (7, 6) else none) else (bif Nat.beq i 60 then some (7, 7) else none)))))
theorem fX7_ok : ∀ idx c j, fX7 idx = some (c, j) → em_okF RX7 idx c j := em_okF_of (by decide +kernel)
def qX7 : Nat → Option Int32 := em_tr 0 (fun i => none)
theorem qX7_ok : ∀ idx v, qX7 idx = some v → Cond.constant RX7 idx v ∈ lw_tbl := em_okK_of (by decide +kernel)
def fX8 : Nat → Option (Nat × Nat) := em_tr 244 (fun i => (bif Nat.blt i 78 then (bif Nat.blt i 44 then (bif Nat.blt i 26 then (bif Nat.blt i 17 then (bif Nat.blt i 13 then (bif Nat.beq i 9 then some (8, 6) else none) else (bif Nat.beq i 13 then some (8, 8) else none)) else (bif Nat.blt i 20 then (bif Nat.beq i 17 then some (8, 9) else none) else (bif Nat.blt i 23 then (bif Nat.beq i 20 then some (8, 10) else none) else (bif Nat.beq i 23 then some (8, 11) else none)))) else (bif Nat.blt i 35 then (bif Nat.blt i 29 then (bif Nat.beq i 26 then some (8, 12) else none) else (bif Nat.blt i 32 then (bif Nat.beq i 29 then some (8, 13) else none) else (bif Nat.beq i 32 then some (8, 14) else none))) else (bif Nat.blt i 38 then (bif Nat.beq i 35 then some (8, 15) else none) else (bif Nat.blt i 41 then (bif Nat.beq i 38 then some (8, 16) else none) else (bif Nat.beq i 41 then some (8, 17) else none))))) else (bif Nat.blt i 60 then (bif Nat.blt i 50 then (bif Nat.blt i 47 then (bif Nat.beq i 44 then some (8, 18) else none) else (bif Nat.beq i 47 then some (8, 19) else none)) else (bif Nat.blt i 53 then (bif Nat.beq i 50 then some (8, 20) else none) else (bif Nat.blt i 57 then (bif Nat.beq i 53 then some (8, 21) else none) else (bif Nat.beq i 57 then some (8, 22) else none)))) else (bif Nat.blt i 69 then (bif Nat.blt i 63 then (bif Nat.beq i 60 then some (8, 23) else none) else (bif Nat.blt i 66 then (bif Nat.beq i 63 then some (8, 24) else none) else (bif Nat.beq i 66 then some (8, 25) else none))) else (bif Nat.blt i 72 then (bif Nat.beq i 69 then some (8, 26) else none) else (bif Nat.blt i 75 then (bif Nat.beq i 72 then some (8, 27) else none) else (bif Nat.beq i 75 then some (8, 28) else none)))))) else (bif Nat.blt i 116 then (bif Nat.blt i 93 then (bif Nat.blt i 84 then (bif Nat.blt i 81 then (bif Nat.beq i 78 then some (8, 29) else none) else (bif Nat.beq i 81 then some (8, 30) else none)) else (bif Nat.blt i 87 then (bif Nat.beq i 84 then some (8, 34) else none) else (bif Nat.blt i 90 then (bif Nat.beq i 87 then some (8, 36) else none) else (bif Nat.beq i 90 then some (8, 37) else none)))) else (bif Nat.blt i 102 then (bif Nat.blt i 96 then (bif Nat.beq i 93 then some (8, 38) else none) else (bif Nat.blt i 99 then (bif Nat.beq i 96 then some (8, 40) else none) else (bif Nat.beq i 99 then some (8, 41) else none))) else (bif Nat.blt i 106 then (bif Nat.beq i 102 then some (8, 42) else none) else (bif Nat.blt i 109 then (bif Nat.beq i 106 then some (8, 43) else none) else (bif Nat.beq i 109 then some (8, 1) else none))))) else (bif Nat.blt i 172 then (bif Nat.blt i 140 then (bif Nat.blt i 130 then (bif Nat.beq i 116 then some (8, 0) else none) else (bif Nat.beq i 130 then some (8, 2) else none)) else (bif Nat.blt i 158 then (bif Nat.beq i 140 then some (8, 3) else none) else (bif Nat.blt i 164 then (bif Nat.beq i 158 then some (8, 4) else none) else (bif Nat.beq i 164 then some (8, 5) else none)))) else (bif Nat.blt i 196 then (bif Nat.blt i 175 then (bif Nat.beq i 172 then some (8, 33) else none) else (bif Nat.blt i 178 then (bif Nat.beq i 175 then some (8, 32) else none) else (bif Nat.beq i 178 then some (8, 31) else none))) else (bif Nat.blt i 231 then (bif Nat.beq i 196 then some (8, 35) else none) else (bif Nat.blt i 243 then (bif Nat.beq i 231 then some (8, 39) else none) else (bif Nat.beq i 243 then some (8, 7) else none))))))))
theorem fX8_ok : ∀ idx c j, fX8 idx = some (c, j) → em_okF RX8 idx c j := em_okF_of (by decide +kernel)
def qX8 : Nat → Option Int32 := em_tr 148 (fun i => (bif Nat.beq i 147 then some (-1000000) else none))
theorem qX8_ok : ∀ idx v, qX8 idx = some v → Cond.constant RX8 idx v ∈ lw_tbl := em_okK_of (by decide +kernel)
def fL : Nat → Option (Nat × Nat) := em_tr 0 (fun i => none)
theorem fL_ok : ∀ idx c j, fL idx = some (c, j) → em_okF RL idx c j := em_okF_of (by decide +kernel)
def qL : Nat → Option Int32 := em_tr 0 (fun i => none)
theorem qL_ok : ∀ idx v, qL idx = some v → Cond.constant RL idx v ∈ lw_tbl := em_okK_of (by decide +kernel)
def fJ6 : Nat → Option (Nat × Nat) := em_tr 0 (fun i => none)
theorem fJ6_ok : ∀ idx c j, fJ6 idx = some (c, j) → em_okF RJ6 idx c j := em_okF_of (by decide +kernel)
def qJ6 : Nat → Option Int32 := em_tr 268 (fun i => (bif Nat.blt i 266 then (bif Nat.beq i 265 then some (1431655765) else none) else (bif Nat.blt i 267 then (bif Nat.beq i 266 then some (858993459) else none) else (bif Nat.beq i 267 then some (252645135) else none))))
theorem qJ6_ok : ∀ idx v, qJ6 idx = some v → Cond.constant RJ6 idx v ∈ lw_tbl := em_okK_of (by decide +kernel)
def fJ7 : Nat → Option (Nat × Nat) := em_tr 0 (fun i => none)
theorem fJ7_ok : ∀ idx c j, fJ7 idx = some (c, j) → em_okF RJ7 idx c j := em_okF_of (by decide +kernel)
def qJ7 : Nat → Option Int32 := em_tr 0 (fun i => none)
theorem qJ7_ok : ∀ idx v, qJ7 idx = some v → Cond.constant RJ7 idx v ∈ lw_tbl := em_okK_of (by decide +kernel)
def fJ9 : Nat → Option (Nat × Nat) := em_tr 0 (fun i => none)
theorem fJ9_ok : ∀ idx c j, fJ9 idx = some (c, j) → em_okF RJ9 idx c j := em_okF_of (by decide +kernel)
def qJ9 : Nat → Option Int32 := em_tr 0 (fun i => none)
theorem qJ9_ok : ∀ idx v, qJ9 idx = some v → Cond.constant RJ9 idx v ∈ lw_tbl := em_okK_of (by decide +kernel)
end
section
def iX0_init : Nat → Option (Nat × Nat × Int32 × Nat) := em_tr 22 (fun pc => (bif Nat.blt pc 10 then (bif Nat.blt pc 4 then (bif Nat.blt pc 1 then (bif Nat.beq pc 0 then some (8, 0, 0, 1) else none) else (bif Nat.beq pc 1 then some (82, 3, 0, 4) else none)) else (bif Nat.blt pc 5 then (bif Nat.beq pc 4 then some (8, 0, 0, 5) else none) else (bif Nat.blt pc 8 then (bif Nat.beq pc 5 then some (2, 0, 401, 8) else none) else (bif Nat.beq pc 8 then some (76, 0, 0, 10) else none)))) else (bif Nat.blt pc 16 then (bif Nat.blt pc 13 then (bif Nat.beq pc 10 then some (74, 9, 0, 13) else none) else (bif Nat.blt pc 14 then (bif Nat.beq pc 13 then some (8, 0, 0, 14) else none) else (bif Nat.beq pc 14 then some (1, 0, 96, 16) else none))) else (bif Nat.blt pc 18 then (bif Nat.beq pc 16 then some (76, 0, 0, 18) else none) else (bif Nat.blt pc 21 then (bif Nat.beq pc 18 then some (74, 15, 0, 21) else none) else (bif Nat.beq pc 21 then some (86, 0, 0, 22) else none))))))
def mX0_init : em_Me := ((RX0, yX0_init, cX0_init, 1, none), iX0_init, fX0, qX0)
theorem rX0_init_0 : em_ckR RX0 cX0_init iX0_init 0 22 = true := by decide +kernel
theorem kX0_init : em_ok mX0_init := em_okM (N := 22) rfl (fun pc hpc q hq => em_ckR_at rX0_init_0 (by omega) (by omega) hq) fX0_ok qX0_ok
theorem tX0_init : em_tI mX0_init 0 := ⟨⟨em_in (k := 80) (by decide +kernel), em_in (k := 4) (by decide +kernel), ⟨by decide +kernel, by decide +kernel⟩, by decide +kernel, by decide +kernel⟩, em_in (k := 79) (by decide +kernel), rfl, rfl⟩
def iX0_size : Nat → Option (Nat × Nat × Int32 × Nat) := em_tr 5 (fun pc => (bif Nat.blt pc 1 then (bif Nat.beq pc 0 then some (8, 0, 0, 1) else none) else (bif Nat.blt pc 4 then (bif Nat.beq pc 1 then some (33, 18, 0, 4) else none) else (bif Nat.beq pc 4 then some (83, 0, 0, 5) else none))))
def mX0_size : em_Me := ((RX0, yX0_size, cX0_size, 1, (some .int)), iX0_size, fX0, qX0)
theorem rX0_size_0 : em_ckR RX0 cX0_size iX0_size 0 5 = true := by decide +kernel
theorem kX0_size : em_ok mX0_size := em_okM (N := 5) rfl (fun pc hpc q hq => em_ckR_at rX0_size_0 (by omega) (by omega) hq) fX0_ok qX0_ok
theorem tX0_size : em_tV mX0_size 0 0 := ⟨⟨em_in (k := 828) (by decide +kernel), em_in (k := 4) (by decide +kernel), ⟨by decide +kernel, by decide +kernel⟩, by decide +kernel, by decide +kernel⟩, em_in (k := 826) (by decide +kernel), _, rfl, em_in (k := 827) (by decide +kernel)⟩
def iX0_unitsInAll : Nat → Option (Nat × Nat × Int32 × Nat) := em_tr 5 (fun pc => (bif Nat.blt pc 1 then (bif Nat.beq pc 0 then some (8, 0, 0, 1) else none) else (bif Nat.blt pc 4 then (bif Nat.beq pc 1 then some (33, 22, 0, 4) else none) else (bif Nat.beq pc 4 then some (83, 0, 0, 5) else none))))
def mX0_unitsInAll : em_Me := ((RX0, yX0_unitsInAll, cX0_unitsInAll, 1, (some .int)), iX0_unitsInAll, fX0, qX0)
theorem rX0_unitsInAll_0 : em_ckR RX0 cX0_unitsInAll iX0_unitsInAll 0 5 = true := by decide +kernel
theorem kX0_unitsInAll : em_ok mX0_unitsInAll := em_okM (N := 5) rfl (fun pc hpc q hq => em_ckR_at rX0_unitsInAll_0 (by omega) (by omega) hq) fX0_ok qX0_ok
theorem tX0_unitsInAll : em_tV mX0_unitsInAll 0 0 := ⟨⟨em_in (k := 832) (by decide +kernel), em_in (k := 4) (by decide +kernel), ⟨by decide +kernel, by decide +kernel⟩, by decide +kernel, by decide +kernel⟩, em_in (k := 830) (by decide +kernel), _, rfl, em_in (k := 831) (by decide +kernel)⟩
def iX0_unitsFor : Nat → Option (Nat × Nat × Int32 × Nat) := em_tr 22 (fun pc => (bif Nat.blt pc 12 then (bif Nat.blt pc 5 then (bif Nat.blt pc 1 then (bif Nat.beq pc 0 then some (4, 1, 0, 1) else none) else (bif Nat.blt pc 2 then (bif Nat.beq pc 1 then some (0, 0, 0, 2) else none) else (bif Nat.beq pc 2 then some (2, 0, 400, 5) else none))) else (bif Nat.blt pc 8 then (bif Nat.beq pc 5 then some (80, 25, 0, 8) else none) else (bif Nat.blt pc 11 then (bif Nat.beq pc 8 then some (50, 20, 0, 11) else none) else (bif Nat.beq pc 11 then some (8, 0, 0, 12) else none)))) else (bif Nat.blt pc 17 then (bif Nat.blt pc 15 then (bif Nat.beq pc 12 then some (33, 9, 0, 15) else none) else (bif Nat.blt pc 16 then (bif Nat.beq pc 15 then some (4, 1, 0, 16) else none) else (bif Nat.beq pc 16 then some (62, 0, 0, 17) else none))) else (bif Nat.blt pc 20 then (bif Nat.beq pc 17 then some (32, 21, 0, 20) else none) else (bif Nat.blt pc 21 then (bif Nat.beq pc 20 then some (0, 0, 0, 21) else none) else (bif Nat.beq pc 21 then some (83, 0, 0, 22) else none))))))
def mX0_unitsFor : em_Me := ((RX0, yX0_unitsFor, cX0_unitsFor, 2, (some .int)), iX0_unitsFor, fX0, qX0)
theorem rX0_unitsFor_0 : em_ckR RX0 cX0_unitsFor iX0_unitsFor 0 22 = true := by decide +kernel
theorem kX0_unitsFor : em_ok mX0_unitsFor := em_okM (N := 22) rfl (fun pc hpc q hq => em_ckR_at rX0_unitsFor_0 (by omega) (by omega) hq) fX0_ok qX0_ok
theorem tX0_unitsFor : em_tV mX0_unitsFor 1 0 := ⟨⟨em_in (k := 399) (by decide +kernel), em_in (k := 4) (by decide +kernel), ⟨by decide +kernel, by decide +kernel⟩, by decide +kernel, by decide +kernel⟩, em_in (k := 397) (by decide +kernel), _, rfl, em_in (k := 398) (by decide +kernel)⟩
def iX0_linePart : Nat → Option (Nat × Nat × Int32 × Nat) := em_tr 37 (fun pc => (bif Nat.blt pc 20 then (bif Nat.blt pc 8 then (bif Nat.blt pc 3 then (bif Nat.blt pc 1 then (bif Nat.beq pc 0 then some (4, 1, 0, 1) else none) else (bif Nat.blt pc 2 then (bif Nat.beq pc 1 then some (0, 0, 0, 2) else none) else (bif Nat.beq pc 2 then some (8, 0, 0, 3) else none))) else (bif Nat.blt pc 6 then (bif Nat.beq pc 3 then some (33, 18, 0, 6) else none) else (bif Nat.blt pc 7 then (bif Nat.beq pc 6 then some (0, 0, 1, 7) else none) else (bif Nat.beq pc 7 then some (18, 0, 0, 8) else none)))) else (bif Nat.blt pc 15 then (bif Nat.blt pc 11 then (bif Nat.beq pc 8 then some (80, 25, 0, 11) else none) else (bif Nat.blt pc 14 then (bif Nat.beq pc 11 then some (50, 23, 0, 14) else none) else (bif Nat.beq pc 14 then some (4, 2, 0, 15) else none))) else (bif Nat.blt pc 16 then (bif Nat.beq pc 15 then some (0, 0, 0, 16) else none) else (bif Nat.blt pc 17 then (bif Nat.beq pc 16 then some (0, 0, 2, 17) else none) else (bif Nat.beq pc 17 then some (80, 25, 0, 20) else none))))) else (bif Nat.blt pc 31 then (bif Nat.blt pc 26 then (bif Nat.blt pc 23 then (bif Nat.beq pc 20 then some (51, 26, 0, 23) else none) else (bif Nat.blt pc 25 then (bif Nat.beq pc 23 then some (35, 29, 0, 25) else none) else (bif Nat.beq pc 25 then some (83, 0, 0, 26) else none))) else (bif Nat.blt pc 27 then (bif Nat.beq pc 26 then some (8, 0, 0, 27) else none) else (bif Nat.blt pc 30 then (bif Nat.beq pc 27 then some (33, 15, 0, 30) else none) else (bif Nat.beq pc 30 then some (4, 1, 0, 31) else none)))) else (bif Nat.blt pc 34 then (bif Nat.blt pc 32 then (bif Nat.beq pc 31 then some (0, 0, 3, 32) else none) else (bif Nat.blt pc 33 then (bif Nat.beq pc 32 then some (19, 0, 0, 33) else none) else (bif Nat.beq pc 33 then some (4, 2, 0, 34) else none))) else (bif Nat.blt pc 35 then (bif Nat.beq pc 34 then some (17, 0, 0, 35) else none) else (bif Nat.blt pc 36 then (bif Nat.beq pc 35 then some (62, 0, 0, 36) else none) else (bif Nat.beq pc 36 then some (83, 0, 0, 37) else none)))))))
def mX0_linePart : em_Me := ((RX0, yX0_linePart, cX0_linePart, 3, (some .int)), iX0_linePart, fX0, qX0)
theorem rX0_linePart_0 : em_ckR RX0 cX0_linePart iX0_linePart 0 37 = true := by decide +kernel
theorem kX0_linePart : em_ok mX0_linePart := em_okM (N := 37) rfl (fun pc hpc q hq => em_ckR_at rX0_linePart_0 (by omega) (by omega) hq) fX0_ok qX0_ok
theorem tX0_linePart : em_tV mX0_linePart 2 0 := ⟨⟨em_in (k := 389) (by decide +kernel), em_in (k := 4) (by decide +kernel), ⟨by decide +kernel, by decide +kernel⟩, by decide +kernel, by decide +kernel⟩, em_in (k := 387) (by decide +kernel), _, rfl, em_in (k := 388) (by decide +kernel)⟩
def iX0_closeDay : Nat → Option (Nat × Nat × Int32 × Nat) := em_tr 76 (fun pc => (bif Nat.blt pc 36 then (bif Nat.blt pc 19 then (bif Nat.blt pc 7 then (bif Nat.blt pc 2 then (bif Nat.blt pc 1 then (bif Nat.beq pc 0 then some (8, 0, 0, 1) else none) else (bif Nat.beq pc 1 then some (4, 1, 0, 2) else none)) else (bif Nat.blt pc 3 then (bif Nat.beq pc 2 then some (8, 2, 0, 3) else none) else (bif Nat.blt pc 6 then (bif Nat.beq pc 3 then some (81, 30, 0, 6) else none) else (bif Nat.beq pc 6 then some (10, 3, 0, 7) else none)))) else (bif Nat.blt pc 12 then (bif Nat.blt pc 8 then (bif Nat.beq pc 7 then some (8, 0, 0, 8) else none) else (bif Nat.blt pc 11 then (bif Nat.beq pc 8 then some (33, 18, 0, 11) else none) else (bif Nat.beq pc 11 then some (4, 3, 0, 12) else none))) else (bif Nat.blt pc 13 then (bif Nat.beq pc 12 then some (17, 0, 0, 13) else none) else (bif Nat.blt pc 16 then (bif Nat.beq pc 13 then some (2, 0, 20000, 16) else none) else (bif Nat.beq pc 16 then some (61, 21, 0, 19) else none))))) else (bif Nat.blt pc 26 then (bif Nat.blt pc 21 then (bif Nat.blt pc 20 then (bif Nat.beq pc 19 then some (0, 0, (-1), 20) else none) else (bif Nat.beq pc 20 then some (83, 0, 0, 21) else none)) else (bif Nat.blt pc 22 then (bif Nat.beq pc 21 then some (8, 0, 0, 22) else none) else (bif Nat.blt pc 23 then (bif Nat.beq pc 22 then some (8, 0, 0, 23) else none) else (bif Nat.beq pc 23 then some (33, 18, 0, 26) else none)))) else (bif Nat.blt pc 31 then (bif Nat.blt pc 27 then (bif Nat.beq pc 26 then some (4, 3, 0, 27) else none) else (bif Nat.blt pc 28 then (bif Nat.beq pc 27 then some (17, 0, 0, 28) else none) else (bif Nat.beq pc 28 then some (81, 34, 0, 31) else none))) else (bif Nat.blt pc 32 then (bif Nat.beq pc 31 then some (0, 0, 0, 32) else none) else (bif Nat.blt pc 34 then (bif Nat.beq pc 32 then some (11, 4, 0, 34) else none) else (bif Nat.beq pc 34 then some (5, 4, 0, 36) else none)))))) else (bif Nat.blt pc 54 then (bif Nat.blt pc 44 then (bif Nat.blt pc 40 then (bif Nat.blt pc 37 then (bif Nat.beq pc 36 then some (4, 1, 0, 37) else none) else (bif Nat.beq pc 37 then some (60, 74, 0, 40) else none)) else (bif Nat.blt pc 41 then (bif Nat.beq pc 40 then some (8, 2, 0, 41) else none) else (bif Nat.blt pc 43 then (bif Nat.beq pc 41 then some (5, 4, 0, 43) else none) else (bif Nat.beq pc 43 then some (62, 0, 0, 44) else none)))) else (bif Nat.blt pc 50 then (bif Nat.blt pc 45 then (bif Nat.beq pc 44 then some (8, 0, 0, 45) else none) else (bif Nat.blt pc 48 then (bif Nat.beq pc 45 then some (33, 9, 0, 48) else none) else (bif Nat.beq pc 48 then some (5, 4, 0, 50) else none))) else (bif Nat.blt pc 51 then (bif Nat.beq pc 50 then some (62, 0, 0, 51) else none) else (bif Nat.blt pc 52 then (bif Nat.beq pc 51 then some (18, 0, 0, 52) else none) else (bif Nat.beq pc 52 then some (11, 5, 0, 54) else none))))) else (bif Nat.blt pc 63 then (bif Nat.blt pc 59 then (bif Nat.blt pc 56 then (bif Nat.beq pc 54 then some (5, 5, 0, 56) else none) else (bif Nat.beq pc 56 then some (50, 68, 0, 59) else none)) else (bif Nat.blt pc 60 then (bif Nat.beq pc 59 then some (8, 0, 0, 60) else none) else (bif Nat.blt pc 61 then (bif Nat.beq pc 60 then some (4, 1, 0, 61) else none) else (bif Nat.beq pc 61 then some (5, 4, 0, 63) else none)))) else (bif Nat.blt pc 71 then (bif Nat.blt pc 65 then (bif Nat.beq pc 63 then some (5, 5, 0, 65) else none) else (bif Nat.blt pc 68 then (bif Nat.beq pc 65 then some (81, 38, 0, 68) else none) else (bif Nat.beq pc 68 then some (16, 4, 1, 71) else none))) else (bif Nat.blt pc 74 then (bif Nat.beq pc 71 then some (32, 34, 0, 74) else none) else (bif Nat.blt pc 75 then (bif Nat.beq pc 74 then some (4, 3, 0, 75) else none) else (bif Nat.beq pc 75 then some (83, 0, 0, 76) else none))))))))
def mX0_closeDay : em_Me := ((RX0, yX0_closeDay, cX0_closeDay, 6, (some .int)), iX0_closeDay, fX0, qX0)
theorem rX0_closeDay_0 : em_ckR RX0 cX0_closeDay iX0_closeDay 0 60 = true := by decide +kernel
theorem rX0_closeDay_1 : em_ckR RX0 cX0_closeDay iX0_closeDay 60 16 = true := by decide +kernel
theorem kX0_closeDay : em_ok mX0_closeDay := em_okM (N := 76) rfl (fun pc hpc q hq => if h0 : pc < 60 then em_ckR_at rX0_closeDay_0 (by omega) (by omega) hq else em_ckR_at rX0_closeDay_1 (by omega) (by omega) hq) fX0_ok qX0_ok
theorem tX0_closeDay : em_tV mX0_closeDay 2 0 := ⟨⟨em_in (k := 344) (by decide +kernel), em_in (k := 4) (by decide +kernel), ⟨by decide +kernel, by decide +kernel⟩, by decide +kernel, by decide +kernel⟩, em_in (k := 342) (by decide +kernel), _, rfl, em_in (k := 343) (by decide +kernel)⟩
def iX0_linesDue : Nat → Option (Nat × Nat × Int32 × Nat) := em_tr 36 (fun pc => (bif Nat.blt pc 15 then (bif Nat.blt pc 7 then (bif Nat.blt pc 2 then (bif Nat.blt pc 1 then (bif Nat.beq pc 0 then some (0, 0, 0, 1) else none) else (bif Nat.beq pc 1 then some (10, 3, 0, 2) else none)) else (bif Nat.blt pc 3 then (bif Nat.beq pc 2 then some (0, 0, 0, 3) else none) else (bif Nat.blt pc 5 then (bif Nat.beq pc 3 then some (11, 4, 0, 5) else none) else (bif Nat.beq pc 5 then some (5, 4, 0, 7) else none)))) else (bif Nat.blt pc 11 then (bif Nat.blt pc 8 then (bif Nat.beq pc 7 then some (4, 1, 0, 8) else none) else (bif Nat.beq pc 8 then some (60, 34, 0, 11) else none)) else (bif Nat.blt pc 12 then (bif Nat.beq pc 11 then some (8, 2, 0, 12) else none) else (bif Nat.blt pc 14 then (bif Nat.beq pc 12 then some (5, 4, 0, 14) else none) else (bif Nat.beq pc 14 then some (62, 0, 0, 15) else none))))) else (bif Nat.blt pc 25 then (bif Nat.blt pc 19 then (bif Nat.blt pc 16 then (bif Nat.beq pc 15 then some (8, 0, 0, 16) else none) else (bif Nat.beq pc 16 then some (33, 9, 0, 19) else none)) else (bif Nat.blt pc 21 then (bif Nat.beq pc 19 then some (5, 4, 0, 21) else none) else (bif Nat.blt pc 22 then (bif Nat.beq pc 21 then some (62, 0, 0, 22) else none) else (bif Nat.beq pc 22 then some (56, 28, 0, 25) else none)))) else (bif Nat.blt pc 31 then (bif Nat.blt pc 28 then (bif Nat.beq pc 25 then some (16, 3, 1, 28) else none) else (bif Nat.beq pc 28 then some (16, 4, 1, 31) else none)) else (bif Nat.blt pc 34 then (bif Nat.beq pc 31 then some (32, 5, 0, 34) else none) else (bif Nat.blt pc 35 then (bif Nat.beq pc 34 then some (4, 3, 0, 35) else none) else (bif Nat.beq pc 35 then some (83, 0, 0, 36) else none)))))))
def mX0_linesDue : em_Me := ((RX0, yX0_linesDue, cX0_linesDue, 5, (some .int)), iX0_linesDue, fX0, qX0)
theorem rX0_linesDue_0 : em_ckR RX0 cX0_linesDue iX0_linesDue 0 36 = true := by decide +kernel
theorem kX0_linesDue : em_ok mX0_linesDue := em_okM (N := 36) rfl (fun pc hpc q hq => em_ckR_at rX0_linesDue_0 (by omega) (by omega) hq) fX0_ok qX0_ok
theorem tX0_linesDue : em_tV mX0_linesDue 2 0 := ⟨⟨em_in (k := 348) (by decide +kernel), em_in (k := 4) (by decide +kernel), ⟨by decide +kernel, by decide +kernel⟩, by decide +kernel, by decide +kernel⟩, em_in (k := 347) (by decide +kernel), _, rfl, List.mem_append_left _ (by decide +kernel)⟩
def iX0_makeRoom : Nat → Option (Nat × Nat × Int32 × Nat) := em_tr 43 (fun pc => (bif Nat.blt pc 19 then (bif Nat.blt pc 6 then (bif Nat.blt pc 3 then (bif Nat.blt pc 1 then (bif Nat.beq pc 0 then some (4, 1, 0, 1) else none) else (bif Nat.blt pc 2 then (bif Nat.beq pc 1 then some (0, 0, 3, 2) else none) else (bif Nat.beq pc 2 then some (19, 0, 0, 3) else none))) else (bif Nat.blt pc 4 then (bif Nat.beq pc 3 then some (10, 2, 0, 4) else none) else (bif Nat.blt pc 5 then (bif Nat.beq pc 4 then some (4, 2, 0, 5) else none) else (bif Nat.beq pc 5 then some (8, 0, 0, 6) else none)))) else (bif Nat.blt pc 13 then (bif Nat.blt pc 9 then (bif Nat.beq pc 6 then some (33, 15, 0, 9) else none) else (bif Nat.blt pc 10 then (bif Nat.beq pc 9 then some (34, 0, 0, 10) else none) else (bif Nat.beq pc 10 then some (61, 42, 0, 13) else none))) else (bif Nat.blt pc 15 then (bif Nat.blt pc 14 then (bif Nat.beq pc 13 then some (0, 0, 2, 14) else none) else (bif Nat.beq pc 14 then some (8, 0, 0, 15) else none)) else (bif Nat.blt pc 18 then (bif Nat.beq pc 15 then some (33, 15, 0, 18) else none) else (bif Nat.beq pc 18 then some (34, 0, 0, 19) else none))))) else (bif Nat.blt pc 28 then (bif Nat.blt pc 25 then (bif Nat.blt pc 20 then (bif Nat.beq pc 19 then some (19, 0, 0, 20) else none) else (bif Nat.blt pc 22 then (bif Nat.beq pc 20 then some (35, 42, 0, 22) else none) else (bif Nat.beq pc 22 then some (80, 43, 0, 25) else none))) else (bif Nat.blt pc 26 then (bif Nat.beq pc 25 then some (10, 3, 0, 26) else none) else (bif Nat.blt pc 27 then (bif Nat.beq pc 26 then some (8, 0, 0, 27) else none) else (bif Nat.beq pc 27 then some (8, 0, 0, 28) else none)))) else (bif Nat.blt pc 33 then (bif Nat.blt pc 31 then (bif Nat.beq pc 28 then some (33, 15, 0, 31) else none) else (bif Nat.blt pc 32 then (bif Nat.beq pc 31 then some (4, 3, 0, 32) else none) else (bif Nat.beq pc 32 then some (4, 2, 0, 33) else none))) else (bif Nat.blt pc 39 then (bif Nat.blt pc 36 then (bif Nat.beq pc 33 then some (80, 49, 0, 36) else none) else (bif Nat.beq pc 36 then some (80, 52, 0, 39) else none)) else (bif Nat.blt pc 42 then (bif Nat.beq pc 39 then some (74, 15, 0, 42) else none) else (bif Nat.beq pc 42 then some (86, 0, 0, 43) else none)))))))
def mX0_makeRoom : em_Me := ((RX0, yX0_makeRoom, cX0_makeRoom, 4, none), iX0_makeRoom, fX0, qX0)
theorem rX0_makeRoom_0 : em_ckR RX0 cX0_makeRoom iX0_makeRoom 0 43 = true := by decide +kernel
theorem kX0_makeRoom : em_ok mX0_makeRoom := em_okM (N := 43) rfl (fun pc hpc q hq => em_ckR_at rX0_makeRoom_0 (by omega) (by omega) hq) fX0_ok qX0_ok
theorem tX0_makeRoom : em_tV mX0_makeRoom 1 0 := ⟨⟨em_in (k := 352) (by decide +kernel), em_in (k := 4) (by decide +kernel), ⟨by decide +kernel, by decide +kernel⟩, by decide +kernel, by decide +kernel⟩, em_in (k := 351) (by decide +kernel), _, rfl, List.mem_append_left _ (by decide +kernel)⟩
def iX0_write : Nat → Option (Nat × Nat × Int32 × Nat) := em_tr 67 (fun pc => (bif Nat.blt pc 34 then (bif Nat.blt pc 17 then (bif Nat.blt pc 8 then (bif Nat.blt pc 4 then (bif Nat.blt pc 1 then (bif Nat.beq pc 0 then some (8, 0, 0, 1) else none) else (bif Nat.beq pc 1 then some (33, 18, 0, 4) else none)) else (bif Nat.blt pc 5 then (bif Nat.beq pc 4 then some (0, 0, 3, 5) else none) else (bif Nat.blt pc 6 then (bif Nat.beq pc 5 then some (19, 0, 0, 6) else none) else (bif Nat.beq pc 6 then some (11, 4, 0, 8) else none)))) else (bif Nat.blt pc 14 then (bif Nat.blt pc 9 then (bif Nat.beq pc 8 then some (8, 0, 0, 9) else none) else (bif Nat.blt pc 12 then (bif Nat.beq pc 9 then some (33, 15, 0, 12) else none) else (bif Nat.beq pc 12 then some (5, 4, 0, 14) else none))) else (bif Nat.blt pc 15 then (bif Nat.beq pc 14 then some (4, 1, 0, 15) else none) else (bif Nat.blt pc 16 then (bif Nat.beq pc 15 then some (66, 0, 0, 16) else none) else (bif Nat.beq pc 16 then some (8, 0, 0, 17) else none))))) else (bif Nat.blt pc 25 then (bif Nat.blt pc 22 then (bif Nat.blt pc 20 then (bif Nat.beq pc 17 then some (33, 15, 0, 20) else none) else (bif Nat.beq pc 20 then some (5, 4, 0, 22) else none)) else (bif Nat.blt pc 23 then (bif Nat.beq pc 22 then some (0, 0, 1, 23) else none) else (bif Nat.blt pc 24 then (bif Nat.beq pc 23 then some (17, 0, 0, 24) else none) else (bif Nat.beq pc 24 then some (4, 2, 0, 25) else none)))) else (bif Nat.blt pc 30 then (bif Nat.blt pc 26 then (bif Nat.beq pc 25 then some (66, 0, 0, 26) else none) else (bif Nat.blt pc 27 then (bif Nat.beq pc 26 then some (8, 0, 0, 27) else none) else (bif Nat.beq pc 27 then some (33, 15, 0, 30) else none))) else (bif Nat.blt pc 32 then (bif Nat.beq pc 30 then some (5, 4, 0, 32) else none) else (bif Nat.blt pc 33 then (bif Nat.beq pc 32 then some (0, 0, 2, 33) else none) else (bif Nat.beq pc 33 then some (17, 0, 0, 34) else none)))))) else (bif Nat.blt pc 51 then (bif Nat.blt pc 41 then (bif Nat.blt pc 36 then (bif Nat.blt pc 35 then (bif Nat.beq pc 34 then some (4, 3, 0, 35) else none) else (bif Nat.beq pc 35 then some (66, 0, 0, 36) else none)) else (bif Nat.blt pc 37 then (bif Nat.beq pc 36 then some (8, 0, 0, 37) else none) else (bif Nat.blt pc 38 then (bif Nat.beq pc 37 then some (30, 0, 0, 38) else none) else (bif Nat.beq pc 38 then some (33, 18, 0, 41) else none)))) else (bif Nat.blt pc 46 then (bif Nat.blt pc 42 then (bif Nat.beq pc 41 then some (0, 0, 1, 42) else none) else (bif Nat.blt pc 43 then (bif Nat.beq pc 42 then some (17, 0, 0, 43) else none) else (bif Nat.beq pc 43 then some (74, 18, 0, 46) else none))) else (bif Nat.blt pc 47 then (bif Nat.beq pc 46 then some (8, 0, 0, 47) else none) else (bif Nat.blt pc 50 then (bif Nat.beq pc 47 then some (33, 9, 0, 50) else none) else (bif Nat.beq pc 50 then some (4, 2, 0, 51) else none))))) else (bif Nat.blt pc 57 then (bif Nat.blt pc 54 then (bif Nat.blt pc 52 then (bif Nat.beq pc 51 then some (31, 0, 0, 52) else none) else (bif Nat.blt pc 53 then (bif Nat.beq pc 52 then some (62, 0, 0, 53) else none) else (bif Nat.beq pc 53 then some (4, 3, 0, 54) else none))) else (bif Nat.blt pc 55 then (bif Nat.beq pc 54 then some (17, 0, 0, 55) else none) else (bif Nat.blt pc 56 then (bif Nat.beq pc 55 then some (66, 0, 0, 56) else none) else (bif Nat.beq pc 56 then some (8, 0, 0, 57) else none)))) else (bif Nat.blt pc 62 then (bif Nat.blt pc 58 then (bif Nat.beq pc 57 then some (30, 0, 0, 58) else none) else (bif Nat.blt pc 61 then (bif Nat.beq pc 58 then some (33, 22, 0, 61) else none) else (bif Nat.beq pc 61 then some (4, 3, 0, 62) else none))) else (bif Nat.blt pc 63 then (bif Nat.beq pc 62 then some (17, 0, 0, 63) else none) else (bif Nat.blt pc 66 then (bif Nat.beq pc 63 then some (74, 22, 0, 66) else none) else (bif Nat.beq pc 66 then some (86, 0, 0, 67) else none))))))))
def mX0_write : em_Me := ((RX0, yX0_write, cX0_write, 5, none), iX0_write, fX0, qX0)
theorem rX0_write_0 : em_ckR RX0 cX0_write iX0_write 0 60 = true := by decide +kernel
theorem rX0_write_1 : em_ckR RX0 cX0_write iX0_write 60 7 = true := by decide +kernel
theorem kX0_write : em_ok mX0_write := em_okM (N := 67) rfl (fun pc hpc q hq => if h0 : pc < 60 then em_ckR_at rX0_write_0 (by omega) (by omega) hq else em_ckR_at rX0_write_1 (by omega) (by omega) hq) fX0_ok qX0_ok
theorem tX0_write : em_tV mX0_write 3 0 := ⟨⟨em_in (k := 377) (by decide +kernel), em_in (k := 4) (by decide +kernel), ⟨by decide +kernel, by decide +kernel⟩, by decide +kernel, by decide +kernel⟩, em_in (k := 376) (by decide +kernel), _, rfl, List.mem_append_left _ (by decide +kernel)⟩
def iX1_init : Nat → Option (Nat × Nat × Int32 × Nat) := em_tr 67 (fun pc => (bif Nat.blt pc 33 then (bif Nat.blt pc 15 then (bif Nat.blt pc 7 then (bif Nat.blt pc 4 then (bif Nat.blt pc 1 then (bif Nat.beq pc 0 then some (8, 0, 0, 1) else none) else (bif Nat.beq pc 1 then some (82, 3, 0, 4) else none)) else (bif Nat.blt pc 5 then (bif Nat.beq pc 4 then some (8, 0, 0, 5) else none) else (bif Nat.beq pc 5 then some (1, 0, 8, 7) else none))) else (bif Nat.blt pc 12 then (bif Nat.blt pc 9 then (bif Nat.beq pc 7 then some (76, 0, 0, 9) else none) else (bif Nat.beq pc 9 then some (74, 9, 0, 12) else none)) else (bif Nat.blt pc 13 then (bif Nat.beq pc 12 then some (8, 0, 0, 13) else none) else (bif Nat.beq pc 13 then some (1, 0, 8, 15) else none)))) else (bif Nat.blt pc 23 then (bif Nat.blt pc 20 then (bif Nat.blt pc 17 then (bif Nat.beq pc 15 then some (76, 0, 0, 17) else none) else (bif Nat.beq pc 17 then some (74, 15, 0, 20) else none)) else (bif Nat.blt pc 21 then (bif Nat.beq pc 20 then some (8, 0, 0, 21) else none) else (bif Nat.beq pc 21 then some (1, 0, 8, 23) else none))) else (bif Nat.blt pc 28 then (bif Nat.blt pc 25 then (bif Nat.beq pc 23 then some (76, 0, 0, 25) else none) else (bif Nat.beq pc 25 then some (74, 18, 0, 28) else none)) else (bif Nat.blt pc 29 then (bif Nat.beq pc 28 then some (8, 0, 0, 29) else none) else (bif Nat.blt pc 31 then (bif Nat.beq pc 29 then some (1, 0, 64, 31) else none) else (bif Nat.beq pc 31 then some (76, 0, 0, 33) else none)))))) else (bif Nat.blt pc 49 then (bif Nat.blt pc 41 then (bif Nat.blt pc 37 then (bif Nat.blt pc 36 then (bif Nat.beq pc 33 then some (74, 21, 0, 36) else none) else (bif Nat.beq pc 36 then some (8, 0, 0, 37) else none)) else (bif Nat.blt pc 38 then (bif Nat.beq pc 37 then some (0, 0, (-1), 38) else none) else (bif Nat.beq pc 38 then some (74, 24, 0, 41) else none))) else (bif Nat.blt pc 44 then (bif Nat.blt pc 42 then (bif Nat.beq pc 41 then some (8, 0, 0, 42) else none) else (bif Nat.beq pc 42 then some (1, 0, 8, 44) else none)) else (bif Nat.blt pc 46 then (bif Nat.beq pc 44 then some (76, 0, 0, 46) else none) else (bif Nat.beq pc 46 then some (74, 28, 0, 49) else none)))) else (bif Nat.blt pc 57 then (bif Nat.blt pc 52 then (bif Nat.blt pc 50 then (bif Nat.beq pc 49 then some (8, 0, 0, 50) else none) else (bif Nat.beq pc 50 then some (1, 0, 8, 52) else none)) else (bif Nat.blt pc 54 then (bif Nat.beq pc 52 then some (76, 0, 0, 54) else none) else (bif Nat.beq pc 54 then some (74, 31, 0, 57) else none))) else (bif Nat.blt pc 61 then (bif Nat.blt pc 58 then (bif Nat.beq pc 57 then some (8, 0, 0, 58) else none) else (bif Nat.beq pc 58 then some (33, 21, 0, 61) else none)) else (bif Nat.blt pc 63 then (bif Nat.beq pc 61 then some (1, 0, 9, 63) else none) else (bif Nat.blt pc 66 then (bif Nat.beq pc 63 then some (80, 34, 0, 66) else none) else (bif Nat.beq pc 66 then some (86, 0, 0, 67) else none))))))))
def mX1_init : em_Me := ((RX1, yX1_init, cX1_init, 1, none), iX1_init, fX1, qX1)
theorem rX1_init_0 : em_ckR RX1 cX1_init iX1_init 0 60 = true := by decide +kernel
theorem rX1_init_1 : em_ckR RX1 cX1_init iX1_init 60 7 = true := by decide +kernel
theorem kX1_init : em_ok mX1_init := em_okM (N := 67) rfl (fun pc hpc q hq => if h0 : pc < 60 then em_ckR_at rX1_init_0 (by omega) (by omega) hq else em_ckR_at rX1_init_1 (by omega) (by omega) hq) fX1_ok qX1_ok
theorem tX1_init : em_tI mX1_init 0 := ⟨⟨em_in (k := 125) (by decide +kernel), em_in (k := 6) (by decide +kernel), ⟨by decide +kernel, by decide +kernel⟩, by decide +kernel, by decide +kernel⟩, em_in (k := 124) (by decide +kernel), rfl, rfl⟩
def iX1_size : Nat → Option (Nat × Nat × Int32 × Nat) := em_tr 5 (fun pc => (bif Nat.blt pc 1 then (bif Nat.beq pc 0 then some (8, 0, 0, 1) else none) else (bif Nat.blt pc 4 then (bif Nat.beq pc 1 then some (33, 40, 0, 4) else none) else (bif Nat.beq pc 4 then some (83, 0, 0, 5) else none))))
def mX1_size : em_Me := ((RX1, yX1_size, cX1_size, 1, (some .int)), iX1_size, fX1, qX1)
theorem rX1_size_0 : em_ckR RX1 cX1_size iX1_size 0 5 = true := by decide +kernel
theorem kX1_size : em_ok mX1_size := em_okM (N := 5) rfl (fun pc hpc q hq => em_ckR_at rX1_size_0 (by omega) (by omega) hq) fX1_ok qX1_ok
theorem tX1_size : em_tV mX1_size 0 1 := ⟨⟨em_in (k := 836) (by decide +kernel), em_in (k := 6) (by decide +kernel), ⟨by decide +kernel, by decide +kernel⟩, by decide +kernel, by decide +kernel⟩, em_in (k := 834) (by decide +kernel), _, rfl, em_in (k := 835) (by decide +kernel)⟩
def iX1_isTown : Nat → Option (Nat × Nat × Int32 × Nat) := em_tr 12 (fun pc => (bif Nat.blt pc 6 then (bif Nat.blt pc 2 then (bif Nat.blt pc 1 then (bif Nat.beq pc 0 then some (4, 1, 0, 1) else none) else (bif Nat.beq pc 1 then some (0, 0, 0, 2) else none)) else (bif Nat.blt pc 3 then (bif Nat.beq pc 2 then some (8, 0, 0, 3) else none) else (bif Nat.beq pc 3 then some (33, 40, 0, 6) else none))) else (bif Nat.blt pc 8 then (bif Nat.blt pc 7 then (bif Nat.beq pc 6 then some (0, 0, 1, 7) else none) else (bif Nat.beq pc 7 then some (18, 0, 0, 8) else none)) else (bif Nat.blt pc 11 then (bif Nat.beq pc 8 then some (80, 43, 0, 11) else none) else (bif Nat.beq pc 11 then some (83, 0, 0, 12) else none)))))
def mX1_isTown : em_Me := ((RX1, yX1_isTown, cX1_isTown, 2, (some .boolean)), iX1_isTown, fX1, qX1)
theorem rX1_isTown_0 : em_ckR RX1 cX1_isTown iX1_isTown 0 12 = true := by decide +kernel
theorem kX1_isTown : em_ok mX1_isTown := em_okM (N := 12) rfl (fun pc hpc q hq => em_ckR_at rX1_isTown_0 (by omega) (by omega) hq) fX1_ok qX1_ok
theorem tX1_isTown : em_tV mX1_isTown 1 1 := ⟨⟨em_in (k := 508) (by decide +kernel), em_in (k := 6) (by decide +kernel), ⟨by decide +kernel, by decide +kernel⟩, by decide +kernel, by decide +kernel⟩, em_in (k := 506) (by decide +kernel), _, rfl, em_in (k := 507) (by decide +kernel)⟩
def iX1_addTown : Nat → Option (Nat × Nat × Int32 × Nat) := em_tr 98 (fun pc => (bif Nat.blt pc 54 then (bif Nat.blt pc 24 then (bif Nat.blt pc 11 then (bif Nat.blt pc 6 then (bif Nat.blt pc 1 then (bif Nat.beq pc 0 then some (8, 0, 0, 1) else none) else (bif Nat.blt pc 4 then (bif Nat.beq pc 1 then some (33, 40, 0, 4) else none) else (bif Nat.beq pc 4 then some (1, 0, 8, 6) else none))) else (bif Nat.blt pc 9 then (bif Nat.beq pc 6 then some (59, 20, 0, 9) else none) else (bif Nat.blt pc 10 then (bif Nat.beq pc 9 then some (4, 3, 0, 10) else none) else (bif Nat.beq pc 10 then some (0, 0, 0, 11) else none)))) else (bif Nat.blt pc 20 then (bif Nat.blt pc 14 then (bif Nat.beq pc 11 then some (2, 0, 10000, 14) else none) else (bif Nat.blt pc 17 then (bif Nat.beq pc 14 then some (80, 43, 0, 17) else none) else (bif Nat.beq pc 17 then some (51, 22, 0, 20) else none))) else (bif Nat.blt pc 22 then (bif Nat.blt pc 21 then (bif Nat.beq pc 20 then some (0, 0, (-1), 21) else none) else (bif Nat.beq pc 21 then some (83, 0, 0, 22) else none)) else (bif Nat.blt pc 23 then (bif Nat.beq pc 22 then some (4, 1, 0, 23) else none) else (bif Nat.beq pc 23 then some (0, 0, 0, 24) else none))))) else (bif Nat.blt pc 41 then (bif Nat.blt pc 33 then (bif Nat.blt pc 27 then (bif Nat.beq pc 24 then some (2, 0, 1000, 27) else none) else (bif Nat.blt pc 30 then (bif Nat.beq pc 27 then some (80, 43, 0, 30) else none) else (bif Nat.beq pc 30 then some (50, 44, 0, 33) else none))) else (bif Nat.blt pc 35 then (bif Nat.blt pc 34 then (bif Nat.beq pc 33 then some (4, 2, 0, 34) else none) else (bif Nat.beq pc 34 then some (4, 1, 0, 35) else none)) else (bif Nat.blt pc 38 then (bif Nat.beq pc 35 then some (2, 0, 1000, 38) else none) else (bif Nat.beq pc 38 then some (80, 43, 0, 41) else none)))) else (bif Nat.blt pc 46 then (bif Nat.blt pc 44 then (bif Nat.beq pc 41 then some (51, 46, 0, 44) else none) else (bif Nat.blt pc 45 then (bif Nat.beq pc 44 then some (0, 0, (-1), 45) else none) else (bif Nat.beq pc 45 then some (83, 0, 0, 46) else none))) else (bif Nat.blt pc 50 then (bif Nat.blt pc 47 then (bif Nat.beq pc 46 then some (8, 0, 0, 47) else none) else (bif Nat.beq pc 47 then some (33, 9, 0, 50) else none)) else (bif Nat.blt pc 51 then (bif Nat.beq pc 50 then some (8, 0, 0, 51) else none) else (bif Nat.beq pc 51 then some (33, 40, 0, 54) else none)))))) else (bif Nat.blt pc 76 then (bif Nat.blt pc 65 then (bif Nat.blt pc 57 then (bif Nat.blt pc 55 then (bif Nat.beq pc 54 then some (4, 1, 0, 55) else none) else (bif Nat.blt pc 56 then (bif Nat.beq pc 55 then some (66, 0, 0, 56) else none) else (bif Nat.beq pc 56 then some (8, 0, 0, 57) else none))) else (bif Nat.blt pc 61 then (bif Nat.blt pc 60 then (bif Nat.beq pc 57 then some (33, 15, 0, 60) else none) else (bif Nat.beq pc 60 then some (8, 0, 0, 61) else none)) else (bif Nat.blt pc 64 then (bif Nat.beq pc 61 then some (33, 40, 0, 64) else none) else (bif Nat.beq pc 64 then some (4, 2, 0, 65) else none)))) else (bif Nat.blt pc 70 then (bif Nat.blt pc 66 then (bif Nat.beq pc 65 then some (66, 0, 0, 66) else none) else (bif Nat.blt pc 67 then (bif Nat.beq pc 66 then some (8, 0, 0, 67) else none) else (bif Nat.beq pc 67 then some (33, 18, 0, 70) else none))) else (bif Nat.blt pc 74 then (bif Nat.blt pc 71 then (bif Nat.beq pc 70 then some (8, 0, 0, 71) else none) else (bif Nat.beq pc 71 then some (33, 40, 0, 74) else none)) else (bif Nat.blt pc 75 then (bif Nat.beq pc 74 then some (4, 3, 0, 75) else none) else (bif Nat.beq pc 75 then some (66, 0, 0, 76) else none))))) else (bif Nat.blt pc 87 then (bif Nat.blt pc 81 then (bif Nat.blt pc 77 then (bif Nat.beq pc 76 then some (8, 0, 0, 77) else none) else (bif Nat.blt pc 78 then (bif Nat.beq pc 77 then some (30, 0, 0, 78) else none) else (bif Nat.beq pc 78 then some (33, 40, 0, 81) else none))) else (bif Nat.blt pc 83 then (bif Nat.blt pc 82 then (bif Nat.beq pc 81 then some (0, 0, 1, 82) else none) else (bif Nat.beq pc 82 then some (17, 0, 0, 83) else none)) else (bif Nat.blt pc 86 then (bif Nat.beq pc 83 then some (74, 40, 0, 86) else none) else (bif Nat.beq pc 86 then some (8, 0, 0, 87) else none)))) else (bif Nat.blt pc 92 then (bif Nat.blt pc 88 then (bif Nat.beq pc 87 then some (0, 0, (-1), 88) else none) else (bif Nat.blt pc 91 then (bif Nat.beq pc 88 then some (74, 24, 0, 91) else none) else (bif Nat.beq pc 91 then some (8, 0, 0, 92) else none))) else (bif Nat.blt pc 96 then (bif Nat.blt pc 95 then (bif Nat.beq pc 92 then some (33, 40, 0, 95) else none) else (bif Nat.beq pc 95 then some (0, 0, 1, 96) else none)) else (bif Nat.blt pc 97 then (bif Nat.beq pc 96 then some (18, 0, 0, 97) else none) else (bif Nat.beq pc 97 then some (83, 0, 0, 98) else none))))))))
def mX1_addTown : em_Me := ((RX1, yX1_addTown, cX1_addTown, 4, (some .int)), iX1_addTown, fX1, qX1)
theorem rX1_addTown_0 : em_ckR RX1 cX1_addTown iX1_addTown 0 60 = true := by decide +kernel
theorem rX1_addTown_1 : em_ckR RX1 cX1_addTown iX1_addTown 60 38 = true := by decide +kernel
theorem kX1_addTown : em_ok mX1_addTown := em_okM (N := 98) rfl (fun pc hpc q hq => if h0 : pc < 60 then em_ckR_at rX1_addTown_0 (by omega) (by omega) hq else em_ckR_at rX1_addTown_1 (by omega) (by omega) hq) fX1_ok qX1_ok
theorem tX1_addTown : em_tV mX1_addTown 3 1 := ⟨⟨em_in (k := 495) (by decide +kernel), em_in (k := 6) (by decide +kernel), ⟨by decide +kernel, by decide +kernel⟩, by decide +kernel, by decide +kernel⟩, em_in (k := 493) (by decide +kernel), _, rfl, em_in (k := 494) (by decide +kernel)⟩
def iX1_setWay : Nat → Option (Nat × Nat × Int32 × Nat) := em_tr 64 (fun pc => (bif Nat.blt pc 37 then (bif Nat.blt pc 18 then (bif Nat.blt pc 9 then (bif Nat.blt pc 2 then (bif Nat.blt pc 1 then (bif Nat.beq pc 0 then some (8, 0, 0, 1) else none) else (bif Nat.beq pc 1 then some (4, 1, 0, 2) else none)) else (bif Nat.blt pc 5 then (bif Nat.beq pc 2 then some (81, 47, 0, 5) else none) else (bif Nat.blt pc 8 then (bif Nat.beq pc 5 then some (50, 31, 0, 8) else none) else (bif Nat.beq pc 8 then some (8, 0, 0, 9) else none)))) else (bif Nat.blt pc 13 then (bif Nat.blt pc 10 then (bif Nat.beq pc 9 then some (4, 2, 0, 10) else none) else (bif Nat.beq pc 10 then some (81, 47, 0, 13) else none)) else (bif Nat.blt pc 16 then (bif Nat.beq pc 13 then some (50, 31, 0, 16) else none) else (bif Nat.blt pc 17 then (bif Nat.beq pc 16 then some (4, 1, 0, 17) else none) else (bif Nat.beq pc 17 then some (4, 2, 0, 18) else none))))) else (bif Nat.blt pc 28 then (bif Nat.blt pc 22 then (bif Nat.blt pc 21 then (bif Nat.beq pc 18 then some (56, 31, 0, 21) else none) else (bif Nat.beq pc 21 then some (4, 3, 0, 22) else none)) else (bif Nat.blt pc 23 then (bif Nat.beq pc 22 then some (0, 0, 1, 23) else none) else (bif Nat.blt pc 25 then (bif Nat.beq pc 23 then some (1, 0, 60, 25) else none) else (bif Nat.beq pc 25 then some (80, 43, 0, 28) else none)))) else (bif Nat.blt pc 32 then (bif Nat.blt pc 31 then (bif Nat.beq pc 28 then some (51, 33, 0, 31) else none) else (bif Nat.beq pc 31 then some (0, 0, 0, 32) else none)) else (bif Nat.blt pc 33 then (bif Nat.beq pc 32 then some (83, 0, 0, 33) else none) else (bif Nat.blt pc 34 then (bif Nat.beq pc 33 then some (8, 0, 0, 34) else none) else (bif Nat.beq pc 34 then some (33, 21, 0, 37) else none)))))) else (bif Nat.blt pc 50 then (bif Nat.blt pc 43 then (bif Nat.blt pc 40 then (bif Nat.blt pc 38 then (bif Nat.beq pc 37 then some (4, 1, 0, 38) else none) else (bif Nat.beq pc 38 then some (1, 0, 8, 40) else none)) else (bif Nat.blt pc 41 then (bif Nat.beq pc 40 then some (19, 0, 0, 41) else none) else (bif Nat.blt pc 42 then (bif Nat.beq pc 41 then some (4, 2, 0, 42) else none) else (bif Nat.beq pc 42 then some (17, 0, 0, 43) else none)))) else (bif Nat.blt pc 45 then (bif Nat.blt pc 44 then (bif Nat.beq pc 43 then some (4, 3, 0, 44) else none) else (bif Nat.beq pc 44 then some (66, 0, 0, 45) else none)) else (bif Nat.blt pc 46 then (bif Nat.beq pc 45 then some (8, 0, 0, 46) else none) else (bif Nat.blt pc 49 then (bif Nat.beq pc 46 then some (33, 21, 0, 49) else none) else (bif Nat.beq pc 49 then some (4, 2, 0, 50) else none))))) else (bif Nat.blt pc 56 then (bif Nat.blt pc 53 then (bif Nat.blt pc 52 then (bif Nat.beq pc 50 then some (1, 0, 8, 52) else none) else (bif Nat.beq pc 52 then some (19, 0, 0, 53) else none)) else (bif Nat.blt pc 54 then (bif Nat.beq pc 53 then some (4, 1, 0, 54) else none) else (bif Nat.blt pc 55 then (bif Nat.beq pc 54 then some (17, 0, 0, 55) else none) else (bif Nat.beq pc 55 then some (4, 3, 0, 56) else none)))) else (bif Nat.blt pc 59 then (bif Nat.blt pc 57 then (bif Nat.beq pc 56 then some (66, 0, 0, 57) else none) else (bif Nat.blt pc 58 then (bif Nat.beq pc 57 then some (8, 0, 0, 58) else none) else (bif Nat.beq pc 58 then some (0, 0, (-1), 59) else none))) else (bif Nat.blt pc 62 then (bif Nat.beq pc 59 then some (74, 24, 0, 62) else none) else (bif Nat.blt pc 63 then (bif Nat.beq pc 62 then some (0, 0, 1, 63) else none) else (bif Nat.beq pc 63 then some (83, 0, 0, 64) else none))))))))
def mX1_setWay : em_Me := ((RX1, yX1_setWay, cX1_setWay, 4, (some .boolean)), iX1_setWay, fX1, qX1)
theorem rX1_setWay_0 : em_ckR RX1 cX1_setWay iX1_setWay 0 60 = true := by decide +kernel
theorem rX1_setWay_1 : em_ckR RX1 cX1_setWay iX1_setWay 60 4 = true := by decide +kernel
theorem kX1_setWay : em_ok mX1_setWay := em_okM (N := 64) rfl (fun pc hpc q hq => if h0 : pc < 60 then em_ckR_at rX1_setWay_0 (by omega) (by omega) hq else em_ckR_at rX1_setWay_1 (by omega) (by omega) hq) fX1_ok qX1_ok
theorem tX1_setWay : em_tV mX1_setWay 3 1 := ⟨⟨em_in (k := 504) (by decide +kernel), em_in (k := 6) (by decide +kernel), ⟨by decide +kernel, by decide +kernel⟩, by decide +kernel, by decide +kernel⟩, em_in (k := 502) (by decide +kernel), _, rfl, em_in (k := 503) (by decide +kernel)⟩
def iX1_setFodder : Nat → Option (Nat × Nat × Int32 × Nat) := em_tr 25 (fun pc => (bif Nat.blt pc 13 then (bif Nat.blt pc 5 then (bif Nat.blt pc 1 then (bif Nat.beq pc 0 then some (4, 1, 0, 1) else none) else (bif Nat.blt pc 2 then (bif Nat.beq pc 1 then some (0, 0, 0, 2) else none) else (bif Nat.beq pc 2 then some (2, 0, 1000, 5) else none))) else (bif Nat.blt pc 11 then (bif Nat.blt pc 8 then (bif Nat.beq pc 5 then some (80, 43, 0, 8) else none) else (bif Nat.beq pc 8 then some (51, 13, 0, 11) else none)) else (bif Nat.blt pc 12 then (bif Nat.beq pc 11 then some (0, 0, 0, 12) else none) else (bif Nat.beq pc 12 then some (83, 0, 0, 13) else none)))) else (bif Nat.blt pc 19 then (bif Nat.blt pc 15 then (bif Nat.blt pc 14 then (bif Nat.beq pc 13 then some (8, 0, 0, 14) else none) else (bif Nat.beq pc 14 then some (4, 1, 0, 15) else none)) else (bif Nat.blt pc 18 then (bif Nat.beq pc 15 then some (74, 51, 0, 18) else none) else (bif Nat.beq pc 18 then some (8, 0, 0, 19) else none))) else (bif Nat.blt pc 23 then (bif Nat.blt pc 20 then (bif Nat.beq pc 19 then some (0, 0, (-1), 20) else none) else (bif Nat.beq pc 20 then some (74, 24, 0, 23) else none)) else (bif Nat.blt pc 24 then (bif Nat.beq pc 23 then some (0, 0, 1, 24) else none) else (bif Nat.beq pc 24 then some (83, 0, 0, 25) else none))))))
def mX1_setFodder : em_Me := ((RX1, yX1_setFodder, cX1_setFodder, 2, (some .boolean)), iX1_setFodder, fX1, qX1)
theorem rX1_setFodder_0 : em_ckR RX1 cX1_setFodder iX1_setFodder 0 25 = true := by decide +kernel
theorem kX1_setFodder : em_ok mX1_setFodder := em_okM (N := 25) rfl (fun pc hpc q hq => em_ckR_at rX1_setFodder_0 (by omega) (by omega) hq) fX1_ok qX1_ok
theorem tX1_setFodder : em_tV mX1_setFodder 1 1 := ⟨⟨em_in (k := 516) (by decide +kernel), em_in (k := 6) (by decide +kernel), ⟨by decide +kernel, by decide +kernel⟩, by decide +kernel, by decide +kernel⟩, em_in (k := 514) (by decide +kernel), _, rfl, em_in (k := 515) (by decide +kernel)⟩
def iX1_bestBrings : Nat → Option (Nat × Nat × Int32 × Nat) := em_tr 18 (fun pc => (bif Nat.blt pc 9 then (bif Nat.blt pc 2 then (bif Nat.blt pc 1 then (bif Nat.beq pc 0 then some (8, 0, 0, 1) else none) else (bif Nat.beq pc 1 then some (4, 1, 0, 2) else none)) else (bif Nat.blt pc 3 then (bif Nat.beq pc 2 then some (4, 2, 0, 3) else none) else (bif Nat.blt pc 6 then (bif Nat.beq pc 3 then some (81, 54, 0, 6) else none) else (bif Nat.beq pc 6 then some (50, 16, 0, 9) else none)))) else (bif Nat.blt pc 13 then (bif Nat.blt pc 10 then (bif Nat.beq pc 9 then some (8, 0, 0, 10) else none) else (bif Nat.beq pc 10 then some (33, 58, 0, 13) else none)) else (bif Nat.blt pc 16 then (bif Nat.beq pc 13 then some (32, 17, 0, 16) else none) else (bif Nat.blt pc 17 then (bif Nat.beq pc 16 then some (0, 0, (-1), 17) else none) else (bif Nat.beq pc 17 then some (83, 0, 0, 18) else none))))))
def mX1_bestBrings : em_Me := ((RX1, yX1_bestBrings, cX1_bestBrings, 3, (some .int)), iX1_bestBrings, fX1, qX1)
theorem rX1_bestBrings_0 : em_ckR RX1 cX1_bestBrings iX1_bestBrings 0 18 = true := by decide +kernel
theorem kX1_bestBrings : em_ok mX1_bestBrings := em_okM (N := 18) rfl (fun pc hpc q hq => em_ckR_at rX1_bestBrings_0 (by omega) (by omega) hq) fX1_ok qX1_ok
theorem tX1_bestBrings : em_tV mX1_bestBrings 2 1 := ⟨⟨em_in (k := 524) (by decide +kernel), em_in (k := 6) (by decide +kernel), ⟨by decide +kernel, by decide +kernel⟩, by decide +kernel, by decide +kernel⟩, em_in (k := 522) (by decide +kernel), _, rfl, em_in (k := 523) (by decide +kernel)⟩
def iX1_bestStop : Nat → Option (Nat × Nat × Int32 × Nat) := em_tr 34 (fun pc => (bif Nat.blt pc 16 then (bif Nat.blt pc 9 then (bif Nat.blt pc 2 then (bif Nat.blt pc 1 then (bif Nat.beq pc 0 then some (8, 0, 0, 1) else none) else (bif Nat.beq pc 1 then some (4, 1, 0, 2) else none)) else (bif Nat.blt pc 3 then (bif Nat.beq pc 2 then some (4, 2, 0, 3) else none) else (bif Nat.blt pc 6 then (bif Nat.beq pc 3 then some (81, 54, 0, 6) else none) else (bif Nat.beq pc 6 then some (50, 32, 0, 9) else none)))) else (bif Nat.blt pc 11 then (bif Nat.blt pc 10 then (bif Nat.beq pc 9 then some (4, 3, 0, 10) else none) else (bif Nat.beq pc 10 then some (0, 0, 0, 11) else none)) else (bif Nat.blt pc 12 then (bif Nat.beq pc 11 then some (8, 0, 0, 12) else none) else (bif Nat.blt pc 15 then (bif Nat.beq pc 12 then some (33, 61, 0, 15) else none) else (bif Nat.beq pc 15 then some (0, 0, 1, 16) else none))))) else (bif Nat.blt pc 27 then (bif Nat.blt pc 20 then (bif Nat.blt pc 17 then (bif Nat.beq pc 16 then some (18, 0, 0, 17) else none) else (bif Nat.beq pc 17 then some (80, 43, 0, 20) else none)) else (bif Nat.blt pc 23 then (bif Nat.beq pc 20 then some (50, 32, 0, 23) else none) else (bif Nat.blt pc 24 then (bif Nat.beq pc 23 then some (8, 0, 0, 24) else none) else (bif Nat.beq pc 24 then some (33, 28, 0, 27) else none)))) else (bif Nat.blt pc 29 then (bif Nat.blt pc 28 then (bif Nat.beq pc 27 then some (4, 3, 0, 28) else none) else (bif Nat.beq pc 28 then some (62, 0, 0, 29) else none)) else (bif Nat.blt pc 32 then (bif Nat.beq pc 29 then some (32, 33, 0, 32) else none) else (bif Nat.blt pc 33 then (bif Nat.beq pc 32 then some (0, 0, (-1), 33) else none) else (bif Nat.beq pc 33 then some (83, 0, 0, 34) else none)))))))
def mX1_bestStop : em_Me := ((RX1, yX1_bestStop, cX1_bestStop, 4, (some .int)), iX1_bestStop, fX1, qX1)
theorem rX1_bestStop_0 : em_ckR RX1 cX1_bestStop iX1_bestStop 0 34 = true := by decide +kernel
theorem kX1_bestStop : em_ok mX1_bestStop := em_okM (N := 34) rfl (fun pc hpc q hq => em_ckR_at rX1_bestStop_0 (by omega) (by omega) hq) fX1_ok qX1_ok
theorem tX1_bestStop : em_tV mX1_bestStop 3 1 := ⟨⟨em_in (k := 559) (by decide +kernel), em_in (k := 6) (by decide +kernel), ⟨by decide +kernel, by decide +kernel⟩, by decide +kernel, by decide +kernel⟩, em_in (k := 557) (by decide +kernel), _, rfl, em_in (k := 558) (by decide +kernel)⟩
def iX1_plan : Nat → Option (Nat × Nat × Int32 × Nat) := em_tr 72 (fun pc => (bif Nat.blt pc 39 then (bif Nat.blt pc 20 then (bif Nat.blt pc 9 then (bif Nat.blt pc 2 then (bif Nat.blt pc 1 then (bif Nat.beq pc 0 then some (8, 0, 0, 1) else none) else (bif Nat.beq pc 1 then some (4, 1, 0, 2) else none)) else (bif Nat.blt pc 5 then (bif Nat.beq pc 2 then some (81, 47, 0, 5) else none) else (bif Nat.blt pc 8 then (bif Nat.beq pc 5 then some (50, 19, 0, 8) else none) else (bif Nat.beq pc 8 then some (4, 2, 0, 9) else none)))) else (bif Nat.blt pc 13 then (bif Nat.blt pc 10 then (bif Nat.beq pc 9 then some (0, 0, 0, 10) else none) else (bif Nat.beq pc 10 then some (2, 0, 1000, 13) else none)) else (bif Nat.blt pc 16 then (bif Nat.beq pc 13 then some (80, 43, 0, 16) else none) else (bif Nat.blt pc 19 then (bif Nat.beq pc 16 then some (51, 21, 0, 19) else none) else (bif Nat.beq pc 19 then some (0, 0, 0, 20) else none))))) else (bif Nat.blt pc 29 then (bif Nat.blt pc 22 then (bif Nat.blt pc 21 then (bif Nat.beq pc 20 then some (83, 0, 0, 21) else none) else (bif Nat.beq pc 21 then some (4, 1, 0, 22) else none)) else (bif Nat.blt pc 23 then (bif Nat.beq pc 22 then some (8, 0, 0, 23) else none) else (bif Nat.blt pc 26 then (bif Nat.beq pc 23 then some (33, 24, 0, 26) else none) else (bif Nat.beq pc 26 then some (57, 37, 0, 29) else none)))) else (bif Nat.blt pc 34 then (bif Nat.blt pc 30 then (bif Nat.beq pc 29 then some (4, 2, 0, 30) else none) else (bif Nat.blt pc 31 then (bif Nat.beq pc 30 then some (8, 0, 0, 31) else none) else (bif Nat.beq pc 31 then some (33, 64, 0, 34) else none))) else (bif Nat.blt pc 37 then (bif Nat.beq pc 34 then some (56, 70, 0, 37) else none) else (bif Nat.blt pc 38 then (bif Nat.beq pc 37 then some (8, 0, 0, 38) else none) else (bif Nat.beq pc 38 then some (4, 1, 0, 39) else none)))))) else (bif Nat.blt pc 57 then (bif Nat.blt pc 48 then (bif Nat.blt pc 43 then (bif Nat.blt pc 42 then (bif Nat.beq pc 39 then some (74, 24, 0, 42) else none) else (bif Nat.beq pc 42 then some (8, 0, 0, 43) else none)) else (bif Nat.blt pc 44 then (bif Nat.beq pc 43 then some (4, 2, 0, 44) else none) else (bif Nat.blt pc 47 then (bif Nat.beq pc 44 then some (74, 64, 0, 47) else none) else (bif Nat.beq pc 47 then some (8, 0, 0, 48) else none)))) else (bif Nat.blt pc 52 then (bif Nat.blt pc 49 then (bif Nat.beq pc 48 then some (0, 0, 0, 49) else none) else (bif Nat.beq pc 49 then some (74, 61, 0, 52) else none)) else (bif Nat.blt pc 53 then (bif Nat.beq pc 52 then some (8, 0, 0, 53) else none) else (bif Nat.blt pc 54 then (bif Nat.beq pc 53 then some (0, 0, 0, 54) else none) else (bif Nat.beq pc 54 then some (74, 58, 0, 57) else none))))) else (bif Nat.blt pc 64 then (bif Nat.blt pc 59 then (bif Nat.blt pc 58 then (bif Nat.beq pc 57 then some (8, 0, 0, 58) else none) else (bif Nat.beq pc 58 then some (0, 0, 0, 59) else none)) else (bif Nat.blt pc 62 then (bif Nat.beq pc 59 then some (74, 67, 0, 62) else none) else (bif Nat.blt pc 63 then (bif Nat.beq pc 62 then some (8, 0, 0, 63) else none) else (bif Nat.beq pc 63 then some (0, 0, 0, 64) else none)))) else (bif Nat.blt pc 67 then (bif Nat.blt pc 65 then (bif Nat.beq pc 64 then some (4, 1, 0, 65) else none) else (bif Nat.blt pc 66 then (bif Nat.beq pc 65 then some (4, 2, 0, 66) else none) else (bif Nat.beq pc 66 then some (0, 0, 0, 67) else none))) else (bif Nat.blt pc 70 then (bif Nat.beq pc 67 then some (81, 70, 0, 70) else none) else (bif Nat.blt pc 71 then (bif Nat.beq pc 70 then some (0, 0, 1, 71) else none) else (bif Nat.beq pc 71 then some (83, 0, 0, 72) else none))))))))
def mX1_plan : em_Me := ((RX1, yX1_plan, cX1_plan, 3, (some .boolean)), iX1_plan, fX1, qX1)
theorem rX1_plan_0 : em_ckR RX1 cX1_plan iX1_plan 0 60 = true := by decide +kernel
theorem rX1_plan_1 : em_ckR RX1 cX1_plan iX1_plan 60 12 = true := by decide +kernel
theorem kX1_plan : em_ok mX1_plan := em_okM (N := 72) rfl (fun pc hpc q hq => if h0 : pc < 60 then em_ckR_at rX1_plan_0 (by omega) (by omega) hq else em_ckR_at rX1_plan_1 (by omega) (by omega) hq) fX1_ok qX1_ok
theorem tX1_plan : em_tV mX1_plan 2 1 := ⟨⟨em_in (k := 528) (by decide +kernel), em_in (k := 6) (by decide +kernel), ⟨by decide +kernel, by decide +kernel⟩, by decide +kernel, by decide +kernel⟩, em_in (k := 527) (by decide +kernel), _, rfl, List.mem_append_left _ (by decide +kernel)⟩
def iX1_visit : Nat → Option (Nat × Nat × Int32 × Nat) := em_tr 124 (fun pc => (bif Nat.blt pc 64 then (bif Nat.blt pc 31 then (bif Nat.blt pc 16 then (bif Nat.blt pc 7 then (bif Nat.blt pc 3 then (bif Nat.blt pc 1 then (bif Nat.beq pc 0 then some (4, 1, 0, 1) else none) else (bif Nat.beq pc 1 then some (1, 0, 8, 3) else none)) else (bif Nat.blt pc 6 then (bif Nat.beq pc 3 then some (59, 16, 0, 6) else none) else (bif Nat.beq pc 6 then some (4, 3, 0, 7) else none))) else (bif Nat.blt pc 11 then (bif Nat.blt pc 8 then (bif Nat.beq pc 7 then some (8, 0, 0, 8) else none) else (bif Nat.beq pc 8 then some (33, 15, 0, 11) else none)) else (bif Nat.blt pc 12 then (bif Nat.beq pc 11 then some (4, 2, 0, 12) else none) else (bif Nat.blt pc 13 then (bif Nat.beq pc 12 then some (62, 0, 0, 13) else none) else (bif Nat.beq pc 13 then some (61, 17, 0, 16) else none))))) else (bif Nat.blt pc 23 then (bif Nat.blt pc 18 then (bif Nat.blt pc 17 then (bif Nat.beq pc 16 then some (86, 0, 0, 17) else none) else (bif Nat.beq pc 17 then some (4, 3, 0, 18) else none)) else (bif Nat.blt pc 19 then (bif Nat.beq pc 18 then some (8, 0, 0, 19) else none) else (bif Nat.blt pc 22 then (bif Nat.beq pc 19 then some (33, 9, 0, 22) else none) else (bif Nat.beq pc 22 then some (4, 2, 0, 23) else none)))) else (bif Nat.blt pc 27 then (bif Nat.blt pc 24 then (bif Nat.beq pc 23 then some (62, 0, 0, 24) else none) else (bif Nat.beq pc 24 then some (80, 74, 0, 27) else none)) else (bif Nat.blt pc 28 then (bif Nat.beq pc 27 then some (0, 0, 1, 28) else none) else (bif Nat.blt pc 29 then (bif Nat.beq pc 28 then some (17, 0, 0, 29) else none) else (bif Nat.beq pc 29 then some (11, 5, 0, 31) else none)))))) else (bif Nat.blt pc 48 then (bif Nat.blt pc 39 then (bif Nat.blt pc 34 then (bif Nat.blt pc 33 then (bif Nat.beq pc 31 then some (5, 4, 0, 33) else none) else (bif Nat.beq pc 33 then some (8, 0, 0, 34) else none)) else (bif Nat.blt pc 37 then (bif Nat.beq pc 34 then some (33, 18, 0, 37) else none) else (bif Nat.blt pc 38 then (bif Nat.beq pc 37 then some (4, 2, 0, 38) else none) else (bif Nat.beq pc 38 then some (62, 0, 0, 39) else none)))) else (bif Nat.blt pc 42 then (bif Nat.blt pc 40 then (bif Nat.beq pc 39 then some (17, 0, 0, 40) else none) else (bif Nat.beq pc 40 then some (11, 6, 0, 42) else none)) else (bif Nat.blt pc 44 then (bif Nat.beq pc 42 then some (5, 6, 0, 44) else none) else (bif Nat.blt pc 45 then (bif Nat.beq pc 44 then some (8, 0, 0, 45) else none) else (bif Nat.beq pc 45 then some (33, 51, 0, 48) else none))))) else (bif Nat.blt pc 56 then (bif Nat.blt pc 51 then (bif Nat.blt pc 50 then (bif Nat.beq pc 48 then some (5, 5, 0, 50) else none) else (bif Nat.beq pc 50 then some (8, 0, 0, 51) else none)) else (bif Nat.blt pc 54 then (bif Nat.beq pc 51 then some (33, 64, 0, 54) else none) else (bif Nat.blt pc 55 then (bif Nat.beq pc 54 then some (18, 0, 0, 55) else none) else (bif Nat.beq pc 55 then some (19, 0, 0, 56) else none)))) else (bif Nat.blt pc 59 then (bif Nat.blt pc 57 then (bif Nat.beq pc 56 then some (18, 0, 0, 57) else none) else (bif Nat.beq pc 57 then some (11, 7, 0, 59) else none)) else (bif Nat.blt pc 60 then (bif Nat.beq pc 59 then some (8, 0, 0, 60) else none) else (bif Nat.blt pc 63 then (bif Nat.beq pc 60 then some (33, 31, 0, 63) else none) else (bif Nat.beq pc 63 then some (4, 1, 0, 64) else none))))))) else (bif Nat.blt pc 91 then (bif Nat.blt pc 78 then (bif Nat.blt pc 71 then (bif Nat.blt pc 66 then (bif Nat.blt pc 65 then (bif Nat.beq pc 64 then some (4, 2, 0, 65) else none) else (bif Nat.beq pc 65 then some (66, 0, 0, 66) else none)) else (bif Nat.blt pc 67 then (bif Nat.beq pc 66 then some (8, 0, 0, 67) else none) else (bif Nat.blt pc 68 then (bif Nat.beq pc 67 then some (30, 0, 0, 68) else none) else (bif Nat.beq pc 68 then some (33, 67, 0, 71) else none)))) else (bif Nat.blt pc 73 then (bif Nat.blt pc 72 then (bif Nat.beq pc 71 then some (0, 0, 1, 72) else none) else (bif Nat.beq pc 72 then some (4, 2, 0, 73) else none)) else (bif Nat.blt pc 74 then (bif Nat.beq pc 73 then some (23, 0, 0, 74) else none) else (bif Nat.blt pc 75 then (bif Nat.beq pc 74 then some (21, 0, 0, 75) else none) else (bif Nat.beq pc 75 then some (74, 67, 0, 78) else none))))) else (bif Nat.blt pc 84 then (bif Nat.blt pc 80 then (bif Nat.blt pc 79 then (bif Nat.beq pc 78 then some (8, 0, 0, 79) else none) else (bif Nat.beq pc 79 then some (4, 1, 0, 80) else none)) else (bif Nat.blt pc 81 then (bif Nat.beq pc 80 then some (0, 0, 1, 81) else none) else (bif Nat.blt pc 82 then (bif Nat.beq pc 81 then some (17, 0, 0, 82) else none) else (bif Nat.beq pc 82 then some (5, 7, 0, 84) else none)))) else (bif Nat.blt pc 88 then (bif Nat.blt pc 87 then (bif Nat.beq pc 84 then some (81, 80, 0, 87) else none) else (bif Nat.beq pc 87 then some (8, 0, 0, 88) else none)) else (bif Nat.blt pc 89 then (bif Nat.beq pc 88 then some (4, 1, 0, 89) else none) else (bif Nat.blt pc 90 then (bif Nat.beq pc 89 then some (0, 0, 1, 90) else none) else (bif Nat.beq pc 90 then some (17, 0, 0, 91) else none)))))) else (bif Nat.blt pc 110 then (bif Nat.blt pc 101 then (bif Nat.blt pc 96 then (bif Nat.blt pc 93 then (bif Nat.beq pc 91 then some (5, 7, 0, 93) else none) else (bif Nat.beq pc 93 then some (81, 84, 0, 96) else none)) else (bif Nat.blt pc 99 then (bif Nat.beq pc 96 then some (50, 109, 0, 99) else none) else (bif Nat.blt pc 100 then (bif Nat.beq pc 99 then some (8, 0, 0, 100) else none) else (bif Nat.beq pc 100 then some (4, 1, 0, 101) else none)))) else (bif Nat.blt pc 104 then (bif Nat.blt pc 102 then (bif Nat.beq pc 101 then some (4, 2, 0, 102) else none) else (bif Nat.beq pc 102 then some (5, 5, 0, 104) else none)) else (bif Nat.blt pc 106 then (bif Nat.beq pc 104 then some (5, 6, 0, 106) else none) else (bif Nat.blt pc 109 then (bif Nat.beq pc 106 then some (81, 87, 0, 109) else none) else (bif Nat.beq pc 109 then some (8, 0, 0, 110) else none))))) else (bif Nat.blt pc 117 then (bif Nat.blt pc 114 then (bif Nat.blt pc 111 then (bif Nat.beq pc 110 then some (30, 0, 0, 111) else none) else (bif Nat.beq pc 111 then some (33, 67, 0, 114) else none)) else (bif Nat.blt pc 115 then (bif Nat.beq pc 114 then some (0, 0, 1, 115) else none) else (bif Nat.blt pc 116 then (bif Nat.beq pc 115 then some (4, 2, 0, 116) else none) else (bif Nat.beq pc 116 then some (23, 0, 0, 117) else none)))) else (bif Nat.blt pc 119 then (bif Nat.blt pc 118 then (bif Nat.beq pc 117 then some (0, 0, (-1), 118) else none) else (bif Nat.beq pc 118 then some (22, 0, 0, 119) else none)) else (bif Nat.blt pc 120 then (bif Nat.beq pc 119 then some (20, 0, 0, 120) else none) else (bif Nat.blt pc 123 then (bif Nat.beq pc 120 then some (74, 67, 0, 123) else none) else (bif Nat.beq pc 123 then some (86, 0, 0, 124) else none)))))))))
def mX1_visit : em_Me := ((RX1, yX1_visit, cX1_visit, 8, none), iX1_visit, fX1, qX1)
theorem rX1_visit_0 : em_ckR RX1 cX1_visit iX1_visit 0 60 = true := by decide +kernel
theorem rX1_visit_1 : em_ckR RX1 cX1_visit iX1_visit 60 60 = true := by decide +kernel
theorem rX1_visit_2 : em_ckR RX1 cX1_visit iX1_visit 120 4 = true := by decide +kernel
theorem kX1_visit : em_ok mX1_visit := em_okM (N := 124) rfl (fun pc hpc q hq => if h0 : pc < 60 then em_ckR_at rX1_visit_0 (by omega) (by omega) hq else if h1 : pc < 120 then em_ckR_at rX1_visit_1 (by omega) (by omega) hq else em_ckR_at rX1_visit_2 (by omega) (by omega) hq) fX1_ok qX1_ok
theorem tX1_visit : em_tV mX1_visit 4 1 := ⟨⟨em_in (k := 532) (by decide +kernel), em_in (k := 6) (by decide +kernel), ⟨by decide +kernel, by decide +kernel⟩, by decide +kernel, by decide +kernel⟩, em_in (k := 531) (by decide +kernel), _, rfl, List.mem_append_left _ (by decide +kernel)⟩
def iX1_goOn : Nat → Option (Nat × Nat × Int32 × Nat) := em_tr 56 (fun pc => (bif Nat.blt pc 28 then (bif Nat.blt pc 13 then (bif Nat.blt pc 5 then (bif Nat.blt pc 1 then (bif Nat.beq pc 0 then some (0, 0, 0, 1) else none) else (bif Nat.blt pc 3 then (bif Nat.beq pc 1 then some (11, 5, 0, 3) else none) else (bif Nat.beq pc 3 then some (5, 5, 0, 5) else none))) else (bif Nat.blt pc 9 then (bif Nat.blt pc 6 then (bif Nat.beq pc 5 then some (8, 0, 0, 6) else none) else (bif Nat.beq pc 6 then some (33, 40, 0, 9) else none)) else (bif Nat.blt pc 12 then (bif Nat.beq pc 9 then some (59, 55, 0, 12) else none) else (bif Nat.beq pc 12 then some (8, 0, 0, 13) else none)))) else (bif Nat.blt pc 24 then (bif Nat.blt pc 18 then (bif Nat.blt pc 16 then (bif Nat.beq pc 13 then some (33, 67, 0, 16) else none) else (bif Nat.beq pc 16 then some (5, 5, 0, 18) else none)) else (bif Nat.blt pc 21 then (bif Nat.beq pc 18 then some (80, 90, 0, 21) else none) else (bif Nat.beq pc 21 then some (51, 49, 0, 24) else none))) else (bif Nat.blt pc 26 then (bif Nat.blt pc 25 then (bif Nat.beq pc 24 then some (8, 0, 0, 25) else none) else (bif Nat.beq pc 25 then some (4, 1, 0, 26) else none)) else (bif Nat.blt pc 27 then (bif Nat.beq pc 26 then some (0, 0, 1, 27) else none) else (bif Nat.beq pc 27 then some (17, 0, 0, 28) else none))))) else (bif Nat.blt pc 41 then (bif Nat.blt pc 35 then (bif Nat.blt pc 31 then (bif Nat.blt pc 30 then (bif Nat.beq pc 28 then some (5, 5, 0, 30) else none) else (bif Nat.beq pc 30 then some (4, 3, 0, 31) else none)) else (bif Nat.blt pc 32 then (bif Nat.beq pc 31 then some (8, 0, 0, 32) else none) else (bif Nat.beq pc 32 then some (33, 21, 0, 35) else none))) else (bif Nat.blt pc 38 then (bif Nat.blt pc 36 then (bif Nat.beq pc 35 then some (4, 2, 0, 36) else none) else (bif Nat.beq pc 36 then some (1, 0, 8, 38) else none)) else (bif Nat.blt pc 39 then (bif Nat.beq pc 38 then some (19, 0, 0, 39) else none) else (bif Nat.beq pc 39 then some (5, 5, 0, 41) else none)))) else (bif Nat.blt pc 46 then (bif Nat.blt pc 43 then (bif Nat.blt pc 42 then (bif Nat.beq pc 41 then some (17, 0, 0, 42) else none) else (bif Nat.beq pc 42 then some (62, 0, 0, 43) else none)) else (bif Nat.blt pc 44 then (bif Nat.beq pc 43 then some (17, 0, 0, 44) else none) else (bif Nat.beq pc 44 then some (5, 4, 0, 46) else none))) else (bif Nat.blt pc 52 then (bif Nat.blt pc 49 then (bif Nat.beq pc 46 then some (81, 70, 0, 49) else none) else (bif Nat.beq pc 49 then some (16, 5, 1, 52) else none)) else (bif Nat.blt pc 55 then (bif Nat.beq pc 52 then some (32, 3, 0, 55) else none) else (bif Nat.beq pc 55 then some (86, 0, 0, 56) else none)))))))
def mX1_goOn : em_Me := ((RX1, yX1_goOn, cX1_goOn, 6, none), iX1_goOn, fX1, qX1)
theorem rX1_goOn_0 : em_ckR RX1 cX1_goOn iX1_goOn 0 56 = true := by decide +kernel
theorem kX1_goOn : em_ok mX1_goOn := em_okM (N := 56) rfl (fun pc hpc q hq => em_ckR_at rX1_goOn_0 (by omega) (by omega) hq) fX1_ok qX1_ok
theorem tX1_goOn : em_tV mX1_goOn 4 1 := ⟨⟨em_in (k := 551) (by decide +kernel), em_in (k := 6) (by decide +kernel), ⟨by decide +kernel, by decide +kernel⟩, by decide +kernel, by decide +kernel⟩, em_in (k := 550) (by decide +kernel), _, rfl, List.mem_append_left _ (by decide +kernel)⟩
def iX1_keepIfBetter : Nat → Option (Nat × Nat × Int32 × Nat) := em_tr 34 (fun pc => (bif Nat.blt pc 16 then (bif Nat.blt pc 9 then (bif Nat.blt pc 2 then (bif Nat.blt pc 1 then (bif Nat.beq pc 0 then some (8, 0, 0, 1) else none) else (bif Nat.beq pc 1 then some (4, 1, 0, 2) else none)) else (bif Nat.blt pc 3 then (bif Nat.beq pc 2 then some (4, 2, 0, 3) else none) else (bif Nat.blt pc 6 then (bif Nat.beq pc 3 then some (81, 93, 0, 6) else none) else (bif Nat.beq pc 6 then some (50, 33, 0, 9) else none)))) else (bif Nat.blt pc 11 then (bif Nat.blt pc 10 then (bif Nat.beq pc 9 then some (8, 0, 0, 10) else none) else (bif Nat.beq pc 10 then some (4, 1, 0, 11) else none)) else (bif Nat.blt pc 14 then (bif Nat.beq pc 11 then some (74, 61, 0, 14) else none) else (bif Nat.blt pc 15 then (bif Nat.beq pc 14 then some (8, 0, 0, 15) else none) else (bif Nat.beq pc 15 then some (4, 2, 0, 16) else none))))) else (bif Nat.blt pc 25 then (bif Nat.blt pc 20 then (bif Nat.blt pc 19 then (bif Nat.beq pc 16 then some (74, 58, 0, 19) else none) else (bif Nat.beq pc 19 then some (8, 0, 0, 20) else none)) else (bif Nat.blt pc 23 then (bif Nat.beq pc 20 then some (33, 31, 0, 23) else none) else (bif Nat.blt pc 24 then (bif Nat.beq pc 23 then some (0, 0, 0, 24) else none) else (bif Nat.beq pc 24 then some (8, 0, 0, 25) else none)))) else (bif Nat.blt pc 29 then (bif Nat.blt pc 28 then (bif Nat.beq pc 25 then some (33, 28, 0, 28) else none) else (bif Nat.beq pc 28 then some (0, 0, 0, 29) else none)) else (bif Nat.blt pc 30 then (bif Nat.beq pc 29 then some (4, 1, 0, 30) else none) else (bif Nat.blt pc 33 then (bif Nat.beq pc 30 then some (80, 96, 0, 33) else none) else (bif Nat.beq pc 33 then some (86, 0, 0, 34) else none)))))))
def mX1_keepIfBetter : em_Me := ((RX1, yX1_keepIfBetter, cX1_keepIfBetter, 3, none), iX1_keepIfBetter, fX1, qX1)
theorem rX1_keepIfBetter_0 : em_ckR RX1 cX1_keepIfBetter iX1_keepIfBetter 0 34 = true := by decide +kernel
theorem kX1_keepIfBetter : em_ok mX1_keepIfBetter := em_okM (N := 34) rfl (fun pc hpc q hq => em_ckR_at rX1_keepIfBetter_0 (by omega) (by omega) hq) fX1_ok qX1_ok
theorem tX1_keepIfBetter : em_tV mX1_keepIfBetter 2 1 := ⟨⟨em_in (k := 537) (by decide +kernel), em_in (k := 6) (by decide +kernel), ⟨by decide +kernel, by decide +kernel⟩, by decide +kernel, by decide +kernel⟩, em_in (k := 536) (by decide +kernel), _, rfl, List.mem_append_left _ (by decide +kernel)⟩
def iX1_isBetter : Nat → Option (Nat × Nat × Int32 × Nat) := em_tr 30 (fun pc => (bif Nat.blt pc 16 then (bif Nat.blt pc 8 then (bif Nat.blt pc 2 then (bif Nat.blt pc 1 then (bif Nat.beq pc 0 then some (4, 2, 0, 1) else none) else (bif Nat.beq pc 1 then some (8, 0, 0, 2) else none)) else (bif Nat.blt pc 5 then (bif Nat.beq pc 2 then some (33, 58, 0, 5) else none) else (bif Nat.beq pc 5 then some (60, 24, 0, 8) else none))) else (bif Nat.blt pc 10 then (bif Nat.blt pc 9 then (bif Nat.beq pc 8 then some (4, 2, 0, 9) else none) else (bif Nat.beq pc 9 then some (8, 0, 0, 10) else none)) else (bif Nat.blt pc 13 then (bif Nat.beq pc 10 then some (33, 58, 0, 13) else none) else (bif Nat.beq pc 13 then some (57, 28, 0, 16) else none)))) else (bif Nat.blt pc 24 then (bif Nat.blt pc 18 then (bif Nat.blt pc 17 then (bif Nat.beq pc 16 then some (4, 1, 0, 17) else none) else (bif Nat.beq pc 17 then some (8, 0, 0, 18) else none)) else (bif Nat.blt pc 21 then (bif Nat.beq pc 18 then some (33, 61, 0, 21) else none) else (bif Nat.beq pc 21 then some (59, 28, 0, 24) else none))) else (bif Nat.blt pc 28 then (bif Nat.blt pc 25 then (bif Nat.beq pc 24 then some (0, 0, 1, 25) else none) else (bif Nat.beq pc 25 then some (32, 29, 0, 28) else none)) else (bif Nat.blt pc 29 then (bif Nat.beq pc 28 then some (0, 0, 0, 29) else none) else (bif Nat.beq pc 29 then some (83, 0, 0, 30) else none))))))
def mX1_isBetter : em_Me := ((RX1, yX1_isBetter, cX1_isBetter, 3, (some .boolean)), iX1_isBetter, fX1, qX1)
theorem rX1_isBetter_0 : em_ckR RX1 cX1_isBetter iX1_isBetter 0 30 = true := by decide +kernel
theorem kX1_isBetter : em_ok mX1_isBetter := em_okM (N := 30) rfl (fun pc hpc q hq => em_ckR_at rX1_isBetter_0 (by omega) (by omega) hq) fX1_ok qX1_ok
theorem tX1_isBetter : em_tV mX1_isBetter 2 1 := ⟨⟨em_in (k := 541) (by decide +kernel), em_in (k := 6) (by decide +kernel), ⟨by decide +kernel, by decide +kernel⟩, by decide +kernel, by decide +kernel⟩, em_in (k := 540) (by decide +kernel), _, rfl, List.mem_append_left _ (by decide +kernel)⟩
def iX1_mayGetBetter : Nat → Option (Nat × Nat × Int32 × Nat) := em_tr 68 (fun pc => (bif Nat.blt pc 33 then (bif Nat.blt pc 11 then (bif Nat.blt pc 5 then (bif Nat.blt pc 2 then (bif Nat.blt pc 1 then (bif Nat.beq pc 0 then some (4, 1, 0, 1) else none) else (bif Nat.beq pc 1 then some (10, 3, 0, 2) else none)) else (bif Nat.blt pc 3 then (bif Nat.beq pc 2 then some (4, 2, 0, 3) else none) else (bif Nat.beq pc 3 then some (11, 4, 0, 5) else none))) else (bif Nat.blt pc 8 then (bif Nat.blt pc 6 then (bif Nat.beq pc 5 then some (0, 0, 0, 6) else none) else (bif Nat.beq pc 6 then some (11, 5, 0, 8) else none)) else (bif Nat.blt pc 10 then (bif Nat.beq pc 8 then some (5, 5, 0, 10) else none) else (bif Nat.beq pc 10 then some (8, 0, 0, 11) else none)))) else (bif Nat.blt pc 21 then (bif Nat.blt pc 17 then (bif Nat.blt pc 14 then (bif Nat.beq pc 11 then some (33, 40, 0, 14) else none) else (bif Nat.beq pc 14 then some (59, 60, 0, 17) else none)) else (bif Nat.blt pc 18 then (bif Nat.beq pc 17 then some (8, 0, 0, 18) else none) else (bif Nat.beq pc 18 then some (33, 67, 0, 21) else none))) else (bif Nat.blt pc 26 then (bif Nat.blt pc 23 then (bif Nat.beq pc 21 then some (5, 5, 0, 23) else none) else (bif Nat.beq pc 23 then some (80, 90, 0, 26) else none)) else (bif Nat.blt pc 29 then (bif Nat.beq pc 26 then some (51, 54, 0, 29) else none) else (bif Nat.blt pc 30 then (bif Nat.beq pc 29 then some (8, 0, 0, 30) else none) else (bif Nat.beq pc 30 then some (33, 18, 0, 33) else none)))))) else (bif Nat.blt pc 51 then (bif Nat.blt pc 42 then (bif Nat.blt pc 36 then (bif Nat.blt pc 35 then (bif Nat.beq pc 33 then some (5, 5, 0, 35) else none) else (bif Nat.beq pc 35 then some (62, 0, 0, 36) else none)) else (bif Nat.blt pc 39 then (bif Nat.beq pc 36 then some (55, 54, 0, 39) else none) else (bif Nat.beq pc 39 then some (16, 3, 1, 42) else none))) else (bif Nat.blt pc 45 then (bif Nat.blt pc 44 then (bif Nat.beq pc 42 then some (5, 4, 0, 44) else none) else (bif Nat.beq pc 44 then some (8, 0, 0, 45) else none)) else (bif Nat.blt pc 48 then (bif Nat.beq pc 45 then some (33, 18, 0, 48) else none) else (bif Nat.blt pc 50 then (bif Nat.beq pc 48 then some (5, 5, 0, 50) else none) else (bif Nat.beq pc 50 then some (62, 0, 0, 51) else none))))) else (bif Nat.blt pc 60 then (bif Nat.blt pc 54 then (bif Nat.blt pc 52 then (bif Nat.beq pc 51 then some (17, 0, 0, 52) else none) else (bif Nat.beq pc 52 then some (11, 4, 0, 54) else none)) else (bif Nat.blt pc 57 then (bif Nat.beq pc 54 then some (16, 5, 1, 57) else none) else (bif Nat.beq pc 57 then some (32, 8, 0, 60) else none))) else (bif Nat.blt pc 62 then (bif Nat.blt pc 61 then (bif Nat.beq pc 60 then some (8, 0, 0, 61) else none) else (bif Nat.beq pc 61 then some (4, 3, 0, 62) else none)) else (bif Nat.blt pc 64 then (bif Nat.beq pc 62 then some (5, 4, 0, 64) else none) else (bif Nat.blt pc 67 then (bif Nat.beq pc 64 then some (81, 93, 0, 67) else none) else (bif Nat.beq pc 67 then some (83, 0, 0, 68) else none))))))))
def mX1_mayGetBetter : em_Me := ((RX1, yX1_mayGetBetter, cX1_mayGetBetter, 6, (some .boolean)), iX1_mayGetBetter, fX1, qX1)
theorem rX1_mayGetBetter_0 : em_ckR RX1 cX1_mayGetBetter iX1_mayGetBetter 0 60 = true := by decide +kernel
theorem rX1_mayGetBetter_1 : em_ckR RX1 cX1_mayGetBetter iX1_mayGetBetter 60 8 = true := by decide +kernel
theorem kX1_mayGetBetter : em_ok mX1_mayGetBetter := em_okM (N := 68) rfl (fun pc hpc q hq => if h0 : pc < 60 then em_ckR_at rX1_mayGetBetter_0 (by omega) (by omega) hq else em_ckR_at rX1_mayGetBetter_1 (by omega) (by omega) hq) fX1_ok qX1_ok
theorem tX1_mayGetBetter : em_tV mX1_mayGetBetter 2 1 := ⟨⟨em_in (k := 546) (by decide +kernel), em_in (k := 6) (by decide +kernel), ⟨by decide +kernel, by decide +kernel⟩, by decide +kernel, by decide +kernel⟩, em_in (k := 545) (by decide +kernel), _, rfl, List.mem_append_left _ (by decide +kernel)⟩
def iX2_init : Nat → Option (Nat × Nat × Int32 × Nat) := em_tr 34 (fun pc => (bif Nat.blt pc 17 then (bif Nat.blt pc 7 then (bif Nat.blt pc 4 then (bif Nat.blt pc 1 then (bif Nat.beq pc 0 then some (8, 0, 0, 1) else none) else (bif Nat.beq pc 1 then some (82, 3, 0, 4) else none)) else (bif Nat.blt pc 5 then (bif Nat.beq pc 4 then some (8, 0, 0, 5) else none) else (bif Nat.beq pc 5 then some (1, 0, 64, 7) else none))) else (bif Nat.blt pc 12 then (bif Nat.blt pc 9 then (bif Nat.beq pc 7 then some (78, 0, 0, 9) else none) else (bif Nat.beq pc 9 then some (74, 9, 0, 12) else none)) else (bif Nat.blt pc 13 then (bif Nat.beq pc 12 then some (8, 0, 0, 13) else none) else (bif Nat.blt pc 15 then (bif Nat.beq pc 13 then some (1, 0, 64, 15) else none) else (bif Nat.beq pc 15 then some (77, 0, 0, 17) else none))))) else (bif Nat.blt pc 25 then (bif Nat.blt pc 21 then (bif Nat.blt pc 20 then (bif Nat.beq pc 17 then some (74, 15, 0, 20) else none) else (bif Nat.beq pc 20 then some (8, 0, 0, 21) else none)) else (bif Nat.blt pc 23 then (bif Nat.beq pc 21 then some (1, 0, 64, 23) else none) else (bif Nat.beq pc 23 then some (77, 0, 0, 25) else none))) else (bif Nat.blt pc 29 then (bif Nat.blt pc 28 then (bif Nat.beq pc 25 then some (74, 19, 0, 28) else none) else (bif Nat.beq pc 28 then some (8, 0, 0, 29) else none)) else (bif Nat.blt pc 30 then (bif Nat.beq pc 29 then some (0, 0, (-1), 30) else none) else (bif Nat.blt pc 33 then (bif Nat.beq pc 30 then some (74, 22, 0, 33) else none) else (bif Nat.beq pc 33 then some (86, 0, 0, 34) else none)))))))
def mX2_init : em_Me := ((RX2, yX2_init, cX2_init, 1, none), iX2_init, fX2, qX2)
theorem rX2_init_0 : em_ckR RX2 cX2_init iX2_init 0 34 = true := by decide +kernel
theorem kX2_init : em_ok mX2_init := em_okM (N := 34) rfl (fun pc hpc q hq => em_ckR_at rX2_init_0 (by omega) (by omega) hq) fX2_ok qX2_ok
theorem tX2_init : em_tI mX2_init 0 := ⟨⟨em_in (k := 200) (by decide +kernel), em_in (k := 9) (by decide +kernel), ⟨by decide +kernel, by decide +kernel⟩, by decide +kernel, by decide +kernel⟩, em_in (k := 199) (by decide +kernel), rfl, rfl⟩
def iX2_beastAway : Nat → Option (Nat × Nat × Int32 × Nat) := em_tr 5 (fun pc => (bif Nat.blt pc 1 then (bif Nat.beq pc 0 then some (8, 0, 0, 1) else none) else (bif Nat.blt pc 4 then (bif Nat.beq pc 1 then some (33, 22, 0, 4) else none) else (bif Nat.beq pc 4 then some (83, 0, 0, 5) else none))))
def mX2_beastAway : em_Me := ((RX2, yX2_beastAway, cX2_beastAway, 1, (some .int)), iX2_beastAway, fX2, qX2)
theorem rX2_beastAway_0 : em_ckR RX2 cX2_beastAway iX2_beastAway 0 5 = true := by decide +kernel
theorem kX2_beastAway : em_ok mX2_beastAway := em_okM (N := 5) rfl (fun pc hpc q hq => em_ckR_at rX2_beastAway_0 (by omega) (by omega) hq) fX2_ok qX2_ok
theorem tX2_beastAway : em_tV mX2_beastAway 0 2 := ⟨⟨em_in (k := 840) (by decide +kernel), em_in (k := 9) (by decide +kernel), ⟨by decide +kernel, by decide +kernel⟩, by decide +kernel, by decide +kernel⟩, em_in (k := 838) (by decide +kernel), _, rfl, em_in (k := 839) (by decide +kernel)⟩
def iX2_hoursGone : Nat → Option (Nat × Nat × Int32 × Nat) := em_tr 5 (fun pc => (bif Nat.blt pc 1 then (bif Nat.beq pc 0 then some (8, 0, 0, 1) else none) else (bif Nat.blt pc 4 then (bif Nat.beq pc 1 then some (33, 26, 0, 4) else none) else (bif Nat.beq pc 4 then some (83, 0, 0, 5) else none))))
def mX2_hoursGone : em_Me := ((RX2, yX2_hoursGone, cX2_hoursGone, 1, (some .int)), iX2_hoursGone, fX2, qX2)
theorem rX2_hoursGone_0 : em_ckR RX2 cX2_hoursGone iX2_hoursGone 0 5 = true := by decide +kernel
theorem kX2_hoursGone : em_ok mX2_hoursGone := em_okM (N := 5) rfl (fun pc hpc q hq => em_ckR_at rX2_hoursGone_0 (by omega) (by omega) hq) fX2_ok qX2_ok
theorem tX2_hoursGone : em_tV mX2_hoursGone 0 2 := ⟨⟨em_in (k := 844) (by decide +kernel), em_in (k := 9) (by decide +kernel), ⟨by decide +kernel, by decide +kernel⟩, by decide +kernel, by decide +kernel⟩, em_in (k := 842) (by decide +kernel), _, rfl, em_in (k := 843) (by decide +kernel)⟩
def iX2_setWall : Nat → Option (Nat × Nat × Int32 × Nat) := em_tr 36 (fun pc => (bif Nat.blt pc 21 then (bif Nat.blt pc 9 then (bif Nat.blt pc 4 then (bif Nat.blt pc 1 then (bif Nat.beq pc 0 then some (8, 0, 0, 1) else none) else (bif Nat.beq pc 1 then some (33, 22, 0, 4) else none)) else (bif Nat.blt pc 5 then (bif Nat.beq pc 4 then some (0, 0, (-1), 5) else none) else (bif Nat.blt pc 8 then (bif Nat.beq pc 5 then some (57, 25, 0, 8) else none) else (bif Nat.beq pc 8 then some (4, 1, 0, 9) else none)))) else (bif Nat.blt pc 16 then (bif Nat.blt pc 12 then (bif Nat.beq pc 9 then some (80, 29, 0, 12) else none) else (bif Nat.blt pc 15 then (bif Nat.beq pc 12 then some (50, 25, 0, 15) else none) else (bif Nat.beq pc 15 then some (8, 0, 0, 16) else none))) else (bif Nat.blt pc 19 then (bif Nat.beq pc 16 then some (33, 9, 0, 19) else none) else (bif Nat.blt pc 20 then (bif Nat.beq pc 19 then some (4, 1, 0, 20) else none) else (bif Nat.beq pc 20 then some (63, 0, 0, 21) else none))))) else (bif Nat.blt pc 28 then (bif Nat.blt pc 25 then (bif Nat.blt pc 22 then (bif Nat.beq pc 21 then some (4, 2, 0, 22) else none) else (bif Nat.beq pc 22 then some (57, 27, 0, 25) else none)) else (bif Nat.blt pc 26 then (bif Nat.beq pc 25 then some (0, 0, 0, 26) else none) else (bif Nat.blt pc 27 then (bif Nat.beq pc 26 then some (83, 0, 0, 27) else none) else (bif Nat.beq pc 27 then some (8, 0, 0, 28) else none)))) else (bif Nat.blt pc 33 then (bif Nat.blt pc 31 then (bif Nat.beq pc 28 then some (33, 9, 0, 31) else none) else (bif Nat.blt pc 32 then (bif Nat.beq pc 31 then some (4, 1, 0, 32) else none) else (bif Nat.beq pc 32 then some (4, 2, 0, 33) else none))) else (bif Nat.blt pc 34 then (bif Nat.beq pc 33 then some (67, 0, 0, 34) else none) else (bif Nat.blt pc 35 then (bif Nat.beq pc 34 then some (0, 0, 1, 35) else none) else (bif Nat.beq pc 35 then some (83, 0, 0, 36) else none)))))))
def mX2_setWall : em_Me := ((RX2, yX2_setWall, cX2_setWall, 3, (some .boolean)), iX2_setWall, fX2, qX2)
theorem rX2_setWall_0 : em_ckR RX2 cX2_setWall iX2_setWall 0 36 = true := by decide +kernel
theorem kX2_setWall : em_ok mX2_setWall := em_okM (N := 36) rfl (fun pc hpc q hq => em_ckR_at rX2_setWall_0 (by omega) (by omega) hq) fX2_ok qX2_ok
theorem tX2_setWall : em_tV mX2_setWall 2 2 := ⟨⟨em_in (k := 743) (by decide +kernel), em_in (k := 9) (by decide +kernel), ⟨by decide +kernel, by decide +kernel⟩, by decide +kernel, by decide +kernel⟩, em_in (k := 741) (by decide +kernel), _, rfl, em_in (k := 742) (by decide +kernel)⟩
def iX2_lose : Nat → Option (Nat × Nat × Int32 × Nat) := em_tr 53 (fun pc => (bif Nat.blt pc 27 then (bif Nat.blt pc 15 then (bif Nat.blt pc 5 then (bif Nat.blt pc 1 then (bif Nat.beq pc 0 then some (8, 0, 0, 1) else none) else (bif Nat.blt pc 4 then (bif Nat.beq pc 1 then some (33, 22, 0, 4) else none) else (bif Nat.beq pc 4 then some (0, 0, (-1), 5) else none))) else (bif Nat.blt pc 9 then (bif Nat.blt pc 8 then (bif Nat.beq pc 5 then some (57, 24, 0, 8) else none) else (bif Nat.beq pc 8 then some (4, 2, 0, 9) else none)) else (bif Nat.blt pc 12 then (bif Nat.beq pc 9 then some (80, 29, 0, 12) else none) else (bif Nat.beq pc 12 then some (50, 24, 0, 15) else none)))) else (bif Nat.blt pc 21 then (bif Nat.blt pc 19 then (bif Nat.blt pc 16 then (bif Nat.beq pc 15 then some (8, 0, 0, 16) else none) else (bif Nat.beq pc 16 then some (33, 9, 0, 19) else none)) else (bif Nat.blt pc 20 then (bif Nat.beq pc 19 then some (4, 2, 0, 20) else none) else (bif Nat.beq pc 20 then some (63, 0, 0, 21) else none))) else (bif Nat.blt pc 25 then (bif Nat.blt pc 24 then (bif Nat.beq pc 21 then some (50, 26, 0, 24) else none) else (bif Nat.beq pc 24 then some (0, 0, 0, 25) else none)) else (bif Nat.blt pc 26 then (bif Nat.beq pc 25 then some (83, 0, 0, 26) else none) else (bif Nat.beq pc 26 then some (8, 0, 0, 27) else none))))) else (bif Nat.blt pc 41 then (bif Nat.blt pc 33 then (bif Nat.blt pc 31 then (bif Nat.blt pc 28 then (bif Nat.beq pc 27 then some (4, 1, 0, 28) else none) else (bif Nat.beq pc 28 then some (74, 22, 0, 31) else none)) else (bif Nat.blt pc 32 then (bif Nat.beq pc 31 then some (8, 0, 0, 32) else none) else (bif Nat.beq pc 32 then some (0, 0, 0, 33) else none))) else (bif Nat.blt pc 37 then (bif Nat.blt pc 36 then (bif Nat.beq pc 33 then some (74, 26, 0, 36) else none) else (bif Nat.beq pc 36 then some (8, 0, 0, 37) else none)) else (bif Nat.blt pc 40 then (bif Nat.beq pc 37 then some (33, 15, 0, 40) else none) else (bif Nat.beq pc 40 then some (3, 0, 0, 41) else none)))) else (bif Nat.blt pc 49 then (bif Nat.blt pc 45 then (bif Nat.blt pc 44 then (bif Nat.beq pc 41 then some (80, 33, 0, 44) else none) else (bif Nat.beq pc 44 then some (8, 0, 0, 45) else none)) else (bif Nat.blt pc 48 then (bif Nat.beq pc 45 then some (33, 15, 0, 48) else none) else (bif Nat.beq pc 48 then some (4, 2, 0, 49) else none))) else (bif Nat.blt pc 51 then (bif Nat.blt pc 50 then (bif Nat.beq pc 49 then some (3, 1, 0, 50) else none) else (bif Nat.beq pc 50 then some (68, 0, 0, 51) else none)) else (bif Nat.blt pc 52 then (bif Nat.beq pc 51 then some (0, 0, 1, 52) else none) else (bif Nat.beq pc 52 then some (83, 0, 0, 53) else none)))))))
def mX2_lose : em_Me := ((RX2, yX2_lose, cX2_lose, 3, (some .boolean)), iX2_lose, fX2, qX2)
theorem rX2_lose_0 : em_ckR RX2 cX2_lose iX2_lose 0 53 = true := by decide +kernel
theorem kX2_lose : em_ok mX2_lose := em_okM (N := 53) rfl (fun pc hpc q hq => em_ckR_at rX2_lose_0 (by omega) (by omega) hq) fX2_ok qX2_ok
theorem tX2_lose : em_tV mX2_lose 2 2 := ⟨⟨em_in (k := 756) (by decide +kernel), em_in (k := 9) (by decide +kernel), ⟨by decide +kernel, by decide +kernel⟩, by decide +kernel, by decide +kernel⟩, em_in (k := 754) (by decide +kernel), _, rfl, em_in (k := 755) (by decide +kernel)⟩
def iX2_passHour : Nat → Option (Nat × Nat × Int32 × Nat) := em_tr 76 (fun pc => (bif Nat.blt pc 36 then (bif Nat.blt pc 19 then (bif Nat.blt pc 9 then (bif Nat.blt pc 4 then (bif Nat.blt pc 1 then (bif Nat.beq pc 0 then some (8, 0, 0, 1) else none) else (bif Nat.beq pc 1 then some (33, 22, 0, 4) else none)) else (bif Nat.blt pc 5 then (bif Nat.beq pc 4 then some (0, 0, (-1), 5) else none) else (bif Nat.blt pc 8 then (bif Nat.beq pc 5 then some (56, 17, 0, 8) else none) else (bif Nat.beq pc 8 then some (8, 0, 0, 9) else none)))) else (bif Nat.blt pc 14 then (bif Nat.blt pc 12 then (bif Nat.beq pc 9 then some (33, 26, 0, 12) else none) else (bif Nat.beq pc 12 then some (1, 0, 20, 14) else none)) else (bif Nat.blt pc 17 then (bif Nat.beq pc 14 then some (58, 19, 0, 17) else none) else (bif Nat.blt pc 18 then (bif Nat.beq pc 17 then some (0, 0, (-1), 18) else none) else (bif Nat.beq pc 18 then some (83, 0, 0, 19) else none))))) else (bif Nat.blt pc 28 then (bif Nat.blt pc 23 then (bif Nat.blt pc 20 then (bif Nat.beq pc 19 then some (8, 0, 0, 20) else none) else (bif Nat.beq pc 20 then some (33, 19, 0, 23) else none)) else (bif Nat.blt pc 24 then (bif Nat.beq pc 23 then some (3, 0, 0, 24) else none) else (bif Nat.blt pc 27 then (bif Nat.beq pc 24 then some (80, 33, 0, 27) else none) else (bif Nat.beq pc 27 then some (0, 0, 0, 28) else none)))) else (bif Nat.blt pc 30 then (bif Nat.blt pc 29 then (bif Nat.beq pc 28 then some (10, 1, 0, 29) else none) else (bif Nat.beq pc 29 then some (4, 1, 0, 30) else none)) else (bif Nat.blt pc 32 then (bif Nat.beq pc 30 then some (1, 0, 64, 32) else none) else (bif Nat.blt pc 35 then (bif Nat.beq pc 32 then some (59, 46, 0, 35) else none) else (bif Nat.beq pc 35 then some (8, 0, 0, 36) else none)))))) else (bif Nat.blt pc 56 then (bif Nat.blt pc 47 then (bif Nat.blt pc 40 then (bif Nat.blt pc 37 then (bif Nat.beq pc 36 then some (4, 1, 0, 37) else none) else (bif Nat.beq pc 37 then some (81, 39, 0, 40) else none)) else (bif Nat.blt pc 43 then (bif Nat.beq pc 40 then some (16, 1, 1, 43) else none) else (bif Nat.blt pc 46 then (bif Nat.beq pc 43 then some (32, 29, 0, 46) else none) else (bif Nat.beq pc 46 then some (8, 0, 0, 47) else none)))) else (bif Nat.blt pc 51 then (bif Nat.blt pc 50 then (bif Nat.beq pc 47 then some (33, 19, 0, 50) else none) else (bif Nat.beq pc 50 then some (0, 0, 0, 51) else none)) else (bif Nat.blt pc 52 then (bif Nat.beq pc 51 then some (8, 0, 0, 52) else none) else (bif Nat.blt pc 55 then (bif Nat.beq pc 52 then some (33, 15, 0, 55) else none) else (bif Nat.beq pc 55 then some (0, 0, 0, 56) else none))))) else (bif Nat.blt pc 66 then (bif Nat.blt pc 61 then (bif Nat.blt pc 58 then (bif Nat.beq pc 56 then some (1, 0, 64, 58) else none) else (bif Nat.beq pc 58 then some (80, 43, 0, 61) else none)) else (bif Nat.blt pc 62 then (bif Nat.beq pc 61 then some (8, 0, 0, 62) else none) else (bif Nat.blt pc 63 then (bif Nat.beq pc 62 then some (30, 0, 0, 63) else none) else (bif Nat.beq pc 63 then some (33, 26, 0, 66) else none)))) else (bif Nat.blt pc 71 then (bif Nat.blt pc 67 then (bif Nat.beq pc 66 then some (0, 0, 1, 67) else none) else (bif Nat.blt pc 68 then (bif Nat.beq pc 67 then some (17, 0, 0, 68) else none) else (bif Nat.beq pc 68 then some (74, 26, 0, 71) else none))) else (bif Nat.blt pc 72 then (bif Nat.beq pc 71 then some (8, 0, 0, 72) else none) else (bif Nat.blt pc 75 then (bif Nat.beq pc 72 then some (33, 26, 0, 75) else none) else (bif Nat.beq pc 75 then some (83, 0, 0, 76) else none))))))))
def mX2_passHour : em_Me := ((RX2, yX2_passHour, cX2_passHour, 2, (some .int)), iX2_passHour, fX2, qX2)
theorem rX2_passHour_0 : em_ckR RX2 cX2_passHour iX2_passHour 0 60 = true := by decide +kernel
theorem rX2_passHour_1 : em_ckR RX2 cX2_passHour iX2_passHour 60 16 = true := by decide +kernel
theorem kX2_passHour : em_ok mX2_passHour := em_okM (N := 76) rfl (fun pc hpc q hq => if h0 : pc < 60 then em_ckR_at rX2_passHour_0 (by omega) (by omega) hq else em_ckR_at rX2_passHour_1 (by omega) (by omega) hq) fX2_ok qX2_ok
theorem tX2_passHour : em_tV mX2_passHour 0 2 := ⟨⟨em_in (k := 767) (by decide +kernel), em_in (k := 9) (by decide +kernel), ⟨by decide +kernel, by decide +kernel⟩, by decide +kernel, by decide +kernel⟩, em_in (k := 765) (by decide +kernel), _, rfl, em_in (k := 766) (by decide +kernel)⟩
def iX2_lookAt : Nat → Option (Nat × Nat × Int32 × Nat) := em_tr 53 (fun pc => (bif Nat.blt pc 27 then (bif Nat.blt pc 14 then (bif Nat.blt pc 8 then (bif Nat.blt pc 2 then (bif Nat.blt pc 1 then (bif Nat.beq pc 0 then some (8, 0, 0, 1) else none) else (bif Nat.beq pc 1 then some (4, 1, 0, 2) else none)) else (bif Nat.blt pc 5 then (bif Nat.beq pc 2 then some (81, 49, 0, 5) else none) else (bif Nat.beq pc 5 then some (51, 10, 0, 8) else none))) else (bif Nat.blt pc 10 then (bif Nat.blt pc 9 then (bif Nat.beq pc 8 then some (0, 0, (-1), 9) else none) else (bif Nat.beq pc 9 then some (83, 0, 0, 10) else none)) else (bif Nat.blt pc 11 then (bif Nat.beq pc 10 then some (8, 0, 0, 11) else none) else (bif Nat.beq pc 11 then some (33, 15, 0, 14) else none)))) else (bif Nat.blt pc 18 then (bif Nat.blt pc 16 then (bif Nat.blt pc 15 then (bif Nat.beq pc 14 then some (4, 1, 0, 15) else none) else (bif Nat.beq pc 15 then some (64, 0, 0, 16) else none)) else (bif Nat.blt pc 17 then (bif Nat.beq pc 16 then some (3, 0, 0, 17) else none) else (bif Nat.beq pc 17 then some (29, 0, 0, 18) else none))) else (bif Nat.blt pc 22 then (bif Nat.blt pc 21 then (bif Nat.beq pc 18 then some (51, 23, 0, 21) else none) else (bif Nat.beq pc 21 then some (0, 0, 0, 22) else none)) else (bif Nat.blt pc 23 then (bif Nat.beq pc 22 then some (83, 0, 0, 23) else none) else (bif Nat.blt pc 24 then (bif Nat.beq pc 23 then some (8, 0, 0, 24) else none) else (bif Nat.beq pc 24 then some (33, 15, 0, 27) else none)))))) else (bif Nat.blt pc 42 then (bif Nat.blt pc 33 then (bif Nat.blt pc 29 then (bif Nat.blt pc 28 then (bif Nat.beq pc 27 then some (4, 1, 0, 28) else none) else (bif Nat.beq pc 28 then some (64, 0, 0, 29) else none)) else (bif Nat.blt pc 30 then (bif Nat.beq pc 29 then some (8, 0, 0, 30) else none) else (bif Nat.beq pc 30 then some (81, 52, 0, 33) else none))) else (bif Nat.blt pc 37 then (bif Nat.blt pc 34 then (bif Nat.beq pc 33 then some (29, 0, 0, 34) else none) else (bif Nat.beq pc 34 then some (51, 44, 0, 37) else none)) else (bif Nat.blt pc 38 then (bif Nat.beq pc 37 then some (8, 0, 0, 38) else none) else (bif Nat.blt pc 39 then (bif Nat.beq pc 38 then some (0, 0, (-1), 39) else none) else (bif Nat.beq pc 39 then some (74, 22, 0, 42) else none))))) else (bif Nat.blt pc 48 then (bif Nat.blt pc 44 then (bif Nat.blt pc 43 then (bif Nat.beq pc 42 then some (0, 0, 2, 43) else none) else (bif Nat.beq pc 43 then some (83, 0, 0, 44) else none)) else (bif Nat.blt pc 45 then (bif Nat.beq pc 44 then some (8, 0, 0, 45) else none) else (bif Nat.beq pc 45 then some (33, 15, 0, 48) else none))) else (bif Nat.blt pc 50 then (bif Nat.blt pc 49 then (bif Nat.beq pc 48 then some (4, 1, 0, 49) else none) else (bif Nat.beq pc 49 then some (3, 0, 0, 50) else none)) else (bif Nat.blt pc 51 then (bif Nat.beq pc 50 then some (68, 0, 0, 51) else none) else (bif Nat.blt pc 52 then (bif Nat.beq pc 51 then some (0, 0, 1, 52) else none) else (bif Nat.beq pc 52 then some (83, 0, 0, 53) else none))))))))
def mX2_lookAt : em_Me := ((RX2, yX2_lookAt, cX2_lookAt, 2, (some .int)), iX2_lookAt, fX2, qX2)
theorem rX2_lookAt_0 : em_ckR RX2 cX2_lookAt iX2_lookAt 0 53 = true := by decide +kernel
theorem kX2_lookAt : em_ok mX2_lookAt := em_okM (N := 53) rfl (fun pc hpc q hq => em_ckR_at rX2_lookAt_0 (by omega) (by omega) hq) fX2_ok qX2_ok
theorem tX2_lookAt : em_tV mX2_lookAt 1 2 := ⟨⟨em_in (k := 783) (by decide +kernel), em_in (k := 9) (by decide +kernel), ⟨by decide +kernel, by decide +kernel⟩, by decide +kernel, by decide +kernel⟩, em_in (k := 781) (by decide +kernel), _, rfl, em_in (k := 782) (by decide +kernel)⟩
def iX2_maybeOf : Nat → Option (Nat × Nat × Int32 × Nat) := em_tr 21 (fun pc => (bif Nat.blt pc 9 then (bif Nat.blt pc 2 then (bif Nat.blt pc 1 then (bif Nat.beq pc 0 then some (8, 0, 0, 1) else none) else (bif Nat.beq pc 1 then some (4, 1, 0, 2) else none)) else (bif Nat.blt pc 5 then (bif Nat.beq pc 2 then some (81, 49, 0, 5) else none) else (bif Nat.blt pc 8 then (bif Nat.beq pc 5 then some (50, 17, 0, 8) else none) else (bif Nat.beq pc 8 then some (8, 0, 0, 9) else none)))) else (bif Nat.blt pc 14 then (bif Nat.blt pc 12 then (bif Nat.beq pc 9 then some (33, 15, 0, 12) else none) else (bif Nat.blt pc 13 then (bif Nat.beq pc 12 then some (4, 1, 0, 13) else none) else (bif Nat.beq pc 13 then some (64, 0, 0, 14) else none))) else (bif Nat.blt pc 17 then (bif Nat.beq pc 14 then some (32, 20, 0, 17) else none) else (bif Nat.blt pc 20 then (bif Nat.beq pc 17 then some (37, 56, 0, 20) else none) else (bif Nat.beq pc 20 then some (84, 0, 0, 21) else none))))))
def mX2_maybeOf : em_Me := ((RX2, yX2_maybeOf, cX2_maybeOf, 2, (some .long)), iX2_maybeOf, fX2, qX2)
theorem rX2_maybeOf_0 : em_ckR RX2 cX2_maybeOf iX2_maybeOf 0 21 = true := by decide +kernel
theorem kX2_maybeOf : em_ok mX2_maybeOf := em_okM (N := 21) rfl (fun pc hpc q hq => em_ckR_at rX2_maybeOf_0 (by omega) (by omega) hq) fX2_ok qX2_ok
theorem tX2_maybeOf : em_tV mX2_maybeOf 1 2 := ⟨⟨em_in (k := 799) (by decide +kernel), em_in (k := 9) (by decide +kernel), ⟨by decide +kernel, by decide +kernel⟩, by decide +kernel, by decide +kernel⟩, em_in (k := 797) (by decide +kernel), _, rfl, em_in (k := 798) (by decide +kernel)⟩
def iX2_chanceOf : Nat → Option (Nat × Nat × Int32 × Nat) := em_tr 67 (fun pc => (bif Nat.blt pc 33 then (bif Nat.blt pc 17 then (bif Nat.blt pc 8 then (bif Nat.blt pc 2 then (bif Nat.blt pc 1 then (bif Nat.beq pc 0 then some (8, 0, 0, 1) else none) else (bif Nat.beq pc 1 then some (4, 1, 0, 2) else none)) else (bif Nat.blt pc 5 then (bif Nat.beq pc 2 then some (81, 49, 0, 5) else none) else (bif Nat.beq pc 5 then some (50, 17, 0, 8) else none))) else (bif Nat.blt pc 10 then (bif Nat.blt pc 9 then (bif Nat.beq pc 8 then some (4, 2, 0, 9) else none) else (bif Nat.beq pc 9 then some (0, 0, 0, 10) else none)) else (bif Nat.blt pc 11 then (bif Nat.beq pc 10 then some (0, 0, 1, 11) else none) else (bif Nat.blt pc 14 then (bif Nat.beq pc 11 then some (80, 58, 0, 14) else none) else (bif Nat.beq pc 14 then some (51, 21, 0, 17) else none))))) else (bif Nat.blt pc 26 then (bif Nat.blt pc 21 then (bif Nat.blt pc 20 then (bif Nat.beq pc 17 then some (37, 56, 0, 20) else none) else (bif Nat.beq pc 20 then some (84, 0, 0, 21) else none)) else (bif Nat.blt pc 22 then (bif Nat.beq pc 21 then some (8, 0, 0, 22) else none) else (bif Nat.blt pc 25 then (bif Nat.beq pc 22 then some (81, 52, 0, 25) else none) else (bif Nat.beq pc 25 then some (12, 3, 0, 26) else none)))) else (bif Nat.blt pc 30 then (bif Nat.blt pc 27 then (bif Nat.beq pc 26 then some (8, 0, 0, 27) else none) else (bif Nat.beq pc 27 then some (33, 15, 0, 30) else none)) else (bif Nat.blt pc 31 then (bif Nat.beq pc 30 then some (4, 1, 0, 31) else none) else (bif Nat.blt pc 32 then (bif Nat.beq pc 31 then some (64, 0, 0, 32) else none) else (bif Nat.beq pc 32 then some (6, 3, 0, 33) else none)))))) else (bif Nat.blt pc 50 then (bif Nat.blt pc 41 then (bif Nat.blt pc 38 then (bif Nat.blt pc 36 then (bif Nat.beq pc 33 then some (80, 62, 0, 36) else none) else (bif Nat.beq pc 36 then some (13, 5, 0, 38) else none)) else (bif Nat.blt pc 40 then (bif Nat.beq pc 38 then some (7, 5, 0, 40) else none) else (bif Nat.beq pc 40 then some (3, 0, 0, 41) else none))) else (bif Nat.blt pc 45 then (bif Nat.blt pc 42 then (bif Nat.beq pc 41 then some (29, 0, 0, 42) else none) else (bif Nat.beq pc 42 then some (51, 49, 0, 45) else none)) else (bif Nat.blt pc 48 then (bif Nat.beq pc 45 then some (37, 56, 0, 48) else none) else (bif Nat.blt pc 49 then (bif Nat.beq pc 48 then some (84, 0, 0, 49) else none) else (bif Nat.beq pc 49 then some (4, 2, 0, 50) else none))))) else (bif Nat.blt pc 59 then (bif Nat.blt pc 54 then (bif Nat.blt pc 53 then (bif Nat.beq pc 50 then some (51, 62, 0, 53) else none) else (bif Nat.beq pc 53 then some (8, 0, 0, 54) else none)) else (bif Nat.blt pc 57 then (bif Nat.beq pc 54 then some (33, 15, 0, 57) else none) else (bif Nat.blt pc 58 then (bif Nat.beq pc 57 then some (4, 1, 0, 58) else none) else (bif Nat.beq pc 58 then some (64, 0, 0, 59) else none)))) else (bif Nat.blt pc 63 then (bif Nat.blt pc 62 then (bif Nat.beq pc 59 then some (32, 63, 0, 62) else none) else (bif Nat.beq pc 62 then some (6, 3, 0, 63) else none)) else (bif Nat.blt pc 65 then (bif Nat.beq pc 63 then some (7, 5, 0, 65) else none) else (bif Nat.blt pc 66 then (bif Nat.beq pc 65 then some (72, 0, 0, 66) else none) else (bif Nat.beq pc 66 then some (84, 0, 0, 67) else none))))))))
def mX2_chanceOf : em_Me := ((RX2, yX2_chanceOf, cX2_chanceOf, 7, (some .long)), iX2_chanceOf, fX2, qX2)
theorem rX2_chanceOf_0 : em_ckR RX2 cX2_chanceOf iX2_chanceOf 0 60 = true := by decide +kernel
theorem rX2_chanceOf_1 : em_ckR RX2 cX2_chanceOf iX2_chanceOf 60 7 = true := by decide +kernel
theorem kX2_chanceOf : em_ok mX2_chanceOf := em_okM (N := 67) rfl (fun pc hpc q hq => if h0 : pc < 60 then em_ckR_at rX2_chanceOf_0 (by omega) (by omega) hq else em_ckR_at rX2_chanceOf_1 (by omega) (by omega) hq) fX2_ok qX2_ok
theorem tX2_chanceOf : em_tV mX2_chanceOf 2 2 := ⟨⟨em_in (k := 808) (by decide +kernel), em_in (k := 9) (by decide +kernel), ⟨by decide +kernel, by decide +kernel⟩, by decide +kernel, by decide +kernel⟩, em_in (k := 806) (by decide +kernel), _, rfl, em_in (k := 807) (by decide +kernel)⟩
def iX2_likeliest : Nat → Option (Nat × Nat × Int32 × Nat) := em_tr 46 (fun pc => (bif Nat.blt pc 21 then (bif Nat.blt pc 11 then (bif Nat.blt pc 5 then (bif Nat.blt pc 1 then (bif Nat.beq pc 0 then some (8, 0, 0, 1) else none) else (bif Nat.blt pc 4 then (bif Nat.beq pc 1 then some (33, 22, 0, 4) else none) else (bif Nat.beq pc 4 then some (0, 0, (-1), 5) else none))) else (bif Nat.blt pc 9 then (bif Nat.blt pc 8 then (bif Nat.beq pc 5 then some (57, 10, 0, 8) else none) else (bif Nat.beq pc 8 then some (0, 0, (-1), 9) else none)) else (bif Nat.blt pc 10 then (bif Nat.beq pc 9 then some (83, 0, 0, 10) else none) else (bif Nat.beq pc 10 then some (0, 0, 0, 11) else none)))) else (bif Nat.blt pc 14 then (bif Nat.blt pc 12 then (bif Nat.beq pc 11 then some (10, 1, 0, 12) else none) else (bif Nat.blt pc 13 then (bif Nat.beq pc 12 then some (0, 0, 1, 13) else none) else (bif Nat.beq pc 13 then some (10, 2, 0, 14) else none))) else (bif Nat.blt pc 17 then (bif Nat.blt pc 15 then (bif Nat.beq pc 14 then some (4, 2, 0, 15) else none) else (bif Nat.beq pc 15 then some (1, 0, 64, 17) else none)) else (bif Nat.blt pc 20 then (bif Nat.beq pc 17 then some (59, 44, 0, 20) else none) else (bif Nat.beq pc 20 then some (8, 0, 0, 21) else none))))) else (bif Nat.blt pc 32 then (bif Nat.blt pc 26 then (bif Nat.blt pc 24 then (bif Nat.beq pc 21 then some (33, 15, 0, 24) else none) else (bif Nat.blt pc 25 then (bif Nat.beq pc 24 then some (4, 2, 0, 25) else none) else (bif Nat.beq pc 25 then some (64, 0, 0, 26) else none))) else (bif Nat.blt pc 30 then (bif Nat.blt pc 27 then (bif Nat.beq pc 26 then some (8, 0, 0, 27) else none) else (bif Nat.beq pc 27 then some (33, 15, 0, 30) else none)) else (bif Nat.blt pc 31 then (bif Nat.beq pc 30 then some (4, 1, 0, 31) else none) else (bif Nat.beq pc 31 then some (64, 0, 0, 32) else none)))) else (bif Nat.blt pc 38 then (bif Nat.blt pc 36 then (bif Nat.blt pc 33 then (bif Nat.beq pc 32 then some (29, 0, 0, 33) else none) else (bif Nat.beq pc 33 then some (55, 38, 0, 36) else none)) else (bif Nat.blt pc 37 then (bif Nat.beq pc 36 then some (4, 2, 0, 37) else none) else (bif Nat.beq pc 37 then some (10, 1, 0, 38) else none))) else (bif Nat.blt pc 44 then (bif Nat.blt pc 41 then (bif Nat.beq pc 38 then some (16, 2, 1, 41) else none) else (bif Nat.beq pc 41 then some (32, 14, 0, 44) else none)) else (bif Nat.blt pc 45 then (bif Nat.beq pc 44 then some (4, 1, 0, 45) else none) else (bif Nat.beq pc 45 then some (83, 0, 0, 46) else none)))))))
def mX2_likeliest : em_Me := ((RX2, yX2_likeliest, cX2_likeliest, 3, (some .int)), iX2_likeliest, fX2, qX2)
theorem rX2_likeliest_0 : em_ckR RX2 cX2_likeliest iX2_likeliest 0 46 = true := by decide +kernel
theorem kX2_likeliest : em_ok mX2_likeliest := em_okM (N := 46) rfl (fun pc hpc q hq => em_ckR_at rX2_likeliest_0 (by omega) (by omega) hq) fX2_ok qX2_ok
theorem tX2_likeliest : em_tV mX2_likeliest 0 2 := ⟨⟨em_in (k := 819) (by decide +kernel), em_in (k := 9) (by decide +kernel), ⟨by decide +kernel, by decide +kernel⟩, by decide +kernel, by decide +kernel⟩, em_in (k := 817) (by decide +kernel), _, rfl, em_in (k := 818) (by decide +kernel)⟩
def iX2_isCell : Nat → Option (Nat × Nat × Int32 × Nat) := em_tr 8 (fun pc => (bif Nat.blt pc 2 then (bif Nat.blt pc 1 then (bif Nat.beq pc 0 then some (4, 0, 0, 1) else none) else (bif Nat.beq pc 1 then some (0, 0, 0, 2) else none)) else (bif Nat.blt pc 4 then (bif Nat.beq pc 2 then some (1, 0, 63, 4) else none) else (bif Nat.blt pc 7 then (bif Nat.beq pc 4 then some (80, 58, 0, 7) else none) else (bif Nat.beq pc 7 then some (83, 0, 0, 8) else none)))))
def mX2_isCell : em_Me := ((RX2, yX2_isCell, cX2_isCell, 1, (some .boolean)), iX2_isCell, fX2, qX2)
theorem rX2_isCell_0 : em_ckR RX2 cX2_isCell iX2_isCell 0 8 = true := by decide +kernel
theorem kX2_isCell : em_ok mX2_isCell := em_okM (N := 8) rfl (fun pc hpc q hq => em_ckR_at rX2_isCell_0 (by omega) (by omega) hq) fX2_ok qX2_ok
theorem tX2_isCell : em_tS mX2_isCell 1 := ⟨⟨em_in (k := 746) (by decide +kernel), em_in (k := 9) (by decide +kernel), ⟨by decide +kernel, by decide +kernel⟩, by decide +kernel, by decide +kernel⟩, em_in (k := 745) (by decide +kernel)⟩
def iX2_isOpen : Nat → Option (Nat × Nat × Int32 × Nat) := em_tr 21 (fun pc => (bif Nat.blt pc 9 then (bif Nat.blt pc 4 then (bif Nat.blt pc 1 then (bif Nat.beq pc 0 then some (8, 0, 0, 1) else none) else (bif Nat.beq pc 1 then some (33, 22, 0, 4) else none)) else (bif Nat.blt pc 5 then (bif Nat.beq pc 4 then some (0, 0, (-1), 5) else none) else (bif Nat.blt pc 8 then (bif Nat.beq pc 5 then some (56, 19, 0, 8) else none) else (bif Nat.beq pc 8 then some (4, 1, 0, 9) else none)))) else (bif Nat.blt pc 16 then (bif Nat.blt pc 12 then (bif Nat.beq pc 9 then some (80, 29, 0, 12) else none) else (bif Nat.blt pc 15 then (bif Nat.beq pc 12 then some (50, 19, 0, 15) else none) else (bif Nat.beq pc 15 then some (0, 0, 1, 16) else none))) else (bif Nat.blt pc 19 then (bif Nat.beq pc 16 then some (32, 20, 0, 19) else none) else (bif Nat.blt pc 20 then (bif Nat.beq pc 19 then some (0, 0, 0, 20) else none) else (bif Nat.beq pc 20 then some (83, 0, 0, 21) else none))))))
def mX2_isOpen : em_Me := ((RX2, yX2_isOpen, cX2_isOpen, 2, (some .boolean)), iX2_isOpen, fX2, qX2)
theorem rX2_isOpen_0 : em_ckR RX2 cX2_isOpen iX2_isOpen 0 21 = true := by decide +kernel
theorem kX2_isOpen : em_ok mX2_isOpen := em_okM (N := 21) rfl (fun pc hpc q hq => em_ckR_at rX2_isOpen_0 (by omega) (by omega) hq) fX2_ok qX2_ok
theorem tX2_isOpen : em_tV mX2_isOpen 1 2 := ⟨⟨em_in (k := 787) (by decide +kernel), em_in (k := 9) (by decide +kernel), ⟨by decide +kernel, by decide +kernel⟩, by decide +kernel, by decide +kernel⟩, em_in (k := 786) (by decide +kernel), _, rfl, List.mem_append_left _ (by decide +kernel)⟩
def iX2_spread : Nat → Option (Nat × Nat × Int32 × Nat) := em_tr 78 (fun pc => (bif Nat.blt pc 41 then (bif Nat.blt pc 18 then (bif Nat.blt pc 6 then (bif Nat.blt pc 3 then (bif Nat.blt pc 1 then (bif Nat.beq pc 0 then some (0, 0, 0, 1) else none) else (bif Nat.blt pc 2 then (bif Nat.beq pc 1 then some (10, 2, 0, 2) else none) else (bif Nat.beq pc 2 then some (0, 0, 0, 3) else none))) else (bif Nat.blt pc 4 then (bif Nat.beq pc 3 then some (10, 3, 0, 4) else none) else (bif Nat.blt pc 5 then (bif Nat.beq pc 4 then some (4, 3, 0, 5) else none) else (bif Nat.beq pc 5 then some (0, 0, 4, 6) else none)))) else (bif Nat.blt pc 11 then (bif Nat.blt pc 9 then (bif Nat.beq pc 6 then some (59, 57, 0, 9) else none) else (bif Nat.blt pc 10 then (bif Nat.beq pc 9 then some (4, 1, 0, 10) else none) else (bif Nat.beq pc 10 then some (4, 3, 0, 11) else none))) else (bif Nat.blt pc 14 then (bif Nat.beq pc 11 then some (80, 66, 0, 14) else none) else (bif Nat.blt pc 16 then (bif Nat.beq pc 14 then some (11, 4, 0, 16) else none) else (bif Nat.beq pc 16 then some (5, 4, 0, 18) else none))))) else (bif Nat.blt pc 29 then (bif Nat.blt pc 23 then (bif Nat.blt pc 19 then (bif Nat.beq pc 18 then some (0, 0, (-1), 19) else none) else (bif Nat.blt pc 22 then (bif Nat.beq pc 19 then some (56, 51, 0, 22) else none) else (bif Nat.beq pc 22 then some (8, 0, 0, 23) else none))) else (bif Nat.blt pc 26 then (bif Nat.beq pc 23 then some (33, 9, 0, 26) else none) else (bif Nat.blt pc 28 then (bif Nat.beq pc 26 then some (5, 4, 0, 28) else none) else (bif Nat.beq pc 28 then some (63, 0, 0, 29) else none)))) else (bif Nat.blt pc 36 then (bif Nat.blt pc 32 then (bif Nat.beq pc 29 then some (51, 51, 0, 32) else none) else (bif Nat.blt pc 33 then (bif Nat.beq pc 32 then some (8, 0, 0, 33) else none) else (bif Nat.beq pc 33 then some (33, 19, 0, 36) else none))) else (bif Nat.blt pc 39 then (bif Nat.blt pc 38 then (bif Nat.beq pc 36 then some (5, 4, 0, 38) else none) else (bif Nat.beq pc 38 then some (31, 0, 0, 39) else none)) else (bif Nat.blt pc 40 then (bif Nat.beq pc 39 then some (64, 0, 0, 40) else none) else (bif Nat.beq pc 40 then some (8, 0, 0, 41) else none)))))) else (bif Nat.blt pc 63 then (bif Nat.blt pc 51 then (bif Nat.blt pc 46 then (bif Nat.blt pc 44 then (bif Nat.beq pc 41 then some (33, 15, 0, 44) else none) else (bif Nat.blt pc 45 then (bif Nat.beq pc 44 then some (4, 1, 0, 45) else none) else (bif Nat.beq pc 45 then some (64, 0, 0, 46) else none))) else (bif Nat.blt pc 47 then (bif Nat.beq pc 46 then some (26, 0, 0, 47) else none) else (bif Nat.blt pc 48 then (bif Nat.beq pc 47 then some (68, 0, 0, 48) else none) else (bif Nat.beq pc 48 then some (16, 2, 1, 51) else none)))) else (bif Nat.blt pc 58 then (bif Nat.blt pc 54 then (bif Nat.beq pc 51 then some (16, 3, 1, 54) else none) else (bif Nat.blt pc 57 then (bif Nat.beq pc 54 then some (32, 4, 0, 57) else none) else (bif Nat.beq pc 57 then some (8, 0, 0, 58) else none))) else (bif Nat.blt pc 61 then (bif Nat.beq pc 58 then some (33, 19, 0, 61) else none) else (bif Nat.blt pc 62 then (bif Nat.beq pc 61 then some (4, 1, 0, 62) else none) else (bif Nat.beq pc 62 then some (31, 0, 0, 63) else none))))) else (bif Nat.blt pc 71 then (bif Nat.blt pc 68 then (bif Nat.blt pc 64 then (bif Nat.beq pc 63 then some (64, 0, 0, 64) else none) else (bif Nat.blt pc 65 then (bif Nat.beq pc 64 then some (8, 0, 0, 65) else none) else (bif Nat.beq pc 65 then some (33, 15, 0, 68) else none))) else (bif Nat.blt pc 69 then (bif Nat.beq pc 68 then some (4, 1, 0, 69) else none) else (bif Nat.blt pc 70 then (bif Nat.beq pc 69 then some (64, 0, 0, 70) else none) else (bif Nat.beq pc 70 then some (0, 0, 5, 71) else none)))) else (bif Nat.blt pc 74 then (bif Nat.blt pc 72 then (bif Nat.beq pc 71 then some (4, 2, 0, 72) else none) else (bif Nat.blt pc 73 then (bif Nat.beq pc 72 then some (18, 0, 0, 73) else none) else (bif Nat.beq pc 73 then some (28, 0, 0, 74) else none))) else (bif Nat.blt pc 76 then (bif Nat.blt pc 75 then (bif Nat.beq pc 74 then some (27, 0, 0, 75) else none) else (bif Nat.beq pc 75 then some (26, 0, 0, 76) else none)) else (bif Nat.blt pc 77 then (bif Nat.beq pc 76 then some (68, 0, 0, 77) else none) else (bif Nat.beq pc 77 then some (86, 0, 0, 78) else none))))))))
def mX2_spread : em_Me := ((RX2, yX2_spread, cX2_spread, 5, none), iX2_spread, fX2, qX2)
theorem rX2_spread_0 : em_ckR RX2 cX2_spread iX2_spread 0 60 = true := by decide +kernel
theorem rX2_spread_1 : em_ckR RX2 cX2_spread iX2_spread 60 18 = true := by decide +kernel
theorem kX2_spread : em_ok mX2_spread := em_okM (N := 78) rfl (fun pc hpc q hq => if h0 : pc < 60 then em_ckR_at rX2_spread_0 (by omega) (by omega) hq else em_ckR_at rX2_spread_1 (by omega) (by omega) hq) fX2_ok qX2_ok
theorem tX2_spread : em_tV mX2_spread 1 2 := ⟨⟨em_in (k := 771) (by decide +kernel), em_in (k := 9) (by decide +kernel), ⟨by decide +kernel, by decide +kernel⟩, by decide +kernel, by decide +kernel⟩, em_in (k := 770) (by decide +kernel), _, rfl, List.mem_append_left _ (by decide +kernel)⟩
def iX2_beside : Nat → Option (Nat × Nat × Int32 × Nat) := em_tr 90 (fun pc => (bif Nat.blt pc 56 then (bif Nat.blt pc 37 then (bif Nat.blt pc 6 then (bif Nat.blt pc 3 then (bif Nat.blt pc 1 then (bif Nat.beq pc 0 then some (4, 0, 0, 1) else none) else (bif Nat.beq pc 1 then some (1, 0, 8, 3) else none)) else (bif Nat.blt pc 4 then (bif Nat.beq pc 3 then some (70, 0, 0, 4) else none) else (bif Nat.blt pc 5 then (bif Nat.beq pc 4 then some (10, 2, 0, 5) else none) else (bif Nat.beq pc 5 then some (4, 0, 0, 6) else none)))) else (bif Nat.blt pc 9 then (bif Nat.blt pc 8 then (bif Nat.beq pc 6 then some (1, 0, 8, 8) else none) else (bif Nat.beq pc 8 then some (71, 0, 0, 9) else none)) else (bif Nat.blt pc 10 then (bif Nat.beq pc 9 then some (10, 3, 0, 10) else none) else (bif Nat.blt pc 36 then (bif Nat.beq pc 10 then some (4, 1, 0, 11) else none) else (bif Nat.beq pc 36 then some (4, 2, 0, 37) else none))))) else (bif Nat.blt pc 47 then (bif Nat.blt pc 41 then (bif Nat.blt pc 40 then (bif Nat.beq pc 37 then some (55, 47, 0, 40) else none) else (bif Nat.beq pc 40 then some (4, 0, 0, 41) else none)) else (bif Nat.blt pc 43 then (bif Nat.beq pc 41 then some (1, 0, 8, 43) else none) else (bif Nat.blt pc 44 then (bif Nat.beq pc 43 then some (18, 0, 0, 44) else none) else (bif Nat.beq pc 44 then some (32, 48, 0, 47) else none)))) else (bif Nat.blt pc 50 then (bif Nat.blt pc 48 then (bif Nat.beq pc 47 then some (0, 0, (-1), 48) else none) else (bif Nat.blt pc 49 then (bif Nat.beq pc 48 then some (83, 0, 0, 49) else none) else (bif Nat.beq pc 49 then some (4, 2, 0, 50) else none))) else (bif Nat.blt pc 52 then (bif Nat.beq pc 50 then some (1, 0, 7, 52) else none) else (bif Nat.blt pc 55 then (bif Nat.beq pc 52 then some (59, 62, 0, 55) else none) else (bif Nat.beq pc 55 then some (4, 0, 0, 56) else none)))))) else (bif Nat.blt pc 74 then (bif Nat.blt pc 64 then (bif Nat.blt pc 59 then (bif Nat.blt pc 58 then (bif Nat.beq pc 56 then some (1, 0, 8, 58) else none) else (bif Nat.beq pc 58 then some (17, 0, 0, 59) else none)) else (bif Nat.blt pc 62 then (bif Nat.beq pc 59 then some (32, 63, 0, 62) else none) else (bif Nat.blt pc 63 then (bif Nat.beq pc 62 then some (0, 0, (-1), 63) else none) else (bif Nat.beq pc 63 then some (83, 0, 0, 64) else none)))) else (bif Nat.blt pc 69 then (bif Nat.blt pc 65 then (bif Nat.beq pc 64 then some (4, 3, 0, 65) else none) else (bif Nat.blt pc 68 then (bif Nat.beq pc 65 then some (55, 74, 0, 68) else none) else (bif Nat.beq pc 68 then some (4, 0, 0, 69) else none))) else (bif Nat.blt pc 70 then (bif Nat.beq pc 69 then some (0, 0, 1, 70) else none) else (bif Nat.blt pc 71 then (bif Nat.beq pc 70 then some (18, 0, 0, 71) else none) else (bif Nat.beq pc 71 then some (32, 75, 0, 74) else none))))) else (bif Nat.blt pc 82 then (bif Nat.blt pc 76 then (bif Nat.blt pc 75 then (bif Nat.beq pc 74 then some (0, 0, (-1), 75) else none) else (bif Nat.beq pc 75 then some (83, 0, 0, 76) else none)) else (bif Nat.blt pc 77 then (bif Nat.beq pc 76 then some (4, 3, 0, 77) else none) else (bif Nat.blt pc 79 then (bif Nat.beq pc 77 then some (1, 0, 7, 79) else none) else (bif Nat.beq pc 79 then some (59, 88, 0, 82) else none)))) else (bif Nat.blt pc 85 then (bif Nat.blt pc 83 then (bif Nat.beq pc 82 then some (4, 0, 0, 83) else none) else (bif Nat.blt pc 84 then (bif Nat.beq pc 83 then some (0, 0, 1, 84) else none) else (bif Nat.beq pc 84 then some (17, 0, 0, 85) else none))) else (bif Nat.blt pc 88 then (bif Nat.beq pc 85 then some (32, 89, 0, 88) else none) else (bif Nat.blt pc 89 then (bif Nat.beq pc 88 then some (0, 0, (-1), 89) else none) else (bif Nat.beq pc 89 then some (83, 0, 0, 90) else none))))))))
def mX2_beside : em_Me := ((RX2, yX2_beside, cX2_beside, 4, (some .int)), iX2_beside, fX2, qX2)
theorem rX2_beside_0 : em_ckR RX2 cX2_beside iX2_beside 0 60 = true := by decide +kernel
theorem rX2_beside_1 : em_ckR RX2 cX2_beside iX2_beside 60 30 = true := by decide +kernel
theorem kX2_beside : em_ok mX2_beside := em_okM (N := 90) rfl (fun pc hpc q hq => if h0 : pc < 60 then em_ckR_at rX2_beside_0 (by omega) (by omega) hq else em_ckR_at rX2_beside_1 (by omega) (by omega) hq) fX2_ok qX2_ok
theorem tX2_beside : em_tS mX2_beside 2 := ⟨⟨em_in (k := 774) (by decide +kernel), em_in (k := 9) (by decide +kernel), ⟨by decide +kernel, by decide +kernel⟩, by decide +kernel, by decide +kernel⟩, em_in (k := 773) (by decide +kernel)⟩
end
section
def iX2_allMaybes : Nat → Option (Nat × Nat × Int32 × Nat) := em_tr 27 (fun pc => (bif Nat.blt pc 12 then (bif Nat.blt pc 4 then (bif Nat.blt pc 2 then (bif Nat.blt pc 1 then (bif Nat.beq pc 0 then some (3, 0, 0, 1) else none) else (bif Nat.beq pc 1 then some (12, 1, 0, 2) else none)) else (bif Nat.blt pc 3 then (bif Nat.beq pc 2 then some (0, 0, 0, 3) else none) else (bif Nat.beq pc 3 then some (10, 3, 0, 4) else none))) else (bif Nat.blt pc 7 then (bif Nat.blt pc 5 then (bif Nat.beq pc 4 then some (4, 3, 0, 5) else none) else (bif Nat.beq pc 5 then some (1, 0, 64, 7) else none)) else (bif Nat.blt pc 10 then (bif Nat.beq pc 7 then some (59, 25, 0, 10) else none) else (bif Nat.blt pc 11 then (bif Nat.beq pc 10 then some (6, 1, 0, 11) else none) else (bif Nat.beq pc 11 then some (8, 0, 0, 12) else none))))) else (bif Nat.blt pc 18 then (bif Nat.blt pc 16 then (bif Nat.blt pc 15 then (bif Nat.beq pc 12 then some (33, 15, 0, 15) else none) else (bif Nat.beq pc 15 then some (4, 3, 0, 16) else none)) else (bif Nat.blt pc 17 then (bif Nat.beq pc 16 then some (64, 0, 0, 17) else none) else (bif Nat.beq pc 17 then some (26, 0, 0, 18) else none))) else (bif Nat.blt pc 22 then (bif Nat.blt pc 19 then (bif Nat.beq pc 18 then some (12, 1, 0, 19) else none) else (bif Nat.beq pc 19 then some (16, 3, 1, 22) else none)) else (bif Nat.blt pc 25 then (bif Nat.beq pc 22 then some (32, 4, 0, 25) else none) else (bif Nat.blt pc 26 then (bif Nat.beq pc 25 then some (6, 1, 0, 26) else none) else (bif Nat.beq pc 26 then some (84, 0, 0, 27) else none)))))))
def mX2_allMaybes : em_Me := ((RX2, yX2_allMaybes, cX2_allMaybes, 4, (some .long)), iX2_allMaybes, fX2, qX2)
theorem rX2_allMaybes_0 : em_ckR RX2 cX2_allMaybes iX2_allMaybes 0 27 = true := by decide +kernel
theorem kX2_allMaybes : em_ok mX2_allMaybes := em_okM (N := 27) rfl (fun pc hpc q hq => em_ckR_at rX2_allMaybes_0 (by omega) (by omega) hq) fX2_ok qX2_ok
theorem tX2_allMaybes : em_tV mX2_allMaybes 0 2 := ⟨⟨em_in (k := 791) (by decide +kernel), em_in (k := 9) (by decide +kernel), ⟨by decide +kernel, by decide +kernel⟩, by decide +kernel, by decide +kernel⟩, em_in (k := 790) (by decide +kernel), _, rfl, List.mem_append_left _ (by decide +kernel)⟩
def iX2_commonDivisor : Nat → Option (Nat × Nat × Int32 × Nat) := em_tr 48 (fun pc => (bif Nat.blt pc 21 then (bif Nat.blt pc 9 then (bif Nat.blt pc 4 then (bif Nat.blt pc 1 then (bif Nat.beq pc 0 then some (6, 0, 0, 1) else none) else (bif Nat.blt pc 3 then (bif Nat.beq pc 1 then some (13, 4, 0, 3) else none) else (bif Nat.beq pc 3 then some (6, 2, 0, 4) else none))) else (bif Nat.blt pc 6 then (bif Nat.beq pc 4 then some (13, 6, 0, 6) else none) else (bif Nat.blt pc 7 then (bif Nat.beq pc 6 then some (0, 0, 0, 7) else none) else (bif Nat.beq pc 7 then some (11, 8, 0, 9) else none)))) else (bif Nat.blt pc 17 then (bif Nat.blt pc 11 then (bif Nat.beq pc 9 then some (5, 8, 0, 11) else none) else (bif Nat.blt pc 14 then (bif Nat.beq pc 11 then some (2, 0, 128, 14) else none) else (bif Nat.beq pc 14 then some (59, 45, 0, 17) else none))) else (bif Nat.blt pc 19 then (bif Nat.beq pc 17 then some (7, 6, 0, 19) else none) else (bif Nat.blt pc 20 then (bif Nat.beq pc 19 then some (3, 0, 0, 20) else none) else (bif Nat.beq pc 20 then some (29, 0, 0, 21) else none))))) else (bif Nat.blt pc 33 then (bif Nat.blt pc 28 then (bif Nat.blt pc 24 then (bif Nat.beq pc 21 then some (50, 45, 0, 24) else none) else (bif Nat.blt pc 26 then (bif Nat.beq pc 24 then some (7, 4, 0, 26) else none) else (bif Nat.beq pc 26 then some (7, 6, 0, 28) else none))) else (bif Nat.blt pc 29 then (bif Nat.beq pc 28 then some (73, 0, 0, 29) else none) else (bif Nat.blt pc 31 then (bif Nat.beq pc 29 then some (13, 9, 0, 31) else none) else (bif Nat.beq pc 31 then some (7, 6, 0, 33) else none)))) else (bif Nat.blt pc 39 then (bif Nat.blt pc 35 then (bif Nat.beq pc 33 then some (13, 4, 0, 35) else none) else (bif Nat.blt pc 37 then (bif Nat.beq pc 35 then some (7, 9, 0, 37) else none) else (bif Nat.beq pc 37 then some (13, 6, 0, 39) else none))) else (bif Nat.blt pc 45 then (bif Nat.blt pc 42 then (bif Nat.beq pc 39 then some (16, 8, 1, 42) else none) else (bif Nat.beq pc 42 then some (32, 9, 0, 45) else none)) else (bif Nat.blt pc 47 then (bif Nat.beq pc 45 then some (7, 4, 0, 47) else none) else (bif Nat.beq pc 47 then some (84, 0, 0, 48) else none)))))))
def mX2_commonDivisor : em_Me := ((RX2, yX2_commonDivisor, cX2_commonDivisor, 11, (some .long)), iX2_commonDivisor, fX2, qX2)
theorem rX2_commonDivisor_0 : em_ckR RX2 cX2_commonDivisor iX2_commonDivisor 0 48 = true := by decide +kernel
theorem kX2_commonDivisor : em_ok mX2_commonDivisor := em_okM (N := 48) rfl (fun pc hpc q hq => em_ckR_at rX2_commonDivisor_0 (by omega) (by omega) hq) fX2_ok qX2_ok
theorem tX2_commonDivisor : em_tS mX2_commonDivisor 2 := ⟨⟨em_in (k := 811) (by decide +kernel), em_in (k := 9) (by decide +kernel), ⟨by decide +kernel, by decide +kernel⟩, by decide +kernel, by decide +kernel⟩, em_in (k := 810) (by decide +kernel)⟩
def iX3_init : Nat → Option (Nat × Nat × Int32 × Nat) := em_tr 105 (fun pc => (bif Nat.blt pc 50 then (bif Nat.blt pc 23 then (bif Nat.blt pc 12 then (bif Nat.blt pc 5 then (bif Nat.blt pc 1 then (bif Nat.beq pc 0 then some (8, 0, 0, 1) else none) else (bif Nat.blt pc 4 then (bif Nat.beq pc 1 then some (82, 3, 0, 4) else none) else (bif Nat.beq pc 4 then some (8, 0, 0, 5) else none))) else (bif Nat.blt pc 7 then (bif Nat.beq pc 5 then some (1, 0, 8, 7) else none) else (bif Nat.blt pc 9 then (bif Nat.beq pc 7 then some (76, 0, 0, 9) else none) else (bif Nat.beq pc 9 then some (74, 9, 0, 12) else none)))) else (bif Nat.blt pc 17 then (bif Nat.blt pc 13 then (bif Nat.beq pc 12 then some (8, 0, 0, 13) else none) else (bif Nat.blt pc 15 then (bif Nat.beq pc 13 then some (1, 0, 8, 15) else none) else (bif Nat.beq pc 15 then some (76, 0, 0, 17) else none))) else (bif Nat.blt pc 20 then (bif Nat.beq pc 17 then some (74, 15, 0, 20) else none) else (bif Nat.blt pc 21 then (bif Nat.beq pc 20 then some (8, 0, 0, 21) else none) else (bif Nat.beq pc 21 then some (1, 0, 40, 23) else none))))) else (bif Nat.blt pc 36 then (bif Nat.blt pc 29 then (bif Nat.blt pc 25 then (bif Nat.beq pc 23 then some (76, 0, 0, 25) else none) else (bif Nat.blt pc 28 then (bif Nat.beq pc 25 then some (74, 18, 0, 28) else none) else (bif Nat.beq pc 28 then some (8, 0, 0, 29) else none))) else (bif Nat.blt pc 31 then (bif Nat.beq pc 29 then some (1, 0, 40, 31) else none) else (bif Nat.blt pc 33 then (bif Nat.beq pc 31 then some (76, 0, 0, 33) else none) else (bif Nat.beq pc 33 then some (74, 21, 0, 36) else none)))) else (bif Nat.blt pc 41 then (bif Nat.blt pc 37 then (bif Nat.beq pc 36 then some (8, 0, 0, 37) else none) else (bif Nat.blt pc 39 then (bif Nat.beq pc 37 then some (1, 0, 40, 39) else none) else (bif Nat.beq pc 39 then some (76, 0, 0, 41) else none))) else (bif Nat.blt pc 45 then (bif Nat.blt pc 44 then (bif Nat.beq pc 41 then some (74, 24, 0, 44) else none) else (bif Nat.beq pc 44 then some (8, 0, 0, 45) else none)) else (bif Nat.blt pc 48 then (bif Nat.beq pc 45 then some (2, 0, 200, 48) else none) else (bif Nat.beq pc 48 then some (76, 0, 0, 50) else none)))))) else (bif Nat.blt pc 79 then (bif Nat.blt pc 63 then (bif Nat.blt pc 57 then (bif Nat.blt pc 53 then (bif Nat.beq pc 50 then some (74, 27, 0, 53) else none) else (bif Nat.blt pc 54 then (bif Nat.beq pc 53 then some (8, 0, 0, 54) else none) else (bif Nat.beq pc 54 then some (2, 0, 200, 57) else none))) else (bif Nat.blt pc 59 then (bif Nat.beq pc 57 then some (76, 0, 0, 59) else none) else (bif Nat.blt pc 62 then (bif Nat.beq pc 59 then some (74, 30, 0, 62) else none) else (bif Nat.beq pc 62 then some (8, 0, 0, 63) else none)))) else (bif Nat.blt pc 71 then (bif Nat.blt pc 66 then (bif Nat.beq pc 63 then some (2, 0, 200, 66) else none) else (bif Nat.blt pc 68 then (bif Nat.beq pc 66 then some (76, 0, 0, 68) else none) else (bif Nat.beq pc 68 then some (74, 33, 0, 71) else none))) else (bif Nat.blt pc 74 then (bif Nat.blt pc 72 then (bif Nat.beq pc 71 then some (8, 0, 0, 72) else none) else (bif Nat.beq pc 72 then some (1, 0, 40, 74) else none)) else (bif Nat.blt pc 76 then (bif Nat.beq pc 74 then some (76, 0, 0, 76) else none) else (bif Nat.beq pc 76 then some (74, 36, 0, 79) else none))))) else (bif Nat.blt pc 92 then (bif Nat.blt pc 85 then (bif Nat.blt pc 80 then (bif Nat.beq pc 79 then some (8, 0, 0, 80) else none) else (bif Nat.blt pc 83 then (bif Nat.beq pc 80 then some (2, 0, 401, 83) else none) else (bif Nat.beq pc 83 then some (76, 0, 0, 85) else none))) else (bif Nat.blt pc 88 then (bif Nat.beq pc 85 then some (74, 39, 0, 88) else none) else (bif Nat.blt pc 89 then (bif Nat.beq pc 88 then some (8, 0, 0, 89) else none) else (bif Nat.beq pc 89 then some (33, 9, 0, 92) else none)))) else (bif Nat.blt pc 97 then (bif Nat.blt pc 93 then (bif Nat.beq pc 92 then some (0, 0, 1, 93) else none) else (bif Nat.blt pc 96 then (bif Nat.beq pc 93 then some (80, 42, 0, 96) else none) else (bif Nat.beq pc 96 then some (8, 0, 0, 97) else none))) else (bif Nat.blt pc 101 then (bif Nat.blt pc 100 then (bif Nat.beq pc 97 then some (33, 15, 0, 100) else none) else (bif Nat.beq pc 100 then some (0, 0, 1, 101) else none)) else (bif Nat.blt pc 104 then (bif Nat.beq pc 101 then some (80, 42, 0, 104) else none) else (bif Nat.beq pc 104 then some (86, 0, 0, 105) else none))))))))
def mX3_init : em_Me := ((RX3, yX3_init, cX3_init, 1, none), iX3_init, fX3, qX3)
theorem rX3_init_0 : em_ckR RX3 cX3_init iX3_init 0 60 = true := by decide +kernel
theorem rX3_init_1 : em_ckR RX3 cX3_init iX3_init 60 45 = true := by decide +kernel
theorem kX3_init : em_ok mX3_init := em_okM (N := 105) rfl (fun pc hpc q hq => if h0 : pc < 60 then em_ckR_at rX3_init_0 (by omega) (by omega) hq else em_ckR_at rX3_init_1 (by omega) (by omega) hq) fX3_ok qX3_ok
theorem tX3_init : em_tI mX3_init 0 := ⟨⟨em_in (k := 30) (by decide +kernel), em_in (k := 2) (by decide +kernel), ⟨by decide +kernel, by decide +kernel⟩, by decide +kernel, by decide +kernel⟩, em_in (k := 29) (by decide +kernel), rfl, rfl⟩
def iX3_today : Nat → Option (Nat × Nat × Int32 × Nat) := em_tr 5 (fun pc => (bif Nat.blt pc 1 then (bif Nat.beq pc 0 then some (8, 0, 0, 1) else none) else (bif Nat.blt pc 4 then (bif Nat.beq pc 1 then some (33, 48, 0, 4) else none) else (bif Nat.beq pc 4 then some (83, 0, 0, 5) else none))))
def mX3_today : em_Me := ((RX3, yX3_today, cX3_today, 1, (some .int)), iX3_today, fX3, qX3)
theorem rX3_today_0 : em_ckR RX3 cX3_today iX3_today 0 5 = true := by decide +kernel
theorem kX3_today : em_ok mX3_today := em_okM (N := 5) rfl (fun pc hpc q hq => em_ckR_at rX3_today_0 (by omega) (by omega) hq) fX3_ok qX3_ok
theorem tX3_today : em_tV mX3_today 0 3 := ⟨⟨em_in (k := 336) (by decide +kernel), em_in (k := 2) (by decide +kernel), ⟨by decide +kernel, by decide +kernel⟩, by decide +kernel, by decide +kernel⟩, em_in (k := 334) (by decide +kernel), _, rfl, em_in (k := 335) (by decide +kernel)⟩
def iX3_nextDay : Nat → Option (Nat × Nat × Int32 × Nat) := em_tr 11 (fun pc => (bif Nat.blt pc 5 then (bif Nat.blt pc 1 then (bif Nat.beq pc 0 then some (8, 0, 0, 1) else none) else (bif Nat.blt pc 2 then (bif Nat.beq pc 1 then some (30, 0, 0, 2) else none) else (bif Nat.beq pc 2 then some (33, 48, 0, 5) else none))) else (bif Nat.blt pc 7 then (bif Nat.blt pc 6 then (bif Nat.beq pc 5 then some (0, 0, 1, 6) else none) else (bif Nat.beq pc 6 then some (17, 0, 0, 7) else none)) else (bif Nat.blt pc 10 then (bif Nat.beq pc 7 then some (74, 48, 0, 10) else none) else (bif Nat.beq pc 10 then some (86, 0, 0, 11) else none)))))
def mX3_nextDay : em_Me := ((RX3, yX3_nextDay, cX3_nextDay, 1, none), iX3_nextDay, fX3, qX3)
theorem rX3_nextDay_0 : em_ckR RX3 cX3_nextDay iX3_nextDay 0 11 = true := by decide +kernel
theorem kX3_nextDay : em_ok mX3_nextDay := em_okM (N := 11) rfl (fun pc hpc q hq => em_ckR_at rX3_nextDay_0 (by omega) (by omega) hq) fX3_ok qX3_ok
theorem tX3_nextDay : em_tV mX3_nextDay 0 3 := ⟨⟨em_in (k := 381) (by decide +kernel), em_in (k := 2) (by decide +kernel), ⟨by decide +kernel, by decide +kernel⟩, by decide +kernel, by decide +kernel⟩, em_in (k := 379) (by decide +kernel), _, rfl, em_in (k := 380) (by decide +kernel)⟩
def iX3_size : Nat → Option (Nat × Nat × Int32 × Nat) := em_tr 5 (fun pc => (bif Nat.blt pc 1 then (bif Nat.beq pc 0 then some (8, 0, 0, 1) else none) else (bif Nat.blt pc 4 then (bif Nat.beq pc 1 then some (33, 52, 0, 4) else none) else (bif Nat.beq pc 4 then some (83, 0, 0, 5) else none))))
def mX3_size : em_Me := ((RX3, yX3_size, cX3_size, 1, (some .int)), iX3_size, fX3, qX3)
theorem rX3_size_0 : em_ckR RX3 cX3_size iX3_size 0 5 = true := by decide +kernel
theorem kX3_size : em_ok mX3_size := em_okM (N := 5) rfl (fun pc hpc q hq => em_ckR_at rX3_size_0 (by omega) (by omega) hq) fX3_ok qX3_ok
theorem tX3_size : em_tV mX3_size 0 3 := ⟨⟨em_in (k := 266) (by decide +kernel), em_in (k := 2) (by decide +kernel), ⟨by decide +kernel, by decide +kernel⟩, by decide +kernel, by decide +kernel⟩, em_in (k := 264) (by decide +kernel), _, rfl, em_in (k := 265) (by decide +kernel)⟩
def iX3_isBeast : Nat → Option (Nat × Nat × Int32 × Nat) := em_tr 12 (fun pc => (bif Nat.blt pc 6 then (bif Nat.blt pc 2 then (bif Nat.blt pc 1 then (bif Nat.beq pc 0 then some (4, 1, 0, 1) else none) else (bif Nat.beq pc 1 then some (0, 0, 0, 2) else none)) else (bif Nat.blt pc 3 then (bif Nat.beq pc 2 then some (8, 0, 0, 3) else none) else (bif Nat.beq pc 3 then some (33, 52, 0, 6) else none))) else (bif Nat.blt pc 8 then (bif Nat.blt pc 7 then (bif Nat.beq pc 6 then some (0, 0, 1, 7) else none) else (bif Nat.beq pc 7 then some (18, 0, 0, 8) else none)) else (bif Nat.blt pc 11 then (bif Nat.beq pc 8 then some (80, 55, 0, 11) else none) else (bif Nat.beq pc 11 then some (83, 0, 0, 12) else none)))))
def mX3_isBeast : em_Me := ((RX3, yX3_isBeast, cX3_isBeast, 2, (some .boolean)), iX3_isBeast, fX3, qX3)
theorem rX3_isBeast_0 : em_ckR RX3 cX3_isBeast iX3_isBeast 0 12 = true := by decide +kernel
theorem kX3_isBeast : em_ok mX3_isBeast := em_okM (N := 12) rfl (fun pc hpc q hq => em_ckR_at rX3_isBeast_0 (by omega) (by omega) hq) fX3_ok qX3_ok
theorem tX3_isBeast : em_tV mX3_isBeast 1 3 := ⟨⟨em_in (k := 274) (by decide +kernel), em_in (k := 2) (by decide +kernel), ⟨by decide +kernel, by decide +kernel⟩, by decide +kernel, by decide +kernel⟩, em_in (k := 272) (by decide +kernel), _, rfl, em_in (k := 273) (by decide +kernel)⟩
def iX3_kindOfBeast : Nat → Option (Nat × Nat × Int32 × Nat) := em_tr 19 (fun pc => (bif Nat.blt pc 9 then (bif Nat.blt pc 2 then (bif Nat.blt pc 1 then (bif Nat.beq pc 0 then some (8, 0, 0, 1) else none) else (bif Nat.beq pc 1 then some (4, 1, 0, 2) else none)) else (bif Nat.blt pc 5 then (bif Nat.beq pc 2 then some (81, 59, 0, 5) else none) else (bif Nat.blt pc 8 then (bif Nat.beq pc 5 then some (50, 17, 0, 8) else none) else (bif Nat.beq pc 8 then some (8, 0, 0, 9) else none)))) else (bif Nat.blt pc 14 then (bif Nat.blt pc 12 then (bif Nat.beq pc 9 then some (33, 18, 0, 12) else none) else (bif Nat.blt pc 13 then (bif Nat.beq pc 12 then some (4, 1, 0, 13) else none) else (bif Nat.beq pc 13 then some (62, 0, 0, 14) else none))) else (bif Nat.blt pc 17 then (bif Nat.beq pc 14 then some (32, 18, 0, 17) else none) else (bif Nat.blt pc 18 then (bif Nat.beq pc 17 then some (0, 0, (-1), 18) else none) else (bif Nat.beq pc 18 then some (83, 0, 0, 19) else none))))))
def mX3_kindOfBeast : em_Me := ((RX3, yX3_kindOfBeast, cX3_kindOfBeast, 2, (some .int)), iX3_kindOfBeast, fX3, qX3)
theorem rX3_kindOfBeast_0 : em_ckR RX3 cX3_kindOfBeast iX3_kindOfBeast 0 19 = true := by decide +kernel
theorem kX3_kindOfBeast : em_ok mX3_kindOfBeast := em_okM (N := 19) rfl (fun pc hpc q hq => em_ckR_at rX3_kindOfBeast_0 (by omega) (by omega) hq) fX3_ok qX3_ok
theorem tX3_kindOfBeast : em_tV mX3_kindOfBeast 1 3 := ⟨⟨em_in (k := 270) (by decide +kernel), em_in (k := 2) (by decide +kernel), ⟨by decide +kernel, by decide +kernel⟩, by decide +kernel, by decide +kernel⟩, em_in (k := 268) (by decide +kernel), _, rfl, em_in (k := 269) (by decide +kernel)⟩
def iX3_weightOfKind : Nat → Option (Nat × Nat × Int32 × Nat) := em_tr 18 (fun pc => (bif Nat.blt pc 11 then (bif Nat.blt pc 4 then (bif Nat.blt pc 1 then (bif Nat.beq pc 0 then some (4, 1, 0, 1) else none) else (bif Nat.beq pc 1 then some (80, 63, 0, 4) else none)) else (bif Nat.blt pc 7 then (bif Nat.beq pc 4 then some (50, 16, 0, 7) else none) else (bif Nat.blt pc 8 then (bif Nat.beq pc 7 then some (8, 0, 0, 8) else none) else (bif Nat.beq pc 8 then some (33, 15, 0, 11) else none)))) else (bif Nat.blt pc 13 then (bif Nat.blt pc 12 then (bif Nat.beq pc 11 then some (4, 1, 0, 12) else none) else (bif Nat.beq pc 12 then some (62, 0, 0, 13) else none)) else (bif Nat.blt pc 16 then (bif Nat.beq pc 13 then some (32, 17, 0, 16) else none) else (bif Nat.blt pc 17 then (bif Nat.beq pc 16 then some (0, 0, 0, 17) else none) else (bif Nat.beq pc 17 then some (83, 0, 0, 18) else none))))))
def mX3_weightOfKind : em_Me := ((RX3, yX3_weightOfKind, cX3_weightOfKind, 2, (some .int)), iX3_weightOfKind, fX3, qX3)
theorem rX3_weightOfKind_0 : em_ckR RX3 cX3_weightOfKind iX3_weightOfKind 0 18 = true := by decide +kernel
theorem kX3_weightOfKind : em_ok mX3_weightOfKind := em_okM (N := 18) rfl (fun pc hpc q hq => em_ckR_at rX3_weightOfKind_0 (by omega) (by omega) hq) fX3_ok qX3_ok
theorem tX3_weightOfKind : em_tV mX3_weightOfKind 1 3 := ⟨⟨em_in (k := 279) (by decide +kernel), em_in (k := 2) (by decide +kernel), ⟨by decide +kernel, by decide +kernel⟩, by decide +kernel, by decide +kernel⟩, em_in (k := 277) (by decide +kernel), _, rfl, em_in (k := 278) (by decide +kernel)⟩
def iX3_setKind : Nat → Option (Nat × Nat × Int32 × Nat) := em_tr 22 (fun pc => (bif Nat.blt pc 13 then (bif Nat.blt pc 7 then (bif Nat.blt pc 1 then (bif Nat.beq pc 0 then some (4, 1, 0, 1) else none) else (bif Nat.blt pc 4 then (bif Nat.beq pc 1 then some (80, 63, 0, 4) else none) else (bif Nat.beq pc 4 then some (50, 21, 0, 7) else none))) else (bif Nat.blt pc 11 then (bif Nat.blt pc 8 then (bif Nat.beq pc 7 then some (8, 0, 0, 8) else none) else (bif Nat.beq pc 8 then some (33, 9, 0, 11) else none)) else (bif Nat.blt pc 12 then (bif Nat.beq pc 11 then some (4, 1, 0, 12) else none) else (bif Nat.beq pc 12 then some (4, 2, 0, 13) else none)))) else (bif Nat.blt pc 18 then (bif Nat.blt pc 14 then (bif Nat.beq pc 13 then some (66, 0, 0, 14) else none) else (bif Nat.blt pc 15 then (bif Nat.beq pc 14 then some (8, 0, 0, 15) else none) else (bif Nat.beq pc 15 then some (33, 15, 0, 18) else none))) else (bif Nat.blt pc 20 then (bif Nat.blt pc 19 then (bif Nat.beq pc 18 then some (4, 1, 0, 19) else none) else (bif Nat.beq pc 19 then some (4, 3, 0, 20) else none)) else (bif Nat.blt pc 21 then (bif Nat.beq pc 20 then some (66, 0, 0, 21) else none) else (bif Nat.beq pc 21 then some (86, 0, 0, 22) else none))))))
def mX3_setKind : em_Me := ((RX3, yX3_setKind, cX3_setKind, 4, none), iX3_setKind, fX3, qX3)
theorem rX3_setKind_0 : em_ckR RX3 cX3_setKind iX3_setKind 0 22 = true := by decide +kernel
theorem kX3_setKind : em_ok mX3_setKind := em_okM (N := 22) rfl (fun pc hpc q hq => em_ckR_at rX3_setKind_0 (by omega) (by omega) hq) fX3_ok qX3_ok
theorem tX3_setKind : em_tV mX3_setKind 3 3 := ⟨⟨em_in (k := 284) (by decide +kernel), em_in (k := 2) (by decide +kernel), ⟨by decide +kernel, by decide +kernel⟩, by decide +kernel, by decide +kernel⟩, em_in (k := 282) (by decide +kernel), _, rfl, em_in (k := 283) (by decide +kernel)⟩
def iX3_tellBeast : Nat → Option (Nat × Nat × Int32 × Nat) := em_tr 76 (fun pc => (bif Nat.blt pc 40 then (bif Nat.blt pc 21 then (bif Nat.blt pc 9 then (bif Nat.blt pc 4 then (bif Nat.blt pc 1 then (bif Nat.beq pc 0 then some (4, 1, 0, 1) else none) else (bif Nat.beq pc 1 then some (80, 63, 0, 4) else none)) else (bif Nat.blt pc 7 then (bif Nat.beq pc 4 then some (50, 24, 0, 7) else none) else (bif Nat.blt pc 8 then (bif Nat.beq pc 7 then some (8, 0, 0, 8) else none) else (bif Nat.beq pc 8 then some (4, 2, 0, 9) else none)))) else (bif Nat.blt pc 15 then (bif Nat.blt pc 12 then (bif Nat.beq pc 9 then some (81, 66, 0, 12) else none) else (bif Nat.beq pc 12 then some (50, 24, 0, 15) else none)) else (bif Nat.blt pc 16 then (bif Nat.beq pc 15 then some (8, 0, 0, 16) else none) else (bif Nat.blt pc 19 then (bif Nat.beq pc 16 then some (33, 52, 0, 19) else none) else (bif Nat.beq pc 19 then some (1, 0, 40, 21) else none))))) else (bif Nat.blt pc 30 then (bif Nat.blt pc 25 then (bif Nat.blt pc 24 then (bif Nat.beq pc 21 then some (58, 26, 0, 24) else none) else (bif Nat.beq pc 24 then some (0, 0, (-1), 25) else none)) else (bif Nat.blt pc 26 then (bif Nat.beq pc 25 then some (83, 0, 0, 26) else none) else (bif Nat.blt pc 27 then (bif Nat.beq pc 26 then some (8, 0, 0, 27) else none) else (bif Nat.beq pc 27 then some (33, 18, 0, 30) else none)))) else (bif Nat.blt pc 35 then (bif Nat.blt pc 31 then (bif Nat.beq pc 30 then some (8, 0, 0, 31) else none) else (bif Nat.blt pc 34 then (bif Nat.beq pc 31 then some (33, 52, 0, 34) else none) else (bif Nat.beq pc 34 then some (4, 1, 0, 35) else none))) else (bif Nat.blt pc 36 then (bif Nat.beq pc 35 then some (66, 0, 0, 36) else none) else (bif Nat.blt pc 37 then (bif Nat.beq pc 36 then some (8, 0, 0, 37) else none) else (bif Nat.beq pc 37 then some (33, 21, 0, 40) else none)))))) else (bif Nat.blt pc 59 then (bif Nat.blt pc 47 then (bif Nat.blt pc 44 then (bif Nat.blt pc 41 then (bif Nat.beq pc 40 then some (8, 0, 0, 41) else none) else (bif Nat.beq pc 41 then some (33, 52, 0, 44) else none)) else (bif Nat.blt pc 45 then (bif Nat.beq pc 44 then some (4, 2, 0, 45) else none) else (bif Nat.blt pc 46 then (bif Nat.beq pc 45 then some (66, 0, 0, 46) else none) else (bif Nat.beq pc 46 then some (8, 0, 0, 47) else none)))) else (bif Nat.blt pc 54 then (bif Nat.blt pc 50 then (bif Nat.beq pc 47 then some (33, 24, 0, 50) else none) else (bif Nat.blt pc 51 then (bif Nat.beq pc 50 then some (8, 0, 0, 51) else none) else (bif Nat.beq pc 51 then some (33, 52, 0, 54) else none))) else (bif Nat.blt pc 55 then (bif Nat.beq pc 54 then some (8, 0, 0, 55) else none) else (bif Nat.blt pc 58 then (bif Nat.beq pc 55 then some (33, 48, 0, 58) else none) else (bif Nat.beq pc 58 then some (66, 0, 0, 59) else none))))) else (bif Nat.blt pc 66 then (bif Nat.blt pc 61 then (bif Nat.blt pc 60 then (bif Nat.beq pc 59 then some (8, 0, 0, 60) else none) else (bif Nat.beq pc 60 then some (30, 0, 0, 61) else none)) else (bif Nat.blt pc 64 then (bif Nat.beq pc 61 then some (33, 52, 0, 64) else none) else (bif Nat.blt pc 65 then (bif Nat.beq pc 64 then some (0, 0, 1, 65) else none) else (bif Nat.beq pc 65 then some (17, 0, 0, 66) else none)))) else (bif Nat.blt pc 73 then (bif Nat.blt pc 69 then (bif Nat.beq pc 66 then some (74, 52, 0, 69) else none) else (bif Nat.blt pc 70 then (bif Nat.beq pc 69 then some (8, 0, 0, 70) else none) else (bif Nat.beq pc 70 then some (33, 52, 0, 73) else none))) else (bif Nat.blt pc 74 then (bif Nat.beq pc 73 then some (0, 0, 1, 74) else none) else (bif Nat.blt pc 75 then (bif Nat.beq pc 74 then some (18, 0, 0, 75) else none) else (bif Nat.beq pc 75 then some (83, 0, 0, 76) else none))))))))
def mX3_tellBeast : em_Me := ((RX3, yX3_tellBeast, cX3_tellBeast, 3, (some .int)), iX3_tellBeast, fX3, qX3)
theorem rX3_tellBeast_0 : em_ckR RX3 cX3_tellBeast iX3_tellBeast 0 60 = true := by decide +kernel
theorem rX3_tellBeast_1 : em_ckR RX3 cX3_tellBeast iX3_tellBeast 60 16 = true := by decide +kernel
theorem kX3_tellBeast : em_ok mX3_tellBeast := em_okM (N := 76) rfl (fun pc hpc q hq => if h0 : pc < 60 then em_ckR_at rX3_tellBeast_0 (by omega) (by omega) hq else em_ckR_at rX3_tellBeast_1 (by omega) (by omega) hq) fX3_ok qX3_ok
theorem tX3_tellBeast : em_tV mX3_tellBeast 2 3 := ⟨⟨em_in (k := 292) (by decide +kernel), em_in (k := 2) (by decide +kernel), ⟨by decide +kernel, by decide +kernel⟩, by decide +kernel, by decide +kernel⟩, em_in (k := 290) (by decide +kernel), _, rfl, em_in (k := 291) (by decide +kernel)⟩
def iX3_tellGone : Nat → Option (Nat × Nat × Int32 × Nat) := em_tr 89 (fun pc => (bif Nat.blt pc 45 then (bif Nat.blt pc 22 then (bif Nat.blt pc 12 then (bif Nat.blt pc 5 then (bif Nat.blt pc 1 then (bif Nat.beq pc 0 then some (8, 0, 0, 1) else none) else (bif Nat.blt pc 2 then (bif Nat.beq pc 1 then some (4, 1, 0, 2) else none) else (bif Nat.beq pc 2 then some (81, 59, 0, 5) else none))) else (bif Nat.blt pc 8 then (bif Nat.beq pc 5 then some (50, 18, 0, 8) else none) else (bif Nat.blt pc 9 then (bif Nat.beq pc 8 then some (8, 0, 0, 9) else none) else (bif Nat.beq pc 9 then some (33, 69, 0, 12) else none)))) else (bif Nat.blt pc 19 then (bif Nat.blt pc 15 then (bif Nat.beq pc 12 then some (2, 0, 200, 15) else none) else (bif Nat.blt pc 18 then (bif Nat.beq pc 15 then some (58, 20, 0, 18) else none) else (bif Nat.beq pc 18 then some (0, 0, 0, 19) else none))) else (bif Nat.blt pc 20 then (bif Nat.beq pc 19 then some (83, 0, 0, 20) else none) else (bif Nat.blt pc 21 then (bif Nat.beq pc 20 then some (4, 2, 0, 21) else none) else (bif Nat.beq pc 21 then some (0, 0, (-1), 22) else none))))) else (bif Nat.blt pc 32 then (bif Nat.blt pc 27 then (bif Nat.blt pc 25 then (bif Nat.beq pc 22 then some (56, 44, 0, 25) else none) else (bif Nat.blt pc 26 then (bif Nat.beq pc 25 then some (4, 2, 0, 26) else none) else (bif Nat.beq pc 26 then some (8, 0, 0, 27) else none))) else (bif Nat.blt pc 30 then (bif Nat.beq pc 27 then some (33, 21, 0, 30) else none) else (bif Nat.blt pc 31 then (bif Nat.beq pc 30 then some (4, 1, 0, 31) else none) else (bif Nat.beq pc 31 then some (62, 0, 0, 32) else none)))) else (bif Nat.blt pc 39 then (bif Nat.blt pc 33 then (bif Nat.beq pc 32 then some (8, 0, 0, 33) else none) else (bif Nat.blt pc 36 then (bif Nat.beq pc 33 then some (33, 48, 0, 36) else none) else (bif Nat.beq pc 36 then some (80, 55, 0, 39) else none))) else (bif Nat.blt pc 43 then (bif Nat.blt pc 42 then (bif Nat.beq pc 39 then some (51, 44, 0, 42) else none) else (bif Nat.beq pc 42 then some (0, 0, 0, 43) else none)) else (bif Nat.blt pc 44 then (bif Nat.beq pc 43 then some (83, 0, 0, 44) else none) else (bif Nat.beq pc 44 then some (8, 0, 0, 45) else none)))))) else (bif Nat.blt pc 68 then (bif Nat.blt pc 55 then (bif Nat.blt pc 52 then (bif Nat.blt pc 48 then (bif Nat.beq pc 45 then some (33, 27, 0, 48) else none) else (bif Nat.blt pc 49 then (bif Nat.beq pc 48 then some (8, 0, 0, 49) else none) else (bif Nat.beq pc 49 then some (33, 69, 0, 52) else none))) else (bif Nat.blt pc 53 then (bif Nat.beq pc 52 then some (4, 1, 0, 53) else none) else (bif Nat.blt pc 54 then (bif Nat.beq pc 53 then some (66, 0, 0, 54) else none) else (bif Nat.beq pc 54 then some (8, 0, 0, 55) else none)))) else (bif Nat.blt pc 62 then (bif Nat.blt pc 58 then (bif Nat.beq pc 55 then some (33, 30, 0, 58) else none) else (bif Nat.blt pc 59 then (bif Nat.beq pc 58 then some (8, 0, 0, 59) else none) else (bif Nat.beq pc 59 then some (33, 69, 0, 62) else none))) else (bif Nat.blt pc 64 then (bif Nat.blt pc 63 then (bif Nat.beq pc 62 then some (4, 2, 0, 63) else none) else (bif Nat.beq pc 63 then some (66, 0, 0, 64) else none)) else (bif Nat.blt pc 65 then (bif Nat.beq pc 64 then some (8, 0, 0, 65) else none) else (bif Nat.beq pc 65 then some (33, 33, 0, 68) else none))))) else (bif Nat.blt pc 78 then (bif Nat.blt pc 73 then (bif Nat.blt pc 69 then (bif Nat.beq pc 68 then some (8, 0, 0, 69) else none) else (bif Nat.blt pc 72 then (bif Nat.beq pc 69 then some (33, 69, 0, 72) else none) else (bif Nat.beq pc 72 then some (8, 0, 0, 73) else none))) else (bif Nat.blt pc 76 then (bif Nat.beq pc 73 then some (33, 48, 0, 76) else none) else (bif Nat.blt pc 77 then (bif Nat.beq pc 76 then some (66, 0, 0, 77) else none) else (bif Nat.beq pc 77 then some (8, 0, 0, 78) else none)))) else (bif Nat.blt pc 83 then (bif Nat.blt pc 79 then (bif Nat.beq pc 78 then some (30, 0, 0, 79) else none) else (bif Nat.blt pc 82 then (bif Nat.beq pc 79 then some (33, 69, 0, 82) else none) else (bif Nat.beq pc 82 then some (0, 0, 1, 83) else none))) else (bif Nat.blt pc 87 then (bif Nat.blt pc 84 then (bif Nat.beq pc 83 then some (17, 0, 0, 84) else none) else (bif Nat.beq pc 84 then some (74, 69, 0, 87) else none)) else (bif Nat.blt pc 88 then (bif Nat.beq pc 87 then some (0, 0, 1, 88) else none) else (bif Nat.beq pc 88 then some (83, 0, 0, 89) else none))))))))
def mX3_tellGone : em_Me := ((RX3, yX3_tellGone, cX3_tellGone, 3, (some .boolean)), iX3_tellGone, fX3, qX3)
theorem rX3_tellGone_0 : em_ckR RX3 cX3_tellGone iX3_tellGone 0 60 = true := by decide +kernel
theorem rX3_tellGone_1 : em_ckR RX3 cX3_tellGone iX3_tellGone 60 29 = true := by decide +kernel
theorem kX3_tellGone : em_ok mX3_tellGone := em_okM (N := 89) rfl (fun pc hpc q hq => if h0 : pc < 60 then em_ckR_at rX3_tellGone_0 (by omega) (by omega) hq else em_ckR_at rX3_tellGone_1 (by omega) (by omega) hq) fX3_ok qX3_ok
theorem tX3_tellGone : em_tV mX3_tellGone 2 3 := ⟨⟨em_in (k := 304) (by decide +kernel), em_in (k := 2) (by decide +kernel), ⟨by decide +kernel, by decide +kernel⟩, by decide +kernel, by decide +kernel⟩, em_in (k := 302) (by decide +kernel), _, rfl, em_in (k := 303) (by decide +kernel)⟩
def iX3_isHere : Nat → Option (Nat × Nat × Int32 × Nat) := em_tr 39 (fun pc => (bif Nat.blt pc 21 then (bif Nat.blt pc 9 then (bif Nat.blt pc 2 then (bif Nat.blt pc 1 then (bif Nat.beq pc 0 then some (8, 0, 0, 1) else none) else (bif Nat.beq pc 1 then some (4, 1, 0, 2) else none)) else (bif Nat.blt pc 5 then (bif Nat.beq pc 2 then some (81, 59, 0, 5) else none) else (bif Nat.blt pc 8 then (bif Nat.beq pc 5 then some (50, 24, 0, 8) else none) else (bif Nat.beq pc 8 then some (8, 0, 0, 9) else none)))) else (bif Nat.blt pc 16 then (bif Nat.blt pc 10 then (bif Nat.beq pc 9 then some (4, 2, 0, 10) else none) else (bif Nat.blt pc 13 then (bif Nat.beq pc 10 then some (81, 66, 0, 13) else none) else (bif Nat.beq pc 13 then some (50, 24, 0, 16) else none))) else (bif Nat.blt pc 17 then (bif Nat.beq pc 16 then some (8, 0, 0, 17) else none) else (bif Nat.blt pc 18 then (bif Nat.beq pc 17 then some (4, 3, 0, 18) else none) else (bif Nat.beq pc 18 then some (81, 66, 0, 21) else none))))) else (bif Nat.blt pc 31 then (bif Nat.blt pc 26 then (bif Nat.blt pc 24 then (bif Nat.beq pc 21 then some (51, 26, 0, 24) else none) else (bif Nat.blt pc 25 then (bif Nat.beq pc 24 then some (0, 0, 0, 25) else none) else (bif Nat.beq pc 25 then some (83, 0, 0, 26) else none))) else (bif Nat.blt pc 27 then (bif Nat.beq pc 26 then some (8, 0, 0, 27) else none) else (bif Nat.blt pc 28 then (bif Nat.beq pc 27 then some (4, 3, 0, 28) else none) else (bif Nat.beq pc 28 then some (81, 72, 0, 31) else none)))) else (bif Nat.blt pc 34 then (bif Nat.blt pc 32 then (bif Nat.beq pc 31 then some (8, 0, 0, 32) else none) else (bif Nat.blt pc 33 then (bif Nat.beq pc 32 then some (4, 1, 0, 33) else none) else (bif Nat.beq pc 33 then some (4, 2, 0, 34) else none))) else (bif Nat.blt pc 35 then (bif Nat.beq pc 34 then some (4, 3, 0, 35) else none) else (bif Nat.blt pc 38 then (bif Nat.beq pc 35 then some (81, 76, 0, 38) else none) else (bif Nat.beq pc 38 then some (83, 0, 0, 39) else none)))))))
def mX3_isHere : em_Me := ((RX3, yX3_isHere, cX3_isHere, 4, (some .boolean)), iX3_isHere, fX3, qX3)
theorem rX3_isHere_0 : em_ckR RX3 cX3_isHere iX3_isHere 0 39 = true := by decide +kernel
theorem kX3_isHere : em_ok mX3_isHere := em_okM (N := 39) rfl (fun pc hpc q hq => em_ckR_at rX3_isHere_0 (by omega) (by omega) hq) fX3_ok qX3_ok
theorem tX3_isHere : em_tV mX3_isHere 3 3 := ⟨⟨em_in (k := 312) (by decide +kernel), em_in (k := 2) (by decide +kernel), ⟨by decide +kernel, by decide +kernel⟩, by decide +kernel, by decide +kernel⟩, em_in (k := 310) (by decide +kernel), _, rfl, em_in (k := 311) (by decide +kernel)⟩
def iX3_rationOf : Nat → Option (Nat × Nat × Int32 × Nat) := em_tr 71 (fun pc => (bif Nat.blt pc 34 then (bif Nat.blt pc 18 then (bif Nat.blt pc 9 then (bif Nat.blt pc 2 then (bif Nat.blt pc 1 then (bif Nat.beq pc 0 then some (8, 0, 0, 1) else none) else (bif Nat.beq pc 1 then some (4, 1, 0, 2) else none)) else (bif Nat.blt pc 5 then (bif Nat.beq pc 2 then some (81, 66, 0, 5) else none) else (bif Nat.blt pc 8 then (bif Nat.beq pc 5 then some (50, 16, 0, 8) else none) else (bif Nat.beq pc 8 then some (8, 0, 0, 9) else none)))) else (bif Nat.blt pc 13 then (bif Nat.blt pc 10 then (bif Nat.beq pc 9 then some (4, 2, 0, 10) else none) else (bif Nat.beq pc 10 then some (81, 66, 0, 13) else none)) else (bif Nat.blt pc 16 then (bif Nat.beq pc 13 then some (51, 18, 0, 16) else none) else (bif Nat.blt pc 17 then (bif Nat.beq pc 16 then some (0, 0, (-1), 17) else none) else (bif Nat.beq pc 17 then some (83, 0, 0, 18) else none))))) else (bif Nat.blt pc 25 then (bif Nat.blt pc 20 then (bif Nat.blt pc 19 then (bif Nat.beq pc 18 then some (8, 0, 0, 19) else none) else (bif Nat.beq pc 19 then some (4, 2, 0, 20) else none)) else (bif Nat.blt pc 23 then (bif Nat.beq pc 20 then some (81, 72, 0, 23) else none) else (bif Nat.blt pc 24 then (bif Nat.beq pc 23 then some (0, 0, 0, 24) else none) else (bif Nat.beq pc 24 then some (10, 3, 0, 25) else none)))) else (bif Nat.blt pc 28 then (bif Nat.blt pc 26 then (bif Nat.beq pc 25 then some (0, 0, 0, 26) else none) else (bif Nat.beq pc 26 then some (11, 4, 0, 28) else none)) else (bif Nat.blt pc 30 then (bif Nat.beq pc 28 then some (5, 4, 0, 30) else none) else (bif Nat.blt pc 31 then (bif Nat.beq pc 30 then some (8, 0, 0, 31) else none) else (bif Nat.beq pc 31 then some (33, 52, 0, 34) else none)))))) else (bif Nat.blt pc 53 then (bif Nat.blt pc 42 then (bif Nat.blt pc 38 then (bif Nat.blt pc 37 then (bif Nat.beq pc 34 then some (59, 69, 0, 37) else none) else (bif Nat.beq pc 37 then some (8, 0, 0, 38) else none)) else (bif Nat.blt pc 40 then (bif Nat.beq pc 38 then some (5, 4, 0, 40) else none) else (bif Nat.blt pc 41 then (bif Nat.beq pc 40 then some (4, 1, 0, 41) else none) else (bif Nat.beq pc 41 then some (4, 2, 0, 42) else none)))) else (bif Nat.blt pc 48 then (bif Nat.blt pc 45 then (bif Nat.beq pc 42 then some (81, 76, 0, 45) else none) else (bif Nat.beq pc 45 then some (50, 63, 0, 48) else none)) else (bif Nat.blt pc 49 then (bif Nat.beq pc 48 then some (4, 3, 0, 49) else none) else (bif Nat.blt pc 50 then (bif Nat.beq pc 49 then some (8, 0, 0, 50) else none) else (bif Nat.beq pc 50 then some (33, 9, 0, 53) else none))))) else (bif Nat.blt pc 61 then (bif Nat.blt pc 57 then (bif Nat.blt pc 54 then (bif Nat.beq pc 53 then some (8, 0, 0, 54) else none) else (bif Nat.beq pc 54 then some (33, 18, 0, 57) else none)) else (bif Nat.blt pc 59 then (bif Nat.beq pc 57 then some (5, 4, 0, 59) else none) else (bif Nat.blt pc 60 then (bif Nat.beq pc 59 then some (62, 0, 0, 60) else none) else (bif Nat.beq pc 60 then some (62, 0, 0, 61) else none)))) else (bif Nat.blt pc 66 then (bif Nat.blt pc 62 then (bif Nat.beq pc 61 then some (17, 0, 0, 62) else none) else (bif Nat.blt pc 63 then (bif Nat.beq pc 62 then some (10, 3, 0, 63) else none) else (bif Nat.beq pc 63 then some (16, 4, 1, 66) else none))) else (bif Nat.blt pc 69 then (bif Nat.beq pc 66 then some (32, 28, 0, 69) else none) else (bif Nat.blt pc 70 then (bif Nat.beq pc 69 then some (4, 3, 0, 70) else none) else (bif Nat.beq pc 70 then some (83, 0, 0, 71) else none))))))))
def mX3_rationOf : em_Me := ((RX3, yX3_rationOf, cX3_rationOf, 5, (some .int)), iX3_rationOf, fX3, qX3)
theorem rX3_rationOf_0 : em_ckR RX3 cX3_rationOf iX3_rationOf 0 60 = true := by decide +kernel
theorem rX3_rationOf_1 : em_ckR RX3 cX3_rationOf iX3_rationOf 60 11 = true := by decide +kernel
theorem kX3_rationOf : em_ok mX3_rationOf := em_okM (N := 71) rfl (fun pc hpc q hq => if h0 : pc < 60 then em_ckR_at rX3_rationOf_0 (by omega) (by omega) hq else em_ckR_at rX3_rationOf_1 (by omega) (by omega) hq) fX3_ok qX3_ok
theorem tX3_rationOf : em_tV mX3_rationOf 2 3 := ⟨⟨em_in (k := 328) (by decide +kernel), em_in (k := 2) (by decide +kernel), ⟨by decide +kernel, by decide +kernel⟩, by decide +kernel, by decide +kernel⟩, em_in (k := 326) (by decide +kernel), _, rfl, em_in (k := 327) (by decide +kernel)⟩
def iX3_rationsToToday : Nat → Option (Nat × Nat × Int32 × Nat) := em_tr 122 (fun pc => (bif Nat.blt pc 60 then (bif Nat.blt pc 35 then (bif Nat.blt pc 17 then (bif Nat.blt pc 8 then (bif Nat.blt pc 4 then (bif Nat.blt pc 1 then (bif Nat.beq pc 0 then some (8, 0, 0, 1) else none) else (bif Nat.beq pc 1 then some (33, 39, 0, 4) else none)) else (bif Nat.blt pc 5 then (bif Nat.beq pc 4 then some (0, 0, 0, 5) else none) else (bif Nat.beq pc 5 then some (80, 42, 0, 8) else none))) else (bif Nat.blt pc 10 then (bif Nat.blt pc 9 then (bif Nat.beq pc 8 then some (8, 0, 0, 9) else none) else (bif Nat.beq pc 9 then some (8, 0, 0, 10) else none)) else (bif Nat.blt pc 13 then (bif Nat.beq pc 10 then some (33, 48, 0, 13) else none) else (bif Nat.blt pc 16 then (bif Nat.beq pc 13 then some (81, 72, 0, 16) else none) else (bif Nat.beq pc 16 then some (0, 0, 0, 17) else none))))) else (bif Nat.blt pc 26 then (bif Nat.blt pc 19 then (bif Nat.blt pc 18 then (bif Nat.beq pc 17 then some (10, 1, 0, 18) else none) else (bif Nat.beq pc 18 then some (4, 1, 0, 19) else none)) else (bif Nat.blt pc 20 then (bif Nat.beq pc 19 then some (8, 0, 0, 20) else none) else (bif Nat.blt pc 23 then (bif Nat.beq pc 20 then some (33, 52, 0, 23) else none) else (bif Nat.beq pc 23 then some (59, 84, 0, 26) else none)))) else (bif Nat.blt pc 30 then (bif Nat.blt pc 27 then (bif Nat.beq pc 26 then some (8, 0, 0, 27) else none) else (bif Nat.beq pc 27 then some (33, 9, 0, 30) else none)) else (bif Nat.blt pc 31 then (bif Nat.beq pc 30 then some (8, 0, 0, 31) else none) else (bif Nat.blt pc 34 then (bif Nat.beq pc 31 then some (33, 18, 0, 34) else none) else (bif Nat.beq pc 34 then some (4, 1, 0, 35) else none)))))) else (bif Nat.blt pc 48 then (bif Nat.blt pc 39 then (bif Nat.blt pc 37 then (bif Nat.blt pc 36 then (bif Nat.beq pc 35 then some (62, 0, 0, 36) else none) else (bif Nat.beq pc 36 then some (62, 0, 0, 37) else none)) else (bif Nat.blt pc 38 then (bif Nat.beq pc 37 then some (10, 2, 0, 38) else none) else (bif Nat.beq pc 38 then some (8, 0, 0, 39) else none))) else (bif Nat.blt pc 43 then (bif Nat.blt pc 42 then (bif Nat.beq pc 39 then some (33, 39, 0, 42) else none) else (bif Nat.beq pc 42 then some (8, 0, 0, 43) else none)) else (bif Nat.blt pc 46 then (bif Nat.beq pc 43 then some (33, 21, 0, 46) else none) else (bif Nat.blt pc 47 then (bif Nat.beq pc 46 then some (4, 1, 0, 47) else none) else (bif Nat.beq pc 47 then some (62, 0, 0, 48) else none))))) else (bif Nat.blt pc 53 then (bif Nat.blt pc 50 then (bif Nat.blt pc 49 then (bif Nat.beq pc 48 then some (31, 0, 0, 49) else none) else (bif Nat.beq pc 49 then some (62, 0, 0, 50) else none)) else (bif Nat.blt pc 51 then (bif Nat.beq pc 50 then some (4, 2, 0, 51) else none) else (bif Nat.blt pc 52 then (bif Nat.beq pc 51 then some (17, 0, 0, 52) else none) else (bif Nat.beq pc 52 then some (66, 0, 0, 53) else none)))) else (bif Nat.blt pc 57 then (bif Nat.blt pc 54 then (bif Nat.beq pc 53 then some (8, 0, 0, 54) else none) else (bif Nat.beq pc 54 then some (33, 36, 0, 57) else none)) else (bif Nat.blt pc 58 then (bif Nat.beq pc 57 then some (4, 1, 0, 58) else none) else (bif Nat.blt pc 59 then (bif Nat.beq pc 58 then some (62, 0, 0, 59) else none) else (bif Nat.beq pc 59 then some (0, 0, (-1), 60) else none))))))) else (bif Nat.blt pc 91 then (bif Nat.blt pc 75 then (bif Nat.blt pc 68 then (bif Nat.blt pc 64 then (bif Nat.blt pc 63 then (bif Nat.beq pc 60 then some (56, 78, 0, 63) else none) else (bif Nat.beq pc 63 then some (8, 0, 0, 64) else none)) else (bif Nat.blt pc 67 then (bif Nat.beq pc 64 then some (33, 39, 0, 67) else none) else (bif Nat.beq pc 67 then some (8, 0, 0, 68) else none))) else (bif Nat.blt pc 72 then (bif Nat.blt pc 71 then (bif Nat.beq pc 68 then some (33, 36, 0, 71) else none) else (bif Nat.beq pc 71 then some (4, 1, 0, 72) else none)) else (bif Nat.blt pc 73 then (bif Nat.beq pc 72 then some (62, 0, 0, 73) else none) else (bif Nat.blt pc 74 then (bif Nat.beq pc 73 then some (31, 0, 0, 74) else none) else (bif Nat.beq pc 74 then some (62, 0, 0, 75) else none))))) else (bif Nat.blt pc 84 then (bif Nat.blt pc 77 then (bif Nat.blt pc 76 then (bif Nat.beq pc 75 then some (4, 2, 0, 76) else none) else (bif Nat.beq pc 76 then some (18, 0, 0, 77) else none)) else (bif Nat.blt pc 78 then (bif Nat.beq pc 77 then some (66, 0, 0, 78) else none) else (bif Nat.blt pc 81 then (bif Nat.beq pc 78 then some (16, 1, 1, 81) else none) else (bif Nat.beq pc 81 then some (32, 18, 0, 84) else none)))) else (bif Nat.blt pc 86 then (bif Nat.blt pc 85 then (bif Nat.beq pc 84 then some (0, 0, 1, 85) else none) else (bif Nat.beq pc 85 then some (10, 1, 0, 86) else none)) else (bif Nat.blt pc 87 then (bif Nat.beq pc 86 then some (4, 1, 0, 87) else none) else (bif Nat.blt pc 88 then (bif Nat.beq pc 87 then some (8, 0, 0, 88) else none) else (bif Nat.beq pc 88 then some (33, 48, 0, 91) else none)))))) else (bif Nat.blt pc 106 then (bif Nat.blt pc 99 then (bif Nat.blt pc 95 then (bif Nat.blt pc 94 then (bif Nat.beq pc 91 then some (60, 117, 0, 94) else none) else (bif Nat.beq pc 94 then some (8, 0, 0, 95) else none)) else (bif Nat.blt pc 98 then (bif Nat.beq pc 95 then some (33, 39, 0, 98) else none) else (bif Nat.beq pc 98 then some (4, 1, 0, 99) else none))) else (bif Nat.blt pc 101 then (bif Nat.blt pc 100 then (bif Nat.beq pc 99 then some (31, 0, 0, 100) else none) else (bif Nat.beq pc 100 then some (62, 0, 0, 101) else none)) else (bif Nat.blt pc 102 then (bif Nat.beq pc 101 then some (8, 0, 0, 102) else none) else (bif Nat.blt pc 105 then (bif Nat.beq pc 102 then some (33, 39, 0, 105) else none) else (bif Nat.beq pc 105 then some (4, 1, 0, 106) else none))))) else (bif Nat.blt pc 111 then (bif Nat.blt pc 108 then (bif Nat.blt pc 107 then (bif Nat.beq pc 106 then some (0, 0, 1, 107) else none) else (bif Nat.beq pc 107 then some (18, 0, 0, 108) else none)) else (bif Nat.blt pc 109 then (bif Nat.beq pc 108 then some (62, 0, 0, 109) else none) else (bif Nat.blt pc 110 then (bif Nat.beq pc 109 then some (17, 0, 0, 110) else none) else (bif Nat.beq pc 110 then some (66, 0, 0, 111) else none)))) else (bif Nat.blt pc 117 then (bif Nat.blt pc 114 then (bif Nat.beq pc 111 then some (16, 1, 1, 114) else none) else (bif Nat.beq pc 114 then some (32, 86, 0, 117) else none)) else (bif Nat.blt pc 118 then (bif Nat.beq pc 117 then some (8, 0, 0, 118) else none) else (bif Nat.blt pc 121 then (bif Nat.beq pc 118 then some (33, 39, 0, 121) else none) else (bif Nat.beq pc 121 then some (85, 0, 0, 122) else none)))))))))
def mX3_rationsToToday : em_Me := ((RX3, yX3_rationsToToday, cX3_rationsToToday, 3, (some (.array .int))), iX3_rationsToToday, fX3, qX3)
theorem rX3_rationsToToday_0 : em_ckR RX3 cX3_rationsToToday iX3_rationsToToday 0 60 = true := by decide +kernel
theorem rX3_rationsToToday_1 : em_ckR RX3 cX3_rationsToToday iX3_rationsToToday 60 60 = true := by decide +kernel
theorem rX3_rationsToToday_2 : em_ckR RX3 cX3_rationsToToday iX3_rationsToToday 120 2 = true := by decide +kernel
theorem kX3_rationsToToday : em_ok mX3_rationsToToday := em_okM (N := 122) rfl (fun pc hpc q hq => if h0 : pc < 60 then em_ckR_at rX3_rationsToToday_0 (by omega) (by omega) hq else if h1 : pc < 120 then em_ckR_at rX3_rationsToToday_1 (by omega) (by omega) hq else em_ckR_at rX3_rationsToToday_2 (by omega) (by omega) hq) fX3_ok qX3_ok
theorem tX3_rationsToToday : em_tV mX3_rationsToToday 0 3 := ⟨⟨em_in (k := 340) (by decide +kernel), em_in (k := 2) (by decide +kernel), ⟨by decide +kernel, by decide +kernel⟩, by decide +kernel, by decide +kernel⟩, em_in (k := 338) (by decide +kernel), _, rfl, em_in (k := 339) (by decide +kernel)⟩
def iX3_beastsHereToday : Nat → Option (Nat × Nat × Int32 × Nat) := em_tr 47 (fun pc => (bif Nat.blt pc 20 then (bif Nat.blt pc 10 then (bif Nat.blt pc 5 then (bif Nat.blt pc 1 then (bif Nat.beq pc 0 then some (8, 0, 0, 1) else none) else (bif Nat.blt pc 2 then (bif Nat.beq pc 1 then some (8, 0, 0, 2) else none) else (bif Nat.beq pc 2 then some (33, 48, 0, 5) else none))) else (bif Nat.blt pc 8 then (bif Nat.beq pc 5 then some (81, 72, 0, 8) else none) else (bif Nat.blt pc 9 then (bif Nat.beq pc 8 then some (0, 0, 0, 9) else none) else (bif Nat.beq pc 9 then some (10, 1, 0, 10) else none)))) else (bif Nat.blt pc 13 then (bif Nat.blt pc 11 then (bif Nat.beq pc 10 then some (0, 0, 0, 11) else none) else (bif Nat.blt pc 12 then (bif Nat.beq pc 11 then some (10, 2, 0, 12) else none) else (bif Nat.beq pc 12 then some (4, 2, 0, 13) else none))) else (bif Nat.blt pc 14 then (bif Nat.beq pc 13 then some (8, 0, 0, 14) else none) else (bif Nat.blt pc 17 then (bif Nat.beq pc 14 then some (33, 52, 0, 17) else none) else (bif Nat.beq pc 17 then some (59, 45, 0, 20) else none))))) else (bif Nat.blt pc 30 then (bif Nat.blt pc 23 then (bif Nat.blt pc 21 then (bif Nat.beq pc 20 then some (8, 0, 0, 21) else none) else (bif Nat.blt pc 22 then (bif Nat.beq pc 21 then some (4, 2, 0, 22) else none) else (bif Nat.beq pc 22 then some (8, 0, 0, 23) else none))) else (bif Nat.blt pc 26 then (bif Nat.beq pc 23 then some (33, 48, 0, 26) else none) else (bif Nat.blt pc 27 then (bif Nat.beq pc 26 then some (8, 0, 0, 27) else none) else (bif Nat.beq pc 27 then some (33, 48, 0, 30) else none)))) else (bif Nat.blt pc 39 then (bif Nat.blt pc 33 then (bif Nat.beq pc 30 then some (81, 76, 0, 33) else none) else (bif Nat.blt pc 36 then (bif Nat.beq pc 33 then some (50, 39, 0, 36) else none) else (bif Nat.beq pc 36 then some (16, 1, 1, 39) else none))) else (bif Nat.blt pc 45 then (bif Nat.blt pc 42 then (bif Nat.beq pc 39 then some (16, 2, 1, 42) else none) else (bif Nat.beq pc 42 then some (32, 12, 0, 45) else none)) else (bif Nat.blt pc 46 then (bif Nat.beq pc 45 then some (4, 1, 0, 46) else none) else (bif Nat.beq pc 46 then some (83, 0, 0, 47) else none)))))))
def mX3_beastsHereToday : em_Me := ((RX3, yX3_beastsHereToday, cX3_beastsHereToday, 3, (some .int)), iX3_beastsHereToday, fX3, qX3)
theorem rX3_beastsHereToday_0 : em_ckR RX3 cX3_beastsHereToday iX3_beastsHereToday 0 47 = true := by decide +kernel
theorem kX3_beastsHereToday : em_ok mX3_beastsHereToday := em_okM (N := 47) rfl (fun pc hpc q hq => em_ckR_at rX3_beastsHereToday_0 (by omega) (by omega) hq) fX3_ok qX3_ok
theorem tX3_beastsHereToday : em_tV mX3_beastsHereToday 0 3 := ⟨⟨em_in (k := 714) (by decide +kernel), em_in (k := 2) (by decide +kernel), ⟨by decide +kernel, by decide +kernel⟩, by decide +kernel, by decide +kernel⟩, em_in (k := 712) (by decide +kernel), _, rfl, em_in (k := 713) (by decide +kernel)⟩
def iX3_kindsHereToday : Nat → Option (Nat × Nat × Int32 × Nat) := em_tr 55 (fun pc => (bif Nat.blt pc 26 then (bif Nat.blt pc 12 then (bif Nat.blt pc 8 then (bif Nat.blt pc 2 then (bif Nat.blt pc 1 then (bif Nat.beq pc 0 then some (8, 0, 0, 1) else none) else (bif Nat.beq pc 1 then some (8, 0, 0, 2) else none)) else (bif Nat.blt pc 5 then (bif Nat.beq pc 2 then some (33, 48, 0, 5) else none) else (bif Nat.beq pc 5 then some (81, 72, 0, 8) else none))) else (bif Nat.blt pc 10 then (bif Nat.blt pc 9 then (bif Nat.beq pc 8 then some (0, 0, 0, 9) else none) else (bif Nat.beq pc 9 then some (10, 1, 0, 10) else none)) else (bif Nat.blt pc 11 then (bif Nat.beq pc 10 then some (0, 0, 0, 11) else none) else (bif Nat.beq pc 11 then some (10, 2, 0, 12) else none)))) else (bif Nat.blt pc 20 then (bif Nat.blt pc 14 then (bif Nat.blt pc 13 then (bif Nat.beq pc 12 then some (4, 2, 0, 13) else none) else (bif Nat.beq pc 13 then some (8, 0, 0, 14) else none)) else (bif Nat.blt pc 17 then (bif Nat.beq pc 14 then some (33, 52, 0, 17) else none) else (bif Nat.beq pc 17 then some (59, 53, 0, 20) else none))) else (bif Nat.blt pc 22 then (bif Nat.blt pc 21 then (bif Nat.beq pc 20 then some (8, 0, 0, 21) else none) else (bif Nat.beq pc 21 then some (4, 2, 0, 22) else none)) else (bif Nat.blt pc 23 then (bif Nat.beq pc 22 then some (8, 0, 0, 23) else none) else (bif Nat.beq pc 23 then some (33, 48, 0, 26) else none))))) else (bif Nat.blt pc 42 then (bif Nat.blt pc 36 then (bif Nat.blt pc 30 then (bif Nat.blt pc 27 then (bif Nat.beq pc 26 then some (8, 0, 0, 27) else none) else (bif Nat.beq pc 27 then some (33, 48, 0, 30) else none)) else (bif Nat.blt pc 33 then (bif Nat.beq pc 30 then some (81, 76, 0, 33) else none) else (bif Nat.beq pc 33 then some (50, 47, 0, 36) else none))) else (bif Nat.blt pc 38 then (bif Nat.blt pc 37 then (bif Nat.beq pc 36 then some (4, 1, 0, 37) else none) else (bif Nat.beq pc 37 then some (0, 0, 1, 38) else none)) else (bif Nat.blt pc 39 then (bif Nat.beq pc 38 then some (8, 0, 0, 39) else none) else (bif Nat.beq pc 39 then some (33, 18, 0, 42) else none)))) else (bif Nat.blt pc 46 then (bif Nat.blt pc 44 then (bif Nat.blt pc 43 then (bif Nat.beq pc 42 then some (4, 2, 0, 43) else none) else (bif Nat.beq pc 43 then some (62, 0, 0, 44) else none)) else (bif Nat.blt pc 45 then (bif Nat.beq pc 44 then some (23, 0, 0, 45) else none) else (bif Nat.beq pc 45 then some (21, 0, 0, 46) else none))) else (bif Nat.blt pc 50 then (bif Nat.blt pc 47 then (bif Nat.beq pc 46 then some (10, 1, 0, 47) else none) else (bif Nat.beq pc 47 then some (16, 2, 1, 50) else none)) else (bif Nat.blt pc 53 then (bif Nat.beq pc 50 then some (32, 12, 0, 53) else none) else (bif Nat.blt pc 54 then (bif Nat.beq pc 53 then some (4, 1, 0, 54) else none) else (bif Nat.beq pc 54 then some (83, 0, 0, 55) else none))))))))
def mX3_kindsHereToday : em_Me := ((RX3, yX3_kindsHereToday, cX3_kindsHereToday, 3, (some .int)), iX3_kindsHereToday, fX3, qX3)
theorem rX3_kindsHereToday_0 : em_ckR RX3 cX3_kindsHereToday iX3_kindsHereToday 0 55 = true := by decide +kernel
theorem kX3_kindsHereToday : em_ok mX3_kindsHereToday := em_okM (N := 55) rfl (fun pc hpc q hq => em_ckR_at rX3_kindsHereToday_0 (by omega) (by omega) hq) fX3_ok qX3_ok
theorem tX3_kindsHereToday : em_tV mX3_kindsHereToday 0 3 := ⟨⟨em_in (k := 710) (by decide +kernel), em_in (k := 2) (by decide +kernel), ⟨by decide +kernel, by decide +kernel⟩, by decide +kernel, by decide +kernel⟩, em_in (k := 708) (by decide +kernel), _, rfl, em_in (k := 709) (by decide +kernel)⟩
def iX3_isDay : Nat → Option (Nat × Nat × Int32 × Nat) := em_tr 10 (fun pc => (bif Nat.blt pc 3 then (bif Nat.blt pc 1 then (bif Nat.beq pc 0 then some (4, 1, 0, 1) else none) else (bif Nat.blt pc 2 then (bif Nat.beq pc 1 then some (0, 0, 0, 2) else none) else (bif Nat.beq pc 2 then some (8, 0, 0, 3) else none))) else (bif Nat.blt pc 6 then (bif Nat.beq pc 3 then some (33, 48, 0, 6) else none) else (bif Nat.blt pc 9 then (bif Nat.beq pc 6 then some (80, 55, 0, 9) else none) else (bif Nat.beq pc 9 then some (83, 0, 0, 10) else none)))))
def mX3_isDay : em_Me := ((RX3, yX3_isDay, cX3_isDay, 2, (some .boolean)), iX3_isDay, fX3, qX3)
theorem rX3_isDay_0 : em_ckR RX3 cX3_isDay iX3_isDay 0 10 = true := by decide +kernel
theorem kX3_isDay : em_ok mX3_isDay := em_okM (N := 10) rfl (fun pc hpc q hq => em_ckR_at rX3_isDay_0 (by omega) (by omega) hq) fX3_ok qX3_ok
theorem tX3_isDay : em_tV mX3_isDay 1 3 := ⟨⟨em_in (k := 296) (by decide +kernel), em_in (k := 2) (by decide +kernel), ⟨by decide +kernel, by decide +kernel⟩, by decide +kernel, by decide +kernel⟩, em_in (k := 295) (by decide +kernel), _, rfl, List.mem_append_left _ (by decide +kernel)⟩
def iX3_recall : Nat → Option (Nat × Nat × Int32 × Nat) := em_tr 52 (fun pc => (bif Nat.blt pc 25 then (bif Nat.blt pc 11 then (bif Nat.blt pc 5 then (bif Nat.blt pc 1 then (bif Nat.beq pc 0 then some (8, 0, 0, 1) else none) else (bif Nat.blt pc 4 then (bif Nat.beq pc 1 then some (33, 36, 0, 4) else none) else (bif Nat.beq pc 4 then some (0, 0, (-1), 5) else none))) else (bif Nat.blt pc 9 then (bif Nat.blt pc 8 then (bif Nat.beq pc 5 then some (80, 42, 0, 8) else none) else (bif Nat.beq pc 8 then some (0, 0, 0, 9) else none)) else (bif Nat.blt pc 10 then (bif Nat.beq pc 9 then some (10, 2, 0, 10) else none) else (bif Nat.beq pc 10 then some (4, 2, 0, 11) else none)))) else (bif Nat.blt pc 19 then (bif Nat.blt pc 15 then (bif Nat.blt pc 12 then (bif Nat.beq pc 11 then some (8, 0, 0, 12) else none) else (bif Nat.beq pc 12 then some (33, 69, 0, 15) else none)) else (bif Nat.blt pc 18 then (bif Nat.beq pc 15 then some (59, 51, 0, 18) else none) else (bif Nat.beq pc 18 then some (8, 0, 0, 19) else none))) else (bif Nat.blt pc 23 then (bif Nat.blt pc 22 then (bif Nat.beq pc 19 then some (33, 33, 0, 22) else none) else (bif Nat.beq pc 22 then some (4, 2, 0, 23) else none)) else (bif Nat.blt pc 24 then (bif Nat.beq pc 23 then some (62, 0, 0, 24) else none) else (bif Nat.beq pc 24 then some (4, 1, 0, 25) else none))))) else (bif Nat.blt pc 38 then (bif Nat.blt pc 32 then (bif Nat.blt pc 28 then (bif Nat.beq pc 25 then some (60, 51, 0, 28) else none) else (bif Nat.blt pc 29 then (bif Nat.beq pc 28 then some (8, 0, 0, 29) else none) else (bif Nat.beq pc 29 then some (33, 36, 0, 32) else none))) else (bif Nat.blt pc 36 then (bif Nat.blt pc 33 then (bif Nat.beq pc 32 then some (8, 0, 0, 33) else none) else (bif Nat.beq pc 33 then some (33, 27, 0, 36) else none)) else (bif Nat.blt pc 37 then (bif Nat.beq pc 36 then some (4, 2, 0, 37) else none) else (bif Nat.beq pc 37 then some (62, 0, 0, 38) else none)))) else (bif Nat.blt pc 44 then (bif Nat.blt pc 42 then (bif Nat.blt pc 39 then (bif Nat.beq pc 38 then some (8, 0, 0, 39) else none) else (bif Nat.beq pc 39 then some (33, 30, 0, 42) else none)) else (bif Nat.blt pc 43 then (bif Nat.beq pc 42 then some (4, 2, 0, 43) else none) else (bif Nat.beq pc 43 then some (62, 0, 0, 44) else none))) else (bif Nat.blt pc 48 then (bif Nat.blt pc 45 then (bif Nat.beq pc 44 then some (66, 0, 0, 45) else none) else (bif Nat.beq pc 45 then some (16, 2, 1, 48) else none)) else (bif Nat.blt pc 51 then (bif Nat.beq pc 48 then some (32, 10, 0, 51) else none) else (bif Nat.beq pc 51 then some (86, 0, 0, 52) else none)))))))
def mX3_recall : em_Me := ((RX3, yX3_recall, cX3_recall, 3, none), iX3_recall, fX3, qX3)
theorem rX3_recall_0 : em_ckR RX3 cX3_recall iX3_recall 0 52 = true := by decide +kernel
theorem kX3_recall : em_ok mX3_recall := em_okM (N := 52) rfl (fun pc hpc q hq => em_ckR_at rX3_recall_0 (by omega) (by omega) hq) fX3_ok qX3_ok
theorem tX3_recall : em_tV mX3_recall 1 3 := ⟨⟨em_in (k := 316) (by decide +kernel), em_in (k := 2) (by decide +kernel), ⟨by decide +kernel, by decide +kernel⟩, by decide +kernel, by decide +kernel⟩, em_in (k := 315) (by decide +kernel), _, rfl, List.mem_append_left _ (by decide +kernel)⟩
def iX3_stands : Nat → Option (Nat × Nat × Int32 × Nat) := em_tr 58 (fun pc => (bif Nat.blt pc 29 then (bif Nat.blt pc 14 then (bif Nat.blt pc 6 then (bif Nat.blt pc 4 then (bif Nat.blt pc 1 then (bif Nat.beq pc 0 then some (8, 0, 0, 1) else none) else (bif Nat.beq pc 1 then some (33, 24, 0, 4) else none)) else (bif Nat.blt pc 5 then (bif Nat.beq pc 4 then some (4, 1, 0, 5) else none) else (bif Nat.beq pc 5 then some (62, 0, 0, 6) else none))) else (bif Nat.blt pc 10 then (bif Nat.blt pc 7 then (bif Nat.beq pc 6 then some (4, 3, 0, 7) else none) else (bif Nat.beq pc 7 then some (60, 24, 0, 10) else none)) else (bif Nat.blt pc 11 then (bif Nat.beq pc 10 then some (8, 0, 0, 11) else none) else (bif Nat.beq pc 11 then some (33, 21, 0, 14) else none)))) else (bif Nat.blt pc 20 then (bif Nat.blt pc 16 then (bif Nat.blt pc 15 then (bif Nat.beq pc 14 then some (4, 1, 0, 15) else none) else (bif Nat.beq pc 15 then some (62, 0, 0, 16) else none)) else (bif Nat.blt pc 17 then (bif Nat.beq pc 16 then some (4, 2, 0, 17) else none) else (bif Nat.beq pc 17 then some (60, 24, 0, 20) else none))) else (bif Nat.blt pc 24 then (bif Nat.blt pc 21 then (bif Nat.beq pc 20 then some (0, 0, 1, 21) else none) else (bif Nat.beq pc 21 then some (32, 25, 0, 24) else none)) else (bif Nat.blt pc 25 then (bif Nat.beq pc 24 then some (0, 0, 0, 25) else none) else (bif Nat.blt pc 27 then (bif Nat.beq pc 25 then some (11, 4, 0, 27) else none) else (bif Nat.beq pc 27 then some (5, 4, 0, 29) else none)))))) else (bif Nat.blt pc 43 then (bif Nat.blt pc 37 then (bif Nat.blt pc 33 then (bif Nat.blt pc 32 then (bif Nat.beq pc 29 then some (50, 56, 0, 32) else none) else (bif Nat.beq pc 32 then some (8, 0, 0, 33) else none)) else (bif Nat.blt pc 36 then (bif Nat.beq pc 33 then some (33, 36, 0, 36) else none) else (bif Nat.beq pc 36 then some (4, 1, 0, 37) else none))) else (bif Nat.blt pc 39 then (bif Nat.blt pc 38 then (bif Nat.beq pc 37 then some (62, 0, 0, 38) else none) else (bif Nat.beq pc 38 then some (0, 0, (-1), 39) else none)) else (bif Nat.blt pc 42 then (bif Nat.beq pc 39 then some (56, 52, 0, 42) else none) else (bif Nat.beq pc 42 then some (8, 0, 0, 43) else none)))) else (bif Nat.blt pc 49 then (bif Nat.blt pc 47 then (bif Nat.blt pc 46 then (bif Nat.beq pc 43 then some (33, 36, 0, 46) else none) else (bif Nat.beq pc 46 then some (4, 1, 0, 47) else none)) else (bif Nat.blt pc 48 then (bif Nat.beq pc 47 then some (62, 0, 0, 48) else none) else (bif Nat.beq pc 48 then some (4, 2, 0, 49) else none))) else (bif Nat.blt pc 53 then (bif Nat.blt pc 52 then (bif Nat.beq pc 49 then some (61, 56, 0, 52) else none) else (bif Nat.beq pc 52 then some (0, 0, 1, 53) else none)) else (bif Nat.blt pc 56 then (bif Nat.beq pc 53 then some (32, 57, 0, 56) else none) else (bif Nat.blt pc 57 then (bif Nat.beq pc 56 then some (0, 0, 0, 57) else none) else (bif Nat.beq pc 57 then some (83, 0, 0, 58) else none))))))))
def mX3_stands : em_Me := ((RX3, yX3_stands, cX3_stands, 5, (some .boolean)), iX3_stands, fX3, qX3)
theorem rX3_stands_0 : em_ckR RX3 cX3_stands iX3_stands 0 58 = true := by decide +kernel
theorem kX3_stands : em_ok mX3_stands := em_okM (N := 58) rfl (fun pc hpc q hq => em_ckR_at rX3_stands_0 (by omega) (by omega) hq) fX3_ok qX3_ok
theorem tX3_stands : em_tV mX3_stands 3 3 := ⟨⟨em_in (k := 320) (by decide +kernel), em_in (k := 2) (by decide +kernel), ⟨by decide +kernel, by decide +kernel⟩, by decide +kernel, by decide +kernel⟩, em_in (k := 319) (by decide +kernel), _, rfl, List.mem_append_left _ (by decide +kernel)⟩
def iX4_init : Nat → Option (Nat × Nat × Int32 × Nat) := em_tr 21 (fun pc => (bif Nat.blt pc 9 then (bif Nat.blt pc 4 then (bif Nat.blt pc 1 then (bif Nat.beq pc 0 then some (8, 0, 0, 1) else none) else (bif Nat.beq pc 1 then some (82, 3, 0, 4) else none)) else (bif Nat.blt pc 5 then (bif Nat.beq pc 4 then some (8, 0, 0, 5) else none) else (bif Nat.blt pc 7 then (bif Nat.beq pc 5 then some (1, 0, 6, 7) else none) else (bif Nat.beq pc 7 then some (76, 0, 0, 9) else none)))) else (bif Nat.blt pc 16 then (bif Nat.blt pc 12 then (bif Nat.beq pc 9 then some (74, 9, 0, 12) else none) else (bif Nat.blt pc 13 then (bif Nat.beq pc 12 then some (8, 0, 0, 13) else none) else (bif Nat.beq pc 13 then some (33, 9, 0, 16) else none))) else (bif Nat.blt pc 17 then (bif Nat.beq pc 16 then some (0, 0, (-1), 17) else none) else (bif Nat.blt pc 20 then (bif Nat.beq pc 17 then some (80, 15, 0, 20) else none) else (bif Nat.beq pc 20 then some (86, 0, 0, 21) else none))))))
def mX4_init : em_Me := ((RX4, yX4_init, cX4_init, 1, none), iX4_init, fX4, qX4)
theorem rX4_init_0 : em_ckR RX4 cX4_init iX4_init 0 21 = true := by decide +kernel
theorem kX4_init : em_ok mX4_init := em_okM (N := 21) rfl (fun pc hpc q hq => em_ckR_at rX4_init_0 (by omega) (by omega) hq) fX4_ok qX4_ok
theorem tX4_init : em_tI mX4_init 0 := ⟨⟨em_in (k := 186) (by decide +kernel), em_in (k := 8) (by decide +kernel), ⟨by decide +kernel, by decide +kernel⟩, by decide +kernel, by decide +kernel⟩, em_in (k := 185) (by decide +kernel), rfl, rfl⟩
def iX4_clear : Nat → Option (Nat × Nat × Int32 × Nat) := em_tr 14 (fun pc => (bif Nat.blt pc 6 then (bif Nat.blt pc 2 then (bif Nat.blt pc 1 then (bif Nat.beq pc 0 then some (8, 0, 0, 1) else none) else (bif Nat.beq pc 1 then some (0, 0, 0, 2) else none)) else (bif Nat.blt pc 5 then (bif Nat.beq pc 2 then some (74, 21, 0, 5) else none) else (bif Nat.beq pc 5 then some (8, 0, 0, 6) else none))) else (bif Nat.blt pc 10 then (bif Nat.blt pc 9 then (bif Nat.beq pc 6 then some (33, 9, 0, 9) else none) else (bif Nat.beq pc 9 then some (0, 0, (-1), 10) else none)) else (bif Nat.blt pc 13 then (bif Nat.beq pc 10 then some (80, 15, 0, 13) else none) else (bif Nat.beq pc 13 then some (86, 0, 0, 14) else none)))))
def mX4_clear : em_Me := ((RX4, yX4_clear, cX4_clear, 1, none), iX4_clear, fX4, qX4)
theorem rX4_clear_0 : em_ckR RX4 cX4_clear iX4_clear 0 14 = true := by decide +kernel
theorem kX4_clear : em_ok mX4_clear := em_okM (N := 14) rfl (fun pc hpc q hq => em_ckR_at rX4_clear_0 (by omega) (by omega) hq) fX4_ok qX4_ok
theorem tX4_clear : em_tV mX4_clear 0 4 := ⟨⟨em_in (k := 599) (by decide +kernel), em_in (k := 8) (by decide +kernel), ⟨by decide +kernel, by decide +kernel⟩, by decide +kernel, by decide +kernel⟩, em_in (k := 597) (by decide +kernel), _, rfl, em_in (k := 598) (by decide +kernel)⟩
def iX4_copyFrom : Nat → Option (Nat × Nat × Int32 × Nat) := em_tr 24 (fun pc => (bif Nat.blt pc 12 then (bif Nat.blt pc 5 then (bif Nat.blt pc 1 then (bif Nat.beq pc 0 then some (8, 0, 0, 1) else none) else (bif Nat.blt pc 2 then (bif Nat.beq pc 1 then some (8, 1, 0, 2) else none) else (bif Nat.beq pc 2 then some (33, 21, 0, 5) else none))) else (bif Nat.blt pc 8 then (bif Nat.beq pc 5 then some (74, 21, 0, 8) else none) else (bif Nat.blt pc 9 then (bif Nat.beq pc 8 then some (8, 1, 0, 9) else none) else (bif Nat.beq pc 9 then some (33, 9, 0, 12) else none)))) else (bif Nat.blt pc 17 then (bif Nat.blt pc 13 then (bif Nat.beq pc 12 then some (0, 0, 0, 13) else none) else (bif Nat.blt pc 14 then (bif Nat.beq pc 13 then some (8, 0, 0, 14) else none) else (bif Nat.beq pc 14 then some (33, 9, 0, 17) else none))) else (bif Nat.blt pc 20 then (bif Nat.blt pc 18 then (bif Nat.beq pc 17 then some (0, 0, 0, 18) else none) else (bif Nat.beq pc 18 then some (1, 0, 6, 20) else none)) else (bif Nat.blt pc 23 then (bif Nat.beq pc 20 then some (80, 25, 0, 23) else none) else (bif Nat.beq pc 23 then some (86, 0, 0, 24) else none))))))
def mX4_copyFrom : em_Me := ((RX4, yX4_copyFrom, cX4_copyFrom, 2, none), iX4_copyFrom, fX4, qX4)
theorem rX4_copyFrom_0 : em_ckR RX4 cX4_copyFrom iX4_copyFrom 0 24 = true := by decide +kernel
theorem kX4_copyFrom : em_ok mX4_copyFrom := em_okM (N := 24) rfl (fun pc hpc q hq => em_ckR_at rX4_copyFrom_0 (by omega) (by omega) hq) fX4_ok qX4_ok
theorem tX4_copyFrom : em_tV mX4_copyFrom 1 4 := ⟨⟨em_in (k := 701) (by decide +kernel), em_in (k := 8) (by decide +kernel), ⟨by decide +kernel, by decide +kernel⟩, by decide +kernel, by decide +kernel⟩, em_in (k := 699) (by decide +kernel), _, rfl, em_in (k := 700) (by decide +kernel)⟩
def iX4_take : Nat → Option (Nat × Nat × Int32 × Nat) := em_tr 40 (fun pc => (bif Nat.blt pc 23 then (bif Nat.blt pc 10 then (bif Nat.blt pc 5 then (bif Nat.blt pc 1 then (bif Nat.beq pc 0 then some (4, 1, 0, 1) else none) else (bif Nat.blt pc 4 then (bif Nat.beq pc 1 then some (51, 10, 0, 4) else none) else (bif Nat.beq pc 4 then some (8, 0, 0, 5) else none))) else (bif Nat.blt pc 6 then (bif Nat.beq pc 5 then some (4, 2, 0, 6) else none) else (bif Nat.blt pc 9 then (bif Nat.beq pc 6 then some (81, 31, 0, 9) else none) else (bif Nat.beq pc 9 then some (83, 0, 0, 10) else none)))) else (bif Nat.blt pc 13 then (bif Nat.blt pc 11 then (bif Nat.beq pc 10 then some (4, 1, 0, 11) else none) else (bif Nat.blt pc 12 then (bif Nat.beq pc 11 then some (0, 0, 0, 12) else none) else (bif Nat.beq pc 12 then some (0, 0, 5, 13) else none))) else (bif Nat.blt pc 19 then (bif Nat.blt pc 16 then (bif Nat.beq pc 13 then some (80, 35, 0, 16) else none) else (bif Nat.beq pc 16 then some (50, 29, 0, 19) else none)) else (bif Nat.blt pc 20 then (bif Nat.beq pc 19 then some (8, 0, 0, 20) else none) else (bif Nat.beq pc 20 then some (33, 9, 0, 23) else none))))) else (bif Nat.blt pc 31 then (bif Nat.blt pc 26 then (bif Nat.blt pc 24 then (bif Nat.beq pc 23 then some (4, 1, 0, 24) else none) else (bif Nat.blt pc 25 then (bif Nat.beq pc 24 then some (62, 0, 0, 25) else none) else (bif Nat.beq pc 25 then some (0, 0, (-1), 26) else none))) else (bif Nat.blt pc 29 then (bif Nat.beq pc 26 then some (56, 31, 0, 29) else none) else (bif Nat.blt pc 30 then (bif Nat.beq pc 29 then some (0, 0, 0, 30) else none) else (bif Nat.beq pc 30 then some (83, 0, 0, 31) else none)))) else (bif Nat.blt pc 36 then (bif Nat.blt pc 32 then (bif Nat.beq pc 31 then some (8, 0, 0, 32) else none) else (bif Nat.blt pc 35 then (bif Nat.beq pc 32 then some (33, 9, 0, 35) else none) else (bif Nat.beq pc 35 then some (4, 1, 0, 36) else none))) else (bif Nat.blt pc 38 then (bif Nat.blt pc 37 then (bif Nat.beq pc 36 then some (4, 2, 0, 37) else none) else (bif Nat.beq pc 37 then some (66, 0, 0, 38) else none)) else (bif Nat.blt pc 39 then (bif Nat.beq pc 38 then some (0, 0, 1, 39) else none) else (bif Nat.beq pc 39 then some (83, 0, 0, 40) else none)))))))
def mX4_take : em_Me := ((RX4, yX4_take, cX4_take, 3, (some .boolean)), iX4_take, fX4, qX4)
theorem rX4_take_0 : em_ckR RX4 cX4_take iX4_take 0 40 = true := by decide +kernel
theorem kX4_take : em_ok mX4_take := em_okM (N := 40) rfl (fun pc hpc q hq => em_ckR_at rX4_take_0 (by omega) (by omega) hq) fX4_ok qX4_ok
theorem tX4_take : em_tV mX4_take 2 4 := ⟨⟨em_in (k := 684) (by decide +kernel), em_in (k := 8) (by decide +kernel), ⟨by decide +kernel, by decide +kernel⟩, by decide +kernel, by decide +kernel⟩, em_in (k := 682) (by decide +kernel), _, rfl, em_in (k := 683) (by decide +kernel)⟩
def iX4_verdict : Nat → Option (Nat × Nat × Int32 × Nat) := em_tr 47 (fun pc => (bif Nat.blt pc 22 then (bif Nat.blt pc 11 then (bif Nat.blt pc 5 then (bif Nat.blt pc 1 then (bif Nat.beq pc 0 then some (4, 1, 0, 1) else none) else (bif Nat.blt pc 2 then (bif Nat.beq pc 1 then some (8, 0, 0, 2) else none) else (bif Nat.beq pc 2 then some (33, 21, 0, 5) else none))) else (bif Nat.blt pc 9 then (bif Nat.blt pc 6 then (bif Nat.beq pc 5 then some (20, 0, 0, 6) else none) else (bif Nat.beq pc 6 then some (50, 11, 0, 9) else none)) else (bif Nat.blt pc 10 then (bif Nat.beq pc 9 then some (0, 0, 1, 10) else none) else (bif Nat.beq pc 10 then some (83, 0, 0, 11) else none)))) else (bif Nat.blt pc 14 then (bif Nat.blt pc 12 then (bif Nat.beq pc 11 then some (8, 0, 0, 12) else none) else (bif Nat.blt pc 13 then (bif Nat.beq pc 12 then some (4, 2, 0, 13) else none) else (bif Nat.beq pc 13 then some (0, 0, 1, 14) else none))) else (bif Nat.blt pc 20 then (bif Nat.blt pc 17 then (bif Nat.beq pc 14 then some (81, 39, 0, 17) else none) else (bif Nat.beq pc 17 then some (50, 22, 0, 20) else none)) else (bif Nat.blt pc 21 then (bif Nat.beq pc 20 then some (0, 0, 2, 21) else none) else (bif Nat.beq pc 21 then some (83, 0, 0, 22) else none))))) else (bif Nat.blt pc 33 then (bif Nat.blt pc 27 then (bif Nat.blt pc 23 then (bif Nat.beq pc 22 then some (4, 3, 0, 23) else none) else (bif Nat.blt pc 24 then (bif Nat.beq pc 23 then some (8, 0, 0, 24) else none) else (bif Nat.beq pc 24 then some (33, 9, 0, 27) else none))) else (bif Nat.blt pc 29 then (bif Nat.blt pc 28 then (bif Nat.beq pc 27 then some (0, 0, 4, 28) else none) else (bif Nat.beq pc 28 then some (62, 0, 0, 29) else none)) else (bif Nat.blt pc 32 then (bif Nat.beq pc 29 then some (58, 41, 0, 32) else none) else (bif Nat.beq pc 32 then some (8, 0, 0, 33) else none)))) else (bif Nat.blt pc 41 then (bif Nat.blt pc 35 then (bif Nat.blt pc 34 then (bif Nat.beq pc 33 then some (4, 3, 0, 34) else none) else (bif Nat.beq pc 34 then some (0, 0, 5, 35) else none)) else (bif Nat.blt pc 38 then (bif Nat.beq pc 35 then some (81, 39, 0, 38) else none) else (bif Nat.beq pc 38 then some (50, 45, 0, 41) else none))) else (bif Nat.blt pc 45 then (bif Nat.blt pc 42 then (bif Nat.beq pc 41 then some (0, 0, 3, 42) else none) else (bif Nat.beq pc 42 then some (32, 46, 0, 45) else none)) else (bif Nat.blt pc 46 then (bif Nat.beq pc 45 then some (0, 0, 0, 46) else none) else (bif Nat.beq pc 46 then some (83, 0, 0, 47) else none)))))))
def mX4_verdict : em_Me := ((RX4, yX4_verdict, cX4_verdict, 4, (some .int)), iX4_verdict, fX4, qX4)
theorem rX4_verdict_0 : em_ckR RX4 cX4_verdict iX4_verdict 0 47 = true := by decide +kernel
theorem kX4_verdict : em_ok mX4_verdict := em_okM (N := 47) rfl (fun pc hpc q hq => em_ckR_at rX4_verdict_0 (by omega) (by omega) hq) fX4_ok qX4_ok
theorem tX4_verdict : em_tV mX4_verdict 3 4 := ⟨⟨em_in (k := 718) (by decide +kernel), em_in (k := 8) (by decide +kernel), ⟨by decide +kernel, by decide +kernel⟩, by decide +kernel, by decide +kernel⟩, em_in (k := 716) (by decide +kernel), _, rfl, em_in (k := 717) (by decide +kernel)⟩
def iX4_price : Nat → Option (Nat × Nat × Int32 × Nat) := em_tr 14 (fun pc => (bif Nat.blt pc 7 then (bif Nat.blt pc 2 then (bif Nat.blt pc 1 then (bif Nat.beq pc 0 then some (8, 0, 0, 1) else none) else (bif Nat.beq pc 1 then some (0, 0, 2, 2) else none)) else (bif Nat.blt pc 5 then (bif Nat.beq pc 2 then some (81, 43, 0, 5) else none) else (bif Nat.blt pc 6 then (bif Nat.beq pc 5 then some (8, 0, 0, 6) else none) else (bif Nat.beq pc 6 then some (0, 0, 3, 7) else none)))) else (bif Nat.blt pc 11 then (bif Nat.blt pc 10 then (bif Nat.beq pc 7 then some (81, 43, 0, 10) else none) else (bif Nat.beq pc 10 then some (4, 1, 0, 11) else none)) else (bif Nat.blt pc 12 then (bif Nat.beq pc 11 then some (19, 0, 0, 12) else none) else (bif Nat.blt pc 13 then (bif Nat.beq pc 12 then some (17, 0, 0, 13) else none) else (bif Nat.beq pc 13 then some (83, 0, 0, 14) else none))))))
def mX4_price : em_Me := ((RX4, yX4_price, cX4_price, 2, (some .int)), iX4_price, fX4, qX4)
theorem rX4_price_0 : em_ckR RX4 cX4_price iX4_price 0 14 = true := by decide +kernel
theorem kX4_price : em_ok mX4_price := em_okM (N := 14) rfl (fun pc hpc q hq => em_ckR_at rX4_price_0 (by omega) (by omega) hq) fX4_ok qX4_ok
theorem tX4_price : em_tV mX4_price 1 4 := ⟨⟨em_in (k := 730) (by decide +kernel), em_in (k := 8) (by decide +kernel), ⟨by decide +kernel, by decide +kernel⟩, by decide +kernel, by decide +kernel⟩, em_in (k := 728) (by decide +kernel), _, rfl, em_in (k := 729) (by decide +kernel)⟩
def iX4_forbid : Nat → Option (Nat × Nat × Int32 × Nat) := em_tr 34 (fun pc => (bif Nat.blt pc 20 then (bif Nat.blt pc 11 then (bif Nat.blt pc 4 then (bif Nat.blt pc 1 then (bif Nat.beq pc 0 then some (4, 1, 0, 1) else none) else (bif Nat.beq pc 1 then some (80, 47, 0, 4) else none)) else (bif Nat.blt pc 7 then (bif Nat.beq pc 4 then some (50, 18, 0, 7) else none) else (bif Nat.blt pc 8 then (bif Nat.beq pc 7 then some (8, 0, 0, 8) else none) else (bif Nat.beq pc 8 then some (33, 21, 0, 11) else none)))) else (bif Nat.blt pc 15 then (bif Nat.blt pc 12 then (bif Nat.beq pc 11 then some (4, 1, 0, 12) else none) else (bif Nat.beq pc 12 then some (80, 50, 0, 15) else none)) else (bif Nat.blt pc 18 then (bif Nat.beq pc 15 then some (50, 20, 0, 18) else none) else (bif Nat.blt pc 19 then (bif Nat.beq pc 18 then some (0, 0, 0, 19) else none) else (bif Nat.beq pc 19 then some (83, 0, 0, 20) else none))))) else (bif Nat.blt pc 27 then (bif Nat.blt pc 22 then (bif Nat.blt pc 21 then (bif Nat.beq pc 20 then some (8, 0, 0, 21) else none) else (bif Nat.beq pc 21 then some (30, 0, 0, 22) else none)) else (bif Nat.blt pc 25 then (bif Nat.beq pc 22 then some (33, 21, 0, 25) else none) else (bif Nat.blt pc 26 then (bif Nat.beq pc 25 then some (0, 0, 1, 26) else none) else (bif Nat.beq pc 26 then some (4, 1, 0, 27) else none)))) else (bif Nat.blt pc 29 then (bif Nat.blt pc 28 then (bif Nat.beq pc 27 then some (23, 0, 0, 28) else none) else (bif Nat.beq pc 28 then some (21, 0, 0, 29) else none)) else (bif Nat.blt pc 32 then (bif Nat.beq pc 29 then some (74, 21, 0, 32) else none) else (bif Nat.blt pc 33 then (bif Nat.beq pc 32 then some (0, 0, 1, 33) else none) else (bif Nat.beq pc 33 then some (83, 0, 0, 34) else none)))))))
def mX4_forbid : em_Me := ((RX4, yX4_forbid, cX4_forbid, 2, (some .boolean)), iX4_forbid, fX4, qX4)
theorem rX4_forbid_0 : em_ckR RX4 cX4_forbid iX4_forbid 0 34 = true := by decide +kernel
theorem kX4_forbid : em_ok mX4_forbid := em_okM (N := 34) rfl (fun pc hpc q hq => em_ckR_at rX4_forbid_0 (by omega) (by omega) hq) fX4_ok qX4_ok
theorem tX4_forbid : em_tV mX4_forbid 1 4 := ⟨⟨em_in (k := 688) (by decide +kernel), em_in (k := 8) (by decide +kernel), ⟨by decide +kernel, by decide +kernel⟩, by decide +kernel, by decide +kernel⟩, em_in (k := 687) (by decide +kernel), _, rfl, List.mem_append_left _ (by decide +kernel)⟩
def iX4_isAbove : Nat → Option (Nat × Nat × Int32 × Nat) := em_tr 26 (fun pc => (bif Nat.blt pc 12 then (bif Nat.blt pc 6 then (bif Nat.blt pc 4 then (bif Nat.blt pc 1 then (bif Nat.beq pc 0 then some (8, 0, 0, 1) else none) else (bif Nat.beq pc 1 then some (33, 9, 0, 4) else none)) else (bif Nat.blt pc 5 then (bif Nat.beq pc 4 then some (4, 2, 0, 5) else none) else (bif Nat.beq pc 5 then some (62, 0, 0, 6) else none))) else (bif Nat.blt pc 10 then (bif Nat.blt pc 7 then (bif Nat.beq pc 6 then some (0, 0, (-1), 7) else none) else (bif Nat.beq pc 7 then some (56, 24, 0, 10) else none)) else (bif Nat.blt pc 11 then (bif Nat.beq pc 10 then some (4, 1, 0, 11) else none) else (bif Nat.beq pc 11 then some (8, 0, 0, 12) else none)))) else (bif Nat.blt pc 20 then (bif Nat.blt pc 16 then (bif Nat.blt pc 15 then (bif Nat.beq pc 12 then some (33, 9, 0, 15) else none) else (bif Nat.beq pc 15 then some (4, 2, 0, 16) else none)) else (bif Nat.blt pc 17 then (bif Nat.beq pc 16 then some (62, 0, 0, 17) else none) else (bif Nat.beq pc 17 then some (61, 24, 0, 20) else none))) else (bif Nat.blt pc 24 then (bif Nat.blt pc 21 then (bif Nat.beq pc 20 then some (0, 0, 1, 21) else none) else (bif Nat.beq pc 21 then some (32, 25, 0, 24) else none)) else (bif Nat.blt pc 25 then (bif Nat.beq pc 24 then some (0, 0, 0, 25) else none) else (bif Nat.beq pc 25 then some (83, 0, 0, 26) else none))))))
def mX4_isAbove : em_Me := ((RX4, yX4_isAbove, cX4_isAbove, 3, (some .boolean)), iX4_isAbove, fX4, qX4)
theorem rX4_isAbove_0 : em_ckR RX4 cX4_isAbove iX4_isAbove 0 26 = true := by decide +kernel
theorem kX4_isAbove : em_ok mX4_isAbove := em_okM (N := 26) rfl (fun pc hpc q hq => em_ckR_at rX4_isAbove_0 (by omega) (by omega) hq) fX4_ok qX4_ok
theorem tX4_isAbove : em_tV mX4_isAbove 2 4 := ⟨⟨em_in (k := 722) (by decide +kernel), em_in (k := 8) (by decide +kernel), ⟨by decide +kernel, by decide +kernel⟩, by decide +kernel, by decide +kernel⟩, em_in (k := 721) (by decide +kernel), _, rfl, List.mem_append_left _ (by decide +kernel)⟩
def iX4_numberOrZero : Nat → Option (Nat × Nat × Int32 × Nat) := em_tr 11 (fun pc => (bif Nat.blt pc 5 then (bif Nat.blt pc 1 then (bif Nat.beq pc 0 then some (8, 0, 0, 1) else none) else (bif Nat.blt pc 4 then (bif Nat.beq pc 1 then some (33, 9, 0, 4) else none) else (bif Nat.beq pc 4 then some (4, 1, 0, 5) else none))) else (bif Nat.blt pc 7 then (bif Nat.blt pc 6 then (bif Nat.beq pc 5 then some (62, 0, 0, 6) else none) else (bif Nat.beq pc 6 then some (0, 0, 0, 7) else none)) else (bif Nat.blt pc 10 then (bif Nat.beq pc 7 then some (80, 53, 0, 10) else none) else (bif Nat.beq pc 10 then some (83, 0, 0, 11) else none)))))
def mX4_numberOrZero : em_Me := ((RX4, yX4_numberOrZero, cX4_numberOrZero, 2, (some .int)), iX4_numberOrZero, fX4, qX4)
theorem rX4_numberOrZero_0 : em_ckR RX4 cX4_numberOrZero iX4_numberOrZero 0 11 = true := by decide +kernel
theorem kX4_numberOrZero : em_ok mX4_numberOrZero := em_okM (N := 11) rfl (fun pc hpc q hq => em_ckR_at rX4_numberOrZero_0 (by omega) (by omega) hq) fX4_ok qX4_ok
theorem tX4_numberOrZero : em_tV mX4_numberOrZero 1 4 := ⟨⟨em_in (k := 734) (by decide +kernel), em_in (k := 8) (by decide +kernel), ⟨by decide +kernel, by decide +kernel⟩, by decide +kernel, by decide +kernel⟩, em_in (k := 733) (by decide +kernel), _, rfl, List.mem_append_left _ (by decide +kernel)⟩
def iX5_init : Nat → Option (Nat × Nat × Int32 × Nat) := em_tr 14 (fun pc => (bif Nat.blt pc 5 then (bif Nat.blt pc 1 then (bif Nat.beq pc 0 then some (8, 0, 0, 1) else none) else (bif Nat.blt pc 4 then (bif Nat.beq pc 1 then some (82, 3, 0, 4) else none) else (bif Nat.beq pc 4 then some (8, 0, 0, 5) else none))) else (bif Nat.blt pc 10 then (bif Nat.blt pc 8 then (bif Nat.beq pc 5 then some (2, 0, 200, 8) else none) else (bif Nat.beq pc 8 then some (76, 0, 0, 10) else none)) else (bif Nat.blt pc 13 then (bif Nat.beq pc 10 then some (74, 9, 0, 13) else none) else (bif Nat.beq pc 13 then some (86, 0, 0, 14) else none)))))
def mX5_init : em_Me := ((RX5, yX5_init, cX5_init, 1, none), iX5_init, fX5, qX5)
theorem rX5_init_0 : em_ckR RX5 cX5_init iX5_init 0 14 = true := by decide +kernel
theorem kX5_init : em_ok mX5_init := em_okM (N := 14) rfl (fun pc hpc q hq => em_ckR_at rX5_init_0 (by omega) (by omega) hq) fX5_ok qX5_ok
theorem tX5_init : em_tI mX5_init 0 := ⟨⟨em_in (k := 172) (by decide +kernel), em_in (k := 7) (by decide +kernel), ⟨by decide +kernel, by decide +kernel⟩, by decide +kernel, by decide +kernel⟩, em_in (k := 171) (by decide +kernel), rfl, rfl⟩
def iX5_bytesIn : Nat → Option (Nat × Nat × Int32 × Nat) := em_tr 30 (fun pc => (bif Nat.blt pc 11 then (bif Nat.blt pc 5 then (bif Nat.blt pc 2 then (bif Nat.blt pc 1 then (bif Nat.beq pc 0 then some (0, 0, 0, 1) else none) else (bif Nat.beq pc 1 then some (10, 1, 0, 2) else none)) else (bif Nat.blt pc 4 then (bif Nat.beq pc 2 then some (1, 0, 24, 4) else none) else (bif Nat.beq pc 4 then some (10, 2, 0, 5) else none))) else (bif Nat.blt pc 9 then (bif Nat.blt pc 6 then (bif Nat.beq pc 5 then some (4, 2, 0, 6) else none) else (bif Nat.beq pc 6 then some (52, 28, 0, 9) else none)) else (bif Nat.blt pc 10 then (bif Nat.beq pc 9 then some (4, 0, 0, 10) else none) else (bif Nat.beq pc 10 then some (4, 2, 0, 11) else none)))) else (bif Nat.blt pc 19 then (bif Nat.blt pc 15 then (bif Nat.blt pc 12 then (bif Nat.beq pc 11 then some (25, 0, 0, 12) else none) else (bif Nat.beq pc 12 then some (2, 0, 255, 15) else none)) else (bif Nat.blt pc 16 then (bif Nat.beq pc 15 then some (20, 0, 0, 16) else none) else (bif Nat.beq pc 16 then some (50, 22, 0, 19) else none))) else (bif Nat.blt pc 25 then (bif Nat.blt pc 22 then (bif Nat.beq pc 19 then some (16, 1, 1, 22) else none) else (bif Nat.beq pc 22 then some (16, 2, (-8), 25) else none)) else (bif Nat.blt pc 28 then (bif Nat.beq pc 25 then some (32, 5, 0, 28) else none) else (bif Nat.blt pc 29 then (bif Nat.beq pc 28 then some (4, 1, 0, 29) else none) else (bif Nat.beq pc 29 then some (83, 0, 0, 30) else none)))))))
def mX5_bytesIn : em_Me := ((RX5, yX5_bytesIn, cX5_bytesIn, 3, (some .int)), iX5_bytesIn, fX5, qX5)
theorem rX5_bytesIn_0 : em_ckR RX5 cX5_bytesIn iX5_bytesIn 0 30 = true := by decide +kernel
theorem kX5_bytesIn : em_ok mX5_bytesIn := em_okM (N := 30) rfl (fun pc hpc q hq => em_ckR_at rX5_bytesIn_0 (by omega) (by omega) hq) fX5_ok qX5_ok
theorem tX5_bytesIn : em_tS mX5_bytesIn 1 := ⟨⟨em_in (k := 566) (by decide +kernel), em_in (k := 7) (by decide +kernel), ⟨by decide +kernel, by decide +kernel⟩, by decide +kernel, by decide +kernel⟩, em_in (k := 565) (by decide +kernel)⟩
def iX5_size : Nat → Option (Nat × Nat × Int32 × Nat) := em_tr 5 (fun pc => (bif Nat.blt pc 1 then (bif Nat.beq pc 0 then some (8, 0, 0, 1) else none) else (bif Nat.blt pc 4 then (bif Nat.beq pc 1 then some (33, 15, 0, 4) else none) else (bif Nat.beq pc 4 then some (83, 0, 0, 5) else none))))
def mX5_size : em_Me := ((RX5, yX5_size, cX5_size, 1, (some .int)), iX5_size, fX5, qX5)
theorem rX5_size_0 : em_ckR RX5 cX5_size iX5_size 0 5 = true := by decide +kernel
theorem kX5_size : em_ok mX5_size := em_okM (N := 5) rfl (fun pc hpc q hq => em_ckR_at rX5_size_0 (by omega) (by omega) hq) fX5_ok qX5_ok
theorem tX5_size : em_tV mX5_size 0 5 := ⟨⟨em_in (k := 578) (by decide +kernel), em_in (k := 7) (by decide +kernel), ⟨by decide +kernel, by decide +kernel⟩, by decide +kernel, by decide +kernel⟩, em_in (k := 576) (by decide +kernel), _, rfl, em_in (k := 577) (by decide +kernel)⟩
def iX5_hasRoomFor : Nat → Option (Nat × Nat × Int32 × Nat) := em_tr 18 (fun pc => (bif Nat.blt pc 9 then (bif Nat.blt pc 4 then (bif Nat.blt pc 1 then (bif Nat.beq pc 0 then some (8, 0, 0, 1) else none) else (bif Nat.beq pc 1 then some (33, 15, 0, 4) else none)) else (bif Nat.blt pc 5 then (bif Nat.beq pc 4 then some (4, 1, 0, 5) else none) else (bif Nat.blt pc 6 then (bif Nat.beq pc 5 then some (17, 0, 0, 6) else none) else (bif Nat.beq pc 6 then some (2, 0, 200, 9) else none)))) else (bif Nat.blt pc 13 then (bif Nat.blt pc 12 then (bif Nat.beq pc 9 then some (60, 16, 0, 12) else none) else (bif Nat.beq pc 12 then some (0, 0, 1, 13) else none)) else (bif Nat.blt pc 16 then (bif Nat.beq pc 13 then some (32, 17, 0, 16) else none) else (bif Nat.blt pc 17 then (bif Nat.beq pc 16 then some (0, 0, 0, 17) else none) else (bif Nat.beq pc 17 then some (83, 0, 0, 18) else none))))))
def mX5_hasRoomFor : em_Me := ((RX5, yX5_hasRoomFor, cX5_hasRoomFor, 2, (some .boolean)), iX5_hasRoomFor, fX5, qX5)
theorem rX5_hasRoomFor_0 : em_ckR RX5 cX5_hasRoomFor iX5_hasRoomFor 0 18 = true := by decide +kernel
theorem kX5_hasRoomFor : em_ok mX5_hasRoomFor := em_okM (N := 18) rfl (fun pc hpc q hq => em_ckR_at rX5_hasRoomFor_0 (by omega) (by omega) hq) fX5_ok qX5_ok
theorem tX5_hasRoomFor : em_tV mX5_hasRoomFor 1 5 := ⟨⟨em_in (k := 570) (by decide +kernel), em_in (k := 7) (by decide +kernel), ⟨by decide +kernel, by decide +kernel⟩, by decide +kernel, by decide +kernel⟩, em_in (k := 568) (by decide +kernel), _, rfl, em_in (k := 569) (by decide +kernel)⟩
def iX5_append : Nat → Option (Nat × Nat × Int32 × Nat) := em_tr 56 (fun pc => (bif Nat.blt pc 26 then (bif Nat.blt pc 10 then (bif Nat.blt pc 4 then (bif Nat.blt pc 2 then (bif Nat.beq pc 0 then some (1, 0, 24, 2) else none) else (bif Nat.blt pc 3 then (bif Nat.beq pc 2 then some (10, 2, 0, 3) else none) else (bif Nat.beq pc 3 then some (4, 2, 0, 4) else none))) else (bif Nat.blt pc 8 then (bif Nat.blt pc 7 then (bif Nat.beq pc 4 then some (52, 55, 0, 7) else none) else (bif Nat.beq pc 7 then some (4, 1, 0, 8) else none)) else (bif Nat.blt pc 9 then (bif Nat.beq pc 8 then some (4, 2, 0, 9) else none) else (bif Nat.beq pc 9 then some (25, 0, 0, 10) else none)))) else (bif Nat.blt pc 16 then (bif Nat.blt pc 14 then (bif Nat.blt pc 13 then (bif Nat.beq pc 10 then some (2, 0, 255, 13) else none) else (bif Nat.beq pc 13 then some (20, 0, 0, 14) else none)) else (bif Nat.blt pc 15 then (bif Nat.beq pc 14 then some (10, 3, 0, 15) else none) else (bif Nat.beq pc 15 then some (4, 3, 0, 16) else none))) else (bif Nat.blt pc 20 then (bif Nat.blt pc 19 then (bif Nat.beq pc 16 then some (50, 49, 0, 19) else none) else (bif Nat.beq pc 19 then some (8, 0, 0, 20) else none)) else (bif Nat.blt pc 23 then (bif Nat.beq pc 20 then some (33, 15, 0, 23) else none) else (bif Nat.beq pc 23 then some (2, 0, 200, 26) else none))))) else (bif Nat.blt pc 40 then (bif Nat.blt pc 34 then (bif Nat.blt pc 30 then (bif Nat.blt pc 29 then (bif Nat.beq pc 26 then some (59, 49, 0, 29) else none) else (bif Nat.beq pc 29 then some (8, 0, 0, 30) else none)) else (bif Nat.blt pc 33 then (bif Nat.beq pc 30 then some (33, 9, 0, 33) else none) else (bif Nat.beq pc 33 then some (8, 0, 0, 34) else none))) else (bif Nat.blt pc 38 then (bif Nat.blt pc 37 then (bif Nat.beq pc 34 then some (33, 15, 0, 37) else none) else (bif Nat.beq pc 37 then some (4, 3, 0, 38) else none)) else (bif Nat.blt pc 39 then (bif Nat.beq pc 38 then some (66, 0, 0, 39) else none) else (bif Nat.beq pc 39 then some (8, 0, 0, 40) else none)))) else (bif Nat.blt pc 46 then (bif Nat.blt pc 44 then (bif Nat.blt pc 41 then (bif Nat.beq pc 40 then some (30, 0, 0, 41) else none) else (bif Nat.beq pc 41 then some (33, 15, 0, 44) else none)) else (bif Nat.blt pc 45 then (bif Nat.beq pc 44 then some (0, 0, 1, 45) else none) else (bif Nat.beq pc 45 then some (17, 0, 0, 46) else none))) else (bif Nat.blt pc 52 then (bif Nat.blt pc 49 then (bif Nat.beq pc 46 then some (74, 15, 0, 49) else none) else (bif Nat.beq pc 49 then some (16, 2, (-8), 52) else none)) else (bif Nat.blt pc 55 then (bif Nat.beq pc 52 then some (32, 3, 0, 55) else none) else (bif Nat.beq pc 55 then some (86, 0, 0, 56) else none)))))))
def mX5_append : em_Me := ((RX5, yX5_append, cX5_append, 4, none), iX5_append, fX5, qX5)
theorem rX5_append_0 : em_ckR RX5 cX5_append iX5_append 0 56 = true := by decide +kernel
theorem kX5_append : em_ok mX5_append := em_okM (N := 56) rfl (fun pc hpc q hq => em_ckR_at rX5_append_0 (by omega) (by omega) hq) fX5_ok qX5_ok
theorem tX5_append : em_tV mX5_append 1 5 := ⟨⟨em_in (k := 574) (by decide +kernel), em_in (k := 7) (by decide +kernel), ⟨by decide +kernel, by decide +kernel⟩, by decide +kernel, by decide +kernel⟩, em_in (k := 572) (by decide +kernel), _, rfl, em_in (k := 573) (by decide +kernel)⟩
def iX5_cutTo : Nat → Option (Nat × Nat × Int32 × Nat) := em_tr 21 (fun pc => (bif Nat.blt pc 12 then (bif Nat.blt pc 3 then (bif Nat.blt pc 1 then (bif Nat.beq pc 0 then some (4, 1, 0, 1) else none) else (bif Nat.blt pc 2 then (bif Nat.beq pc 1 then some (0, 0, 0, 2) else none) else (bif Nat.beq pc 2 then some (8, 0, 0, 3) else none))) else (bif Nat.blt pc 6 then (bif Nat.beq pc 3 then some (33, 15, 0, 6) else none) else (bif Nat.blt pc 9 then (bif Nat.beq pc 6 then some (80, 19, 0, 9) else none) else (bif Nat.beq pc 9 then some (51, 14, 0, 12) else none)))) else (bif Nat.blt pc 15 then (bif Nat.blt pc 13 then (bif Nat.beq pc 12 then some (0, 0, 0, 13) else none) else (bif Nat.blt pc 14 then (bif Nat.beq pc 13 then some (83, 0, 0, 14) else none) else (bif Nat.beq pc 14 then some (8, 0, 0, 15) else none))) else (bif Nat.blt pc 19 then (bif Nat.blt pc 16 then (bif Nat.beq pc 15 then some (4, 1, 0, 16) else none) else (bif Nat.beq pc 16 then some (74, 15, 0, 19) else none)) else (bif Nat.blt pc 20 then (bif Nat.beq pc 19 then some (0, 0, 1, 20) else none) else (bif Nat.beq pc 20 then some (83, 0, 0, 21) else none))))))
def mX5_cutTo : em_Me := ((RX5, yX5_cutTo, cX5_cutTo, 2, (some .boolean)), iX5_cutTo, fX5, qX5)
theorem rX5_cutTo_0 : em_ckR RX5 cX5_cutTo iX5_cutTo 0 21 = true := by decide +kernel
theorem kX5_cutTo : em_ok mX5_cutTo := em_okM (N := 21) rfl (fun pc hpc q hq => em_ckR_at rX5_cutTo_0 (by omega) (by omega) hq) fX5_ok qX5_ok
theorem tX5_cutTo : em_tV mX5_cutTo 1 5 := ⟨⟨em_in (k := 586) (by decide +kernel), em_in (k := 7) (by decide +kernel), ⟨by decide +kernel, by decide +kernel⟩, by decide +kernel, by decide +kernel⟩, em_in (k := 584) (by decide +kernel), _, rfl, em_in (k := 585) (by decide +kernel)⟩
def iX5_readInto : Nat → Option (Nat × Nat × Int32 × Nat) := em_tr 73 (fun pc => (bif Nat.blt pc 35 then (bif Nat.blt pc 18 then (bif Nat.blt pc 9 then (bif Nat.blt pc 4 then (bif Nat.blt pc 1 then (bif Nat.beq pc 0 then some (8, 1, 0, 1) else none) else (bif Nat.beq pc 1 then some (81, 23, 0, 4) else none)) else (bif Nat.blt pc 5 then (bif Nat.beq pc 4 then some (8, 0, 0, 5) else none) else (bif Nat.blt pc 6 then (bif Nat.beq pc 5 then some (0, 0, 0, 6) else none) else (bif Nat.beq pc 6 then some (81, 28, 0, 9) else none)))) else (bif Nat.blt pc 11 then (bif Nat.blt pc 10 then (bif Nat.beq pc 9 then some (10, 2, 0, 10) else none) else (bif Nat.beq pc 10 then some (4, 2, 0, 11) else none)) else (bif Nat.blt pc 12 then (bif Nat.beq pc 11 then some (8, 0, 0, 12) else none) else (bif Nat.blt pc 15 then (bif Nat.beq pc 12 then some (33, 15, 0, 15) else none) else (bif Nat.beq pc 15 then some (57, 20, 0, 18) else none))))) else (bif Nat.blt pc 23 then (bif Nat.blt pc 20 then (bif Nat.blt pc 19 then (bif Nat.beq pc 18 then some (0, 0, (-1), 19) else none) else (bif Nat.beq pc 19 then some (83, 0, 0, 20) else none)) else (bif Nat.blt pc 21 then (bif Nat.beq pc 20 then some (0, 0, 0, 21) else none) else (bif Nat.blt pc 22 then (bif Nat.beq pc 21 then some (10, 3, 0, 22) else none) else (bif Nat.beq pc 22 then some (4, 3, 0, 23) else none)))) else (bif Nat.blt pc 30 then (bif Nat.blt pc 26 then (bif Nat.beq pc 23 then some (2, 0, 200, 26) else none) else (bif Nat.blt pc 29 then (bif Nat.beq pc 26 then some (60, 71, 0, 29) else none) else (bif Nat.beq pc 29 then some (8, 0, 0, 30) else none))) else (bif Nat.blt pc 31 then (bif Nat.beq pc 30 then some (4, 2, 0, 31) else none) else (bif Nat.blt pc 32 then (bif Nat.beq pc 31 then some (8, 1, 0, 32) else none) else (bif Nat.beq pc 32 then some (81, 32, 0, 35) else none)))))) else (bif Nat.blt pc 55 then (bif Nat.blt pc 44 then (bif Nat.blt pc 39 then (bif Nat.blt pc 37 then (bif Nat.beq pc 35 then some (11, 4, 0, 37) else none) else (bif Nat.beq pc 37 then some (5, 4, 0, 39) else none)) else (bif Nat.blt pc 40 then (bif Nat.beq pc 39 then some (0, 0, (-1), 40) else none) else (bif Nat.blt pc 43 then (bif Nat.beq pc 40 then some (57, 45, 0, 43) else none) else (bif Nat.beq pc 43 then some (4, 2, 0, 44) else none)))) else (bif Nat.blt pc 48 then (bif Nat.blt pc 45 then (bif Nat.beq pc 44 then some (83, 0, 0, 45) else none) else (bif Nat.blt pc 47 then (bif Nat.beq pc 45 then some (5, 4, 0, 47) else none) else (bif Nat.beq pc 47 then some (8, 0, 0, 48) else none))) else (bif Nat.blt pc 51 then (bif Nat.beq pc 48 then some (33, 15, 0, 51) else none) else (bif Nat.blt pc 54 then (bif Nat.beq pc 51 then some (57, 56, 0, 54) else none) else (bif Nat.beq pc 54 then some (0, 0, (-1), 55) else none))))) else (bif Nat.blt pc 61 then (bif Nat.blt pc 57 then (bif Nat.blt pc 56 then (bif Nat.beq pc 55 then some (83, 0, 0, 56) else none) else (bif Nat.beq pc 56 then some (8, 0, 0, 57) else none)) else (bif Nat.blt pc 59 then (bif Nat.beq pc 57 then some (5, 4, 0, 59) else none) else (bif Nat.blt pc 60 then (bif Nat.beq pc 59 then some (0, 0, 1, 60) else none) else (bif Nat.beq pc 60 then some (17, 0, 0, 61) else none)))) else (bif Nat.blt pc 68 then (bif Nat.blt pc 64 then (bif Nat.beq pc 61 then some (81, 28, 0, 64) else none) else (bif Nat.blt pc 65 then (bif Nat.beq pc 64 then some (10, 2, 0, 65) else none) else (bif Nat.beq pc 65 then some (16, 3, 1, 68) else none))) else (bif Nat.blt pc 71 then (bif Nat.beq pc 68 then some (32, 22, 0, 71) else none) else (bif Nat.blt pc 72 then (bif Nat.beq pc 71 then some (4, 2, 0, 72) else none) else (bif Nat.beq pc 72 then some (83, 0, 0, 73) else none))))))))
def mX5_readInto : em_Me := ((RX5, yX5_readInto, cX5_readInto, 5, (some .int)), iX5_readInto, fX5, qX5)
theorem rX5_readInto_0 : em_ckR RX5 cX5_readInto iX5_readInto 0 60 = true := by decide +kernel
theorem rX5_readInto_1 : em_ckR RX5 cX5_readInto iX5_readInto 60 13 = true := by decide +kernel
theorem kX5_readInto : em_ok mX5_readInto := em_okM (N := 73) rfl (fun pc hpc q hq => if h0 : pc < 60 then em_ckR_at rX5_readInto_0 (by omega) (by omega) hq else em_ckR_at rX5_readInto_1 (by omega) (by omega) hq) fX5_ok qX5_ok
theorem tX5_readInto : em_tV mX5_readInto 1 5 := ⟨⟨em_in (k := 595) (by decide +kernel), em_in (k := 7) (by decide +kernel), ⟨by decide +kernel, by decide +kernel⟩, by decide +kernel, by decide +kernel⟩, em_in (k := 593) (by decide +kernel), _, rfl, em_in (k := 594) (by decide +kernel)⟩
def iX5_readClause : Nat → Option (Nat × Nat × Int32 × Nat) := em_tr 116 (fun pc => (bif Nat.blt pc 54 then (bif Nat.blt pc 24 then (bif Nat.blt pc 11 then (bif Nat.blt pc 5 then (bif Nat.blt pc 1 then (bif Nat.beq pc 0 then some (8, 0, 0, 1) else none) else (bif Nat.blt pc 2 then (bif Nat.beq pc 1 then some (4, 1, 0, 2) else none) else (bif Nat.beq pc 2 then some (81, 36, 0, 5) else none))) else (bif Nat.blt pc 7 then (bif Nat.blt pc 6 then (bif Nat.beq pc 5 then some (10, 3, 0, 6) else none) else (bif Nat.beq pc 6 then some (4, 3, 0, 7) else none)) else (bif Nat.blt pc 8 then (bif Nat.beq pc 7 then some (0, 0, (-1), 8) else none) else (bif Nat.beq pc 8 then some (57, 13, 0, 11) else none)))) else (bif Nat.blt pc 15 then (bif Nat.blt pc 13 then (bif Nat.blt pc 12 then (bif Nat.beq pc 11 then some (0, 0, (-1), 12) else none) else (bif Nat.beq pc 12 then some (83, 0, 0, 13) else none)) else (bif Nat.blt pc 14 then (bif Nat.beq pc 13 then some (4, 1, 0, 14) else none) else (bif Nat.beq pc 14 then some (4, 3, 0, 15) else none))) else (bif Nat.blt pc 21 then (bif Nat.blt pc 18 then (bif Nat.beq pc 15 then some (80, 39, 0, 18) else none) else (bif Nat.beq pc 18 then some (81, 43, 0, 21) else none)) else (bif Nat.blt pc 22 then (bif Nat.beq pc 21 then some (17, 0, 0, 22) else none) else (bif Nat.beq pc 22 then some (11, 4, 0, 24) else none))))) else (bif Nat.blt pc 40 then (bif Nat.blt pc 32 then (bif Nat.blt pc 27 then (bif Nat.blt pc 25 then (bif Nat.beq pc 24 then some (8, 0, 0, 25) else none) else (bif Nat.beq pc 25 then some (5, 4, 0, 27) else none)) else (bif Nat.blt pc 30 then (bif Nat.beq pc 27 then some (81, 28, 0, 30) else none) else (bif Nat.beq pc 30 then some (11, 5, 0, 32) else none))) else (bif Nat.blt pc 35 then (bif Nat.blt pc 33 then (bif Nat.beq pc 32 then some (8, 0, 0, 33) else none) else (bif Nat.beq pc 33 then some (5, 5, 0, 35) else none)) else (bif Nat.blt pc 38 then (bif Nat.beq pc 35 then some (81, 48, 0, 38) else none) else (bif Nat.beq pc 38 then some (11, 6, 0, 40) else none)))) else (bif Nat.blt pc 49 then (bif Nat.blt pc 44 then (bif Nat.blt pc 42 then (bif Nat.beq pc 40 then some (5, 5, 0, 42) else none) else (bif Nat.beq pc 42 then some (5, 4, 0, 44) else none)) else (bif Nat.blt pc 47 then (bif Nat.beq pc 44 then some (56, 60, 0, 47) else none) else (bif Nat.beq pc 47 then some (5, 6, 0, 49) else none))) else (bif Nat.blt pc 52 then (bif Nat.blt pc 51 then (bif Nat.beq pc 49 then some (5, 5, 0, 51) else none) else (bif Nat.beq pc 51 then some (18, 0, 0, 52) else none)) else (bif Nat.blt pc 53 then (bif Nat.beq pc 52 then some (0, 0, 1, 53) else none) else (bif Nat.beq pc 53 then some (0, 0, 5, 54) else none)))))) else (bif Nat.blt pc 83 then (bif Nat.blt pc 67 then (bif Nat.blt pc 62 then (bif Nat.blt pc 60 then (bif Nat.blt pc 57 then (bif Nat.beq pc 54 then some (80, 19, 0, 57) else none) else (bif Nat.beq pc 57 then some (51, 62, 0, 60) else none)) else (bif Nat.blt pc 61 then (bif Nat.beq pc 60 then some (0, 0, (-1), 61) else none) else (bif Nat.beq pc 61 then some (83, 0, 0, 62) else none))) else (bif Nat.blt pc 64 then (bif Nat.blt pc 63 then (bif Nat.beq pc 62 then some (8, 2, 0, 63) else none) else (bif Nat.beq pc 63 then some (4, 3, 0, 64) else none)) else (bif Nat.blt pc 65 then (bif Nat.beq pc 64 then some (8, 0, 0, 65) else none) else (bif Nat.beq pc 65 then some (5, 5, 0, 67) else none)))) else (bif Nat.blt pc 78 then (bif Nat.blt pc 72 then (bif Nat.blt pc 69 then (bif Nat.beq pc 67 then some (5, 6, 0, 69) else none) else (bif Nat.beq pc 69 then some (81, 51, 0, 72) else none)) else (bif Nat.blt pc 75 then (bif Nat.beq pc 72 then some (81, 55, 0, 75) else none) else (bif Nat.beq pc 75 then some (51, 80, 0, 78) else none))) else (bif Nat.blt pc 80 then (bif Nat.blt pc 79 then (bif Nat.beq pc 78 then some (0, 0, (-1), 79) else none) else (bif Nat.beq pc 79 then some (83, 0, 0, 80) else none)) else (bif Nat.blt pc 81 then (bif Nat.beq pc 80 then some (8, 0, 0, 81) else none) else (bif Nat.beq pc 81 then some (5, 6, 0, 83) else none))))) else (bif Nat.blt pc 101 then (bif Nat.blt pc 91 then (bif Nat.blt pc 88 then (bif Nat.blt pc 86 then (bif Nat.beq pc 83 then some (81, 28, 0, 86) else none) else (bif Nat.beq pc 86 then some (11, 7, 0, 88) else none)) else (bif Nat.blt pc 90 then (bif Nat.beq pc 88 then some (5, 7, 0, 90) else none) else (bif Nat.beq pc 90 then some (8, 0, 0, 91) else none))) else (bif Nat.blt pc 97 then (bif Nat.blt pc 94 then (bif Nat.beq pc 91 then some (33, 15, 0, 94) else none) else (bif Nat.beq pc 94 then some (56, 109, 0, 97) else none)) else (bif Nat.blt pc 98 then (bif Nat.beq pc 97 then some (8, 0, 0, 98) else none) else (bif Nat.beq pc 98 then some (33, 9, 0, 101) else none)))) else (bif Nat.blt pc 109 then (bif Nat.blt pc 104 then (bif Nat.blt pc 103 then (bif Nat.beq pc 101 then some (5, 7, 0, 103) else none) else (bif Nat.beq pc 103 then some (62, 0, 0, 104) else none)) else (bif Nat.blt pc 106 then (bif Nat.beq pc 104 then some (1, 0, 59, 106) else none) else (bif Nat.beq pc 106 then some (57, 114, 0, 109) else none))) else (bif Nat.blt pc 114 then (bif Nat.blt pc 111 then (bif Nat.beq pc 109 then some (5, 7, 0, 111) else none) else (bif Nat.beq pc 111 then some (32, 115, 0, 114) else none)) else (bif Nat.blt pc 115 then (bif Nat.beq pc 114 then some (0, 0, (-1), 115) else none) else (bif Nat.beq pc 115 then some (83, 0, 0, 116) else none))))))))
def mX5_readClause : em_Me := ((RX5, yX5_readClause, cX5_readClause, 8, (some .int)), iX5_readClause, fX5, qX5)
theorem rX5_readClause_0 : em_ckR RX5 cX5_readClause iX5_readClause 0 60 = true := by decide +kernel
theorem rX5_readClause_1 : em_ckR RX5 cX5_readClause iX5_readClause 60 56 = true := by decide +kernel
theorem kX5_readClause : em_ok mX5_readClause := em_okM (N := 116) rfl (fun pc hpc q hq => if h0 : pc < 60 then em_ckR_at rX5_readClause_0 (by omega) (by omega) hq else em_ckR_at rX5_readClause_1 (by omega) (by omega) hq) fX5_ok qX5_ok
theorem tX5_readClause : em_tV mX5_readClause 2 5 := ⟨⟨em_in (k := 607) (by decide +kernel), em_in (k := 7) (by decide +kernel), ⟨by decide +kernel, by decide +kernel⟩, by decide +kernel, by decide +kernel⟩, em_in (k := 606) (by decide +kernel), _, rfl, List.mem_append_left _ (by decide +kernel)⟩
def iX5_sortAt : Nat → Option (Nat × Nat × Int32 × Nat) := em_tr 30 (fun pc => (bif Nat.blt pc 11 then (bif Nat.blt pc 5 then (bif Nat.blt pc 2 then (bif Nat.blt pc 1 then (bif Nat.beq pc 0 then some (0, 0, 0, 1) else none) else (bif Nat.beq pc 1 then some (10, 2, 0, 2) else none)) else (bif Nat.blt pc 3 then (bif Nat.beq pc 2 then some (4, 2, 0, 3) else none) else (bif Nat.beq pc 3 then some (1, 0, 6, 5) else none))) else (bif Nat.blt pc 9 then (bif Nat.blt pc 8 then (bif Nat.beq pc 5 then some (59, 28, 0, 8) else none) else (bif Nat.beq pc 8 then some (8, 0, 0, 9) else none)) else (bif Nat.blt pc 10 then (bif Nat.beq pc 9 then some (4, 1, 0, 10) else none) else (bif Nat.beq pc 10 then some (4, 2, 0, 11) else none)))) else (bif Nat.blt pc 21 then (bif Nat.blt pc 17 then (bif Nat.blt pc 14 then (bif Nat.beq pc 11 then some (80, 39, 0, 14) else none) else (bif Nat.beq pc 14 then some (81, 59, 0, 17) else none)) else (bif Nat.blt pc 20 then (bif Nat.beq pc 17 then some (50, 22, 0, 20) else none) else (bif Nat.beq pc 20 then some (4, 2, 0, 21) else none))) else (bif Nat.blt pc 25 then (bif Nat.blt pc 22 then (bif Nat.beq pc 21 then some (83, 0, 0, 22) else none) else (bif Nat.beq pc 22 then some (16, 2, 1, 25) else none)) else (bif Nat.blt pc 28 then (bif Nat.beq pc 25 then some (32, 2, 0, 28) else none) else (bif Nat.blt pc 29 then (bif Nat.beq pc 28 then some (0, 0, (-1), 29) else none) else (bif Nat.beq pc 29 then some (83, 0, 0, 30) else none)))))))
def mX5_sortAt : em_Me := ((RX5, yX5_sortAt, cX5_sortAt, 3, (some .int)), iX5_sortAt, fX5, qX5)
theorem rX5_sortAt_0 : em_ckR RX5 cX5_sortAt iX5_sortAt 0 30 = true := by decide +kernel
theorem kX5_sortAt : em_ok mX5_sortAt := em_okM (N := 30) rfl (fun pc hpc q hq => em_ckR_at rX5_sortAt_0 (by omega) (by omega) hq) fX5_ok qX5_ok
theorem tX5_sortAt : em_tV mX5_sortAt 1 5 := ⟨⟨em_in (k := 611) (by decide +kernel), em_in (k := 7) (by decide +kernel), ⟨by decide +kernel, by decide +kernel⟩, by decide +kernel, by decide +kernel⟩, em_in (k := 610) (by decide +kernel), _, rfl, List.mem_append_left _ (by decide +kernel)⟩
def iX5_standsAt : Nat → Option (Nat × Nat × Int32 × Nat) := em_tr 51 (fun pc => (bif Nat.blt pc 25 then (bif Nat.blt pc 13 then (bif Nat.blt pc 5 then (bif Nat.blt pc 1 then (bif Nat.beq pc 0 then some (4, 1, 0, 1) else none) else (bif Nat.blt pc 2 then (bif Nat.beq pc 1 then some (8, 2, 0, 2) else none) else (bif Nat.beq pc 2 then some (81, 43, 0, 5) else none))) else (bif Nat.blt pc 7 then (bif Nat.blt pc 6 then (bif Nat.beq pc 5 then some (17, 0, 0, 6) else none) else (bif Nat.beq pc 6 then some (8, 0, 0, 7) else none)) else (bif Nat.blt pc 10 then (bif Nat.beq pc 7 then some (33, 15, 0, 10) else none) else (bif Nat.beq pc 10 then some (61, 15, 0, 13) else none)))) else (bif Nat.blt pc 17 then (bif Nat.blt pc 15 then (bif Nat.blt pc 14 then (bif Nat.beq pc 13 then some (0, 0, 0, 14) else none) else (bif Nat.beq pc 14 then some (83, 0, 0, 15) else none)) else (bif Nat.blt pc 16 then (bif Nat.beq pc 15 then some (0, 0, 0, 16) else none) else (bif Nat.beq pc 16 then some (10, 3, 0, 17) else none))) else (bif Nat.blt pc 19 then (bif Nat.blt pc 18 then (bif Nat.beq pc 17 then some (4, 3, 0, 18) else none) else (bif Nat.beq pc 18 then some (8, 2, 0, 19) else none)) else (bif Nat.blt pc 22 then (bif Nat.beq pc 19 then some (81, 43, 0, 22) else none) else (bif Nat.beq pc 22 then some (59, 49, 0, 25) else none))))) else (bif Nat.blt pc 35 then (bif Nat.blt pc 31 then (bif Nat.blt pc 29 then (bif Nat.blt pc 26 then (bif Nat.beq pc 25 then some (8, 0, 0, 26) else none) else (bif Nat.beq pc 26 then some (33, 9, 0, 29) else none)) else (bif Nat.blt pc 30 then (bif Nat.beq pc 29 then some (4, 1, 0, 30) else none) else (bif Nat.beq pc 30 then some (4, 3, 0, 31) else none))) else (bif Nat.blt pc 33 then (bif Nat.blt pc 32 then (bif Nat.beq pc 31 then some (17, 0, 0, 32) else none) else (bif Nat.beq pc 32 then some (62, 0, 0, 33) else none)) else (bif Nat.blt pc 34 then (bif Nat.beq pc 33 then some (8, 2, 0, 34) else none) else (bif Nat.beq pc 34 then some (4, 3, 0, 35) else none)))) else (bif Nat.blt pc 43 then (bif Nat.blt pc 41 then (bif Nat.blt pc 38 then (bif Nat.beq pc 35 then some (81, 63, 0, 38) else none) else (bif Nat.beq pc 38 then some (56, 43, 0, 41) else none)) else (bif Nat.blt pc 42 then (bif Nat.beq pc 41 then some (0, 0, 0, 42) else none) else (bif Nat.beq pc 42 then some (83, 0, 0, 43) else none))) else (bif Nat.blt pc 49 then (bif Nat.blt pc 46 then (bif Nat.beq pc 43 then some (16, 3, 1, 46) else none) else (bif Nat.beq pc 46 then some (32, 17, 0, 49) else none)) else (bif Nat.blt pc 50 then (bif Nat.beq pc 49 then some (0, 0, 1, 50) else none) else (bif Nat.beq pc 50 then some (83, 0, 0, 51) else none)))))))
def mX5_standsAt : em_Me := ((RX5, yX5_standsAt, cX5_standsAt, 4, (some .boolean)), iX5_standsAt, fX5, qX5)
theorem rX5_standsAt_0 : em_ckR RX5 cX5_standsAt iX5_standsAt 0 51 = true := by decide +kernel
theorem kX5_standsAt : em_ok mX5_standsAt := em_okM (N := 51) rfl (fun pc hpc q hq => em_ckR_at rX5_standsAt_0 (by omega) (by omega) hq) fX5_ok qX5_ok
theorem tX5_standsAt : em_tV mX5_standsAt 2 5 := ⟨⟨em_in (k := 624) (by decide +kernel), em_in (k := 7) (by decide +kernel), ⟨by decide +kernel, by decide +kernel⟩, by decide +kernel, by decide +kernel⟩, em_in (k := 623) (by decide +kernel), _, rfl, List.mem_append_left _ (by decide +kernel)⟩
def iX5_pastBlanks : Nat → Option (Nat × Nat × Int32 × Nat) := em_tr 29 (fun pc => (bif Nat.blt pc 14 then (bif Nat.blt pc 4 then (bif Nat.blt pc 2 then (bif Nat.blt pc 1 then (bif Nat.beq pc 0 then some (4, 1, 0, 1) else none) else (bif Nat.beq pc 1 then some (10, 2, 0, 2) else none)) else (bif Nat.blt pc 3 then (bif Nat.beq pc 2 then some (4, 2, 0, 3) else none) else (bif Nat.beq pc 3 then some (8, 0, 0, 4) else none))) else (bif Nat.blt pc 10 then (bif Nat.blt pc 7 then (bif Nat.beq pc 4 then some (33, 15, 0, 7) else none) else (bif Nat.beq pc 7 then some (59, 27, 0, 10) else none)) else (bif Nat.blt pc 11 then (bif Nat.beq pc 10 then some (8, 0, 0, 11) else none) else (bif Nat.beq pc 11 then some (33, 9, 0, 14) else none)))) else (bif Nat.blt pc 21 then (bif Nat.blt pc 16 then (bif Nat.blt pc 15 then (bif Nat.beq pc 14 then some (4, 2, 0, 15) else none) else (bif Nat.beq pc 15 then some (62, 0, 0, 16) else none)) else (bif Nat.blt pc 18 then (bif Nat.beq pc 16 then some (1, 0, 32, 18) else none) else (bif Nat.beq pc 18 then some (57, 27, 0, 21) else none))) else (bif Nat.blt pc 27 then (bif Nat.blt pc 24 then (bif Nat.beq pc 21 then some (16, 2, 1, 24) else none) else (bif Nat.beq pc 24 then some (32, 2, 0, 27) else none)) else (bif Nat.blt pc 28 then (bif Nat.beq pc 27 then some (4, 2, 0, 28) else none) else (bif Nat.beq pc 28 then some (83, 0, 0, 29) else none))))))
def mX5_pastBlanks : em_Me := ((RX5, yX5_pastBlanks, cX5_pastBlanks, 3, (some .int)), iX5_pastBlanks, fX5, qX5)
theorem rX5_pastBlanks_0 : em_ckR RX5 cX5_pastBlanks iX5_pastBlanks 0 29 = true := by decide +kernel
theorem kX5_pastBlanks : em_ok mX5_pastBlanks := em_okM (N := 29) rfl (fun pc hpc q hq => em_ckR_at rX5_pastBlanks_0 (by omega) (by omega) hq) fX5_ok qX5_ok
theorem tX5_pastBlanks : em_tV mX5_pastBlanks 1 5 := ⟨⟨em_in (k := 603) (by decide +kernel), em_in (k := 7) (by decide +kernel), ⟨by decide +kernel, by decide +kernel⟩, by decide +kernel, by decide +kernel⟩, em_in (k := 602) (by decide +kernel), _, rfl, List.mem_append_left _ (by decide +kernel)⟩
end
section
def iX5_pastDigits : Nat → Option (Nat × Nat × Int32 × Nat) := em_tr 34 (fun pc => (bif Nat.blt pc 15 then (bif Nat.blt pc 4 then (bif Nat.blt pc 2 then (bif Nat.blt pc 1 then (bif Nat.beq pc 0 then some (4, 1, 0, 1) else none) else (bif Nat.beq pc 1 then some (10, 2, 0, 2) else none)) else (bif Nat.blt pc 3 then (bif Nat.beq pc 2 then some (4, 2, 0, 3) else none) else (bif Nat.beq pc 3 then some (8, 0, 0, 4) else none))) else (bif Nat.blt pc 10 then (bif Nat.blt pc 7 then (bif Nat.beq pc 4 then some (33, 15, 0, 7) else none) else (bif Nat.beq pc 7 then some (59, 32, 0, 10) else none)) else (bif Nat.blt pc 11 then (bif Nat.beq pc 10 then some (8, 0, 0, 11) else none) else (bif Nat.blt pc 14 then (bif Nat.beq pc 11 then some (33, 9, 0, 14) else none) else (bif Nat.beq pc 14 then some (4, 2, 0, 15) else none))))) else (bif Nat.blt pc 23 then (bif Nat.blt pc 18 then (bif Nat.blt pc 16 then (bif Nat.beq pc 15 then some (62, 0, 0, 16) else none) else (bif Nat.beq pc 16 then some (1, 0, 48, 18) else none)) else (bif Nat.blt pc 20 then (bif Nat.beq pc 18 then some (1, 0, 57, 20) else none) else (bif Nat.beq pc 20 then some (80, 19, 0, 23) else none))) else (bif Nat.blt pc 29 then (bif Nat.blt pc 26 then (bif Nat.beq pc 23 then some (50, 32, 0, 26) else none) else (bif Nat.beq pc 26 then some (16, 2, 1, 29) else none)) else (bif Nat.blt pc 32 then (bif Nat.beq pc 29 then some (32, 2, 0, 32) else none) else (bif Nat.blt pc 33 then (bif Nat.beq pc 32 then some (4, 2, 0, 33) else none) else (bif Nat.beq pc 33 then some (83, 0, 0, 34) else none)))))))
def mX5_pastDigits : em_Me := ((RX5, yX5_pastDigits, cX5_pastDigits, 3, (some .int)), iX5_pastDigits, fX5, qX5)
theorem rX5_pastDigits_0 : em_ckR RX5 cX5_pastDigits iX5_pastDigits 0 34 = true := by decide +kernel
theorem kX5_pastDigits : em_ok mX5_pastDigits := em_okM (N := 34) rfl (fun pc hpc q hq => em_ckR_at rX5_pastDigits_0 (by omega) (by omega) hq) fX5_ok qX5_ok
theorem tX5_pastDigits : em_tV mX5_pastDigits 1 5 := ⟨⟨em_in (k := 676) (by decide +kernel), em_in (k := 7) (by decide +kernel), ⟨by decide +kernel, by decide +kernel⟩, by decide +kernel, by decide +kernel⟩, em_in (k := 675) (by decide +kernel), _, rfl, List.mem_append_left _ (by decide +kernel)⟩
def iX5_valueOf : Nat → Option (Nat × Nat × Int32 × Nat) := em_tr 35 (fun pc => (bif Nat.blt pc 16 then (bif Nat.blt pc 7 then (bif Nat.blt pc 2 then (bif Nat.blt pc 1 then (bif Nat.beq pc 0 then some (0, 0, 0, 1) else none) else (bif Nat.beq pc 1 then some (10, 3, 0, 2) else none)) else (bif Nat.blt pc 3 then (bif Nat.beq pc 2 then some (4, 1, 0, 3) else none) else (bif Nat.blt pc 5 then (bif Nat.beq pc 3 then some (11, 4, 0, 5) else none) else (bif Nat.beq pc 5 then some (5, 4, 0, 7) else none)))) else (bif Nat.blt pc 12 then (bif Nat.blt pc 8 then (bif Nat.beq pc 7 then some (4, 2, 0, 8) else none) else (bif Nat.blt pc 11 then (bif Nat.beq pc 8 then some (59, 33, 0, 11) else none) else (bif Nat.beq pc 11 then some (4, 3, 0, 12) else none))) else (bif Nat.blt pc 14 then (bif Nat.beq pc 12 then some (1, 0, 10, 14) else none) else (bif Nat.blt pc 15 then (bif Nat.beq pc 14 then some (19, 0, 0, 15) else none) else (bif Nat.beq pc 15 then some (8, 0, 0, 16) else none))))) else (bif Nat.blt pc 25 then (bif Nat.blt pc 21 then (bif Nat.blt pc 19 then (bif Nat.beq pc 16 then some (33, 9, 0, 19) else none) else (bif Nat.beq pc 19 then some (5, 4, 0, 21) else none)) else (bif Nat.blt pc 22 then (bif Nat.beq pc 21 then some (62, 0, 0, 22) else none) else (bif Nat.blt pc 23 then (bif Nat.beq pc 22 then some (17, 0, 0, 23) else none) else (bif Nat.beq pc 23 then some (1, 0, 48, 25) else none)))) else (bif Nat.blt pc 30 then (bif Nat.blt pc 26 then (bif Nat.beq pc 25 then some (18, 0, 0, 26) else none) else (bif Nat.blt pc 27 then (bif Nat.beq pc 26 then some (10, 3, 0, 27) else none) else (bif Nat.beq pc 27 then some (16, 4, 1, 30) else none))) else (bif Nat.blt pc 33 then (bif Nat.beq pc 30 then some (32, 5, 0, 33) else none) else (bif Nat.blt pc 34 then (bif Nat.beq pc 33 then some (4, 3, 0, 34) else none) else (bif Nat.beq pc 34 then some (83, 0, 0, 35) else none)))))))
def mX5_valueOf : em_Me := ((RX5, yX5_valueOf, cX5_valueOf, 5, (some .int)), iX5_valueOf, fX5, qX5)
theorem rX5_valueOf_0 : em_ckR RX5 cX5_valueOf iX5_valueOf 0 35 = true := by decide +kernel
theorem kX5_valueOf : em_ok mX5_valueOf := em_okM (N := 35) rfl (fun pc hpc q hq => em_ckR_at rX5_valueOf_0 (by omega) (by omega) hq) fX5_ok qX5_ok
theorem tX5_valueOf : em_tV mX5_valueOf 2 5 := ⟨⟨em_in (k := 680) (by decide +kernel), em_in (k := 7) (by decide +kernel), ⟨by decide +kernel, by decide +kernel⟩, by decide +kernel, by decide +kernel⟩, em_in (k := 679) (by decide +kernel), _, rfl, List.mem_append_left _ (by decide +kernel)⟩
def iX5_wordOf : Nat → Option (Nat × Nat × Int32 × Nat) := em_tr 54 (fun pc => (bif Nat.blt pc 44 then (bif Nat.blt pc 39 then (bif Nat.blt pc 36 then (bif Nat.beq pc 0 then some (4, 0, 0, 1) else none) else (bif Nat.blt pc 38 then (bif Nat.beq pc 36 then some (35, 67, 0, 38) else none) else (bif Nat.beq pc 38 then some (85, 0, 0, 39) else none))) else (bif Nat.blt pc 41 then (bif Nat.beq pc 39 then some (35, 69, 0, 41) else none) else (bif Nat.blt pc 42 then (bif Nat.beq pc 41 then some (85, 0, 0, 42) else none) else (bif Nat.beq pc 42 then some (35, 71, 0, 44) else none)))) else (bif Nat.blt pc 48 then (bif Nat.blt pc 45 then (bif Nat.beq pc 44 then some (85, 0, 0, 45) else none) else (bif Nat.blt pc 47 then (bif Nat.beq pc 45 then some (35, 73, 0, 47) else none) else (bif Nat.beq pc 47 then some (85, 0, 0, 48) else none))) else (bif Nat.blt pc 51 then (bif Nat.blt pc 50 then (bif Nat.beq pc 48 then some (35, 75, 0, 50) else none) else (bif Nat.beq pc 50 then some (85, 0, 0, 51) else none)) else (bif Nat.blt pc 53 then (bif Nat.beq pc 51 then some (35, 77, 0, 53) else none) else (bif Nat.beq pc 53 then some (85, 0, 0, 54) else none))))))
def mX5_wordOf : em_Me := ((RX5, yX5_wordOf, cX5_wordOf, 1, (some (.object "java/lang/String"))), iX5_wordOf, fX5, qX5)
theorem rX5_wordOf_0 : em_ckR RX5 cX5_wordOf iX5_wordOf 0 54 = true := by decide +kernel
theorem kX5_wordOf : em_ok mX5_wordOf := em_okM (N := 54) rfl (fun pc hpc q hq => em_ckR_at rX5_wordOf_0 (by omega) (by omega) hq) fX5_ok qX5_ok
theorem tX5_wordOf : em_tS mX5_wordOf 1 := ⟨⟨em_in (k := 614) (by decide +kernel), em_in (k := 7) (by decide +kernel), ⟨by decide +kernel, by decide +kernel⟩, by decide +kernel, by decide +kernel⟩, em_in (k := 613) (by decide +kernel)⟩
def iX6_init : Nat → Option (Nat × Nat × Int32 × Nat) := em_tr 59 (fun pc => (bif Nat.blt pc 29 then (bif Nat.blt pc 13 then (bif Nat.blt pc 5 then (bif Nat.blt pc 1 then (bif Nat.beq pc 0 then some (8, 0, 0, 1) else none) else (bif Nat.blt pc 4 then (bif Nat.beq pc 1 then some (82, 3, 0, 4) else none) else (bif Nat.beq pc 4 then some (8, 0, 0, 5) else none))) else (bif Nat.blt pc 9 then (bif Nat.blt pc 7 then (bif Nat.beq pc 5 then some (1, 0, 40, 7) else none) else (bif Nat.beq pc 7 then some (76, 0, 0, 9) else none)) else (bif Nat.blt pc 12 then (bif Nat.beq pc 9 then some (74, 9, 0, 12) else none) else (bif Nat.beq pc 12 then some (8, 0, 0, 13) else none)))) else (bif Nat.blt pc 21 then (bif Nat.blt pc 17 then (bif Nat.blt pc 15 then (bif Nat.beq pc 13 then some (1, 0, 8, 15) else none) else (bif Nat.beq pc 15 then some (76, 0, 0, 17) else none)) else (bif Nat.blt pc 20 then (bif Nat.beq pc 17 then some (74, 15, 0, 20) else none) else (bif Nat.beq pc 20 then some (8, 0, 0, 21) else none))) else (bif Nat.blt pc 25 then (bif Nat.blt pc 23 then (bif Nat.beq pc 21 then some (1, 0, 8, 23) else none) else (bif Nat.beq pc 23 then some (76, 0, 0, 25) else none)) else (bif Nat.blt pc 28 then (bif Nat.beq pc 25 then some (74, 18, 0, 28) else none) else (bif Nat.beq pc 28 then some (8, 0, 0, 29) else none))))) else (bif Nat.blt pc 45 then (bif Nat.blt pc 36 then (bif Nat.blt pc 31 then (bif Nat.beq pc 29 then some (1, 0, 8, 31) else none) else (bif Nat.blt pc 33 then (bif Nat.beq pc 31 then some (76, 0, 0, 33) else none) else (bif Nat.beq pc 33 then some (74, 21, 0, 36) else none))) else (bif Nat.blt pc 40 then (bif Nat.blt pc 37 then (bif Nat.beq pc 36 then some (8, 0, 0, 37) else none) else (bif Nat.beq pc 37 then some (2, 0, 256, 40) else none)) else (bif Nat.blt pc 42 then (bif Nat.beq pc 40 then some (76, 0, 0, 42) else none) else (bif Nat.beq pc 42 then some (74, 24, 0, 45) else none)))) else (bif Nat.blt pc 51 then (bif Nat.blt pc 47 then (bif Nat.blt pc 46 then (bif Nat.beq pc 45 then some (8, 0, 0, 46) else none) else (bif Nat.beq pc 46 then some (8, 1, 0, 47) else none)) else (bif Nat.blt pc 50 then (bif Nat.beq pc 47 then some (74, 27, 0, 50) else none) else (bif Nat.beq pc 50 then some (8, 0, 0, 51) else none))) else (bif Nat.blt pc 55 then (bif Nat.blt pc 54 then (bif Nat.beq pc 51 then some (33, 9, 0, 54) else none) else (bif Nat.beq pc 54 then some (0, 0, (-1), 55) else none)) else (bif Nat.blt pc 58 then (bif Nat.beq pc 55 then some (80, 31, 0, 58) else none) else (bif Nat.beq pc 58 then some (86, 0, 0, 59) else none)))))))
def mX6_init : em_Me := ((RX6, yX6_init, cX6_init, 2, none), iX6_init, fX6, qX6)
theorem rX6_init_0 : em_ckR RX6 cX6_init iX6_init 0 59 = true := by decide +kernel
theorem kX6_init : em_ok mX6_init := em_okM (N := 59) rfl (fun pc hpc q hq => em_ckR_at rX6_init_0 (by omega) (by omega) hq) fX6_ok qX6_ok
theorem tX6_init : em_tI mX6_init 1 := ⟨⟨em_in (k := 99) (by decide +kernel), em_in (k := 5) (by decide +kernel), ⟨by decide +kernel, by decide +kernel⟩, by decide +kernel, by decide +kernel⟩, em_in (k := 98) (by decide +kernel), rfl, rfl⟩
def iX6_put : Nat → Option (Nat × Nat × Int32 × Nat) := em_tr 78 (fun pc => (bif Nat.blt pc 41 then (bif Nat.blt pc 22 then (bif Nat.blt pc 11 then (bif Nat.blt pc 4 then (bif Nat.blt pc 1 then (bif Nat.beq pc 0 then some (8, 0, 0, 1) else none) else (bif Nat.beq pc 1 then some (33, 27, 0, 4) else none)) else (bif Nat.blt pc 5 then (bif Nat.beq pc 4 then some (4, 1, 0, 5) else none) else (bif Nat.blt pc 8 then (bif Nat.beq pc 5 then some (81, 37, 0, 8) else none) else (bif Nat.beq pc 8 then some (50, 31, 0, 11) else none)))) else (bif Nat.blt pc 15 then (bif Nat.blt pc 12 then (bif Nat.beq pc 11 then some (4, 2, 0, 12) else none) else (bif Nat.blt pc 13 then (bif Nat.beq pc 12 then some (0, 0, (-1), 13) else none) else (bif Nat.beq pc 13 then some (1, 0, 7, 15) else none))) else (bif Nat.blt pc 18 then (bif Nat.beq pc 15 then some (80, 43, 0, 18) else none) else (bif Nat.blt pc 21 then (bif Nat.beq pc 18 then some (50, 31, 0, 21) else none) else (bif Nat.beq pc 21 then some (8, 0, 0, 22) else none))))) else (bif Nat.blt pc 31 then (bif Nat.blt pc 26 then (bif Nat.blt pc 25 then (bif Nat.beq pc 22 then some (33, 9, 0, 25) else none) else (bif Nat.beq pc 25 then some (4, 1, 0, 26) else none)) else (bif Nat.blt pc 27 then (bif Nat.beq pc 26 then some (62, 0, 0, 27) else none) else (bif Nat.blt pc 28 then (bif Nat.beq pc 27 then some (4, 2, 0, 28) else none) else (bif Nat.beq pc 28 then some (57, 33, 0, 31) else none)))) else (bif Nat.blt pc 34 then (bif Nat.blt pc 32 then (bif Nat.beq pc 31 then some (0, 0, 0, 32) else none) else (bif Nat.blt pc 33 then (bif Nat.beq pc 32 then some (83, 0, 0, 33) else none) else (bif Nat.beq pc 33 then some (8, 0, 0, 34) else none))) else (bif Nat.blt pc 37 then (bif Nat.beq pc 34 then some (33, 27, 0, 37) else none) else (bif Nat.blt pc 38 then (bif Nat.beq pc 37 then some (8, 0, 0, 38) else none) else (bif Nat.beq pc 38 then some (33, 27, 0, 41) else none)))))) else (bif Nat.blt pc 60 then (bif Nat.blt pc 50 then (bif Nat.blt pc 45 then (bif Nat.blt pc 42 then (bif Nat.beq pc 41 then some (4, 1, 0, 42) else none) else (bif Nat.beq pc 42 then some (81, 47, 0, 45) else none)) else (bif Nat.blt pc 48 then (bif Nat.beq pc 45 then some (81, 51, 0, 48) else none) else (bif Nat.blt pc 49 then (bif Nat.beq pc 48 then some (10, 3, 0, 49) else none) else (bif Nat.beq pc 49 then some (4, 2, 0, 50) else none)))) else (bif Nat.blt pc 55 then (bif Nat.blt pc 51 then (bif Nat.beq pc 50 then some (0, 0, (-1), 51) else none) else (bif Nat.blt pc 54 then (bif Nat.beq pc 51 then some (56, 69, 0, 54) else none) else (bif Nat.beq pc 54 then some (8, 0, 0, 55) else none))) else (bif Nat.blt pc 56 then (bif Nat.beq pc 55 then some (4, 2, 0, 56) else none) else (bif Nat.blt pc 59 then (bif Nat.beq pc 56 then some (81, 54, 0, 59) else none) else (bif Nat.beq pc 59 then some (4, 3, 0, 60) else none))))) else (bif Nat.blt pc 70 then (bif Nat.blt pc 67 then (bif Nat.blt pc 61 then (bif Nat.beq pc 60 then some (17, 0, 0, 61) else none) else (bif Nat.blt pc 64 then (bif Nat.beq pc 61 then some (2, 0, 2000, 64) else none) else (bif Nat.beq pc 64 then some (61, 69, 0, 67) else none))) else (bif Nat.blt pc 68 then (bif Nat.beq pc 67 then some (0, 0, 0, 68) else none) else (bif Nat.blt pc 69 then (bif Nat.beq pc 68 then some (83, 0, 0, 69) else none) else (bif Nat.beq pc 69 then some (8, 0, 0, 70) else none)))) else (bif Nat.blt pc 75 then (bif Nat.blt pc 73 then (bif Nat.beq pc 70 then some (33, 9, 0, 73) else none) else (bif Nat.blt pc 74 then (bif Nat.beq pc 73 then some (4, 1, 0, 74) else none) else (bif Nat.beq pc 74 then some (4, 2, 0, 75) else none))) else (bif Nat.blt pc 76 then (bif Nat.beq pc 75 then some (66, 0, 0, 76) else none) else (bif Nat.blt pc 77 then (bif Nat.beq pc 76 then some (0, 0, 1, 77) else none) else (bif Nat.beq pc 77 then some (83, 0, 0, 78) else none))))))))
def mX6_put : em_Me := ((RX6, yX6_put, cX6_put, 4, (some .boolean)), iX6_put, fX6, qX6)
theorem rX6_put_0 : em_ckR RX6 cX6_put iX6_put 0 60 = true := by decide +kernel
theorem rX6_put_1 : em_ckR RX6 cX6_put iX6_put 60 18 = true := by decide +kernel
theorem kX6_put : em_ok mX6_put := em_okM (N := 78) rfl (fun pc hpc q hq => if h0 : pc < 60 then em_ckR_at rX6_put_0 (by omega) (by omega) hq else em_ckR_at rX6_put_1 (by omega) (by omega) hq) fX6_ok qX6_ok
theorem tX6_put : em_tV mX6_put 2 6 := ⟨⟨em_in (k := 407) (by decide +kernel), em_in (k := 5) (by decide +kernel), ⟨by decide +kernel, by decide +kernel⟩, by decide +kernel, by decide +kernel⟩, em_in (k := 405) (by decide +kernel), _, rfl, em_in (k := 406) (by decide +kernel)⟩
def iX6_setBar : Nat → Option (Nat × Nat × Int32 × Nat) := em_tr 91 (fun pc => (bif Nat.blt pc 52 then (bif Nat.blt pc 30 then (bif Nat.blt pc 18 then (bif Nat.blt pc 8 then (bif Nat.blt pc 4 then (bif Nat.blt pc 1 then (bif Nat.beq pc 0 then some (4, 1, 0, 1) else none) else (bif Nat.beq pc 1 then some (80, 57, 0, 4) else none)) else (bif Nat.blt pc 7 then (bif Nat.beq pc 4 then some (50, 28, 0, 7) else none) else (bif Nat.beq pc 7 then some (4, 2, 0, 8) else none))) else (bif Nat.blt pc 14 then (bif Nat.blt pc 11 then (bif Nat.beq pc 8 then some (80, 57, 0, 11) else none) else (bif Nat.beq pc 11 then some (50, 28, 0, 14) else none)) else (bif Nat.blt pc 15 then (bif Nat.beq pc 14 then some (8, 0, 0, 15) else none) else (bif Nat.beq pc 15 then some (33, 15, 0, 18) else none)))) else (bif Nat.blt pc 24 then (bif Nat.blt pc 20 then (bif Nat.blt pc 19 then (bif Nat.beq pc 18 then some (4, 1, 0, 19) else none) else (bif Nat.beq pc 19 then some (62, 0, 0, 20) else none)) else (bif Nat.blt pc 21 then (bif Nat.beq pc 20 then some (4, 2, 0, 21) else none) else (bif Nat.beq pc 21 then some (80, 60, 0, 24) else none))) else (bif Nat.blt pc 28 then (bif Nat.blt pc 25 then (bif Nat.beq pc 24 then some (4, 3, 0, 25) else none) else (bif Nat.beq pc 25 then some (57, 30, 0, 28) else none)) else (bif Nat.blt pc 29 then (bif Nat.beq pc 28 then some (0, 0, 0, 29) else none) else (bif Nat.beq pc 29 then some (83, 0, 0, 30) else none))))) else (bif Nat.blt pc 42 then (bif Nat.blt pc 38 then (bif Nat.blt pc 34 then (bif Nat.blt pc 31 then (bif Nat.beq pc 30 then some (4, 3, 0, 31) else none) else (bif Nat.beq pc 31 then some (50, 61, 0, 34) else none)) else (bif Nat.blt pc 35 then (bif Nat.beq pc 34 then some (8, 0, 0, 35) else none) else (bif Nat.beq pc 35 then some (33, 15, 0, 38) else none))) else (bif Nat.blt pc 40 then (bif Nat.blt pc 39 then (bif Nat.beq pc 38 then some (4, 1, 0, 39) else none) else (bif Nat.beq pc 39 then some (31, 0, 0, 40) else none)) else (bif Nat.blt pc 41 then (bif Nat.beq pc 40 then some (62, 0, 0, 41) else none) else (bif Nat.beq pc 41 then some (0, 0, 1, 42) else none)))) else (bif Nat.blt pc 46 then (bif Nat.blt pc 44 then (bif Nat.blt pc 43 then (bif Nat.beq pc 42 then some (4, 2, 0, 43) else none) else (bif Nat.beq pc 43 then some (23, 0, 0, 44) else none)) else (bif Nat.blt pc 45 then (bif Nat.beq pc 44 then some (21, 0, 0, 45) else none) else (bif Nat.beq pc 45 then some (66, 0, 0, 46) else none))) else (bif Nat.blt pc 50 then (bif Nat.blt pc 47 then (bif Nat.beq pc 46 then some (8, 0, 0, 47) else none) else (bif Nat.beq pc 47 then some (33, 15, 0, 50) else none)) else (bif Nat.blt pc 51 then (bif Nat.beq pc 50 then some (4, 2, 0, 51) else none) else (bif Nat.beq pc 51 then some (31, 0, 0, 52) else none)))))) else (bif Nat.blt pc 72 then (bif Nat.blt pc 62 then (bif Nat.blt pc 56 then (bif Nat.blt pc 54 then (bif Nat.blt pc 53 then (bif Nat.beq pc 52 then some (62, 0, 0, 53) else none) else (bif Nat.beq pc 53 then some (0, 0, 1, 54) else none)) else (bif Nat.blt pc 55 then (bif Nat.beq pc 54 then some (4, 1, 0, 55) else none) else (bif Nat.beq pc 55 then some (23, 0, 0, 56) else none))) else (bif Nat.blt pc 58 then (bif Nat.blt pc 57 then (bif Nat.beq pc 56 then some (21, 0, 0, 57) else none) else (bif Nat.beq pc 57 then some (66, 0, 0, 58) else none)) else (bif Nat.blt pc 61 then (bif Nat.beq pc 58 then some (32, 89, 0, 61) else none) else (bif Nat.beq pc 61 then some (8, 0, 0, 62) else none)))) else (bif Nat.blt pc 68 then (bif Nat.blt pc 66 then (bif Nat.blt pc 65 then (bif Nat.beq pc 62 then some (33, 15, 0, 65) else none) else (bif Nat.beq pc 65 then some (4, 1, 0, 66) else none)) else (bif Nat.blt pc 67 then (bif Nat.beq pc 66 then some (31, 0, 0, 67) else none) else (bif Nat.beq pc 67 then some (62, 0, 0, 68) else none))) else (bif Nat.blt pc 70 then (bif Nat.blt pc 69 then (bif Nat.beq pc 68 then some (0, 0, 1, 69) else none) else (bif Nat.beq pc 69 then some (4, 2, 0, 70) else none)) else (bif Nat.blt pc 71 then (bif Nat.beq pc 70 then some (23, 0, 0, 71) else none) else (bif Nat.beq pc 71 then some (0, 0, (-1), 72) else none))))) else (bif Nat.blt pc 82 then (bif Nat.blt pc 76 then (bif Nat.blt pc 74 then (bif Nat.blt pc 73 then (bif Nat.beq pc 72 then some (22, 0, 0, 73) else none) else (bif Nat.beq pc 73 then some (20, 0, 0, 74) else none)) else (bif Nat.blt pc 75 then (bif Nat.beq pc 74 then some (66, 0, 0, 75) else none) else (bif Nat.beq pc 75 then some (8, 0, 0, 76) else none))) else (bif Nat.blt pc 80 then (bif Nat.blt pc 79 then (bif Nat.beq pc 76 then some (33, 15, 0, 79) else none) else (bif Nat.beq pc 79 then some (4, 2, 0, 80) else none)) else (bif Nat.blt pc 81 then (bif Nat.beq pc 80 then some (31, 0, 0, 81) else none) else (bif Nat.beq pc 81 then some (62, 0, 0, 82) else none)))) else (bif Nat.blt pc 86 then (bif Nat.blt pc 84 then (bif Nat.blt pc 83 then (bif Nat.beq pc 82 then some (0, 0, 1, 83) else none) else (bif Nat.beq pc 83 then some (4, 1, 0, 84) else none)) else (bif Nat.blt pc 85 then (bif Nat.beq pc 84 then some (23, 0, 0, 85) else none) else (bif Nat.beq pc 85 then some (0, 0, (-1), 86) else none))) else (bif Nat.blt pc 88 then (bif Nat.blt pc 87 then (bif Nat.beq pc 86 then some (22, 0, 0, 87) else none) else (bif Nat.beq pc 87 then some (20, 0, 0, 88) else none)) else (bif Nat.blt pc 89 then (bif Nat.beq pc 88 then some (66, 0, 0, 89) else none) else (bif Nat.blt pc 90 then (bif Nat.beq pc 89 then some (0, 0, 1, 90) else none) else (bif Nat.beq pc 90 then some (83, 0, 0, 91) else none)))))))))
def mX6_setBar : em_Me := ((RX6, yX6_setBar, cX6_setBar, 4, (some .boolean)), iX6_setBar, fX6, qX6)
theorem rX6_setBar_0 : em_ckR RX6 cX6_setBar iX6_setBar 0 60 = true := by decide +kernel
theorem rX6_setBar_1 : em_ckR RX6 cX6_setBar iX6_setBar 60 31 = true := by decide +kernel
theorem kX6_setBar : em_ok mX6_setBar := em_okM (N := 91) rfl (fun pc hpc q hq => if h0 : pc < 60 then em_ckR_at rX6_setBar_0 (by omega) (by omega) hq else em_ckR_at rX6_setBar_1 (by omega) (by omega) hq) fX6_ok qX6_ok
theorem tX6_setBar : em_tV mX6_setBar 3 6 := ⟨⟨em_in (k := 421) (by decide +kernel), em_in (k := 5) (by decide +kernel), ⟨by decide +kernel, by decide +kernel⟩, by decide +kernel, by decide +kernel⟩, em_in (k := 419) (by decide +kernel), _, rfl, em_in (k := 420) (by decide +kernel)⟩
def iX6_wouldBear : Nat → Option (Nat × Nat × Int32 × Nat) := em_tr 31 (fun pc => (bif Nat.blt pc 12 then (bif Nat.blt pc 5 then (bif Nat.blt pc 2 then (bif Nat.blt pc 1 then (bif Nat.beq pc 0 then some (0, 0, 0, 1) else none) else (bif Nat.beq pc 1 then some (10, 3, 0, 2) else none)) else (bif Nat.blt pc 3 then (bif Nat.beq pc 2 then some (4, 3, 0, 3) else none) else (bif Nat.beq pc 3 then some (1, 0, 8, 5) else none))) else (bif Nat.blt pc 9 then (bif Nat.blt pc 8 then (bif Nat.beq pc 5 then some (59, 29, 0, 8) else none) else (bif Nat.beq pc 8 then some (8, 0, 0, 9) else none)) else (bif Nat.blt pc 10 then (bif Nat.beq pc 9 then some (4, 3, 0, 10) else none) else (bif Nat.blt pc 11 then (bif Nat.beq pc 10 then some (4, 1, 0, 11) else none) else (bif Nat.beq pc 11 then some (4, 2, 0, 12) else none))))) else (bif Nat.blt pc 22 then (bif Nat.blt pc 18 then (bif Nat.blt pc 15 then (bif Nat.beq pc 12 then some (81, 64, 0, 15) else none) else (bif Nat.beq pc 15 then some (2, 0, 2000, 18) else none)) else (bif Nat.blt pc 21 then (bif Nat.beq pc 18 then some (61, 23, 0, 21) else none) else (bif Nat.beq pc 21 then some (0, 0, 0, 22) else none))) else (bif Nat.blt pc 26 then (bif Nat.blt pc 23 then (bif Nat.beq pc 22 then some (83, 0, 0, 23) else none) else (bif Nat.beq pc 23 then some (16, 3, 1, 26) else none)) else (bif Nat.blt pc 29 then (bif Nat.beq pc 26 then some (32, 2, 0, 29) else none) else (bif Nat.blt pc 30 then (bif Nat.beq pc 29 then some (0, 0, 1, 30) else none) else (bif Nat.beq pc 30 then some (83, 0, 0, 31) else none)))))))
def mX6_wouldBear : em_Me := ((RX6, yX6_wouldBear, cX6_wouldBear, 4, (some .boolean)), iX6_wouldBear, fX6, qX6)
theorem rX6_wouldBear_0 : em_ckR RX6 cX6_wouldBear iX6_wouldBear 0 31 = true := by decide +kernel
theorem kX6_wouldBear : em_ok mX6_wouldBear := em_okM (N := 31) rfl (fun pc hpc q hq => em_ckR_at rX6_wouldBear_0 (by omega) (by omega) hq) fX6_ok qX6_ok
theorem tX6_wouldBear : em_tV mX6_wouldBear 2 6 := ⟨⟨em_in (k := 258) (by decide +kernel), em_in (k := 5) (by decide +kernel), ⟨by decide +kernel, by decide +kernel⟩, by decide +kernel, by decide +kernel⟩, em_in (k := 256) (by decide +kernel), _, rfl, em_in (k := 257) (by decide +kernel)⟩
def iX6_weightIn : Nat → Option (Nat × Nat × Int32 × Nat) := em_tr 8 (fun pc => (bif Nat.blt pc 3 then (bif Nat.blt pc 1 then (bif Nat.beq pc 0 then some (8, 0, 0, 1) else none) else (bif Nat.blt pc 2 then (bif Nat.beq pc 1 then some (4, 1, 0, 2) else none) else (bif Nat.beq pc 2 then some (0, 0, (-1), 3) else none))) else (bif Nat.blt pc 4 then (bif Nat.beq pc 3 then some (0, 0, 0, 4) else none) else (bif Nat.blt pc 7 then (bif Nat.beq pc 4 then some (81, 64, 0, 7) else none) else (bif Nat.beq pc 7 then some (83, 0, 0, 8) else none)))))
def mX6_weightIn : em_Me := ((RX6, yX6_weightIn, cX6_weightIn, 2, (some .int)), iX6_weightIn, fX6, qX6)
theorem rX6_weightIn_0 : em_ckR RX6 cX6_weightIn iX6_weightIn 0 8 = true := by decide +kernel
theorem kX6_weightIn : em_ok mX6_weightIn := em_okM (N := 8) rfl (fun pc hpc q hq => em_ckR_at rX6_weightIn_0 (by omega) (by omega) hq) fX6_ok qX6_ok
theorem tX6_weightIn : em_tV mX6_weightIn 1 6 := ⟨⟨em_in (k := 413) (by decide +kernel), em_in (k := 5) (by decide +kernel), ⟨by decide +kernel, by decide +kernel⟩, by decide +kernel, by decide +kernel⟩, em_in (k := 411) (by decide +kernel), _, rfl, em_in (k := 412) (by decide +kernel)⟩
def iX6_beastsIn : Nat → Option (Nat × Nat × Int32 × Nat) := em_tr 36 (fun pc => (bif Nat.blt pc 16 then (bif Nat.blt pc 5 then (bif Nat.blt pc 2 then (bif Nat.blt pc 1 then (bif Nat.beq pc 0 then some (0, 0, 0, 1) else none) else (bif Nat.beq pc 1 then some (10, 2, 0, 2) else none)) else (bif Nat.blt pc 3 then (bif Nat.beq pc 2 then some (0, 0, 0, 3) else none) else (bif Nat.blt pc 4 then (bif Nat.beq pc 3 then some (10, 3, 0, 4) else none) else (bif Nat.beq pc 4 then some (4, 3, 0, 5) else none)))) else (bif Nat.blt pc 9 then (bif Nat.blt pc 6 then (bif Nat.beq pc 5 then some (8, 0, 0, 6) else none) else (bif Nat.beq pc 6 then some (33, 27, 0, 9) else none)) else (bif Nat.blt pc 12 then (bif Nat.beq pc 9 then some (81, 68, 0, 12) else none) else (bif Nat.blt pc 15 then (bif Nat.beq pc 12 then some (59, 34, 0, 15) else none) else (bif Nat.beq pc 15 then some (8, 0, 0, 16) else none))))) else (bif Nat.blt pc 25 then (bif Nat.blt pc 20 then (bif Nat.blt pc 19 then (bif Nat.beq pc 16 then some (33, 9, 0, 19) else none) else (bif Nat.beq pc 19 then some (4, 3, 0, 20) else none)) else (bif Nat.blt pc 21 then (bif Nat.beq pc 20 then some (62, 0, 0, 21) else none) else (bif Nat.blt pc 22 then (bif Nat.beq pc 21 then some (4, 1, 0, 22) else none) else (bif Nat.beq pc 22 then some (57, 28, 0, 25) else none)))) else (bif Nat.blt pc 31 then (bif Nat.blt pc 28 then (bif Nat.beq pc 25 then some (16, 2, 1, 28) else none) else (bif Nat.beq pc 28 then some (16, 3, 1, 31) else none)) else (bif Nat.blt pc 34 then (bif Nat.beq pc 31 then some (32, 4, 0, 34) else none) else (bif Nat.blt pc 35 then (bif Nat.beq pc 34 then some (4, 2, 0, 35) else none) else (bif Nat.beq pc 35 then some (83, 0, 0, 36) else none)))))))
def mX6_beastsIn : em_Me := ((RX6, yX6_beastsIn, cX6_beastsIn, 4, (some .int)), iX6_beastsIn, fX6, qX6)
theorem rX6_beastsIn_0 : em_ckR RX6 cX6_beastsIn iX6_beastsIn 0 36 = true := by decide +kernel
theorem kX6_beastsIn : em_ok mX6_beastsIn := em_okM (N := 36) rfl (fun pc hpc q hq => em_ckR_at rX6_beastsIn_0 (by omega) (by omega) hq) fX6_ok qX6_ok
theorem tX6_beastsIn : em_tV mX6_beastsIn 1 6 := ⟨⟨em_in (k := 434) (by decide +kernel), em_in (k := 5) (by decide +kernel), ⟨by decide +kernel, by decide +kernel⟩, by decide +kernel, by decide +kernel⟩, em_in (k := 432) (by decide +kernel), _, rfl, em_in (k := 433) (by decide +kernel)⟩
def iX6_beastsInAll : Nat → Option (Nat × Nat × Int32 × Nat) := em_tr 14 (fun pc => (bif Nat.blt pc 8 then (bif Nat.blt pc 4 then (bif Nat.blt pc 1 then (bif Nat.beq pc 0 then some (8, 0, 0, 1) else none) else (bif Nat.beq pc 1 then some (33, 27, 0, 4) else none)) else (bif Nat.blt pc 7 then (bif Nat.beq pc 4 then some (81, 68, 0, 7) else none) else (bif Nat.beq pc 7 then some (8, 0, 0, 8) else none))) else (bif Nat.blt pc 12 then (bif Nat.blt pc 9 then (bif Nat.beq pc 8 then some (0, 0, (-1), 9) else none) else (bif Nat.beq pc 9 then some (81, 72, 0, 12) else none)) else (bif Nat.blt pc 13 then (bif Nat.beq pc 12 then some (18, 0, 0, 13) else none) else (bif Nat.beq pc 13 then some (83, 0, 0, 14) else none)))))
def mX6_beastsInAll : em_Me := ((RX6, yX6_beastsInAll, cX6_beastsInAll, 1, (some .int)), iX6_beastsInAll, fX6, qX6)
theorem rX6_beastsInAll_0 : em_ckR RX6 cX6_beastsInAll iX6_beastsInAll 0 14 = true := by decide +kernel
theorem kX6_beastsInAll : em_ok mX6_beastsInAll := em_okM (N := 14) rfl (fun pc hpc q hq => em_ckR_at rX6_beastsInAll_0 (by omega) (by omega) hq) fX6_ok qX6_ok
theorem tX6_beastsInAll : em_tV mX6_beastsInAll 0 6 := ⟨⟨em_in (k := 848) (by decide +kernel), em_in (k := 5) (by decide +kernel), ⟨by decide +kernel, by decide +kernel⟩, by decide +kernel, by decide +kernel⟩, em_in (k := 846) (by decide +kernel), _, rfl, em_in (k := 847) (by decide +kernel)⟩
def iX6_isSound : Nat → Option (Nat × Nat × Int32 × Nat) := em_tr 41 (fun pc => (bif Nat.blt pc 19 then (bif Nat.blt pc 7 then (bif Nat.blt pc 2 then (bif Nat.blt pc 1 then (bif Nat.beq pc 0 then some (0, 0, 0, 1) else none) else (bif Nat.beq pc 1 then some (10, 2, 0, 2) else none)) else (bif Nat.blt pc 3 then (bif Nat.beq pc 2 then some (4, 2, 0, 3) else none) else (bif Nat.blt pc 4 then (bif Nat.beq pc 3 then some (8, 0, 0, 4) else none) else (bif Nat.beq pc 4 then some (33, 27, 0, 7) else none)))) else (bif Nat.blt pc 14 then (bif Nat.blt pc 10 then (bif Nat.beq pc 7 then some (81, 68, 0, 10) else none) else (bif Nat.blt pc 13 then (bif Nat.beq pc 10 then some (59, 39, 0, 13) else none) else (bif Nat.beq pc 13 then some (8, 0, 0, 14) else none))) else (bif Nat.blt pc 17 then (bif Nat.beq pc 14 then some (33, 9, 0, 17) else none) else (bif Nat.blt pc 18 then (bif Nat.beq pc 17 then some (4, 2, 0, 18) else none) else (bif Nat.beq pc 18 then some (62, 0, 0, 19) else none))))) else (bif Nat.blt pc 31 then (bif Nat.blt pc 24 then (bif Nat.blt pc 20 then (bif Nat.beq pc 19 then some (4, 1, 0, 20) else none) else (bif Nat.blt pc 23 then (bif Nat.beq pc 20 then some (57, 33, 0, 23) else none) else (bif Nat.beq pc 23 then some (8, 0, 0, 24) else none))) else (bif Nat.blt pc 25 then (bif Nat.beq pc 24 then some (4, 2, 0, 25) else none) else (bif Nat.blt pc 28 then (bif Nat.beq pc 25 then some (81, 75, 0, 28) else none) else (bif Nat.beq pc 28 then some (50, 33, 0, 31) else none)))) else (bif Nat.blt pc 36 then (bif Nat.blt pc 32 then (bif Nat.beq pc 31 then some (0, 0, 0, 32) else none) else (bif Nat.blt pc 33 then (bif Nat.beq pc 32 then some (83, 0, 0, 33) else none) else (bif Nat.beq pc 33 then some (16, 2, 1, 36) else none))) else (bif Nat.blt pc 39 then (bif Nat.beq pc 36 then some (32, 2, 0, 39) else none) else (bif Nat.blt pc 40 then (bif Nat.beq pc 39 then some (0, 0, 1, 40) else none) else (bif Nat.beq pc 40 then some (83, 0, 0, 41) else none)))))))
def mX6_isSound : em_Me := ((RX6, yX6_isSound, cX6_isSound, 3, (some .boolean)), iX6_isSound, fX6, qX6)
theorem rX6_isSound_0 : em_ckR RX6 cX6_isSound iX6_isSound 0 41 = true := by decide +kernel
theorem kX6_isSound : em_ok mX6_isSound := em_okM (N := 41) rfl (fun pc hpc q hq => em_ckR_at rX6_isSound_0 (by omega) (by omega) hq) fX6_ok qX6_ok
theorem tX6_isSound : em_tV mX6_isSound 1 6 := ⟨⟨em_in (k := 438) (by decide +kernel), em_in (k := 5) (by decide +kernel), ⟨by decide +kernel, by decide +kernel⟩, by decide +kernel, by decide +kernel⟩, em_in (k := 436) (by decide +kernel), _, rfl, em_in (k := 437) (by decide +kernel)⟩
def iX6_placeInOrder : Nat → Option (Nat × Nat × Int32 × Nat) := em_tr 41 (fun pc => (bif Nat.blt pc 20 then (bif Nat.blt pc 10 then (bif Nat.blt pc 5 then (bif Nat.blt pc 1 then (bif Nat.beq pc 0 then some (8, 0, 0, 1) else none) else (bif Nat.blt pc 4 then (bif Nat.beq pc 1 then some (81, 78, 0, 4) else none) else (bif Nat.beq pc 4 then some (8, 0, 0, 5) else none))) else (bif Nat.blt pc 8 then (bif Nat.beq pc 5 then some (81, 81, 0, 8) else none) else (bif Nat.blt pc 9 then (bif Nat.beq pc 8 then some (10, 2, 0, 9) else none) else (bif Nat.beq pc 9 then some (4, 1, 0, 10) else none)))) else (bif Nat.blt pc 15 then (bif Nat.blt pc 11 then (bif Nat.beq pc 10 then some (0, 0, 0, 11) else none) else (bif Nat.blt pc 12 then (bif Nat.beq pc 11 then some (4, 2, 0, 12) else none) else (bif Nat.beq pc 12 then some (80, 84, 0, 15) else none))) else (bif Nat.blt pc 16 then (bif Nat.beq pc 15 then some (0, 0, 1, 16) else none) else (bif Nat.blt pc 17 then (bif Nat.beq pc 16 then some (18, 0, 0, 17) else none) else (bif Nat.beq pc 17 then some (80, 43, 0, 20) else none))))) else (bif Nat.blt pc 30 then (bif Nat.blt pc 25 then (bif Nat.blt pc 23 then (bif Nat.beq pc 20 then some (51, 25, 0, 23) else none) else (bif Nat.blt pc 24 then (bif Nat.beq pc 23 then some (0, 0, (-1), 24) else none) else (bif Nat.beq pc 24 then some (83, 0, 0, 25) else none))) else (bif Nat.blt pc 26 then (bif Nat.beq pc 25 then some (8, 0, 0, 26) else none) else (bif Nat.blt pc 29 then (bif Nat.beq pc 26 then some (81, 89, 0, 29) else none) else (bif Nat.beq pc 29 then some (8, 0, 0, 30) else none)))) else (bif Nat.blt pc 35 then (bif Nat.blt pc 31 then (bif Nat.beq pc 30 then some (4, 2, 0, 31) else none) else (bif Nat.blt pc 34 then (bif Nat.beq pc 31 then some (81, 92, 0, 34) else none) else (bif Nat.beq pc 34 then some (8, 0, 0, 35) else none))) else (bif Nat.blt pc 37 then (bif Nat.blt pc 36 then (bif Nat.beq pc 35 then some (4, 2, 0, 36) else none) else (bif Nat.beq pc 36 then some (4, 1, 0, 37) else none)) else (bif Nat.blt pc 40 then (bif Nat.beq pc 37 then some (81, 96, 0, 40) else none) else (bif Nat.beq pc 40 then some (83, 0, 0, 41) else none)))))))
def mX6_placeInOrder : em_Me := ((RX6, yX6_placeInOrder, cX6_placeInOrder, 3, (some .int)), iX6_placeInOrder, fX6, qX6)
theorem rX6_placeInOrder_0 : em_ckR RX6 cX6_placeInOrder iX6_placeInOrder 0 41 = true := by decide +kernel
theorem kX6_placeInOrder : em_ok mX6_placeInOrder := em_okM (N := 41) rfl (fun pc hpc q hq => em_ckR_at rX6_placeInOrder_0 (by omega) (by omega) hq) fX6_ok qX6_ok
theorem tX6_placeInOrder : em_tV mX6_placeInOrder 1 6 := ⟨⟨em_in (k := 450) (by decide +kernel), em_in (k := 5) (by decide +kernel), ⟨by decide +kernel, by decide +kernel⟩, by decide +kernel, by decide +kernel⟩, em_in (k := 448) (by decide +kernel), _, rfl, em_in (k := 449) (by decide +kernel)⟩
def iX6_weightWith : Nat → Option (Nat × Nat × Int32 × Nat) := em_tr 73 (fun pc => (bif Nat.blt pc 35 then (bif Nat.blt pc 18 then (bif Nat.blt pc 6 then (bif Nat.blt pc 3 then (bif Nat.blt pc 1 then (bif Nat.beq pc 0 then some (0, 0, 0, 1) else none) else (bif Nat.beq pc 1 then some (11, 4, 0, 3) else none)) else (bif Nat.blt pc 4 then (bif Nat.beq pc 3 then some (0, 0, 0, 4) else none) else (bif Nat.beq pc 4 then some (11, 5, 0, 6) else none))) else (bif Nat.blt pc 9 then (bif Nat.blt pc 8 then (bif Nat.beq pc 6 then some (5, 5, 0, 8) else none) else (bif Nat.beq pc 8 then some (8, 0, 0, 9) else none)) else (bif Nat.blt pc 12 then (bif Nat.beq pc 9 then some (33, 27, 0, 12) else none) else (bif Nat.blt pc 15 then (bif Nat.beq pc 12 then some (81, 68, 0, 15) else none) else (bif Nat.beq pc 15 then some (59, 70, 0, 18) else none))))) else (bif Nat.blt pc 25 then (bif Nat.blt pc 22 then (bif Nat.blt pc 19 then (bif Nat.beq pc 18 then some (8, 0, 0, 19) else none) else (bif Nat.beq pc 19 then some (33, 9, 0, 22) else none)) else (bif Nat.blt pc 24 then (bif Nat.beq pc 22 then some (5, 5, 0, 24) else none) else (bif Nat.beq pc 24 then some (62, 0, 0, 25) else none))) else (bif Nat.blt pc 29 then (bif Nat.blt pc 26 then (bif Nat.beq pc 25 then some (4, 1, 0, 26) else none) else (bif Nat.beq pc 26 then some (57, 64, 0, 29) else none)) else (bif Nat.blt pc 30 then (bif Nat.beq pc 29 then some (8, 0, 0, 30) else none) else (bif Nat.blt pc 33 then (bif Nat.beq pc 30 then some (33, 27, 0, 33) else none) else (bif Nat.beq pc 33 then some (5, 5, 0, 35) else none)))))) else (bif Nat.blt pc 53 then (bif Nat.blt pc 44 then (bif Nat.blt pc 40 then (bif Nat.blt pc 38 then (bif Nat.beq pc 35 then some (81, 47, 0, 38) else none) else (bif Nat.beq pc 38 then some (11, 6, 0, 40) else none)) else (bif Nat.blt pc 42 then (bif Nat.beq pc 40 then some (5, 4, 0, 42) else none) else (bif Nat.beq pc 42 then some (5, 6, 0, 44) else none))) else (bif Nat.blt pc 48 then (bif Nat.blt pc 45 then (bif Nat.beq pc 44 then some (4, 2, 0, 45) else none) else (bif Nat.beq pc 45 then some (57, 52, 0, 48) else none)) else (bif Nat.blt pc 49 then (bif Nat.beq pc 48 then some (4, 3, 0, 49) else none) else (bif Nat.blt pc 52 then (bif Nat.beq pc 49 then some (32, 61, 0, 52) else none) else (bif Nat.beq pc 52 then some (8, 0, 0, 53) else none))))) else (bif Nat.blt pc 62 then (bif Nat.blt pc 58 then (bif Nat.blt pc 56 then (bif Nat.beq pc 53 then some (33, 27, 0, 56) else none) else (bif Nat.beq pc 56 then some (5, 6, 0, 58) else none)) else (bif Nat.blt pc 61 then (bif Nat.beq pc 58 then some (81, 51, 0, 61) else none) else (bif Nat.beq pc 61 then some (17, 0, 0, 62) else none))) else (bif Nat.blt pc 67 then (bif Nat.blt pc 64 then (bif Nat.beq pc 62 then some (11, 4, 0, 64) else none) else (bif Nat.beq pc 64 then some (16, 5, 1, 67) else none)) else (bif Nat.blt pc 70 then (bif Nat.beq pc 67 then some (32, 6, 0, 70) else none) else (bif Nat.blt pc 72 then (bif Nat.beq pc 70 then some (5, 4, 0, 72) else none) else (bif Nat.beq pc 72 then some (83, 0, 0, 73) else none))))))))
def mX6_weightWith : em_Me := ((RX6, yX6_weightWith, cX6_weightWith, 7, (some .int)), iX6_weightWith, fX6, qX6)
theorem rX6_weightWith_0 : em_ckR RX6 cX6_weightWith iX6_weightWith 0 60 = true := by decide +kernel
theorem rX6_weightWith_1 : em_ckR RX6 cX6_weightWith iX6_weightWith 60 13 = true := by decide +kernel
theorem kX6_weightWith : em_ok mX6_weightWith := em_okM (N := 73) rfl (fun pc hpc q hq => if h0 : pc < 60 then em_ckR_at rX6_weightWith_0 (by omega) (by omega) hq else em_ckR_at rX6_weightWith_1 (by omega) (by omega) hq) fX6_ok qX6_ok
theorem tX6_weightWith : em_tV mX6_weightWith 3 6 := ⟨⟨em_in (k := 262) (by decide +kernel), em_in (k := 5) (by decide +kernel), ⟨by decide +kernel, by decide +kernel⟩, by decide +kernel, by decide +kernel⟩, em_in (k := 261) (by decide +kernel), _, rfl, List.mem_append_left _ (by decide +kernel)⟩
def iX6_meetsFoeAhead : Nat → Option (Nat × Nat × Int32 × Nat) := em_tr 61 (fun pc => (bif Nat.blt pc 27 then (bif Nat.blt pc 14 then (bif Nat.blt pc 8 then (bif Nat.blt pc 4 then (bif Nat.blt pc 1 then (bif Nat.beq pc 0 then some (8, 0, 0, 1) else none) else (bif Nat.beq pc 1 then some (33, 15, 0, 4) else none)) else (bif Nat.blt pc 5 then (bif Nat.beq pc 4 then some (8, 0, 0, 5) else none) else (bif Nat.beq pc 5 then some (33, 27, 0, 8) else none))) else (bif Nat.blt pc 12 then (bif Nat.blt pc 9 then (bif Nat.beq pc 8 then some (4, 1, 0, 9) else none) else (bif Nat.beq pc 9 then some (81, 47, 0, 12) else none)) else (bif Nat.blt pc 13 then (bif Nat.beq pc 12 then some (62, 0, 0, 13) else none) else (bif Nat.beq pc 13 then some (10, 2, 0, 14) else none)))) else (bif Nat.blt pc 18 then (bif Nat.blt pc 16 then (bif Nat.blt pc 15 then (bif Nat.beq pc 14 then some (0, 0, 0, 15) else none) else (bif Nat.beq pc 15 then some (10, 3, 0, 16) else none)) else (bif Nat.blt pc 17 then (bif Nat.beq pc 16 then some (4, 3, 0, 17) else none) else (bif Nat.beq pc 17 then some (4, 1, 0, 18) else none))) else (bif Nat.blt pc 22 then (bif Nat.blt pc 21 then (bif Nat.beq pc 18 then some (59, 59, 0, 21) else none) else (bif Nat.beq pc 21 then some (8, 0, 0, 22) else none)) else (bif Nat.blt pc 25 then (bif Nat.beq pc 22 then some (33, 9, 0, 25) else none) else (bif Nat.blt pc 26 then (bif Nat.beq pc 25 then some (4, 3, 0, 26) else none) else (bif Nat.beq pc 26 then some (62, 0, 0, 27) else none)))))) else (bif Nat.blt pc 42 then (bif Nat.blt pc 33 then (bif Nat.blt pc 31 then (bif Nat.blt pc 28 then (bif Nat.beq pc 27 then some (8, 0, 0, 28) else none) else (bif Nat.beq pc 28 then some (33, 9, 0, 31) else none)) else (bif Nat.blt pc 32 then (bif Nat.beq pc 31 then some (4, 1, 0, 32) else none) else (bif Nat.beq pc 32 then some (62, 0, 0, 33) else none))) else (bif Nat.blt pc 37 then (bif Nat.blt pc 36 then (bif Nat.beq pc 33 then some (57, 53, 0, 36) else none) else (bif Nat.beq pc 36 then some (4, 2, 0, 37) else none)) else (bif Nat.blt pc 38 then (bif Nat.beq pc 37 then some (8, 0, 0, 38) else none) else (bif Nat.blt pc 41 then (bif Nat.beq pc 38 then some (33, 27, 0, 41) else none) else (bif Nat.beq pc 41 then some (4, 3, 0, 42) else none))))) else (bif Nat.blt pc 52 then (bif Nat.blt pc 48 then (bif Nat.blt pc 45 then (bif Nat.beq pc 42 then some (81, 47, 0, 45) else none) else (bif Nat.beq pc 45 then some (80, 60, 0, 48) else none)) else (bif Nat.blt pc 51 then (bif Nat.beq pc 48 then some (50, 53, 0, 51) else none) else (bif Nat.beq pc 51 then some (0, 0, 1, 52) else none))) else (bif Nat.blt pc 56 then (bif Nat.blt pc 53 then (bif Nat.beq pc 52 then some (83, 0, 0, 53) else none) else (bif Nat.beq pc 53 then some (16, 3, 1, 56) else none)) else (bif Nat.blt pc 59 then (bif Nat.beq pc 56 then some (32, 16, 0, 59) else none) else (bif Nat.blt pc 60 then (bif Nat.beq pc 59 then some (0, 0, 0, 60) else none) else (bif Nat.beq pc 60 then some (83, 0, 0, 61) else none))))))))
def mX6_meetsFoeAhead : em_Me := ((RX6, yX6_meetsFoeAhead, cX6_meetsFoeAhead, 4, (some .boolean)), iX6_meetsFoeAhead, fX6, qX6)
theorem rX6_meetsFoeAhead_0 : em_ckR RX6 cX6_meetsFoeAhead iX6_meetsFoeAhead 0 60 = true := by decide +kernel
theorem rX6_meetsFoeAhead_1 : em_ckR RX6 cX6_meetsFoeAhead iX6_meetsFoeAhead 60 1 = true := by decide +kernel
theorem kX6_meetsFoeAhead : em_ok mX6_meetsFoeAhead := em_okM (N := 61) rfl (fun pc hpc q hq => if h0 : pc < 60 then em_ckR_at rX6_meetsFoeAhead_0 (by omega) (by omega) hq else em_ckR_at rX6_meetsFoeAhead_1 (by omega) (by omega) hq) fX6_ok qX6_ok
theorem tX6_meetsFoeAhead : em_tV mX6_meetsFoeAhead 1 6 := ⟨⟨em_in (k := 442) (by decide +kernel), em_in (k := 5) (by decide +kernel), ⟨by decide +kernel, by decide +kernel⟩, by decide +kernel, by decide +kernel⟩, em_in (k := 441) (by decide +kernel), _, rfl, List.mem_append_left _ (by decide +kernel)⟩
def iX6_findKinds : Nat → Option (Nat × Nat × Int32 × Nat) := em_tr 62 (fun pc => (bif Nat.blt pc 32 then (bif Nat.blt pc 15 then (bif Nat.blt pc 8 then (bif Nat.blt pc 4 then (bif Nat.blt pc 1 then (bif Nat.beq pc 0 then some (8, 0, 0, 1) else none) else (bif Nat.beq pc 1 then some (33, 18, 0, 4) else none)) else (bif Nat.blt pc 5 then (bif Nat.beq pc 4 then some (0, 0, 0, 5) else none) else (bif Nat.beq pc 5 then some (80, 31, 0, 8) else none))) else (bif Nat.blt pc 10 then (bif Nat.blt pc 9 then (bif Nat.beq pc 8 then some (0, 0, 0, 9) else none) else (bif Nat.beq pc 9 then some (10, 1, 0, 10) else none)) else (bif Nat.blt pc 11 then (bif Nat.beq pc 10 then some (4, 1, 0, 11) else none) else (bif Nat.blt pc 12 then (bif Nat.beq pc 11 then some (8, 0, 0, 12) else none) else (bif Nat.beq pc 12 then some (33, 27, 0, 15) else none))))) else (bif Nat.blt pc 25 then (bif Nat.blt pc 21 then (bif Nat.blt pc 18 then (bif Nat.beq pc 15 then some (81, 68, 0, 18) else none) else (bif Nat.beq pc 18 then some (59, 61, 0, 21) else none)) else (bif Nat.blt pc 22 then (bif Nat.beq pc 21 then some (8, 0, 0, 22) else none) else (bif Nat.beq pc 22 then some (33, 9, 0, 25) else none))) else (bif Nat.blt pc 27 then (bif Nat.blt pc 26 then (bif Nat.beq pc 25 then some (4, 1, 0, 26) else none) else (bif Nat.beq pc 26 then some (62, 0, 0, 27) else none)) else (bif Nat.blt pc 28 then (bif Nat.beq pc 27 then some (0, 0, (-1), 28) else none) else (bif Nat.blt pc 31 then (bif Nat.beq pc 28 then some (56, 55, 0, 31) else none) else (bif Nat.beq pc 31 then some (8, 0, 0, 32) else none)))))) else (bif Nat.blt pc 45 then (bif Nat.blt pc 40 then (bif Nat.blt pc 36 then (bif Nat.blt pc 35 then (bif Nat.beq pc 32 then some (33, 18, 0, 35) else none) else (bif Nat.beq pc 35 then some (8, 0, 0, 36) else none)) else (bif Nat.blt pc 39 then (bif Nat.beq pc 36 then some (33, 9, 0, 39) else none) else (bif Nat.beq pc 39 then some (4, 1, 0, 40) else none))) else (bif Nat.blt pc 42 then (bif Nat.blt pc 41 then (bif Nat.beq pc 40 then some (62, 0, 0, 41) else none) else (bif Nat.beq pc 41 then some (31, 0, 0, 42) else none)) else (bif Nat.blt pc 43 then (bif Nat.beq pc 42 then some (62, 0, 0, 43) else none) else (bif Nat.blt pc 44 then (bif Nat.beq pc 43 then some (0, 0, 1, 44) else none) else (bif Nat.beq pc 44 then some (8, 0, 0, 45) else none))))) else (bif Nat.blt pc 53 then (bif Nat.blt pc 49 then (bif Nat.blt pc 48 then (bif Nat.beq pc 45 then some (33, 27, 0, 48) else none) else (bif Nat.beq pc 48 then some (4, 1, 0, 49) else none)) else (bif Nat.blt pc 52 then (bif Nat.beq pc 49 then some (81, 47, 0, 52) else none) else (bif Nat.beq pc 52 then some (23, 0, 0, 53) else none))) else (bif Nat.blt pc 55 then (bif Nat.blt pc 54 then (bif Nat.beq pc 53 then some (21, 0, 0, 54) else none) else (bif Nat.beq pc 54 then some (66, 0, 0, 55) else none)) else (bif Nat.blt pc 58 then (bif Nat.beq pc 55 then some (16, 1, 1, 58) else none) else (bif Nat.blt pc 61 then (bif Nat.beq pc 58 then some (32, 10, 0, 61) else none) else (bif Nat.beq pc 61 then some (86, 0, 0, 62) else none))))))))
def mX6_findKinds : em_Me := ((RX6, yX6_findKinds, cX6_findKinds, 2, none), iX6_findKinds, fX6, qX6)
theorem rX6_findKinds_0 : em_ckR RX6 cX6_findKinds iX6_findKinds 0 60 = true := by decide +kernel
theorem rX6_findKinds_1 : em_ckR RX6 cX6_findKinds iX6_findKinds 60 2 = true := by decide +kernel
theorem kX6_findKinds : em_ok mX6_findKinds := em_okM (N := 62) rfl (fun pc hpc q hq => if h0 : pc < 60 then em_ckR_at rX6_findKinds_0 (by omega) (by omega) hq else em_ckR_at rX6_findKinds_1 (by omega) (by omega) hq) fX6_ok qX6_ok
theorem tX6_findKinds : em_tV mX6_findKinds 0 6 := ⟨⟨em_in (k := 454) (by decide +kernel), em_in (k := 5) (by decide +kernel), ⟨by decide +kernel, by decide +kernel⟩, by decide +kernel, by decide +kernel⟩, em_in (k := 453) (by decide +kernel), _, rfl, List.mem_append_left _ (by decide +kernel)⟩
def iX6_filledWagons : Nat → Option (Nat × Nat × Int32 × Nat) := em_tr 33 (fun pc => (bif Nat.blt pc 16 then (bif Nat.blt pc 5 then (bif Nat.blt pc 2 then (bif Nat.blt pc 1 then (bif Nat.beq pc 0 then some (0, 0, 0, 1) else none) else (bif Nat.beq pc 1 then some (10, 1, 0, 2) else none)) else (bif Nat.blt pc 3 then (bif Nat.beq pc 2 then some (0, 0, 0, 3) else none) else (bif Nat.blt pc 4 then (bif Nat.beq pc 3 then some (10, 2, 0, 4) else none) else (bif Nat.beq pc 4 then some (4, 2, 0, 5) else none)))) else (bif Nat.blt pc 11 then (bif Nat.blt pc 7 then (bif Nat.beq pc 5 then some (1, 0, 8, 7) else none) else (bif Nat.blt pc 10 then (bif Nat.beq pc 7 then some (59, 31, 0, 10) else none) else (bif Nat.beq pc 10 then some (8, 0, 0, 11) else none))) else (bif Nat.blt pc 14 then (bif Nat.beq pc 11 then some (33, 18, 0, 14) else none) else (bif Nat.blt pc 15 then (bif Nat.beq pc 14 then some (4, 2, 0, 15) else none) else (bif Nat.beq pc 15 then some (62, 0, 0, 16) else none))))) else (bif Nat.blt pc 23 then (bif Nat.blt pc 20 then (bif Nat.blt pc 19 then (bif Nat.beq pc 16 then some (50, 25, 0, 19) else none) else (bif Nat.beq pc 19 then some (4, 1, 0, 20) else none)) else (bif Nat.blt pc 21 then (bif Nat.beq pc 20 then some (0, 0, 1, 21) else none) else (bif Nat.blt pc 22 then (bif Nat.beq pc 21 then some (4, 2, 0, 22) else none) else (bif Nat.beq pc 22 then some (23, 0, 0, 23) else none)))) else (bif Nat.blt pc 28 then (bif Nat.blt pc 24 then (bif Nat.beq pc 23 then some (21, 0, 0, 24) else none) else (bif Nat.blt pc 25 then (bif Nat.beq pc 24 then some (10, 1, 0, 25) else none) else (bif Nat.beq pc 25 then some (16, 2, 1, 28) else none))) else (bif Nat.blt pc 31 then (bif Nat.beq pc 28 then some (32, 4, 0, 31) else none) else (bif Nat.blt pc 32 then (bif Nat.beq pc 31 then some (4, 1, 0, 32) else none) else (bif Nat.beq pc 32 then some (83, 0, 0, 33) else none)))))))
def mX6_filledWagons : em_Me := ((RX6, yX6_filledWagons, cX6_filledWagons, 3, (some .int)), iX6_filledWagons, fX6, qX6)
theorem rX6_filledWagons_0 : em_ckR RX6 cX6_filledWagons iX6_filledWagons 0 33 = true := by decide +kernel
theorem kX6_filledWagons : em_ok mX6_filledWagons := em_okM (N := 33) rfl (fun pc hpc q hq => em_ckR_at rX6_filledWagons_0 (by omega) (by omega) hq) fX6_ok qX6_ok
theorem tX6_filledWagons : em_tV mX6_filledWagons 0 6 := ⟨⟨em_in (k := 458) (by decide +kernel), em_in (k := 5) (by decide +kernel), ⟨by decide +kernel, by decide +kernel⟩, by decide +kernel, by decide +kernel⟩, em_in (k := 457) (by decide +kernel), _, rfl, List.mem_append_left _ (by decide +kernel)⟩
def iX6_findFoes : Nat → Option (Nat × Nat × Int32 × Nat) := em_tr 70 (fun pc => (bif Nat.blt pc 34 then (bif Nat.blt pc 18 then (bif Nat.blt pc 8 then (bif Nat.blt pc 2 then (bif Nat.blt pc 1 then (bif Nat.beq pc 0 then some (0, 0, 0, 1) else none) else (bif Nat.beq pc 1 then some (10, 1, 0, 2) else none)) else (bif Nat.blt pc 3 then (bif Nat.beq pc 2 then some (4, 1, 0, 3) else none) else (bif Nat.blt pc 5 then (bif Nat.beq pc 3 then some (1, 0, 8, 5) else none) else (bif Nat.beq pc 5 then some (59, 69, 0, 8) else none)))) else (bif Nat.blt pc 13 then (bif Nat.blt pc 9 then (bif Nat.beq pc 8 then some (8, 0, 0, 9) else none) else (bif Nat.blt pc 10 then (bif Nat.beq pc 9 then some (8, 0, 0, 10) else none) else (bif Nat.beq pc 10 then some (33, 18, 0, 13) else none))) else (bif Nat.blt pc 14 then (bif Nat.beq pc 13 then some (4, 1, 0, 14) else none) else (bif Nat.blt pc 15 then (bif Nat.beq pc 14 then some (62, 0, 0, 15) else none) else (bif Nat.beq pc 15 then some (81, 100, 0, 18) else none))))) else (bif Nat.blt pc 25 then (bif Nat.blt pc 20 then (bif Nat.blt pc 19 then (bif Nat.beq pc 18 then some (10, 2, 0, 19) else none) else (bif Nat.beq pc 19 then some (8, 0, 0, 20) else none)) else (bif Nat.blt pc 23 then (bif Nat.beq pc 20 then some (33, 21, 0, 23) else none) else (bif Nat.blt pc 24 then (bif Nat.beq pc 23 then some (4, 1, 0, 24) else none) else (bif Nat.beq pc 24 then some (0, 0, 0, 25) else none)))) else (bif Nat.blt pc 28 then (bif Nat.blt pc 26 then (bif Nat.beq pc 25 then some (66, 0, 0, 26) else none) else (bif Nat.blt pc 27 then (bif Nat.beq pc 26 then some (0, 0, 0, 27) else none) else (bif Nat.beq pc 27 then some (10, 3, 0, 28) else none))) else (bif Nat.blt pc 29 then (bif Nat.beq pc 28 then some (4, 3, 0, 29) else none) else (bif Nat.blt pc 31 then (bif Nat.beq pc 29 then some (1, 0, 8, 31) else none) else (bif Nat.beq pc 31 then some (59, 63, 0, 34) else none)))))) else (bif Nat.blt pc 51 then (bif Nat.blt pc 41 then (bif Nat.blt pc 36 then (bif Nat.blt pc 35 then (bif Nat.beq pc 34 then some (4, 2, 0, 35) else none) else (bif Nat.beq pc 35 then some (8, 0, 0, 36) else none)) else (bif Nat.blt pc 39 then (bif Nat.beq pc 36 then some (33, 18, 0, 39) else none) else (bif Nat.blt pc 40 then (bif Nat.beq pc 39 then some (4, 3, 0, 40) else none) else (bif Nat.beq pc 40 then some (62, 0, 0, 41) else none)))) else (bif Nat.blt pc 46 then (bif Nat.blt pc 42 then (bif Nat.beq pc 41 then some (20, 0, 0, 42) else none) else (bif Nat.blt pc 45 then (bif Nat.beq pc 42 then some (50, 57, 0, 45) else none) else (bif Nat.beq pc 45 then some (8, 0, 0, 46) else none))) else (bif Nat.blt pc 49 then (bif Nat.beq pc 46 then some (33, 21, 0, 49) else none) else (bif Nat.blt pc 50 then (bif Nat.beq pc 49 then some (4, 1, 0, 50) else none) else (bif Nat.beq pc 50 then some (31, 0, 0, 51) else none))))) else (bif Nat.blt pc 56 then (bif Nat.blt pc 53 then (bif Nat.blt pc 52 then (bif Nat.beq pc 51 then some (62, 0, 0, 52) else none) else (bif Nat.beq pc 52 then some (0, 0, 1, 53) else none)) else (bif Nat.blt pc 54 then (bif Nat.beq pc 53 then some (4, 3, 0, 54) else none) else (bif Nat.blt pc 55 then (bif Nat.beq pc 54 then some (23, 0, 0, 55) else none) else (bif Nat.beq pc 55 then some (21, 0, 0, 56) else none)))) else (bif Nat.blt pc 63 then (bif Nat.blt pc 57 then (bif Nat.beq pc 56 then some (66, 0, 0, 57) else none) else (bif Nat.blt pc 60 then (bif Nat.beq pc 57 then some (16, 3, 1, 60) else none) else (bif Nat.beq pc 60 then some (32, 28, 0, 63) else none))) else (bif Nat.blt pc 66 then (bif Nat.beq pc 63 then some (16, 1, 1, 66) else none) else (bif Nat.blt pc 69 then (bif Nat.beq pc 66 then some (32, 2, 0, 69) else none) else (bif Nat.beq pc 69 then some (86, 0, 0, 70) else none))))))))
def mX6_findFoes : em_Me := ((RX6, yX6_findFoes, cX6_findFoes, 4, none), iX6_findFoes, fX6, qX6)
theorem rX6_findFoes_0 : em_ckR RX6 cX6_findFoes iX6_findFoes 0 60 = true := by decide +kernel
theorem rX6_findFoes_1 : em_ckR RX6 cX6_findFoes iX6_findFoes 60 10 = true := by decide +kernel
theorem kX6_findFoes : em_ok mX6_findFoes := em_okM (N := 70) rfl (fun pc hpc q hq => if h0 : pc < 60 then em_ckR_at rX6_findFoes_0 (by omega) (by omega) hq else em_ckR_at rX6_findFoes_1 (by omega) (by omega) hq) fX6_ok qX6_ok
theorem tX6_findFoes : em_tV mX6_findFoes 0 6 := ⟨⟨em_in (k := 468) (by decide +kernel), em_in (k := 5) (by decide +kernel), ⟨by decide +kernel, by decide +kernel⟩, by decide +kernel, by decide +kernel⟩, em_in (k := 467) (by decide +kernel), _, rfl, List.mem_append_left _ (by decide +kernel)⟩
def iX6_kindsBarredBy : Nat → Option (Nat × Nat × Int32 × Nat) := em_tr 35 (fun pc => (bif Nat.blt pc 18 then (bif Nat.blt pc 5 then (bif Nat.blt pc 2 then (bif Nat.blt pc 1 then (bif Nat.beq pc 0 then some (0, 0, 0, 1) else none) else (bif Nat.beq pc 1 then some (10, 2, 0, 2) else none)) else (bif Nat.blt pc 3 then (bif Nat.beq pc 2 then some (0, 0, 0, 3) else none) else (bif Nat.blt pc 4 then (bif Nat.beq pc 3 then some (10, 3, 0, 4) else none) else (bif Nat.beq pc 4 then some (4, 3, 0, 5) else none)))) else (bif Nat.blt pc 11 then (bif Nat.blt pc 7 then (bif Nat.beq pc 5 then some (1, 0, 8, 7) else none) else (bif Nat.blt pc 10 then (bif Nat.beq pc 7 then some (59, 33, 0, 10) else none) else (bif Nat.beq pc 10 then some (4, 1, 0, 11) else none))) else (bif Nat.blt pc 12 then (bif Nat.beq pc 11 then some (4, 3, 0, 12) else none) else (bif Nat.blt pc 15 then (bif Nat.beq pc 12 then some (80, 60, 0, 15) else none) else (bif Nat.beq pc 15 then some (50, 27, 0, 18) else none))))) else (bif Nat.blt pc 25 then (bif Nat.blt pc 20 then (bif Nat.blt pc 19 then (bif Nat.beq pc 18 then some (4, 2, 0, 19) else none) else (bif Nat.beq pc 19 then some (8, 0, 0, 20) else none)) else (bif Nat.blt pc 23 then (bif Nat.beq pc 20 then some (33, 15, 0, 23) else none) else (bif Nat.blt pc 24 then (bif Nat.beq pc 23 then some (4, 3, 0, 24) else none) else (bif Nat.beq pc 24 then some (62, 0, 0, 25) else none)))) else (bif Nat.blt pc 30 then (bif Nat.blt pc 26 then (bif Nat.beq pc 25 then some (21, 0, 0, 26) else none) else (bif Nat.blt pc 27 then (bif Nat.beq pc 26 then some (10, 2, 0, 27) else none) else (bif Nat.beq pc 27 then some (16, 3, 1, 30) else none))) else (bif Nat.blt pc 33 then (bif Nat.beq pc 30 then some (32, 4, 0, 33) else none) else (bif Nat.blt pc 34 then (bif Nat.beq pc 33 then some (4, 2, 0, 34) else none) else (bif Nat.beq pc 34 then some (83, 0, 0, 35) else none)))))))
def mX6_kindsBarredBy : em_Me := ((RX6, yX6_kindsBarredBy, cX6_kindsBarredBy, 4, (some .int)), iX6_kindsBarredBy, fX6, qX6)
theorem rX6_kindsBarredBy_0 : em_ckR RX6 cX6_kindsBarredBy iX6_kindsBarredBy 0 35 = true := by decide +kernel
theorem kX6_kindsBarredBy : em_ok mX6_kindsBarredBy := em_okM (N := 35) rfl (fun pc hpc q hq => em_ckR_at rX6_kindsBarredBy_0 (by omega) (by omega) hq) fX6_ok qX6_ok
theorem tX6_kindsBarredBy : em_tV mX6_kindsBarredBy 1 6 := ⟨⟨em_in (k := 472) (by decide +kernel), em_in (k := 5) (by decide +kernel), ⟨by decide +kernel, by decide +kernel⟩, by decide +kernel, by decide +kernel⟩, em_in (k := 471) (by decide +kernel), _, rfl, List.mem_append_left _ (by decide +kernel)⟩
def iX6_findBeginnings : Nat → Option (Nat × Nat × Int32 × Nat) := em_tr 39 (fun pc => (bif Nat.blt pc 17 then (bif Nat.blt pc 9 then (bif Nat.blt pc 2 then (bif Nat.blt pc 1 then (bif Nat.beq pc 0 then some (0, 0, 1, 1) else none) else (bif Nat.beq pc 1 then some (10, 2, 0, 2) else none)) else (bif Nat.blt pc 3 then (bif Nat.beq pc 2 then some (4, 2, 0, 3) else none) else (bif Nat.blt pc 6 then (bif Nat.beq pc 3 then some (2, 0, 256, 6) else none) else (bif Nat.beq pc 6 then some (59, 38, 0, 9) else none)))) else (bif Nat.blt pc 14 then (bif Nat.blt pc 10 then (bif Nat.beq pc 9 then some (8, 0, 0, 10) else none) else (bif Nat.blt pc 13 then (bif Nat.beq pc 10 then some (33, 24, 0, 13) else none) else (bif Nat.beq pc 13 then some (4, 2, 0, 14) else none))) else (bif Nat.blt pc 15 then (bif Nat.beq pc 14 then some (4, 2, 0, 15) else none) else (bif Nat.blt pc 16 then (bif Nat.beq pc 15 then some (4, 1, 0, 16) else none) else (bif Nat.beq pc 16 then some (0, 0, (-1), 17) else none))))) else (bif Nat.blt pc 27 then (bif Nat.blt pc 22 then (bif Nat.blt pc 18 then (bif Nat.beq pc 17 then some (22, 0, 0, 18) else none) else (bif Nat.blt pc 19 then (bif Nat.beq pc 18 then some (20, 0, 0, 19) else none) else (bif Nat.beq pc 19 then some (51, 30, 0, 22) else none))) else (bif Nat.blt pc 23 then (bif Nat.beq pc 22 then some (8, 0, 0, 23) else none) else (bif Nat.blt pc 24 then (bif Nat.beq pc 23 then some (4, 2, 0, 24) else none) else (bif Nat.beq pc 24 then some (81, 103, 0, 27) else none)))) else (bif Nat.blt pc 32 then (bif Nat.blt pc 30 then (bif Nat.beq pc 27 then some (32, 31, 0, 30) else none) else (bif Nat.blt pc 31 then (bif Nat.beq pc 30 then some (0, 0, 0, 31) else none) else (bif Nat.beq pc 31 then some (66, 0, 0, 32) else none))) else (bif Nat.blt pc 35 then (bif Nat.beq pc 32 then some (16, 2, 1, 35) else none) else (bif Nat.blt pc 38 then (bif Nat.beq pc 35 then some (32, 2, 0, 38) else none) else (bif Nat.beq pc 38 then some (86, 0, 0, 39) else none)))))))
def mX6_findBeginnings : em_Me := ((RX6, yX6_findBeginnings, cX6_findBeginnings, 3, none), iX6_findBeginnings, fX6, qX6)
theorem rX6_findBeginnings_0 : em_ckR RX6 cX6_findBeginnings iX6_findBeginnings 0 39 = true := by decide +kernel
theorem kX6_findBeginnings : em_ok mX6_findBeginnings := em_okM (N := 39) rfl (fun pc hpc q hq => em_ckR_at rX6_findBeginnings_0 (by omega) (by omega) hq) fX6_ok qX6_ok
theorem tX6_findBeginnings : em_tV mX6_findBeginnings 1 6 := ⟨⟨em_in (k := 476) (by decide +kernel), em_in (k := 5) (by decide +kernel), ⟨by decide +kernel, by decide +kernel⟩, by decide +kernel, by decide +kernel⟩, em_in (k := 475) (by decide +kernel), _, rfl, List.mem_append_left _ (by decide +kernel)⟩
def iX6_beginningsOf : Nat → Option (Nat × Nat × Int32 × Nat) := em_tr 65 (fun pc => (bif Nat.blt pc 32 then (bif Nat.blt pc 15 then (bif Nat.blt pc 5 then (bif Nat.blt pc 2 then (bif Nat.blt pc 1 then (bif Nat.beq pc 0 then some (0, 0, 0, 1) else none) else (bif Nat.beq pc 1 then some (10, 2, 0, 2) else none)) else (bif Nat.blt pc 3 then (bif Nat.beq pc 2 then some (0, 0, 0, 3) else none) else (bif Nat.blt pc 4 then (bif Nat.beq pc 3 then some (10, 3, 0, 4) else none) else (bif Nat.beq pc 4 then some (4, 3, 0, 5) else none)))) else (bif Nat.blt pc 10 then (bif Nat.blt pc 7 then (bif Nat.beq pc 5 then some (1, 0, 8, 7) else none) else (bif Nat.beq pc 7 then some (59, 63, 0, 10) else none)) else (bif Nat.blt pc 11 then (bif Nat.beq pc 10 then some (4, 1, 0, 11) else none) else (bif Nat.blt pc 12 then (bif Nat.beq pc 11 then some (4, 3, 0, 12) else none) else (bif Nat.beq pc 12 then some (80, 60, 0, 15) else none))))) else (bif Nat.blt pc 22 then (bif Nat.blt pc 19 then (bif Nat.blt pc 18 then (bif Nat.beq pc 15 then some (50, 57, 0, 18) else none) else (bif Nat.beq pc 18 then some (4, 1, 0, 19) else none)) else (bif Nat.blt pc 20 then (bif Nat.beq pc 19 then some (0, 0, 1, 20) else none) else (bif Nat.blt pc 21 then (bif Nat.beq pc 20 then some (4, 3, 0, 21) else none) else (bif Nat.beq pc 21 then some (23, 0, 0, 22) else none)))) else (bif Nat.blt pc 25 then (bif Nat.blt pc 23 then (bif Nat.beq pc 22 then some (0, 0, (-1), 23) else none) else (bif Nat.blt pc 24 then (bif Nat.beq pc 23 then some (22, 0, 0, 24) else none) else (bif Nat.beq pc 24 then some (20, 0, 0, 25) else none))) else (bif Nat.blt pc 27 then (bif Nat.beq pc 25 then some (11, 4, 0, 27) else none) else (bif Nat.blt pc 29 then (bif Nat.beq pc 27 then some (5, 4, 0, 29) else none) else (bif Nat.beq pc 29 then some (50, 51, 0, 32) else none)))))) else (bif Nat.blt pc 48 then (bif Nat.blt pc 40 then (bif Nat.blt pc 36 then (bif Nat.blt pc 33 then (bif Nat.beq pc 32 then some (8, 0, 0, 33) else none) else (bif Nat.beq pc 33 then some (33, 24, 0, 36) else none)) else (bif Nat.blt pc 38 then (bif Nat.beq pc 36 then some (5, 4, 0, 38) else none) else (bif Nat.blt pc 39 then (bif Nat.beq pc 38 then some (62, 0, 0, 39) else none) else (bif Nat.beq pc 39 then some (8, 0, 0, 40) else none)))) else (bif Nat.blt pc 45 then (bif Nat.blt pc 43 then (bif Nat.beq pc 40 then some (33, 21, 0, 43) else none) else (bif Nat.blt pc 44 then (bif Nat.beq pc 43 then some (4, 3, 0, 44) else none) else (bif Nat.beq pc 44 then some (62, 0, 0, 45) else none))) else (bif Nat.blt pc 46 then (bif Nat.beq pc 45 then some (0, 0, (-1), 46) else none) else (bif Nat.blt pc 47 then (bif Nat.beq pc 46 then some (22, 0, 0, 47) else none) else (bif Nat.beq pc 47 then some (20, 0, 0, 48) else none))))) else (bif Nat.blt pc 55 then (bif Nat.blt pc 52 then (bif Nat.blt pc 51 then (bif Nat.beq pc 48 then some (50, 57, 0, 51) else none) else (bif Nat.beq pc 51 then some (4, 2, 0, 52) else none)) else (bif Nat.blt pc 53 then (bif Nat.beq pc 52 then some (0, 0, 1, 53) else none) else (bif Nat.blt pc 54 then (bif Nat.beq pc 53 then some (4, 3, 0, 54) else none) else (bif Nat.beq pc 54 then some (23, 0, 0, 55) else none)))) else (bif Nat.blt pc 60 then (bif Nat.blt pc 56 then (bif Nat.beq pc 55 then some (21, 0, 0, 56) else none) else (bif Nat.blt pc 57 then (bif Nat.beq pc 56 then some (10, 2, 0, 57) else none) else (bif Nat.beq pc 57 then some (16, 3, 1, 60) else none))) else (bif Nat.blt pc 63 then (bif Nat.beq pc 60 then some (32, 4, 0, 63) else none) else (bif Nat.blt pc 64 then (bif Nat.beq pc 63 then some (4, 2, 0, 64) else none) else (bif Nat.beq pc 64 then some (83, 0, 0, 65) else none))))))))
def mX6_beginningsOf : em_Me := ((RX6, yX6_beginningsOf, cX6_beginningsOf, 5, (some .int)), iX6_beginningsOf, fX6, qX6)
theorem rX6_beginningsOf_0 : em_ckR RX6 cX6_beginningsOf iX6_beginningsOf 0 60 = true := by decide +kernel
theorem rX6_beginningsOf_1 : em_ckR RX6 cX6_beginningsOf iX6_beginningsOf 60 5 = true := by decide +kernel
theorem kX6_beginningsOf : em_ok mX6_beginningsOf := em_okM (N := 65) rfl (fun pc hpc q hq => if h0 : pc < 60 then em_ckR_at rX6_beginningsOf_0 (by omega) (by omega) hq else em_ckR_at rX6_beginningsOf_1 (by omega) (by omega) hq) fX6_ok qX6_ok
theorem tX6_beginningsOf : em_tV mX6_beginningsOf 1 6 := ⟨⟨em_in (k := 480) (by decide +kernel), em_in (k := 5) (by decide +kernel), ⟨by decide +kernel, by decide +kernel⟩, by decide +kernel, by decide +kernel⟩, em_in (k := 479) (by decide +kernel), _, rfl, List.mem_append_left _ (by decide +kernel)⟩
def iX6_placeByLowest : Nat → Option (Nat × Nat × Int32 × Nat) := em_tr 68 (fun pc => (bif Nat.blt pc 33 then (bif Nat.blt pc 14 then (bif Nat.blt pc 6 then (bif Nat.blt pc 2 then (bif Nat.blt pc 1 then (bif Nat.beq pc 0 then some (4, 1, 0, 1) else none) else (bif Nat.beq pc 1 then some (10, 3, 0, 2) else none)) else (bif Nat.blt pc 3 then (bif Nat.beq pc 2 then some (0, 0, 0, 3) else none) else (bif Nat.blt pc 5 then (bif Nat.beq pc 3 then some (11, 4, 0, 5) else none) else (bif Nat.beq pc 5 then some (0, 0, (-1), 6) else none)))) else (bif Nat.blt pc 9 then (bif Nat.blt pc 8 then (bif Nat.beq pc 6 then some (11, 5, 0, 8) else none) else (bif Nat.beq pc 8 then some (0, 0, 0, 9) else none)) else (bif Nat.blt pc 11 then (bif Nat.beq pc 9 then some (11, 6, 0, 11) else none) else (bif Nat.blt pc 13 then (bif Nat.beq pc 11 then some (5, 6, 0, 13) else none) else (bif Nat.beq pc 13 then some (4, 2, 0, 14) else none))))) else (bif Nat.blt pc 23 then (bif Nat.blt pc 18 then (bif Nat.blt pc 17 then (bif Nat.beq pc 14 then some (60, 65, 0, 17) else none) else (bif Nat.beq pc 17 then some (8, 0, 0, 18) else none)) else (bif Nat.blt pc 21 then (bif Nat.beq pc 18 then some (33, 24, 0, 21) else none) else (bif Nat.blt pc 22 then (bif Nat.beq pc 21 then some (4, 3, 0, 22) else none) else (bif Nat.beq pc 22 then some (62, 0, 0, 23) else none)))) else (bif Nat.blt pc 27 then (bif Nat.blt pc 25 then (bif Nat.beq pc 23 then some (5, 4, 0, 25) else none) else (bif Nat.blt pc 26 then (bif Nat.beq pc 25 then some (0, 0, (-1), 26) else none) else (bif Nat.beq pc 26 then some (22, 0, 0, 27) else none))) else (bif Nat.blt pc 28 then (bif Nat.beq pc 27 then some (20, 0, 0, 28) else none) else (bif Nat.blt pc 31 then (bif Nat.beq pc 28 then some (80, 106, 0, 31) else none) else (bif Nat.beq pc 31 then some (11, 5, 0, 33) else none)))))) else (bif Nat.blt pc 48 then (bif Nat.blt pc 41 then (bif Nat.blt pc 36 then (bif Nat.blt pc 35 then (bif Nat.beq pc 33 then some (5, 5, 0, 35) else none) else (bif Nat.beq pc 35 then some (0, 0, (-1), 36) else none)) else (bif Nat.blt pc 39 then (bif Nat.beq pc 36 then some (57, 41, 0, 39) else none) else (bif Nat.blt pc 40 then (bif Nat.beq pc 39 then some (0, 0, (-1), 40) else none) else (bif Nat.beq pc 40 then some (83, 0, 0, 41) else none)))) else (bif Nat.blt pc 45 then (bif Nat.blt pc 42 then (bif Nat.beq pc 41 then some (4, 3, 0, 42) else none) else (bif Nat.blt pc 43 then (bif Nat.beq pc 42 then some (0, 0, 1, 43) else none) else (bif Nat.beq pc 43 then some (5, 5, 0, 45) else none))) else (bif Nat.blt pc 46 then (bif Nat.beq pc 45 then some (23, 0, 0, 46) else none) else (bif Nat.blt pc 47 then (bif Nat.beq pc 46 then some (0, 0, (-1), 47) else none) else (bif Nat.beq pc 47 then some (22, 0, 0, 48) else none))))) else (bif Nat.blt pc 56 then (bif Nat.blt pc 50 then (bif Nat.blt pc 49 then (bif Nat.beq pc 48 then some (20, 0, 0, 49) else none) else (bif Nat.beq pc 49 then some (10, 3, 0, 50) else none)) else (bif Nat.blt pc 51 then (bif Nat.beq pc 50 then some (8, 0, 0, 51) else none) else (bif Nat.blt pc 54 then (bif Nat.beq pc 51 then some (33, 21, 0, 54) else none) else (bif Nat.beq pc 54 then some (5, 5, 0, 56) else none)))) else (bif Nat.blt pc 62 then (bif Nat.blt pc 57 then (bif Nat.beq pc 56 then some (62, 0, 0, 57) else none) else (bif Nat.blt pc 59 then (bif Nat.beq pc 57 then some (11, 4, 0, 59) else none) else (bif Nat.beq pc 59 then some (16, 6, 1, 62) else none))) else (bif Nat.blt pc 65 then (bif Nat.beq pc 62 then some (32, 11, 0, 65) else none) else (bif Nat.blt pc 67 then (bif Nat.beq pc 65 then some (5, 5, 0, 67) else none) else (bif Nat.beq pc 67 then some (83, 0, 0, 68) else none))))))))
def mX6_placeByLowest : em_Me := ((RX6, yX6_placeByLowest, cX6_placeByLowest, 7, (some .int)), iX6_placeByLowest, fX6, qX6)
theorem rX6_placeByLowest_0 : em_ckR RX6 cX6_placeByLowest iX6_placeByLowest 0 60 = true := by decide +kernel
theorem rX6_placeByLowest_1 : em_ckR RX6 cX6_placeByLowest iX6_placeByLowest 60 8 = true := by decide +kernel
theorem kX6_placeByLowest : em_ok mX6_placeByLowest := em_okM (N := 68) rfl (fun pc hpc q hq => if h0 : pc < 60 then em_ckR_at rX6_placeByLowest_0 (by omega) (by omega) hq else em_ckR_at rX6_placeByLowest_1 (by omega) (by omega) hq) fX6_ok qX6_ok
theorem tX6_placeByLowest : em_tV mX6_placeByLowest 2 6 := ⟨⟨em_in (k := 484) (by decide +kernel), em_in (k := 5) (by decide +kernel), ⟨by decide +kernel, by decide +kernel⟩, by decide +kernel, by decide +kernel⟩, em_in (k := 483) (by decide +kernel), _, rfl, List.mem_append_left _ (by decide +kernel)⟩
def iX6_lowest : Nat → Option (Nat × Nat × Int32 × Nat) := em_tr 26 (fun pc => (bif Nat.blt pc 10 then (bif Nat.blt pc 3 then (bif Nat.blt pc 1 then (bif Nat.beq pc 0 then some (0, 0, 0, 1) else none) else (bif Nat.blt pc 2 then (bif Nat.beq pc 1 then some (10, 1, 0, 2) else none) else (bif Nat.beq pc 2 then some (4, 1, 0, 3) else none))) else (bif Nat.blt pc 8 then (bif Nat.blt pc 5 then (bif Nat.beq pc 3 then some (1, 0, 8, 5) else none) else (bif Nat.beq pc 5 then some (59, 24, 0, 8) else none)) else (bif Nat.blt pc 9 then (bif Nat.beq pc 8 then some (4, 0, 0, 9) else none) else (bif Nat.beq pc 9 then some (4, 1, 0, 10) else none)))) else (bif Nat.blt pc 18 then (bif Nat.blt pc 16 then (bif Nat.blt pc 13 then (bif Nat.beq pc 10 then some (80, 60, 0, 13) else none) else (bif Nat.beq pc 13 then some (50, 18, 0, 16) else none)) else (bif Nat.blt pc 17 then (bif Nat.beq pc 16 then some (4, 1, 0, 17) else none) else (bif Nat.beq pc 17 then some (83, 0, 0, 18) else none))) else (bif Nat.blt pc 24 then (bif Nat.blt pc 21 then (bif Nat.beq pc 18 then some (16, 1, 1, 21) else none) else (bif Nat.beq pc 21 then some (32, 2, 0, 24) else none)) else (bif Nat.blt pc 25 then (bif Nat.beq pc 24 then some (0, 0, (-1), 25) else none) else (bif Nat.beq pc 25 then some (83, 0, 0, 26) else none))))))
def mX6_lowest : em_Me := ((RX6, yX6_lowest, cX6_lowest, 2, (some .int)), iX6_lowest, fX6, qX6)
theorem rX6_lowest_0 : em_ckR RX6 cX6_lowest iX6_lowest 0 26 = true := by decide +kernel
theorem kX6_lowest : em_ok mX6_lowest := em_okM (N := 26) rfl (fun pc hpc q hq => em_ckR_at rX6_lowest_0 (by omega) (by omega) hq) fX6_ok qX6_ok
theorem tX6_lowest : em_tS mX6_lowest 1 := ⟨⟨em_in (k := 487) (by decide +kernel), em_in (k := 5) (by decide +kernel), ⟨by decide +kernel, by decide +kernel⟩, by decide +kernel, by decide +kernel⟩, em_in (k := 486) (by decide +kernel)⟩
def iX7_init : Nat → Option (Nat × Nat × Int32 × Nat) := em_tr 122 (fun pc => (bif Nat.blt pc 63 then (bif Nat.blt pc 30 then (bif Nat.blt pc 15 then (bif Nat.blt pc 5 then (bif Nat.blt pc 1 then (bif Nat.beq pc 0 then some (8, 0, 0, 1) else none) else (bif Nat.blt pc 4 then (bif Nat.beq pc 1 then some (82, 1, 0, 4) else none) else (bif Nat.beq pc 4 then some (8, 0, 0, 5) else none))) else (bif Nat.blt pc 9 then (bif Nat.blt pc 8 then (bif Nat.beq pc 5 then some (75, 7, 0, 8) else none) else (bif Nat.beq pc 8 then some (30, 0, 0, 9) else none)) else (bif Nat.blt pc 12 then (bif Nat.beq pc 9 then some (82, 9, 0, 12) else none) else (bif Nat.beq pc 12 then some (74, 10, 0, 15) else none)))) else (bif Nat.blt pc 20 then (bif Nat.blt pc 16 then (bif Nat.beq pc 15 then some (8, 0, 0, 16) else none) else (bif Nat.blt pc 19 then (bif Nat.beq pc 16 then some (75, 16, 0, 19) else none) else (bif Nat.beq pc 19 then some (30, 0, 0, 20) else none))) else (bif Nat.blt pc 26 then (bif Nat.blt pc 23 then (bif Nat.beq pc 20 then some (82, 18, 0, 23) else none) else (bif Nat.beq pc 23 then some (74, 19, 0, 26) else none)) else (bif Nat.blt pc 27 then (bif Nat.beq pc 26 then some (8, 0, 0, 27) else none) else (bif Nat.beq pc 27 then some (75, 23, 0, 30) else none))))) else (bif Nat.blt pc 45 then (bif Nat.blt pc 35 then (bif Nat.blt pc 31 then (bif Nat.beq pc 30 then some (30, 0, 0, 31) else none) else (bif Nat.blt pc 32 then (bif Nat.beq pc 31 then some (8, 0, 0, 32) else none) else (bif Nat.beq pc 32 then some (33, 10, 0, 35) else none))) else (bif Nat.blt pc 41 then (bif Nat.blt pc 38 then (bif Nat.beq pc 35 then some (82, 25, 0, 38) else none) else (bif Nat.beq pc 38 then some (74, 28, 0, 41) else none)) else (bif Nat.blt pc 42 then (bif Nat.beq pc 41 then some (8, 0, 0, 42) else none) else (bif Nat.beq pc 42 then some (75, 32, 0, 45) else none)))) else (bif Nat.blt pc 53 then (bif Nat.blt pc 49 then (bif Nat.blt pc 46 then (bif Nat.beq pc 45 then some (30, 0, 0, 46) else none) else (bif Nat.beq pc 46 then some (82, 34, 0, 49) else none)) else (bif Nat.blt pc 52 then (bif Nat.beq pc 49 then some (74, 35, 0, 52) else none) else (bif Nat.beq pc 52 then some (8, 0, 0, 53) else none))) else (bif Nat.blt pc 57 then (bif Nat.blt pc 56 then (bif Nat.beq pc 53 then some (75, 39, 0, 56) else none) else (bif Nat.beq pc 56 then some (30, 0, 0, 57) else none)) else (bif Nat.blt pc 60 then (bif Nat.beq pc 57 then some (82, 41, 0, 60) else none) else (bif Nat.beq pc 60 then some (74, 42, 0, 63) else none)))))) else (bif Nat.blt pc 89 then (bif Nat.blt pc 75 then (bif Nat.blt pc 69 then (bif Nat.blt pc 64 then (bif Nat.beq pc 63 then some (8, 0, 0, 64) else none) else (bif Nat.blt pc 66 then (bif Nat.beq pc 64 then some (1, 0, 8, 66) else none) else (bif Nat.beq pc 66 then some (79, 46, 0, 69) else none))) else (bif Nat.blt pc 73 then (bif Nat.blt pc 72 then (bif Nat.beq pc 69 then some (74, 48, 0, 72) else none) else (bif Nat.beq pc 72 then some (0, 0, 0, 73) else none)) else (bif Nat.blt pc 74 then (bif Nat.beq pc 73 then some (10, 1, 0, 74) else none) else (bif Nat.beq pc 74 then some (4, 1, 0, 75) else none)))) else (bif Nat.blt pc 81 then (bif Nat.blt pc 77 then (bif Nat.beq pc 75 then some (1, 0, 8, 77) else none) else (bif Nat.blt pc 80 then (bif Nat.beq pc 77 then some (59, 99, 0, 80) else none) else (bif Nat.beq pc 80 then some (8, 0, 0, 81) else none))) else (bif Nat.blt pc 85 then (bif Nat.blt pc 84 then (bif Nat.beq pc 81 then some (33, 48, 0, 84) else none) else (bif Nat.beq pc 84 then some (4, 1, 0, 85) else none)) else (bif Nat.blt pc 88 then (bif Nat.beq pc 85 then some (75, 46, 0, 88) else none) else (bif Nat.beq pc 88 then some (30, 0, 0, 89) else none))))) else (bif Nat.blt pc 104 then (bif Nat.blt pc 96 then (bif Nat.blt pc 92 then (bif Nat.beq pc 89 then some (82, 52, 0, 92) else none) else (bif Nat.blt pc 93 then (bif Nat.beq pc 92 then some (69, 0, 0, 93) else none) else (bif Nat.beq pc 93 then some (16, 1, 1, 96) else none))) else (bif Nat.blt pc 100 then (bif Nat.blt pc 99 then (bif Nat.beq pc 96 then some (32, 74, 0, 99) else none) else (bif Nat.beq pc 99 then some (8, 0, 0, 100) else none)) else (bif Nat.blt pc 103 then (bif Nat.beq pc 100 then some (75, 46, 0, 103) else none) else (bif Nat.beq pc 103 then some (30, 0, 0, 104) else none)))) else (bif Nat.blt pc 114 then (bif Nat.blt pc 110 then (bif Nat.blt pc 107 then (bif Nat.beq pc 104 then some (82, 52, 0, 107) else none) else (bif Nat.beq pc 107 then some (74, 53, 0, 110) else none)) else (bif Nat.blt pc 111 then (bif Nat.beq pc 110 then some (8, 0, 0, 111) else none) else (bif Nat.beq pc 111 then some (75, 57, 0, 114) else none))) else (bif Nat.blt pc 118 then (bif Nat.blt pc 115 then (bif Nat.beq pc 114 then some (30, 0, 0, 115) else none) else (bif Nat.beq pc 115 then some (82, 59, 0, 118) else none)) else (bif Nat.blt pc 121 then (bif Nat.beq pc 118 then some (74, 60, 0, 121) else none) else (bif Nat.beq pc 121 then some (86, 0, 0, 122) else none))))))))
def mX7_init : em_Me := ((RX7, yX7_init, cX7_init, 2, none), iX7_init, fX7, qX7)
theorem rX7_init_0 : em_ckR RX7 cX7_init iX7_init 0 60 = true := by decide +kernel
theorem rX7_init_1 : em_ckR RX7 cX7_init iX7_init 60 60 = true := by decide +kernel
theorem rX7_init_2 : em_ckR RX7 cX7_init iX7_init 120 2 = true := by decide +kernel
theorem kX7_init : em_ok mX7_init := em_okM (N := 122) rfl (fun pc hpc q hq => if h0 : pc < 60 then em_ckR_at rX7_init_0 (by omega) (by omega) hq else if h1 : pc < 120 then em_ckR_at rX7_init_1 (by omega) (by omega) hq else em_ckR_at rX7_init_2 (by omega) (by omega) hq) fX7_ok qX7_ok
theorem tX7_init : em_tI mX7_init 0 := ⟨⟨em_in (k := 22) (by decide +kernel), em_in (k := 1) (by decide +kernel), ⟨by decide +kernel, by decide +kernel⟩, by decide +kernel, by decide +kernel⟩, em_in (k := 21) (by decide +kernel), rfl, rfl⟩
def iX7_kind : Nat → Option (Nat × Nat × Int32 × Nat) := em_tr 56 (fun pc => (bif Nat.blt pc 30 then (bif Nat.blt pc 14 then (bif Nat.blt pc 7 then (bif Nat.blt pc 1 then (bif Nat.beq pc 0 then some (4, 1, 0, 1) else none) else (bif Nat.blt pc 4 then (bif Nat.beq pc 1 then some (80, 64, 0, 4) else none) else (bif Nat.beq pc 4 then some (50, 28, 0, 7) else none))) else (bif Nat.blt pc 9 then (bif Nat.blt pc 8 then (bif Nat.beq pc 7 then some (4, 2, 0, 8) else none) else (bif Nat.beq pc 8 then some (0, 0, 0, 9) else none)) else (bif Nat.blt pc 11 then (bif Nat.beq pc 9 then some (1, 0, 100, 11) else none) else (bif Nat.beq pc 11 then some (80, 68, 0, 14) else none)))) else (bif Nat.blt pc 22 then (bif Nat.blt pc 18 then (bif Nat.blt pc 17 then (bif Nat.beq pc 14 then some (50, 28, 0, 17) else none) else (bif Nat.beq pc 17 then some (4, 3, 0, 18) else none)) else (bif Nat.blt pc 19 then (bif Nat.beq pc 18 then some (0, 0, 1, 19) else none) else (bif Nat.beq pc 19 then some (2, 0, 1000, 22) else none))) else (bif Nat.blt pc 28 then (bif Nat.blt pc 25 then (bif Nat.beq pc 22 then some (80, 68, 0, 25) else none) else (bif Nat.beq pc 25 then some (51, 30, 0, 28) else none)) else (bif Nat.blt pc 29 then (bif Nat.beq pc 28 then some (0, 0, 0, 29) else none) else (bif Nat.beq pc 29 then some (83, 0, 0, 30) else none))))) else (bif Nat.blt pc 44 then (bif Nat.blt pc 36 then (bif Nat.blt pc 34 then (bif Nat.blt pc 31 then (bif Nat.beq pc 30 then some (8, 0, 0, 31) else none) else (bif Nat.beq pc 31 then some (33, 28, 0, 34) else none)) else (bif Nat.blt pc 35 then (bif Nat.beq pc 34 then some (4, 1, 0, 35) else none) else (bif Nat.beq pc 35 then some (4, 3, 0, 36) else none))) else (bif Nat.blt pc 42 then (bif Nat.blt pc 39 then (bif Nat.beq pc 36 then some (81, 72, 0, 39) else none) else (bif Nat.beq pc 39 then some (51, 44, 0, 42) else none)) else (bif Nat.blt pc 43 then (bif Nat.beq pc 42 then some (0, 0, 0, 43) else none) else (bif Nat.beq pc 43 then some (83, 0, 0, 44) else none)))) else (bif Nat.blt pc 50 then (bif Nat.blt pc 48 then (bif Nat.blt pc 45 then (bif Nat.beq pc 44 then some (8, 0, 0, 45) else none) else (bif Nat.beq pc 45 then some (33, 10, 0, 48) else none)) else (bif Nat.blt pc 49 then (bif Nat.beq pc 48 then some (4, 1, 0, 49) else none) else (bif Nat.beq pc 49 then some (4, 2, 0, 50) else none))) else (bif Nat.blt pc 54 then (bif Nat.blt pc 51 then (bif Nat.beq pc 50 then some (4, 3, 0, 51) else none) else (bif Nat.beq pc 51 then some (81, 76, 0, 54) else none)) else (bif Nat.blt pc 55 then (bif Nat.beq pc 54 then some (0, 0, 1, 55) else none) else (bif Nat.beq pc 55 then some (83, 0, 0, 56) else none)))))))
def mX7_kind : em_Me := ((RX7, yX7_kind, cX7_kind, 4, (some .boolean)), iX7_kind, fX7, qX7)
theorem rX7_kind_0 : em_ckR RX7 cX7_kind iX7_kind 0 56 = true := by decide +kernel
theorem kX7_kind : em_ok mX7_kind := em_okM (N := 56) rfl (fun pc hpc q hq => em_ckR_at rX7_kind_0 (by omega) (by omega) hq) fX7_ok qX7_ok
theorem tX7_kind : em_tV mX7_kind 3 7 := ⟨⟨em_in (k := 248) (by decide +kernel), em_in (k := 1) (by decide +kernel), ⟨by decide +kernel, by decide +kernel⟩, by decide +kernel, by decide +kernel⟩, em_in (k := 246) (by decide +kernel), _, rfl, em_in (k := 247) (by decide +kernel)⟩
def iX7_beast : Nat → Option (Nat × Nat × Int32 × Nat) := em_tr 10 (fun pc => (bif Nat.blt pc 5 then (bif Nat.blt pc 1 then (bif Nat.beq pc 0 then some (8, 0, 0, 1) else none) else (bif Nat.blt pc 4 then (bif Nat.beq pc 1 then some (33, 10, 0, 4) else none) else (bif Nat.beq pc 4 then some (4, 1, 0, 5) else none))) else (bif Nat.blt pc 6 then (bif Nat.beq pc 5 then some (4, 2, 0, 6) else none) else (bif Nat.blt pc 9 then (bif Nat.beq pc 6 then some (81, 80, 0, 9) else none) else (bif Nat.beq pc 9 then some (83, 0, 0, 10) else none)))))
def mX7_beast : em_Me := ((RX7, yX7_beast, cX7_beast, 3, (some .int)), iX7_beast, fX7, qX7)
theorem rX7_beast_0 : em_ckR RX7 cX7_beast iX7_beast 0 10 = true := by decide +kernel
theorem kX7_beast : em_ok mX7_beast := em_okM (N := 10) rfl (fun pc hpc q hq => em_ckR_at rX7_beast_0 (by omega) (by omega) hq) fX7_ok qX7_ok
theorem tX7_beast : em_tV mX7_beast 2 7 := ⟨⟨em_in (k := 288) (by decide +kernel), em_in (k := 1) (by decide +kernel), ⟨by decide +kernel, by decide +kernel⟩, by decide +kernel, by decide +kernel⟩, em_in (k := 286) (by decide +kernel), _, rfl, em_in (k := 287) (by decide +kernel)⟩
def iX7_gone : Nat → Option (Nat × Nat × Int32 × Nat) := em_tr 10 (fun pc => (bif Nat.blt pc 5 then (bif Nat.blt pc 1 then (bif Nat.beq pc 0 then some (8, 0, 0, 1) else none) else (bif Nat.blt pc 4 then (bif Nat.beq pc 1 then some (33, 10, 0, 4) else none) else (bif Nat.beq pc 4 then some (4, 1, 0, 5) else none))) else (bif Nat.blt pc 6 then (bif Nat.beq pc 5 then some (4, 2, 0, 6) else none) else (bif Nat.blt pc 9 then (bif Nat.beq pc 6 then some (81, 84, 0, 9) else none) else (bif Nat.beq pc 9 then some (83, 0, 0, 10) else none)))))
def mX7_gone : em_Me := ((RX7, yX7_gone, cX7_gone, 3, (some .boolean)), iX7_gone, fX7, qX7)
theorem rX7_gone_0 : em_ckR RX7 cX7_gone iX7_gone 0 10 = true := by decide +kernel
theorem kX7_gone : em_ok mX7_gone := em_okM (N := 10) rfl (fun pc hpc q hq => em_ckR_at rX7_gone_0 (by omega) (by omega) hq) fX7_ok qX7_ok
theorem tX7_gone : em_tV mX7_gone 2 7 := ⟨⟨em_in (k := 300) (by decide +kernel), em_in (k := 1) (by decide +kernel), ⟨by decide +kernel, by decide +kernel⟩, by decide +kernel, by decide +kernel⟩, em_in (k := 298) (by decide +kernel), _, rfl, em_in (k := 299) (by decide +kernel)⟩
def iX7_here : Nat → Option (Nat × Nat × Int32 × Nat) := em_tr 11 (fun pc => (bif Nat.blt pc 5 then (bif Nat.blt pc 1 then (bif Nat.beq pc 0 then some (8, 0, 0, 1) else none) else (bif Nat.blt pc 4 then (bif Nat.beq pc 1 then some (33, 10, 0, 4) else none) else (bif Nat.beq pc 4 then some (4, 1, 0, 5) else none))) else (bif Nat.blt pc 7 then (bif Nat.blt pc 6 then (bif Nat.beq pc 5 then some (4, 2, 0, 6) else none) else (bif Nat.beq pc 6 then some (4, 3, 0, 7) else none)) else (bif Nat.blt pc 10 then (bif Nat.beq pc 7 then some (81, 87, 0, 10) else none) else (bif Nat.beq pc 10 then some (83, 0, 0, 11) else none)))))
def mX7_here : em_Me := ((RX7, yX7_here, cX7_here, 4, (some .boolean)), iX7_here, fX7, qX7)
theorem rX7_here_0 : em_ckR RX7 cX7_here iX7_here 0 11 = true := by decide +kernel
theorem kX7_here : em_ok mX7_here := em_okM (N := 11) rfl (fun pc hpc q hq => em_ckR_at rX7_here_0 (by omega) (by omega) hq) fX7_ok qX7_ok
theorem tX7_here : em_tV mX7_here 3 7 := ⟨⟨em_in (k := 308) (by decide +kernel), em_in (k := 1) (by decide +kernel), ⟨by decide +kernel, by decide +kernel⟩, by decide +kernel, by decide +kernel⟩, em_in (k := 306) (by decide +kernel), _, rfl, em_in (k := 307) (by decide +kernel)⟩
def iX7_ration : Nat → Option (Nat × Nat × Int32 × Nat) := em_tr 10 (fun pc => (bif Nat.blt pc 5 then (bif Nat.blt pc 1 then (bif Nat.beq pc 0 then some (8, 0, 0, 1) else none) else (bif Nat.blt pc 4 then (bif Nat.beq pc 1 then some (33, 10, 0, 4) else none) else (bif Nat.beq pc 4 then some (4, 1, 0, 5) else none))) else (bif Nat.blt pc 6 then (bif Nat.beq pc 5 then some (4, 2, 0, 6) else none) else (bif Nat.blt pc 9 then (bif Nat.beq pc 6 then some (81, 90, 0, 9) else none) else (bif Nat.beq pc 9 then some (83, 0, 0, 10) else none)))))
def mX7_ration : em_Me := ((RX7, yX7_ration, cX7_ration, 3, (some .int)), iX7_ration, fX7, qX7)
theorem rX7_ration_0 : em_ckR RX7 cX7_ration iX7_ration 0 10 = true := by decide +kernel
theorem kX7_ration : em_ok mX7_ration := em_okM (N := 10) rfl (fun pc hpc q hq => em_ckR_at rX7_ration_0 (by omega) (by omega) hq) fX7_ok qX7_ok
theorem tX7_ration : em_tV mX7_ration 2 7 := ⟨⟨em_in (k := 324) (by decide +kernel), em_in (k := 1) (by decide +kernel), ⟨by decide +kernel, by decide +kernel⟩, by decide +kernel, by decide +kernel⟩, em_in (k := 322) (by decide +kernel), _, rfl, em_in (k := 323) (by decide +kernel)⟩
def iX7_day : Nat → Option (Nat × Nat × Int32 × Nat) := em_tr 51 (fun pc => (bif Nat.blt pc 26 then (bif Nat.blt pc 14 then (bif Nat.blt pc 7 then (bif Nat.blt pc 1 then (bif Nat.beq pc 0 then some (8, 0, 0, 1) else none) else (bif Nat.blt pc 4 then (bif Nat.beq pc 1 then some (33, 10, 0, 4) else none) else (bif Nat.beq pc 4 then some (81, 93, 0, 7) else none))) else (bif Nat.blt pc 10 then (bif Nat.beq pc 7 then some (2, 0, 400, 10) else none) else (bif Nat.blt pc 13 then (bif Nat.beq pc 10 then some (58, 15, 0, 13) else none) else (bif Nat.beq pc 13 then some (0, 0, (-1), 14) else none)))) else (bif Nat.blt pc 19 then (bif Nat.blt pc 15 then (bif Nat.beq pc 14 then some (83, 0, 0, 15) else none) else (bif Nat.blt pc 16 then (bif Nat.beq pc 15 then some (8, 0, 0, 16) else none) else (bif Nat.beq pc 16 then some (33, 19, 0, 19) else none))) else (bif Nat.blt pc 20 then (bif Nat.beq pc 19 then some (8, 0, 0, 20) else none) else (bif Nat.blt pc 23 then (bif Nat.beq pc 20 then some (33, 10, 0, 23) else none) else (bif Nat.beq pc 23 then some (81, 93, 0, 26) else none))))) else (bif Nat.blt pc 38 then (bif Nat.blt pc 33 then (bif Nat.blt pc 27 then (bif Nat.beq pc 26 then some (8, 0, 0, 27) else none) else (bif Nat.blt pc 30 then (bif Nat.beq pc 27 then some (33, 10, 0, 30) else none) else (bif Nat.beq pc 30 then some (81, 97, 0, 33) else none))) else (bif Nat.blt pc 36 then (bif Nat.beq pc 33 then some (81, 101, 0, 36) else none) else (bif Nat.blt pc 37 then (bif Nat.beq pc 36 then some (10, 1, 0, 37) else none) else (bif Nat.beq pc 37 then some (4, 1, 0, 38) else none)))) else (bif Nat.blt pc 43 then (bif Nat.blt pc 39 then (bif Nat.beq pc 38 then some (0, 0, (-1), 39) else none) else (bif Nat.blt pc 42 then (bif Nat.beq pc 39 then some (56, 49, 0, 42) else none) else (bif Nat.beq pc 42 then some (8, 0, 0, 43) else none))) else (bif Nat.blt pc 49 then (bif Nat.blt pc 46 then (bif Nat.beq pc 43 then some (33, 10, 0, 46) else none) else (bif Nat.beq pc 46 then some (81, 105, 0, 49) else none)) else (bif Nat.blt pc 50 then (bif Nat.beq pc 49 then some (4, 1, 0, 50) else none) else (bif Nat.beq pc 50 then some (83, 0, 0, 51) else none)))))))
def mX7_day : em_Me := ((RX7, yX7_day, cX7_day, 2, (some .int)), iX7_day, fX7, qX7)
theorem rX7_day_0 : em_ckR RX7 cX7_day iX7_day 0 51 = true := by decide +kernel
theorem kX7_day : em_ok mX7_day := em_okM (N := 51) rfl (fun pc hpc q hq => em_ckR_at rX7_day_0 (by omega) (by omega) hq) fX7_ok qX7_ok
theorem tX7_day : em_tV mX7_day 0 7 := ⟨⟨em_in (k := 332) (by decide +kernel), em_in (k := 1) (by decide +kernel), ⟨by decide +kernel, by decide +kernel⟩, by decide +kernel, by decide +kernel⟩, em_in (k := 330) (by decide +kernel), _, rfl, em_in (k := 331) (by decide +kernel)⟩
def iX7_line : Nat → Option (Nat × Nat × Int32 × Nat) := em_tr 10 (fun pc => (bif Nat.blt pc 5 then (bif Nat.blt pc 1 then (bif Nat.beq pc 0 then some (8, 0, 0, 1) else none) else (bif Nat.blt pc 4 then (bif Nat.beq pc 1 then some (33, 19, 0, 4) else none) else (bif Nat.beq pc 4 then some (4, 1, 0, 5) else none))) else (bif Nat.blt pc 6 then (bif Nat.beq pc 5 then some (4, 2, 0, 6) else none) else (bif Nat.blt pc 9 then (bif Nat.beq pc 6 then some (81, 108, 0, 9) else none) else (bif Nat.beq pc 9 then some (83, 0, 0, 10) else none)))))
def mX7_line : em_Me := ((RX7, yX7_line, cX7_line, 3, (some .int)), iX7_line, fX7, qX7)
theorem rX7_line_0 : em_ckR RX7 cX7_line iX7_line 0 10 = true := by decide +kernel
theorem kX7_line : em_ok mX7_line := em_okM (N := 10) rfl (fun pc hpc q hq => em_ckR_at rX7_line_0 (by omega) (by omega) hq) fX7_ok qX7_ok
theorem tX7_line : em_tV mX7_line 2 7 := ⟨⟨em_in (k := 385) (by decide +kernel), em_in (k := 1) (by decide +kernel), ⟨by decide +kernel, by decide +kernel⟩, by decide +kernel, by decide +kernel⟩, em_in (k := 383) (by decide +kernel), _, rfl, em_in (k := 384) (by decide +kernel)⟩
def iX7_booked : Nat → Option (Nat × Nat × Int32 × Nat) := em_tr 9 (fun pc => (bif Nat.blt pc 4 then (bif Nat.blt pc 1 then (bif Nat.beq pc 0 then some (8, 0, 0, 1) else none) else (bif Nat.beq pc 1 then some (33, 19, 0, 4) else none)) else (bif Nat.blt pc 5 then (bif Nat.beq pc 4 then some (4, 1, 0, 5) else none) else (bif Nat.blt pc 8 then (bif Nat.beq pc 5 then some (81, 111, 0, 8) else none) else (bif Nat.beq pc 8 then some (83, 0, 0, 9) else none)))))
def mX7_booked : em_Me := ((RX7, yX7_booked, cX7_booked, 2, (some .int)), iX7_booked, fX7, qX7)
theorem rX7_booked_0 : em_ckR RX7 cX7_booked iX7_booked 0 9 = true := by decide +kernel
theorem kX7_booked : em_ok mX7_booked := em_okM (N := 9) rfl (fun pc hpc q hq => em_ckR_at rX7_booked_0 (by omega) (by omega) hq) fX7_ok qX7_ok
theorem tX7_booked : em_tV mX7_booked 1 7 := ⟨⟨em_in (k := 395) (by decide +kernel), em_in (k := 1) (by decide +kernel), ⟨by decide +kernel, by decide +kernel⟩, by decide +kernel, by decide +kernel⟩, em_in (k := 393) (by decide +kernel), _, rfl, em_in (k := 394) (by decide +kernel)⟩
def iX7_load : Nat → Option (Nat × Nat × Int32 × Nat) := em_tr 10 (fun pc => (bif Nat.blt pc 5 then (bif Nat.blt pc 1 then (bif Nat.beq pc 0 then some (8, 0, 0, 1) else none) else (bif Nat.blt pc 4 then (bif Nat.beq pc 1 then some (33, 28, 0, 4) else none) else (bif Nat.beq pc 4 then some (4, 1, 0, 5) else none))) else (bif Nat.blt pc 6 then (bif Nat.beq pc 5 then some (4, 2, 0, 6) else none) else (bif Nat.blt pc 9 then (bif Nat.beq pc 6 then some (81, 115, 0, 9) else none) else (bif Nat.beq pc 9 then some (83, 0, 0, 10) else none)))))
def mX7_load : em_Me := ((RX7, yX7_load, cX7_load, 3, (some .boolean)), iX7_load, fX7, qX7)
theorem rX7_load_0 : em_ckR RX7 cX7_load iX7_load 0 10 = true := by decide +kernel
theorem kX7_load : em_ok mX7_load := em_okM (N := 10) rfl (fun pc hpc q hq => em_ckR_at rX7_load_0 (by omega) (by omega) hq) fX7_ok qX7_ok
theorem tX7_load : em_tV mX7_load 2 7 := ⟨⟨em_in (k := 403) (by decide +kernel), em_in (k := 1) (by decide +kernel), ⟨by decide +kernel, by decide +kernel⟩, by decide +kernel, by decide +kernel⟩, em_in (k := 401) (by decide +kernel), _, rfl, em_in (k := 402) (by decide +kernel)⟩
def iX7_bar : Nat → Option (Nat × Nat × Int32 × Nat) := em_tr 11 (fun pc => (bif Nat.blt pc 5 then (bif Nat.blt pc 1 then (bif Nat.beq pc 0 then some (8, 0, 0, 1) else none) else (bif Nat.blt pc 4 then (bif Nat.beq pc 1 then some (33, 28, 0, 4) else none) else (bif Nat.beq pc 4 then some (4, 1, 0, 5) else none))) else (bif Nat.blt pc 7 then (bif Nat.blt pc 6 then (bif Nat.beq pc 5 then some (4, 2, 0, 6) else none) else (bif Nat.beq pc 6 then some (4, 3, 0, 7) else none)) else (bif Nat.blt pc 10 then (bif Nat.beq pc 7 then some (81, 118, 0, 10) else none) else (bif Nat.beq pc 10 then some (83, 0, 0, 11) else none)))))
def mX7_bar : em_Me := ((RX7, yX7_bar, cX7_bar, 4, (some .boolean)), iX7_bar, fX7, qX7)
theorem rX7_bar_0 : em_ckR RX7 cX7_bar iX7_bar 0 11 = true := by decide +kernel
theorem kX7_bar : em_ok mX7_bar := em_okM (N := 11) rfl (fun pc hpc q hq => em_ckR_at rX7_bar_0 (by omega) (by omega) hq) fX7_ok qX7_ok
theorem tX7_bar : em_tV mX7_bar 3 7 := ⟨⟨em_in (k := 417) (by decide +kernel), em_in (k := 1) (by decide +kernel), ⟨by decide +kernel, by decide +kernel⟩, by decide +kernel, by decide +kernel⟩, em_in (k := 415) (by decide +kernel), _, rfl, em_in (k := 416) (by decide +kernel)⟩
def iX7_wagon : Nat → Option (Nat × Nat × Int32 × Nat) := em_tr 77 (fun pc => (bif Nat.blt pc 50 then (bif Nat.blt pc 12 then (bif Nat.blt pc 4 then (bif Nat.blt pc 1 then (bif Nat.beq pc 0 then some (4, 1, 0, 1) else none) else (bif Nat.blt pc 2 then (bif Nat.beq pc 1 then some (0, 0, 0, 2) else none) else (bif Nat.beq pc 2 then some (1, 0, 7, 4) else none))) else (bif Nat.blt pc 10 then (bif Nat.blt pc 7 then (bif Nat.beq pc 4 then some (80, 68, 0, 7) else none) else (bif Nat.beq pc 7 then some (51, 12, 0, 10) else none)) else (bif Nat.blt pc 11 then (bif Nat.beq pc 10 then some (0, 0, (-1), 11) else none) else (bif Nat.beq pc 11 then some (83, 0, 0, 12) else none)))) else (bif Nat.blt pc 44 then (bif Nat.blt pc 40 then (bif Nat.beq pc 12 then some (4, 2, 0, 13) else none) else (bif Nat.blt pc 41 then (bif Nat.beq pc 40 then some (8, 0, 0, 41) else none) else (bif Nat.beq pc 41 then some (33, 28, 0, 44) else none))) else (bif Nat.blt pc 48 then (bif Nat.blt pc 45 then (bif Nat.beq pc 44 then some (4, 1, 0, 45) else none) else (bif Nat.beq pc 45 then some (81, 122, 0, 48) else none)) else (bif Nat.blt pc 49 then (bif Nat.beq pc 48 then some (83, 0, 0, 49) else none) else (bif Nat.beq pc 49 then some (8, 0, 0, 50) else none))))) else (bif Nat.blt pc 63 then (bif Nat.blt pc 57 then (bif Nat.blt pc 53 then (bif Nat.beq pc 50 then some (33, 28, 0, 53) else none) else (bif Nat.blt pc 54 then (bif Nat.beq pc 53 then some (4, 1, 0, 54) else none) else (bif Nat.beq pc 54 then some (81, 125, 0, 57) else none))) else (bif Nat.blt pc 59 then (bif Nat.blt pc 58 then (bif Nat.beq pc 57 then some (83, 0, 0, 58) else none) else (bif Nat.beq pc 58 then some (8, 0, 0, 59) else none)) else (bif Nat.blt pc 62 then (bif Nat.beq pc 59 then some (33, 28, 0, 62) else none) else (bif Nat.beq pc 62 then some (4, 1, 0, 63) else none)))) else (bif Nat.blt pc 73 then (bif Nat.blt pc 69 then (bif Nat.blt pc 66 then (bif Nat.beq pc 63 then some (81, 128, 0, 66) else none) else (bif Nat.beq pc 66 then some (50, 73, 0, 69) else none)) else (bif Nat.blt pc 70 then (bif Nat.beq pc 69 then some (0, 0, 1, 70) else none) else (bif Nat.beq pc 70 then some (32, 74, 0, 73) else none))) else (bif Nat.blt pc 75 then (bif Nat.blt pc 74 then (bif Nat.beq pc 73 then some (0, 0, 0, 74) else none) else (bif Nat.beq pc 74 then some (83, 0, 0, 75) else none)) else (bif Nat.blt pc 76 then (bif Nat.beq pc 75 then some (0, 0, (-1), 76) else none) else (bif Nat.beq pc 76 then some (83, 0, 0, 77) else none)))))))
def mX7_wagon : em_Me := ((RX7, yX7_wagon, cX7_wagon, 3, (some .int)), iX7_wagon, fX7, qX7)
theorem rX7_wagon_0 : em_ckR RX7 cX7_wagon iX7_wagon 0 60 = true := by decide +kernel
theorem rX7_wagon_1 : em_ckR RX7 cX7_wagon iX7_wagon 60 17 = true := by decide +kernel
theorem kX7_wagon : em_ok mX7_wagon := em_okM (N := 77) rfl (fun pc hpc q hq => if h0 : pc < 60 then em_ckR_at rX7_wagon_0 (by omega) (by omega) hq else em_ckR_at rX7_wagon_1 (by omega) (by omega) hq) fX7_ok qX7_ok
theorem tX7_wagon : em_tV mX7_wagon 2 7 := ⟨⟨em_in (k := 429) (by decide +kernel), em_in (k := 1) (by decide +kernel), ⟨by decide +kernel, by decide +kernel⟩, by decide +kernel, by decide +kernel⟩, em_in (k := 427) (by decide +kernel), _, rfl, em_in (k := 428) (by decide +kernel)⟩
def iX7_order : Nat → Option (Nat × Nat × Int32 × Nat) := em_tr 9 (fun pc => (bif Nat.blt pc 4 then (bif Nat.blt pc 1 then (bif Nat.beq pc 0 then some (8, 0, 0, 1) else none) else (bif Nat.beq pc 1 then some (33, 28, 0, 4) else none)) else (bif Nat.blt pc 5 then (bif Nat.beq pc 4 then some (4, 1, 0, 5) else none) else (bif Nat.blt pc 8 then (bif Nat.beq pc 5 then some (81, 131, 0, 8) else none) else (bif Nat.beq pc 8 then some (83, 0, 0, 9) else none)))))
def mX7_order : em_Me := ((RX7, yX7_order, cX7_order, 2, (some .int)), iX7_order, fX7, qX7)
theorem rX7_order_0 : em_ckR RX7 cX7_order iX7_order 0 9 = true := by decide +kernel
theorem kX7_order : em_ok mX7_order := em_okM (N := 9) rfl (fun pc hpc q hq => em_ckR_at rX7_order_0 (by omega) (by omega) hq) fX7_ok qX7_ok
theorem tX7_order : em_tV mX7_order 1 7 := ⟨⟨em_in (k := 446) (by decide +kernel), em_in (k := 1) (by decide +kernel), ⟨by decide +kernel, by decide +kernel⟩, by decide +kernel, by decide +kernel⟩, em_in (k := 444) (by decide +kernel), _, rfl, em_in (k := 445) (by decide +kernel)⟩
def iX7_town : Nat → Option (Nat × Nat × Int32 × Nat) := em_tr 11 (fun pc => (bif Nat.blt pc 5 then (bif Nat.blt pc 1 then (bif Nat.beq pc 0 then some (8, 0, 0, 1) else none) else (bif Nat.blt pc 4 then (bif Nat.beq pc 1 then some (33, 35, 0, 4) else none) else (bif Nat.beq pc 4 then some (4, 1, 0, 5) else none))) else (bif Nat.blt pc 7 then (bif Nat.blt pc 6 then (bif Nat.beq pc 5 then some (4, 2, 0, 6) else none) else (bif Nat.beq pc 6 then some (4, 3, 0, 7) else none)) else (bif Nat.blt pc 10 then (bif Nat.beq pc 7 then some (81, 134, 0, 10) else none) else (bif Nat.beq pc 10 then some (83, 0, 0, 11) else none)))))
def mX7_town : em_Me := ((RX7, yX7_town, cX7_town, 4, (some .int)), iX7_town, fX7, qX7)
theorem rX7_town_0 : em_ckR RX7 cX7_town iX7_town 0 11 = true := by decide +kernel
theorem kX7_town : em_ok mX7_town := em_okM (N := 11) rfl (fun pc hpc q hq => em_ckR_at rX7_town_0 (by omega) (by omega) hq) fX7_ok qX7_ok
theorem tX7_town : em_tV mX7_town 3 7 := ⟨⟨em_in (k := 491) (by decide +kernel), em_in (k := 1) (by decide +kernel), ⟨by decide +kernel, by decide +kernel⟩, by decide +kernel, by decide +kernel⟩, em_in (k := 489) (by decide +kernel), _, rfl, em_in (k := 490) (by decide +kernel)⟩
def iX7_way : Nat → Option (Nat × Nat × Int32 × Nat) := em_tr 11 (fun pc => (bif Nat.blt pc 5 then (bif Nat.blt pc 1 then (bif Nat.beq pc 0 then some (8, 0, 0, 1) else none) else (bif Nat.blt pc 4 then (bif Nat.beq pc 1 then some (33, 35, 0, 4) else none) else (bif Nat.beq pc 4 then some (4, 1, 0, 5) else none))) else (bif Nat.blt pc 7 then (bif Nat.blt pc 6 then (bif Nat.beq pc 5 then some (4, 2, 0, 6) else none) else (bif Nat.beq pc 6 then some (4, 3, 0, 7) else none)) else (bif Nat.blt pc 10 then (bif Nat.beq pc 7 then some (81, 138, 0, 10) else none) else (bif Nat.beq pc 10 then some (83, 0, 0, 11) else none)))))
def mX7_way : em_Me := ((RX7, yX7_way, cX7_way, 4, (some .boolean)), iX7_way, fX7, qX7)
theorem rX7_way_0 : em_ckR RX7 cX7_way iX7_way 0 11 = true := by decide +kernel
theorem kX7_way : em_ok mX7_way := em_okM (N := 11) rfl (fun pc hpc q hq => em_ckR_at rX7_way_0 (by omega) (by omega) hq) fX7_ok qX7_ok
theorem tX7_way : em_tV mX7_way 3 7 := ⟨⟨em_in (k := 500) (by decide +kernel), em_in (k := 1) (by decide +kernel), ⟨by decide +kernel, by decide +kernel⟩, by decide +kernel, by decide +kernel⟩, em_in (k := 498) (by decide +kernel), _, rfl, em_in (k := 499) (by decide +kernel)⟩
def iX7_fodder : Nat → Option (Nat × Nat × Int32 × Nat) := em_tr 9 (fun pc => (bif Nat.blt pc 4 then (bif Nat.blt pc 1 then (bif Nat.beq pc 0 then some (8, 0, 0, 1) else none) else (bif Nat.beq pc 1 then some (33, 35, 0, 4) else none)) else (bif Nat.blt pc 5 then (bif Nat.beq pc 4 then some (4, 1, 0, 5) else none) else (bif Nat.blt pc 8 then (bif Nat.beq pc 5 then some (81, 141, 0, 8) else none) else (bif Nat.beq pc 8 then some (83, 0, 0, 9) else none)))))
def mX7_fodder : em_Me := ((RX7, yX7_fodder, cX7_fodder, 2, (some .boolean)), iX7_fodder, fX7, qX7)
theorem rX7_fodder_0 : em_ckR RX7 cX7_fodder iX7_fodder 0 9 = true := by decide +kernel
theorem kX7_fodder : em_ok mX7_fodder := em_okM (N := 9) rfl (fun pc hpc q hq => em_ckR_at rX7_fodder_0 (by omega) (by omega) hq) fX7_ok qX7_ok
theorem tX7_fodder : em_tV mX7_fodder 1 7 := ⟨⟨em_in (k := 512) (by decide +kernel), em_in (k := 1) (by decide +kernel), ⟨by decide +kernel, by decide +kernel⟩, by decide +kernel, by decide +kernel⟩, em_in (k := 510) (by decide +kernel), _, rfl, em_in (k := 511) (by decide +kernel)⟩
def iX7_tour : Nat → Option (Nat × Nat × Int32 × Nat) := em_tr 10 (fun pc => (bif Nat.blt pc 5 then (bif Nat.blt pc 1 then (bif Nat.beq pc 0 then some (8, 0, 0, 1) else none) else (bif Nat.blt pc 4 then (bif Nat.beq pc 1 then some (33, 35, 0, 4) else none) else (bif Nat.beq pc 4 then some (4, 1, 0, 5) else none))) else (bif Nat.blt pc 6 then (bif Nat.beq pc 5 then some (4, 2, 0, 6) else none) else (bif Nat.blt pc 9 then (bif Nat.beq pc 6 then some (81, 144, 0, 9) else none) else (bif Nat.beq pc 9 then some (83, 0, 0, 10) else none)))))
def mX7_tour : em_Me := ((RX7, yX7_tour, cX7_tour, 3, (some .int)), iX7_tour, fX7, qX7)
theorem rX7_tour_0 : em_ckR RX7 cX7_tour iX7_tour 0 10 = true := by decide +kernel
theorem kX7_tour : em_ok mX7_tour := em_okM (N := 10) rfl (fun pc hpc q hq => em_ckR_at rX7_tour_0 (by omega) (by omega) hq) fX7_ok qX7_ok
theorem tX7_tour : em_tV mX7_tour 2 7 := ⟨⟨em_in (k := 520) (by decide +kernel), em_in (k := 1) (by decide +kernel), ⟨by decide +kernel, by decide +kernel⟩, by decide +kernel, by decide +kernel⟩, em_in (k := 518) (by decide +kernel), _, rfl, em_in (k := 519) (by decide +kernel)⟩
def iX7_stop : Nat → Option (Nat × Nat × Int32 × Nat) := em_tr 11 (fun pc => (bif Nat.blt pc 5 then (bif Nat.blt pc 1 then (bif Nat.beq pc 0 then some (8, 0, 0, 1) else none) else (bif Nat.blt pc 4 then (bif Nat.beq pc 1 then some (33, 35, 0, 4) else none) else (bif Nat.beq pc 4 then some (4, 1, 0, 5) else none))) else (bif Nat.blt pc 7 then (bif Nat.blt pc 6 then (bif Nat.beq pc 5 then some (4, 2, 0, 6) else none) else (bif Nat.beq pc 6 then some (4, 3, 0, 7) else none)) else (bif Nat.blt pc 10 then (bif Nat.beq pc 7 then some (81, 147, 0, 10) else none) else (bif Nat.beq pc 10 then some (83, 0, 0, 11) else none)))))
def mX7_stop : em_Me := ((RX7, yX7_stop, cX7_stop, 4, (some .int)), iX7_stop, fX7, qX7)
theorem rX7_stop_0 : em_ckR RX7 cX7_stop iX7_stop 0 11 = true := by decide +kernel
theorem kX7_stop : em_ok mX7_stop := em_okM (N := 11) rfl (fun pc hpc q hq => em_ckR_at rX7_stop_0 (by omega) (by omega) hq) fX7_ok qX7_ok
theorem tX7_stop : em_tV mX7_stop 3 7 := ⟨⟨em_in (k := 555) (by decide +kernel), em_in (k := 1) (by decide +kernel), ⟨by decide +kernel, by decide +kernel⟩, by decide +kernel, by decide +kernel⟩, em_in (k := 553) (by decide +kernel), _, rfl, em_in (k := 554) (by decide +kernel)⟩
def iX7_feed : Nat → Option (Nat × Nat × Int32 × Nat) := em_tr 92 (fun pc => (bif Nat.blt pc 43 then (bif Nat.blt pc 20 then (bif Nat.blt pc 9 then (bif Nat.blt pc 4 then (bif Nat.blt pc 1 then (bif Nat.beq pc 0 then some (4, 1, 0, 1) else none) else (bif Nat.beq pc 1 then some (80, 150, 0, 4) else none)) else (bif Nat.blt pc 5 then (bif Nat.beq pc 4 then some (4, 2, 0, 5) else none) else (bif Nat.blt pc 8 then (bif Nat.beq pc 5 then some (80, 150, 0, 8) else none) else (bif Nat.beq pc 8 then some (17, 0, 0, 9) else none)))) else (bif Nat.blt pc 14 then (bif Nat.blt pc 10 then (bif Nat.beq pc 9 then some (4, 3, 0, 10) else none) else (bif Nat.blt pc 13 then (bif Nat.beq pc 10 then some (80, 150, 0, 13) else none) else (bif Nat.beq pc 13 then some (17, 0, 0, 14) else none))) else (bif Nat.blt pc 16 then (bif Nat.beq pc 14 then some (5, 4, 0, 16) else none) else (bif Nat.blt pc 19 then (bif Nat.beq pc 16 then some (80, 150, 0, 19) else none) else (bif Nat.beq pc 19 then some (17, 0, 0, 20) else none))))) else (bif Nat.blt pc 32 then (bif Nat.blt pc 26 then (bif Nat.blt pc 22 then (bif Nat.beq pc 20 then some (5, 5, 0, 22) else none) else (bif Nat.blt pc 25 then (bif Nat.beq pc 22 then some (80, 150, 0, 25) else none) else (bif Nat.beq pc 25 then some (17, 0, 0, 26) else none))) else (bif Nat.blt pc 28 then (bif Nat.beq pc 26 then some (11, 6, 0, 28) else none) else (bif Nat.blt pc 29 then (bif Nat.beq pc 28 then some (8, 0, 0, 29) else none) else (bif Nat.beq pc 29 then some (33, 42, 0, 32) else none)))) else (bif Nat.blt pc 40 then (bif Nat.blt pc 34 then (bif Nat.beq pc 32 then some (5, 6, 0, 34) else none) else (bif Nat.blt pc 37 then (bif Nat.beq pc 34 then some (81, 153, 0, 37) else none) else (bif Nat.beq pc 37 then some (51, 42, 0, 40) else none))) else (bif Nat.blt pc 41 then (bif Nat.beq pc 40 then some (0, 0, (-1), 41) else none) else (bif Nat.blt pc 42 then (bif Nat.beq pc 41 then some (83, 0, 0, 42) else none) else (bif Nat.beq pc 42 then some (8, 0, 0, 43) else none)))))) else (bif Nat.blt pc 66 then (bif Nat.blt pc 54 then (bif Nat.blt pc 47 then (bif Nat.blt pc 46 then (bif Nat.beq pc 43 then some (33, 42, 0, 46) else none) else (bif Nat.beq pc 46 then some (4, 1, 0, 47) else none)) else (bif Nat.blt pc 50 then (bif Nat.beq pc 47 then some (81, 156, 0, 50) else none) else (bif Nat.blt pc 51 then (bif Nat.beq pc 50 then some (8, 0, 0, 51) else none) else (bif Nat.beq pc 51 then some (33, 42, 0, 54) else none)))) else (bif Nat.blt pc 59 then (bif Nat.blt pc 55 then (bif Nat.beq pc 54 then some (4, 2, 0, 55) else none) else (bif Nat.blt pc 58 then (bif Nat.beq pc 55 then some (81, 156, 0, 58) else none) else (bif Nat.beq pc 58 then some (8, 0, 0, 59) else none))) else (bif Nat.blt pc 62 then (bif Nat.beq pc 59 then some (33, 42, 0, 62) else none) else (bif Nat.blt pc 63 then (bif Nat.beq pc 62 then some (4, 3, 0, 63) else none) else (bif Nat.beq pc 63 then some (81, 156, 0, 66) else none))))) else (bif Nat.blt pc 79 then (bif Nat.blt pc 72 then (bif Nat.blt pc 67 then (bif Nat.beq pc 66 then some (8, 0, 0, 67) else none) else (bif Nat.blt pc 70 then (bif Nat.beq pc 67 then some (33, 42, 0, 70) else none) else (bif Nat.beq pc 70 then some (5, 4, 0, 72) else none))) else (bif Nat.blt pc 75 then (bif Nat.beq pc 72 then some (81, 156, 0, 75) else none) else (bif Nat.blt pc 76 then (bif Nat.beq pc 75 then some (8, 0, 0, 76) else none) else (bif Nat.beq pc 76 then some (33, 42, 0, 79) else none)))) else (bif Nat.blt pc 85 then (bif Nat.blt pc 81 then (bif Nat.beq pc 79 then some (5, 5, 0, 81) else none) else (bif Nat.blt pc 84 then (bif Nat.beq pc 81 then some (81, 156, 0, 84) else none) else (bif Nat.beq pc 84 then some (8, 0, 0, 85) else none))) else (bif Nat.blt pc 88 then (bif Nat.beq pc 85 then some (33, 42, 0, 88) else none) else (bif Nat.blt pc 91 then (bif Nat.beq pc 88 then some (81, 160, 0, 91) else none) else (bif Nat.beq pc 91 then some (83, 0, 0, 92) else none))))))))
def mX7_feed : em_Me := ((RX7, yX7_feed, cX7_feed, 7, (some .int)), iX7_feed, fX7, qX7)
theorem rX7_feed_0 : em_ckR RX7 cX7_feed iX7_feed 0 60 = true := by decide +kernel
theorem rX7_feed_1 : em_ckR RX7 cX7_feed iX7_feed 60 32 = true := by decide +kernel
theorem kX7_feed : em_ok mX7_feed := em_okM (N := 92) rfl (fun pc hpc q hq => if h0 : pc < 60 then em_ckR_at rX7_feed_0 (by omega) (by omega) hq else em_ckR_at rX7_feed_1 (by omega) (by omega) hq) fX7_ok qX7_ok
theorem tX7_feed : em_tV mX7_feed 5 7 := ⟨⟨em_in (k := 563) (by decide +kernel), em_in (k := 1) (by decide +kernel), ⟨by decide +kernel, by decide +kernel⟩, by decide +kernel, by decide +kernel⟩, em_in (k := 561) (by decide +kernel), _, rfl, em_in (k := 562) (by decide +kernel)⟩
def iX7_end : Nat → Option (Nat × Nat × Int32 × Nat) := em_tr 9 (fun pc => (bif Nat.blt pc 4 then (bif Nat.blt pc 1 then (bif Nat.beq pc 0 then some (8, 0, 0, 1) else none) else (bif Nat.beq pc 1 then some (33, 42, 0, 4) else none)) else (bif Nat.blt pc 5 then (bif Nat.beq pc 4 then some (4, 1, 0, 5) else none) else (bif Nat.blt pc 8 then (bif Nat.beq pc 5 then some (81, 163, 0, 8) else none) else (bif Nat.beq pc 8 then some (83, 0, 0, 9) else none)))))
def mX7_end : em_Me := ((RX7, yX7_end, cX7_end, 2, (some .boolean)), iX7_end, fX7, qX7)
theorem rX7_end_0 : em_ckR RX7 cX7_end iX7_end 0 9 = true := by decide +kernel
theorem kX7_end : em_ok mX7_end := em_okM (N := 9) rfl (fun pc hpc q hq => em_ckR_at rX7_end_0 (by omega) (by omega) hq) fX7_ok qX7_ok
theorem tX7_end : em_tV mX7_end 1 7 := ⟨⟨em_in (k := 582) (by decide +kernel), em_in (k := 1) (by decide +kernel), ⟨by decide +kernel, by decide +kernel⟩, by decide +kernel, by decide +kernel⟩, em_in (k := 580) (by decide +kernel), _, rfl, em_in (k := 581) (by decide +kernel)⟩
def iX7_fault : Nat → Option (Nat × Nat × Int32 × Nat) := em_tr 12 (fun pc => (bif Nat.blt pc 5 then (bif Nat.blt pc 1 then (bif Nat.beq pc 0 then some (8, 0, 0, 1) else none) else (bif Nat.blt pc 4 then (bif Nat.beq pc 1 then some (33, 42, 0, 4) else none) else (bif Nat.beq pc 4 then some (8, 0, 0, 5) else none))) else (bif Nat.blt pc 8 then (bif Nat.beq pc 5 then some (33, 53, 0, 8) else none) else (bif Nat.blt pc 11 then (bif Nat.beq pc 8 then some (81, 166, 0, 11) else none) else (bif Nat.beq pc 11 then some (83, 0, 0, 12) else none)))))
def mX7_fault : em_Me := ((RX7, yX7_fault, cX7_fault, 1, (some .int)), iX7_fault, fX7, qX7)
theorem rX7_fault_0 : em_ckR RX7 cX7_fault iX7_fault 0 12 = true := by decide +kernel
theorem kX7_fault : em_ok mX7_fault := em_okM (N := 12) rfl (fun pc hpc q hq => em_ckR_at rX7_fault_0 (by omega) (by omega) hq) fX7_ok qX7_ok
theorem tX7_fault : em_tV mX7_fault 0 7 := ⟨⟨em_in (k := 591) (by decide +kernel), em_in (k := 1) (by decide +kernel), ⟨by decide +kernel, by decide +kernel⟩, by decide +kernel, by decide +kernel⟩, em_in (k := 589) (by decide +kernel), _, rfl, em_in (k := 590) (by decide +kernel)⟩
def iX7_law : Nat → Option (Nat × Nat × Int32 × Nat) := em_tr 50 (fun pc => (bif Nat.blt pc 27 then (bif Nat.blt pc 12 then (bif Nat.blt pc 5 then (bif Nat.blt pc 1 then (bif Nat.beq pc 0 then some (8, 0, 0, 1) else none) else (bif Nat.blt pc 4 then (bif Nat.beq pc 1 then some (33, 35, 0, 4) else none) else (bif Nat.beq pc 4 then some (4, 1, 0, 5) else none))) else (bif Nat.blt pc 8 then (bif Nat.beq pc 5 then some (81, 170, 0, 8) else none) else (bif Nat.blt pc 11 then (bif Nat.beq pc 8 then some (50, 26, 0, 11) else none) else (bif Nat.beq pc 11 then some (8, 0, 0, 12) else none)))) else (bif Nat.blt pc 19 then (bif Nat.blt pc 15 then (bif Nat.beq pc 12 then some (33, 42, 0, 15) else none) else (bif Nat.blt pc 16 then (bif Nat.beq pc 15 then some (8, 0, 0, 16) else none) else (bif Nat.beq pc 16 then some (33, 53, 0, 19) else none))) else (bif Nat.blt pc 23 then (bif Nat.blt pc 22 then (bif Nat.beq pc 19 then some (81, 166, 0, 22) else none) else (bif Nat.beq pc 22 then some (0, 0, (-1), 23) else none)) else (bif Nat.blt pc 26 then (bif Nat.beq pc 23 then some (56, 28, 0, 26) else none) else (bif Nat.beq pc 26 then some (0, 0, 0, 27) else none))))) else (bif Nat.blt pc 35 then (bif Nat.blt pc 32 then (bif Nat.blt pc 28 then (bif Nat.beq pc 27 then some (83, 0, 0, 28) else none) else (bif Nat.blt pc 29 then (bif Nat.beq pc 28 then some (8, 0, 0, 29) else none) else (bif Nat.beq pc 29 then some (33, 48, 0, 32) else none))) else (bif Nat.blt pc 33 then (bif Nat.beq pc 32 then some (4, 1, 0, 33) else none) else (bif Nat.blt pc 34 then (bif Nat.beq pc 33 then some (65, 0, 0, 34) else none) else (bif Nat.beq pc 34 then some (8, 0, 0, 35) else none)))) else (bif Nat.blt pc 42 then (bif Nat.blt pc 38 then (bif Nat.beq pc 35 then some (33, 53, 0, 38) else none) else (bif Nat.blt pc 41 then (bif Nat.beq pc 38 then some (81, 173, 0, 41) else none) else (bif Nat.beq pc 41 then some (8, 0, 0, 42) else none))) else (bif Nat.blt pc 46 then (bif Nat.blt pc 45 then (bif Nat.beq pc 42 then some (33, 42, 0, 45) else none) else (bif Nat.beq pc 45 then some (0, 0, 0, 46) else none)) else (bif Nat.blt pc 49 then (bif Nat.beq pc 46 then some (81, 163, 0, 49) else none) else (bif Nat.beq pc 49 then some (83, 0, 0, 50) else none)))))))
def mX7_law : em_Me := ((RX7, yX7_law, cX7_law, 2, (some .boolean)), iX7_law, fX7, qX7)
theorem rX7_law_0 : em_ckR RX7 cX7_law iX7_law 0 50 = true := by decide +kernel
theorem kX7_law : em_ok mX7_law := em_okM (N := 50) rfl (fun pc hpc q hq => em_ckR_at rX7_law_0 (by omega) (by omega) hq) fX7_ok qX7_ok
theorem tX7_law : em_tV mX7_law 1 7 := ⟨⟨em_in (k := 696) (by decide +kernel), em_in (k := 1) (by decide +kernel), ⟨by decide +kernel, by decide +kernel⟩, by decide +kernel, by decide +kernel⟩, em_in (k := 694) (by decide +kernel), _, rfl, em_in (k := 695) (by decide +kernel)⟩
end
section
def iX7_may : Nat → Option (Nat × Nat × Int32 × Nat) := em_tr 48 (fun pc => (bif Nat.blt pc 23 then (bif Nat.blt pc 12 then (bif Nat.blt pc 5 then (bif Nat.blt pc 1 then (bif Nat.beq pc 0 then some (8, 0, 0, 1) else none) else (bif Nat.blt pc 4 then (bif Nat.beq pc 1 then some (33, 35, 0, 4) else none) else (bif Nat.beq pc 4 then some (4, 1, 0, 5) else none))) else (bif Nat.blt pc 8 then (bif Nat.beq pc 5 then some (81, 170, 0, 8) else none) else (bif Nat.blt pc 11 then (bif Nat.beq pc 8 then some (50, 21, 0, 11) else none) else (bif Nat.beq pc 11 then some (4, 2, 0, 12) else none)))) else (bif Nat.blt pc 18 then (bif Nat.blt pc 13 then (bif Nat.beq pc 12 then some (0, 0, 0, 13) else none) else (bif Nat.blt pc 15 then (bif Nat.beq pc 13 then some (1, 0, 23, 15) else none) else (bif Nat.beq pc 15 then some (80, 68, 0, 18) else none))) else (bif Nat.blt pc 21 then (bif Nat.beq pc 18 then some (51, 23, 0, 21) else none) else (bif Nat.blt pc 22 then (bif Nat.beq pc 21 then some (0, 0, (-1), 22) else none) else (bif Nat.beq pc 22 then some (83, 0, 0, 23) else none))))) else (bif Nat.blt pc 33 then (bif Nat.blt pc 28 then (bif Nat.blt pc 24 then (bif Nat.beq pc 23 then some (8, 0, 0, 24) else none) else (bif Nat.blt pc 27 then (bif Nat.beq pc 24 then some (33, 48, 0, 27) else none) else (bif Nat.beq pc 27 then some (4, 1, 0, 28) else none))) else (bif Nat.blt pc 29 then (bif Nat.beq pc 28 then some (65, 0, 0, 29) else none) else (bif Nat.blt pc 30 then (bif Nat.beq pc 29 then some (8, 0, 0, 30) else none) else (bif Nat.beq pc 30 then some (33, 10, 0, 33) else none)))) else (bif Nat.blt pc 40 then (bif Nat.blt pc 36 then (bif Nat.beq pc 33 then some (81, 177, 0, 36) else none) else (bif Nat.blt pc 37 then (bif Nat.beq pc 36 then some (8, 0, 0, 37) else none) else (bif Nat.beq pc 37 then some (33, 10, 0, 40) else none))) else (bif Nat.blt pc 44 then (bif Nat.blt pc 43 then (bif Nat.beq pc 40 then some (81, 180, 0, 43) else none) else (bif Nat.beq pc 43 then some (4, 2, 0, 44) else none)) else (bif Nat.blt pc 47 then (bif Nat.beq pc 44 then some (81, 183, 0, 47) else none) else (bif Nat.beq pc 47 then some (83, 0, 0, 48) else none)))))))
def mX7_may : em_Me := ((RX7, yX7_may, cX7_may, 3, (some .int)), iX7_may, fX7, qX7)
theorem rX7_may_0 : em_ckR RX7 cX7_may iX7_may 0 48 = true := by decide +kernel
theorem kX7_may : em_ok mX7_may := em_okM (N := 48) rfl (fun pc hpc q hq => em_ckR_at rX7_may_0 (by omega) (by omega) hq) fX7_ok qX7_ok
theorem tX7_may : em_tV mX7_may 2 7 := ⟨⟨em_in (k := 706) (by decide +kernel), em_in (k := 1) (by decide +kernel), ⟨by decide +kernel, by decide +kernel⟩, by decide +kernel, by decide +kernel⟩, em_in (k := 704) (by decide +kernel), _, rfl, em_in (k := 705) (by decide +kernel)⟩
def iX7_fee : Nat → Option (Nat × Nat × Int32 × Nat) := em_tr 32 (fun pc => (bif Nat.blt pc 16 then (bif Nat.blt pc 8 then (bif Nat.blt pc 4 then (bif Nat.blt pc 1 then (bif Nat.beq pc 0 then some (8, 0, 0, 1) else none) else (bif Nat.beq pc 1 then some (33, 35, 0, 4) else none)) else (bif Nat.blt pc 5 then (bif Nat.beq pc 4 then some (4, 1, 0, 5) else none) else (bif Nat.beq pc 5 then some (81, 170, 0, 8) else none))) else (bif Nat.blt pc 12 then (bif Nat.blt pc 11 then (bif Nat.beq pc 8 then some (50, 30, 0, 11) else none) else (bif Nat.beq pc 11 then some (8, 0, 0, 12) else none)) else (bif Nat.blt pc 15 then (bif Nat.beq pc 12 then some (33, 48, 0, 15) else none) else (bif Nat.beq pc 15 then some (4, 1, 0, 16) else none)))) else (bif Nat.blt pc 24 then (bif Nat.blt pc 18 then (bif Nat.blt pc 17 then (bif Nat.beq pc 16 then some (65, 0, 0, 17) else none) else (bif Nat.beq pc 17 then some (8, 0, 0, 18) else none)) else (bif Nat.blt pc 21 then (bif Nat.beq pc 18 then some (33, 10, 0, 21) else none) else (bif Nat.beq pc 21 then some (81, 180, 0, 24) else none))) else (bif Nat.blt pc 30 then (bif Nat.blt pc 27 then (bif Nat.beq pc 24 then some (81, 186, 0, 27) else none) else (bif Nat.beq pc 27 then some (32, 31, 0, 30) else none)) else (bif Nat.blt pc 31 then (bif Nat.beq pc 30 then some (0, 0, (-1), 31) else none) else (bif Nat.beq pc 31 then some (83, 0, 0, 32) else none))))))
def mX7_fee : em_Me := ((RX7, yX7_fee, cX7_fee, 2, (some .int)), iX7_fee, fX7, qX7)
theorem rX7_fee_0 : em_ckR RX7 cX7_fee iX7_fee 0 32 = true := by decide +kernel
theorem kX7_fee : em_ok mX7_fee := em_okM (N := 32) rfl (fun pc hpc q hq => em_ckR_at rX7_fee_0 (by omega) (by omega) hq) fX7_ok qX7_ok
theorem tX7_fee : em_tV mX7_fee 1 7 := ⟨⟨em_in (k := 726) (by decide +kernel), em_in (k := 1) (by decide +kernel), ⟨by decide +kernel, by decide +kernel⟩, by decide +kernel, by decide +kernel⟩, em_in (k := 724) (by decide +kernel), _, rfl, em_in (k := 725) (by decide +kernel)⟩
def iX7_wall : Nat → Option (Nat × Nat × Int32 × Nat) := em_tr 10 (fun pc => (bif Nat.blt pc 5 then (bif Nat.blt pc 1 then (bif Nat.beq pc 0 then some (8, 0, 0, 1) else none) else (bif Nat.blt pc 4 then (bif Nat.beq pc 1 then some (33, 60, 0, 4) else none) else (bif Nat.beq pc 4 then some (4, 1, 0, 5) else none))) else (bif Nat.blt pc 6 then (bif Nat.beq pc 5 then some (4, 2, 0, 6) else none) else (bif Nat.blt pc 9 then (bif Nat.beq pc 6 then some (81, 189, 0, 9) else none) else (bif Nat.beq pc 9 then some (83, 0, 0, 10) else none)))))
def mX7_wall : em_Me := ((RX7, yX7_wall, cX7_wall, 3, (some .boolean)), iX7_wall, fX7, qX7)
theorem rX7_wall_0 : em_ckR RX7 cX7_wall iX7_wall 0 10 = true := by decide +kernel
theorem kX7_wall : em_ok mX7_wall := em_okM (N := 10) rfl (fun pc hpc q hq => em_ckR_at rX7_wall_0 (by omega) (by omega) hq) fX7_ok qX7_ok
theorem tX7_wall : em_tV mX7_wall 2 7 := ⟨⟨em_in (k := 739) (by decide +kernel), em_in (k := 1) (by decide +kernel), ⟨by decide +kernel, by decide +kernel⟩, by decide +kernel, by decide +kernel⟩, em_in (k := 737) (by decide +kernel), _, rfl, em_in (k := 738) (by decide +kernel)⟩
def iX7_away : Nat → Option (Nat × Nat × Int32 × Nat) := em_tr 29 (fun pc => (bif Nat.blt pc 15 then (bif Nat.blt pc 5 then (bif Nat.blt pc 1 then (bif Nat.beq pc 0 then some (8, 0, 0, 1) else none) else (bif Nat.blt pc 4 then (bif Nat.beq pc 1 then some (33, 10, 0, 4) else none) else (bif Nat.beq pc 4 then some (4, 1, 0, 5) else none))) else (bif Nat.blt pc 11 then (bif Nat.blt pc 8 then (bif Nat.beq pc 5 then some (81, 193, 0, 8) else none) else (bif Nat.beq pc 8 then some (50, 27, 0, 11) else none)) else (bif Nat.blt pc 12 then (bif Nat.beq pc 11 then some (8, 0, 0, 12) else none) else (bif Nat.beq pc 12 then some (33, 60, 0, 15) else none)))) else (bif Nat.blt pc 23 then (bif Nat.blt pc 17 then (bif Nat.blt pc 16 then (bif Nat.beq pc 15 then some (4, 1, 0, 16) else none) else (bif Nat.beq pc 16 then some (4, 2, 0, 17) else none)) else (bif Nat.blt pc 20 then (bif Nat.beq pc 17 then some (81, 196, 0, 20) else none) else (bif Nat.beq pc 20 then some (50, 27, 0, 23) else none))) else (bif Nat.blt pc 27 then (bif Nat.blt pc 24 then (bif Nat.beq pc 23 then some (0, 0, 1, 24) else none) else (bif Nat.beq pc 24 then some (32, 28, 0, 27) else none)) else (bif Nat.blt pc 28 then (bif Nat.beq pc 27 then some (0, 0, 0, 28) else none) else (bif Nat.beq pc 28 then some (83, 0, 0, 29) else none))))))
def mX7_away : em_Me := ((RX7, yX7_away, cX7_away, 3, (some .boolean)), iX7_away, fX7, qX7)
theorem rX7_away_0 : em_ckR RX7 cX7_away iX7_away 0 29 = true := by decide +kernel
theorem kX7_away : em_ok mX7_away := em_okM (N := 29) rfl (fun pc hpc q hq => em_ckR_at rX7_away_0 (by omega) (by omega) hq) fX7_ok qX7_ok
theorem tX7_away : em_tV mX7_away 2 7 := ⟨⟨em_in (k := 751) (by decide +kernel), em_in (k := 1) (by decide +kernel), ⟨by decide +kernel, by decide +kernel⟩, by decide +kernel, by decide +kernel⟩, em_in (k := 749) (by decide +kernel), _, rfl, em_in (k := 750) (by decide +kernel)⟩
def iX7_hour : Nat → Option (Nat × Nat × Int32 × Nat) := em_tr 8 (fun pc => (bif Nat.blt pc 4 then (bif Nat.blt pc 1 then (bif Nat.beq pc 0 then some (8, 0, 0, 1) else none) else (bif Nat.beq pc 1 then some (33, 60, 0, 4) else none)) else (bif Nat.blt pc 7 then (bif Nat.beq pc 4 then some (81, 199, 0, 7) else none) else (bif Nat.beq pc 7 then some (83, 0, 0, 8) else none))))
def mX7_hour : em_Me := ((RX7, yX7_hour, cX7_hour, 1, (some .int)), iX7_hour, fX7, qX7)
theorem rX7_hour_0 : em_ckR RX7 cX7_hour iX7_hour 0 8 = true := by decide +kernel
theorem kX7_hour : em_ok mX7_hour := em_okM (N := 8) rfl (fun pc hpc q hq => em_ckR_at rX7_hour_0 (by omega) (by omega) hq) fX7_ok qX7_ok
theorem tX7_hour : em_tV mX7_hour 0 7 := ⟨⟨em_in (k := 763) (by decide +kernel), em_in (k := 1) (by decide +kernel), ⟨by decide +kernel, by decide +kernel⟩, by decide +kernel, by decide +kernel⟩, em_in (k := 761) (by decide +kernel), _, rfl, em_in (k := 762) (by decide +kernel)⟩
def iX7_look : Nat → Option (Nat × Nat × Int32 × Nat) := em_tr 9 (fun pc => (bif Nat.blt pc 4 then (bif Nat.blt pc 1 then (bif Nat.beq pc 0 then some (8, 0, 0, 1) else none) else (bif Nat.beq pc 1 then some (33, 60, 0, 4) else none)) else (bif Nat.blt pc 5 then (bif Nat.beq pc 4 then some (4, 1, 0, 5) else none) else (bif Nat.blt pc 8 then (bif Nat.beq pc 5 then some (81, 202, 0, 8) else none) else (bif Nat.beq pc 8 then some (83, 0, 0, 9) else none)))))
def mX7_look : em_Me := ((RX7, yX7_look, cX7_look, 2, (some .int)), iX7_look, fX7, qX7)
theorem rX7_look_0 : em_ckR RX7 cX7_look iX7_look 0 9 = true := by decide +kernel
theorem kX7_look : em_ok mX7_look := em_okM (N := 9) rfl (fun pc hpc q hq => em_ckR_at rX7_look_0 (by omega) (by omega) hq) fX7_ok qX7_ok
theorem tX7_look : em_tV mX7_look 1 7 := ⟨⟨em_in (k := 779) (by decide +kernel), em_in (k := 1) (by decide +kernel), ⟨by decide +kernel, by decide +kernel⟩, by decide +kernel, by decide +kernel⟩, em_in (k := 777) (by decide +kernel), _, rfl, em_in (k := 778) (by decide +kernel)⟩
def iX7_maybe : Nat → Option (Nat × Nat × Int32 × Nat) := em_tr 9 (fun pc => (bif Nat.blt pc 4 then (bif Nat.blt pc 1 then (bif Nat.beq pc 0 then some (8, 0, 0, 1) else none) else (bif Nat.beq pc 1 then some (33, 60, 0, 4) else none)) else (bif Nat.blt pc 5 then (bif Nat.beq pc 4 then some (4, 1, 0, 5) else none) else (bif Nat.blt pc 8 then (bif Nat.beq pc 5 then some (81, 205, 0, 8) else none) else (bif Nat.beq pc 8 then some (84, 0, 0, 9) else none)))))
def mX7_maybe : em_Me := ((RX7, yX7_maybe, cX7_maybe, 2, (some .long)), iX7_maybe, fX7, qX7)
theorem rX7_maybe_0 : em_ckR RX7 cX7_maybe iX7_maybe 0 9 = true := by decide +kernel
theorem kX7_maybe : em_ok mX7_maybe := em_okM (N := 9) rfl (fun pc hpc q hq => em_ckR_at rX7_maybe_0 (by omega) (by omega) hq) fX7_ok qX7_ok
theorem tX7_maybe : em_tV mX7_maybe 1 7 := ⟨⟨em_in (k := 795) (by decide +kernel), em_in (k := 1) (by decide +kernel), ⟨by decide +kernel, by decide +kernel⟩, by decide +kernel, by decide +kernel⟩, em_in (k := 793) (by decide +kernel), _, rfl, em_in (k := 794) (by decide +kernel)⟩
def iX7_chance : Nat → Option (Nat × Nat × Int32 × Nat) := em_tr 10 (fun pc => (bif Nat.blt pc 5 then (bif Nat.blt pc 1 then (bif Nat.beq pc 0 then some (8, 0, 0, 1) else none) else (bif Nat.blt pc 4 then (bif Nat.beq pc 1 then some (33, 60, 0, 4) else none) else (bif Nat.beq pc 4 then some (4, 1, 0, 5) else none))) else (bif Nat.blt pc 6 then (bif Nat.beq pc 5 then some (4, 2, 0, 6) else none) else (bif Nat.blt pc 9 then (bif Nat.beq pc 6 then some (81, 209, 0, 9) else none) else (bif Nat.beq pc 9 then some (84, 0, 0, 10) else none)))))
def mX7_chance : em_Me := ((RX7, yX7_chance, cX7_chance, 3, (some .long)), iX7_chance, fX7, qX7)
theorem rX7_chance_0 : em_ckR RX7 cX7_chance iX7_chance 0 10 = true := by decide +kernel
theorem kX7_chance : em_ok mX7_chance := em_okM (N := 10) rfl (fun pc hpc q hq => em_ckR_at rX7_chance_0 (by omega) (by omega) hq) fX7_ok qX7_ok
theorem tX7_chance : em_tV mX7_chance 2 7 := ⟨⟨em_in (k := 804) (by decide +kernel), em_in (k := 1) (by decide +kernel), ⟨by decide +kernel, by decide +kernel⟩, by decide +kernel, by decide +kernel⟩, em_in (k := 802) (by decide +kernel), _, rfl, em_in (k := 803) (by decide +kernel)⟩
def iX7_where : Nat → Option (Nat × Nat × Int32 × Nat) := em_tr 8 (fun pc => (bif Nat.blt pc 4 then (bif Nat.blt pc 1 then (bif Nat.beq pc 0 then some (8, 0, 0, 1) else none) else (bif Nat.beq pc 1 then some (33, 60, 0, 4) else none)) else (bif Nat.blt pc 7 then (bif Nat.beq pc 4 then some (81, 213, 0, 7) else none) else (bif Nat.beq pc 7 then some (83, 0, 0, 8) else none))))
def mX7_where : em_Me := ((RX7, yX7_where, cX7_where, 1, (some .int)), iX7_where, fX7, qX7)
theorem rX7_where_0 : em_ckR RX7 cX7_where iX7_where 0 8 = true := by decide +kernel
theorem kX7_where : em_ok mX7_where := em_okM (N := 8) rfl (fun pc hpc q hq => em_ckR_at rX7_where_0 (by omega) (by omega) hq) fX7_ok qX7_ok
theorem tX7_where : em_tV mX7_where 0 7 := ⟨⟨em_in (k := 815) (by decide +kernel), em_in (k := 1) (by decide +kernel), ⟨by decide +kernel, by decide +kernel⟩, by decide +kernel, by decide +kernel⟩, em_in (k := 813) (by decide +kernel), _, rfl, em_in (k := 814) (by decide +kernel)⟩
def iX7_count : Nat → Option (Nat × Nat × Int32 × Nat) := em_tr 138 (fun pc => (bif Nat.blt pc 96 then (bif Nat.blt pc 73 then (bif Nat.blt pc 64 then (bif Nat.blt pc 57 then (bif Nat.blt pc 56 then (bif Nat.beq pc 0 then some (4, 1, 0, 1) else none) else (bif Nat.beq pc 56 then some (8, 0, 0, 57) else none)) else (bif Nat.blt pc 60 then (bif Nat.beq pc 57 then some (33, 10, 0, 60) else none) else (bif Nat.blt pc 63 then (bif Nat.beq pc 60 then some (81, 93, 0, 63) else none) else (bif Nat.beq pc 63 then some (83, 0, 0, 64) else none)))) else (bif Nat.blt pc 68 then (bif Nat.blt pc 65 then (bif Nat.beq pc 64 then some (8, 0, 0, 65) else none) else (bif Nat.beq pc 65 then some (33, 10, 0, 68) else none)) else (bif Nat.blt pc 71 then (bif Nat.beq pc 68 then some (81, 216, 0, 71) else none) else (bif Nat.blt pc 72 then (bif Nat.beq pc 71 then some (83, 0, 0, 72) else none) else (bif Nat.beq pc 72 then some (8, 0, 0, 73) else none))))) else (bif Nat.blt pc 84 then (bif Nat.blt pc 79 then (bif Nat.blt pc 76 then (bif Nat.beq pc 73 then some (33, 10, 0, 76) else none) else (bif Nat.beq pc 76 then some (81, 180, 0, 79) else none)) else (bif Nat.blt pc 80 then (bif Nat.beq pc 79 then some (83, 0, 0, 80) else none) else (bif Nat.blt pc 81 then (bif Nat.beq pc 80 then some (8, 0, 0, 81) else none) else (bif Nat.beq pc 81 then some (33, 19, 0, 84) else none)))) else (bif Nat.blt pc 89 then (bif Nat.blt pc 87 then (bif Nat.beq pc 84 then some (81, 217, 0, 87) else none) else (bif Nat.blt pc 88 then (bif Nat.beq pc 87 then some (83, 0, 0, 88) else none) else (bif Nat.beq pc 88 then some (8, 0, 0, 89) else none))) else (bif Nat.blt pc 92 then (bif Nat.beq pc 89 then some (33, 19, 0, 92) else none) else (bif Nat.blt pc 95 then (bif Nat.beq pc 92 then some (81, 218, 0, 95) else none) else (bif Nat.beq pc 95 then some (83, 0, 0, 96) else none)))))) else (bif Nat.blt pc 119 then (bif Nat.blt pc 105 then (bif Nat.blt pc 100 then (bif Nat.blt pc 97 then (bif Nat.beq pc 96 then some (8, 0, 0, 97) else none) else (bif Nat.beq pc 97 then some (33, 35, 0, 100) else none)) else (bif Nat.blt pc 103 then (bif Nat.beq pc 100 then some (81, 221, 0, 103) else none) else (bif Nat.blt pc 104 then (bif Nat.beq pc 103 then some (83, 0, 0, 104) else none) else (bif Nat.beq pc 104 then some (8, 0, 0, 105) else none)))) else (bif Nat.blt pc 112 then (bif Nat.blt pc 108 then (bif Nat.beq pc 105 then some (33, 42, 0, 108) else none) else (bif Nat.blt pc 111 then (bif Nat.beq pc 108 then some (81, 160, 0, 111) else none) else (bif Nat.beq pc 111 then some (83, 0, 0, 112) else none))) else (bif Nat.blt pc 113 then (bif Nat.beq pc 112 then some (8, 0, 0, 113) else none) else (bif Nat.blt pc 116 then (bif Nat.beq pc 113 then some (33, 60, 0, 116) else none) else (bif Nat.beq pc 116 then some (81, 222, 0, 119) else none))))) else (bif Nat.blt pc 128 then (bif Nat.blt pc 121 then (bif Nat.blt pc 120 then (bif Nat.beq pc 119 then some (83, 0, 0, 120) else none) else (bif Nat.beq pc 120 then some (8, 0, 0, 121) else none)) else (bif Nat.blt pc 124 then (bif Nat.beq pc 121 then some (33, 60, 0, 124) else none) else (bif Nat.blt pc 127 then (bif Nat.beq pc 124 then some (81, 225, 0, 127) else none) else (bif Nat.beq pc 127 then some (83, 0, 0, 128) else none)))) else (bif Nat.blt pc 135 then (bif Nat.blt pc 129 then (bif Nat.beq pc 128 then some (8, 0, 0, 129) else none) else (bif Nat.blt pc 132 then (bif Nat.beq pc 129 then some (33, 28, 0, 132) else none) else (bif Nat.beq pc 132 then some (81, 228, 0, 135) else none))) else (bif Nat.blt pc 136 then (bif Nat.beq pc 135 then some (83, 0, 0, 136) else none) else (bif Nat.blt pc 137 then (bif Nat.beq pc 136 then some (0, 0, (-1), 137) else none) else (bif Nat.beq pc 137 then some (83, 0, 0, 138) else none))))))))
def mX7_count : em_Me := ((RX7, yX7_count, cX7_count, 2, (some .int)), iX7_count, fX7, qX7)
theorem rX7_count_0 : em_ckR RX7 cX7_count iX7_count 0 60 = true := by decide +kernel
theorem rX7_count_1 : em_ckR RX7 cX7_count iX7_count 60 60 = true := by decide +kernel
theorem rX7_count_2 : em_ckR RX7 cX7_count iX7_count 120 18 = true := by decide +kernel
theorem kX7_count : em_ok mX7_count := em_okM (N := 138) rfl (fun pc hpc q hq => if h0 : pc < 60 then em_ckR_at rX7_count_0 (by omega) (by omega) hq else if h1 : pc < 120 then em_ckR_at rX7_count_1 (by omega) (by omega) hq else em_ckR_at rX7_count_2 (by omega) (by omega) hq) fX7_ok qX7_ok
theorem tX7_count : em_tV mX7_count 1 7 := ⟨⟨em_in (k := 823) (by decide +kernel), em_in (k := 1) (by decide +kernel), ⟨by decide +kernel, by decide +kernel⟩, by decide +kernel, by decide +kernel⟩, em_in (k := 821) (by decide +kernel), _, rfl, em_in (k := 822) (by decide +kernel)⟩
def iX7_within : Nat → Option (Nat × Nat × Int32 × Nat) := em_tr 16 (fun pc => (bif Nat.blt pc 7 then (bif Nat.blt pc 2 then (bif Nat.blt pc 1 then (bif Nat.beq pc 0 then some (4, 0, 0, 1) else none) else (bif Nat.beq pc 1 then some (4, 1, 0, 2) else none)) else (bif Nat.blt pc 5 then (bif Nat.beq pc 2 then some (58, 14, 0, 5) else none) else (bif Nat.blt pc 6 then (bif Nat.beq pc 5 then some (4, 0, 0, 6) else none) else (bif Nat.beq pc 6 then some (4, 2, 0, 7) else none)))) else (bif Nat.blt pc 11 then (bif Nat.blt pc 10 then (bif Nat.beq pc 7 then some (60, 14, 0, 10) else none) else (bif Nat.beq pc 10 then some (0, 0, 1, 11) else none)) else (bif Nat.blt pc 14 then (bif Nat.beq pc 11 then some (32, 15, 0, 14) else none) else (bif Nat.blt pc 15 then (bif Nat.beq pc 14 then some (0, 0, 0, 15) else none) else (bif Nat.beq pc 15 then some (83, 0, 0, 16) else none))))))
def mX7_within : em_Me := ((RX7, yX7_within, cX7_within, 3, (some .boolean)), iX7_within, fX7, qX7)
theorem rX7_within_0 : em_ckR RX7 cX7_within iX7_within 0 16 = true := by decide +kernel
theorem kX7_within : em_ok mX7_within := em_okM (N := 16) rfl (fun pc hpc q hq => em_ckR_at rX7_within_0 (by omega) (by omega) hq) fX7_ok qX7_ok
theorem tX7_within : em_tS mX7_within 3 := ⟨⟨em_in (k := 254) (by decide +kernel), em_in (k := 1) (by decide +kernel), ⟨by decide +kernel, by decide +kernel⟩, by decide +kernel, by decide +kernel⟩, em_in (k := 253) (by decide +kernel)⟩
def iX7_isKind : Nat → Option (Nat × Nat × Int32 × Nat) := em_tr 8 (fun pc => (bif Nat.blt pc 2 then (bif Nat.blt pc 1 then (bif Nat.beq pc 0 then some (4, 0, 0, 1) else none) else (bif Nat.beq pc 1 then some (0, 0, 0, 2) else none)) else (bif Nat.blt pc 4 then (bif Nat.beq pc 2 then some (1, 0, 7, 4) else none) else (bif Nat.blt pc 7 then (bif Nat.beq pc 4 then some (80, 68, 0, 7) else none) else (bif Nat.beq pc 7 then some (83, 0, 0, 8) else none)))))
def mX7_isKind : em_Me := ((RX7, yX7_isKind, cX7_isKind, 1, (some .boolean)), iX7_isKind, fX7, qX7)
theorem rX7_isKind_0 : em_ckR RX7 cX7_isKind iX7_isKind 0 8 = true := by decide +kernel
theorem kX7_isKind : em_ok mX7_isKind := em_okM (N := 8) rfl (fun pc hpc q hq => em_ckR_at rX7_isKind_0 (by omega) (by omega) hq) fX7_ok qX7_ok
theorem tX7_isKind : em_tS mX7_isKind 1 := ⟨⟨em_in (k := 251) (by decide +kernel), em_in (k := 1) (by decide +kernel), ⟨by decide +kernel, by decide +kernel⟩, by decide +kernel, by decide +kernel⟩, em_in (k := 250) (by decide +kernel)⟩
def iX7_has : Nat → Option (Nat × Nat × Int32 × Nat) := em_tr 14 (fun pc => (bif Nat.blt pc 5 then (bif Nat.blt pc 2 then (bif Nat.blt pc 1 then (bif Nat.beq pc 0 then some (4, 0, 0, 1) else none) else (bif Nat.beq pc 1 then some (4, 1, 0, 2) else none)) else (bif Nat.blt pc 3 then (bif Nat.beq pc 2 then some (24, 0, 0, 3) else none) else (bif Nat.blt pc 4 then (bif Nat.beq pc 3 then some (0, 0, 1, 4) else none) else (bif Nat.beq pc 4 then some (20, 0, 0, 5) else none)))) else (bif Nat.blt pc 9 then (bif Nat.blt pc 8 then (bif Nat.beq pc 5 then some (50, 12, 0, 8) else none) else (bif Nat.beq pc 8 then some (0, 0, 1, 9) else none)) else (bif Nat.blt pc 12 then (bif Nat.beq pc 9 then some (32, 13, 0, 12) else none) else (bif Nat.blt pc 13 then (bif Nat.beq pc 12 then some (0, 0, 0, 13) else none) else (bif Nat.beq pc 13 then some (83, 0, 0, 14) else none))))))
def mX7_has : em_Me := ((RX7, yX7_has, cX7_has, 2, (some .boolean)), iX7_has, fX7, qX7)
theorem rX7_has_0 : em_ckR RX7 cX7_has iX7_has 0 14 = true := by decide +kernel
theorem kX7_has : em_ok mX7_has := em_okM (N := 14) rfl (fun pc hpc q hq => em_ckR_at rX7_has_0 (by omega) (by omega) hq) fX7_ok qX7_ok
theorem tX7_has : em_tS mX7_has 2 := ⟨⟨em_in (k := 425) (by decide +kernel), em_in (k := 1) (by decide +kernel), ⟨by decide +kernel, by decide +kernel⟩, by decide +kernel, by decide +kernel⟩, em_in (k := 424) (by decide +kernel)⟩
def iX8_init : Nat → Option (Nat × Nat × Int32 × Nat) := em_tr 334 (fun pc => (bif Nat.blt pc 176 then (bif Nat.blt pc 85 then (bif Nat.blt pc 41 then (bif Nat.blt pc 18 then (bif Nat.blt pc 9 then (bif Nat.blt pc 4 then (bif Nat.blt pc 1 then (bif Nat.beq pc 0 then some (8, 0, 0, 1) else none) else (bif Nat.beq pc 1 then some (82, 1, 0, 4) else none)) else (bif Nat.blt pc 5 then (bif Nat.beq pc 4 then some (8, 0, 0, 5) else none) else (bif Nat.blt pc 6 then (bif Nat.beq pc 5 then some (0, 0, (-1), 6) else none) else (bif Nat.beq pc 6 then some (74, 9, 0, 9) else none)))) else (bif Nat.blt pc 12 then (bif Nat.blt pc 10 then (bif Nat.beq pc 9 then some (8, 0, 0, 10) else none) else (bif Nat.beq pc 10 then some (1, 0, 8, 12) else none)) else (bif Nat.blt pc 14 then (bif Nat.beq pc 12 then some (76, 0, 0, 14) else none) else (bif Nat.blt pc 17 then (bif Nat.beq pc 14 then some (74, 13, 0, 17) else none) else (bif Nat.beq pc 17 then some (8, 0, 0, 18) else none))))) else (bif Nat.blt pc 28 then (bif Nat.blt pc 22 then (bif Nat.blt pc 20 then (bif Nat.beq pc 18 then some (1, 0, 8, 20) else none) else (bif Nat.beq pc 20 then some (76, 0, 0, 22) else none)) else (bif Nat.blt pc 25 then (bif Nat.beq pc 22 then some (74, 17, 0, 25) else none) else (bif Nat.blt pc 26 then (bif Nat.beq pc 25 then some (8, 0, 0, 26) else none) else (bif Nat.beq pc 26 then some (1, 0, 40, 28) else none)))) else (bif Nat.blt pc 34 then (bif Nat.blt pc 30 then (bif Nat.beq pc 28 then some (76, 0, 0, 30) else none) else (bif Nat.blt pc 33 then (bif Nat.beq pc 30 then some (74, 20, 0, 33) else none) else (bif Nat.beq pc 33 then some (8, 0, 0, 34) else none))) else (bif Nat.blt pc 36 then (bif Nat.beq pc 34 then some (1, 0, 40, 36) else none) else (bif Nat.blt pc 38 then (bif Nat.beq pc 36 then some (76, 0, 0, 38) else none) else (bif Nat.beq pc 38 then some (74, 23, 0, 41) else none)))))) else (bif Nat.blt pc 61 then (bif Nat.blt pc 50 then (bif Nat.blt pc 44 then (bif Nat.blt pc 42 then (bif Nat.beq pc 41 then some (8, 0, 0, 42) else none) else (bif Nat.beq pc 42 then some (1, 0, 40, 44) else none)) else (bif Nat.blt pc 46 then (bif Nat.beq pc 44 then some (76, 0, 0, 46) else none) else (bif Nat.blt pc 49 then (bif Nat.beq pc 46 then some (74, 26, 0, 49) else none) else (bif Nat.beq pc 49 then some (8, 0, 0, 50) else none)))) else (bif Nat.blt pc 54 then (bif Nat.blt pc 52 then (bif Nat.beq pc 50 then some (1, 0, 40, 52) else none) else (bif Nat.beq pc 52 then some (76, 0, 0, 54) else none)) else (bif Nat.blt pc 57 then (bif Nat.beq pc 54 then some (74, 29, 0, 57) else none) else (bif Nat.blt pc 58 then (bif Nat.beq pc 57 then some (8, 0, 0, 58) else none) else (bif Nat.beq pc 58 then some (2, 0, 200, 61) else none))))) else (bif Nat.blt pc 72 then (bif Nat.blt pc 66 then (bif Nat.blt pc 63 then (bif Nat.beq pc 61 then some (76, 0, 0, 63) else none) else (bif Nat.beq pc 63 then some (74, 32, 0, 66) else none)) else (bif Nat.blt pc 67 then (bif Nat.beq pc 66 then some (8, 0, 0, 67) else none) else (bif Nat.blt pc 70 then (bif Nat.beq pc 67 then some (2, 0, 200, 70) else none) else (bif Nat.beq pc 70 then some (76, 0, 0, 72) else none)))) else (bif Nat.blt pc 79 then (bif Nat.blt pc 75 then (bif Nat.beq pc 72 then some (74, 35, 0, 75) else none) else (bif Nat.blt pc 76 then (bif Nat.beq pc 75 then some (8, 0, 0, 76) else none) else (bif Nat.beq pc 76 then some (2, 0, 200, 79) else none))) else (bif Nat.blt pc 81 then (bif Nat.beq pc 79 then some (76, 0, 0, 81) else none) else (bif Nat.blt pc 84 then (bif Nat.beq pc 81 then some (74, 38, 0, 84) else none) else (bif Nat.beq pc 84 then some (8, 0, 0, 85) else none))))))) else (bif Nat.blt pc 131 then (bif Nat.blt pc 108 then (bif Nat.blt pc 97 then (bif Nat.blt pc 90 then (bif Nat.blt pc 88 then (bif Nat.beq pc 85 then some (2, 0, 402, 88) else none) else (bif Nat.beq pc 88 then some (76, 0, 0, 90) else none)) else (bif Nat.blt pc 93 then (bif Nat.beq pc 90 then some (74, 41, 0, 93) else none) else (bif Nat.blt pc 94 then (bif Nat.beq pc 93 then some (8, 0, 0, 94) else none) else (bif Nat.beq pc 94 then some (2, 0, 256, 97) else none)))) else (bif Nat.blt pc 102 then (bif Nat.blt pc 99 then (bif Nat.beq pc 97 then some (76, 0, 0, 99) else none) else (bif Nat.beq pc 99 then some (74, 44, 0, 102) else none)) else (bif Nat.blt pc 103 then (bif Nat.beq pc 102 then some (8, 0, 0, 103) else none) else (bif Nat.blt pc 106 then (bif Nat.beq pc 103 then some (2, 0, 256, 106) else none) else (bif Nat.beq pc 106 then some (76, 0, 0, 108) else none))))) else (bif Nat.blt pc 120 then (bif Nat.blt pc 112 then (bif Nat.blt pc 111 then (bif Nat.beq pc 108 then some (74, 47, 0, 111) else none) else (bif Nat.beq pc 111 then some (8, 0, 0, 112) else none)) else (bif Nat.blt pc 115 then (bif Nat.beq pc 112 then some (2, 0, 256, 115) else none) else (bif Nat.blt pc 117 then (bif Nat.beq pc 115 then some (76, 0, 0, 117) else none) else (bif Nat.beq pc 117 then some (74, 50, 0, 120) else none)))) else (bif Nat.blt pc 125 then (bif Nat.blt pc 121 then (bif Nat.beq pc 120 then some (8, 0, 0, 121) else none) else (bif Nat.blt pc 123 then (bif Nat.beq pc 121 then some (1, 0, 64, 123) else none) else (bif Nat.beq pc 123 then some (78, 0, 0, 125) else none))) else (bif Nat.blt pc 128 then (bif Nat.beq pc 125 then some (74, 53, 0, 128) else none) else (bif Nat.blt pc 129 then (bif Nat.beq pc 128 then some (8, 0, 0, 129) else none) else (bif Nat.beq pc 129 then some (1, 0, 8, 131) else none)))))) else (bif Nat.blt pc 153 then (bif Nat.blt pc 141 then (bif Nat.blt pc 136 then (bif Nat.blt pc 133 then (bif Nat.beq pc 131 then some (76, 0, 0, 133) else none) else (bif Nat.beq pc 133 then some (74, 57, 0, 136) else none)) else (bif Nat.blt pc 137 then (bif Nat.beq pc 136 then some (8, 0, 0, 137) else none) else (bif Nat.blt pc 139 then (bif Nat.beq pc 137 then some (1, 0, 8, 139) else none) else (bif Nat.beq pc 139 then some (78, 0, 0, 141) else none)))) else (bif Nat.blt pc 147 then (bif Nat.blt pc 144 then (bif Nat.beq pc 141 then some (74, 60, 0, 144) else none) else (bif Nat.blt pc 145 then (bif Nat.beq pc 144 then some (8, 0, 0, 145) else none) else (bif Nat.beq pc 145 then some (1, 0, 64, 147) else none))) else (bif Nat.blt pc 149 then (bif Nat.beq pc 147 then some (78, 0, 0, 149) else none) else (bif Nat.blt pc 152 then (bif Nat.beq pc 149 then some (74, 63, 0, 152) else none) else (bif Nat.beq pc 152 then some (8, 0, 0, 153) else none))))) else (bif Nat.blt pc 163 then (bif Nat.blt pc 157 then (bif Nat.blt pc 155 then (bif Nat.beq pc 153 then some (1, 0, 8, 155) else none) else (bif Nat.beq pc 155 then some (76, 0, 0, 157) else none)) else (bif Nat.blt pc 160 then (bif Nat.beq pc 157 then some (74, 66, 0, 160) else none) else (bif Nat.blt pc 161 then (bif Nat.beq pc 160 then some (8, 0, 0, 161) else none) else (bif Nat.beq pc 161 then some (1, 0, 8, 163) else none)))) else (bif Nat.blt pc 169 then (bif Nat.blt pc 165 then (bif Nat.beq pc 163 then some (76, 0, 0, 165) else none) else (bif Nat.blt pc 168 then (bif Nat.beq pc 165 then some (74, 69, 0, 168) else none) else (bif Nat.beq pc 168 then some (8, 0, 0, 169) else none))) else (bif Nat.blt pc 171 then (bif Nat.beq pc 169 then some (1, 0, 8, 171) else none) else (bif Nat.blt pc 173 then (bif Nat.beq pc 171 then some (76, 0, 0, 173) else none) else (bif Nat.beq pc 173 then some (74, 72, 0, 176) else none)))))))) else (bif Nat.blt pc 259 then (bif Nat.blt pc 218 then (bif Nat.blt pc 195 then (bif Nat.blt pc 185 then (bif Nat.blt pc 179 then (bif Nat.blt pc 177 then (bif Nat.beq pc 176 then some (8, 0, 0, 177) else none) else (bif Nat.beq pc 177 then some (1, 0, 64, 179) else none)) else (bif Nat.blt pc 181 then (bif Nat.beq pc 179 then some (76, 0, 0, 181) else none) else (bif Nat.blt pc 184 then (bif Nat.beq pc 181 then some (74, 75, 0, 184) else none) else (bif Nat.beq pc 184 then some (8, 0, 0, 185) else none)))) else (bif Nat.blt pc 189 then (bif Nat.blt pc 187 then (bif Nat.beq pc 185 then some (1, 0, 8, 187) else none) else (bif Nat.beq pc 187 then some (76, 0, 0, 189) else none)) else (bif Nat.blt pc 192 then (bif Nat.beq pc 189 then some (74, 78, 0, 192) else none) else (bif Nat.blt pc 193 then (bif Nat.beq pc 192 then some (8, 0, 0, 193) else none) else (bif Nat.beq pc 193 then some (1, 0, 8, 195) else none))))) else (bif Nat.blt pc 206 then (bif Nat.blt pc 200 then (bif Nat.blt pc 197 then (bif Nat.beq pc 195 then some (76, 0, 0, 197) else none) else (bif Nat.beq pc 197 then some (74, 81, 0, 200) else none)) else (bif Nat.blt pc 201 then (bif Nat.beq pc 200 then some (8, 0, 0, 201) else none) else (bif Nat.blt pc 204 then (bif Nat.beq pc 201 then some (2, 0, 220, 204) else none) else (bif Nat.beq pc 204 then some (76, 0, 0, 206) else none)))) else (bif Nat.blt pc 212 then (bif Nat.blt pc 209 then (bif Nat.beq pc 206 then some (74, 84, 0, 209) else none) else (bif Nat.blt pc 210 then (bif Nat.beq pc 209 then some (8, 0, 0, 210) else none) else (bif Nat.beq pc 210 then some (1, 0, 8, 212) else none))) else (bif Nat.blt pc 214 then (bif Nat.beq pc 212 then some (76, 0, 0, 214) else none) else (bif Nat.blt pc 217 then (bif Nat.beq pc 214 then some (74, 87, 0, 217) else none) else (bif Nat.beq pc 217 then some (8, 0, 0, 218) else none)))))) else (bif Nat.blt pc 237 then (bif Nat.blt pc 228 then (bif Nat.blt pc 222 then (bif Nat.blt pc 220 then (bif Nat.beq pc 218 then some (1, 0, 40, 220) else none) else (bif Nat.beq pc 220 then some (76, 0, 0, 222) else none)) else (bif Nat.blt pc 225 then (bif Nat.beq pc 222 then some (74, 90, 0, 225) else none) else (bif Nat.blt pc 226 then (bif Nat.beq pc 225 then some (8, 0, 0, 226) else none) else (bif Nat.beq pc 226 then some (1, 0, 8, 228) else none)))) else (bif Nat.blt pc 233 then (bif Nat.blt pc 230 then (bif Nat.beq pc 228 then some (78, 0, 0, 230) else none) else (bif Nat.beq pc 230 then some (74, 93, 0, 233) else none)) else (bif Nat.blt pc 234 then (bif Nat.beq pc 233 then some (8, 0, 0, 234) else none) else (bif Nat.blt pc 235 then (bif Nat.beq pc 234 then some (0, 0, 5, 235) else none) else (bif Nat.beq pc 235 then some (76, 0, 0, 237) else none))))) else (bif Nat.blt pc 248 then (bif Nat.blt pc 241 then (bif Nat.blt pc 240 then (bif Nat.beq pc 237 then some (74, 96, 0, 240) else none) else (bif Nat.beq pc 240 then some (8, 0, 0, 241) else none)) else (bif Nat.blt pc 243 then (bif Nat.beq pc 241 then some (1, 0, 64, 243) else none) else (bif Nat.blt pc 245 then (bif Nat.beq pc 243 then some (78, 0, 0, 245) else none) else (bif Nat.beq pc 245 then some (74, 99, 0, 248) else none)))) else (bif Nat.blt pc 253 then (bif Nat.blt pc 249 then (bif Nat.beq pc 248 then some (8, 0, 0, 249) else none) else (bif Nat.blt pc 251 then (bif Nat.beq pc 249 then some (1, 0, 64, 251) else none) else (bif Nat.beq pc 251 then some (77, 0, 0, 253) else none))) else (bif Nat.blt pc 256 then (bif Nat.beq pc 253 then some (74, 102, 0, 256) else none) else (bif Nat.blt pc 257 then (bif Nat.beq pc 256 then some (8, 0, 0, 257) else none) else (bif Nat.beq pc 257 then some (1, 0, 64, 259) else none))))))) else (bif Nat.blt pc 294 then (bif Nat.blt pc 277 then (bif Nat.blt pc 267 then (bif Nat.blt pc 264 then (bif Nat.blt pc 261 then (bif Nat.beq pc 259 then some (77, 0, 0, 261) else none) else (bif Nat.beq pc 261 then some (74, 106, 0, 264) else none)) else (bif Nat.blt pc 265 then (bif Nat.beq pc 264 then some (0, 0, 0, 265) else none) else (bif Nat.blt pc 266 then (bif Nat.beq pc 265 then some (10, 1, 0, 266) else none) else (bif Nat.beq pc 266 then some (4, 1, 0, 267) else none)))) else (bif Nat.blt pc 272 then (bif Nat.blt pc 269 then (bif Nat.beq pc 267 then some (1, 0, 8, 269) else none) else (bif Nat.beq pc 269 then some (59, 292, 0, 272) else none)) else (bif Nat.blt pc 273 then (bif Nat.beq pc 272 then some (8, 0, 0, 273) else none) else (bif Nat.blt pc 276 then (bif Nat.beq pc 273 then some (33, 13, 0, 276) else none) else (bif Nat.beq pc 276 then some (4, 1, 0, 277) else none))))) else (bif Nat.blt pc 284 then (bif Nat.blt pc 279 then (bif Nat.blt pc 278 then (bif Nat.beq pc 277 then some (0, 0, 1, 278) else none) else (bif Nat.beq pc 278 then some (66, 0, 0, 279) else none)) else (bif Nat.blt pc 280 then (bif Nat.beq pc 279 then some (8, 0, 0, 280) else none) else (bif Nat.blt pc 283 then (bif Nat.beq pc 280 then some (33, 17, 0, 283) else none) else (bif Nat.beq pc 283 then some (4, 1, 0, 284) else none)))) else (bif Nat.blt pc 289 then (bif Nat.blt pc 285 then (bif Nat.beq pc 284 then some (0, 0, 1, 285) else none) else (bif Nat.blt pc 286 then (bif Nat.beq pc 285 then some (66, 0, 0, 286) else none) else (bif Nat.beq pc 286 then some (16, 1, 1, 289) else none))) else (bif Nat.blt pc 292 then (bif Nat.beq pc 289 then some (32, 266, 0, 292) else none) else (bif Nat.blt pc 293 then (bif Nat.beq pc 292 then some (0, 0, 0, 293) else none) else (bif Nat.beq pc 293 then some (10, 1, 0, 294) else none)))))) else (bif Nat.blt pc 314 then (bif Nat.blt pc 302 then (bif Nat.blt pc 297 then (bif Nat.blt pc 295 then (bif Nat.beq pc 294 then some (4, 1, 0, 295) else none) else (bif Nat.beq pc 295 then some (1, 0, 8, 297) else none)) else (bif Nat.blt pc 300 then (bif Nat.beq pc 297 then some (59, 333, 0, 300) else none) else (bif Nat.blt pc 301 then (bif Nat.beq pc 300 then some (0, 0, 0, 301) else none) else (bif Nat.beq pc 301 then some (10, 2, 0, 302) else none)))) else (bif Nat.blt pc 308 then (bif Nat.blt pc 303 then (bif Nat.beq pc 302 then some (4, 2, 0, 303) else none) else (bif Nat.blt pc 305 then (bif Nat.beq pc 303 then some (1, 0, 8, 305) else none) else (bif Nat.beq pc 305 then some (59, 327, 0, 308) else none))) else (bif Nat.blt pc 309 then (bif Nat.beq pc 308 then some (8, 0, 0, 309) else none) else (bif Nat.blt pc 312 then (bif Nat.beq pc 309 then some (33, 75, 0, 312) else none) else (bif Nat.beq pc 312 then some (1, 0, 8, 314) else none))))) else (bif Nat.blt pc 320 then (bif Nat.blt pc 316 then (bif Nat.blt pc 315 then (bif Nat.beq pc 314 then some (4, 1, 0, 315) else none) else (bif Nat.beq pc 315 then some (19, 0, 0, 316) else none)) else (bif Nat.blt pc 317 then (bif Nat.beq pc 316 then some (4, 2, 0, 317) else none) else (bif Nat.blt pc 318 then (bif Nat.beq pc 317 then some (17, 0, 0, 318) else none) else (bif Nat.beq pc 318 then some (1, 0, 9, 320) else none)))) else (bif Nat.blt pc 327 then (bif Nat.blt pc 321 then (bif Nat.beq pc 320 then some (66, 0, 0, 321) else none) else (bif Nat.blt pc 324 then (bif Nat.beq pc 321 then some (16, 2, 1, 324) else none) else (bif Nat.beq pc 324 then some (32, 302, 0, 327) else none))) else (bif Nat.blt pc 330 then (bif Nat.beq pc 327 then some (16, 1, 1, 330) else none) else (bif Nat.blt pc 333 then (bif Nat.beq pc 330 then some (32, 294, 0, 333) else none) else (bif Nat.beq pc 333 then some (86, 0, 0, 334) else none))))))))))
def mX8_init : em_Me := ((RX8, yX8_init, cX8_init, 3, none), iX8_init, fX8, qX8)
theorem rX8_init_0 : em_ckR RX8 cX8_init iX8_init 0 60 = true := by decide +kernel
theorem rX8_init_1 : em_ckR RX8 cX8_init iX8_init 60 60 = true := by decide +kernel
theorem rX8_init_2 : em_ckR RX8 cX8_init iX8_init 120 60 = true := by decide +kernel
theorem rX8_init_3 : em_ckR RX8 cX8_init iX8_init 180 60 = true := by decide +kernel
theorem rX8_init_4 : em_ckR RX8 cX8_init iX8_init 240 60 = true := by decide +kernel
theorem rX8_init_5 : em_ckR RX8 cX8_init iX8_init 300 34 = true := by decide +kernel
theorem kX8_init : em_ok mX8_init := em_okM (N := 334) rfl (fun pc hpc q hq => if h0 : pc < 60 then em_ckR_at rX8_init_0 (by omega) (by omega) hq else if h1 : pc < 120 then em_ckR_at rX8_init_1 (by omega) (by omega) hq else if h2 : pc < 180 then em_ckR_at rX8_init_2 (by omega) (by omega) hq else if h3 : pc < 240 then em_ckR_at rX8_init_3 (by omega) (by omega) hq else if h4 : pc < 300 then em_ckR_at rX8_init_4 (by omega) (by omega) hq else em_ckR_at rX8_init_5 (by omega) (by omega) hq) fX8_ok qX8_ok
theorem tX8_init : em_tI mX8_init 0 := ⟨⟨em_in (k := 854) (by decide +kernel), em_in (k := 10) (by decide +kernel), ⟨by decide +kernel, by decide +kernel⟩, by decide +kernel, by decide +kernel⟩, em_in (k := 853) (by decide +kernel), rfl, rfl⟩
def iX8_in : Nat → Option (Nat × Nat × Int32 × Nat) := em_tr 16 (fun pc => (bif Nat.blt pc 7 then (bif Nat.blt pc 2 then (bif Nat.blt pc 1 then (bif Nat.beq pc 0 then some (4, 0, 0, 1) else none) else (bif Nat.beq pc 1 then some (4, 1, 0, 2) else none)) else (bif Nat.blt pc 5 then (bif Nat.beq pc 2 then some (58, 14, 0, 5) else none) else (bif Nat.blt pc 6 then (bif Nat.beq pc 5 then some (4, 0, 0, 6) else none) else (bif Nat.beq pc 6 then some (4, 2, 0, 7) else none)))) else (bif Nat.blt pc 11 then (bif Nat.blt pc 10 then (bif Nat.beq pc 7 then some (60, 14, 0, 10) else none) else (bif Nat.beq pc 10 then some (0, 0, 1, 11) else none)) else (bif Nat.blt pc 14 then (bif Nat.beq pc 11 then some (32, 15, 0, 14) else none) else (bif Nat.blt pc 15 then (bif Nat.beq pc 14 then some (0, 0, 0, 15) else none) else (bif Nat.beq pc 15 then some (83, 0, 0, 16) else none))))))
def mX8_in : em_Me := ((RX8, yX8_in, cX8_in, 3, (some .boolean)), iX8_in, fX8, qX8)
theorem rX8_in_0 : em_ckR RX8 cX8_in iX8_in 0 16 = true := by decide +kernel
theorem kX8_in : em_ok mX8_in := em_okM (N := 16) rfl (fun pc hpc q hq => em_ckR_at rX8_in_0 (by omega) (by omega) hq) fX8_ok qX8_ok
theorem tX8_in : em_tS mX8_in 3 := ⟨⟨em_in (k := 995) (by decide +kernel), em_in (k := 10) (by decide +kernel), ⟨by decide +kernel, by decide +kernel⟩, by decide +kernel, by decide +kernel⟩, em_in (k := 994) (by decide +kernel)⟩
def iX8_isBeast : Nat → Option (Nat × Nat × Int32 × Nat) := em_tr 12 (fun pc => (bif Nat.blt pc 6 then (bif Nat.blt pc 2 then (bif Nat.blt pc 1 then (bif Nat.beq pc 0 then some (4, 1, 0, 1) else none) else (bif Nat.beq pc 1 then some (0, 0, 0, 2) else none)) else (bif Nat.blt pc 3 then (bif Nat.beq pc 2 then some (8, 0, 0, 3) else none) else (bif Nat.beq pc 3 then some (33, 109, 0, 6) else none))) else (bif Nat.blt pc 8 then (bif Nat.blt pc 7 then (bif Nat.beq pc 6 then some (0, 0, 1, 7) else none) else (bif Nat.beq pc 7 then some (18, 0, 0, 8) else none)) else (bif Nat.blt pc 11 then (bif Nat.beq pc 8 then some (80, 112, 0, 11) else none) else (bif Nat.beq pc 11 then some (83, 0, 0, 12) else none)))))
def mX8_isBeast : em_Me := ((RX8, yX8_isBeast, cX8_isBeast, 2, (some .boolean)), iX8_isBeast, fX8, qX8)
theorem rX8_isBeast_0 : em_ckR RX8 cX8_isBeast iX8_isBeast 0 12 = true := by decide +kernel
theorem kX8_isBeast : em_ok mX8_isBeast := em_okM (N := 12) rfl (fun pc hpc q hq => em_ckR_at rX8_isBeast_0 (by omega) (by omega) hq) fX8_ok qX8_ok
theorem tX8_isBeast : em_tV mX8_isBeast 1 8 := ⟨⟨em_in (k := 1015) (by decide +kernel), em_in (k := 10) (by decide +kernel), ⟨by decide +kernel, by decide +kernel⟩, by decide +kernel, by decide +kernel⟩, em_in (k := 1014) (by decide +kernel), _, rfl, List.mem_append_left _ (by decide +kernel)⟩
def iX8_isDay : Nat → Option (Nat × Nat × Int32 × Nat) := em_tr 10 (fun pc => (bif Nat.blt pc 3 then (bif Nat.blt pc 1 then (bif Nat.beq pc 0 then some (4, 1, 0, 1) else none) else (bif Nat.blt pc 2 then (bif Nat.beq pc 1 then some (0, 0, 0, 2) else none) else (bif Nat.beq pc 2 then some (8, 0, 0, 3) else none))) else (bif Nat.blt pc 6 then (bif Nat.beq pc 3 then some (33, 116, 0, 6) else none) else (bif Nat.blt pc 9 then (bif Nat.beq pc 6 then some (80, 112, 0, 9) else none) else (bif Nat.beq pc 9 then some (83, 0, 0, 10) else none)))))
def mX8_isDay : em_Me := ((RX8, yX8_isDay, cX8_isDay, 2, (some .boolean)), iX8_isDay, fX8, qX8)
theorem rX8_isDay_0 : em_ckR RX8 cX8_isDay iX8_isDay 0 10 = true := by decide +kernel
theorem kX8_isDay : em_ok mX8_isDay := em_okM (N := 10) rfl (fun pc hpc q hq => em_ckR_at rX8_isDay_0 (by omega) (by omega) hq) fX8_ok qX8_ok
theorem tX8_isDay : em_tV mX8_isDay 1 8 := ⟨⟨em_in (k := 1007) (by decide +kernel), em_in (k := 10) (by decide +kernel), ⟨by decide +kernel, by decide +kernel⟩, by decide +kernel, by decide +kernel⟩, em_in (k := 1006) (by decide +kernel), _, rfl, List.mem_append_left _ (by decide +kernel)⟩
def iX8_weightOf : Nat → Option (Nat × Nat × Int32 × Nat) := em_tr 48 (fun pc => (bif Nat.blt pc 23 then (bif Nat.blt pc 9 then (bif Nat.blt pc 3 then (bif Nat.blt pc 1 then (bif Nat.beq pc 0 then some (0, 0, 0, 1) else none) else (bif Nat.blt pc 2 then (bif Nat.beq pc 1 then some (10, 2, 0, 2) else none) else (bif Nat.beq pc 2 then some (0, 0, 0, 3) else none))) else (bif Nat.blt pc 5 then (bif Nat.blt pc 4 then (bif Nat.beq pc 3 then some (10, 3, 0, 4) else none) else (bif Nat.beq pc 4 then some (4, 3, 0, 5) else none)) else (bif Nat.blt pc 6 then (bif Nat.beq pc 5 then some (8, 0, 0, 6) else none) else (bif Nat.beq pc 6 then some (33, 109, 0, 9) else none)))) else (bif Nat.blt pc 17 then (bif Nat.blt pc 13 then (bif Nat.blt pc 12 then (bif Nat.beq pc 9 then some (59, 46, 0, 12) else none) else (bif Nat.beq pc 12 then some (4, 2, 0, 13) else none)) else (bif Nat.blt pc 14 then (bif Nat.beq pc 13 then some (8, 0, 0, 14) else none) else (bif Nat.beq pc 14 then some (33, 29, 0, 17) else none))) else (bif Nat.blt pc 19 then (bif Nat.blt pc 18 then (bif Nat.beq pc 17 then some (4, 3, 0, 18) else none) else (bif Nat.beq pc 18 then some (62, 0, 0, 19) else none)) else (bif Nat.blt pc 20 then (bif Nat.beq pc 19 then some (4, 1, 0, 20) else none) else (bif Nat.beq pc 20 then some (57, 37, 0, 23) else none))))) else (bif Nat.blt pc 34 then (bif Nat.blt pc 28 then (bif Nat.blt pc 24 then (bif Nat.beq pc 23 then some (8, 0, 0, 24) else none) else (bif Nat.blt pc 27 then (bif Nat.beq pc 24 then some (33, 17, 0, 27) else none) else (bif Nat.beq pc 27 then some (8, 0, 0, 28) else none))) else (bif Nat.blt pc 32 then (bif Nat.blt pc 31 then (bif Nat.beq pc 28 then some (33, 20, 0, 31) else none) else (bif Nat.beq pc 31 then some (4, 3, 0, 32) else none)) else (bif Nat.blt pc 33 then (bif Nat.beq pc 32 then some (62, 0, 0, 33) else none) else (bif Nat.beq pc 33 then some (62, 0, 0, 34) else none)))) else (bif Nat.blt pc 40 then (bif Nat.blt pc 38 then (bif Nat.blt pc 37 then (bif Nat.beq pc 34 then some (32, 38, 0, 37) else none) else (bif Nat.beq pc 37 then some (0, 0, 0, 38) else none)) else (bif Nat.blt pc 39 then (bif Nat.beq pc 38 then some (17, 0, 0, 39) else none) else (bif Nat.beq pc 39 then some (10, 2, 0, 40) else none))) else (bif Nat.blt pc 46 then (bif Nat.blt pc 43 then (bif Nat.beq pc 40 then some (16, 3, 1, 43) else none) else (bif Nat.beq pc 43 then some (32, 4, 0, 46) else none)) else (bif Nat.blt pc 47 then (bif Nat.beq pc 46 then some (4, 2, 0, 47) else none) else (bif Nat.beq pc 47 then some (83, 0, 0, 48) else none)))))))
def mX8_weightOf : em_Me := ((RX8, yX8_weightOf, cX8_weightOf, 4, (some .int)), iX8_weightOf, fX8, qX8)
theorem rX8_weightOf_0 : em_ckR RX8 cX8_weightOf iX8_weightOf 0 48 = true := by decide +kernel
theorem kX8_weightOf : em_ok mX8_weightOf := em_okM (N := 48) rfl (fun pc hpc q hq => em_ckR_at rX8_weightOf_0 (by omega) (by omega) hq) fX8_ok qX8_ok
theorem tX8_weightOf : em_tV mX8_weightOf 1 8 := ⟨⟨em_in (k := 999) (by decide +kernel), em_in (k := 10) (by decide +kernel), ⟨by decide +kernel, by decide +kernel⟩, by decide +kernel, by decide +kernel⟩, em_in (k := 998) (by decide +kernel), _, rfl, List.mem_append_left _ (by decide +kernel)⟩
def iX8_kind : Nat → Option (Nat × Nat × Int32 × Nat) := em_tr 115 (fun pc => (bif Nat.blt pc 54 then (bif Nat.blt pc 31 then (bif Nat.blt pc 12 then (bif Nat.blt pc 4 then (bif Nat.blt pc 1 then (bif Nat.beq pc 0 then some (4, 1, 0, 1) else none) else (bif Nat.blt pc 2 then (bif Nat.beq pc 1 then some (0, 0, 0, 2) else none) else (bif Nat.beq pc 2 then some (1, 0, 7, 4) else none))) else (bif Nat.blt pc 10 then (bif Nat.blt pc 7 then (bif Nat.beq pc 4 then some (80, 112, 0, 7) else none) else (bif Nat.beq pc 7 then some (50, 31, 0, 10) else none)) else (bif Nat.blt pc 11 then (bif Nat.beq pc 10 then some (4, 2, 0, 11) else none) else (bif Nat.beq pc 11 then some (0, 0, 0, 12) else none)))) else (bif Nat.blt pc 21 then (bif Nat.blt pc 17 then (bif Nat.blt pc 14 then (bif Nat.beq pc 12 then some (1, 0, 100, 14) else none) else (bif Nat.beq pc 14 then some (80, 112, 0, 17) else none)) else (bif Nat.blt pc 20 then (bif Nat.beq pc 17 then some (50, 31, 0, 20) else none) else (bif Nat.beq pc 20 then some (4, 3, 0, 21) else none))) else (bif Nat.blt pc 25 then (bif Nat.blt pc 22 then (bif Nat.beq pc 21 then some (0, 0, 1, 22) else none) else (bif Nat.beq pc 22 then some (2, 0, 1000, 25) else none)) else (bif Nat.blt pc 28 then (bif Nat.beq pc 25 then some (80, 112, 0, 28) else none) else (bif Nat.beq pc 28 then some (51, 33, 0, 31) else none))))) else (bif Nat.blt pc 42 then (bif Nat.blt pc 37 then (bif Nat.blt pc 33 then (bif Nat.blt pc 32 then (bif Nat.beq pc 31 then some (0, 0, 0, 32) else none) else (bif Nat.beq pc 32 then some (83, 0, 0, 33) else none)) else (bif Nat.blt pc 34 then (bif Nat.beq pc 33 then some (8, 0, 0, 34) else none) else (bif Nat.beq pc 34 then some (33, 17, 0, 37) else none))) else (bif Nat.blt pc 39 then (bif Nat.blt pc 38 then (bif Nat.beq pc 37 then some (4, 1, 0, 38) else none) else (bif Nat.beq pc 38 then some (62, 0, 0, 39) else none)) else (bif Nat.blt pc 41 then (bif Nat.beq pc 39 then some (11, 4, 0, 41) else none) else (bif Nat.beq pc 41 then some (8, 0, 0, 42) else none)))) else (bif Nat.blt pc 48 then (bif Nat.blt pc 46 then (bif Nat.blt pc 45 then (bif Nat.beq pc 42 then some (33, 17, 0, 45) else none) else (bif Nat.beq pc 45 then some (4, 1, 0, 46) else none)) else (bif Nat.blt pc 47 then (bif Nat.beq pc 46 then some (4, 3, 0, 47) else none) else (bif Nat.beq pc 47 then some (66, 0, 0, 48) else none))) else (bif Nat.blt pc 51 then (bif Nat.blt pc 49 then (bif Nat.beq pc 48 then some (0, 0, 1, 49) else none) else (bif Nat.beq pc 49 then some (11, 5, 0, 51) else none)) else (bif Nat.blt pc 52 then (bif Nat.beq pc 51 then some (0, 0, 0, 52) else none) else (bif Nat.beq pc 52 then some (11, 6, 0, 54) else none)))))) else (bif Nat.blt pc 91 then (bif Nat.blt pc 72 then (bif Nat.blt pc 63 then (bif Nat.blt pc 58 then (bif Nat.blt pc 56 then (bif Nat.beq pc 54 then some (5, 6, 0, 56) else none) else (bif Nat.beq pc 56 then some (1, 0, 8, 58) else none)) else (bif Nat.blt pc 61 then (bif Nat.beq pc 58 then some (59, 91, 0, 61) else none) else (bif Nat.beq pc 61 then some (5, 5, 0, 63) else none))) else (bif Nat.blt pc 67 then (bif Nat.blt pc 66 then (bif Nat.beq pc 63 then some (50, 82, 0, 66) else none) else (bif Nat.beq pc 66 then some (8, 0, 0, 67) else none)) else (bif Nat.blt pc 69 then (bif Nat.beq pc 67 then some (5, 6, 0, 69) else none) else (bif Nat.beq pc 69 then some (81, 119, 0, 72) else none)))) else (bif Nat.blt pc 82 then (bif Nat.blt pc 78 then (bif Nat.blt pc 75 then (bif Nat.beq pc 72 then some (2, 0, 2000, 75) else none) else (bif Nat.beq pc 75 then some (60, 82, 0, 78) else none)) else (bif Nat.blt pc 79 then (bif Nat.beq pc 78 then some (0, 0, 1, 79) else none) else (bif Nat.beq pc 79 then some (32, 83, 0, 82) else none))) else (bif Nat.blt pc 85 then (bif Nat.blt pc 83 then (bif Nat.beq pc 82 then some (0, 0, 0, 83) else none) else (bif Nat.beq pc 83 then some (11, 5, 0, 85) else none)) else (bif Nat.blt pc 88 then (bif Nat.beq pc 85 then some (16, 6, 1, 88) else none) else (bif Nat.beq pc 88 then some (32, 54, 0, 91) else none))))) else (bif Nat.blt pc 105 then (bif Nat.blt pc 100 then (bif Nat.blt pc 96 then (bif Nat.blt pc 93 then (bif Nat.beq pc 91 then some (5, 5, 0, 93) else none) else (bif Nat.beq pc 93 then some (51, 106, 0, 96) else none)) else (bif Nat.blt pc 97 then (bif Nat.beq pc 96 then some (8, 0, 0, 97) else none) else (bif Nat.beq pc 97 then some (33, 17, 0, 100) else none))) else (bif Nat.blt pc 103 then (bif Nat.blt pc 101 then (bif Nat.beq pc 100 then some (4, 1, 0, 101) else none) else (bif Nat.beq pc 101 then some (5, 4, 0, 103) else none)) else (bif Nat.blt pc 104 then (bif Nat.beq pc 103 then some (66, 0, 0, 104) else none) else (bif Nat.beq pc 104 then some (0, 0, 0, 105) else none)))) else (bif Nat.blt pc 111 then (bif Nat.blt pc 107 then (bif Nat.blt pc 106 then (bif Nat.beq pc 105 then some (83, 0, 0, 106) else none) else (bif Nat.beq pc 106 then some (8, 0, 0, 107) else none)) else (bif Nat.blt pc 110 then (bif Nat.beq pc 107 then some (33, 13, 0, 110) else none) else (bif Nat.beq pc 110 then some (4, 1, 0, 111) else none))) else (bif Nat.blt pc 113 then (bif Nat.blt pc 112 then (bif Nat.beq pc 111 then some (4, 2, 0, 112) else none) else (bif Nat.beq pc 112 then some (66, 0, 0, 113) else none)) else (bif Nat.blt pc 114 then (bif Nat.beq pc 113 then some (0, 0, 1, 114) else none) else (bif Nat.beq pc 114 then some (83, 0, 0, 115) else none))))))))
def mX8_kind : em_Me := ((RX8, yX8_kind, cX8_kind, 7, (some .boolean)), iX8_kind, fX8, qX8)
theorem rX8_kind_0 : em_ckR RX8 cX8_kind iX8_kind 0 60 = true := by decide +kernel
theorem rX8_kind_1 : em_ckR RX8 cX8_kind iX8_kind 60 55 = true := by decide +kernel
theorem kX8_kind : em_ok mX8_kind := em_okM (N := 115) rfl (fun pc hpc q hq => if h0 : pc < 60 then em_ckR_at rX8_kind_0 (by omega) (by omega) hq else em_ckR_at rX8_kind_1 (by omega) (by omega) hq) fX8_ok qX8_ok
theorem tX8_kind : em_tV mX8_kind 3 8 := ⟨⟨em_in (k := 992) (by decide +kernel), em_in (k := 10) (by decide +kernel), ⟨by decide +kernel, by decide +kernel⟩, by decide +kernel, by decide +kernel⟩, em_in (k := 990) (by decide +kernel), _, rfl, em_in (k := 991) (by decide +kernel)⟩
def iX8_beast : Nat → Option (Nat × Nat × Int32 × Nat) := em_tr 89 (fun pc => (bif Nat.blt pc 47 then (bif Nat.blt pc 24 then (bif Nat.blt pc 11 then (bif Nat.blt pc 4 then (bif Nat.blt pc 1 then (bif Nat.beq pc 0 then some (4, 1, 0, 1) else none) else (bif Nat.blt pc 2 then (bif Nat.beq pc 1 then some (0, 0, 0, 2) else none) else (bif Nat.beq pc 2 then some (1, 0, 7, 4) else none))) else (bif Nat.blt pc 7 then (bif Nat.beq pc 4 then some (80, 112, 0, 7) else none) else (bif Nat.blt pc 10 then (bif Nat.beq pc 7 then some (50, 27, 0, 10) else none) else (bif Nat.beq pc 10 then some (8, 0, 0, 11) else none)))) else (bif Nat.blt pc 18 then (bif Nat.blt pc 12 then (bif Nat.beq pc 11 then some (4, 2, 0, 12) else none) else (bif Nat.blt pc 15 then (bif Nat.beq pc 12 then some (81, 123, 0, 15) else none) else (bif Nat.beq pc 15 then some (50, 27, 0, 18) else none))) else (bif Nat.blt pc 19 then (bif Nat.beq pc 18 then some (8, 0, 0, 19) else none) else (bif Nat.blt pc 22 then (bif Nat.beq pc 19 then some (33, 109, 0, 22) else none) else (bif Nat.beq pc 22 then some (1, 0, 40, 24) else none))))) else (bif Nat.blt pc 34 then (bif Nat.blt pc 29 then (bif Nat.blt pc 27 then (bif Nat.beq pc 24 then some (57, 29, 0, 27) else none) else (bif Nat.blt pc 28 then (bif Nat.beq pc 27 then some (0, 0, (-1), 28) else none) else (bif Nat.beq pc 28 then some (83, 0, 0, 29) else none))) else (bif Nat.blt pc 30 then (bif Nat.beq pc 29 then some (8, 0, 0, 30) else none) else (bif Nat.blt pc 33 then (bif Nat.beq pc 30 then some (33, 20, 0, 33) else none) else (bif Nat.beq pc 33 then some (8, 0, 0, 34) else none)))) else (bif Nat.blt pc 39 then (bif Nat.blt pc 37 then (bif Nat.beq pc 34 then some (33, 109, 0, 37) else none) else (bif Nat.blt pc 38 then (bif Nat.beq pc 37 then some (4, 1, 0, 38) else none) else (bif Nat.beq pc 38 then some (66, 0, 0, 39) else none))) else (bif Nat.blt pc 43 then (bif Nat.blt pc 40 then (bif Nat.beq pc 39 then some (8, 0, 0, 40) else none) else (bif Nat.beq pc 40 then some (33, 23, 0, 43) else none)) else (bif Nat.blt pc 44 then (bif Nat.beq pc 43 then some (8, 0, 0, 44) else none) else (bif Nat.beq pc 44 then some (33, 109, 0, 47) else none)))))) else (bif Nat.blt pc 70 then (bif Nat.blt pc 57 then (bif Nat.blt pc 50 then (bif Nat.blt pc 48 then (bif Nat.beq pc 47 then some (4, 2, 0, 48) else none) else (bif Nat.blt pc 49 then (bif Nat.beq pc 48 then some (66, 0, 0, 49) else none) else (bif Nat.beq pc 49 then some (8, 0, 0, 50) else none))) else (bif Nat.blt pc 53 then (bif Nat.beq pc 50 then some (33, 26, 0, 53) else none) else (bif Nat.blt pc 54 then (bif Nat.beq pc 53 then some (8, 0, 0, 54) else none) else (bif Nat.beq pc 54 then some (33, 109, 0, 57) else none)))) else (bif Nat.blt pc 62 then (bif Nat.blt pc 58 then (bif Nat.beq pc 57 then some (8, 0, 0, 58) else none) else (bif Nat.blt pc 61 then (bif Nat.beq pc 58 then some (33, 116, 0, 61) else none) else (bif Nat.beq pc 61 then some (66, 0, 0, 62) else none))) else (bif Nat.blt pc 66 then (bif Nat.blt pc 63 then (bif Nat.beq pc 62 then some (8, 0, 0, 63) else none) else (bif Nat.beq pc 63 then some (33, 29, 0, 66) else none)) else (bif Nat.blt pc 67 then (bif Nat.beq pc 66 then some (8, 0, 0, 67) else none) else (bif Nat.beq pc 67 then some (33, 109, 0, 70) else none))))) else (bif Nat.blt pc 78 then (bif Nat.blt pc 73 then (bif Nat.blt pc 71 then (bif Nat.beq pc 70 then some (0, 0, (-1), 71) else none) else (bif Nat.blt pc 72 then (bif Nat.beq pc 71 then some (66, 0, 0, 72) else none) else (bif Nat.beq pc 72 then some (8, 0, 0, 73) else none))) else (bif Nat.blt pc 74 then (bif Nat.beq pc 73 then some (30, 0, 0, 74) else none) else (bif Nat.blt pc 77 then (bif Nat.beq pc 74 then some (33, 109, 0, 77) else none) else (bif Nat.beq pc 77 then some (0, 0, 1, 78) else none)))) else (bif Nat.blt pc 83 then (bif Nat.blt pc 79 then (bif Nat.beq pc 78 then some (17, 0, 0, 79) else none) else (bif Nat.blt pc 82 then (bif Nat.beq pc 79 then some (74, 109, 0, 82) else none) else (bif Nat.beq pc 82 then some (8, 0, 0, 83) else none))) else (bif Nat.blt pc 87 then (bif Nat.blt pc 86 then (bif Nat.beq pc 83 then some (33, 109, 0, 86) else none) else (bif Nat.beq pc 86 then some (0, 0, 1, 87) else none)) else (bif Nat.blt pc 88 then (bif Nat.beq pc 87 then some (18, 0, 0, 88) else none) else (bif Nat.beq pc 88 then some (83, 0, 0, 89) else none))))))))
def mX8_beast : em_Me := ((RX8, yX8_beast, cX8_beast, 3, (some .int)), iX8_beast, fX8, qX8)
theorem rX8_beast_0 : em_ckR RX8 cX8_beast iX8_beast 0 60 = true := by decide +kernel
theorem rX8_beast_1 : em_ckR RX8 cX8_beast iX8_beast 60 29 = true := by decide +kernel
theorem kX8_beast : em_ok mX8_beast := em_okM (N := 89) rfl (fun pc hpc q hq => if h0 : pc < 60 then em_ckR_at rX8_beast_0 (by omega) (by omega) hq else em_ckR_at rX8_beast_1 (by omega) (by omega) hq) fX8_ok qX8_ok
theorem tX8_beast : em_tV mX8_beast 2 8 := ⟨⟨em_in (k := 1003) (by decide +kernel), em_in (k := 10) (by decide +kernel), ⟨by decide +kernel, by decide +kernel⟩, by decide +kernel, by decide +kernel⟩, em_in (k := 1001) (by decide +kernel), _, rfl, em_in (k := 1002) (by decide +kernel)⟩
def iX8_gone : Nat → Option (Nat × Nat × Int32 × Nat) := em_tr 87 (fun pc => (bif Nat.blt pc 46 then (bif Nat.blt pc 20 then (bif Nat.blt pc 10 then (bif Nat.blt pc 5 then (bif Nat.blt pc 1 then (bif Nat.beq pc 0 then some (8, 0, 0, 1) else none) else (bif Nat.blt pc 2 then (bif Nat.beq pc 1 then some (4, 1, 0, 2) else none) else (bif Nat.beq pc 2 then some (81, 127, 0, 5) else none))) else (bif Nat.blt pc 8 then (bif Nat.beq pc 5 then some (50, 40, 0, 8) else none) else (bif Nat.blt pc 9 then (bif Nat.beq pc 8 then some (4, 2, 0, 9) else none) else (bif Nat.beq pc 9 then some (0, 0, (-1), 10) else none)))) else (bif Nat.blt pc 15 then (bif Nat.blt pc 13 then (bif Nat.beq pc 10 then some (56, 30, 0, 13) else none) else (bif Nat.blt pc 14 then (bif Nat.beq pc 13 then some (4, 2, 0, 14) else none) else (bif Nat.beq pc 14 then some (8, 0, 0, 15) else none))) else (bif Nat.blt pc 18 then (bif Nat.beq pc 15 then some (33, 23, 0, 18) else none) else (bif Nat.blt pc 19 then (bif Nat.beq pc 18 then some (4, 1, 0, 19) else none) else (bif Nat.beq pc 19 then some (62, 0, 0, 20) else none))))) else (bif Nat.blt pc 34 then (bif Nat.blt pc 27 then (bif Nat.blt pc 21 then (bif Nat.beq pc 20 then some (8, 0, 0, 21) else none) else (bif Nat.blt pc 24 then (bif Nat.beq pc 21 then some (33, 116, 0, 24) else none) else (bif Nat.beq pc 24 then some (80, 112, 0, 27) else none))) else (bif Nat.blt pc 30 then (bif Nat.beq pc 27 then some (50, 40, 0, 30) else none) else (bif Nat.blt pc 31 then (bif Nat.beq pc 30 then some (8, 0, 0, 31) else none) else (bif Nat.beq pc 31 then some (33, 130, 0, 34) else none)))) else (bif Nat.blt pc 41 then (bif Nat.blt pc 37 then (bif Nat.beq pc 34 then some (2, 0, 200, 37) else none) else (bif Nat.blt pc 40 then (bif Nat.beq pc 37 then some (57, 42, 0, 40) else none) else (bif Nat.beq pc 40 then some (0, 0, 0, 41) else none))) else (bif Nat.blt pc 42 then (bif Nat.beq pc 41 then some (83, 0, 0, 42) else none) else (bif Nat.blt pc 43 then (bif Nat.beq pc 42 then some (8, 0, 0, 43) else none) else (bif Nat.beq pc 43 then some (33, 32, 0, 46) else none)))))) else (bif Nat.blt pc 66 then (bif Nat.blt pc 56 then (bif Nat.blt pc 51 then (bif Nat.blt pc 47 then (bif Nat.beq pc 46 then some (8, 0, 0, 47) else none) else (bif Nat.blt pc 50 then (bif Nat.beq pc 47 then some (33, 130, 0, 50) else none) else (bif Nat.beq pc 50 then some (4, 1, 0, 51) else none))) else (bif Nat.blt pc 52 then (bif Nat.beq pc 51 then some (66, 0, 0, 52) else none) else (bif Nat.blt pc 53 then (bif Nat.beq pc 52 then some (8, 0, 0, 53) else none) else (bif Nat.beq pc 53 then some (33, 35, 0, 56) else none)))) else (bif Nat.blt pc 61 then (bif Nat.blt pc 57 then (bif Nat.beq pc 56 then some (8, 0, 0, 57) else none) else (bif Nat.blt pc 60 then (bif Nat.beq pc 57 then some (33, 130, 0, 60) else none) else (bif Nat.beq pc 60 then some (4, 2, 0, 61) else none))) else (bif Nat.blt pc 62 then (bif Nat.beq pc 61 then some (66, 0, 0, 62) else none) else (bif Nat.blt pc 63 then (bif Nat.beq pc 62 then some (8, 0, 0, 63) else none) else (bif Nat.beq pc 63 then some (33, 38, 0, 66) else none))))) else (bif Nat.blt pc 76 then (bif Nat.blt pc 71 then (bif Nat.blt pc 67 then (bif Nat.beq pc 66 then some (8, 0, 0, 67) else none) else (bif Nat.blt pc 70 then (bif Nat.beq pc 67 then some (33, 130, 0, 70) else none) else (bif Nat.beq pc 70 then some (8, 0, 0, 71) else none))) else (bif Nat.blt pc 74 then (bif Nat.beq pc 71 then some (33, 116, 0, 74) else none) else (bif Nat.blt pc 75 then (bif Nat.beq pc 74 then some (66, 0, 0, 75) else none) else (bif Nat.beq pc 75 then some (8, 0, 0, 76) else none)))) else (bif Nat.blt pc 81 then (bif Nat.blt pc 77 then (bif Nat.beq pc 76 then some (30, 0, 0, 77) else none) else (bif Nat.blt pc 80 then (bif Nat.beq pc 77 then some (33, 130, 0, 80) else none) else (bif Nat.beq pc 80 then some (0, 0, 1, 81) else none))) else (bif Nat.blt pc 85 then (bif Nat.blt pc 82 then (bif Nat.beq pc 81 then some (17, 0, 0, 82) else none) else (bif Nat.beq pc 82 then some (74, 130, 0, 85) else none)) else (bif Nat.blt pc 86 then (bif Nat.beq pc 85 then some (0, 0, 1, 86) else none) else (bif Nat.beq pc 86 then some (83, 0, 0, 87) else none))))))))
def mX8_gone : em_Me := ((RX8, yX8_gone, cX8_gone, 3, (some .boolean)), iX8_gone, fX8, qX8)
theorem rX8_gone_0 : em_ckR RX8 cX8_gone iX8_gone 0 60 = true := by decide +kernel
theorem rX8_gone_1 : em_ckR RX8 cX8_gone iX8_gone 60 27 = true := by decide +kernel
theorem kX8_gone : em_ok mX8_gone := em_okM (N := 87) rfl (fun pc hpc q hq => if h0 : pc < 60 then em_ckR_at rX8_gone_0 (by omega) (by omega) hq else em_ckR_at rX8_gone_1 (by omega) (by omega) hq) fX8_ok qX8_ok
theorem tX8_gone : em_tV mX8_gone 2 8 := ⟨⟨em_in (k := 1011) (by decide +kernel), em_in (k := 10) (by decide +kernel), ⟨by decide +kernel, by decide +kernel⟩, by decide +kernel, by decide +kernel⟩, em_in (k := 1009) (by decide +kernel), _, rfl, em_in (k := 1010) (by decide +kernel)⟩
def iX8_isHere : Nat → Option (Nat × Nat × Int32 × Nat) := em_tr 97 (fun pc => (bif Nat.blt pc 44 then (bif Nat.blt pc 21 then (bif Nat.blt pc 10 then (bif Nat.blt pc 5 then (bif Nat.blt pc 1 then (bif Nat.beq pc 0 then some (8, 0, 0, 1) else none) else (bif Nat.blt pc 4 then (bif Nat.beq pc 1 then some (33, 26, 0, 4) else none) else (bif Nat.beq pc 4 then some (4, 1, 0, 5) else none))) else (bif Nat.blt pc 6 then (bif Nat.beq pc 5 then some (62, 0, 0, 6) else none) else (bif Nat.blt pc 7 then (bif Nat.beq pc 6 then some (4, 3, 0, 7) else none) else (bif Nat.beq pc 7 then some (60, 20, 0, 10) else none)))) else (bif Nat.blt pc 15 then (bif Nat.blt pc 11 then (bif Nat.beq pc 10 then some (8, 0, 0, 11) else none) else (bif Nat.blt pc 14 then (bif Nat.beq pc 11 then some (33, 23, 0, 14) else none) else (bif Nat.beq pc 14 then some (4, 1, 0, 15) else none))) else (bif Nat.blt pc 17 then (bif Nat.blt pc 16 then (bif Nat.beq pc 15 then some (62, 0, 0, 16) else none) else (bif Nat.beq pc 16 then some (4, 2, 0, 17) else none)) else (bif Nat.blt pc 20 then (bif Nat.beq pc 17 then some (61, 22, 0, 20) else none) else (bif Nat.beq pc 20 then some (0, 0, 0, 21) else none))))) else (bif Nat.blt pc 30 then (bif Nat.blt pc 25 then (bif Nat.blt pc 22 then (bif Nat.beq pc 21 then some (83, 0, 0, 22) else none) else (bif Nat.blt pc 23 then (bif Nat.beq pc 22 then some (0, 0, (-1), 23) else none) else (bif Nat.beq pc 23 then some (11, 4, 0, 25) else none))) else (bif Nat.blt pc 26 then (bif Nat.beq pc 25 then some (0, 0, 0, 26) else none) else (bif Nat.blt pc 28 then (bif Nat.beq pc 26 then some (11, 5, 0, 28) else none) else (bif Nat.beq pc 28 then some (5, 5, 0, 30) else none)))) else (bif Nat.blt pc 37 then (bif Nat.blt pc 31 then (bif Nat.beq pc 30 then some (8, 0, 0, 31) else none) else (bif Nat.blt pc 34 then (bif Nat.beq pc 31 then some (33, 130, 0, 34) else none) else (bif Nat.beq pc 34 then some (59, 79, 0, 37) else none))) else (bif Nat.blt pc 41 then (bif Nat.blt pc 38 then (bif Nat.beq pc 37 then some (8, 0, 0, 38) else none) else (bif Nat.beq pc 38 then some (33, 32, 0, 41) else none)) else (bif Nat.blt pc 43 then (bif Nat.beq pc 41 then some (5, 5, 0, 43) else none) else (bif Nat.beq pc 43 then some (62, 0, 0, 44) else none)))))) else (bif Nat.blt pc 69 then (bif Nat.blt pc 55 then (bif Nat.blt pc 49 then (bif Nat.blt pc 45 then (bif Nat.beq pc 44 then some (4, 1, 0, 45) else none) else (bif Nat.blt pc 48 then (bif Nat.beq pc 45 then some (57, 69, 0, 48) else none) else (bif Nat.beq pc 48 then some (8, 0, 0, 49) else none))) else (bif Nat.blt pc 52 then (bif Nat.beq pc 49 then some (33, 38, 0, 52) else none) else (bif Nat.blt pc 54 then (bif Nat.beq pc 52 then some (5, 5, 0, 54) else none) else (bif Nat.beq pc 54 then some (62, 0, 0, 55) else none)))) else (bif Nat.blt pc 60 then (bif Nat.blt pc 56 then (bif Nat.beq pc 55 then some (4, 3, 0, 56) else none) else (bif Nat.blt pc 59 then (bif Nat.beq pc 56 then some (60, 69, 0, 59) else none) else (bif Nat.beq pc 59 then some (8, 0, 0, 60) else none))) else (bif Nat.blt pc 65 then (bif Nat.blt pc 63 then (bif Nat.beq pc 60 then some (33, 35, 0, 63) else none) else (bif Nat.beq pc 63 then some (5, 5, 0, 65) else none)) else (bif Nat.blt pc 66 then (bif Nat.beq pc 65 then some (62, 0, 0, 66) else none) else (bif Nat.beq pc 66 then some (32, 71, 0, 69) else none))))) else (bif Nat.blt pc 85 then (bif Nat.blt pc 76 then (bif Nat.blt pc 71 then (bif Nat.beq pc 69 then some (5, 4, 0, 71) else none) else (bif Nat.blt pc 73 then (bif Nat.beq pc 71 then some (11, 4, 0, 73) else none) else (bif Nat.beq pc 73 then some (16, 5, 1, 76) else none))) else (bif Nat.blt pc 81 then (bif Nat.blt pc 79 then (bif Nat.beq pc 76 then some (32, 28, 0, 79) else none) else (bif Nat.beq pc 79 then some (5, 4, 0, 81) else none)) else (bif Nat.blt pc 82 then (bif Nat.beq pc 81 then some (0, 0, (-1), 82) else none) else (bif Nat.beq pc 82 then some (56, 91, 0, 85) else none)))) else (bif Nat.blt pc 91 then (bif Nat.blt pc 87 then (bif Nat.beq pc 85 then some (5, 4, 0, 87) else none) else (bif Nat.blt pc 88 then (bif Nat.beq pc 87 then some (4, 2, 0, 88) else none) else (bif Nat.beq pc 88 then some (61, 95, 0, 91) else none))) else (bif Nat.blt pc 95 then (bif Nat.blt pc 92 then (bif Nat.beq pc 91 then some (0, 0, 1, 92) else none) else (bif Nat.beq pc 92 then some (32, 96, 0, 95) else none)) else (bif Nat.blt pc 96 then (bif Nat.beq pc 95 then some (0, 0, 0, 96) else none) else (bif Nat.beq pc 96 then some (83, 0, 0, 97) else none))))))))
def mX8_isHere : em_Me := ((RX8, yX8_isHere, cX8_isHere, 6, (some .boolean)), iX8_isHere, fX8, qX8)
theorem rX8_isHere_0 : em_ckR RX8 cX8_isHere iX8_isHere 0 60 = true := by decide +kernel
theorem rX8_isHere_1 : em_ckR RX8 cX8_isHere iX8_isHere 60 37 = true := by decide +kernel
theorem kX8_isHere : em_ok mX8_isHere := em_okM (N := 97) rfl (fun pc hpc q hq => if h0 : pc < 60 then em_ckR_at rX8_isHere_0 (by omega) (by omega) hq else em_ckR_at rX8_isHere_1 (by omega) (by omega) hq) fX8_ok qX8_ok
theorem tX8_isHere : em_tV mX8_isHere 3 8 := ⟨⟨em_in (k := 1023) (by decide +kernel), em_in (k := 10) (by decide +kernel), ⟨by decide +kernel, by decide +kernel⟩, by decide +kernel, by decide +kernel⟩, em_in (k := 1022) (by decide +kernel), _, rfl, List.mem_append_left _ (by decide +kernel)⟩
def iX8_here : Nat → Option (Nat × Nat × Int32 × Nat) := em_tr 40 (fun pc => (bif Nat.blt pc 21 then (bif Nat.blt pc 9 then (bif Nat.blt pc 2 then (bif Nat.blt pc 1 then (bif Nat.beq pc 0 then some (8, 0, 0, 1) else none) else (bif Nat.beq pc 1 then some (4, 1, 0, 2) else none)) else (bif Nat.blt pc 5 then (bif Nat.beq pc 2 then some (81, 127, 0, 5) else none) else (bif Nat.blt pc 8 then (bif Nat.beq pc 5 then some (50, 38, 0, 8) else none) else (bif Nat.beq pc 8 then some (8, 0, 0, 9) else none)))) else (bif Nat.blt pc 16 then (bif Nat.blt pc 10 then (bif Nat.beq pc 9 then some (4, 2, 0, 10) else none) else (bif Nat.blt pc 13 then (bif Nat.beq pc 10 then some (81, 123, 0, 13) else none) else (bif Nat.beq pc 13 then some (50, 38, 0, 16) else none))) else (bif Nat.blt pc 17 then (bif Nat.beq pc 16 then some (8, 0, 0, 17) else none) else (bif Nat.blt pc 18 then (bif Nat.beq pc 17 then some (4, 3, 0, 18) else none) else (bif Nat.beq pc 18 then some (81, 123, 0, 21) else none))))) else (bif Nat.blt pc 28 then (bif Nat.blt pc 25 then (bif Nat.blt pc 24 then (bif Nat.beq pc 21 then some (50, 38, 0, 24) else none) else (bif Nat.beq pc 24 then some (8, 0, 0, 25) else none)) else (bif Nat.blt pc 26 then (bif Nat.beq pc 25 then some (4, 1, 0, 26) else none) else (bif Nat.blt pc 27 then (bif Nat.beq pc 26 then some (4, 2, 0, 27) else none) else (bif Nat.beq pc 27 then some (4, 3, 0, 28) else none)))) else (bif Nat.blt pc 35 then (bif Nat.blt pc 31 then (bif Nat.beq pc 28 then some (81, 133, 0, 31) else none) else (bif Nat.blt pc 34 then (bif Nat.beq pc 31 then some (50, 38, 0, 34) else none) else (bif Nat.beq pc 34 then some (0, 0, 1, 35) else none))) else (bif Nat.blt pc 38 then (bif Nat.beq pc 35 then some (32, 39, 0, 38) else none) else (bif Nat.blt pc 39 then (bif Nat.beq pc 38 then some (0, 0, 0, 39) else none) else (bif Nat.beq pc 39 then some (83, 0, 0, 40) else none)))))))
def mX8_here : em_Me := ((RX8, yX8_here, cX8_here, 4, (some .boolean)), iX8_here, fX8, qX8)
theorem rX8_here_0 : em_ckR RX8 cX8_here iX8_here 0 40 = true := by decide +kernel
theorem kX8_here : em_ok mX8_here := em_okM (N := 40) rfl (fun pc hpc q hq => em_ckR_at rX8_here_0 (by omega) (by omega) hq) fX8_ok qX8_ok
theorem tX8_here : em_tV mX8_here 3 8 := ⟨⟨em_in (k := 1019) (by decide +kernel), em_in (k := 10) (by decide +kernel), ⟨by decide +kernel, by decide +kernel⟩, by decide +kernel, by decide +kernel⟩, em_in (k := 1017) (by decide +kernel), _, rfl, em_in (k := 1018) (by decide +kernel)⟩
def iX8_rationOf : Nat → Option (Nat × Nat × Int32 × Nat) := em_tr 52 (fun pc => (bif Nat.blt pc 26 then (bif Nat.blt pc 11 then (bif Nat.blt pc 3 then (bif Nat.blt pc 1 then (bif Nat.beq pc 0 then some (0, 0, 0, 1) else none) else (bif Nat.blt pc 2 then (bif Nat.beq pc 1 then some (10, 3, 0, 2) else none) else (bif Nat.beq pc 2 then some (0, 0, 0, 3) else none))) else (bif Nat.blt pc 7 then (bif Nat.blt pc 5 then (bif Nat.beq pc 3 then some (11, 4, 0, 5) else none) else (bif Nat.beq pc 5 then some (5, 4, 0, 7) else none)) else (bif Nat.blt pc 8 then (bif Nat.beq pc 7 then some (8, 0, 0, 8) else none) else (bif Nat.beq pc 8 then some (33, 109, 0, 11) else none)))) else (bif Nat.blt pc 18 then (bif Nat.blt pc 15 then (bif Nat.blt pc 14 then (bif Nat.beq pc 11 then some (59, 50, 0, 14) else none) else (bif Nat.beq pc 14 then some (4, 3, 0, 15) else none)) else (bif Nat.blt pc 16 then (bif Nat.beq pc 15 then some (8, 0, 0, 16) else none) else (bif Nat.beq pc 16 then some (5, 4, 0, 18) else none))) else (bif Nat.blt pc 20 then (bif Nat.blt pc 19 then (bif Nat.beq pc 18 then some (4, 1, 0, 19) else none) else (bif Nat.beq pc 19 then some (4, 2, 0, 20) else none)) else (bif Nat.blt pc 23 then (bif Nat.beq pc 20 then some (81, 133, 0, 23) else none) else (bif Nat.beq pc 23 then some (50, 41, 0, 26) else none))))) else (bif Nat.blt pc 38 then (bif Nat.blt pc 31 then (bif Nat.blt pc 27 then (bif Nat.beq pc 26 then some (8, 0, 0, 27) else none) else (bif Nat.blt pc 30 then (bif Nat.beq pc 27 then some (33, 13, 0, 30) else none) else (bif Nat.beq pc 30 then some (8, 0, 0, 31) else none))) else (bif Nat.blt pc 36 then (bif Nat.blt pc 34 then (bif Nat.beq pc 31 then some (33, 20, 0, 34) else none) else (bif Nat.beq pc 34 then some (5, 4, 0, 36) else none)) else (bif Nat.blt pc 37 then (bif Nat.beq pc 36 then some (62, 0, 0, 37) else none) else (bif Nat.beq pc 37 then some (62, 0, 0, 38) else none)))) else (bif Nat.blt pc 44 then (bif Nat.blt pc 42 then (bif Nat.blt pc 41 then (bif Nat.beq pc 38 then some (32, 42, 0, 41) else none) else (bif Nat.beq pc 41 then some (0, 0, 0, 42) else none)) else (bif Nat.blt pc 43 then (bif Nat.beq pc 42 then some (17, 0, 0, 43) else none) else (bif Nat.beq pc 43 then some (10, 3, 0, 44) else none))) else (bif Nat.blt pc 50 then (bif Nat.blt pc 47 then (bif Nat.beq pc 44 then some (16, 4, 1, 47) else none) else (bif Nat.beq pc 47 then some (32, 5, 0, 50) else none)) else (bif Nat.blt pc 51 then (bif Nat.beq pc 50 then some (4, 3, 0, 51) else none) else (bif Nat.beq pc 51 then some (83, 0, 0, 52) else none)))))))
def mX8_rationOf : em_Me := ((RX8, yX8_rationOf, cX8_rationOf, 5, (some .int)), iX8_rationOf, fX8, qX8)
theorem rX8_rationOf_0 : em_ckR RX8 cX8_rationOf iX8_rationOf 0 52 = true := by decide +kernel
theorem kX8_rationOf : em_ok mX8_rationOf := em_okM (N := 52) rfl (fun pc hpc q hq => em_ckR_at rX8_rationOf_0 (by omega) (by omega) hq) fX8_ok qX8_ok
theorem tX8_rationOf : em_tV mX8_rationOf 2 8 := ⟨⟨em_in (k := 1031) (by decide +kernel), em_in (k := 10) (by decide +kernel), ⟨by decide +kernel, by decide +kernel⟩, by decide +kernel, by decide +kernel⟩, em_in (k := 1030) (by decide +kernel), _, rfl, List.mem_append_left _ (by decide +kernel)⟩
def iX8_ration : Nat → Option (Nat × Nat × Int32 × Nat) := em_tr 27 (fun pc => (bif Nat.blt pc 13 then (bif Nat.blt pc 5 then (bif Nat.blt pc 1 then (bif Nat.beq pc 0 then some (8, 0, 0, 1) else none) else (bif Nat.blt pc 2 then (bif Nat.beq pc 1 then some (4, 1, 0, 2) else none) else (bif Nat.beq pc 2 then some (81, 123, 0, 5) else none))) else (bif Nat.blt pc 9 then (bif Nat.blt pc 8 then (bif Nat.beq pc 5 then some (50, 25, 0, 8) else none) else (bif Nat.beq pc 8 then some (8, 0, 0, 9) else none)) else (bif Nat.blt pc 10 then (bif Nat.beq pc 9 then some (4, 2, 0, 10) else none) else (bif Nat.beq pc 10 then some (81, 123, 0, 13) else none)))) else (bif Nat.blt pc 19 then (bif Nat.blt pc 17 then (bif Nat.blt pc 16 then (bif Nat.beq pc 13 then some (50, 25, 0, 16) else none) else (bif Nat.beq pc 16 then some (8, 0, 0, 17) else none)) else (bif Nat.blt pc 18 then (bif Nat.beq pc 17 then some (4, 1, 0, 18) else none) else (bif Nat.beq pc 18 then some (4, 2, 0, 19) else none))) else (bif Nat.blt pc 25 then (bif Nat.blt pc 22 then (bif Nat.beq pc 19 then some (81, 136, 0, 22) else none) else (bif Nat.beq pc 22 then some (32, 26, 0, 25) else none)) else (bif Nat.blt pc 26 then (bif Nat.beq pc 25 then some (0, 0, (-1), 26) else none) else (bif Nat.beq pc 26 then some (83, 0, 0, 27) else none))))))
def mX8_ration : em_Me := ((RX8, yX8_ration, cX8_ration, 3, (some .int)), iX8_ration, fX8, qX8)
theorem rX8_ration_0 : em_ckR RX8 cX8_ration iX8_ration 0 27 = true := by decide +kernel
theorem kX8_ration : em_ok mX8_ration := em_okM (N := 27) rfl (fun pc hpc q hq => em_ckR_at rX8_ration_0 (by omega) (by omega) hq) fX8_ok qX8_ok
theorem tX8_ration : em_tV mX8_ration 2 8 := ⟨⟨em_in (k := 1027) (by decide +kernel), em_in (k := 10) (by decide +kernel), ⟨by decide +kernel, by decide +kernel⟩, by decide +kernel, by decide +kernel⟩, em_in (k := 1025) (by decide +kernel), _, rfl, em_in (k := 1026) (by decide +kernel)⟩
def iX8_longer : Nat → Option (Nat × Nat × Int32 × Nat) := em_tr 29 (fun pc => (bif Nat.blt pc 12 then (bif Nat.blt pc 6 then (bif Nat.blt pc 2 then (bif Nat.blt pc 1 then (bif Nat.beq pc 0 then some (0, 0, 2, 1) else none) else (bif Nat.beq pc 1 then some (8, 0, 0, 2) else none)) else (bif Nat.blt pc 3 then (bif Nat.beq pc 2 then some (34, 0, 0, 3) else none) else (bif Nat.blt pc 4 then (bif Nat.beq pc 3 then some (19, 0, 0, 4) else none) else (bif Nat.beq pc 4 then some (76, 0, 0, 6) else none)))) else (bif Nat.blt pc 9 then (bif Nat.blt pc 7 then (bif Nat.beq pc 6 then some (14, 1, 0, 7) else none) else (bif Nat.blt pc 8 then (bif Nat.beq pc 7 then some (0, 0, 0, 8) else none) else (bif Nat.beq pc 8 then some (10, 2, 0, 9) else none))) else (bif Nat.blt pc 10 then (bif Nat.beq pc 9 then some (4, 2, 0, 10) else none) else (bif Nat.blt pc 11 then (bif Nat.beq pc 10 then some (8, 0, 0, 11) else none) else (bif Nat.beq pc 11 then some (34, 0, 0, 12) else none))))) else (bif Nat.blt pc 19 then (bif Nat.blt pc 16 then (bif Nat.blt pc 15 then (bif Nat.beq pc 12 then some (59, 27, 0, 15) else none) else (bif Nat.beq pc 15 then some (8, 1, 0, 16) else none)) else (bif Nat.blt pc 17 then (bif Nat.beq pc 16 then some (4, 2, 0, 17) else none) else (bif Nat.blt pc 18 then (bif Nat.beq pc 17 then some (8, 0, 0, 18) else none) else (bif Nat.beq pc 18 then some (4, 2, 0, 19) else none)))) else (bif Nat.blt pc 24 then (bif Nat.blt pc 20 then (bif Nat.beq pc 19 then some (62, 0, 0, 20) else none) else (bif Nat.blt pc 21 then (bif Nat.beq pc 20 then some (66, 0, 0, 21) else none) else (bif Nat.beq pc 21 then some (16, 2, 1, 24) else none))) else (bif Nat.blt pc 27 then (bif Nat.beq pc 24 then some (32, 9, 0, 27) else none) else (bif Nat.blt pc 28 then (bif Nat.beq pc 27 then some (8, 1, 0, 28) else none) else (bif Nat.beq pc 28 then some (85, 0, 0, 29) else none)))))))
def mX8_longer : em_Me := ((RX8, yX8_longer, cX8_longer, 3, (some (.array .int))), iX8_longer, fX8, qX8)
theorem rX8_longer_0 : em_ckR RX8 cX8_longer iX8_longer 0 29 = true := by decide +kernel
theorem kX8_longer : em_ok mX8_longer := em_okM (N := 29) rfl (fun pc hpc q hq => em_ckR_at rX8_longer_0 (by omega) (by omega) hq) fX8_ok qX8_ok
theorem tX8_longer : em_tS mX8_longer 1 := ⟨⟨em_in (k := 1038) (by decide +kernel), em_in (k := 10) (by decide +kernel), ⟨by decide +kernel, by decide +kernel⟩, by decide +kernel, by decide +kernel⟩, em_in (k := 1037) (by decide +kernel)⟩
def iX8_day : Nat → Option (Nat × Nat × Int32 × Nat) := em_tr 234 (fun pc => (bif Nat.blt pc 115 then (bif Nat.blt pc 56 then (bif Nat.blt pc 26 then (bif Nat.blt pc 14 then (bif Nat.blt pc 10 then (bif Nat.blt pc 4 then (bif Nat.blt pc 1 then (bif Nat.beq pc 0 then some (8, 0, 0, 1) else none) else (bif Nat.beq pc 1 then some (33, 116, 0, 4) else none)) else (bif Nat.blt pc 7 then (bif Nat.beq pc 4 then some (2, 0, 400, 7) else none) else (bif Nat.beq pc 7 then some (57, 12, 0, 10) else none))) else (bif Nat.blt pc 12 then (bif Nat.blt pc 11 then (bif Nat.beq pc 10 then some (0, 0, (-1), 11) else none) else (bif Nat.beq pc 11 then some (83, 0, 0, 12) else none)) else (bif Nat.blt pc 13 then (bif Nat.beq pc 12 then some (0, 0, 0, 13) else none) else (bif Nat.beq pc 13 then some (10, 1, 0, 14) else none)))) else (bif Nat.blt pc 18 then (bif Nat.blt pc 16 then (bif Nat.blt pc 15 then (bif Nat.beq pc 14 then some (0, 0, 0, 15) else none) else (bif Nat.beq pc 15 then some (10, 2, 0, 16) else none)) else (bif Nat.blt pc 17 then (bif Nat.beq pc 16 then some (4, 2, 0, 17) else none) else (bif Nat.beq pc 17 then some (8, 0, 0, 18) else none))) else (bif Nat.blt pc 24 then (bif Nat.blt pc 21 then (bif Nat.beq pc 18 then some (33, 116, 0, 21) else none) else (bif Nat.beq pc 21 then some (60, 56, 0, 24) else none)) else (bif Nat.blt pc 25 then (bif Nat.beq pc 24 then some (4, 1, 0, 25) else none) else (bif Nat.beq pc 25 then some (8, 0, 0, 26) else none))))) else (bif Nat.blt pc 40 then (bif Nat.blt pc 34 then (bif Nat.blt pc 28 then (bif Nat.blt pc 27 then (bif Nat.beq pc 26 then some (4, 2, 0, 27) else none) else (bif Nat.beq pc 27 then some (8, 0, 0, 28) else none)) else (bif Nat.blt pc 31 then (bif Nat.beq pc 28 then some (33, 116, 0, 31) else none) else (bif Nat.beq pc 31 then some (81, 136, 0, 34) else none))) else (bif Nat.blt pc 38 then (bif Nat.blt pc 35 then (bif Nat.beq pc 34 then some (8, 0, 0, 35) else none) else (bif Nat.beq pc 35 then some (33, 41, 0, 38) else none)) else (bif Nat.blt pc 39 then (bif Nat.beq pc 38 then some (4, 2, 0, 39) else none) else (bif Nat.beq pc 39 then some (62, 0, 0, 40) else none)))) else (bif Nat.blt pc 48 then (bif Nat.blt pc 44 then (bif Nat.blt pc 43 then (bif Nat.beq pc 40 then some (56, 47, 0, 43) else none) else (bif Nat.beq pc 43 then some (0, 0, 1, 44) else none)) else (bif Nat.blt pc 47 then (bif Nat.beq pc 44 then some (32, 48, 0, 47) else none) else (bif Nat.beq pc 47 then some (0, 0, 0, 48) else none))) else (bif Nat.blt pc 50 then (bif Nat.blt pc 49 then (bif Nat.beq pc 48 then some (17, 0, 0, 49) else none) else (bif Nat.beq pc 49 then some (10, 1, 0, 50) else none)) else (bif Nat.blt pc 53 then (bif Nat.beq pc 50 then some (16, 2, 1, 53) else none) else (bif Nat.beq pc 53 then some (32, 16, 0, 56) else none)))))) else (bif Nat.blt pc 82 then (bif Nat.blt pc 70 then (bif Nat.blt pc 62 then (bif Nat.blt pc 60 then (bif Nat.blt pc 57 then (bif Nat.beq pc 56 then some (8, 0, 0, 57) else none) else (bif Nat.beq pc 57 then some (33, 140, 0, 60) else none)) else (bif Nat.blt pc 61 then (bif Nat.beq pc 60 then some (4, 1, 0, 61) else none) else (bif Nat.beq pc 61 then some (17, 0, 0, 62) else none))) else (bif Nat.blt pc 68 then (bif Nat.blt pc 65 then (bif Nat.beq pc 62 then some (2, 0, 20000, 65) else none) else (bif Nat.beq pc 65 then some (61, 70, 0, 68) else none)) else (bif Nat.blt pc 69 then (bif Nat.beq pc 68 then some (0, 0, (-1), 69) else none) else (bif Nat.beq pc 69 then some (83, 0, 0, 70) else none)))) else (bif Nat.blt pc 76 then (bif Nat.blt pc 74 then (bif Nat.blt pc 71 then (bif Nat.beq pc 70 then some (8, 0, 0, 71) else none) else (bif Nat.beq pc 71 then some (33, 140, 0, 74) else none)) else (bif Nat.blt pc 75 then (bif Nat.beq pc 74 then some (10, 2, 0, 75) else none) else (bif Nat.beq pc 75 then some (0, 0, 0, 76) else none))) else (bif Nat.blt pc 78 then (bif Nat.blt pc 77 then (bif Nat.beq pc 76 then some (10, 3, 0, 77) else none) else (bif Nat.beq pc 77 then some (4, 3, 0, 78) else none)) else (bif Nat.blt pc 79 then (bif Nat.beq pc 78 then some (8, 0, 0, 79) else none) else (bif Nat.beq pc 79 then some (33, 116, 0, 82) else none))))) else (bif Nat.blt pc 98 then (bif Nat.blt pc 88 then (bif Nat.blt pc 86 then (bif Nat.blt pc 85 then (bif Nat.beq pc 82 then some (60, 217, 0, 85) else none) else (bif Nat.beq pc 85 then some (8, 0, 0, 86) else none)) else (bif Nat.blt pc 87 then (bif Nat.beq pc 86 then some (4, 3, 0, 87) else none) else (bif Nat.beq pc 87 then some (8, 0, 0, 88) else none))) else (bif Nat.blt pc 94 then (bif Nat.blt pc 91 then (bif Nat.beq pc 88 then some (33, 116, 0, 91) else none) else (bif Nat.beq pc 91 then some (81, 136, 0, 94) else none)) else (bif Nat.blt pc 95 then (bif Nat.beq pc 94 then some (8, 0, 0, 95) else none) else (bif Nat.beq pc 95 then some (33, 41, 0, 98) else none)))) else (bif Nat.blt pc 103 then (bif Nat.blt pc 100 then (bif Nat.blt pc 99 then (bif Nat.beq pc 98 then some (4, 3, 0, 99) else none) else (bif Nat.beq pc 99 then some (62, 0, 0, 100) else none)) else (bif Nat.blt pc 101 then (bif Nat.beq pc 100 then some (18, 0, 0, 101) else none) else (bif Nat.beq pc 101 then some (11, 4, 0, 103) else none))) else (bif Nat.blt pc 108 then (bif Nat.blt pc 105 then (bif Nat.beq pc 103 then some (5, 4, 0, 105) else none) else (bif Nat.beq pc 105 then some (51, 111, 0, 108) else none)) else (bif Nat.blt pc 111 then (bif Nat.beq pc 108 then some (32, 211, 0, 111) else none) else (bif Nat.blt pc 112 then (bif Nat.beq pc 111 then some (8, 0, 0, 112) else none) else (bif Nat.beq pc 112 then some (33, 140, 0, 115) else none)))))))) else (bif Nat.blt pc 179 then (bif Nat.blt pc 147 then (bif Nat.blt pc 131 then (bif Nat.blt pc 123 then (bif Nat.blt pc 119 then (bif Nat.blt pc 116 then (bif Nat.beq pc 115 then some (8, 0, 0, 116) else none) else (bif Nat.beq pc 116 then some (33, 44, 0, 119) else none)) else (bif Nat.blt pc 120 then (bif Nat.beq pc 119 then some (34, 0, 0, 120) else none) else (bif Nat.beq pc 120 then some (57, 156, 0, 123) else none))) else (bif Nat.blt pc 125 then (bif Nat.blt pc 124 then (bif Nat.beq pc 123 then some (8, 0, 0, 124) else none) else (bif Nat.beq pc 124 then some (8, 0, 0, 125) else none)) else (bif Nat.blt pc 128 then (bif Nat.beq pc 125 then some (33, 44, 0, 128) else none) else (bif Nat.beq pc 128 then some (80, 143, 0, 131) else none)))) else (bif Nat.blt pc 139 then (bif Nat.blt pc 135 then (bif Nat.blt pc 134 then (bif Nat.beq pc 131 then some (74, 44, 0, 134) else none) else (bif Nat.beq pc 134 then some (8, 0, 0, 135) else none)) else (bif Nat.blt pc 136 then (bif Nat.beq pc 135 then some (8, 0, 0, 136) else none) else (bif Nat.beq pc 136 then some (33, 47, 0, 139) else none))) else (bif Nat.blt pc 145 then (bif Nat.blt pc 142 then (bif Nat.beq pc 139 then some (80, 143, 0, 142) else none) else (bif Nat.beq pc 142 then some (74, 47, 0, 145) else none)) else (bif Nat.blt pc 146 then (bif Nat.beq pc 145 then some (8, 0, 0, 146) else none) else (bif Nat.beq pc 146 then some (8, 0, 0, 147) else none))))) else (bif Nat.blt pc 165 then (bif Nat.blt pc 157 then (bif Nat.blt pc 153 then (bif Nat.blt pc 150 then (bif Nat.beq pc 147 then some (33, 50, 0, 150) else none) else (bif Nat.beq pc 150 then some (80, 143, 0, 153) else none)) else (bif Nat.blt pc 156 then (bif Nat.beq pc 153 then some (74, 50, 0, 156) else none) else (bif Nat.beq pc 156 then some (8, 0, 0, 157) else none))) else (bif Nat.blt pc 161 then (bif Nat.blt pc 160 then (bif Nat.beq pc 157 then some (33, 44, 0, 160) else none) else (bif Nat.beq pc 160 then some (8, 0, 0, 161) else none)) else (bif Nat.blt pc 164 then (bif Nat.beq pc 161 then some (33, 140, 0, 164) else none) else (bif Nat.beq pc 164 then some (8, 0, 0, 165) else none)))) else (bif Nat.blt pc 173 then (bif Nat.blt pc 169 then (bif Nat.blt pc 168 then (bif Nat.beq pc 165 then some (33, 116, 0, 168) else none) else (bif Nat.beq pc 168 then some (66, 0, 0, 169) else none)) else (bif Nat.blt pc 170 then (bif Nat.beq pc 169 then some (8, 0, 0, 170) else none) else (bif Nat.beq pc 170 then some (33, 47, 0, 173) else none))) else (bif Nat.blt pc 177 then (bif Nat.blt pc 174 then (bif Nat.beq pc 173 then some (8, 0, 0, 174) else none) else (bif Nat.beq pc 174 then some (33, 140, 0, 177) else none)) else (bif Nat.blt pc 178 then (bif Nat.beq pc 177 then some (4, 3, 0, 178) else none) else (bif Nat.beq pc 178 then some (66, 0, 0, 179) else none)))))) else (bif Nat.blt pc 206 then (bif Nat.blt pc 192 then (bif Nat.blt pc 187 then (bif Nat.blt pc 183 then (bif Nat.blt pc 180 then (bif Nat.beq pc 179 then some (8, 0, 0, 180) else none) else (bif Nat.beq pc 180 then some (33, 50, 0, 183) else none)) else (bif Nat.blt pc 184 then (bif Nat.beq pc 183 then some (8, 0, 0, 184) else none) else (bif Nat.beq pc 184 then some (33, 140, 0, 187) else none))) else (bif Nat.blt pc 190 then (bif Nat.blt pc 189 then (bif Nat.beq pc 187 then some (5, 4, 0, 189) else none) else (bif Nat.beq pc 189 then some (66, 0, 0, 190) else none)) else (bif Nat.blt pc 191 then (bif Nat.beq pc 190 then some (8, 0, 0, 191) else none) else (bif Nat.beq pc 191 then some (30, 0, 0, 192) else none)))) else (bif Nat.blt pc 200 then (bif Nat.blt pc 196 then (bif Nat.blt pc 195 then (bif Nat.beq pc 192 then some (33, 140, 0, 195) else none) else (bif Nat.beq pc 195 then some (0, 0, 1, 196) else none)) else (bif Nat.blt pc 197 then (bif Nat.beq pc 196 then some (17, 0, 0, 197) else none) else (bif Nat.beq pc 197 then some (74, 140, 0, 200) else none))) else (bif Nat.blt pc 204 then (bif Nat.blt pc 201 then (bif Nat.beq pc 200 then some (8, 0, 0, 201) else none) else (bif Nat.beq pc 201 then some (33, 41, 0, 204) else none)) else (bif Nat.blt pc 205 then (bif Nat.beq pc 204 then some (4, 3, 0, 205) else none) else (bif Nat.beq pc 205 then some (31, 0, 0, 206) else none))))) else (bif Nat.blt pc 219 then (bif Nat.blt pc 211 then (bif Nat.blt pc 209 then (bif Nat.blt pc 207 then (bif Nat.beq pc 206 then some (62, 0, 0, 207) else none) else (bif Nat.beq pc 207 then some (5, 4, 0, 209) else none)) else (bif Nat.blt pc 210 then (bif Nat.beq pc 209 then some (17, 0, 0, 210) else none) else (bif Nat.beq pc 210 then some (66, 0, 0, 211) else none))) else (bif Nat.blt pc 217 then (bif Nat.blt pc 214 then (bif Nat.beq pc 211 then some (16, 3, 1, 214) else none) else (bif Nat.beq pc 214 then some (32, 77, 0, 217) else none)) else (bif Nat.blt pc 218 then (bif Nat.beq pc 217 then some (8, 0, 0, 218) else none) else (bif Nat.beq pc 218 then some (30, 0, 0, 219) else none)))) else (bif Nat.blt pc 227 then (bif Nat.blt pc 223 then (bif Nat.blt pc 222 then (bif Nat.beq pc 219 then some (33, 116, 0, 222) else none) else (bif Nat.beq pc 222 then some (0, 0, 1, 223) else none)) else (bif Nat.blt pc 224 then (bif Nat.beq pc 223 then some (17, 0, 0, 224) else none) else (bif Nat.beq pc 224 then some (74, 116, 0, 227) else none))) else (bif Nat.blt pc 231 then (bif Nat.blt pc 228 then (bif Nat.beq pc 227 then some (8, 0, 0, 228) else none) else (bif Nat.beq pc 228 then some (33, 140, 0, 231) else none)) else (bif Nat.blt pc 232 then (bif Nat.beq pc 231 then some (4, 2, 0, 232) else none) else (bif Nat.blt pc 233 then (bif Nat.beq pc 232 then some (18, 0, 0, 233) else none) else (bif Nat.beq pc 233 then some (83, 0, 0, 234) else none))))))))))
def mX8_day : em_Me := ((RX8, yX8_day, cX8_day, 5, (some .int)), iX8_day, fX8, qX8)
theorem rX8_day_0 : em_ckR RX8 cX8_day iX8_day 0 60 = true := by decide +kernel
theorem rX8_day_1 : em_ckR RX8 cX8_day iX8_day 60 60 = true := by decide +kernel
theorem rX8_day_2 : em_ckR RX8 cX8_day iX8_day 120 60 = true := by decide +kernel
theorem rX8_day_3 : em_ckR RX8 cX8_day iX8_day 180 54 = true := by decide +kernel
theorem kX8_day : em_ok mX8_day := em_okM (N := 234) rfl (fun pc hpc q hq => if h0 : pc < 60 then em_ckR_at rX8_day_0 (by omega) (by omega) hq else if h1 : pc < 120 then em_ckR_at rX8_day_1 (by omega) (by omega) hq else if h2 : pc < 180 then em_ckR_at rX8_day_2 (by omega) (by omega) hq else em_ckR_at rX8_day_3 (by omega) (by omega) hq) fX8_ok qX8_ok
theorem tX8_day : em_tV mX8_day 0 8 := ⟨⟨em_in (k := 1035) (by decide +kernel), em_in (k := 10) (by decide +kernel), ⟨by decide +kernel, by decide +kernel⟩, by decide +kernel, by decide +kernel⟩, em_in (k := 1033) (by decide +kernel), _, rfl, em_in (k := 1034) (by decide +kernel)⟩
def iX8_line : Nat → Option (Nat × Nat × Int32 × Nat) := em_tr 61 (fun pc => (bif Nat.blt pc 30 then (bif Nat.blt pc 14 then (bif Nat.blt pc 6 then (bif Nat.blt pc 2 then (bif Nat.blt pc 1 then (bif Nat.beq pc 0 then some (4, 1, 0, 1) else none) else (bif Nat.beq pc 1 then some (0, 0, 0, 2) else none)) else (bif Nat.blt pc 3 then (bif Nat.beq pc 2 then some (8, 0, 0, 3) else none) else (bif Nat.beq pc 3 then some (33, 140, 0, 6) else none))) else (bif Nat.blt pc 8 then (bif Nat.blt pc 7 then (bif Nat.beq pc 6 then some (0, 0, 1, 7) else none) else (bif Nat.beq pc 7 then some (18, 0, 0, 8) else none)) else (bif Nat.blt pc 11 then (bif Nat.beq pc 8 then some (80, 112, 0, 11) else none) else (bif Nat.beq pc 11 then some (51, 17, 0, 14) else none)))) else (bif Nat.blt pc 21 then (bif Nat.blt pc 17 then (bif Nat.blt pc 16 then (bif Nat.beq pc 14 then some (35, 147, 0, 16) else none) else (bif Nat.beq pc 16 then some (83, 0, 0, 17) else none)) else (bif Nat.blt pc 18 then (bif Nat.beq pc 17 then some (4, 2, 0, 18) else none) else (bif Nat.beq pc 18 then some (51, 30, 0, 21) else none))) else (bif Nat.blt pc 25 then (bif Nat.blt pc 22 then (bif Nat.beq pc 21 then some (8, 0, 0, 22) else none) else (bif Nat.beq pc 22 then some (33, 44, 0, 25) else none)) else (bif Nat.blt pc 26 then (bif Nat.beq pc 25 then some (4, 1, 0, 26) else none) else (bif Nat.blt pc 27 then (bif Nat.beq pc 26 then some (62, 0, 0, 27) else none) else (bif Nat.beq pc 27 then some (32, 60, 0, 30) else none)))))) else (bif Nat.blt pc 45 then (bif Nat.blt pc 36 then (bif Nat.blt pc 32 then (bif Nat.blt pc 31 then (bif Nat.beq pc 30 then some (4, 2, 0, 31) else none) else (bif Nat.beq pc 31 then some (0, 0, 1, 32) else none)) else (bif Nat.blt pc 35 then (bif Nat.beq pc 32 then some (57, 44, 0, 35) else none) else (bif Nat.beq pc 35 then some (8, 0, 0, 36) else none))) else (bif Nat.blt pc 40 then (bif Nat.blt pc 39 then (bif Nat.beq pc 36 then some (33, 47, 0, 39) else none) else (bif Nat.beq pc 39 then some (4, 1, 0, 40) else none)) else (bif Nat.blt pc 41 then (bif Nat.beq pc 40 then some (62, 0, 0, 41) else none) else (bif Nat.blt pc 44 then (bif Nat.beq pc 41 then some (32, 60, 0, 44) else none) else (bif Nat.beq pc 44 then some (4, 2, 0, 45) else none))))) else (bif Nat.blt pc 53 then (bif Nat.blt pc 49 then (bif Nat.blt pc 46 then (bif Nat.beq pc 45 then some (0, 0, 2, 46) else none) else (bif Nat.beq pc 46 then some (57, 58, 0, 49) else none)) else (bif Nat.blt pc 50 then (bif Nat.beq pc 49 then some (8, 0, 0, 50) else none) else (bif Nat.beq pc 50 then some (33, 50, 0, 53) else none))) else (bif Nat.blt pc 55 then (bif Nat.blt pc 54 then (bif Nat.beq pc 53 then some (4, 1, 0, 54) else none) else (bif Nat.beq pc 54 then some (62, 0, 0, 55) else none)) else (bif Nat.blt pc 58 then (bif Nat.beq pc 55 then some (32, 60, 0, 58) else none) else (bif Nat.blt pc 60 then (bif Nat.beq pc 58 then some (35, 147, 0, 60) else none) else (bif Nat.beq pc 60 then some (83, 0, 0, 61) else none))))))))
def mX8_line : em_Me := ((RX8, yX8_line, cX8_line, 3, (some .int)), iX8_line, fX8, qX8)
theorem rX8_line_0 : em_ckR RX8 cX8_line iX8_line 0 60 = true := by decide +kernel
theorem rX8_line_1 : em_ckR RX8 cX8_line iX8_line 60 1 = true := by decide +kernel
theorem kX8_line : em_ok mX8_line := em_okM (N := 61) rfl (fun pc hpc q hq => if h0 : pc < 60 then em_ckR_at rX8_line_0 (by omega) (by omega) hq else em_ckR_at rX8_line_1 (by omega) (by omega) hq) fX8_ok qX8_ok
theorem tX8_line : em_tV mX8_line 2 8 := ⟨⟨em_in (k := 1042) (by decide +kernel), em_in (k := 10) (by decide +kernel), ⟨by decide +kernel, by decide +kernel⟩, by decide +kernel, by decide +kernel⟩, em_in (k := 1040) (by decide +kernel), _, rfl, em_in (k := 1041) (by decide +kernel)⟩
def iX8_booked : Nat → Option (Nat × Nat × Int32 × Nat) := em_tr 22 (fun pc => (bif Nat.blt pc 12 then (bif Nat.blt pc 5 then (bif Nat.blt pc 1 then (bif Nat.beq pc 0 then some (4, 1, 0, 1) else none) else (bif Nat.blt pc 2 then (bif Nat.beq pc 1 then some (0, 0, 0, 2) else none) else (bif Nat.beq pc 2 then some (2, 0, 400, 5) else none))) else (bif Nat.blt pc 8 then (bif Nat.beq pc 5 then some (80, 112, 0, 8) else none) else (bif Nat.blt pc 11 then (bif Nat.beq pc 8 then some (50, 20, 0, 11) else none) else (bif Nat.beq pc 11 then some (8, 0, 0, 12) else none)))) else (bif Nat.blt pc 17 then (bif Nat.blt pc 15 then (bif Nat.beq pc 12 then some (33, 41, 0, 15) else none) else (bif Nat.blt pc 16 then (bif Nat.beq pc 15 then some (4, 1, 0, 16) else none) else (bif Nat.beq pc 16 then some (62, 0, 0, 17) else none))) else (bif Nat.blt pc 20 then (bif Nat.beq pc 17 then some (32, 21, 0, 20) else none) else (bif Nat.blt pc 21 then (bif Nat.beq pc 20 then some (0, 0, 0, 21) else none) else (bif Nat.beq pc 21 then some (83, 0, 0, 22) else none))))))
def mX8_booked : em_Me := ((RX8, yX8_booked, cX8_booked, 2, (some .int)), iX8_booked, fX8, qX8)
theorem rX8_booked_0 : em_ckR RX8 cX8_booked iX8_booked 0 22 = true := by decide +kernel
theorem kX8_booked : em_ok mX8_booked := em_okM (N := 22) rfl (fun pc hpc q hq => em_ckR_at rX8_booked_0 (by omega) (by omega) hq) fX8_ok qX8_ok
theorem tX8_booked : em_tV mX8_booked 1 8 := ⟨⟨em_in (k := 1047) (by decide +kernel), em_in (k := 10) (by decide +kernel), ⟨by decide +kernel, by decide +kernel⟩, by decide +kernel, by decide +kernel⟩, em_in (k := 1045) (by decide +kernel), _, rfl, em_in (k := 1046) (by decide +kernel)⟩
def iX8_load : Nat → Option (Nat × Nat × Int32 × Nat) := em_tr 69 (fun pc => (bif Nat.blt pc 36 then (bif Nat.blt pc 19 then (bif Nat.blt pc 9 then (bif Nat.blt pc 2 then (bif Nat.blt pc 1 then (bif Nat.beq pc 0 then some (8, 0, 0, 1) else none) else (bif Nat.beq pc 1 then some (4, 1, 0, 2) else none)) else (bif Nat.blt pc 5 then (bif Nat.beq pc 2 then some (81, 127, 0, 5) else none) else (bif Nat.blt pc 8 then (bif Nat.beq pc 5 then some (50, 28, 0, 8) else none) else (bif Nat.beq pc 8 then some (4, 2, 0, 9) else none)))) else (bif Nat.blt pc 12 then (bif Nat.blt pc 10 then (bif Nat.beq pc 9 then some (0, 0, (-1), 10) else none) else (bif Nat.beq pc 10 then some (1, 0, 7, 12) else none)) else (bif Nat.blt pc 15 then (bif Nat.beq pc 12 then some (80, 112, 0, 15) else none) else (bif Nat.blt pc 18 then (bif Nat.beq pc 15 then some (50, 28, 0, 18) else none) else (bif Nat.beq pc 18 then some (8, 0, 0, 19) else none))))) else (bif Nat.blt pc 28 then (bif Nat.blt pc 23 then (bif Nat.blt pc 22 then (bif Nat.beq pc 19 then some (33, 29, 0, 22) else none) else (bif Nat.beq pc 22 then some (4, 1, 0, 23) else none)) else (bif Nat.blt pc 24 then (bif Nat.beq pc 23 then some (62, 0, 0, 24) else none) else (bif Nat.blt pc 25 then (bif Nat.beq pc 24 then some (4, 2, 0, 25) else none) else (bif Nat.beq pc 25 then some (57, 30, 0, 28) else none)))) else (bif Nat.blt pc 31 then (bif Nat.blt pc 29 then (bif Nat.beq pc 28 then some (0, 0, 0, 29) else none) else (bif Nat.blt pc 30 then (bif Nat.beq pc 29 then some (83, 0, 0, 30) else none) else (bif Nat.beq pc 30 then some (4, 2, 0, 31) else none))) else (bif Nat.blt pc 32 then (bif Nat.beq pc 31 then some (0, 0, (-1), 32) else none) else (bif Nat.blt pc 35 then (bif Nat.beq pc 32 then some (56, 60, 0, 35) else none) else (bif Nat.beq pc 35 then some (8, 0, 0, 36) else none)))))) else (bif Nat.blt pc 52 then (bif Nat.blt pc 45 then (bif Nat.blt pc 40 then (bif Nat.blt pc 37 then (bif Nat.beq pc 36 then some (4, 2, 0, 37) else none) else (bif Nat.beq pc 37 then some (81, 119, 0, 40) else none)) else (bif Nat.blt pc 41 then (bif Nat.beq pc 40 then some (8, 0, 0, 41) else none) else (bif Nat.blt pc 44 then (bif Nat.beq pc 41 then some (33, 17, 0, 44) else none) else (bif Nat.beq pc 44 then some (8, 0, 0, 45) else none)))) else (bif Nat.blt pc 49 then (bif Nat.blt pc 48 then (bif Nat.beq pc 45 then some (33, 20, 0, 48) else none) else (bif Nat.beq pc 48 then some (4, 1, 0, 49) else none)) else (bif Nat.blt pc 50 then (bif Nat.beq pc 49 then some (62, 0, 0, 50) else none) else (bif Nat.blt pc 51 then (bif Nat.beq pc 50 then some (62, 0, 0, 51) else none) else (bif Nat.beq pc 51 then some (17, 0, 0, 52) else none))))) else (bif Nat.blt pc 61 then (bif Nat.blt pc 58 then (bif Nat.blt pc 55 then (bif Nat.beq pc 52 then some (2, 0, 2000, 55) else none) else (bif Nat.beq pc 55 then some (61, 60, 0, 58) else none)) else (bif Nat.blt pc 59 then (bif Nat.beq pc 58 then some (0, 0, 0, 59) else none) else (bif Nat.blt pc 60 then (bif Nat.beq pc 59 then some (83, 0, 0, 60) else none) else (bif Nat.beq pc 60 then some (8, 0, 0, 61) else none)))) else (bif Nat.blt pc 66 then (bif Nat.blt pc 64 then (bif Nat.beq pc 61 then some (33, 29, 0, 64) else none) else (bif Nat.blt pc 65 then (bif Nat.beq pc 64 then some (4, 1, 0, 65) else none) else (bif Nat.beq pc 65 then some (4, 2, 0, 66) else none))) else (bif Nat.blt pc 67 then (bif Nat.beq pc 66 then some (66, 0, 0, 67) else none) else (bif Nat.blt pc 68 then (bif Nat.beq pc 67 then some (0, 0, 1, 68) else none) else (bif Nat.beq pc 68 then some (83, 0, 0, 69) else none))))))))
def mX8_load : em_Me := ((RX8, yX8_load, cX8_load, 3, (some .boolean)), iX8_load, fX8, qX8)
theorem rX8_load_0 : em_ckR RX8 cX8_load iX8_load 0 60 = true := by decide +kernel
theorem rX8_load_1 : em_ckR RX8 cX8_load iX8_load 60 9 = true := by decide +kernel
theorem kX8_load : em_ok mX8_load := em_okM (N := 69) rfl (fun pc hpc q hq => if h0 : pc < 60 then em_ckR_at rX8_load_0 (by omega) (by omega) hq else em_ckR_at rX8_load_1 (by omega) (by omega) hq) fX8_ok qX8_ok
theorem tX8_load : em_tV mX8_load 2 8 := ⟨⟨em_in (k := 1051) (by decide +kernel), em_in (k := 10) (by decide +kernel), ⟨by decide +kernel, by decide +kernel⟩, by decide +kernel, by decide +kernel⟩, em_in (k := 1049) (by decide +kernel), _, rfl, em_in (k := 1050) (by decide +kernel)⟩
end
section
def iX8_bar : Nat → Option (Nat × Nat × Int32 × Nat) := em_tr 63 (fun pc => (bif Nat.blt pc 36 then (bif Nat.blt pc 20 then (bif Nat.blt pc 10 then (bif Nat.blt pc 2 then (bif Nat.blt pc 1 then (bif Nat.beq pc 0 then some (4, 1, 0, 1) else none) else (bif Nat.beq pc 1 then some (0, 0, 0, 2) else none)) else (bif Nat.blt pc 4 then (bif Nat.beq pc 2 then some (1, 0, 7, 4) else none) else (bif Nat.blt pc 7 then (bif Nat.beq pc 4 then some (80, 112, 0, 7) else none) else (bif Nat.beq pc 7 then some (50, 35, 0, 10) else none)))) else (bif Nat.blt pc 12 then (bif Nat.blt pc 11 then (bif Nat.beq pc 10 then some (4, 2, 0, 11) else none) else (bif Nat.beq pc 11 then some (0, 0, 0, 12) else none)) else (bif Nat.blt pc 14 then (bif Nat.beq pc 12 then some (1, 0, 7, 14) else none) else (bif Nat.blt pc 17 then (bif Nat.beq pc 14 then some (80, 112, 0, 17) else none) else (bif Nat.beq pc 17 then some (50, 35, 0, 20) else none))))) else (bif Nat.blt pc 28 then (bif Nat.blt pc 24 then (bif Nat.blt pc 21 then (bif Nat.beq pc 20 then some (8, 0, 0, 21) else none) else (bif Nat.beq pc 21 then some (33, 53, 0, 24) else none)) else (bif Nat.blt pc 26 then (bif Nat.beq pc 24 then some (1, 0, 8, 26) else none) else (bif Nat.blt pc 27 then (bif Nat.beq pc 26 then some (4, 1, 0, 27) else none) else (bif Nat.beq pc 27 then some (19, 0, 0, 28) else none)))) else (bif Nat.blt pc 31 then (bif Nat.blt pc 29 then (bif Nat.beq pc 28 then some (4, 2, 0, 29) else none) else (bif Nat.blt pc 30 then (bif Nat.beq pc 29 then some (17, 0, 0, 30) else none) else (bif Nat.beq pc 30 then some (63, 0, 0, 31) else none))) else (bif Nat.blt pc 32 then (bif Nat.beq pc 31 then some (4, 3, 0, 32) else none) else (bif Nat.blt pc 35 then (bif Nat.beq pc 32 then some (57, 37, 0, 35) else none) else (bif Nat.beq pc 35 then some (0, 0, 0, 36) else none)))))) else (bif Nat.blt pc 49 then (bif Nat.blt pc 44 then (bif Nat.blt pc 38 then (bif Nat.blt pc 37 then (bif Nat.beq pc 36 then some (83, 0, 0, 37) else none) else (bif Nat.beq pc 37 then some (8, 0, 0, 38) else none)) else (bif Nat.blt pc 41 then (bif Nat.beq pc 38 then some (33, 53, 0, 41) else none) else (bif Nat.blt pc 43 then (bif Nat.beq pc 41 then some (1, 0, 8, 43) else none) else (bif Nat.beq pc 43 then some (4, 1, 0, 44) else none)))) else (bif Nat.blt pc 46 then (bif Nat.blt pc 45 then (bif Nat.beq pc 44 then some (19, 0, 0, 45) else none) else (bif Nat.beq pc 45 then some (4, 2, 0, 46) else none)) else (bif Nat.blt pc 47 then (bif Nat.beq pc 46 then some (17, 0, 0, 47) else none) else (bif Nat.blt pc 48 then (bif Nat.beq pc 47 then some (4, 3, 0, 48) else none) else (bif Nat.beq pc 48 then some (67, 0, 0, 49) else none))))) else (bif Nat.blt pc 57 then (bif Nat.blt pc 53 then (bif Nat.blt pc 50 then (bif Nat.beq pc 49 then some (8, 0, 0, 50) else none) else (bif Nat.beq pc 50 then some (33, 53, 0, 53) else none)) else (bif Nat.blt pc 55 then (bif Nat.beq pc 53 then some (1, 0, 8, 55) else none) else (bif Nat.blt pc 56 then (bif Nat.beq pc 55 then some (4, 2, 0, 56) else none) else (bif Nat.beq pc 56 then some (19, 0, 0, 57) else none)))) else (bif Nat.blt pc 60 then (bif Nat.blt pc 58 then (bif Nat.beq pc 57 then some (4, 1, 0, 58) else none) else (bif Nat.blt pc 59 then (bif Nat.beq pc 58 then some (17, 0, 0, 59) else none) else (bif Nat.beq pc 59 then some (4, 3, 0, 60) else none))) else (bif Nat.blt pc 61 then (bif Nat.beq pc 60 then some (67, 0, 0, 61) else none) else (bif Nat.blt pc 62 then (bif Nat.beq pc 61 then some (0, 0, 1, 62) else none) else (bif Nat.beq pc 62 then some (83, 0, 0, 63) else none))))))))
def mX8_bar : em_Me := ((RX8, yX8_bar, cX8_bar, 4, (some .boolean)), iX8_bar, fX8, qX8)
theorem rX8_bar_0 : em_ckR RX8 cX8_bar iX8_bar 0 60 = true := by decide +kernel
theorem rX8_bar_1 : em_ckR RX8 cX8_bar iX8_bar 60 3 = true := by decide +kernel
theorem kX8_bar : em_ok mX8_bar := em_okM (N := 63) rfl (fun pc hpc q hq => if h0 : pc < 60 then em_ckR_at rX8_bar_0 (by omega) (by omega) hq else em_ckR_at rX8_bar_1 (by omega) (by omega) hq) fX8_ok qX8_ok
theorem tX8_bar : em_tV mX8_bar 3 8 := ⟨⟨em_in (k := 1055) (by decide +kernel), em_in (k := 10) (by decide +kernel), ⟨by decide +kernel, by decide +kernel⟩, by decide +kernel, by decide +kernel⟩, em_in (k := 1053) (by decide +kernel), _, rfl, em_in (k := 1054) (by decide +kernel)⟩
def iX8_areBarred : Nat → Option (Nat × Nat × Int32 × Nat) := em_tr 90 (fun pc => (bif Nat.blt pc 45 then (bif Nat.blt pc 22 then (bif Nat.blt pc 10 then (bif Nat.blt pc 3 then (bif Nat.blt pc 1 then (bif Nat.beq pc 0 then some (0, 0, 0, 1) else none) else (bif Nat.blt pc 2 then (bif Nat.beq pc 1 then some (10, 3, 0, 2) else none) else (bif Nat.beq pc 2 then some (4, 3, 0, 3) else none))) else (bif Nat.blt pc 4 then (bif Nat.beq pc 3 then some (8, 0, 0, 4) else none) else (bif Nat.blt pc 7 then (bif Nat.beq pc 4 then some (33, 109, 0, 7) else none) else (bif Nat.beq pc 7 then some (59, 88, 0, 10) else none)))) else (bif Nat.blt pc 15 then (bif Nat.blt pc 11 then (bif Nat.beq pc 10 then some (0, 0, 0, 11) else none) else (bif Nat.blt pc 13 then (bif Nat.beq pc 11 then some (11, 4, 0, 13) else none) else (bif Nat.beq pc 13 then some (5, 4, 0, 15) else none))) else (bif Nat.blt pc 16 then (bif Nat.beq pc 15 then some (8, 0, 0, 16) else none) else (bif Nat.blt pc 19 then (bif Nat.beq pc 16 then some (33, 109, 0, 19) else none) else (bif Nat.beq pc 19 then some (59, 82, 0, 22) else none))))) else (bif Nat.blt pc 33 then (bif Nat.blt pc 28 then (bif Nat.blt pc 23 then (bif Nat.beq pc 22 then some (4, 3, 0, 23) else none) else (bif Nat.blt pc 25 then (bif Nat.beq pc 23 then some (5, 4, 0, 25) else none) else (bif Nat.beq pc 25 then some (56, 76, 0, 28) else none))) else (bif Nat.blt pc 29 then (bif Nat.beq pc 28 then some (8, 0, 0, 29) else none) else (bif Nat.blt pc 32 then (bif Nat.beq pc 29 then some (33, 29, 0, 32) else none) else (bif Nat.beq pc 32 then some (4, 3, 0, 33) else none)))) else (bif Nat.blt pc 38 then (bif Nat.blt pc 34 then (bif Nat.beq pc 33 then some (62, 0, 0, 34) else none) else (bif Nat.blt pc 35 then (bif Nat.beq pc 34 then some (4, 1, 0, 35) else none) else (bif Nat.beq pc 35 then some (57, 76, 0, 38) else none))) else (bif Nat.blt pc 42 then (bif Nat.blt pc 39 then (bif Nat.beq pc 38 then some (8, 0, 0, 39) else none) else (bif Nat.beq pc 39 then some (33, 29, 0, 42) else none)) else (bif Nat.blt pc 44 then (bif Nat.beq pc 42 then some (5, 4, 0, 44) else none) else (bif Nat.beq pc 44 then some (62, 0, 0, 45) else none)))))) else (bif Nat.blt pc 66 then (bif Nat.blt pc 56 then (bif Nat.blt pc 50 then (bif Nat.blt pc 46 then (bif Nat.beq pc 45 then some (4, 2, 0, 46) else none) else (bif Nat.blt pc 49 then (bif Nat.beq pc 46 then some (57, 76, 0, 49) else none) else (bif Nat.beq pc 49 then some (8, 0, 0, 50) else none))) else (bif Nat.blt pc 53 then (bif Nat.beq pc 50 then some (33, 53, 0, 53) else none) else (bif Nat.blt pc 55 then (bif Nat.beq pc 53 then some (1, 0, 8, 55) else none) else (bif Nat.beq pc 55 then some (8, 0, 0, 56) else none)))) else (bif Nat.blt pc 61 then (bif Nat.blt pc 59 then (bif Nat.beq pc 56 then some (33, 20, 0, 59) else none) else (bif Nat.blt pc 60 then (bif Nat.beq pc 59 then some (4, 3, 0, 60) else none) else (bif Nat.beq pc 60 then some (62, 0, 0, 61) else none))) else (bif Nat.blt pc 62 then (bif Nat.beq pc 61 then some (19, 0, 0, 62) else none) else (bif Nat.blt pc 63 then (bif Nat.beq pc 62 then some (8, 0, 0, 63) else none) else (bif Nat.beq pc 63 then some (33, 20, 0, 66) else none))))) else (bif Nat.blt pc 75 then (bif Nat.blt pc 70 then (bif Nat.blt pc 68 then (bif Nat.beq pc 66 then some (5, 4, 0, 68) else none) else (bif Nat.blt pc 69 then (bif Nat.beq pc 68 then some (62, 0, 0, 69) else none) else (bif Nat.beq pc 69 then some (17, 0, 0, 70) else none))) else (bif Nat.blt pc 71 then (bif Nat.beq pc 70 then some (63, 0, 0, 71) else none) else (bif Nat.blt pc 74 then (bif Nat.beq pc 71 then some (50, 76, 0, 74) else none) else (bif Nat.beq pc 74 then some (0, 0, 1, 75) else none)))) else (bif Nat.blt pc 82 then (bif Nat.blt pc 76 then (bif Nat.beq pc 75 then some (83, 0, 0, 76) else none) else (bif Nat.blt pc 79 then (bif Nat.beq pc 76 then some (16, 4, 1, 79) else none) else (bif Nat.beq pc 79 then some (32, 13, 0, 82) else none))) else (bif Nat.blt pc 88 then (bif Nat.blt pc 85 then (bif Nat.beq pc 82 then some (16, 3, 1, 85) else none) else (bif Nat.beq pc 85 then some (32, 2, 0, 88) else none)) else (bif Nat.blt pc 89 then (bif Nat.beq pc 88 then some (0, 0, 0, 89) else none) else (bif Nat.beq pc 89 then some (83, 0, 0, 90) else none))))))))
def mX8_areBarred : em_Me := ((RX8, yX8_areBarred, cX8_areBarred, 5, (some .boolean)), iX8_areBarred, fX8, qX8)
theorem rX8_areBarred_0 : em_ckR RX8 cX8_areBarred iX8_areBarred 0 60 = true := by decide +kernel
theorem rX8_areBarred_1 : em_ckR RX8 cX8_areBarred iX8_areBarred 60 30 = true := by decide +kernel
theorem kX8_areBarred : em_ok mX8_areBarred := em_okM (N := 90) rfl (fun pc hpc q hq => if h0 : pc < 60 then em_ckR_at rX8_areBarred_0 (by omega) (by omega) hq else em_ckR_at rX8_areBarred_1 (by omega) (by omega) hq) fX8_ok qX8_ok
theorem tX8_areBarred : em_tV mX8_areBarred 2 8 := ⟨⟨em_in (k := 1067) (by decide +kernel), em_in (k := 10) (by decide +kernel), ⟨by decide +kernel, by decide +kernel⟩, by decide +kernel, by decide +kernel⟩, em_in (k := 1066) (by decide +kernel), _, rfl, List.mem_append_left _ (by decide +kernel)⟩
def iX8_manyIn : Nat → Option (Nat × Nat × Int32 × Nat) := em_tr 38 (fun pc => (bif Nat.blt pc 18 then (bif Nat.blt pc 6 then (bif Nat.blt pc 3 then (bif Nat.blt pc 1 then (bif Nat.beq pc 0 then some (0, 0, 0, 1) else none) else (bif Nat.blt pc 2 then (bif Nat.beq pc 1 then some (10, 2, 0, 2) else none) else (bif Nat.beq pc 2 then some (0, 0, 0, 3) else none))) else (bif Nat.blt pc 4 then (bif Nat.beq pc 3 then some (10, 3, 0, 4) else none) else (bif Nat.blt pc 5 then (bif Nat.beq pc 4 then some (4, 3, 0, 5) else none) else (bif Nat.beq pc 5 then some (8, 0, 0, 6) else none)))) else (bif Nat.blt pc 13 then (bif Nat.blt pc 9 then (bif Nat.beq pc 6 then some (33, 109, 0, 9) else none) else (bif Nat.blt pc 12 then (bif Nat.beq pc 9 then some (59, 36, 0, 12) else none) else (bif Nat.beq pc 12 then some (4, 2, 0, 13) else none))) else (bif Nat.blt pc 14 then (bif Nat.beq pc 13 then some (8, 0, 0, 14) else none) else (bif Nat.blt pc 17 then (bif Nat.beq pc 14 then some (33, 29, 0, 17) else none) else (bif Nat.beq pc 17 then some (4, 3, 0, 18) else none))))) else (bif Nat.blt pc 28 then (bif Nat.blt pc 23 then (bif Nat.blt pc 19 then (bif Nat.beq pc 18 then some (62, 0, 0, 19) else none) else (bif Nat.blt pc 20 then (bif Nat.beq pc 19 then some (4, 1, 0, 20) else none) else (bif Nat.beq pc 20 then some (57, 27, 0, 23) else none))) else (bif Nat.blt pc 24 then (bif Nat.beq pc 23 then some (0, 0, 1, 24) else none) else (bif Nat.blt pc 27 then (bif Nat.beq pc 24 then some (32, 28, 0, 27) else none) else (bif Nat.beq pc 27 then some (0, 0, 0, 28) else none)))) else (bif Nat.blt pc 33 then (bif Nat.blt pc 29 then (bif Nat.beq pc 28 then some (17, 0, 0, 29) else none) else (bif Nat.blt pc 30 then (bif Nat.beq pc 29 then some (10, 2, 0, 30) else none) else (bif Nat.beq pc 30 then some (16, 3, 1, 33) else none))) else (bif Nat.blt pc 36 then (bif Nat.beq pc 33 then some (32, 4, 0, 36) else none) else (bif Nat.blt pc 37 then (bif Nat.beq pc 36 then some (4, 2, 0, 37) else none) else (bif Nat.beq pc 37 then some (83, 0, 0, 38) else none)))))))
def mX8_manyIn : em_Me := ((RX8, yX8_manyIn, cX8_manyIn, 4, (some .int)), iX8_manyIn, fX8, qX8)
theorem rX8_manyIn_0 : em_ckR RX8 cX8_manyIn iX8_manyIn 0 38 = true := by decide +kernel
theorem kX8_manyIn : em_ok mX8_manyIn := em_okM (N := 38) rfl (fun pc hpc q hq => em_ckR_at rX8_manyIn_0 (by omega) (by omega) hq) fX8_ok qX8_ok
theorem tX8_manyIn : em_tV mX8_manyIn 1 8 := ⟨⟨em_in (k := 1063) (by decide +kernel), em_in (k := 10) (by decide +kernel), ⟨by decide +kernel, by decide +kernel⟩, by decide +kernel, by decide +kernel⟩, em_in (k := 1062) (by decide +kernel), _, rfl, List.mem_append_left _ (by decide +kernel)⟩
def iX8_wagon : Nat → Option (Nat × Nat × Int32 × Nat) := em_tr 61 (fun pc => (bif Nat.blt pc 30 then (bif Nat.blt pc 13 then (bif Nat.blt pc 7 then (bif Nat.blt pc 2 then (bif Nat.blt pc 1 then (bif Nat.beq pc 0 then some (4, 1, 0, 1) else none) else (bif Nat.beq pc 1 then some (0, 0, 0, 2) else none)) else (bif Nat.blt pc 4 then (bif Nat.beq pc 2 then some (1, 0, 7, 4) else none) else (bif Nat.beq pc 4 then some (80, 112, 0, 7) else none))) else (bif Nat.blt pc 11 then (bif Nat.blt pc 10 then (bif Nat.beq pc 7 then some (51, 12, 0, 10) else none) else (bif Nat.beq pc 10 then some (0, 0, (-1), 11) else none)) else (bif Nat.blt pc 12 then (bif Nat.beq pc 11 then some (83, 0, 0, 12) else none) else (bif Nat.beq pc 12 then some (4, 2, 0, 13) else none)))) else (bif Nat.blt pc 21 then (bif Nat.blt pc 17 then (bif Nat.blt pc 16 then (bif Nat.beq pc 13 then some (51, 24, 0, 16) else none) else (bif Nat.beq pc 16 then some (8, 0, 0, 17) else none)) else (bif Nat.blt pc 18 then (bif Nat.beq pc 17 then some (4, 1, 0, 18) else none) else (bif Nat.beq pc 18 then some (81, 119, 0, 21) else none))) else (bif Nat.blt pc 25 then (bif Nat.blt pc 24 then (bif Nat.beq pc 21 then some (32, 60, 0, 24) else none) else (bif Nat.beq pc 24 then some (4, 2, 0, 25) else none)) else (bif Nat.blt pc 26 then (bif Nat.beq pc 25 then some (0, 0, 1, 26) else none) else (bif Nat.blt pc 29 then (bif Nat.beq pc 26 then some (57, 37, 0, 29) else none) else (bif Nat.beq pc 29 then some (8, 0, 0, 30) else none)))))) else (bif Nat.blt pc 44 then (bif Nat.blt pc 38 then (bif Nat.blt pc 34 then (bif Nat.blt pc 31 then (bif Nat.beq pc 30 then some (4, 1, 0, 31) else none) else (bif Nat.beq pc 31 then some (81, 148, 0, 34) else none)) else (bif Nat.blt pc 37 then (bif Nat.beq pc 34 then some (32, 60, 0, 37) else none) else (bif Nat.beq pc 37 then some (4, 2, 0, 38) else none))) else (bif Nat.blt pc 42 then (bif Nat.blt pc 39 then (bif Nat.beq pc 38 then some (0, 0, 2, 39) else none) else (bif Nat.beq pc 39 then some (57, 59, 0, 42) else none)) else (bif Nat.blt pc 43 then (bif Nat.beq pc 42 then some (8, 0, 0, 43) else none) else (bif Nat.beq pc 43 then some (4, 1, 0, 44) else none)))) else (bif Nat.blt pc 52 then (bif Nat.blt pc 48 then (bif Nat.blt pc 45 then (bif Nat.beq pc 44 then some (4, 1, 0, 45) else none) else (bif Nat.beq pc 45 then some (81, 151, 0, 48) else none)) else (bif Nat.blt pc 51 then (bif Nat.beq pc 48 then some (50, 55, 0, 51) else none) else (bif Nat.beq pc 51 then some (0, 0, 0, 52) else none))) else (bif Nat.blt pc 56 then (bif Nat.blt pc 55 then (bif Nat.beq pc 52 then some (32, 60, 0, 55) else none) else (bif Nat.beq pc 55 then some (0, 0, 1, 56) else none)) else (bif Nat.blt pc 59 then (bif Nat.beq pc 56 then some (32, 60, 0, 59) else none) else (bif Nat.blt pc 60 then (bif Nat.beq pc 59 then some (0, 0, (-1), 60) else none) else (bif Nat.beq pc 60 then some (83, 0, 0, 61) else none))))))))
def mX8_wagon : em_Me := ((RX8, yX8_wagon, cX8_wagon, 3, (some .int)), iX8_wagon, fX8, qX8)
theorem rX8_wagon_0 : em_ckR RX8 cX8_wagon iX8_wagon 0 60 = true := by decide +kernel
theorem rX8_wagon_1 : em_ckR RX8 cX8_wagon iX8_wagon 60 1 = true := by decide +kernel
theorem kX8_wagon : em_ok mX8_wagon := em_okM (N := 61) rfl (fun pc hpc q hq => if h0 : pc < 60 then em_ckR_at rX8_wagon_0 (by omega) (by omega) hq else em_ckR_at rX8_wagon_1 (by omega) (by omega) hq) fX8_ok qX8_ok
theorem tX8_wagon : em_tV mX8_wagon 2 8 := ⟨⟨em_in (k := 1059) (by decide +kernel), em_in (k := 10) (by decide +kernel), ⟨by decide +kernel, by decide +kernel⟩, by decide +kernel, by decide +kernel⟩, em_in (k := 1057) (by decide +kernel), _, rfl, em_in (k := 1058) (by decide +kernel)⟩
def iX8_lays : Nat → Option (Nat × Nat × Int32 × Nat) := em_tr 94 (fun pc => (bif Nat.blt pc 46 then (bif Nat.blt pc 24 then (bif Nat.blt pc 9 then (bif Nat.blt pc 5 then (bif Nat.blt pc 1 then (bif Nat.beq pc 0 then some (4, 1, 0, 1) else none) else (bif Nat.blt pc 2 then (bif Nat.beq pc 1 then some (4, 2, 0, 2) else none) else (bif Nat.beq pc 2 then some (57, 7, 0, 5) else none))) else (bif Nat.blt pc 7 then (bif Nat.blt pc 6 then (bif Nat.beq pc 5 then some (0, 0, 1, 6) else none) else (bif Nat.beq pc 6 then some (83, 0, 0, 7) else none)) else (bif Nat.blt pc 8 then (bif Nat.beq pc 7 then some (0, 0, 0, 8) else none) else (bif Nat.beq pc 8 then some (10, 3, 0, 9) else none)))) else (bif Nat.blt pc 16 then (bif Nat.blt pc 12 then (bif Nat.blt pc 10 then (bif Nat.beq pc 9 then some (4, 3, 0, 10) else none) else (bif Nat.beq pc 10 then some (1, 0, 8, 12) else none)) else (bif Nat.blt pc 15 then (bif Nat.beq pc 12 then some (59, 92, 0, 15) else none) else (bif Nat.beq pc 15 then some (8, 0, 0, 16) else none))) else (bif Nat.blt pc 20 then (bif Nat.blt pc 19 then (bif Nat.beq pc 16 then some (33, 60, 0, 19) else none) else (bif Nat.beq pc 19 then some (4, 3, 0, 20) else none)) else (bif Nat.blt pc 21 then (bif Nat.beq pc 20 then some (63, 0, 0, 21) else none) else (bif Nat.beq pc 21 then some (51, 86, 0, 24) else none))))) else (bif Nat.blt pc 38 then (bif Nat.blt pc 29 then (bif Nat.blt pc 25 then (bif Nat.beq pc 24 then some (4, 1, 0, 25) else none) else (bif Nat.blt pc 28 then (bif Nat.beq pc 25 then some (55, 52, 0, 28) else none) else (bif Nat.beq pc 28 then some (8, 0, 0, 29) else none))) else (bif Nat.blt pc 34 then (bif Nat.blt pc 32 then (bif Nat.beq pc 29 then some (33, 63, 0, 32) else none) else (bif Nat.beq pc 32 then some (1, 0, 8, 34) else none)) else (bif Nat.blt pc 35 then (bif Nat.beq pc 34 then some (8, 0, 0, 35) else none) else (bif Nat.beq pc 35 then some (33, 57, 0, 38) else none)))) else (bif Nat.blt pc 42 then (bif Nat.blt pc 40 then (bif Nat.blt pc 39 then (bif Nat.beq pc 38 then some (4, 1, 0, 39) else none) else (bif Nat.beq pc 39 then some (0, 0, 1, 40) else none)) else (bif Nat.blt pc 41 then (bif Nat.beq pc 40 then some (18, 0, 0, 41) else none) else (bif Nat.beq pc 41 then some (62, 0, 0, 42) else none))) else (bif Nat.blt pc 44 then (bif Nat.blt pc 43 then (bif Nat.beq pc 42 then some (19, 0, 0, 43) else none) else (bif Nat.beq pc 43 then some (4, 3, 0, 44) else none)) else (bif Nat.blt pc 45 then (bif Nat.beq pc 44 then some (17, 0, 0, 45) else none) else (bif Nat.beq pc 45 then some (63, 0, 0, 46) else none)))))) else (bif Nat.blt pc 69 then (bif Nat.blt pc 59 then (bif Nat.blt pc 53 then (bif Nat.blt pc 49 then (bif Nat.beq pc 46 then some (50, 52, 0, 49) else none) else (bif Nat.blt pc 52 then (bif Nat.beq pc 49 then some (32, 86, 0, 52) else none) else (bif Nat.beq pc 52 then some (8, 0, 0, 53) else none))) else (bif Nat.blt pc 57 then (bif Nat.blt pc 56 then (bif Nat.beq pc 53 then some (33, 60, 0, 56) else none) else (bif Nat.beq pc 56 then some (4, 3, 0, 57) else none)) else (bif Nat.blt pc 58 then (bif Nat.beq pc 57 then some (0, 0, 1, 58) else none) else (bif Nat.beq pc 58 then some (67, 0, 0, 59) else none)))) else (bif Nat.blt pc 65 then (bif Nat.blt pc 63 then (bif Nat.blt pc 60 then (bif Nat.beq pc 59 then some (8, 0, 0, 60) else none) else (bif Nat.beq pc 60 then some (33, 57, 0, 63) else none)) else (bif Nat.blt pc 64 then (bif Nat.beq pc 63 then some (4, 1, 0, 64) else none) else (bif Nat.beq pc 64 then some (4, 3, 0, 65) else none))) else (bif Nat.blt pc 67 then (bif Nat.blt pc 66 then (bif Nat.beq pc 65 then some (66, 0, 0, 66) else none) else (bif Nat.beq pc 66 then some (8, 0, 0, 67) else none)) else (bif Nat.blt pc 68 then (bif Nat.beq pc 67 then some (4, 1, 0, 68) else none) else (bif Nat.beq pc 68 then some (0, 0, 1, 69) else none))))) else (bif Nat.blt pc 80 then (bif Nat.blt pc 74 then (bif Nat.blt pc 70 then (bif Nat.beq pc 69 then some (17, 0, 0, 70) else none) else (bif Nat.blt pc 71 then (bif Nat.beq pc 70 then some (4, 2, 0, 71) else none) else (bif Nat.beq pc 71 then some (81, 155, 0, 74) else none))) else (bif Nat.blt pc 78 then (bif Nat.blt pc 77 then (bif Nat.beq pc 74 then some (50, 79, 0, 77) else none) else (bif Nat.beq pc 77 then some (0, 0, 1, 78) else none)) else (bif Nat.blt pc 79 then (bif Nat.beq pc 78 then some (83, 0, 0, 79) else none) else (bif Nat.beq pc 79 then some (8, 0, 0, 80) else none)))) else (bif Nat.blt pc 86 then (bif Nat.blt pc 84 then (bif Nat.blt pc 83 then (bif Nat.beq pc 80 then some (33, 60, 0, 83) else none) else (bif Nat.beq pc 83 then some (4, 3, 0, 84) else none)) else (bif Nat.blt pc 85 then (bif Nat.beq pc 84 then some (0, 0, 0, 85) else none) else (bif Nat.beq pc 85 then some (67, 0, 0, 86) else none))) else (bif Nat.blt pc 92 then (bif Nat.blt pc 89 then (bif Nat.beq pc 86 then some (16, 3, 1, 89) else none) else (bif Nat.beq pc 89 then some (32, 9, 0, 92) else none)) else (bif Nat.blt pc 93 then (bif Nat.beq pc 92 then some (0, 0, 0, 93) else none) else (bif Nat.beq pc 93 then some (83, 0, 0, 94) else none))))))))
def mX8_lays : em_Me := ((RX8, yX8_lays, cX8_lays, 4, (some .boolean)), iX8_lays, fX8, qX8)
theorem rX8_lays_0 : em_ckR RX8 cX8_lays iX8_lays 0 60 = true := by decide +kernel
theorem rX8_lays_1 : em_ckR RX8 cX8_lays iX8_lays 60 34 = true := by decide +kernel
theorem kX8_lays : em_ok mX8_lays := em_okM (N := 94) rfl (fun pc hpc q hq => if h0 : pc < 60 then em_ckR_at rX8_lays_0 (by omega) (by omega) hq else em_ckR_at rX8_lays_1 (by omega) (by omega) hq) fX8_ok qX8_ok
theorem tX8_lays : em_tV mX8_lays 2 8 := ⟨⟨em_in (k := 1075) (by decide +kernel), em_in (k := 10) (by decide +kernel), ⟨by decide +kernel, by decide +kernel⟩, by decide +kernel, by decide +kernel⟩, em_in (k := 1074) (by decide +kernel), _, rfl, List.mem_append_left _ (by decide +kernel)⟩
def iX8_order : Nat → Option (Nat × Nat × Int32 × Nat) := em_tr 132 (fun pc => (bif Nat.blt pc 64 then (bif Nat.blt pc 30 then (bif Nat.blt pc 14 then (bif Nat.blt pc 4 then (bif Nat.blt pc 2 then (bif Nat.blt pc 1 then (bif Nat.beq pc 0 then some (0, 0, 0, 1) else none) else (bif Nat.beq pc 1 then some (10, 2, 0, 2) else none)) else (bif Nat.blt pc 3 then (bif Nat.beq pc 2 then some (0, 0, 0, 3) else none) else (bif Nat.beq pc 3 then some (10, 3, 0, 4) else none))) else (bif Nat.blt pc 7 then (bif Nat.blt pc 5 then (bif Nat.beq pc 4 then some (4, 3, 0, 5) else none) else (bif Nat.beq pc 5 then some (1, 0, 8, 7) else none)) else (bif Nat.blt pc 10 then (bif Nat.beq pc 7 then some (59, 101, 0, 10) else none) else (bif Nat.blt pc 11 then (bif Nat.beq pc 10 then some (8, 0, 0, 11) else none) else (bif Nat.beq pc 11 then some (33, 60, 0, 14) else none))))) else (bif Nat.blt pc 23 then (bif Nat.blt pc 16 then (bif Nat.blt pc 15 then (bif Nat.beq pc 14 then some (4, 3, 0, 15) else none) else (bif Nat.beq pc 15 then some (8, 0, 0, 16) else none)) else (bif Nat.blt pc 17 then (bif Nat.beq pc 16 then some (4, 3, 0, 17) else none) else (bif Nat.blt pc 20 then (bif Nat.beq pc 17 then some (81, 148, 0, 20) else none) else (bif Nat.beq pc 20 then some (51, 27, 0, 23) else none)))) else (bif Nat.blt pc 27 then (bif Nat.blt pc 24 then (bif Nat.beq pc 23 then some (0, 0, 1, 24) else none) else (bif Nat.beq pc 24 then some (32, 28, 0, 27) else none)) else (bif Nat.blt pc 28 then (bif Nat.beq pc 27 then some (0, 0, 0, 28) else none) else (bif Nat.blt pc 29 then (bif Nat.beq pc 28 then some (67, 0, 0, 29) else none) else (bif Nat.beq pc 29 then some (4, 2, 0, 30) else none)))))) else (bif Nat.blt pc 45 then (bif Nat.blt pc 36 then (bif Nat.blt pc 34 then (bif Nat.blt pc 31 then (bif Nat.beq pc 30 then some (8, 0, 0, 31) else none) else (bif Nat.beq pc 31 then some (33, 60, 0, 34) else none)) else (bif Nat.blt pc 35 then (bif Nat.beq pc 34 then some (4, 3, 0, 35) else none) else (bif Nat.beq pc 35 then some (63, 0, 0, 36) else none))) else (bif Nat.blt pc 40 then (bif Nat.blt pc 39 then (bif Nat.beq pc 36 then some (50, 43, 0, 39) else none) else (bif Nat.beq pc 39 then some (0, 0, 0, 40) else none)) else (bif Nat.blt pc 43 then (bif Nat.beq pc 40 then some (32, 44, 0, 43) else none) else (bif Nat.blt pc 44 then (bif Nat.beq pc 43 then some (0, 0, 1, 44) else none) else (bif Nat.beq pc 44 then some (17, 0, 0, 45) else none))))) else (bif Nat.blt pc 53 then (bif Nat.blt pc 47 then (bif Nat.blt pc 46 then (bif Nat.beq pc 45 then some (10, 2, 0, 46) else none) else (bif Nat.beq pc 46 then some (0, 0, 0, 47) else none)) else (bif Nat.blt pc 49 then (bif Nat.beq pc 47 then some (11, 4, 0, 49) else none) else (bif Nat.blt pc 51 then (bif Nat.beq pc 49 then some (5, 4, 0, 51) else none) else (bif Nat.beq pc 51 then some (1, 0, 8, 53) else none)))) else (bif Nat.blt pc 57 then (bif Nat.blt pc 56 then (bif Nat.beq pc 53 then some (59, 95, 0, 56) else none) else (bif Nat.beq pc 56 then some (8, 0, 0, 57) else none)) else (bif Nat.blt pc 60 then (bif Nat.beq pc 57 then some (33, 63, 0, 60) else none) else (bif Nat.blt pc 62 then (bif Nat.beq pc 60 then some (1, 0, 8, 62) else none) else (bif Nat.beq pc 62 then some (5, 4, 0, 64) else none))))))) else (bif Nat.blt pc 101 then (bif Nat.blt pc 77 then (bif Nat.blt pc 69 then (bif Nat.blt pc 66 then (bif Nat.blt pc 65 then (bif Nat.beq pc 64 then some (19, 0, 0, 65) else none) else (bif Nat.beq pc 65 then some (4, 3, 0, 66) else none)) else (bif Nat.blt pc 67 then (bif Nat.beq pc 66 then some (17, 0, 0, 67) else none) else (bif Nat.beq pc 67 then some (5, 4, 0, 69) else none))) else (bif Nat.blt pc 73 then (bif Nat.blt pc 70 then (bif Nat.beq pc 69 then some (4, 3, 0, 70) else none) else (bif Nat.beq pc 70 then some (56, 87, 0, 73) else none)) else (bif Nat.blt pc 74 then (bif Nat.beq pc 73 then some (8, 0, 0, 74) else none) else (bif Nat.blt pc 76 then (bif Nat.beq pc 74 then some (5, 4, 0, 76) else none) else (bif Nat.beq pc 76 then some (4, 3, 0, 77) else none))))) else (bif Nat.blt pc 88 then (bif Nat.blt pc 83 then (bif Nat.blt pc 80 then (bif Nat.beq pc 77 then some (81, 151, 0, 80) else none) else (bif Nat.beq pc 80 then some (50, 87, 0, 83) else none)) else (bif Nat.blt pc 84 then (bif Nat.beq pc 83 then some (0, 0, 1, 84) else none) else (bif Nat.blt pc 87 then (bif Nat.beq pc 84 then some (32, 88, 0, 87) else none) else (bif Nat.beq pc 87 then some (0, 0, 0, 88) else none)))) else (bif Nat.blt pc 92 then (bif Nat.blt pc 89 then (bif Nat.beq pc 88 then some (67, 0, 0, 89) else none) else (bif Nat.beq pc 89 then some (16, 4, 1, 92) else none)) else (bif Nat.blt pc 95 then (bif Nat.beq pc 92 then some (32, 49, 0, 95) else none) else (bif Nat.blt pc 98 then (bif Nat.beq pc 95 then some (16, 3, 1, 98) else none) else (bif Nat.beq pc 98 then some (32, 4, 0, 101) else none)))))) else (bif Nat.blt pc 114 then (bif Nat.blt pc 105 then (bif Nat.blt pc 103 then (bif Nat.blt pc 102 then (bif Nat.beq pc 101 then some (4, 1, 0, 102) else none) else (bif Nat.beq pc 102 then some (0, 0, 0, 103) else none)) else (bif Nat.blt pc 104 then (bif Nat.beq pc 103 then some (4, 2, 0, 104) else none) else (bif Nat.beq pc 104 then some (0, 0, 1, 105) else none))) else (bif Nat.blt pc 109 then (bif Nat.blt pc 106 then (bif Nat.beq pc 105 then some (18, 0, 0, 106) else none) else (bif Nat.beq pc 106 then some (80, 112, 0, 109) else none)) else (bif Nat.blt pc 112 then (bif Nat.beq pc 109 then some (50, 130, 0, 112) else none) else (bif Nat.blt pc 113 then (bif Nat.beq pc 112 then some (8, 0, 0, 113) else none) else (bif Nat.beq pc 113 then some (0, 0, 0, 114) else none))))) else (bif Nat.blt pc 125 then (bif Nat.blt pc 118 then (bif Nat.blt pc 115 then (bif Nat.beq pc 114 then some (4, 2, 0, 115) else none) else (bif Nat.beq pc 115 then some (81, 155, 0, 118) else none)) else (bif Nat.blt pc 121 then (bif Nat.beq pc 118 then some (50, 130, 0, 121) else none) else (bif Nat.blt pc 122 then (bif Nat.beq pc 121 then some (8, 0, 0, 122) else none) else (bif Nat.beq pc 122 then some (33, 57, 0, 125) else none)))) else (bif Nat.blt pc 127 then (bif Nat.blt pc 126 then (bif Nat.beq pc 125 then some (4, 1, 0, 126) else none) else (bif Nat.beq pc 126 then some (62, 0, 0, 127) else none)) else (bif Nat.blt pc 130 then (bif Nat.beq pc 127 then some (32, 131, 0, 130) else none) else (bif Nat.blt pc 131 then (bif Nat.beq pc 130 then some (0, 0, (-1), 131) else none) else (bif Nat.beq pc 131 then some (83, 0, 0, 132) else none)))))))))
def mX8_order : em_Me := ((RX8, yX8_order, cX8_order, 5, (some .int)), iX8_order, fX8, qX8)
theorem rX8_order_0 : em_ckR RX8 cX8_order iX8_order 0 60 = true := by decide +kernel
theorem rX8_order_1 : em_ckR RX8 cX8_order iX8_order 60 60 = true := by decide +kernel
theorem rX8_order_2 : em_ckR RX8 cX8_order iX8_order 120 12 = true := by decide +kernel
theorem kX8_order : em_ok mX8_order := em_okM (N := 132) rfl (fun pc hpc q hq => if h0 : pc < 60 then em_ckR_at rX8_order_0 (by omega) (by omega) hq else if h1 : pc < 120 then em_ckR_at rX8_order_1 (by omega) (by omega) hq else em_ckR_at rX8_order_2 (by omega) (by omega) hq) fX8_ok qX8_ok
theorem tX8_order : em_tV mX8_order 1 8 := ⟨⟨em_in (k := 1071) (by decide +kernel), em_in (k := 10) (by decide +kernel), ⟨by decide +kernel, by decide +kernel⟩, by decide +kernel, by decide +kernel⟩, em_in (k := 1069) (by decide +kernel), _, rfl, em_in (k := 1070) (by decide +kernel)⟩
def iX8_town : Nat → Option (Nat × Nat × Int32 × Nat) := em_tr 91 (fun pc => (bif Nat.blt pc 52 then (bif Nat.blt pc 25 then (bif Nat.blt pc 11 then (bif Nat.blt pc 6 then (bif Nat.blt pc 1 then (bif Nat.beq pc 0 then some (8, 0, 0, 1) else none) else (bif Nat.blt pc 4 then (bif Nat.beq pc 1 then some (33, 158, 0, 4) else none) else (bif Nat.beq pc 4 then some (1, 0, 8, 6) else none))) else (bif Nat.blt pc 9 then (bif Nat.beq pc 6 then some (56, 42, 0, 9) else none) else (bif Nat.blt pc 10 then (bif Nat.beq pc 9 then some (4, 1, 0, 10) else none) else (bif Nat.beq pc 10 then some (0, 0, 0, 11) else none)))) else (bif Nat.blt pc 20 then (bif Nat.blt pc 14 then (bif Nat.beq pc 11 then some (2, 0, 1000, 14) else none) else (bif Nat.blt pc 17 then (bif Nat.beq pc 14 then some (80, 112, 0, 17) else none) else (bif Nat.beq pc 17 then some (50, 42, 0, 20) else none))) else (bif Nat.blt pc 21 then (bif Nat.beq pc 20 then some (4, 2, 0, 21) else none) else (bif Nat.blt pc 22 then (bif Nat.beq pc 21 then some (4, 1, 0, 22) else none) else (bif Nat.beq pc 22 then some (2, 0, 1000, 25) else none))))) else (bif Nat.blt pc 39 then (bif Nat.blt pc 32 then (bif Nat.blt pc 28 then (bif Nat.beq pc 25 then some (80, 112, 0, 28) else none) else (bif Nat.blt pc 31 then (bif Nat.beq pc 28 then some (50, 42, 0, 31) else none) else (bif Nat.beq pc 31 then some (4, 3, 0, 32) else none))) else (bif Nat.blt pc 33 then (bif Nat.beq pc 32 then some (0, 0, 0, 33) else none) else (bif Nat.blt pc 36 then (bif Nat.beq pc 33 then some (2, 0, 10000, 36) else none) else (bif Nat.beq pc 36 then some (80, 112, 0, 39) else none)))) else (bif Nat.blt pc 44 then (bif Nat.blt pc 42 then (bif Nat.beq pc 39 then some (51, 44, 0, 42) else none) else (bif Nat.blt pc 43 then (bif Nat.beq pc 42 then some (0, 0, (-1), 43) else none) else (bif Nat.beq pc 43 then some (83, 0, 0, 44) else none))) else (bif Nat.blt pc 48 then (bif Nat.blt pc 45 then (bif Nat.beq pc 44 then some (8, 0, 0, 45) else none) else (bif Nat.beq pc 45 then some (33, 66, 0, 48) else none)) else (bif Nat.blt pc 49 then (bif Nat.beq pc 48 then some (8, 0, 0, 49) else none) else (bif Nat.beq pc 49 then some (33, 158, 0, 52) else none)))))) else (bif Nat.blt pc 72 then (bif Nat.blt pc 62 then (bif Nat.blt pc 55 then (bif Nat.blt pc 53 then (bif Nat.beq pc 52 then some (4, 1, 0, 53) else none) else (bif Nat.blt pc 54 then (bif Nat.beq pc 53 then some (66, 0, 0, 54) else none) else (bif Nat.beq pc 54 then some (8, 0, 0, 55) else none))) else (bif Nat.blt pc 58 then (bif Nat.beq pc 55 then some (33, 69, 0, 58) else none) else (bif Nat.blt pc 59 then (bif Nat.beq pc 58 then some (8, 0, 0, 59) else none) else (bif Nat.beq pc 59 then some (33, 158, 0, 62) else none)))) else (bif Nat.blt pc 65 then (bif Nat.blt pc 63 then (bif Nat.beq pc 62 then some (4, 2, 0, 63) else none) else (bif Nat.blt pc 64 then (bif Nat.beq pc 63 then some (66, 0, 0, 64) else none) else (bif Nat.beq pc 64 then some (8, 0, 0, 65) else none))) else (bif Nat.blt pc 68 then (bif Nat.beq pc 65 then some (33, 72, 0, 68) else none) else (bif Nat.blt pc 69 then (bif Nat.beq pc 68 then some (8, 0, 0, 69) else none) else (bif Nat.beq pc 69 then some (33, 158, 0, 72) else none))))) else (bif Nat.blt pc 80 then (bif Nat.blt pc 75 then (bif Nat.blt pc 73 then (bif Nat.beq pc 72 then some (4, 3, 0, 73) else none) else (bif Nat.blt pc 74 then (bif Nat.beq pc 73 then some (66, 0, 0, 74) else none) else (bif Nat.beq pc 74 then some (8, 0, 0, 75) else none))) else (bif Nat.blt pc 76 then (bif Nat.beq pc 75 then some (30, 0, 0, 76) else none) else (bif Nat.blt pc 79 then (bif Nat.beq pc 76 then some (33, 158, 0, 79) else none) else (bif Nat.beq pc 79 then some (0, 0, 1, 80) else none)))) else (bif Nat.blt pc 85 then (bif Nat.blt pc 81 then (bif Nat.beq pc 80 then some (17, 0, 0, 81) else none) else (bif Nat.blt pc 84 then (bif Nat.beq pc 81 then some (74, 158, 0, 84) else none) else (bif Nat.beq pc 84 then some (8, 0, 0, 85) else none))) else (bif Nat.blt pc 89 then (bif Nat.blt pc 88 then (bif Nat.beq pc 85 then some (33, 158, 0, 88) else none) else (bif Nat.beq pc 88 then some (0, 0, 1, 89) else none)) else (bif Nat.blt pc 90 then (bif Nat.beq pc 89 then some (18, 0, 0, 90) else none) else (bif Nat.beq pc 90 then some (83, 0, 0, 91) else none))))))))
def mX8_town : em_Me := ((RX8, yX8_town, cX8_town, 4, (some .int)), iX8_town, fX8, qX8)
theorem rX8_town_0 : em_ckR RX8 cX8_town iX8_town 0 60 = true := by decide +kernel
theorem rX8_town_1 : em_ckR RX8 cX8_town iX8_town 60 31 = true := by decide +kernel
theorem kX8_town : em_ok mX8_town := em_okM (N := 91) rfl (fun pc hpc q hq => if h0 : pc < 60 then em_ckR_at rX8_town_0 (by omega) (by omega) hq else em_ckR_at rX8_town_1 (by omega) (by omega) hq) fX8_ok qX8_ok
theorem tX8_town : em_tV mX8_town 3 8 := ⟨⟨em_in (k := 1079) (by decide +kernel), em_in (k := 10) (by decide +kernel), ⟨by decide +kernel, by decide +kernel⟩, by decide +kernel, by decide +kernel⟩, em_in (k := 1077) (by decide +kernel), _, rfl, em_in (k := 1078) (by decide +kernel)⟩
def iX8_isTown : Nat → Option (Nat × Nat × Int32 × Nat) := em_tr 12 (fun pc => (bif Nat.blt pc 6 then (bif Nat.blt pc 2 then (bif Nat.blt pc 1 then (bif Nat.beq pc 0 then some (4, 1, 0, 1) else none) else (bif Nat.beq pc 1 then some (0, 0, 0, 2) else none)) else (bif Nat.blt pc 3 then (bif Nat.beq pc 2 then some (8, 0, 0, 3) else none) else (bif Nat.beq pc 3 then some (33, 158, 0, 6) else none))) else (bif Nat.blt pc 8 then (bif Nat.blt pc 7 then (bif Nat.beq pc 6 then some (0, 0, 1, 7) else none) else (bif Nat.beq pc 7 then some (18, 0, 0, 8) else none)) else (bif Nat.blt pc 11 then (bif Nat.beq pc 8 then some (80, 112, 0, 11) else none) else (bif Nat.beq pc 11 then some (83, 0, 0, 12) else none)))))
def mX8_isTown : em_Me := ((RX8, yX8_isTown, cX8_isTown, 2, (some .boolean)), iX8_isTown, fX8, qX8)
theorem rX8_isTown_0 : em_ckR RX8 cX8_isTown iX8_isTown 0 12 = true := by decide +kernel
theorem kX8_isTown : em_ok mX8_isTown := em_okM (N := 12) rfl (fun pc hpc q hq => em_ckR_at rX8_isTown_0 (by omega) (by omega) hq) fX8_ok qX8_ok
theorem tX8_isTown : em_tV mX8_isTown 1 8 := ⟨⟨em_in (k := 1087) (by decide +kernel), em_in (k := 10) (by decide +kernel), ⟨by decide +kernel, by decide +kernel⟩, by decide +kernel, by decide +kernel⟩, em_in (k := 1086) (by decide +kernel), _, rfl, List.mem_append_left _ (by decide +kernel)⟩
def iX8_way : Nat → Option (Nat × Nat × Int32 × Nat) := em_tr 59 (fun pc => (bif Nat.blt pc 34 then (bif Nat.blt pc 17 then (bif Nat.blt pc 8 then (bif Nat.blt pc 2 then (bif Nat.blt pc 1 then (bif Nat.beq pc 0 then some (8, 0, 0, 1) else none) else (bif Nat.beq pc 1 then some (4, 1, 0, 2) else none)) else (bif Nat.blt pc 5 then (bif Nat.beq pc 2 then some (81, 161, 0, 5) else none) else (bif Nat.beq pc 5 then some (50, 31, 0, 8) else none))) else (bif Nat.blt pc 10 then (bif Nat.blt pc 9 then (bif Nat.beq pc 8 then some (8, 0, 0, 9) else none) else (bif Nat.beq pc 9 then some (4, 2, 0, 10) else none)) else (bif Nat.blt pc 13 then (bif Nat.beq pc 10 then some (81, 161, 0, 13) else none) else (bif Nat.blt pc 16 then (bif Nat.beq pc 13 then some (50, 31, 0, 16) else none) else (bif Nat.beq pc 16 then some (4, 1, 0, 17) else none))))) else (bif Nat.blt pc 25 then (bif Nat.blt pc 21 then (bif Nat.blt pc 18 then (bif Nat.beq pc 17 then some (4, 2, 0, 18) else none) else (bif Nat.beq pc 18 then some (56, 31, 0, 21) else none)) else (bif Nat.blt pc 22 then (bif Nat.beq pc 21 then some (4, 3, 0, 22) else none) else (bif Nat.blt pc 23 then (bif Nat.beq pc 22 then some (0, 0, 1, 23) else none) else (bif Nat.beq pc 23 then some (1, 0, 60, 25) else none)))) else (bif Nat.blt pc 31 then (bif Nat.blt pc 28 then (bif Nat.beq pc 25 then some (80, 112, 0, 28) else none) else (bif Nat.beq pc 28 then some (51, 33, 0, 31) else none)) else (bif Nat.blt pc 32 then (bif Nat.beq pc 31 then some (0, 0, 0, 32) else none) else (bif Nat.blt pc 33 then (bif Nat.beq pc 32 then some (83, 0, 0, 33) else none) else (bif Nat.beq pc 33 then some (8, 0, 0, 34) else none)))))) else (bif Nat.blt pc 46 then (bif Nat.blt pc 41 then (bif Nat.blt pc 39 then (bif Nat.blt pc 37 then (bif Nat.beq pc 34 then some (33, 75, 0, 37) else none) else (bif Nat.beq pc 37 then some (1, 0, 8, 39) else none)) else (bif Nat.blt pc 40 then (bif Nat.beq pc 39 then some (4, 1, 0, 40) else none) else (bif Nat.beq pc 40 then some (19, 0, 0, 41) else none))) else (bif Nat.blt pc 43 then (bif Nat.blt pc 42 then (bif Nat.beq pc 41 then some (4, 2, 0, 42) else none) else (bif Nat.beq pc 42 then some (17, 0, 0, 43) else none)) else (bif Nat.blt pc 44 then (bif Nat.beq pc 43 then some (4, 3, 0, 44) else none) else (bif Nat.blt pc 45 then (bif Nat.beq pc 44 then some (66, 0, 0, 45) else none) else (bif Nat.beq pc 45 then some (8, 0, 0, 46) else none))))) else (bif Nat.blt pc 54 then (bif Nat.blt pc 51 then (bif Nat.blt pc 49 then (bif Nat.beq pc 46 then some (33, 75, 0, 49) else none) else (bif Nat.beq pc 49 then some (1, 0, 8, 51) else none)) else (bif Nat.blt pc 52 then (bif Nat.beq pc 51 then some (4, 2, 0, 52) else none) else (bif Nat.blt pc 53 then (bif Nat.beq pc 52 then some (19, 0, 0, 53) else none) else (bif Nat.beq pc 53 then some (4, 1, 0, 54) else none)))) else (bif Nat.blt pc 56 then (bif Nat.blt pc 55 then (bif Nat.beq pc 54 then some (17, 0, 0, 55) else none) else (bif Nat.beq pc 55 then some (4, 3, 0, 56) else none)) else (bif Nat.blt pc 57 then (bif Nat.beq pc 56 then some (66, 0, 0, 57) else none) else (bif Nat.blt pc 58 then (bif Nat.beq pc 57 then some (0, 0, 1, 58) else none) else (bif Nat.beq pc 58 then some (83, 0, 0, 59) else none))))))))
def mX8_way : em_Me := ((RX8, yX8_way, cX8_way, 4, (some .boolean)), iX8_way, fX8, qX8)
theorem rX8_way_0 : em_ckR RX8 cX8_way iX8_way 0 59 = true := by decide +kernel
theorem kX8_way : em_ok mX8_way := em_okM (N := 59) rfl (fun pc hpc q hq => em_ckR_at rX8_way_0 (by omega) (by omega) hq) fX8_ok qX8_ok
theorem tX8_way : em_tV mX8_way 3 8 := ⟨⟨em_in (k := 1083) (by decide +kernel), em_in (k := 10) (by decide +kernel), ⟨by decide +kernel, by decide +kernel⟩, by decide +kernel, by decide +kernel⟩, em_in (k := 1081) (by decide +kernel), _, rfl, em_in (k := 1082) (by decide +kernel)⟩
def iX8_fodder : Nat → Option (Nat × Nat × Int32 × Nat) := em_tr 20 (fun pc => (bif Nat.blt pc 12 then (bif Nat.blt pc 5 then (bif Nat.blt pc 1 then (bif Nat.beq pc 0 then some (4, 1, 0, 1) else none) else (bif Nat.blt pc 2 then (bif Nat.beq pc 1 then some (0, 0, 0, 2) else none) else (bif Nat.beq pc 2 then some (2, 0, 1000, 5) else none))) else (bif Nat.blt pc 8 then (bif Nat.beq pc 5 then some (80, 112, 0, 8) else none) else (bif Nat.blt pc 11 then (bif Nat.beq pc 8 then some (51, 13, 0, 11) else none) else (bif Nat.beq pc 11 then some (0, 0, 0, 12) else none)))) else (bif Nat.blt pc 15 then (bif Nat.blt pc 13 then (bif Nat.beq pc 12 then some (83, 0, 0, 13) else none) else (bif Nat.blt pc 14 then (bif Nat.beq pc 13 then some (8, 0, 0, 14) else none) else (bif Nat.beq pc 14 then some (4, 1, 0, 15) else none))) else (bif Nat.blt pc 18 then (bif Nat.beq pc 15 then some (74, 164, 0, 18) else none) else (bif Nat.blt pc 19 then (bif Nat.beq pc 18 then some (0, 0, 1, 19) else none) else (bif Nat.beq pc 19 then some (83, 0, 0, 20) else none))))))
def mX8_fodder : em_Me := ((RX8, yX8_fodder, cX8_fodder, 2, (some .boolean)), iX8_fodder, fX8, qX8)
theorem rX8_fodder_0 : em_ckR RX8 cX8_fodder iX8_fodder 0 20 = true := by decide +kernel
theorem kX8_fodder : em_ok mX8_fodder := em_okM (N := 20) rfl (fun pc hpc q hq => em_ckR_at rX8_fodder_0 (by omega) (by omega) hq) fX8_ok qX8_ok
theorem tX8_fodder : em_tV mX8_fodder 1 8 := ⟨⟨em_in (k := 1091) (by decide +kernel), em_in (k := 10) (by decide +kernel), ⟨by decide +kernel, by decide +kernel⟩, by decide +kernel, by decide +kernel⟩, em_in (k := 1089) (by decide +kernel), _, rfl, em_in (k := 1090) (by decide +kernel)⟩
def iX8_isLower : Nat → Option (Nat × Nat × Int32 × Nat) := em_tr 51 (fun pc => (bif Nat.blt pc 23 then (bif Nat.blt pc 11 then (bif Nat.blt pc 3 then (bif Nat.blt pc 1 then (bif Nat.beq pc 0 then some (0, 0, 0, 1) else none) else (bif Nat.blt pc 2 then (bif Nat.beq pc 1 then some (10, 2, 0, 2) else none) else (bif Nat.beq pc 2 then some (4, 2, 0, 3) else none))) else (bif Nat.blt pc 7 then (bif Nat.blt pc 4 then (bif Nat.beq pc 3 then some (4, 1, 0, 4) else none) else (bif Nat.beq pc 4 then some (59, 49, 0, 7) else none)) else (bif Nat.blt pc 8 then (bif Nat.beq pc 7 then some (8, 0, 0, 8) else none) else (bif Nat.beq pc 8 then some (33, 78, 0, 11) else none)))) else (bif Nat.blt pc 17 then (bif Nat.blt pc 13 then (bif Nat.blt pc 12 then (bif Nat.beq pc 11 then some (4, 2, 0, 12) else none) else (bif Nat.beq pc 12 then some (62, 0, 0, 13) else none)) else (bif Nat.blt pc 14 then (bif Nat.beq pc 13 then some (8, 0, 0, 14) else none) else (bif Nat.beq pc 14 then some (33, 81, 0, 17) else none))) else (bif Nat.blt pc 19 then (bif Nat.blt pc 18 then (bif Nat.beq pc 17 then some (4, 2, 0, 18) else none) else (bif Nat.beq pc 18 then some (62, 0, 0, 19) else none)) else (bif Nat.blt pc 22 then (bif Nat.beq pc 19 then some (56, 43, 0, 22) else none) else (bif Nat.beq pc 22 then some (8, 0, 0, 23) else none))))) else (bif Nat.blt pc 37 then (bif Nat.blt pc 29 then (bif Nat.blt pc 27 then (bif Nat.blt pc 26 then (bif Nat.beq pc 23 then some (33, 78, 0, 26) else none) else (bif Nat.beq pc 26 then some (4, 2, 0, 27) else none)) else (bif Nat.blt pc 28 then (bif Nat.beq pc 27 then some (62, 0, 0, 28) else none) else (bif Nat.beq pc 28 then some (8, 0, 0, 29) else none))) else (bif Nat.blt pc 33 then (bif Nat.blt pc 32 then (bif Nat.beq pc 29 then some (33, 81, 0, 32) else none) else (bif Nat.beq pc 32 then some (4, 2, 0, 33) else none)) else (bif Nat.blt pc 34 then (bif Nat.beq pc 33 then some (62, 0, 0, 34) else none) else (bif Nat.beq pc 34 then some (59, 41, 0, 37) else none)))) else (bif Nat.blt pc 43 then (bif Nat.blt pc 41 then (bif Nat.blt pc 38 then (bif Nat.beq pc 37 then some (0, 0, 1, 38) else none) else (bif Nat.beq pc 38 then some (32, 42, 0, 41) else none)) else (bif Nat.blt pc 42 then (bif Nat.beq pc 41 then some (0, 0, 0, 42) else none) else (bif Nat.beq pc 42 then some (83, 0, 0, 43) else none))) else (bif Nat.blt pc 49 then (bif Nat.blt pc 46 then (bif Nat.beq pc 43 then some (16, 2, 1, 46) else none) else (bif Nat.beq pc 46 then some (32, 2, 0, 49) else none)) else (bif Nat.blt pc 50 then (bif Nat.beq pc 49 then some (0, 0, 0, 50) else none) else (bif Nat.beq pc 50 then some (83, 0, 0, 51) else none)))))))
def mX8_isLower : em_Me := ((RX8, yX8_isLower, cX8_isLower, 3, (some .boolean)), iX8_isLower, fX8, qX8)
theorem rX8_isLower_0 : em_ckR RX8 cX8_isLower iX8_isLower 0 51 = true := by decide +kernel
theorem kX8_isLower : em_ok mX8_isLower := em_okM (N := 51) rfl (fun pc hpc q hq => em_ckR_at rX8_isLower_0 (by omega) (by omega) hq) fX8_ok qX8_ok
theorem tX8_isLower : em_tV mX8_isLower 1 8 := ⟨⟨em_in (k := 1108) (by decide +kernel), em_in (k := 10) (by decide +kernel), ⟨by decide +kernel, by decide +kernel⟩, by decide +kernel, by decide +kernel⟩, em_in (k := 1107) (by decide +kernel), _, rfl, List.mem_append_left _ (by decide +kernel)⟩
def iX8_goOn : Nat → Option (Nat × Nat × Int32 × Nat) := em_tr 216 (fun pc => (bif Nat.blt pc 105 then (bif Nat.blt pc 50 then (bif Nat.blt pc 25 then (bif Nat.blt pc 12 then (bif Nat.blt pc 5 then (bif Nat.blt pc 1 then (bif Nat.beq pc 0 then some (4, 3, 0, 1) else none) else (bif Nat.blt pc 2 then (bif Nat.beq pc 1 then some (8, 0, 0, 2) else none) else (bif Nat.beq pc 2 then some (33, 66, 0, 5) else none))) else (bif Nat.blt pc 7 then (bif Nat.blt pc 6 then (bif Nat.beq pc 5 then some (4, 2, 0, 6) else none) else (bif Nat.beq pc 6 then some (62, 0, 0, 7) else none)) else (bif Nat.blt pc 10 then (bif Nat.beq pc 7 then some (80, 167, 0, 10) else none) else (bif Nat.beq pc 10 then some (11, 6, 0, 12) else none)))) else (bif Nat.blt pc 19 then (bif Nat.blt pc 15 then (bif Nat.blt pc 14 then (bif Nat.beq pc 12 then some (5, 6, 0, 14) else none) else (bif Nat.beq pc 14 then some (8, 0, 0, 15) else none)) else (bif Nat.blt pc 18 then (bif Nat.beq pc 15 then some (33, 69, 0, 18) else none) else (bif Nat.beq pc 18 then some (4, 2, 0, 19) else none))) else (bif Nat.blt pc 23 then (bif Nat.blt pc 20 then (bif Nat.beq pc 19 then some (62, 0, 0, 20) else none) else (bif Nat.beq pc 20 then some (61, 24, 0, 23) else none)) else (bif Nat.blt pc 24 then (bif Nat.beq pc 23 then some (86, 0, 0, 24) else none) else (bif Nat.beq pc 24 then some (8, 0, 0, 25) else none))))) else (bif Nat.blt pc 37 then (bif Nat.blt pc 30 then (bif Nat.blt pc 28 then (bif Nat.beq pc 25 then some (33, 78, 0, 28) else none) else (bif Nat.blt pc 29 then (bif Nat.beq pc 28 then some (4, 1, 0, 29) else none) else (bif Nat.beq pc 29 then some (4, 2, 0, 30) else none))) else (bif Nat.blt pc 33 then (bif Nat.blt pc 31 then (bif Nat.beq pc 30 then some (66, 0, 0, 31) else none) else (bif Nat.beq pc 31 then some (5, 4, 0, 33) else none)) else (bif Nat.blt pc 34 then (bif Nat.beq pc 33 then some (8, 0, 0, 34) else none) else (bif Nat.beq pc 34 then some (33, 72, 0, 37) else none)))) else (bif Nat.blt pc 42 then (bif Nat.blt pc 39 then (bif Nat.blt pc 38 then (bif Nat.beq pc 37 then some (4, 2, 0, 38) else none) else (bif Nat.beq pc 38 then some (62, 0, 0, 39) else none)) else (bif Nat.blt pc 40 then (bif Nat.beq pc 39 then some (17, 0, 0, 40) else none) else (bif Nat.beq pc 40 then some (11, 7, 0, 42) else none))) else (bif Nat.blt pc 45 then (bif Nat.blt pc 44 then (bif Nat.beq pc 42 then some (5, 7, 0, 44) else none) else (bif Nat.beq pc 44 then some (8, 0, 0, 45) else none)) else (bif Nat.blt pc 48 then (bif Nat.beq pc 45 then some (33, 164, 0, 48) else none) else (bif Nat.beq pc 48 then some (5, 6, 0, 50) else none)))))) else (bif Nat.blt pc 72 then (bif Nat.blt pc 59 then (bif Nat.blt pc 53 then (bif Nat.blt pc 51 then (bif Nat.beq pc 50 then some (0, 0, 1, 51) else none) else (bif Nat.blt pc 52 then (bif Nat.beq pc 51 then some (17, 0, 0, 52) else none) else (bif Nat.beq pc 52 then some (8, 0, 0, 53) else none))) else (bif Nat.blt pc 57 then (bif Nat.blt pc 56 then (bif Nat.beq pc 53 then some (33, 172, 0, 56) else none) else (bif Nat.beq pc 56 then some (18, 0, 0, 57) else none)) else (bif Nat.blt pc 58 then (bif Nat.beq pc 57 then some (19, 0, 0, 58) else none) else (bif Nat.beq pc 58 then some (18, 0, 0, 59) else none)))) else (bif Nat.blt pc 64 then (bif Nat.blt pc 62 then (bif Nat.blt pc 61 then (bif Nat.beq pc 59 then some (11, 8, 0, 61) else none) else (bif Nat.beq pc 61 then some (4, 1, 0, 62) else none)) else (bif Nat.blt pc 63 then (bif Nat.beq pc 62 then some (0, 0, 1, 63) else none) else (bif Nat.beq pc 63 then some (17, 0, 0, 64) else none))) else (bif Nat.blt pc 68 then (bif Nat.blt pc 66 then (bif Nat.beq pc 64 then some (11, 9, 0, 66) else none) else (bif Nat.beq pc 66 then some (5, 8, 0, 68) else none)) else (bif Nat.blt pc 69 then (bif Nat.beq pc 68 then some (8, 0, 0, 69) else none) else (bif Nat.beq pc 69 then some (33, 175, 0, 72) else none))))) else (bif Nat.blt pc 87 then (bif Nat.blt pc 78 then (bif Nat.blt pc 75 then (bif Nat.beq pc 72 then some (60, 111, 0, 75) else none) else (bif Nat.blt pc 77 then (bif Nat.beq pc 75 then some (5, 8, 0, 77) else none) else (bif Nat.beq pc 77 then some (8, 0, 0, 78) else none))) else (bif Nat.blt pc 84 then (bif Nat.blt pc 81 then (bif Nat.beq pc 78 then some (33, 175, 0, 81) else none) else (bif Nat.beq pc 81 then some (57, 153, 0, 84) else none)) else (bif Nat.blt pc 86 then (bif Nat.beq pc 84 then some (5, 9, 0, 86) else none) else (bif Nat.beq pc 86 then some (8, 0, 0, 87) else none)))) else (bif Nat.blt pc 96 then (bif Nat.blt pc 93 then (bif Nat.blt pc 90 then (bif Nat.beq pc 87 then some (33, 178, 0, 90) else none) else (bif Nat.beq pc 90 then some (58, 111, 0, 93) else none)) else (bif Nat.blt pc 95 then (bif Nat.beq pc 93 then some (5, 9, 0, 95) else none) else (bif Nat.beq pc 95 then some (8, 0, 0, 96) else none))) else (bif Nat.blt pc 102 then (bif Nat.blt pc 99 then (bif Nat.beq pc 96 then some (33, 178, 0, 99) else none) else (bif Nat.beq pc 99 then some (57, 153, 0, 102) else none)) else (bif Nat.blt pc 103 then (bif Nat.beq pc 102 then some (8, 0, 0, 103) else none) else (bif Nat.beq pc 103 then some (5, 9, 0, 105) else none))))))) else (bif Nat.blt pc 167 then (bif Nat.blt pc 137 then (bif Nat.blt pc 120 then (bif Nat.blt pc 112 then (bif Nat.blt pc 108 then (bif Nat.beq pc 105 then some (81, 181, 0, 108) else none) else (bif Nat.blt pc 111 then (bif Nat.beq pc 108 then some (50, 153, 0, 111) else none) else (bif Nat.beq pc 111 then some (8, 0, 0, 112) else none))) else (bif Nat.blt pc 117 then (bif Nat.blt pc 114 then (bif Nat.beq pc 112 then some (5, 8, 0, 114) else none) else (bif Nat.beq pc 114 then some (74, 175, 0, 117) else none)) else (bif Nat.blt pc 118 then (bif Nat.beq pc 117 then some (8, 0, 0, 118) else none) else (bif Nat.beq pc 118 then some (5, 9, 0, 120) else none)))) else (bif Nat.blt pc 128 then (bif Nat.blt pc 124 then (bif Nat.blt pc 123 then (bif Nat.beq pc 120 then some (74, 178, 0, 123) else none) else (bif Nat.beq pc 123 then some (0, 0, 0, 124) else none)) else (bif Nat.blt pc 126 then (bif Nat.beq pc 124 then some (11, 10, 0, 126) else none) else (bif Nat.beq pc 126 then some (5, 10, 0, 128) else none))) else (bif Nat.blt pc 133 then (bif Nat.blt pc 130 then (bif Nat.beq pc 128 then some (5, 9, 0, 130) else none) else (bif Nat.beq pc 130 then some (59, 153, 0, 133) else none)) else (bif Nat.blt pc 134 then (bif Nat.beq pc 133 then some (8, 0, 0, 134) else none) else (bif Nat.beq pc 134 then some (33, 81, 0, 137) else none))))) else (bif Nat.blt pc 150 then (bif Nat.blt pc 143 then (bif Nat.blt pc 139 then (bif Nat.beq pc 137 then some (5, 10, 0, 139) else none) else (bif Nat.blt pc 140 then (bif Nat.beq pc 139 then some (8, 0, 0, 140) else none) else (bif Nat.beq pc 140 then some (33, 78, 0, 143) else none))) else (bif Nat.blt pc 146 then (bif Nat.blt pc 145 then (bif Nat.beq pc 143 then some (5, 10, 0, 145) else none) else (bif Nat.beq pc 145 then some (62, 0, 0, 146) else none)) else (bif Nat.blt pc 147 then (bif Nat.beq pc 146 then some (66, 0, 0, 147) else none) else (bif Nat.beq pc 147 then some (16, 10, 1, 150) else none)))) else (bif Nat.blt pc 158 then (bif Nat.blt pc 154 then (bif Nat.blt pc 153 then (bif Nat.beq pc 150 then some (32, 126, 0, 153) else none) else (bif Nat.beq pc 153 then some (0, 0, 0, 154) else none)) else (bif Nat.blt pc 156 then (bif Nat.beq pc 154 then some (11, 10, 0, 156) else none) else (bif Nat.beq pc 156 then some (5, 10, 0, 158) else none))) else (bif Nat.blt pc 162 then (bif Nat.blt pc 159 then (bif Nat.beq pc 158 then some (8, 0, 0, 159) else none) else (bif Nat.beq pc 159 then some (33, 158, 0, 162) else none)) else (bif Nat.blt pc 165 then (bif Nat.beq pc 162 then some (59, 215, 0, 165) else none) else (bif Nat.beq pc 165 then some (5, 5, 0, 167) else none)))))) else (bif Nat.blt pc 191 then (bif Nat.blt pc 178 then (bif Nat.blt pc 171 then (bif Nat.blt pc 169 then (bif Nat.beq pc 167 then some (5, 10, 0, 169) else none) else (bif Nat.blt pc 170 then (bif Nat.beq pc 169 then some (24, 0, 0, 170) else none) else (bif Nat.beq pc 170 then some (0, 0, 1, 171) else none))) else (bif Nat.blt pc 175 then (bif Nat.blt pc 172 then (bif Nat.beq pc 171 then some (20, 0, 0, 172) else none) else (bif Nat.beq pc 172 then some (51, 209, 0, 175) else none)) else (bif Nat.blt pc 176 then (bif Nat.beq pc 175 then some (8, 0, 0, 176) else none) else (bif Nat.beq pc 176 then some (5, 9, 0, 178) else none)))) else (bif Nat.blt pc 184 then (bif Nat.blt pc 182 then (bif Nat.blt pc 180 then (bif Nat.beq pc 178 then some (5, 10, 0, 180) else none) else (bif Nat.beq pc 180 then some (5, 6, 0, 182) else none)) else (bif Nat.blt pc 183 then (bif Nat.beq pc 182 then some (0, 0, 1, 183) else none) else (bif Nat.beq pc 183 then some (17, 0, 0, 184) else none))) else (bif Nat.blt pc 188 then (bif Nat.blt pc 185 then (bif Nat.beq pc 184 then some (8, 0, 0, 185) else none) else (bif Nat.beq pc 185 then some (33, 75, 0, 188) else none)) else (bif Nat.blt pc 190 then (bif Nat.beq pc 188 then some (1, 0, 8, 190) else none) else (bif Nat.beq pc 190 then some (4, 2, 0, 191) else none))))) else (bif Nat.blt pc 201 then (bif Nat.blt pc 195 then (bif Nat.blt pc 192 then (bif Nat.beq pc 191 then some (19, 0, 0, 192) else none) else (bif Nat.blt pc 194 then (bif Nat.beq pc 192 then some (5, 10, 0, 194) else none) else (bif Nat.beq pc 194 then some (17, 0, 0, 195) else none))) else (bif Nat.blt pc 197 then (bif Nat.blt pc 196 then (bif Nat.beq pc 195 then some (62, 0, 0, 196) else none) else (bif Nat.beq pc 196 then some (17, 0, 0, 197) else none)) else (bif Nat.blt pc 199 then (bif Nat.beq pc 197 then some (5, 7, 0, 199) else none) else (bif Nat.beq pc 199 then some (5, 5, 0, 201) else none)))) else (bif Nat.blt pc 206 then (bif Nat.blt pc 204 then (bif Nat.blt pc 202 then (bif Nat.beq pc 201 then some (0, 0, 1, 202) else none) else (bif Nat.beq pc 202 then some (5, 10, 0, 204) else none)) else (bif Nat.blt pc 205 then (bif Nat.beq pc 204 then some (23, 0, 0, 205) else none) else (bif Nat.beq pc 205 then some (21, 0, 0, 206) else none))) else (bif Nat.blt pc 212 then (bif Nat.blt pc 209 then (bif Nat.beq pc 206 then some (81, 184, 0, 209) else none) else (bif Nat.beq pc 209 then some (16, 10, 1, 212) else none)) else (bif Nat.blt pc 215 then (bif Nat.beq pc 212 then some (32, 156, 0, 215) else none) else (bif Nat.beq pc 215 then some (86, 0, 0, 216) else none)))))))))
def mX8_goOn : em_Me := ((RX8, yX8_goOn, cX8_goOn, 11, none), iX8_goOn, fX8, qX8)
theorem rX8_goOn_0 : em_ckR RX8 cX8_goOn iX8_goOn 0 60 = true := by decide +kernel
theorem rX8_goOn_1 : em_ckR RX8 cX8_goOn iX8_goOn 60 60 = true := by decide +kernel
theorem rX8_goOn_2 : em_ckR RX8 cX8_goOn iX8_goOn 120 60 = true := by decide +kernel
theorem rX8_goOn_3 : em_ckR RX8 cX8_goOn iX8_goOn 180 36 = true := by decide +kernel
theorem kX8_goOn : em_ok mX8_goOn := em_okM (N := 216) rfl (fun pc hpc q hq => if h0 : pc < 60 then em_ckR_at rX8_goOn_0 (by omega) (by omega) hq else if h1 : pc < 120 then em_ckR_at rX8_goOn_1 (by omega) (by omega) hq else if h2 : pc < 180 then em_ckR_at rX8_goOn_2 (by omega) (by omega) hq else em_ckR_at rX8_goOn_3 (by omega) (by omega) hq) fX8_ok qX8_ok
theorem tX8_goOn : em_tV mX8_goOn 5 8 := ⟨⟨em_in (k := 1103) (by decide +kernel), em_in (k := 10) (by decide +kernel), ⟨by decide +kernel, by decide +kernel⟩, by decide +kernel, by decide +kernel⟩, em_in (k := 1102) (by decide +kernel), _, rfl, List.mem_append_left _ (by decide +kernel)⟩
def iX8_findTour : Nat → Option (Nat × Nat × Int32 × Nat) := em_tr 27 (fun pc => (bif Nat.blt pc 15 then (bif Nat.blt pc 6 then (bif Nat.blt pc 2 then (bif Nat.blt pc 1 then (bif Nat.beq pc 0 then some (8, 0, 0, 1) else none) else (bif Nat.beq pc 1 then some (0, 0, 0, 2) else none)) else (bif Nat.blt pc 5 then (bif Nat.beq pc 2 then some (74, 178, 0, 5) else none) else (bif Nat.beq pc 5 then some (8, 0, 0, 6) else none))) else (bif Nat.blt pc 10 then (bif Nat.blt pc 7 then (bif Nat.beq pc 6 then some (0, 0, 0, 7) else none) else (bif Nat.beq pc 7 then some (74, 175, 0, 10) else none)) else (bif Nat.blt pc 11 then (bif Nat.beq pc 10 then some (8, 0, 0, 11) else none) else (bif Nat.blt pc 12 then (bif Nat.beq pc 11 then some (4, 2, 0, 12) else none) else (bif Nat.beq pc 12 then some (74, 172, 0, 15) else none))))) else (bif Nat.blt pc 20 then (bif Nat.blt pc 17 then (bif Nat.blt pc 16 then (bif Nat.beq pc 15 then some (8, 0, 0, 16) else none) else (bif Nat.beq pc 16 then some (0, 0, 0, 17) else none)) else (bif Nat.blt pc 18 then (bif Nat.beq pc 17 then some (4, 1, 0, 18) else none) else (bif Nat.blt pc 19 then (bif Nat.beq pc 18 then some (4, 2, 0, 19) else none) else (bif Nat.beq pc 19 then some (0, 0, 0, 20) else none)))) else (bif Nat.blt pc 22 then (bif Nat.blt pc 21 then (bif Nat.beq pc 20 then some (0, 0, 1, 21) else none) else (bif Nat.beq pc 21 then some (4, 1, 0, 22) else none)) else (bif Nat.blt pc 23 then (bif Nat.beq pc 22 then some (23, 0, 0, 23) else none) else (bif Nat.blt pc 26 then (bif Nat.beq pc 23 then some (81, 184, 0, 26) else none) else (bif Nat.beq pc 26 then some (86, 0, 0, 27) else none)))))))
def mX8_findTour : em_Me := ((RX8, yX8_findTour, cX8_findTour, 3, none), iX8_findTour, fX8, qX8)
theorem rX8_findTour_0 : em_ckR RX8 cX8_findTour iX8_findTour 0 27 = true := by decide +kernel
theorem kX8_findTour : em_ok mX8_findTour := em_okM (N := 27) rfl (fun pc hpc q hq => em_ckR_at rX8_findTour_0 (by omega) (by omega) hq) fX8_ok qX8_ok
theorem tX8_findTour : em_tV mX8_findTour 2 8 := ⟨⟨em_in (k := 1099) (by decide +kernel), em_in (k := 10) (by decide +kernel), ⟨by decide +kernel, by decide +kernel⟩, by decide +kernel, by decide +kernel⟩, em_in (k := 1098) (by decide +kernel), _, rfl, List.mem_append_left _ (by decide +kernel)⟩
def iX8_tour : Nat → Option (Nat × Nat × Int32 × Nat) := em_tr 32 (fun pc => (bif Nat.blt pc 19 then (bif Nat.blt pc 8 then (bif Nat.blt pc 2 then (bif Nat.blt pc 1 then (bif Nat.beq pc 0 then some (8, 0, 0, 1) else none) else (bif Nat.beq pc 1 then some (4, 1, 0, 2) else none)) else (bif Nat.blt pc 5 then (bif Nat.beq pc 2 then some (81, 161, 0, 5) else none) else (bif Nat.beq pc 5 then some (50, 19, 0, 8) else none))) else (bif Nat.blt pc 10 then (bif Nat.blt pc 9 then (bif Nat.beq pc 8 then some (4, 2, 0, 9) else none) else (bif Nat.beq pc 9 then some (0, 0, 0, 10) else none)) else (bif Nat.blt pc 13 then (bif Nat.beq pc 10 then some (2, 0, 1000, 13) else none) else (bif Nat.blt pc 16 then (bif Nat.beq pc 13 then some (80, 112, 0, 16) else none) else (bif Nat.beq pc 16 then some (51, 21, 0, 19) else none))))) else (bif Nat.blt pc 23 then (bif Nat.blt pc 21 then (bif Nat.blt pc 20 then (bif Nat.beq pc 19 then some (0, 0, (-1), 20) else none) else (bif Nat.beq pc 20 then some (83, 0, 0, 21) else none)) else (bif Nat.blt pc 22 then (bif Nat.beq pc 21 then some (8, 0, 0, 22) else none) else (bif Nat.beq pc 22 then some (4, 1, 0, 23) else none))) else (bif Nat.blt pc 27 then (bif Nat.blt pc 24 then (bif Nat.beq pc 23 then some (4, 2, 0, 24) else none) else (bif Nat.beq pc 24 then some (81, 188, 0, 27) else none)) else (bif Nat.blt pc 28 then (bif Nat.beq pc 27 then some (8, 0, 0, 28) else none) else (bif Nat.blt pc 31 then (bif Nat.beq pc 28 then some (33, 175, 0, 31) else none) else (bif Nat.beq pc 31 then some (83, 0, 0, 32) else none)))))))
def mX8_tour : em_Me := ((RX8, yX8_tour, cX8_tour, 3, (some .int)), iX8_tour, fX8, qX8)
theorem rX8_tour_0 : em_ckR RX8 cX8_tour iX8_tour 0 32 = true := by decide +kernel
theorem kX8_tour : em_ok mX8_tour := em_okM (N := 32) rfl (fun pc hpc q hq => em_ckR_at rX8_tour_0 (by omega) (by omega) hq) fX8_ok qX8_ok
theorem tX8_tour : em_tV mX8_tour 2 8 := ⟨⟨em_in (k := 1095) (by decide +kernel), em_in (k := 10) (by decide +kernel), ⟨by decide +kernel, by decide +kernel⟩, by decide +kernel, by decide +kernel⟩, em_in (k := 1093) (by decide +kernel), _, rfl, em_in (k := 1094) (by decide +kernel)⟩
def iX8_stop : Nat → Option (Nat × Nat × Int32 × Nat) := em_tr 52 (fun pc => (bif Nat.blt pc 27 then (bif Nat.blt pc 13 then (bif Nat.blt pc 5 then (bif Nat.blt pc 1 then (bif Nat.beq pc 0 then some (8, 0, 0, 1) else none) else (bif Nat.blt pc 2 then (bif Nat.beq pc 1 then some (4, 1, 0, 2) else none) else (bif Nat.beq pc 2 then some (81, 161, 0, 5) else none))) else (bif Nat.blt pc 9 then (bif Nat.blt pc 8 then (bif Nat.beq pc 5 then some (50, 19, 0, 8) else none) else (bif Nat.beq pc 8 then some (4, 2, 0, 9) else none)) else (bif Nat.blt pc 10 then (bif Nat.beq pc 9 then some (0, 0, 0, 10) else none) else (bif Nat.beq pc 10 then some (2, 0, 1000, 13) else none)))) else (bif Nat.blt pc 21 then (bif Nat.blt pc 19 then (bif Nat.blt pc 16 then (bif Nat.beq pc 13 then some (80, 112, 0, 16) else none) else (bif Nat.beq pc 16 then some (51, 21, 0, 19) else none)) else (bif Nat.blt pc 20 then (bif Nat.beq pc 19 then some (0, 0, (-1), 20) else none) else (bif Nat.beq pc 20 then some (83, 0, 0, 21) else none))) else (bif Nat.blt pc 23 then (bif Nat.blt pc 22 then (bif Nat.beq pc 21 then some (8, 0, 0, 22) else none) else (bif Nat.beq pc 22 then some (4, 1, 0, 23) else none)) else (bif Nat.blt pc 24 then (bif Nat.beq pc 23 then some (4, 2, 0, 24) else none) else (bif Nat.beq pc 24 then some (81, 188, 0, 27) else none))))) else (bif Nat.blt pc 38 then (bif Nat.blt pc 30 then (bif Nat.blt pc 28 then (bif Nat.beq pc 27 then some (4, 3, 0, 28) else none) else (bif Nat.blt pc 29 then (bif Nat.beq pc 28 then some (0, 0, 0, 29) else none) else (bif Nat.beq pc 29 then some (8, 0, 0, 30) else none))) else (bif Nat.blt pc 34 then (bif Nat.blt pc 33 then (bif Nat.beq pc 30 then some (33, 178, 0, 33) else none) else (bif Nat.beq pc 33 then some (0, 0, 1, 34) else none)) else (bif Nat.blt pc 35 then (bif Nat.beq pc 34 then some (18, 0, 0, 35) else none) else (bif Nat.beq pc 35 then some (80, 112, 0, 38) else none)))) else (bif Nat.blt pc 46 then (bif Nat.blt pc 42 then (bif Nat.blt pc 41 then (bif Nat.beq pc 38 then some (50, 50, 0, 41) else none) else (bif Nat.beq pc 41 then some (8, 0, 0, 42) else none)) else (bif Nat.blt pc 45 then (bif Nat.beq pc 42 then some (33, 81, 0, 45) else none) else (bif Nat.beq pc 45 then some (4, 3, 0, 46) else none))) else (bif Nat.blt pc 50 then (bif Nat.blt pc 47 then (bif Nat.beq pc 46 then some (62, 0, 0, 47) else none) else (bif Nat.beq pc 47 then some (32, 51, 0, 50) else none)) else (bif Nat.blt pc 51 then (bif Nat.beq pc 50 then some (0, 0, (-1), 51) else none) else (bif Nat.beq pc 51 then some (83, 0, 0, 52) else none)))))))
def mX8_stop : em_Me := ((RX8, yX8_stop, cX8_stop, 4, (some .int)), iX8_stop, fX8, qX8)
theorem rX8_stop_0 : em_ckR RX8 cX8_stop iX8_stop 0 52 = true := by decide +kernel
theorem kX8_stop : em_ok mX8_stop := em_okM (N := 52) rfl (fun pc hpc q hq => em_ckR_at rX8_stop_0 (by omega) (by omega) hq) fX8_ok qX8_ok
theorem tX8_stop : em_tV mX8_stop 3 8 := ⟨⟨em_in (k := 1112) (by decide +kernel), em_in (k := 10) (by decide +kernel), ⟨by decide +kernel, by decide +kernel⟩, by decide +kernel, by decide +kernel⟩, em_in (k := 1110) (by decide +kernel), _, rfl, em_in (k := 1111) (by decide +kernel)⟩
def iX8_byteOf : Nat → Option (Nat × Nat × Int32 × Nat) := em_tr 65 (fun pc => (bif Nat.blt pc 36 then (bif Nat.blt pc 17 then (bif Nat.blt pc 7 then (bif Nat.blt pc 3 then (bif Nat.blt pc 2 then (bif Nat.beq pc 0 then some (5, 5, 0, 2) else none) else (bif Nat.beq pc 2 then some (0, 0, 4, 3) else none)) else (bif Nat.blt pc 6 then (bif Nat.beq pc 3 then some (59, 10, 0, 6) else none) else (bif Nat.beq pc 6 then some (4, 0, 0, 7) else none))) else (bif Nat.blt pc 12 then (bif Nat.blt pc 10 then (bif Nat.beq pc 7 then some (32, 45, 0, 10) else none) else (bif Nat.beq pc 10 then some (5, 5, 0, 12) else none)) else (bif Nat.blt pc 14 then (bif Nat.beq pc 12 then some (1, 0, 8, 14) else none) else (bif Nat.beq pc 14 then some (59, 21, 0, 17) else none)))) else (bif Nat.blt pc 25 then (bif Nat.blt pc 21 then (bif Nat.blt pc 18 then (bif Nat.beq pc 17 then some (4, 1, 0, 18) else none) else (bif Nat.beq pc 18 then some (32, 45, 0, 21) else none)) else (bif Nat.blt pc 23 then (bif Nat.beq pc 21 then some (5, 5, 0, 23) else none) else (bif Nat.beq pc 23 then some (1, 0, 12, 25) else none))) else (bif Nat.blt pc 29 then (bif Nat.blt pc 28 then (bif Nat.beq pc 25 then some (59, 32, 0, 28) else none) else (bif Nat.beq pc 28 then some (4, 2, 0, 29) else none)) else (bif Nat.blt pc 32 then (bif Nat.beq pc 29 then some (32, 45, 0, 32) else none) else (bif Nat.blt pc 34 then (bif Nat.beq pc 32 then some (5, 5, 0, 34) else none) else (bif Nat.beq pc 34 then some (1, 0, 16, 36) else none)))))) else (bif Nat.blt pc 53 then (bif Nat.blt pc 45 then (bif Nat.blt pc 40 then (bif Nat.blt pc 39 then (bif Nat.beq pc 36 then some (59, 43, 0, 39) else none) else (bif Nat.beq pc 39 then some (4, 3, 0, 40) else none)) else (bif Nat.blt pc 43 then (bif Nat.beq pc 40 then some (32, 45, 0, 43) else none) else (bif Nat.beq pc 43 then some (5, 4, 0, 45) else none))) else (bif Nat.blt pc 49 then (bif Nat.blt pc 47 then (bif Nat.beq pc 45 then some (11, 6, 0, 47) else none) else (bif Nat.beq pc 47 then some (5, 6, 0, 49) else none)) else (bif Nat.blt pc 51 then (bif Nat.beq pc 49 then some (1, 0, 24, 51) else none) else (bif Nat.beq pc 51 then some (1, 0, 8, 53) else none)))) else (bif Nat.blt pc 58 then (bif Nat.blt pc 56 then (bif Nat.blt pc 55 then (bif Nat.beq pc 53 then some (5, 5, 0, 55) else none) else (bif Nat.beq pc 55 then some (0, 0, 4, 56) else none)) else (bif Nat.blt pc 57 then (bif Nat.beq pc 56 then some (71, 0, 0, 57) else none) else (bif Nat.beq pc 57 then some (19, 0, 0, 58) else none))) else (bif Nat.blt pc 60 then (bif Nat.blt pc 59 then (bif Nat.beq pc 58 then some (18, 0, 0, 59) else none) else (bif Nat.beq pc 59 then some (24, 0, 0, 60) else none)) else (bif Nat.blt pc 63 then (bif Nat.beq pc 60 then some (2, 0, 255, 63) else none) else (bif Nat.blt pc 64 then (bif Nat.beq pc 63 then some (20, 0, 0, 64) else none) else (bif Nat.beq pc 64 then some (83, 0, 0, 65) else none))))))))
def mX8_byteOf : em_Me := ((RX8, yX8_byteOf, cX8_byteOf, 7, (some .int)), iX8_byteOf, fX8, qX8)
theorem rX8_byteOf_0 : em_ckR RX8 cX8_byteOf iX8_byteOf 0 60 = true := by decide +kernel
theorem rX8_byteOf_1 : em_ckR RX8 cX8_byteOf iX8_byteOf 60 5 = true := by decide +kernel
theorem kX8_byteOf : em_ok mX8_byteOf := em_okM (N := 65) rfl (fun pc hpc q hq => if h0 : pc < 60 then em_ckR_at rX8_byteOf_0 (by omega) (by omega) hq else em_ckR_at rX8_byteOf_1 (by omega) (by omega) hq) fX8_ok qX8_ok
theorem tX8_byteOf : em_tS mX8_byteOf 6 := ⟨⟨em_in (k := 1119) (by decide +kernel), em_in (k := 10) (by decide +kernel), ⟨by decide +kernel, by decide +kernel⟩, by decide +kernel, by decide +kernel⟩, em_in (k := 1118) (by decide +kernel)⟩
def iX8_feed : Nat → Option (Nat × Nat × Int32 × Nat) := em_tr 120 (fun pc => (bif Nat.blt pc 59 then (bif Nat.blt pc 27 then (bif Nat.blt pc 13 then (bif Nat.blt pc 4 then (bif Nat.blt pc 1 then (bif Nat.beq pc 0 then some (0, 0, 0, 1) else none) else (bif Nat.blt pc 3 then (bif Nat.beq pc 1 then some (11, 6, 0, 3) else none) else (bif Nat.beq pc 3 then some (0, 0, 0, 4) else none))) else (bif Nat.blt pc 8 then (bif Nat.blt pc 6 then (bif Nat.beq pc 4 then some (11, 7, 0, 6) else none) else (bif Nat.beq pc 6 then some (5, 7, 0, 8) else none)) else (bif Nat.blt pc 10 then (bif Nat.beq pc 8 then some (1, 0, 20, 10) else none) else (bif Nat.beq pc 10 then some (59, 44, 0, 13) else none)))) else (bif Nat.blt pc 18 then (bif Nat.blt pc 16 then (bif Nat.blt pc 15 then (bif Nat.beq pc 13 then some (5, 6, 0, 15) else none) else (bif Nat.beq pc 15 then some (4, 1, 0, 16) else none)) else (bif Nat.blt pc 17 then (bif Nat.beq pc 16 then some (4, 2, 0, 17) else none) else (bif Nat.beq pc 17 then some (4, 3, 0, 18) else none))) else (bif Nat.blt pc 22 then (bif Nat.blt pc 20 then (bif Nat.beq pc 18 then some (5, 4, 0, 20) else none) else (bif Nat.beq pc 20 then some (5, 5, 0, 22) else none)) else (bif Nat.blt pc 24 then (bif Nat.beq pc 22 then some (5, 7, 0, 24) else none) else (bif Nat.beq pc 24 then some (80, 192, 0, 27) else none))))) else (bif Nat.blt pc 44 then (bif Nat.blt pc 35 then (bif Nat.blt pc 31 then (bif Nat.blt pc 30 then (bif Nat.beq pc 27 then some (50, 34, 0, 30) else none) else (bif Nat.beq pc 30 then some (0, 0, 1, 31) else none)) else (bif Nat.blt pc 34 then (bif Nat.beq pc 31 then some (32, 35, 0, 34) else none) else (bif Nat.beq pc 34 then some (0, 0, 0, 35) else none))) else (bif Nat.blt pc 38 then (bif Nat.blt pc 36 then (bif Nat.beq pc 35 then some (17, 0, 0, 36) else none) else (bif Nat.beq pc 36 then some (11, 6, 0, 38) else none)) else (bif Nat.blt pc 41 then (bif Nat.beq pc 38 then some (16, 7, 1, 41) else none) else (bif Nat.beq pc 41 then some (32, 6, 0, 44) else none)))) else (bif Nat.blt pc 51 then (bif Nat.blt pc 48 then (bif Nat.blt pc 45 then (bif Nat.beq pc 44 then some (8, 0, 0, 45) else none) else (bif Nat.beq pc 45 then some (33, 196, 0, 48) else none)) else (bif Nat.blt pc 50 then (bif Nat.beq pc 48 then some (5, 6, 0, 50) else none) else (bif Nat.beq pc 50 then some (17, 0, 0, 51) else none))) else (bif Nat.blt pc 57 then (bif Nat.blt pc 54 then (bif Nat.beq pc 51 then some (2, 0, 200, 54) else none) else (bif Nat.beq pc 54 then some (61, 59, 0, 57) else none)) else (bif Nat.blt pc 58 then (bif Nat.beq pc 57 then some (0, 0, (-1), 58) else none) else (bif Nat.beq pc 58 then some (83, 0, 0, 59) else none)))))) else (bif Nat.blt pc 89 then (bif Nat.blt pc 72 then (bif Nat.blt pc 66 then (bif Nat.blt pc 62 then (bif Nat.blt pc 60 then (bif Nat.beq pc 59 then some (0, 0, 0, 60) else none) else (bif Nat.beq pc 60 then some (11, 7, 0, 62) else none)) else (bif Nat.blt pc 64 then (bif Nat.beq pc 62 then some (5, 7, 0, 64) else none) else (bif Nat.beq pc 64 then some (1, 0, 20, 66) else none))) else (bif Nat.blt pc 70 then (bif Nat.blt pc 69 then (bif Nat.beq pc 66 then some (59, 115, 0, 69) else none) else (bif Nat.beq pc 69 then some (4, 1, 0, 70) else none)) else (bif Nat.blt pc 71 then (bif Nat.beq pc 70 then some (4, 2, 0, 71) else none) else (bif Nat.beq pc 71 then some (4, 3, 0, 72) else none)))) else (bif Nat.blt pc 81 then (bif Nat.blt pc 76 then (bif Nat.blt pc 74 then (bif Nat.beq pc 72 then some (5, 4, 0, 74) else none) else (bif Nat.beq pc 74 then some (5, 5, 0, 76) else none)) else (bif Nat.blt pc 78 then (bif Nat.beq pc 76 then some (5, 7, 0, 78) else none) else (bif Nat.beq pc 78 then some (80, 192, 0, 81) else none))) else (bif Nat.blt pc 85 then (bif Nat.blt pc 83 then (bif Nat.beq pc 81 then some (11, 8, 0, 83) else none) else (bif Nat.beq pc 83 then some (5, 8, 0, 85) else none)) else (bif Nat.blt pc 88 then (bif Nat.beq pc 85 then some (50, 109, 0, 88) else none) else (bif Nat.beq pc 88 then some (8, 0, 0, 89) else none))))) else (bif Nat.blt pc 104 then (bif Nat.blt pc 98 then (bif Nat.blt pc 93 then (bif Nat.blt pc 92 then (bif Nat.beq pc 89 then some (33, 84, 0, 92) else none) else (bif Nat.beq pc 92 then some (8, 0, 0, 93) else none)) else (bif Nat.blt pc 96 then (bif Nat.beq pc 93 then some (33, 196, 0, 96) else none) else (bif Nat.beq pc 96 then some (5, 8, 0, 98) else none))) else (bif Nat.blt pc 100 then (bif Nat.blt pc 99 then (bif Nat.beq pc 98 then some (66, 0, 0, 99) else none) else (bif Nat.beq pc 99 then some (8, 0, 0, 100) else none)) else (bif Nat.blt pc 101 then (bif Nat.beq pc 100 then some (30, 0, 0, 101) else none) else (bif Nat.beq pc 101 then some (33, 196, 0, 104) else none)))) else (bif Nat.blt pc 112 then (bif Nat.blt pc 106 then (bif Nat.blt pc 105 then (bif Nat.beq pc 104 then some (0, 0, 1, 105) else none) else (bif Nat.beq pc 105 then some (17, 0, 0, 106) else none)) else (bif Nat.blt pc 109 then (bif Nat.beq pc 106 then some (74, 196, 0, 109) else none) else (bif Nat.beq pc 109 then some (16, 7, 1, 112) else none))) else (bif Nat.blt pc 116 then (bif Nat.blt pc 115 then (bif Nat.beq pc 112 then some (32, 62, 0, 115) else none) else (bif Nat.beq pc 115 then some (8, 0, 0, 116) else none)) else (bif Nat.blt pc 119 then (bif Nat.beq pc 116 then some (33, 196, 0, 119) else none) else (bif Nat.beq pc 119 then some (83, 0, 0, 120) else none))))))))
def mX8_feed : em_Me := ((RX8, yX8_feed, cX8_feed, 9, (some .int)), iX8_feed, fX8, qX8)
theorem rX8_feed_0 : em_ckR RX8 cX8_feed iX8_feed 0 60 = true := by decide +kernel
theorem rX8_feed_1 : em_ckR RX8 cX8_feed iX8_feed 60 60 = true := by decide +kernel
theorem kX8_feed : em_ok mX8_feed := em_okM (N := 120) rfl (fun pc hpc q hq => if h0 : pc < 60 then em_ckR_at rX8_feed_0 (by omega) (by omega) hq else em_ckR_at rX8_feed_1 (by omega) (by omega) hq) fX8_ok qX8_ok
theorem tX8_feed : em_tV mX8_feed 5 8 := ⟨⟨em_in (k := 1116) (by decide +kernel), em_in (k := 10) (by decide +kernel), ⟨by decide +kernel, by decide +kernel⟩, by decide +kernel, by decide +kernel⟩, em_in (k := 1114) (by decide +kernel), _, rfl, em_in (k := 1115) (by decide +kernel)⟩
def iX8_end : Nat → Option (Nat × Nat × Int32 × Nat) := em_tr 21 (fun pc => (bif Nat.blt pc 12 then (bif Nat.blt pc 5 then (bif Nat.blt pc 1 then (bif Nat.beq pc 0 then some (4, 1, 0, 1) else none) else (bif Nat.blt pc 4 then (bif Nat.beq pc 1 then some (52, 12, 0, 4) else none) else (bif Nat.beq pc 4 then some (4, 1, 0, 5) else none))) else (bif Nat.blt pc 6 then (bif Nat.beq pc 5 then some (8, 0, 0, 6) else none) else (bif Nat.blt pc 9 then (bif Nat.beq pc 6 then some (33, 196, 0, 9) else none) else (bif Nat.beq pc 9 then some (61, 14, 0, 12) else none)))) else (bif Nat.blt pc 15 then (bif Nat.blt pc 13 then (bif Nat.beq pc 12 then some (0, 0, 0, 13) else none) else (bif Nat.blt pc 14 then (bif Nat.beq pc 13 then some (83, 0, 0, 14) else none) else (bif Nat.beq pc 14 then some (8, 0, 0, 15) else none))) else (bif Nat.blt pc 19 then (bif Nat.blt pc 16 then (bif Nat.beq pc 15 then some (4, 1, 0, 16) else none) else (bif Nat.beq pc 16 then some (74, 196, 0, 19) else none)) else (bif Nat.blt pc 20 then (bif Nat.beq pc 19 then some (0, 0, 1, 20) else none) else (bif Nat.beq pc 20 then some (83, 0, 0, 21) else none))))))
def mX8_end : em_Me := ((RX8, yX8_end, cX8_end, 2, (some .boolean)), iX8_end, fX8, qX8)
theorem rX8_end_0 : em_ckR RX8 cX8_end iX8_end 0 21 = true := by decide +kernel
theorem kX8_end : em_ok mX8_end := em_okM (N := 21) rfl (fun pc hpc q hq => em_ckR_at rX8_end_0 (by omega) (by omega) hq) fX8_ok qX8_ok
theorem tX8_end : em_tV mX8_end 1 8 := ⟨⟨em_in (k := 1123) (by decide +kernel), em_in (k := 10) (by decide +kernel), ⟨by decide +kernel, by decide +kernel⟩, by decide +kernel, by decide +kernel⟩, em_in (k := 1121) (by decide +kernel), _, rfl, em_in (k := 1122) (by decide +kernel)⟩
def iX8_blanks : Nat → Option (Nat × Nat × Int32 × Nat) := em_tr 29 (fun pc => (bif Nat.blt pc 14 then (bif Nat.blt pc 4 then (bif Nat.blt pc 2 then (bif Nat.blt pc 1 then (bif Nat.beq pc 0 then some (4, 1, 0, 1) else none) else (bif Nat.beq pc 1 then some (10, 2, 0, 2) else none)) else (bif Nat.blt pc 3 then (bif Nat.beq pc 2 then some (4, 2, 0, 3) else none) else (bif Nat.beq pc 3 then some (8, 0, 0, 4) else none))) else (bif Nat.blt pc 10 then (bif Nat.blt pc 7 then (bif Nat.beq pc 4 then some (33, 196, 0, 7) else none) else (bif Nat.beq pc 7 then some (59, 27, 0, 10) else none)) else (bif Nat.blt pc 11 then (bif Nat.beq pc 10 then some (8, 0, 0, 11) else none) else (bif Nat.beq pc 11 then some (33, 84, 0, 14) else none)))) else (bif Nat.blt pc 21 then (bif Nat.blt pc 16 then (bif Nat.blt pc 15 then (bif Nat.beq pc 14 then some (4, 2, 0, 15) else none) else (bif Nat.beq pc 15 then some (62, 0, 0, 16) else none)) else (bif Nat.blt pc 18 then (bif Nat.beq pc 16 then some (1, 0, 32, 18) else none) else (bif Nat.beq pc 18 then some (57, 27, 0, 21) else none))) else (bif Nat.blt pc 27 then (bif Nat.blt pc 24 then (bif Nat.beq pc 21 then some (16, 2, 1, 24) else none) else (bif Nat.beq pc 24 then some (32, 2, 0, 27) else none)) else (bif Nat.blt pc 28 then (bif Nat.beq pc 27 then some (4, 2, 0, 28) else none) else (bif Nat.beq pc 28 then some (83, 0, 0, 29) else none))))))
def mX8_blanks : em_Me := ((RX8, yX8_blanks, cX8_blanks, 3, (some .int)), iX8_blanks, fX8, qX8)
theorem rX8_blanks_0 : em_ckR RX8 cX8_blanks iX8_blanks 0 29 = true := by decide +kernel
theorem kX8_blanks : em_ok mX8_blanks := em_okM (N := 29) rfl (fun pc hpc q hq => em_ckR_at rX8_blanks_0 (by omega) (by omega) hq) fX8_ok qX8_ok
theorem tX8_blanks : em_tV mX8_blanks 1 8 := ⟨⟨em_in (k := 1131) (by decide +kernel), em_in (k := 10) (by decide +kernel), ⟨by decide +kernel, by decide +kernel⟩, by decide +kernel, by decide +kernel⟩, em_in (k := 1130) (by decide +kernel), _, rfl, List.mem_append_left _ (by decide +kernel)⟩
def iX8_isWord : Nat → Option (Nat × Nat × Int32 × Nat) := em_tr 46 (fun pc => (bif Nat.blt pc 24 then (bif Nat.blt pc 11 then (bif Nat.blt pc 3 then (bif Nat.blt pc 1 then (bif Nat.beq pc 0 then some (0, 0, 0, 1) else none) else (bif Nat.blt pc 2 then (bif Nat.beq pc 1 then some (10, 3, 0, 2) else none) else (bif Nat.beq pc 2 then some (4, 3, 0, 3) else none))) else (bif Nat.blt pc 7 then (bif Nat.blt pc 4 then (bif Nat.beq pc 3 then some (8, 2, 0, 4) else none) else (bif Nat.beq pc 4 then some (81, 199, 0, 7) else none)) else (bif Nat.blt pc 10 then (bif Nat.beq pc 7 then some (59, 44, 0, 10) else none) else (bif Nat.beq pc 10 then some (4, 1, 0, 11) else none)))) else (bif Nat.blt pc 14 then (bif Nat.blt pc 12 then (bif Nat.beq pc 11 then some (4, 3, 0, 12) else none) else (bif Nat.blt pc 13 then (bif Nat.beq pc 12 then some (17, 0, 0, 13) else none) else (bif Nat.beq pc 13 then some (8, 0, 0, 14) else none))) else (bif Nat.blt pc 20 then (bif Nat.blt pc 17 then (bif Nat.beq pc 14 then some (33, 196, 0, 17) else none) else (bif Nat.beq pc 17 then some (59, 36, 0, 20) else none)) else (bif Nat.blt pc 21 then (bif Nat.beq pc 20 then some (8, 0, 0, 21) else none) else (bif Nat.beq pc 21 then some (33, 84, 0, 24) else none))))) else (bif Nat.blt pc 33 then (bif Nat.blt pc 27 then (bif Nat.blt pc 25 then (bif Nat.beq pc 24 then some (4, 1, 0, 25) else none) else (bif Nat.blt pc 26 then (bif Nat.beq pc 25 then some (4, 3, 0, 26) else none) else (bif Nat.beq pc 26 then some (17, 0, 0, 27) else none))) else (bif Nat.blt pc 29 then (bif Nat.blt pc 28 then (bif Nat.beq pc 27 then some (62, 0, 0, 28) else none) else (bif Nat.beq pc 28 then some (8, 2, 0, 29) else none)) else (bif Nat.blt pc 30 then (bif Nat.beq pc 29 then some (4, 3, 0, 30) else none) else (bif Nat.beq pc 30 then some (81, 205, 0, 33) else none)))) else (bif Nat.blt pc 38 then (bif Nat.blt pc 36 then (bif Nat.beq pc 33 then some (56, 38, 0, 36) else none) else (bif Nat.blt pc 37 then (bif Nat.beq pc 36 then some (0, 0, 0, 37) else none) else (bif Nat.beq pc 37 then some (83, 0, 0, 38) else none))) else (bif Nat.blt pc 44 then (bif Nat.blt pc 41 then (bif Nat.beq pc 38 then some (16, 3, 1, 41) else none) else (bif Nat.beq pc 41 then some (32, 2, 0, 44) else none)) else (bif Nat.blt pc 45 then (bif Nat.beq pc 44 then some (0, 0, 1, 45) else none) else (bif Nat.beq pc 45 then some (83, 0, 0, 46) else none)))))))
def mX8_isWord : em_Me := ((RX8, yX8_isWord, cX8_isWord, 4, (some .boolean)), iX8_isWord, fX8, qX8)
theorem rX8_isWord_0 : em_ckR RX8 cX8_isWord iX8_isWord 0 46 = true := by decide +kernel
theorem kX8_isWord : em_ok mX8_isWord := em_okM (N := 46) rfl (fun pc hpc q hq => em_ckR_at rX8_isWord_0 (by omega) (by omega) hq) fX8_ok qX8_ok
theorem tX8_isWord : em_tV mX8_isWord 2 8 := ⟨⟨em_in (k := 1148) (by decide +kernel), em_in (k := 10) (by decide +kernel), ⟨by decide +kernel, by decide +kernel⟩, by decide +kernel, by decide +kernel⟩, em_in (k := 1147) (by decide +kernel), _, rfl, List.mem_append_left _ (by decide +kernel)⟩
def iX8_word : Nat → Option (Nat × Nat × Int32 × Nat) := em_tr 54 (fun pc => (bif Nat.blt pc 44 then (bif Nat.blt pc 39 then (bif Nat.blt pc 36 then (bif Nat.beq pc 0 then some (4, 0, 0, 1) else none) else (bif Nat.blt pc 38 then (bif Nat.beq pc 36 then some (35, 209, 0, 38) else none) else (bif Nat.beq pc 38 then some (85, 0, 0, 39) else none))) else (bif Nat.blt pc 41 then (bif Nat.beq pc 39 then some (35, 211, 0, 41) else none) else (bif Nat.blt pc 42 then (bif Nat.beq pc 41 then some (85, 0, 0, 42) else none) else (bif Nat.beq pc 42 then some (35, 213, 0, 44) else none)))) else (bif Nat.blt pc 48 then (bif Nat.blt pc 45 then (bif Nat.beq pc 44 then some (85, 0, 0, 45) else none) else (bif Nat.blt pc 47 then (bif Nat.beq pc 45 then some (35, 215, 0, 47) else none) else (bif Nat.beq pc 47 then some (85, 0, 0, 48) else none))) else (bif Nat.blt pc 51 then (bif Nat.blt pc 50 then (bif Nat.beq pc 48 then some (35, 217, 0, 50) else none) else (bif Nat.beq pc 50 then some (85, 0, 0, 51) else none)) else (bif Nat.blt pc 53 then (bif Nat.beq pc 51 then some (35, 218, 0, 53) else none) else (bif Nat.beq pc 53 then some (85, 0, 0, 54) else none))))))
def mX8_word : em_Me := ((RX8, yX8_word, cX8_word, 1, (some (.object "java/lang/String"))), iX8_word, fX8, qX8)
theorem rX8_word_0 : em_ckR RX8 cX8_word iX8_word 0 54 = true := by decide +kernel
theorem kX8_word : em_ok mX8_word := em_okM (N := 54) rfl (fun pc hpc q hq => em_ckR_at rX8_word_0 (by omega) (by omega) hq) fX8_ok qX8_ok
theorem tX8_word : em_tS mX8_word 1 := ⟨⟨em_in (k := 1138) (by decide +kernel), em_in (k := 10) (by decide +kernel), ⟨by decide +kernel, by decide +kernel⟩, by decide +kernel, by decide +kernel⟩, em_in (k := 1137) (by decide +kernel)⟩
def iX8_clause : Nat → Option (Nat × Nat × Int32 × Nat) := em_tr 275 (fun pc => (bif Nat.blt pc 143 then (bif Nat.blt pc 65 then (bif Nat.blt pc 34 then (bif Nat.blt pc 14 then (bif Nat.blt pc 5 then (bif Nat.blt pc 2 then (bif Nat.blt pc 1 then (bif Nat.beq pc 0 then some (0, 0, 0, 1) else none) else (bif Nat.beq pc 1 then some (10, 2, 0, 2) else none)) else (bif Nat.blt pc 3 then (bif Nat.beq pc 2 then some (4, 2, 0, 3) else none) else (bif Nat.beq pc 3 then some (1, 0, 6, 5) else none))) else (bif Nat.blt pc 9 then (bif Nat.blt pc 8 then (bif Nat.beq pc 5 then some (59, 26, 0, 8) else none) else (bif Nat.beq pc 8 then some (8, 0, 0, 9) else none)) else (bif Nat.blt pc 10 then (bif Nat.beq pc 9 then some (4, 1, 0, 10) else none) else (bif Nat.blt pc 11 then (bif Nat.beq pc 10 then some (4, 2, 0, 11) else none) else (bif Nat.beq pc 11 then some (80, 220, 0, 14) else none))))) else (bif Nat.blt pc 26 then (bif Nat.blt pc 20 then (bif Nat.blt pc 17 then (bif Nat.beq pc 14 then some (81, 224, 0, 17) else none) else (bif Nat.beq pc 17 then some (51, 26, 0, 20) else none)) else (bif Nat.blt pc 23 then (bif Nat.beq pc 20 then some (16, 2, 1, 23) else none) else (bif Nat.beq pc 23 then some (32, 2, 0, 26) else none))) else (bif Nat.blt pc 29 then (bif Nat.blt pc 27 then (bif Nat.beq pc 26 then some (4, 2, 0, 27) else none) else (bif Nat.beq pc 27 then some (1, 0, 6, 29) else none)) else (bif Nat.blt pc 32 then (bif Nat.beq pc 29 then some (57, 34, 0, 32) else none) else (bif Nat.blt pc 33 then (bif Nat.beq pc 32 then some (0, 0, (-1), 33) else none) else (bif Nat.beq pc 33 then some (83, 0, 0, 34) else none)))))) else (bif Nat.blt pc 49 then (bif Nat.blt pc 42 then (bif Nat.blt pc 36 then (bif Nat.blt pc 35 then (bif Nat.beq pc 34 then some (4, 1, 0, 35) else none) else (bif Nat.beq pc 35 then some (4, 2, 0, 36) else none)) else (bif Nat.blt pc 39 then (bif Nat.beq pc 36 then some (80, 220, 0, 39) else none) else (bif Nat.beq pc 39 then some (81, 199, 0, 42) else none))) else (bif Nat.blt pc 44 then (bif Nat.blt pc 43 then (bif Nat.beq pc 42 then some (17, 0, 0, 43) else none) else (bif Nat.beq pc 43 then some (10, 3, 0, 44) else none)) else (bif Nat.blt pc 45 then (bif Nat.beq pc 44 then some (8, 0, 0, 45) else none) else (bif Nat.blt pc 46 then (bif Nat.beq pc 45 then some (4, 3, 0, 46) else none) else (bif Nat.beq pc 46 then some (81, 228, 0, 49) else none))))) else (bif Nat.blt pc 58 then (bif Nat.blt pc 53 then (bif Nat.blt pc 51 then (bif Nat.beq pc 49 then some (11, 4, 0, 51) else none) else (bif Nat.beq pc 51 then some (5, 4, 0, 53) else none)) else (bif Nat.blt pc 54 then (bif Nat.beq pc 53 then some (4, 3, 0, 54) else none) else (bif Nat.blt pc 57 then (bif Nat.beq pc 54 then some (57, 59, 0, 57) else none) else (bif Nat.beq pc 57 then some (0, 0, (-1), 58) else none)))) else (bif Nat.blt pc 60 then (bif Nat.blt pc 59 then (bif Nat.beq pc 58 then some (83, 0, 0, 59) else none) else (bif Nat.beq pc 59 then some (0, 0, 0, 60) else none)) else (bif Nat.blt pc 62 then (bif Nat.beq pc 60 then some (11, 5, 0, 62) else none) else (bif Nat.blt pc 63 then (bif Nat.beq pc 62 then some (0, 0, 0, 63) else none) else (bif Nat.beq pc 63 then some (11, 6, 0, 65) else none))))))) else (bif Nat.blt pc 104 then (bif Nat.blt pc 83 then (bif Nat.blt pc 74 then (bif Nat.blt pc 68 then (bif Nat.blt pc 67 then (bif Nat.beq pc 65 then some (5, 4, 0, 67) else none) else (bif Nat.beq pc 67 then some (8, 0, 0, 68) else none)) else (bif Nat.blt pc 71 then (bif Nat.beq pc 68 then some (33, 196, 0, 71) else none) else (bif Nat.beq pc 71 then some (59, 136, 0, 74) else none))) else (bif Nat.blt pc 78 then (bif Nat.blt pc 75 then (bif Nat.beq pc 74 then some (8, 0, 0, 75) else none) else (bif Nat.beq pc 75 then some (33, 84, 0, 78) else none)) else (bif Nat.blt pc 80 then (bif Nat.beq pc 78 then some (5, 4, 0, 80) else none) else (bif Nat.blt pc 81 then (bif Nat.beq pc 80 then some (62, 0, 0, 81) else none) else (bif Nat.beq pc 81 then some (1, 0, 48, 83) else none))))) else (bif Nat.blt pc 93 then (bif Nat.blt pc 87 then (bif Nat.blt pc 86 then (bif Nat.beq pc 83 then some (58, 136, 0, 86) else none) else (bif Nat.beq pc 86 then some (8, 0, 0, 87) else none)) else (bif Nat.blt pc 90 then (bif Nat.beq pc 87 then some (33, 84, 0, 90) else none) else (bif Nat.blt pc 92 then (bif Nat.beq pc 90 then some (5, 4, 0, 92) else none) else (bif Nat.beq pc 92 then some (62, 0, 0, 93) else none)))) else (bif Nat.blt pc 98 then (bif Nat.blt pc 95 then (bif Nat.beq pc 93 then some (1, 0, 57, 95) else none) else (bif Nat.beq pc 95 then some (60, 136, 0, 98) else none)) else (bif Nat.blt pc 100 then (bif Nat.beq pc 98 then some (5, 6, 0, 100) else none) else (bif Nat.blt pc 101 then (bif Nat.beq pc 100 then some (0, 0, 5, 101) else none) else (bif Nat.beq pc 101 then some (59, 123, 0, 104) else none)))))) else (bif Nat.blt pc 119 then (bif Nat.blt pc 110 then (bif Nat.blt pc 108 then (bif Nat.blt pc 106 then (bif Nat.beq pc 104 then some (1, 0, 10, 106) else none) else (bif Nat.beq pc 106 then some (5, 5, 0, 108) else none)) else (bif Nat.blt pc 109 then (bif Nat.beq pc 108 then some (19, 0, 0, 109) else none) else (bif Nat.beq pc 109 then some (8, 0, 0, 110) else none))) else (bif Nat.blt pc 115 then (bif Nat.blt pc 113 then (bif Nat.beq pc 110 then some (33, 84, 0, 113) else none) else (bif Nat.beq pc 113 then some (5, 4, 0, 115) else none)) else (bif Nat.blt pc 116 then (bif Nat.beq pc 115 then some (62, 0, 0, 116) else none) else (bif Nat.blt pc 117 then (bif Nat.beq pc 116 then some (17, 0, 0, 117) else none) else (bif Nat.beq pc 117 then some (1, 0, 48, 119) else none))))) else (bif Nat.blt pc 130 then (bif Nat.blt pc 123 then (bif Nat.blt pc 120 then (bif Nat.beq pc 119 then some (18, 0, 0, 120) else none) else (bif Nat.beq pc 120 then some (32, 125, 0, 123) else none)) else (bif Nat.blt pc 125 then (bif Nat.beq pc 123 then some (5, 5, 0, 125) else none) else (bif Nat.blt pc 127 then (bif Nat.beq pc 125 then some (11, 5, 0, 127) else none) else (bif Nat.beq pc 127 then some (16, 6, 1, 130) else none)))) else (bif Nat.blt pc 136 then (bif Nat.blt pc 133 then (bif Nat.beq pc 130 then some (16, 4, 1, 133) else none) else (bif Nat.beq pc 133 then some (32, 65, 0, 136) else none)) else (bif Nat.blt pc 138 then (bif Nat.beq pc 136 then some (5, 6, 0, 138) else none) else (bif Nat.blt pc 141 then (bif Nat.beq pc 138 then some (50, 158, 0, 141) else none) else (bif Nat.beq pc 141 then some (5, 6, 0, 143) else none)))))))) else (bif Nat.blt pc 212 then (bif Nat.blt pc 178 then (bif Nat.blt pc 160 then (bif Nat.blt pc 151 then (bif Nat.blt pc 147 then (bif Nat.blt pc 144 then (bif Nat.beq pc 143 then some (0, 0, 5, 144) else none) else (bif Nat.beq pc 144 then some (60, 158, 0, 147) else none)) else (bif Nat.blt pc 148 then (bif Nat.beq pc 147 then some (4, 2, 0, 148) else none) else (bif Nat.beq pc 148 then some (51, 160, 0, 151) else none))) else (bif Nat.blt pc 155 then (bif Nat.blt pc 153 then (bif Nat.beq pc 151 then some (5, 5, 0, 153) else none) else (bif Nat.beq pc 153 then some (1, 0, 7, 155) else none)) else (bif Nat.blt pc 158 then (bif Nat.beq pc 155 then some (61, 160, 0, 158) else none) else (bif Nat.blt pc 159 then (bif Nat.beq pc 158 then some (0, 0, (-1), 159) else none) else (bif Nat.beq pc 159 then some (83, 0, 0, 160) else none))))) else (bif Nat.blt pc 168 then (bif Nat.blt pc 163 then (bif Nat.blt pc 161 then (bif Nat.beq pc 160 then some (8, 0, 0, 161) else none) else (bif Nat.beq pc 161 then some (5, 4, 0, 163) else none)) else (bif Nat.blt pc 166 then (bif Nat.beq pc 163 then some (81, 228, 0, 166) else none) else (bif Nat.beq pc 166 then some (11, 7, 0, 168) else none))) else (bif Nat.blt pc 171 then (bif Nat.blt pc 170 then (bif Nat.beq pc 168 then some (5, 7, 0, 170) else none) else (bif Nat.beq pc 170 then some (8, 0, 0, 171) else none)) else (bif Nat.blt pc 174 then (bif Nat.beq pc 171 then some (33, 196, 0, 174) else none) else (bif Nat.blt pc 177 then (bif Nat.beq pc 174 then some (59, 191, 0, 177) else none) else (bif Nat.beq pc 177 then some (8, 0, 0, 178) else none)))))) else (bif Nat.blt pc 195 then (bif Nat.blt pc 186 then (bif Nat.blt pc 183 then (bif Nat.blt pc 181 then (bif Nat.beq pc 178 then some (33, 84, 0, 181) else none) else (bif Nat.beq pc 181 then some (5, 7, 0, 183) else none)) else (bif Nat.blt pc 184 then (bif Nat.beq pc 183 then some (62, 0, 0, 184) else none) else (bif Nat.beq pc 184 then some (1, 0, 59, 186) else none))) else (bif Nat.blt pc 190 then (bif Nat.blt pc 189 then (bif Nat.beq pc 186 then some (56, 191, 0, 189) else none) else (bif Nat.beq pc 189 then some (0, 0, (-1), 190) else none)) else (bif Nat.blt pc 191 then (bif Nat.beq pc 190 then some (83, 0, 0, 191) else none) else (bif Nat.blt pc 192 then (bif Nat.beq pc 191 then some (4, 2, 0, 192) else none) else (bif Nat.beq pc 192 then some (51, 216, 0, 195) else none))))) else (bif Nat.blt pc 203 then (bif Nat.blt pc 199 then (bif Nat.blt pc 196 then (bif Nat.beq pc 195 then some (8, 0, 0, 196) else none) else (bif Nat.beq pc 196 then some (33, 231, 0, 199) else none)) else (bif Nat.blt pc 201 then (bif Nat.beq pc 199 then some (5, 5, 0, 201) else none) else (bif Nat.blt pc 202 then (bif Nat.beq pc 201 then some (24, 0, 0, 202) else none) else (bif Nat.beq pc 202 then some (0, 0, 1, 203) else none)))) else (bif Nat.blt pc 205 then (bif Nat.blt pc 204 then (bif Nat.beq pc 203 then some (20, 0, 0, 204) else none) else (bif Nat.beq pc 204 then some (0, 0, 1, 205) else none)) else (bif Nat.blt pc 208 then (bif Nat.beq pc 205 then some (57, 212, 0, 208) else none) else (bif Nat.blt pc 209 then (bif Nat.beq pc 208 then some (0, 0, 1, 209) else none) else (bif Nat.beq pc 209 then some (32, 233, 0, 212) else none))))))) else (bif Nat.blt pc 243 then (bif Nat.blt pc 225 then (bif Nat.blt pc 220 then (bif Nat.blt pc 216 then (bif Nat.blt pc 213 then (bif Nat.beq pc 212 then some (0, 0, 0, 213) else none) else (bif Nat.beq pc 213 then some (32, 233, 0, 216) else none)) else (bif Nat.blt pc 217 then (bif Nat.beq pc 216 then some (8, 0, 0, 217) else none) else (bif Nat.beq pc 217 then some (33, 96, 0, 220) else none))) else (bif Nat.blt pc 222 then (bif Nat.blt pc 221 then (bif Nat.beq pc 220 then some (4, 2, 0, 221) else none) else (bif Nat.beq pc 221 then some (0, 0, 1, 222) else none)) else (bif Nat.blt pc 223 then (bif Nat.beq pc 222 then some (18, 0, 0, 223) else none) else (bif Nat.blt pc 224 then (bif Nat.beq pc 223 then some (62, 0, 0, 224) else none) else (bif Nat.beq pc 224 then some (0, 0, (-1), 225) else none))))) else (bif Nat.blt pc 235 then (bif Nat.blt pc 229 then (bif Nat.blt pc 228 then (bif Nat.beq pc 225 then some (56, 232, 0, 228) else none) else (bif Nat.beq pc 228 then some (0, 0, 1, 229) else none)) else (bif Nat.blt pc 232 then (bif Nat.beq pc 229 then some (32, 233, 0, 232) else none) else (bif Nat.blt pc 233 then (bif Nat.beq pc 232 then some (0, 0, 0, 233) else none) else (bif Nat.beq pc 233 then some (11, 8, 0, 235) else none)))) else (bif Nat.blt pc 240 then (bif Nat.blt pc 237 then (bif Nat.beq pc 235 then some (5, 8, 0, 237) else none) else (bif Nat.beq pc 237 then some (50, 242, 0, 240) else none)) else (bif Nat.blt pc 241 then (bif Nat.beq pc 240 then some (0, 0, (-1), 241) else none) else (bif Nat.blt pc 242 then (bif Nat.beq pc 241 then some (83, 0, 0, 242) else none) else (bif Nat.beq pc 242 then some (4, 2, 0, 243) else none)))))) else (bif Nat.blt pc 259 then (bif Nat.blt pc 251 then (bif Nat.blt pc 247 then (bif Nat.blt pc 246 then (bif Nat.beq pc 243 then some (51, 262, 0, 246) else none) else (bif Nat.beq pc 246 then some (8, 0, 0, 247) else none)) else (bif Nat.blt pc 248 then (bif Nat.beq pc 247 then some (30, 0, 0, 248) else none) else (bif Nat.beq pc 248 then some (33, 231, 0, 251) else none))) else (bif Nat.blt pc 254 then (bif Nat.blt pc 252 then (bif Nat.beq pc 251 then some (0, 0, 1, 252) else none) else (bif Nat.beq pc 252 then some (5, 5, 0, 254) else none)) else (bif Nat.blt pc 255 then (bif Nat.beq pc 254 then some (23, 0, 0, 255) else none) else (bif Nat.blt pc 256 then (bif Nat.beq pc 255 then some (21, 0, 0, 256) else none) else (bif Nat.beq pc 256 then some (74, 231, 0, 259) else none))))) else (bif Nat.blt pc 268 then (bif Nat.blt pc 263 then (bif Nat.blt pc 262 then (bif Nat.beq pc 259 then some (32, 272, 0, 262) else none) else (bif Nat.beq pc 262 then some (8, 0, 0, 263) else none)) else (bif Nat.blt pc 266 then (bif Nat.beq pc 263 then some (33, 96, 0, 266) else none) else (bif Nat.blt pc 267 then (bif Nat.beq pc 266 then some (4, 2, 0, 267) else none) else (bif Nat.beq pc 267 then some (0, 0, 1, 268) else none)))) else (bif Nat.blt pc 271 then (bif Nat.blt pc 269 then (bif Nat.beq pc 268 then some (18, 0, 0, 269) else none) else (bif Nat.beq pc 269 then some (5, 5, 0, 271) else none)) else (bif Nat.blt pc 272 then (bif Nat.beq pc 271 then some (66, 0, 0, 272) else none) else (bif Nat.blt pc 274 then (bif Nat.beq pc 272 then some (5, 7, 0, 274) else none) else (bif Nat.beq pc 274 then some (83, 0, 0, 275) else none))))))))))
def mX8_clause : em_Me := ((RX8, yX8_clause, cX8_clause, 9, (some .int)), iX8_clause, fX8, qX8)
theorem rX8_clause_0 : em_ckR RX8 cX8_clause iX8_clause 0 60 = true := by decide +kernel
theorem rX8_clause_1 : em_ckR RX8 cX8_clause iX8_clause 60 60 = true := by decide +kernel
theorem rX8_clause_2 : em_ckR RX8 cX8_clause iX8_clause 120 60 = true := by decide +kernel
theorem rX8_clause_3 : em_ckR RX8 cX8_clause iX8_clause 180 60 = true := by decide +kernel
theorem rX8_clause_4 : em_ckR RX8 cX8_clause iX8_clause 240 35 = true := by decide +kernel
theorem kX8_clause : em_ok mX8_clause := em_okM (N := 275) rfl (fun pc hpc q hq => if h0 : pc < 60 then em_ckR_at rX8_clause_0 (by omega) (by omega) hq else if h1 : pc < 120 then em_ckR_at rX8_clause_1 (by omega) (by omega) hq else if h2 : pc < 180 then em_ckR_at rX8_clause_2 (by omega) (by omega) hq else if h3 : pc < 240 then em_ckR_at rX8_clause_3 (by omega) (by omega) hq else em_ckR_at rX8_clause_4 (by omega) (by omega) hq) fX8_ok qX8_ok
theorem tX8_clause : em_tV mX8_clause 1 8 := ⟨⟨em_in (k := 1135) (by decide +kernel), em_in (k := 10) (by decide +kernel), ⟨by decide +kernel, by decide +kernel⟩, by decide +kernel, by decide +kernel⟩, em_in (k := 1134) (by decide +kernel), _, rfl, List.mem_append_left _ (by decide +kernel)⟩
end
section
def iX8_fault : Nat → Option (Nat × Nat × Int32 × Nat) := em_tr 86 (fun pc => (bif Nat.blt pc 43 then (bif Nat.blt pc 19 then (bif Nat.blt pc 8 then (bif Nat.blt pc 5 then (bif Nat.blt pc 1 then (bif Nat.beq pc 0 then some (8, 0, 0, 1) else none) else (bif Nat.blt pc 2 then (bif Nat.beq pc 1 then some (0, 0, 0, 2) else none) else (bif Nat.beq pc 2 then some (74, 231, 0, 5) else none))) else (bif Nat.blt pc 6 then (bif Nat.beq pc 5 then some (0, 0, 0, 6) else none) else (bif Nat.blt pc 7 then (bif Nat.beq pc 6 then some (10, 1, 0, 7) else none) else (bif Nat.beq pc 7 then some (4, 1, 0, 8) else none)))) else (bif Nat.blt pc 13 then (bif Nat.blt pc 9 then (bif Nat.beq pc 8 then some (0, 0, 5, 9) else none) else (bif Nat.blt pc 12 then (bif Nat.beq pc 9 then some (59, 25, 0, 12) else none) else (bif Nat.beq pc 12 then some (8, 0, 0, 13) else none))) else (bif Nat.blt pc 17 then (bif Nat.blt pc 16 then (bif Nat.beq pc 13 then some (33, 96, 0, 16) else none) else (bif Nat.beq pc 16 then some (4, 1, 0, 17) else none)) else (bif Nat.blt pc 18 then (bif Nat.beq pc 17 then some (0, 0, (-1), 18) else none) else (bif Nat.beq pc 18 then some (66, 0, 0, 19) else none))))) else (bif Nat.blt pc 32 then (bif Nat.blt pc 26 then (bif Nat.blt pc 22 then (bif Nat.beq pc 19 then some (16, 1, 1, 22) else none) else (bif Nat.blt pc 25 then (bif Nat.beq pc 22 then some (32, 7, 0, 25) else none) else (bif Nat.beq pc 25 then some (8, 0, 0, 26) else none))) else (bif Nat.blt pc 30 then (bif Nat.blt pc 27 then (bif Nat.beq pc 26 then some (0, 0, 0, 27) else none) else (bif Nat.beq pc 27 then some (81, 228, 0, 30) else none)) else (bif Nat.blt pc 31 then (bif Nat.beq pc 30 then some (10, 1, 0, 31) else none) else (bif Nat.beq pc 31 then some (4, 1, 0, 32) else none)))) else (bif Nat.blt pc 39 then (bif Nat.blt pc 33 then (bif Nat.beq pc 32 then some (8, 0, 0, 33) else none) else (bif Nat.blt pc 36 then (bif Nat.beq pc 33 then some (33, 196, 0, 36) else none) else (bif Nat.beq pc 36 then some (57, 41, 0, 39) else none))) else (bif Nat.blt pc 41 then (bif Nat.blt pc 40 then (bif Nat.beq pc 39 then some (0, 0, (-1), 40) else none) else (bif Nat.beq pc 40 then some (83, 0, 0, 41) else none)) else (bif Nat.blt pc 42 then (bif Nat.beq pc 41 then some (4, 1, 0, 42) else none) else (bif Nat.beq pc 42 then some (8, 0, 0, 43) else none)))))) else (bif Nat.blt pc 66 then (bif Nat.blt pc 55 then (bif Nat.blt pc 50 then (bif Nat.blt pc 46 then (bif Nat.beq pc 43 then some (33, 196, 0, 46) else none) else (bif Nat.blt pc 49 then (bif Nat.beq pc 46 then some (57, 54, 0, 49) else none) else (bif Nat.beq pc 49 then some (8, 0, 0, 50) else none))) else (bif Nat.blt pc 53 then (bif Nat.beq pc 50 then some (33, 196, 0, 53) else none) else (bif Nat.blt pc 54 then (bif Nat.beq pc 53 then some (83, 0, 0, 54) else none) else (bif Nat.beq pc 54 then some (8, 0, 0, 55) else none)))) else (bif Nat.blt pc 60 then (bif Nat.blt pc 56 then (bif Nat.beq pc 55 then some (4, 1, 0, 56) else none) else (bif Nat.blt pc 59 then (bif Nat.beq pc 56 then some (81, 234, 0, 59) else none) else (bif Nat.beq pc 59 then some (10, 2, 0, 60) else none))) else (bif Nat.blt pc 62 then (bif Nat.blt pc 61 then (bif Nat.beq pc 60 then some (4, 2, 0, 61) else none) else (bif Nat.beq pc 61 then some (0, 0, (-1), 62) else none)) else (bif Nat.blt pc 65 then (bif Nat.beq pc 62 then some (57, 67, 0, 65) else none) else (bif Nat.beq pc 65 then some (4, 1, 0, 66) else none))))) else (bif Nat.blt pc 77 then (bif Nat.blt pc 69 then (bif Nat.blt pc 67 then (bif Nat.beq pc 66 then some (83, 0, 0, 67) else none) else (bif Nat.blt pc 68 then (bif Nat.beq pc 67 then some (4, 2, 0, 68) else none) else (bif Nat.beq pc 68 then some (8, 0, 0, 69) else none))) else (bif Nat.blt pc 75 then (bif Nat.blt pc 72 then (bif Nat.beq pc 69 then some (33, 196, 0, 72) else none) else (bif Nat.beq pc 72 then some (57, 77, 0, 75) else none)) else (bif Nat.blt pc 76 then (bif Nat.beq pc 75 then some (0, 0, (-1), 76) else none) else (bif Nat.beq pc 76 then some (83, 0, 0, 77) else none)))) else (bif Nat.blt pc 80 then (bif Nat.blt pc 78 then (bif Nat.beq pc 77 then some (8, 0, 0, 78) else none) else (bif Nat.blt pc 79 then (bif Nat.beq pc 78 then some (4, 2, 0, 79) else none) else (bif Nat.beq pc 79 then some (0, 0, 1, 80) else none))) else (bif Nat.blt pc 84 then (bif Nat.blt pc 81 then (bif Nat.beq pc 80 then some (17, 0, 0, 81) else none) else (bif Nat.beq pc 81 then some (81, 228, 0, 84) else none)) else (bif Nat.blt pc 85 then (bif Nat.beq pc 84 then some (10, 1, 0, 85) else none) else (bif Nat.beq pc 85 then some (32, 41, 0, 88) else none))))))))
def mX8_fault : em_Me := ((RX8, yX8_fault, cX8_fault, 3, (some .int)), iX8_fault, fX8, qX8)
theorem rX8_fault_0 : em_ckR RX8 cX8_fault iX8_fault 0 60 = true := by decide +kernel
theorem rX8_fault_1 : em_ckR RX8 cX8_fault iX8_fault 60 26 = true := by decide +kernel
theorem kX8_fault : em_ok mX8_fault := em_okM (N := 86) rfl (fun pc hpc q hq => if h0 : pc < 60 then em_ckR_at rX8_fault_0 (by omega) (by omega) hq else em_ckR_at rX8_fault_1 (by omega) (by omega) hq) fX8_ok qX8_ok
theorem tX8_fault : em_tV mX8_fault 0 8 := ⟨⟨em_in (k := 1127) (by decide +kernel), em_in (k := 10) (by decide +kernel), ⟨by decide +kernel, by decide +kernel⟩, by decide +kernel, by decide +kernel⟩, em_in (k := 1125) (by decide +kernel), _, rfl, em_in (k := 1126) (by decide +kernel)⟩
def iX8_law : Nat → Option (Nat × Nat × Int32 × Nat) := em_tr 71 (fun pc => (bif Nat.blt pc 36 then (bif Nat.blt pc 19 then (bif Nat.blt pc 9 then (bif Nat.blt pc 2 then (bif Nat.blt pc 1 then (bif Nat.beq pc 0 then some (8, 0, 0, 1) else none) else (bif Nat.beq pc 1 then some (4, 1, 0, 2) else none)) else (bif Nat.blt pc 5 then (bif Nat.beq pc 2 then some (81, 161, 0, 5) else none) else (bif Nat.blt pc 8 then (bif Nat.beq pc 5 then some (50, 16, 0, 8) else none) else (bif Nat.beq pc 8 then some (8, 0, 0, 9) else none)))) else (bif Nat.blt pc 16 then (bif Nat.blt pc 12 then (bif Nat.beq pc 9 then some (81, 237, 0, 12) else none) else (bif Nat.blt pc 13 then (bif Nat.beq pc 12 then some (0, 0, (-1), 13) else none) else (bif Nat.beq pc 13 then some (56, 18, 0, 16) else none))) else (bif Nat.blt pc 17 then (bif Nat.beq pc 16 then some (0, 0, 0, 17) else none) else (bif Nat.blt pc 18 then (bif Nat.beq pc 17 then some (83, 0, 0, 18) else none) else (bif Nat.beq pc 18 then some (8, 0, 0, 19) else none))))) else (bif Nat.blt pc 26 then (bif Nat.blt pc 23 then (bif Nat.blt pc 22 then (bif Nat.beq pc 19 then some (33, 93, 0, 22) else none) else (bif Nat.beq pc 22 then some (4, 1, 0, 23) else none)) else (bif Nat.blt pc 24 then (bif Nat.beq pc 23 then some (0, 0, 1, 24) else none) else (bif Nat.blt pc 25 then (bif Nat.beq pc 24 then some (67, 0, 0, 25) else none) else (bif Nat.beq pc 25 then some (8, 0, 0, 26) else none)))) else (bif Nat.blt pc 31 then (bif Nat.blt pc 29 then (bif Nat.beq pc 26 then some (33, 87, 0, 29) else none) else (bif Nat.blt pc 30 then (bif Nat.beq pc 29 then some (4, 1, 0, 30) else none) else (bif Nat.beq pc 30 then some (8, 0, 0, 31) else none))) else (bif Nat.blt pc 34 then (bif Nat.beq pc 31 then some (33, 231, 0, 34) else none) else (bif Nat.blt pc 35 then (bif Nat.beq pc 34 then some (66, 0, 0, 35) else none) else (bif Nat.beq pc 35 then some (0, 0, 0, 36) else none)))))) else (bif Nat.blt pc 51 then (bif Nat.blt pc 43 then (bif Nat.blt pc 38 then (bif Nat.blt pc 37 then (bif Nat.beq pc 36 then some (10, 2, 0, 37) else none) else (bif Nat.beq pc 37 then some (4, 2, 0, 38) else none)) else (bif Nat.blt pc 39 then (bif Nat.beq pc 38 then some (0, 0, 5, 39) else none) else (bif Nat.blt pc 42 then (bif Nat.beq pc 39 then some (59, 64, 0, 42) else none) else (bif Nat.beq pc 42 then some (8, 0, 0, 43) else none)))) else (bif Nat.blt pc 48 then (bif Nat.blt pc 46 then (bif Nat.beq pc 43 then some (33, 90, 0, 46) else none) else (bif Nat.blt pc 47 then (bif Nat.beq pc 46 then some (0, 0, 5, 47) else none) else (bif Nat.beq pc 47 then some (4, 1, 0, 48) else none))) else (bif Nat.blt pc 49 then (bif Nat.beq pc 48 then some (19, 0, 0, 49) else none) else (bif Nat.blt pc 50 then (bif Nat.beq pc 49 then some (4, 2, 0, 50) else none) else (bif Nat.beq pc 50 then some (17, 0, 0, 51) else none))))) else (bif Nat.blt pc 61 then (bif Nat.blt pc 56 then (bif Nat.blt pc 52 then (bif Nat.beq pc 51 then some (8, 0, 0, 52) else none) else (bif Nat.blt pc 55 then (bif Nat.beq pc 52 then some (33, 96, 0, 55) else none) else (bif Nat.beq pc 55 then some (4, 2, 0, 56) else none))) else (bif Nat.blt pc 57 then (bif Nat.beq pc 56 then some (62, 0, 0, 57) else none) else (bif Nat.blt pc 58 then (bif Nat.beq pc 57 then some (66, 0, 0, 58) else none) else (bif Nat.beq pc 58 then some (16, 2, 1, 61) else none)))) else (bif Nat.blt pc 66 then (bif Nat.blt pc 64 then (bif Nat.beq pc 61 then some (32, 37, 0, 64) else none) else (bif Nat.blt pc 65 then (bif Nat.beq pc 64 then some (8, 0, 0, 65) else none) else (bif Nat.beq pc 65 then some (0, 0, 0, 66) else none))) else (bif Nat.blt pc 69 then (bif Nat.beq pc 66 then some (74, 196, 0, 69) else none) else (bif Nat.blt pc 70 then (bif Nat.beq pc 69 then some (0, 0, 1, 70) else none) else (bif Nat.beq pc 70 then some (83, 0, 0, 71) else none))))))))
def mX8_law : em_Me := ((RX8, yX8_law, cX8_law, 3, (some .boolean)), iX8_law, fX8, qX8)
theorem rX8_law_0 : em_ckR RX8 cX8_law iX8_law 0 60 = true := by decide +kernel
theorem rX8_law_1 : em_ckR RX8 cX8_law iX8_law 60 11 = true := by decide +kernel
theorem kX8_law : em_ok mX8_law := em_okM (N := 71) rfl (fun pc hpc q hq => if h0 : pc < 60 then em_ckR_at rX8_law_0 (by omega) (by omega) hq else em_ckR_at rX8_law_1 (by omega) (by omega) hq) fX8_ok qX8_ok
theorem tX8_law : em_tV mX8_law 1 8 := ⟨⟨em_in (k := 1154) (by decide +kernel), em_in (k := 10) (by decide +kernel), ⟨by decide +kernel, by decide +kernel⟩, by decide +kernel, by decide +kernel⟩, em_in (k := 1152) (by decide +kernel), _, rfl, em_in (k := 1153) (by decide +kernel)⟩
def iX8_hereNow : Nat → Option (Nat × Nat × Int32 × Nat) := em_tr 44 (fun pc => (bif Nat.blt pc 19 then (bif Nat.blt pc 6 then (bif Nat.blt pc 3 then (bif Nat.blt pc 1 then (bif Nat.beq pc 0 then some (0, 0, 0, 1) else none) else (bif Nat.blt pc 2 then (bif Nat.beq pc 1 then some (10, 1, 0, 2) else none) else (bif Nat.beq pc 2 then some (0, 0, 0, 3) else none))) else (bif Nat.blt pc 4 then (bif Nat.beq pc 3 then some (10, 2, 0, 4) else none) else (bif Nat.blt pc 5 then (bif Nat.beq pc 4 then some (4, 2, 0, 5) else none) else (bif Nat.beq pc 5 then some (8, 0, 0, 6) else none)))) else (bif Nat.blt pc 13 then (bif Nat.blt pc 9 then (bif Nat.beq pc 6 then some (33, 109, 0, 9) else none) else (bif Nat.blt pc 12 then (bif Nat.beq pc 9 then some (59, 42, 0, 12) else none) else (bif Nat.beq pc 12 then some (4, 1, 0, 13) else none))) else (bif Nat.blt pc 15 then (bif Nat.blt pc 14 then (bif Nat.beq pc 13 then some (8, 0, 0, 14) else none) else (bif Nat.beq pc 14 then some (4, 2, 0, 15) else none)) else (bif Nat.blt pc 16 then (bif Nat.beq pc 15 then some (8, 0, 0, 16) else none) else (bif Nat.beq pc 16 then some (33, 116, 0, 19) else none))))) else (bif Nat.blt pc 33 then (bif Nat.blt pc 26 then (bif Nat.blt pc 20 then (bif Nat.beq pc 19 then some (8, 0, 0, 20) else none) else (bif Nat.blt pc 23 then (bif Nat.beq pc 20 then some (33, 116, 0, 23) else none) else (bif Nat.beq pc 23 then some (81, 133, 0, 26) else none))) else (bif Nat.blt pc 29 then (bif Nat.beq pc 26 then some (50, 33, 0, 29) else none) else (bif Nat.blt pc 30 then (bif Nat.beq pc 29 then some (0, 0, 1, 30) else none) else (bif Nat.beq pc 30 then some (32, 34, 0, 33) else none)))) else (bif Nat.blt pc 36 then (bif Nat.blt pc 34 then (bif Nat.beq pc 33 then some (0, 0, 0, 34) else none) else (bif Nat.blt pc 35 then (bif Nat.beq pc 34 then some (17, 0, 0, 35) else none) else (bif Nat.beq pc 35 then some (10, 1, 0, 36) else none))) else (bif Nat.blt pc 42 then (bif Nat.blt pc 39 then (bif Nat.beq pc 36 then some (16, 2, 1, 39) else none) else (bif Nat.beq pc 39 then some (32, 4, 0, 42) else none)) else (bif Nat.blt pc 43 then (bif Nat.beq pc 42 then some (4, 1, 0, 43) else none) else (bif Nat.beq pc 43 then some (83, 0, 0, 44) else none)))))))
def mX8_hereNow : em_Me := ((RX8, yX8_hereNow, cX8_hereNow, 3, (some .int)), iX8_hereNow, fX8, qX8)
theorem rX8_hereNow_0 : em_ckR RX8 cX8_hereNow iX8_hereNow 0 44 = true := by decide +kernel
theorem kX8_hereNow : em_ok mX8_hereNow := em_okM (N := 44) rfl (fun pc hpc q hq => em_ckR_at rX8_hereNow_0 (by omega) (by omega) hq) fX8_ok qX8_ok
theorem tX8_hereNow : em_tV mX8_hereNow 0 8 := ⟨⟨em_in (k := 1163) (by decide +kernel), em_in (k := 10) (by decide +kernel), ⟨by decide +kernel, by decide +kernel⟩, by decide +kernel, by decide +kernel⟩, em_in (k := 1162) (by decide +kernel), _, rfl, List.mem_append_left _ (by decide +kernel)⟩
def iX8_may : Nat → Option (Nat × Nat × Int32 × Nat) := em_tr 162 (fun pc => (bif Nat.blt pc 84 then (bif Nat.blt pc 41 then (bif Nat.blt pc 21 then (bif Nat.blt pc 10 then (bif Nat.blt pc 5 then (bif Nat.blt pc 1 then (bif Nat.beq pc 0 then some (8, 0, 0, 1) else none) else (bif Nat.blt pc 2 then (bif Nat.beq pc 1 then some (4, 1, 0, 2) else none) else (bif Nat.beq pc 2 then some (81, 161, 0, 5) else none))) else (bif Nat.blt pc 8 then (bif Nat.beq pc 5 then some (50, 18, 0, 8) else none) else (bif Nat.blt pc 9 then (bif Nat.beq pc 8 then some (4, 2, 0, 9) else none) else (bif Nat.beq pc 9 then some (0, 0, 0, 10) else none)))) else (bif Nat.blt pc 18 then (bif Nat.blt pc 12 then (bif Nat.beq pc 10 then some (1, 0, 23, 12) else none) else (bif Nat.blt pc 15 then (bif Nat.beq pc 12 then some (80, 112, 0, 15) else none) else (bif Nat.beq pc 15 then some (51, 20, 0, 18) else none))) else (bif Nat.blt pc 19 then (bif Nat.beq pc 18 then some (0, 0, (-1), 19) else none) else (bif Nat.blt pc 20 then (bif Nat.beq pc 19 then some (83, 0, 0, 20) else none) else (bif Nat.beq pc 20 then some (8, 0, 0, 21) else none))))) else (bif Nat.blt pc 31 then (bif Nat.blt pc 26 then (bif Nat.blt pc 24 then (bif Nat.beq pc 21 then some (33, 93, 0, 24) else none) else (bif Nat.blt pc 25 then (bif Nat.beq pc 24 then some (4, 1, 0, 25) else none) else (bif Nat.beq pc 25 then some (63, 0, 0, 26) else none))) else (bif Nat.blt pc 29 then (bif Nat.beq pc 26 then some (51, 31, 0, 29) else none) else (bif Nat.blt pc 30 then (bif Nat.beq pc 29 then some (0, 0, 0, 30) else none) else (bif Nat.beq pc 30 then some (83, 0, 0, 31) else none)))) else (bif Nat.blt pc 34 then (bif Nat.blt pc 32 then (bif Nat.beq pc 31 then some (0, 0, 0, 32) else none) else (bif Nat.blt pc 33 then (bif Nat.beq pc 32 then some (10, 3, 0, 33) else none) else (bif Nat.beq pc 33 then some (4, 3, 0, 34) else none))) else (bif Nat.blt pc 35 then (bif Nat.beq pc 34 then some (8, 0, 0, 35) else none) else (bif Nat.blt pc 38 then (bif Nat.beq pc 35 then some (33, 109, 0, 38) else none) else (bif Nat.beq pc 38 then some (59, 84, 0, 41) else none)))))) else (bif Nat.blt pc 63 then (bif Nat.blt pc 51 then (bif Nat.blt pc 44 then (bif Nat.blt pc 42 then (bif Nat.beq pc 41 then some (8, 0, 0, 42) else none) else (bif Nat.blt pc 43 then (bif Nat.beq pc 42 then some (4, 3, 0, 43) else none) else (bif Nat.beq pc 43 then some (8, 0, 0, 44) else none))) else (bif Nat.blt pc 47 then (bif Nat.beq pc 44 then some (33, 116, 0, 47) else none) else (bif Nat.blt pc 48 then (bif Nat.beq pc 47 then some (8, 0, 0, 48) else none) else (bif Nat.beq pc 48 then some (33, 116, 0, 51) else none)))) else (bif Nat.blt pc 58 then (bif Nat.blt pc 54 then (bif Nat.beq pc 51 then some (81, 133, 0, 54) else none) else (bif Nat.blt pc 57 then (bif Nat.beq pc 54 then some (50, 78, 0, 57) else none) else (bif Nat.beq pc 57 then some (8, 0, 0, 58) else none))) else (bif Nat.blt pc 61 then (bif Nat.beq pc 58 then some (33, 87, 0, 61) else none) else (bif Nat.blt pc 62 then (bif Nat.beq pc 61 then some (4, 1, 0, 62) else none) else (bif Nat.beq pc 62 then some (62, 0, 0, 63) else none))))) else (bif Nat.blt pc 71 then (bif Nat.blt pc 68 then (bif Nat.blt pc 64 then (bif Nat.beq pc 63 then some (8, 0, 0, 64) else none) else (bif Nat.blt pc 67 then (bif Nat.beq pc 64 then some (33, 20, 0, 67) else none) else (bif Nat.beq pc 67 then some (4, 3, 0, 68) else none))) else (bif Nat.blt pc 69 then (bif Nat.beq pc 68 then some (62, 0, 0, 69) else none) else (bif Nat.blt pc 70 then (bif Nat.beq pc 69 then some (24, 0, 0, 70) else none) else (bif Nat.beq pc 70 then some (0, 0, 1, 71) else none)))) else (bif Nat.blt pc 76 then (bif Nat.blt pc 72 then (bif Nat.beq pc 71 then some (20, 0, 0, 72) else none) else (bif Nat.blt pc 73 then (bif Nat.beq pc 72 then some (0, 0, 1, 73) else none) else (bif Nat.beq pc 73 then some (57, 78, 0, 76) else none))) else (bif Nat.blt pc 78 then (bif Nat.blt pc 77 then (bif Nat.beq pc 76 then some (0, 0, 1, 77) else none) else (bif Nat.beq pc 77 then some (83, 0, 0, 78) else none)) else (bif Nat.blt pc 81 then (bif Nat.beq pc 78 then some (16, 3, 1, 81) else none) else (bif Nat.beq pc 81 then some (32, 33, 0, 84) else none))))))) else (bif Nat.blt pc 120 then (bif Nat.blt pc 102 then (bif Nat.blt pc 92 then (bif Nat.blt pc 89 then (bif Nat.blt pc 85 then (bif Nat.beq pc 84 then some (8, 0, 0, 85) else none) else (bif Nat.blt pc 88 then (bif Nat.beq pc 85 then some (33, 90, 0, 88) else none) else (bif Nat.beq pc 88 then some (0, 0, 5, 89) else none))) else (bif Nat.blt pc 90 then (bif Nat.beq pc 89 then some (4, 1, 0, 90) else none) else (bif Nat.blt pc 91 then (bif Nat.beq pc 90 then some (19, 0, 0, 91) else none) else (bif Nat.beq pc 91 then some (62, 0, 0, 92) else none)))) else (bif Nat.blt pc 95 then (bif Nat.blt pc 93 then (bif Nat.beq pc 92 then some (10, 3, 0, 93) else none) else (bif Nat.blt pc 94 then (bif Nat.beq pc 93 then some (4, 3, 0, 94) else none) else (bif Nat.beq pc 94 then some (0, 0, (-1), 95) else none))) else (bif Nat.blt pc 98 then (bif Nat.beq pc 95 then some (56, 108, 0, 98) else none) else (bif Nat.blt pc 99 then (bif Nat.beq pc 98 then some (8, 0, 0, 99) else none) else (bif Nat.beq pc 99 then some (81, 240, 0, 102) else none))))) else (bif Nat.blt pc 112 then (bif Nat.blt pc 107 then (bif Nat.blt pc 103 then (bif Nat.beq pc 102 then some (4, 3, 0, 103) else none) else (bif Nat.blt pc 106 then (bif Nat.beq pc 103 then some (61, 108, 0, 106) else none) else (bif Nat.beq pc 106 then some (0, 0, 2, 107) else none))) else (bif Nat.blt pc 108 then (bif Nat.beq pc 107 then some (83, 0, 0, 108) else none) else (bif Nat.blt pc 109 then (bif Nat.beq pc 108 then some (8, 0, 0, 109) else none) else (bif Nat.beq pc 109 then some (33, 90, 0, 112) else none)))) else (bif Nat.blt pc 115 then (bif Nat.blt pc 113 then (bif Nat.beq pc 112 then some (0, 0, 5, 113) else none) else (bif Nat.blt pc 114 then (bif Nat.beq pc 113 then some (4, 1, 0, 114) else none) else (bif Nat.beq pc 114 then some (19, 0, 0, 115) else none))) else (bif Nat.blt pc 117 then (bif Nat.blt pc 116 then (bif Nat.beq pc 115 then some (0, 0, 3, 116) else none) else (bif Nat.beq pc 116 then some (17, 0, 0, 117) else none)) else (bif Nat.blt pc 118 then (bif Nat.beq pc 117 then some (62, 0, 0, 118) else none) else (bif Nat.beq pc 118 then some (11, 4, 0, 120) else none)))))) else (bif Nat.blt pc 138 then (bif Nat.blt pc 128 then (bif Nat.blt pc 125 then (bif Nat.blt pc 121 then (bif Nat.beq pc 120 then some (8, 0, 0, 121) else none) else (bif Nat.blt pc 124 then (bif Nat.beq pc 121 then some (33, 90, 0, 124) else none) else (bif Nat.beq pc 124 then some (0, 0, 5, 125) else none))) else (bif Nat.blt pc 126 then (bif Nat.beq pc 125 then some (4, 1, 0, 126) else none) else (bif Nat.blt pc 127 then (bif Nat.beq pc 126 then some (19, 0, 0, 127) else none) else (bif Nat.beq pc 127 then some (0, 0, 4, 128) else none)))) else (bif Nat.blt pc 132 then (bif Nat.blt pc 129 then (bif Nat.beq pc 128 then some (17, 0, 0, 129) else none) else (bif Nat.blt pc 130 then (bif Nat.beq pc 129 then some (62, 0, 0, 130) else none) else (bif Nat.beq pc 130 then some (11, 5, 0, 132) else none))) else (bif Nat.blt pc 134 then (bif Nat.beq pc 132 then some (5, 4, 0, 134) else none) else (bif Nat.blt pc 135 then (bif Nat.beq pc 134 then some (0, 0, (-1), 135) else none) else (bif Nat.beq pc 135 then some (56, 144, 0, 138) else none))))) else (bif Nat.blt pc 150 then (bif Nat.blt pc 144 then (bif Nat.blt pc 139 then (bif Nat.beq pc 138 then some (4, 2, 0, 139) else none) else (bif Nat.blt pc 141 then (bif Nat.beq pc 139 then some (5, 4, 0, 141) else none) else (bif Nat.beq pc 141 then some (58, 156, 0, 144) else none))) else (bif Nat.blt pc 146 then (bif Nat.beq pc 144 then some (5, 5, 0, 146) else none) else (bif Nat.blt pc 147 then (bif Nat.beq pc 146 then some (0, 0, (-1), 147) else none) else (bif Nat.beq pc 147 then some (56, 160, 0, 150) else none)))) else (bif Nat.blt pc 156 then (bif Nat.blt pc 151 then (bif Nat.beq pc 150 then some (4, 2, 0, 151) else none) else (bif Nat.blt pc 153 then (bif Nat.beq pc 151 then some (5, 5, 0, 153) else none) else (bif Nat.beq pc 153 then some (61, 160, 0, 156) else none))) else (bif Nat.blt pc 160 then (bif Nat.blt pc 157 then (bif Nat.beq pc 156 then some (0, 0, 3, 157) else none) else (bif Nat.beq pc 157 then some (32, 161, 0, 160) else none)) else (bif Nat.blt pc 161 then (bif Nat.beq pc 160 then some (0, 0, 0, 161) else none) else (bif Nat.beq pc 161 then some (83, 0, 0, 162) else none)))))))))
def mX8_may : em_Me := ((RX8, yX8_may, cX8_may, 6, (some .int)), iX8_may, fX8, qX8)
theorem rX8_may_0 : em_ckR RX8 cX8_may iX8_may 0 60 = true := by decide +kernel
theorem rX8_may_1 : em_ckR RX8 cX8_may iX8_may 60 60 = true := by decide +kernel
theorem rX8_may_2 : em_ckR RX8 cX8_may iX8_may 120 42 = true := by decide +kernel
theorem kX8_may : em_ok mX8_may := em_okM (N := 162) rfl (fun pc hpc q hq => if h0 : pc < 60 then em_ckR_at rX8_may_0 (by omega) (by omega) hq else if h1 : pc < 120 then em_ckR_at rX8_may_1 (by omega) (by omega) hq else em_ckR_at rX8_may_2 (by omega) (by omega) hq) fX8_ok qX8_ok
theorem tX8_may : em_tV mX8_may 2 8 := ⟨⟨em_in (k := 1159) (by decide +kernel), em_in (k := 10) (by decide +kernel), ⟨by decide +kernel, by decide +kernel⟩, by decide +kernel, by decide +kernel⟩, em_in (k := 1157) (by decide +kernel), _, rfl, em_in (k := 1158) (by decide +kernel)⟩
def iX8_fee : Nat → Option (Nat × Nat × Int32 × Nat) := em_tr 56 (fun pc => (bif Nat.blt pc 29 then (bif Nat.blt pc 15 then (bif Nat.blt pc 8 then (bif Nat.blt pc 2 then (bif Nat.blt pc 1 then (bif Nat.beq pc 0 then some (8, 0, 0, 1) else none) else (bif Nat.beq pc 1 then some (4, 1, 0, 2) else none)) else (bif Nat.blt pc 5 then (bif Nat.beq pc 2 then some (81, 161, 0, 5) else none) else (bif Nat.beq pc 5 then some (51, 10, 0, 8) else none))) else (bif Nat.blt pc 10 then (bif Nat.blt pc 9 then (bif Nat.beq pc 8 then some (0, 0, (-1), 9) else none) else (bif Nat.beq pc 9 then some (83, 0, 0, 10) else none)) else (bif Nat.blt pc 11 then (bif Nat.beq pc 10 then some (8, 0, 0, 11) else none) else (bif Nat.blt pc 14 then (bif Nat.beq pc 11 then some (33, 93, 0, 14) else none) else (bif Nat.beq pc 14 then some (4, 1, 0, 15) else none))))) else (bif Nat.blt pc 22 then (bif Nat.blt pc 19 then (bif Nat.blt pc 16 then (bif Nat.beq pc 15 then some (63, 0, 0, 16) else none) else (bif Nat.beq pc 16 then some (51, 21, 0, 19) else none)) else (bif Nat.blt pc 20 then (bif Nat.beq pc 19 then some (0, 0, 0, 20) else none) else (bif Nat.blt pc 21 then (bif Nat.beq pc 20 then some (83, 0, 0, 21) else none) else (bif Nat.beq pc 21 then some (0, 0, 0, 22) else none)))) else (bif Nat.blt pc 26 then (bif Nat.blt pc 23 then (bif Nat.beq pc 22 then some (8, 0, 0, 23) else none) else (bif Nat.beq pc 23 then some (33, 90, 0, 26) else none)) else (bif Nat.blt pc 27 then (bif Nat.beq pc 26 then some (0, 0, 5, 27) else none) else (bif Nat.blt pc 28 then (bif Nat.beq pc 27 then some (4, 1, 0, 28) else none) else (bif Nat.beq pc 28 then some (19, 0, 0, 29) else none)))))) else (bif Nat.blt pc 42 then (bif Nat.blt pc 35 then (bif Nat.blt pc 31 then (bif Nat.blt pc 30 then (bif Nat.beq pc 29 then some (0, 0, 1, 30) else none) else (bif Nat.beq pc 30 then some (17, 0, 0, 31) else none)) else (bif Nat.blt pc 32 then (bif Nat.beq pc 31 then some (62, 0, 0, 32) else none) else (bif Nat.beq pc 32 then some (80, 167, 0, 35) else none))) else (bif Nat.blt pc 37 then (bif Nat.blt pc 36 then (bif Nat.beq pc 35 then some (0, 0, 0, 36) else none) else (bif Nat.beq pc 36 then some (8, 0, 0, 37) else none)) else (bif Nat.blt pc 40 then (bif Nat.beq pc 37 then some (33, 90, 0, 40) else none) else (bif Nat.blt pc 41 then (bif Nat.beq pc 40 then some (0, 0, 5, 41) else none) else (bif Nat.beq pc 41 then some (4, 1, 0, 42) else none))))) else (bif Nat.blt pc 49 then (bif Nat.blt pc 44 then (bif Nat.blt pc 43 then (bif Nat.beq pc 42 then some (19, 0, 0, 43) else none) else (bif Nat.beq pc 43 then some (0, 0, 2, 44) else none)) else (bif Nat.blt pc 45 then (bif Nat.beq pc 44 then some (17, 0, 0, 45) else none) else (bif Nat.blt pc 46 then (bif Nat.beq pc 45 then some (62, 0, 0, 46) else none) else (bif Nat.beq pc 46 then some (80, 167, 0, 49) else none)))) else (bif Nat.blt pc 53 then (bif Nat.blt pc 50 then (bif Nat.beq pc 49 then some (8, 0, 0, 50) else none) else (bif Nat.beq pc 50 then some (81, 240, 0, 53) else none)) else (bif Nat.blt pc 54 then (bif Nat.beq pc 53 then some (19, 0, 0, 54) else none) else (bif Nat.blt pc 55 then (bif Nat.beq pc 54 then some (17, 0, 0, 55) else none) else (bif Nat.beq pc 55 then some (83, 0, 0, 56) else none))))))))
def mX8_fee : em_Me := ((RX8, yX8_fee, cX8_fee, 2, (some .int)), iX8_fee, fX8, qX8)
theorem rX8_fee_0 : em_ckR RX8 cX8_fee iX8_fee 0 56 = true := by decide +kernel
theorem kX8_fee : em_ok mX8_fee := em_okM (N := 56) rfl (fun pc hpc q hq => em_ckR_at rX8_fee_0 (by omega) (by omega) hq) fX8_ok qX8_ok
theorem tX8_fee : em_tV mX8_fee 1 8 := ⟨⟨em_in (k := 1167) (by decide +kernel), em_in (k := 10) (by decide +kernel), ⟨by decide +kernel, by decide +kernel⟩, by decide +kernel, by decide +kernel⟩, em_in (k := 1165) (by decide +kernel), _, rfl, em_in (k := 1166) (by decide +kernel)⟩
def iX8_wall : Nat → Option (Nat × Nat × Int32 × Nat) := em_tr 39 (fun pc => (bif Nat.blt pc 21 then (bif Nat.blt pc 11 then (bif Nat.blt pc 4 then (bif Nat.blt pc 1 then (bif Nat.beq pc 0 then some (4, 1, 0, 1) else none) else (bif Nat.blt pc 2 then (bif Nat.beq pc 1 then some (0, 0, 0, 2) else none) else (bif Nat.beq pc 2 then some (1, 0, 63, 4) else none))) else (bif Nat.blt pc 7 then (bif Nat.beq pc 4 then some (80, 112, 0, 7) else none) else (bif Nat.blt pc 10 then (bif Nat.beq pc 7 then some (50, 28, 0, 10) else none) else (bif Nat.beq pc 10 then some (8, 0, 0, 11) else none)))) else (bif Nat.blt pc 16 then (bif Nat.blt pc 14 then (bif Nat.beq pc 11 then some (33, 99, 0, 14) else none) else (bif Nat.blt pc 15 then (bif Nat.beq pc 14 then some (4, 1, 0, 15) else none) else (bif Nat.beq pc 15 then some (63, 0, 0, 16) else none))) else (bif Nat.blt pc 17 then (bif Nat.beq pc 16 then some (4, 2, 0, 17) else none) else (bif Nat.blt pc 20 then (bif Nat.beq pc 17 then some (56, 28, 0, 20) else none) else (bif Nat.beq pc 20 then some (8, 0, 0, 21) else none))))) else (bif Nat.blt pc 31 then (bif Nat.blt pc 28 then (bif Nat.blt pc 24 then (bif Nat.beq pc 21 then some (33, 9, 0, 24) else none) else (bif Nat.blt pc 25 then (bif Nat.beq pc 24 then some (0, 0, (-1), 25) else none) else (bif Nat.beq pc 25 then some (56, 30, 0, 28) else none))) else (bif Nat.blt pc 29 then (bif Nat.beq pc 28 then some (0, 0, 0, 29) else none) else (bif Nat.blt pc 30 then (bif Nat.beq pc 29 then some (83, 0, 0, 30) else none) else (bif Nat.beq pc 30 then some (8, 0, 0, 31) else none)))) else (bif Nat.blt pc 36 then (bif Nat.blt pc 34 then (bif Nat.beq pc 31 then some (33, 99, 0, 34) else none) else (bif Nat.blt pc 35 then (bif Nat.beq pc 34 then some (4, 1, 0, 35) else none) else (bif Nat.beq pc 35 then some (4, 2, 0, 36) else none))) else (bif Nat.blt pc 37 then (bif Nat.beq pc 36 then some (67, 0, 0, 37) else none) else (bif Nat.blt pc 38 then (bif Nat.beq pc 37 then some (0, 0, 1, 38) else none) else (bif Nat.beq pc 38 then some (83, 0, 0, 39) else none)))))))
def mX8_wall : em_Me := ((RX8, yX8_wall, cX8_wall, 3, (some .boolean)), iX8_wall, fX8, qX8)
theorem rX8_wall_0 : em_ckR RX8 cX8_wall iX8_wall 0 39 = true := by decide +kernel
theorem kX8_wall : em_ok mX8_wall := em_okM (N := 39) rfl (fun pc hpc q hq => em_ckR_at rX8_wall_0 (by omega) (by omega) hq) fX8_ok qX8_ok
theorem tX8_wall : em_tV mX8_wall 2 8 := ⟨⟨em_in (k := 1171) (by decide +kernel), em_in (k := 10) (by decide +kernel), ⟨by decide +kernel, by decide +kernel⟩, by decide +kernel, by decide +kernel⟩, em_in (k := 1169) (by decide +kernel), _, rfl, em_in (k := 1170) (by decide +kernel)⟩
def iX8_away : Nat → Option (Nat × Nat × Int32 × Nat) := em_tr 79 (fun pc => (bif Nat.blt pc 39 then (bif Nat.blt pc 22 then (bif Nat.blt pc 9 then (bif Nat.blt pc 2 then (bif Nat.blt pc 1 then (bif Nat.beq pc 0 then some (8, 0, 0, 1) else none) else (bif Nat.beq pc 1 then some (4, 1, 0, 2) else none)) else (bif Nat.blt pc 5 then (bif Nat.beq pc 2 then some (81, 127, 0, 5) else none) else (bif Nat.blt pc 8 then (bif Nat.beq pc 5 then some (50, 35, 0, 8) else none) else (bif Nat.beq pc 8 then some (4, 2, 0, 9) else none)))) else (bif Nat.blt pc 15 then (bif Nat.blt pc 10 then (bif Nat.beq pc 9 then some (0, 0, 0, 10) else none) else (bif Nat.blt pc 12 then (bif Nat.beq pc 10 then some (1, 0, 63, 12) else none) else (bif Nat.beq pc 12 then some (80, 112, 0, 15) else none))) else (bif Nat.blt pc 18 then (bif Nat.beq pc 15 then some (50, 35, 0, 18) else none) else (bif Nat.blt pc 19 then (bif Nat.beq pc 18 then some (8, 0, 0, 19) else none) else (bif Nat.beq pc 19 then some (33, 99, 0, 22) else none))))) else (bif Nat.blt pc 31 then (bif Nat.blt pc 24 then (bif Nat.blt pc 23 then (bif Nat.beq pc 22 then some (4, 2, 0, 23) else none) else (bif Nat.beq pc 23 then some (63, 0, 0, 24) else none)) else (bif Nat.blt pc 27 then (bif Nat.beq pc 24 then some (51, 35, 0, 27) else none) else (bif Nat.blt pc 28 then (bif Nat.beq pc 27 then some (8, 0, 0, 28) else none) else (bif Nat.beq pc 28 then some (33, 9, 0, 31) else none)))) else (bif Nat.blt pc 36 then (bif Nat.blt pc 32 then (bif Nat.beq pc 31 then some (0, 0, (-1), 32) else none) else (bif Nat.blt pc 35 then (bif Nat.beq pc 32 then some (56, 37, 0, 35) else none) else (bif Nat.beq pc 35 then some (0, 0, 0, 36) else none))) else (bif Nat.blt pc 37 then (bif Nat.beq pc 36 then some (83, 0, 0, 37) else none) else (bif Nat.blt pc 38 then (bif Nat.beq pc 37 then some (8, 0, 0, 38) else none) else (bif Nat.beq pc 38 then some (4, 1, 0, 39) else none)))))) else (bif Nat.blt pc 59 then (bif Nat.blt pc 48 then (bif Nat.blt pc 43 then (bif Nat.blt pc 42 then (bif Nat.beq pc 39 then some (74, 9, 0, 42) else none) else (bif Nat.beq pc 42 then some (8, 0, 0, 43) else none)) else (bif Nat.blt pc 44 then (bif Nat.beq pc 43 then some (0, 0, 0, 44) else none) else (bif Nat.blt pc 47 then (bif Nat.beq pc 44 then some (74, 243, 0, 47) else none) else (bif Nat.beq pc 47 then some (0, 0, 0, 48) else none)))) else (bif Nat.blt pc 52 then (bif Nat.blt pc 49 then (bif Nat.beq pc 48 then some (10, 3, 0, 49) else none) else (bif Nat.blt pc 50 then (bif Nat.beq pc 49 then some (4, 3, 0, 50) else none) else (bif Nat.beq pc 50 then some (1, 0, 64, 52) else none))) else (bif Nat.blt pc 55 then (bif Nat.beq pc 52 then some (59, 77, 0, 55) else none) else (bif Nat.blt pc 56 then (bif Nat.beq pc 55 then some (8, 0, 0, 56) else none) else (bif Nat.beq pc 56 then some (33, 102, 0, 59) else none))))) else (bif Nat.blt pc 69 then (bif Nat.blt pc 62 then (bif Nat.blt pc 60 then (bif Nat.beq pc 59 then some (4, 3, 0, 60) else none) else (bif Nat.blt pc 61 then (bif Nat.beq pc 60 then some (4, 3, 0, 61) else none) else (bif Nat.beq pc 61 then some (4, 2, 0, 62) else none))) else (bif Nat.blt pc 65 then (bif Nat.beq pc 62 then some (57, 69, 0, 65) else none) else (bif Nat.blt pc 66 then (bif Nat.beq pc 65 then some (3, 1, 0, 66) else none) else (bif Nat.beq pc 66 then some (32, 70, 0, 69) else none)))) else (bif Nat.blt pc 74 then (bif Nat.blt pc 70 then (bif Nat.beq pc 69 then some (3, 0, 0, 70) else none) else (bif Nat.blt pc 71 then (bif Nat.beq pc 70 then some (68, 0, 0, 71) else none) else (bif Nat.beq pc 71 then some (16, 3, 1, 74) else none))) else (bif Nat.blt pc 77 then (bif Nat.beq pc 74 then some (32, 49, 0, 77) else none) else (bif Nat.blt pc 78 then (bif Nat.beq pc 77 then some (0, 0, 1, 78) else none) else (bif Nat.beq pc 78 then some (83, 0, 0, 79) else none))))))))
def mX8_away : em_Me := ((RX8, yX8_away, cX8_away, 4, (some .boolean)), iX8_away, fX8, qX8)
theorem rX8_away_0 : em_ckR RX8 cX8_away iX8_away 0 60 = true := by decide +kernel
theorem rX8_away_1 : em_ckR RX8 cX8_away iX8_away 60 19 = true := by decide +kernel
theorem kX8_away : em_ok mX8_away := em_okM (N := 79) rfl (fun pc hpc q hq => if h0 : pc < 60 then em_ckR_at rX8_away_0 (by omega) (by omega) hq else em_ckR_at rX8_away_1 (by omega) (by omega) hq) fX8_ok qX8_ok
theorem tX8_away : em_tV mX8_away 2 8 := ⟨⟨em_in (k := 1175) (by decide +kernel), em_in (k := 10) (by decide +kernel), ⟨by decide +kernel, by decide +kernel⟩, by decide +kernel, by decide +kernel⟩, em_in (k := 1173) (by decide +kernel), _, rfl, em_in (k := 1174) (by decide +kernel)⟩
def iX8_beside : Nat → Option (Nat × Nat × Int32 × Nat) := em_tr 98 (fun pc => (bif Nat.blt pc 47 then (bif Nat.blt pc 23 then (bif Nat.blt pc 10 then (bif Nat.blt pc 4 then (bif Nat.blt pc 1 then (bif Nat.beq pc 0 then some (4, 1, 0, 1) else none) else (bif Nat.blt pc 3 then (bif Nat.beq pc 1 then some (1, 0, 8, 3) else none) else (bif Nat.beq pc 3 then some (71, 0, 0, 4) else none))) else (bif Nat.blt pc 6 then (bif Nat.blt pc 5 then (bif Nat.beq pc 4 then some (4, 2, 0, 5) else none) else (bif Nat.beq pc 5 then some (0, 0, 2, 6) else none)) else (bif Nat.blt pc 9 then (bif Nat.beq pc 6 then some (57, 13, 0, 9) else none) else (bif Nat.beq pc 9 then some (0, 0, (-1), 10) else none)))) else (bif Nat.blt pc 15 then (bif Nat.blt pc 13 then (bif Nat.beq pc 10 then some (32, 23, 0, 13) else none) else (bif Nat.blt pc 14 then (bif Nat.beq pc 13 then some (4, 2, 0, 14) else none) else (bif Nat.beq pc 14 then some (0, 0, 3, 15) else none))) else (bif Nat.blt pc 19 then (bif Nat.blt pc 18 then (bif Nat.beq pc 15 then some (57, 22, 0, 18) else none) else (bif Nat.beq pc 18 then some (0, 0, 1, 19) else none)) else (bif Nat.blt pc 22 then (bif Nat.beq pc 19 then some (32, 23, 0, 22) else none) else (bif Nat.beq pc 22 then some (0, 0, 0, 23) else none))))) else (bif Nat.blt pc 33 then (bif Nat.blt pc 26 then (bif Nat.blt pc 24 then (bif Nat.beq pc 23 then some (17, 0, 0, 24) else none) else (bif Nat.blt pc 25 then (bif Nat.beq pc 24 then some (10, 3, 0, 25) else none) else (bif Nat.beq pc 25 then some (4, 1, 0, 26) else none))) else (bif Nat.blt pc 29 then (bif Nat.blt pc 28 then (bif Nat.beq pc 26 then some (1, 0, 8, 28) else none) else (bif Nat.beq pc 28 then some (70, 0, 0, 29) else none)) else (bif Nat.blt pc 30 then (bif Nat.beq pc 29 then some (4, 2, 0, 30) else none) else (bif Nat.beq pc 30 then some (51, 37, 0, 33) else none)))) else (bif Nat.blt pc 39 then (bif Nat.blt pc 37 then (bif Nat.blt pc 34 then (bif Nat.beq pc 33 then some (0, 0, (-1), 34) else none) else (bif Nat.beq pc 34 then some (32, 47, 0, 37) else none)) else (bif Nat.blt pc 38 then (bif Nat.beq pc 37 then some (4, 2, 0, 38) else none) else (bif Nat.beq pc 38 then some (0, 0, 1, 39) else none))) else (bif Nat.blt pc 43 then (bif Nat.blt pc 42 then (bif Nat.beq pc 39 then some (57, 46, 0, 42) else none) else (bif Nat.beq pc 42 then some (0, 0, 1, 43) else none)) else (bif Nat.blt pc 46 then (bif Nat.beq pc 43 then some (32, 47, 0, 46) else none) else (bif Nat.beq pc 46 then some (0, 0, 0, 47) else none)))))) else (bif Nat.blt pc 75 then (bif Nat.blt pc 60 then (bif Nat.blt pc 51 then (bif Nat.blt pc 48 then (bif Nat.beq pc 47 then some (17, 0, 0, 48) else none) else (bif Nat.blt pc 50 then (bif Nat.beq pc 48 then some (11, 4, 0, 50) else none) else (bif Nat.beq pc 50 then some (4, 3, 0, 51) else none))) else (bif Nat.blt pc 54 then (bif Nat.blt pc 52 then (bif Nat.beq pc 51 then some (0, 0, 0, 52) else none) else (bif Nat.beq pc 52 then some (1, 0, 7, 54) else none)) else (bif Nat.blt pc 57 then (bif Nat.beq pc 54 then some (80, 112, 0, 57) else none) else (bif Nat.beq pc 57 then some (50, 96, 0, 60) else none)))) else (bif Nat.blt pc 65 then (bif Nat.blt pc 62 then (bif Nat.beq pc 60 then some (5, 4, 0, 62) else none) else (bif Nat.blt pc 63 then (bif Nat.beq pc 62 then some (0, 0, 0, 63) else none) else (bif Nat.beq pc 63 then some (1, 0, 7, 65) else none))) else (bif Nat.blt pc 71 then (bif Nat.blt pc 68 then (bif Nat.beq pc 65 then some (80, 112, 0, 68) else none) else (bif Nat.beq pc 68 then some (50, 96, 0, 71) else none)) else (bif Nat.blt pc 72 then (bif Nat.beq pc 71 then some (8, 0, 0, 72) else none) else (bif Nat.beq pc 72 then some (33, 99, 0, 75) else none))))) else (bif Nat.blt pc 86 then (bif Nat.blt pc 80 then (bif Nat.blt pc 77 then (bif Nat.beq pc 75 then some (1, 0, 8, 77) else none) else (bif Nat.blt pc 79 then (bif Nat.beq pc 77 then some (5, 4, 0, 79) else none) else (bif Nat.beq pc 79 then some (19, 0, 0, 80) else none))) else (bif Nat.blt pc 82 then (bif Nat.blt pc 81 then (bif Nat.beq pc 80 then some (4, 3, 0, 81) else none) else (bif Nat.beq pc 81 then some (17, 0, 0, 82) else none)) else (bif Nat.blt pc 83 then (bif Nat.beq pc 82 then some (63, 0, 0, 83) else none) else (bif Nat.beq pc 83 then some (51, 96, 0, 86) else none)))) else (bif Nat.blt pc 92 then (bif Nat.blt pc 90 then (bif Nat.blt pc 88 then (bif Nat.beq pc 86 then some (1, 0, 8, 88) else none) else (bif Nat.beq pc 88 then some (5, 4, 0, 90) else none)) else (bif Nat.blt pc 91 then (bif Nat.beq pc 90 then some (19, 0, 0, 91) else none) else (bif Nat.beq pc 91 then some (4, 3, 0, 92) else none))) else (bif Nat.blt pc 96 then (bif Nat.blt pc 93 then (bif Nat.beq pc 92 then some (17, 0, 0, 93) else none) else (bif Nat.beq pc 93 then some (32, 97, 0, 96) else none)) else (bif Nat.blt pc 97 then (bif Nat.beq pc 96 then some (0, 0, (-1), 97) else none) else (bif Nat.beq pc 97 then some (83, 0, 0, 98) else none))))))))
def mX8_beside : em_Me := ((RX8, yX8_beside, cX8_beside, 5, (some .int)), iX8_beside, fX8, qX8)
theorem rX8_beside_0 : em_ckR RX8 cX8_beside iX8_beside 0 60 = true := by decide +kernel
theorem rX8_beside_1 : em_ckR RX8 cX8_beside iX8_beside 60 38 = true := by decide +kernel
theorem kX8_beside : em_ok mX8_beside := em_okM (N := 98) rfl (fun pc hpc q hq => if h0 : pc < 60 then em_ckR_at rX8_beside_0 (by omega) (by omega) hq else em_ckR_at rX8_beside_1 (by omega) (by omega) hq) fX8_ok qX8_ok
theorem tX8_beside : em_tV mX8_beside 2 8 := ⟨⟨em_in (k := 1183) (by decide +kernel), em_in (k := 10) (by decide +kernel), ⟨by decide +kernel, by decide +kernel⟩, by decide +kernel, by decide +kernel⟩, em_in (k := 1182) (by decide +kernel), _, rfl, List.mem_append_left _ (by decide +kernel)⟩
def iX8_hour : Nat → Option (Nat × Nat × Int32 × Nat) := em_tr 153 (fun pc => (bif Nat.blt pc 77 then (bif Nat.blt pc 40 then (bif Nat.blt pc 20 then (bif Nat.blt pc 9 then (bif Nat.blt pc 4 then (bif Nat.blt pc 1 then (bif Nat.beq pc 0 then some (8, 0, 0, 1) else none) else (bif Nat.beq pc 1 then some (33, 9, 0, 4) else none)) else (bif Nat.blt pc 5 then (bif Nat.beq pc 4 then some (0, 0, (-1), 5) else none) else (bif Nat.blt pc 8 then (bif Nat.beq pc 5 then some (56, 17, 0, 8) else none) else (bif Nat.beq pc 8 then some (8, 0, 0, 9) else none)))) else (bif Nat.blt pc 17 then (bif Nat.blt pc 12 then (bif Nat.beq pc 9 then some (33, 243, 0, 12) else none) else (bif Nat.blt pc 14 then (bif Nat.beq pc 12 then some (1, 0, 20, 14) else none) else (bif Nat.beq pc 14 then some (57, 19, 0, 17) else none))) else (bif Nat.blt pc 18 then (bif Nat.beq pc 17 then some (0, 0, (-1), 18) else none) else (bif Nat.blt pc 19 then (bif Nat.beq pc 18 then some (83, 0, 0, 19) else none) else (bif Nat.beq pc 19 then some (0, 0, 0, 20) else none))))) else (bif Nat.blt pc 28 then (bif Nat.blt pc 22 then (bif Nat.blt pc 21 then (bif Nat.beq pc 20 then some (10, 1, 0, 21) else none) else (bif Nat.beq pc 21 then some (4, 1, 0, 22) else none)) else (bif Nat.blt pc 24 then (bif Nat.beq pc 22 then some (1, 0, 64, 24) else none) else (bif Nat.blt pc 27 then (bif Nat.beq pc 24 then some (59, 40, 0, 27) else none) else (bif Nat.beq pc 27 then some (8, 0, 0, 28) else none)))) else (bif Nat.blt pc 33 then (bif Nat.blt pc 31 then (bif Nat.beq pc 28 then some (33, 106, 0, 31) else none) else (bif Nat.blt pc 32 then (bif Nat.beq pc 31 then some (4, 1, 0, 32) else none) else (bif Nat.beq pc 32 then some (3, 0, 0, 33) else none))) else (bif Nat.blt pc 34 then (bif Nat.beq pc 33 then some (68, 0, 0, 34) else none) else (bif Nat.blt pc 37 then (bif Nat.beq pc 34 then some (16, 1, 1, 37) else none) else (bif Nat.beq pc 37 then some (32, 21, 0, 40) else none)))))) else (bif Nat.blt pc 54 then (bif Nat.blt pc 48 then (bif Nat.blt pc 42 then (bif Nat.blt pc 41 then (bif Nat.beq pc 40 then some (0, 0, 0, 41) else none) else (bif Nat.beq pc 41 then some (10, 1, 0, 42) else none)) else (bif Nat.blt pc 43 then (bif Nat.beq pc 42 then some (4, 1, 0, 43) else none) else (bif Nat.blt pc 45 then (bif Nat.beq pc 43 then some (1, 0, 64, 45) else none) else (bif Nat.beq pc 45 then some (59, 120, 0, 48) else none)))) else (bif Nat.blt pc 51 then (bif Nat.blt pc 49 then (bif Nat.beq pc 48 then some (0, 0, 5, 49) else none) else (bif Nat.blt pc 50 then (bif Nat.beq pc 49 then some (10, 2, 0, 50) else none) else (bif Nat.beq pc 50 then some (0, 0, 0, 51) else none))) else (bif Nat.blt pc 52 then (bif Nat.beq pc 51 then some (10, 3, 0, 52) else none) else (bif Nat.blt pc 53 then (bif Nat.beq pc 52 then some (4, 3, 0, 53) else none) else (bif Nat.beq pc 53 then some (0, 0, 4, 54) else none))))) else (bif Nat.blt pc 65 then (bif Nat.blt pc 59 then (bif Nat.blt pc 57 then (bif Nat.beq pc 54 then some (59, 96, 0, 57) else none) else (bif Nat.blt pc 58 then (bif Nat.beq pc 57 then some (8, 0, 0, 58) else none) else (bif Nat.beq pc 58 then some (4, 1, 0, 59) else none))) else (bif Nat.blt pc 60 then (bif Nat.beq pc 59 then some (4, 3, 0, 60) else none) else (bif Nat.blt pc 63 then (bif Nat.beq pc 60 then some (81, 246, 0, 63) else none) else (bif Nat.beq pc 63 then some (11, 4, 0, 65) else none)))) else (bif Nat.blt pc 71 then (bif Nat.blt pc 67 then (bif Nat.beq pc 65 then some (5, 4, 0, 67) else none) else (bif Nat.blt pc 68 then (bif Nat.beq pc 67 then some (0, 0, (-1), 68) else none) else (bif Nat.beq pc 68 then some (56, 90, 0, 71) else none))) else (bif Nat.blt pc 72 then (bif Nat.beq pc 71 then some (8, 0, 0, 72) else none) else (bif Nat.blt pc 75 then (bif Nat.beq pc 72 then some (33, 106, 0, 75) else none) else (bif Nat.beq pc 75 then some (5, 4, 0, 77) else none))))))) else (bif Nat.blt pc 112 then (bif Nat.blt pc 96 then (bif Nat.blt pc 84 then (bif Nat.blt pc 79 then (bif Nat.blt pc 78 then (bif Nat.beq pc 77 then some (31, 0, 0, 78) else none) else (bif Nat.beq pc 78 then some (64, 0, 0, 79) else none)) else (bif Nat.blt pc 80 then (bif Nat.beq pc 79 then some (8, 0, 0, 80) else none) else (bif Nat.blt pc 83 then (bif Nat.beq pc 80 then some (33, 102, 0, 83) else none) else (bif Nat.beq pc 83 then some (4, 1, 0, 84) else none)))) else (bif Nat.blt pc 87 then (bif Nat.blt pc 85 then (bif Nat.beq pc 84 then some (64, 0, 0, 85) else none) else (bif Nat.blt pc 86 then (bif Nat.beq pc 85 then some (26, 0, 0, 86) else none) else (bif Nat.beq pc 86 then some (68, 0, 0, 87) else none))) else (bif Nat.blt pc 90 then (bif Nat.beq pc 87 then some (16, 2, (-1), 90) else none) else (bif Nat.blt pc 93 then (bif Nat.beq pc 90 then some (16, 3, 1, 93) else none) else (bif Nat.beq pc 93 then some (32, 52, 0, 96) else none))))) else (bif Nat.blt pc 104 then (bif Nat.blt pc 101 then (bif Nat.blt pc 97 then (bif Nat.beq pc 96 then some (8, 0, 0, 97) else none) else (bif Nat.blt pc 100 then (bif Nat.beq pc 97 then some (33, 106, 0, 100) else none) else (bif Nat.beq pc 100 then some (4, 1, 0, 101) else none))) else (bif Nat.blt pc 102 then (bif Nat.beq pc 101 then some (31, 0, 0, 102) else none) else (bif Nat.blt pc 103 then (bif Nat.beq pc 102 then some (64, 0, 0, 103) else none) else (bif Nat.beq pc 103 then some (4, 2, 0, 104) else none)))) else (bif Nat.blt pc 109 then (bif Nat.blt pc 105 then (bif Nat.beq pc 104 then some (28, 0, 0, 105) else none) else (bif Nat.blt pc 106 then (bif Nat.beq pc 105 then some (8, 0, 0, 106) else none) else (bif Nat.beq pc 106 then some (33, 102, 0, 109) else none))) else (bif Nat.blt pc 110 then (bif Nat.beq pc 109 then some (4, 1, 0, 110) else none) else (bif Nat.blt pc 111 then (bif Nat.beq pc 110 then some (64, 0, 0, 111) else none) else (bif Nat.beq pc 111 then some (27, 0, 0, 112) else none)))))) else (bif Nat.blt pc 133 then (bif Nat.blt pc 121 then (bif Nat.blt pc 114 then (bif Nat.blt pc 113 then (bif Nat.beq pc 112 then some (26, 0, 0, 113) else none) else (bif Nat.beq pc 113 then some (68, 0, 0, 114) else none)) else (bif Nat.blt pc 117 then (bif Nat.beq pc 114 then some (16, 1, 1, 117) else none) else (bif Nat.blt pc 120 then (bif Nat.beq pc 117 then some (32, 42, 0, 120) else none) else (bif Nat.beq pc 120 then some (8, 0, 0, 121) else none)))) else (bif Nat.blt pc 126 then (bif Nat.blt pc 124 then (bif Nat.beq pc 121 then some (33, 102, 0, 124) else none) else (bif Nat.blt pc 125 then (bif Nat.beq pc 124 then some (14, 1, 0, 125) else none) else (bif Nat.beq pc 125 then some (8, 0, 0, 126) else none))) else (bif Nat.blt pc 127 then (bif Nat.beq pc 126 then some (8, 0, 0, 127) else none) else (bif Nat.blt pc 130 then (bif Nat.beq pc 127 then some (33, 106, 0, 130) else none) else (bif Nat.beq pc 130 then some (74, 102, 0, 133) else none))))) else (bif Nat.blt pc 143 then (bif Nat.blt pc 138 then (bif Nat.blt pc 134 then (bif Nat.beq pc 133 then some (8, 0, 0, 134) else none) else (bif Nat.blt pc 135 then (bif Nat.beq pc 134 then some (8, 1, 0, 135) else none) else (bif Nat.beq pc 135 then some (74, 106, 0, 138) else none))) else (bif Nat.blt pc 139 then (bif Nat.beq pc 138 then some (8, 0, 0, 139) else none) else (bif Nat.blt pc 140 then (bif Nat.beq pc 139 then some (30, 0, 0, 140) else none) else (bif Nat.beq pc 140 then some (33, 243, 0, 143) else none)))) else (bif Nat.blt pc 148 then (bif Nat.blt pc 144 then (bif Nat.beq pc 143 then some (0, 0, 1, 144) else none) else (bif Nat.blt pc 145 then (bif Nat.beq pc 144 then some (17, 0, 0, 145) else none) else (bif Nat.beq pc 145 then some (74, 243, 0, 148) else none))) else (bif Nat.blt pc 149 then (bif Nat.beq pc 148 then some (8, 0, 0, 149) else none) else (bif Nat.blt pc 152 then (bif Nat.beq pc 149 then some (33, 243, 0, 152) else none) else (bif Nat.beq pc 152 then some (83, 0, 0, 153) else none)))))))))
def mX8_hour : em_Me := ((RX8, yX8_hour, cX8_hour, 5, (some .int)), iX8_hour, fX8, qX8)
theorem rX8_hour_0 : em_ckR RX8 cX8_hour iX8_hour 0 60 = true := by decide +kernel
theorem rX8_hour_1 : em_ckR RX8 cX8_hour iX8_hour 60 60 = true := by decide +kernel
theorem rX8_hour_2 : em_ckR RX8 cX8_hour iX8_hour 120 33 = true := by decide +kernel
theorem kX8_hour : em_ok mX8_hour := em_okM (N := 153) rfl (fun pc hpc q hq => if h0 : pc < 60 then em_ckR_at rX8_hour_0 (by omega) (by omega) hq else if h1 : pc < 120 then em_ckR_at rX8_hour_1 (by omega) (by omega) hq else em_ckR_at rX8_hour_2 (by omega) (by omega) hq) fX8_ok qX8_ok
theorem tX8_hour : em_tV mX8_hour 0 8 := ⟨⟨em_in (k := 1179) (by decide +kernel), em_in (k := 10) (by decide +kernel), ⟨by decide +kernel, by decide +kernel⟩, by decide +kernel, by decide +kernel⟩, em_in (k := 1177) (by decide +kernel), _, rfl, em_in (k := 1178) (by decide +kernel)⟩
def iX8_all : Nat → Option (Nat × Nat × Int32 × Nat) := em_tr 27 (fun pc => (bif Nat.blt pc 12 then (bif Nat.blt pc 4 then (bif Nat.blt pc 2 then (bif Nat.blt pc 1 then (bif Nat.beq pc 0 then some (3, 0, 0, 1) else none) else (bif Nat.beq pc 1 then some (12, 1, 0, 2) else none)) else (bif Nat.blt pc 3 then (bif Nat.beq pc 2 then some (0, 0, 0, 3) else none) else (bif Nat.beq pc 3 then some (10, 3, 0, 4) else none))) else (bif Nat.blt pc 7 then (bif Nat.blt pc 5 then (bif Nat.beq pc 4 then some (4, 3, 0, 5) else none) else (bif Nat.beq pc 5 then some (1, 0, 64, 7) else none)) else (bif Nat.blt pc 10 then (bif Nat.beq pc 7 then some (59, 25, 0, 10) else none) else (bif Nat.blt pc 11 then (bif Nat.beq pc 10 then some (6, 1, 0, 11) else none) else (bif Nat.beq pc 11 then some (8, 0, 0, 12) else none))))) else (bif Nat.blt pc 18 then (bif Nat.blt pc 16 then (bif Nat.blt pc 15 then (bif Nat.beq pc 12 then some (33, 102, 0, 15) else none) else (bif Nat.beq pc 15 then some (4, 3, 0, 16) else none)) else (bif Nat.blt pc 17 then (bif Nat.beq pc 16 then some (64, 0, 0, 17) else none) else (bif Nat.beq pc 17 then some (26, 0, 0, 18) else none))) else (bif Nat.blt pc 22 then (bif Nat.blt pc 19 then (bif Nat.beq pc 18 then some (12, 1, 0, 19) else none) else (bif Nat.beq pc 19 then some (16, 3, 1, 22) else none)) else (bif Nat.blt pc 25 then (bif Nat.beq pc 22 then some (32, 4, 0, 25) else none) else (bif Nat.blt pc 26 then (bif Nat.beq pc 25 then some (6, 1, 0, 26) else none) else (bif Nat.beq pc 26 then some (84, 0, 0, 27) else none)))))))
def mX8_all : em_Me := ((RX8, yX8_all, cX8_all, 4, (some .long)), iX8_all, fX8, qX8)
theorem rX8_all_0 : em_ckR RX8 cX8_all iX8_all 0 27 = true := by decide +kernel
theorem kX8_all : em_ok mX8_all := em_okM (N := 27) rfl (fun pc hpc q hq => em_ckR_at rX8_all_0 (by omega) (by omega) hq) fX8_ok qX8_ok
theorem tX8_all : em_tV mX8_all 0 8 := ⟨⟨em_in (k := 1191) (by decide +kernel), em_in (k := 10) (by decide +kernel), ⟨by decide +kernel, by decide +kernel⟩, by decide +kernel, by decide +kernel⟩, em_in (k := 1190) (by decide +kernel), _, rfl, List.mem_append_left _ (by decide +kernel)⟩
def iX8_look : Nat → Option (Nat × Nat × Int32 × Nat) := em_tr 63 (fun pc => (bif Nat.blt pc 33 then (bif Nat.blt pc 19 then (bif Nat.blt pc 9 then (bif Nat.blt pc 4 then (bif Nat.blt pc 1 then (bif Nat.beq pc 0 then some (8, 0, 0, 1) else none) else (bif Nat.beq pc 1 then some (33, 9, 0, 4) else none)) else (bif Nat.blt pc 5 then (bif Nat.beq pc 4 then some (0, 0, (-1), 5) else none) else (bif Nat.blt pc 8 then (bif Nat.beq pc 5 then some (56, 18, 0, 8) else none) else (bif Nat.beq pc 8 then some (4, 1, 0, 9) else none)))) else (bif Nat.blt pc 12 then (bif Nat.blt pc 10 then (bif Nat.beq pc 9 then some (0, 0, 0, 10) else none) else (bif Nat.beq pc 10 then some (1, 0, 63, 12) else none)) else (bif Nat.blt pc 15 then (bif Nat.beq pc 12 then some (80, 112, 0, 15) else none) else (bif Nat.blt pc 18 then (bif Nat.beq pc 15 then some (51, 20, 0, 18) else none) else (bif Nat.beq pc 18 then some (0, 0, (-1), 19) else none))))) else (bif Nat.blt pc 26 then (bif Nat.blt pc 21 then (bif Nat.blt pc 20 then (bif Nat.beq pc 19 then some (83, 0, 0, 20) else none) else (bif Nat.beq pc 20 then some (8, 0, 0, 21) else none)) else (bif Nat.blt pc 24 then (bif Nat.beq pc 21 then some (33, 102, 0, 24) else none) else (bif Nat.blt pc 25 then (bif Nat.beq pc 24 then some (4, 1, 0, 25) else none) else (bif Nat.beq pc 25 then some (64, 0, 0, 26) else none)))) else (bif Nat.blt pc 28 then (bif Nat.blt pc 27 then (bif Nat.beq pc 26 then some (3, 0, 0, 27) else none) else (bif Nat.beq pc 27 then some (29, 0, 0, 28) else none)) else (bif Nat.blt pc 31 then (bif Nat.beq pc 28 then some (51, 33, 0, 31) else none) else (bif Nat.blt pc 32 then (bif Nat.beq pc 31 then some (0, 0, 0, 32) else none) else (bif Nat.beq pc 32 then some (83, 0, 0, 33) else none)))))) else (bif Nat.blt pc 49 then (bif Nat.blt pc 40 then (bif Nat.blt pc 37 then (bif Nat.blt pc 34 then (bif Nat.beq pc 33 then some (8, 0, 0, 34) else none) else (bif Nat.beq pc 34 then some (33, 102, 0, 37) else none)) else (bif Nat.blt pc 38 then (bif Nat.beq pc 37 then some (4, 1, 0, 38) else none) else (bif Nat.blt pc 39 then (bif Nat.beq pc 38 then some (64, 0, 0, 39) else none) else (bif Nat.beq pc 39 then some (8, 0, 0, 40) else none)))) else (bif Nat.blt pc 44 then (bif Nat.blt pc 43 then (bif Nat.beq pc 40 then some (81, 249, 0, 43) else none) else (bif Nat.beq pc 43 then some (29, 0, 0, 44) else none)) else (bif Nat.blt pc 47 then (bif Nat.beq pc 44 then some (51, 54, 0, 47) else none) else (bif Nat.blt pc 48 then (bif Nat.beq pc 47 then some (8, 0, 0, 48) else none) else (bif Nat.beq pc 48 then some (0, 0, (-1), 49) else none))))) else (bif Nat.blt pc 58 then (bif Nat.blt pc 53 then (bif Nat.blt pc 52 then (bif Nat.beq pc 49 then some (74, 9, 0, 52) else none) else (bif Nat.beq pc 52 then some (0, 0, 2, 53) else none)) else (bif Nat.blt pc 54 then (bif Nat.beq pc 53 then some (83, 0, 0, 54) else none) else (bif Nat.blt pc 55 then (bif Nat.beq pc 54 then some (8, 0, 0, 55) else none) else (bif Nat.beq pc 55 then some (33, 102, 0, 58) else none)))) else (bif Nat.blt pc 60 then (bif Nat.blt pc 59 then (bif Nat.beq pc 58 then some (4, 1, 0, 59) else none) else (bif Nat.beq pc 59 then some (3, 0, 0, 60) else none)) else (bif Nat.blt pc 61 then (bif Nat.beq pc 60 then some (68, 0, 0, 61) else none) else (bif Nat.blt pc 62 then (bif Nat.beq pc 61 then some (0, 0, 1, 62) else none) else (bif Nat.beq pc 62 then some (83, 0, 0, 63) else none))))))))
def mX8_look : em_Me := ((RX8, yX8_look, cX8_look, 2, (some .int)), iX8_look, fX8, qX8)
theorem rX8_look_0 : em_ckR RX8 cX8_look iX8_look 0 60 = true := by decide +kernel
theorem rX8_look_1 : em_ckR RX8 cX8_look iX8_look 60 3 = true := by decide +kernel
theorem kX8_look : em_ok mX8_look := em_okM (N := 63) rfl (fun pc hpc q hq => if h0 : pc < 60 then em_ckR_at rX8_look_0 (by omega) (by omega) hq else em_ckR_at rX8_look_1 (by omega) (by omega) hq) fX8_ok qX8_ok
theorem tX8_look : em_tV mX8_look 1 8 := ⟨⟨em_in (k := 1187) (by decide +kernel), em_in (k := 10) (by decide +kernel), ⟨by decide +kernel, by decide +kernel⟩, by decide +kernel, by decide +kernel⟩, em_in (k := 1185) (by decide +kernel), _, rfl, em_in (k := 1186) (by decide +kernel)⟩
def iX8_maybe : Nat → Option (Nat × Nat × Int32 × Nat) := em_tr 31 (fun pc => (bif Nat.blt pc 15 then (bif Nat.blt pc 8 then (bif Nat.blt pc 4 then (bif Nat.blt pc 1 then (bif Nat.beq pc 0 then some (8, 0, 0, 1) else none) else (bif Nat.beq pc 1 then some (33, 9, 0, 4) else none)) else (bif Nat.blt pc 5 then (bif Nat.beq pc 4 then some (0, 0, (-1), 5) else none) else (bif Nat.beq pc 5 then some (56, 18, 0, 8) else none))) else (bif Nat.blt pc 10 then (bif Nat.blt pc 9 then (bif Nat.beq pc 8 then some (4, 1, 0, 9) else none) else (bif Nat.beq pc 9 then some (0, 0, 0, 10) else none)) else (bif Nat.blt pc 12 then (bif Nat.beq pc 10 then some (1, 0, 63, 12) else none) else (bif Nat.beq pc 12 then some (80, 112, 0, 15) else none)))) else (bif Nat.blt pc 25 then (bif Nat.blt pc 21 then (bif Nat.blt pc 18 then (bif Nat.beq pc 15 then some (51, 24, 0, 18) else none) else (bif Nat.beq pc 18 then some (37, 253, 0, 21) else none)) else (bif Nat.blt pc 24 then (bif Nat.beq pc 21 then some (32, 30, 0, 24) else none) else (bif Nat.beq pc 24 then some (8, 0, 0, 25) else none))) else (bif Nat.blt pc 29 then (bif Nat.blt pc 28 then (bif Nat.beq pc 25 then some (33, 102, 0, 28) else none) else (bif Nat.beq pc 28 then some (4, 1, 0, 29) else none)) else (bif Nat.blt pc 30 then (bif Nat.beq pc 29 then some (64, 0, 0, 30) else none) else (bif Nat.beq pc 30 then some (84, 0, 0, 31) else none))))))
def mX8_maybe : em_Me := ((RX8, yX8_maybe, cX8_maybe, 2, (some .long)), iX8_maybe, fX8, qX8)
theorem rX8_maybe_0 : em_ckR RX8 cX8_maybe iX8_maybe 0 31 = true := by decide +kernel
theorem kX8_maybe : em_ok mX8_maybe := em_okM (N := 31) rfl (fun pc hpc q hq => em_ckR_at rX8_maybe_0 (by omega) (by omega) hq) fX8_ok qX8_ok
theorem tX8_maybe : em_tV mX8_maybe 1 8 := ⟨⟨em_in (k := 1195) (by decide +kernel), em_in (k := 10) (by decide +kernel), ⟨by decide +kernel, by decide +kernel⟩, by decide +kernel, by decide +kernel⟩, em_in (k := 1193) (by decide +kernel), _, rfl, em_in (k := 1194) (by decide +kernel)⟩
def iX8_chance : Nat → Option (Nat × Nat × Int32 × Nat) := em_tr 93 (fun pc => (bif Nat.blt pc 45 then (bif Nat.blt pc 21 then (bif Nat.blt pc 10 then (bif Nat.blt pc 5 then (bif Nat.blt pc 1 then (bif Nat.beq pc 0 then some (8, 0, 0, 1) else none) else (bif Nat.blt pc 4 then (bif Nat.beq pc 1 then some (33, 9, 0, 4) else none) else (bif Nat.beq pc 4 then some (0, 0, (-1), 5) else none))) else (bif Nat.blt pc 8 then (bif Nat.beq pc 5 then some (56, 27, 0, 8) else none) else (bif Nat.blt pc 9 then (bif Nat.beq pc 8 then some (4, 1, 0, 9) else none) else (bif Nat.beq pc 9 then some (0, 0, 0, 10) else none)))) else (bif Nat.blt pc 18 then (bif Nat.blt pc 12 then (bif Nat.beq pc 10 then some (1, 0, 63, 12) else none) else (bif Nat.blt pc 15 then (bif Nat.beq pc 12 then some (80, 112, 0, 15) else none) else (bif Nat.beq pc 15 then some (50, 27, 0, 18) else none))) else (bif Nat.blt pc 19 then (bif Nat.beq pc 18 then some (4, 2, 0, 19) else none) else (bif Nat.blt pc 20 then (bif Nat.beq pc 19 then some (0, 0, 0, 20) else none) else (bif Nat.beq pc 20 then some (0, 0, 1, 21) else none))))) else (bif Nat.blt pc 35 then (bif Nat.blt pc 30 then (bif Nat.blt pc 24 then (bif Nat.beq pc 21 then some (80, 112, 0, 24) else none) else (bif Nat.blt pc 27 then (bif Nat.beq pc 24 then some (51, 31, 0, 27) else none) else (bif Nat.beq pc 27 then some (37, 253, 0, 30) else none))) else (bif Nat.blt pc 31 then (bif Nat.beq pc 30 then some (84, 0, 0, 31) else none) else (bif Nat.blt pc 32 then (bif Nat.beq pc 31 then some (8, 0, 0, 32) else none) else (bif Nat.beq pc 32 then some (33, 102, 0, 35) else none)))) else (bif Nat.blt pc 38 then (bif Nat.blt pc 36 then (bif Nat.beq pc 35 then some (4, 1, 0, 36) else none) else (bif Nat.blt pc 37 then (bif Nat.beq pc 36 then some (64, 0, 0, 37) else none) else (bif Nat.beq pc 37 then some (12, 3, 0, 38) else none))) else (bif Nat.blt pc 42 then (bif Nat.blt pc 39 then (bif Nat.beq pc 38 then some (8, 0, 0, 39) else none) else (bif Nat.beq pc 39 then some (81, 249, 0, 42) else none)) else (bif Nat.blt pc 44 then (bif Nat.beq pc 42 then some (13, 5, 0, 44) else none) else (bif Nat.beq pc 44 then some (6, 3, 0, 45) else none)))))) else (bif Nat.blt pc 69 then (bif Nat.blt pc 55 then (bif Nat.blt pc 51 then (bif Nat.blt pc 47 then (bif Nat.beq pc 45 then some (13, 7, 0, 47) else none) else (bif Nat.blt pc 49 then (bif Nat.beq pc 47 then some (7, 5, 0, 49) else none) else (bif Nat.beq pc 49 then some (13, 9, 0, 51) else none))) else (bif Nat.blt pc 53 then (bif Nat.beq pc 51 then some (7, 9, 0, 53) else none) else (bif Nat.blt pc 54 then (bif Nat.beq pc 53 then some (3, 0, 0, 54) else none) else (bif Nat.beq pc 54 then some (29, 0, 0, 55) else none)))) else (bif Nat.blt pc 62 then (bif Nat.blt pc 58 then (bif Nat.beq pc 55 then some (50, 76, 0, 58) else none) else (bif Nat.blt pc 60 then (bif Nat.beq pc 58 then some (7, 7, 0, 60) else none) else (bif Nat.beq pc 60 then some (7, 9, 0, 62) else none))) else (bif Nat.blt pc 65 then (bif Nat.blt pc 63 then (bif Nat.beq pc 62 then some (73, 0, 0, 63) else none) else (bif Nat.beq pc 63 then some (13, 11, 0, 65) else none)) else (bif Nat.blt pc 67 then (bif Nat.beq pc 65 then some (7, 9, 0, 67) else none) else (bif Nat.beq pc 67 then some (13, 7, 0, 69) else none))))) else (bif Nat.blt pc 81 then (bif Nat.blt pc 76 then (bif Nat.blt pc 71 then (bif Nat.beq pc 69 then some (7, 11, 0, 71) else none) else (bif Nat.blt pc 73 then (bif Nat.beq pc 71 then some (13, 9, 0, 73) else none) else (bif Nat.beq pc 73 then some (32, 51, 0, 76) else none))) else (bif Nat.blt pc 77 then (bif Nat.beq pc 76 then some (4, 2, 0, 77) else none) else (bif Nat.blt pc 80 then (bif Nat.beq pc 77 then some (51, 87, 0, 80) else none) else (bif Nat.beq pc 80 then some (6, 3, 0, 81) else none)))) else (bif Nat.blt pc 87 then (bif Nat.blt pc 83 then (bif Nat.beq pc 81 then some (7, 7, 0, 83) else none) else (bif Nat.blt pc 84 then (bif Nat.beq pc 83 then some (72, 0, 0, 84) else none) else (bif Nat.beq pc 84 then some (32, 92, 0, 87) else none))) else (bif Nat.blt pc 91 then (bif Nat.blt pc 89 then (bif Nat.beq pc 87 then some (7, 5, 0, 89) else none) else (bif Nat.beq pc 89 then some (7, 7, 0, 91) else none)) else (bif Nat.blt pc 92 then (bif Nat.beq pc 91 then some (72, 0, 0, 92) else none) else (bif Nat.beq pc 92 then some (84, 0, 0, 93) else none))))))))
def mX8_chance : em_Me := ((RX8, yX8_chance, cX8_chance, 13, (some .long)), iX8_chance, fX8, qX8)
theorem rX8_chance_0 : em_ckR RX8 cX8_chance iX8_chance 0 60 = true := by decide +kernel
theorem rX8_chance_1 : em_ckR RX8 cX8_chance iX8_chance 60 33 = true := by decide +kernel
theorem kX8_chance : em_ok mX8_chance := em_okM (N := 93) rfl (fun pc hpc q hq => if h0 : pc < 60 then em_ckR_at rX8_chance_0 (by omega) (by omega) hq else em_ckR_at rX8_chance_1 (by omega) (by omega) hq) fX8_ok qX8_ok
theorem tX8_chance : em_tV mX8_chance 2 8 := ⟨⟨em_in (k := 1200) (by decide +kernel), em_in (k := 10) (by decide +kernel), ⟨by decide +kernel, by decide +kernel⟩, by decide +kernel, by decide +kernel⟩, em_in (k := 1198) (by decide +kernel), _, rfl, em_in (k := 1199) (by decide +kernel)⟩
def iX8_where : Nat → Option (Nat × Nat × Int32 × Nat) := em_tr 50 (fun pc => (bif Nat.blt pc 24 then (bif Nat.blt pc 11 then (bif Nat.blt pc 5 then (bif Nat.blt pc 1 then (bif Nat.beq pc 0 then some (8, 0, 0, 1) else none) else (bif Nat.blt pc 4 then (bif Nat.beq pc 1 then some (33, 9, 0, 4) else none) else (bif Nat.beq pc 4 then some (0, 0, (-1), 5) else none))) else (bif Nat.blt pc 9 then (bif Nat.blt pc 8 then (bif Nat.beq pc 5 then some (57, 10, 0, 8) else none) else (bif Nat.beq pc 8 then some (0, 0, (-1), 9) else none)) else (bif Nat.blt pc 10 then (bif Nat.beq pc 9 then some (83, 0, 0, 10) else none) else (bif Nat.beq pc 10 then some (0, 0, 0, 11) else none)))) else (bif Nat.blt pc 15 then (bif Nat.blt pc 13 then (bif Nat.blt pc 12 then (bif Nat.beq pc 11 then some (10, 1, 0, 12) else none) else (bif Nat.beq pc 12 then some (0, 0, 1, 13) else none)) else (bif Nat.blt pc 14 then (bif Nat.beq pc 13 then some (10, 2, 0, 14) else none) else (bif Nat.beq pc 14 then some (4, 2, 0, 15) else none))) else (bif Nat.blt pc 20 then (bif Nat.blt pc 17 then (bif Nat.beq pc 15 then some (1, 0, 64, 17) else none) else (bif Nat.beq pc 17 then some (59, 48, 0, 20) else none)) else (bif Nat.blt pc 21 then (bif Nat.beq pc 20 then some (8, 0, 0, 21) else none) else (bif Nat.beq pc 21 then some (33, 102, 0, 24) else none))))) else (bif Nat.blt pc 36 then (bif Nat.blt pc 30 then (bif Nat.blt pc 26 then (bif Nat.blt pc 25 then (bif Nat.beq pc 24 then some (4, 2, 0, 25) else none) else (bif Nat.beq pc 25 then some (64, 0, 0, 26) else none)) else (bif Nat.blt pc 27 then (bif Nat.beq pc 26 then some (8, 0, 0, 27) else none) else (bif Nat.beq pc 27 then some (33, 102, 0, 30) else none))) else (bif Nat.blt pc 32 then (bif Nat.blt pc 31 then (bif Nat.beq pc 30 then some (4, 1, 0, 31) else none) else (bif Nat.beq pc 31 then some (64, 0, 0, 32) else none)) else (bif Nat.blt pc 33 then (bif Nat.beq pc 32 then some (29, 0, 0, 33) else none) else (bif Nat.beq pc 33 then some (55, 40, 0, 36) else none)))) else (bif Nat.blt pc 42 then (bif Nat.blt pc 40 then (bif Nat.blt pc 37 then (bif Nat.beq pc 36 then some (4, 2, 0, 37) else none) else (bif Nat.beq pc 37 then some (32, 41, 0, 40) else none)) else (bif Nat.blt pc 41 then (bif Nat.beq pc 40 then some (4, 1, 0, 41) else none) else (bif Nat.beq pc 41 then some (10, 1, 0, 42) else none))) else (bif Nat.blt pc 48 then (bif Nat.blt pc 45 then (bif Nat.beq pc 42 then some (16, 2, 1, 45) else none) else (bif Nat.beq pc 45 then some (32, 14, 0, 48) else none)) else (bif Nat.blt pc 49 then (bif Nat.beq pc 48 then some (4, 1, 0, 49) else none) else (bif Nat.beq pc 49 then some (83, 0, 0, 50) else none)))))))
def mX8_where : em_Me := ((RX8, yX8_where, cX8_where, 3, (some .int)), iX8_where, fX8, qX8)
theorem rX8_where_0 : em_ckR RX8 cX8_where iX8_where 0 50 = true := by decide +kernel
theorem kX8_where : em_ok mX8_where := em_okM (N := 50) rfl (fun pc hpc q hq => em_ckR_at rX8_where_0 (by omega) (by omega) hq) fX8_ok qX8_ok
theorem tX8_where : em_tV mX8_where 0 8 := ⟨⟨em_in (k := 1204) (by decide +kernel), em_in (k := 10) (by decide +kernel), ⟨by decide +kernel, by decide +kernel⟩, by decide +kernel, by decide +kernel⟩, em_in (k := 1202) (by decide +kernel), _, rfl, em_in (k := 1203) (by decide +kernel)⟩
def iX8_count : Nat → Option (Nat × Nat × Int32 × Nat) := em_tr 166 (fun pc => (bif Nat.blt pc 57 then (bif Nat.blt pc 27 then (bif Nat.blt pc 12 then (bif Nat.blt pc 4 then (bif Nat.blt pc 2 then (bif Nat.blt pc 1 then (bif Nat.beq pc 0 then some (0, 0, 0, 1) else none) else (bif Nat.beq pc 1 then some (10, 2, 0, 2) else none)) else (bif Nat.blt pc 3 then (bif Nat.beq pc 2 then some (0, 0, 0, 3) else none) else (bif Nat.beq pc 3 then some (10, 3, 0, 4) else none))) else (bif Nat.blt pc 8 then (bif Nat.blt pc 5 then (bif Nat.beq pc 4 then some (4, 3, 0, 5) else none) else (bif Nat.beq pc 5 then some (2, 0, 400, 8) else none)) else (bif Nat.blt pc 11 then (bif Nat.beq pc 8 then some (60, 26, 0, 11) else none) else (bif Nat.beq pc 11 then some (4, 2, 0, 12) else none)))) else (bif Nat.blt pc 18 then (bif Nat.blt pc 16 then (bif Nat.blt pc 13 then (bif Nat.beq pc 12 then some (8, 0, 0, 13) else none) else (bif Nat.beq pc 13 then some (33, 41, 0, 16) else none)) else (bif Nat.blt pc 17 then (bif Nat.beq pc 16 then some (4, 3, 0, 17) else none) else (bif Nat.beq pc 17 then some (62, 0, 0, 18) else none))) else (bif Nat.blt pc 20 then (bif Nat.blt pc 19 then (bif Nat.beq pc 18 then some (17, 0, 0, 19) else none) else (bif Nat.beq pc 19 then some (10, 2, 0, 20) else none)) else (bif Nat.blt pc 23 then (bif Nat.beq pc 20 then some (16, 3, 1, 23) else none) else (bif Nat.blt pc 26 then (bif Nat.beq pc 23 then some (32, 4, 0, 26) else none) else (bif Nat.beq pc 26 then some (0, 0, 0, 27) else none)))))) else (bif Nat.blt pc 41 then (bif Nat.blt pc 33 then (bif Nat.blt pc 29 then (bif Nat.blt pc 28 then (bif Nat.beq pc 27 then some (10, 3, 0, 28) else none) else (bif Nat.beq pc 28 then some (0, 0, 0, 29) else none)) else (bif Nat.blt pc 31 then (bif Nat.beq pc 29 then some (11, 4, 0, 31) else none) else (bif Nat.beq pc 31 then some (5, 4, 0, 33) else none))) else (bif Nat.blt pc 37 then (bif Nat.blt pc 34 then (bif Nat.beq pc 33 then some (8, 0, 0, 34) else none) else (bif Nat.beq pc 34 then some (33, 109, 0, 37) else none)) else (bif Nat.blt pc 40 then (bif Nat.beq pc 37 then some (59, 65, 0, 40) else none) else (bif Nat.beq pc 40 then some (4, 3, 0, 41) else none)))) else (bif Nat.blt pc 48 then (bif Nat.blt pc 45 then (bif Nat.blt pc 42 then (bif Nat.beq pc 41 then some (8, 0, 0, 42) else none) else (bif Nat.beq pc 42 then some (33, 29, 0, 45) else none)) else (bif Nat.blt pc 47 then (bif Nat.beq pc 45 then some (5, 4, 0, 47) else none) else (bif Nat.beq pc 47 then some (62, 0, 0, 48) else none))) else (bif Nat.blt pc 52 then (bif Nat.blt pc 49 then (bif Nat.beq pc 48 then some (0, 0, (-1), 49) else none) else (bif Nat.beq pc 49 then some (56, 56, 0, 52) else none)) else (bif Nat.blt pc 53 then (bif Nat.beq pc 52 then some (0, 0, 1, 53) else none) else (bif Nat.blt pc 56 then (bif Nat.beq pc 53 then some (32, 57, 0, 56) else none) else (bif Nat.beq pc 56 then some (0, 0, 0, 57) else none))))))) else (bif Nat.blt pc 140 then (bif Nat.blt pc 125 then (bif Nat.blt pc 65 then (bif Nat.blt pc 59 then (bif Nat.blt pc 58 then (bif Nat.beq pc 57 then some (17, 0, 0, 58) else none) else (bif Nat.beq pc 58 then some (10, 3, 0, 59) else none)) else (bif Nat.blt pc 62 then (bif Nat.beq pc 59 then some (16, 4, 1, 62) else none) else (bif Nat.beq pc 62 then some (32, 31, 0, 65) else none))) else (bif Nat.blt pc 121 then (bif Nat.blt pc 120 then (bif Nat.beq pc 65 then some (4, 1, 0, 66) else none) else (bif Nat.beq pc 120 then some (8, 0, 0, 121) else none)) else (bif Nat.blt pc 124 then (bif Nat.beq pc 121 then some (33, 116, 0, 124) else none) else (bif Nat.beq pc 124 then some (83, 0, 0, 125) else none)))) else (bif Nat.blt pc 131 then (bif Nat.blt pc 129 then (bif Nat.blt pc 126 then (bif Nat.beq pc 125 then some (8, 0, 0, 126) else none) else (bif Nat.beq pc 126 then some (33, 109, 0, 129) else none)) else (bif Nat.blt pc 130 then (bif Nat.beq pc 129 then some (83, 0, 0, 130) else none) else (bif Nat.beq pc 130 then some (8, 0, 0, 131) else none))) else (bif Nat.blt pc 135 then (bif Nat.blt pc 134 then (bif Nat.beq pc 131 then some (81, 240, 0, 134) else none) else (bif Nat.beq pc 134 then some (83, 0, 0, 135) else none)) else (bif Nat.blt pc 136 then (bif Nat.beq pc 135 then some (8, 0, 0, 136) else none) else (bif Nat.blt pc 139 then (bif Nat.beq pc 136 then some (33, 140, 0, 139) else none) else (bif Nat.beq pc 139 then some (83, 0, 0, 140) else none)))))) else (bif Nat.blt pc 153 then (bif Nat.blt pc 146 then (bif Nat.blt pc 142 then (bif Nat.blt pc 141 then (bif Nat.beq pc 140 then some (4, 2, 0, 141) else none) else (bif Nat.beq pc 141 then some (83, 0, 0, 142) else none)) else (bif Nat.blt pc 143 then (bif Nat.beq pc 142 then some (8, 0, 0, 143) else none) else (bif Nat.beq pc 143 then some (33, 158, 0, 146) else none))) else (bif Nat.blt pc 148 then (bif Nat.blt pc 147 then (bif Nat.beq pc 146 then some (83, 0, 0, 147) else none) else (bif Nat.beq pc 147 then some (8, 0, 0, 148) else none)) else (bif Nat.blt pc 151 then (bif Nat.beq pc 148 then some (33, 196, 0, 151) else none) else (bif Nat.blt pc 152 then (bif Nat.beq pc 151 then some (83, 0, 0, 152) else none) else (bif Nat.beq pc 152 then some (8, 0, 0, 153) else none))))) else (bif Nat.blt pc 161 then (bif Nat.blt pc 157 then (bif Nat.blt pc 156 then (bif Nat.beq pc 153 then some (33, 9, 0, 156) else none) else (bif Nat.beq pc 156 then some (83, 0, 0, 157) else none)) else (bif Nat.blt pc 158 then (bif Nat.beq pc 157 then some (8, 0, 0, 158) else none) else (bif Nat.beq pc 158 then some (33, 243, 0, 161) else none))) else (bif Nat.blt pc 163 then (bif Nat.blt pc 162 then (bif Nat.beq pc 161 then some (83, 0, 0, 162) else none) else (bif Nat.beq pc 162 then some (4, 3, 0, 163) else none)) else (bif Nat.blt pc 164 then (bif Nat.beq pc 163 then some (83, 0, 0, 164) else none) else (bif Nat.blt pc 165 then (bif Nat.beq pc 164 then some (0, 0, (-1), 165) else none) else (bif Nat.beq pc 165 then some (83, 0, 0, 166) else none)))))))))
def mX8_count : em_Me := ((RX8, yX8_count, cX8_count, 5, (some .int)), iX8_count, fX8, qX8)
theorem rX8_count_0 : em_ckR RX8 cX8_count iX8_count 0 60 = true := by decide +kernel
theorem rX8_count_1 : em_ckR RX8 cX8_count iX8_count 60 60 = true := by decide +kernel
theorem rX8_count_2 : em_ckR RX8 cX8_count iX8_count 120 46 = true := by decide +kernel
theorem kX8_count : em_ok mX8_count := em_okM (N := 166) rfl (fun pc hpc q hq => if h0 : pc < 60 then em_ckR_at rX8_count_0 (by omega) (by omega) hq else if h1 : pc < 120 then em_ckR_at rX8_count_1 (by omega) (by omega) hq else em_ckR_at rX8_count_2 (by omega) (by omega) hq) fX8_ok qX8_ok
theorem tX8_count : em_tV mX8_count 1 8 := ⟨⟨em_in (k := 1208) (by decide +kernel), em_in (k := 10) (by decide +kernel), ⟨by decide +kernel, by decide +kernel⟩, by decide +kernel, by decide +kernel⟩, em_in (k := 1206) (by decide +kernel), _, rfl, em_in (k := 1207) (by decide +kernel)⟩
def iL_law : Nat → Option (Nat × Nat × Int32 × Nat) := em_tr 1157 (fun pc => (bif Nat.blt pc 639 then (bif Nat.blt pc 389 then (bif Nat.blt pc 265 then (bif Nat.blt pc 203 then (bif Nat.blt pc 176 then (bif Nat.blt pc 20 then (bif Nat.blt pc 12 then (bif Nat.blt pc 7 then (bif Nat.blt pc 3 then (bif Nat.beq pc 0 then some (75, 7, 0, 3) else none) else (bif Nat.blt pc 4 then (bif Nat.beq pc 3 then some (30, 0, 0, 4) else none) else (bif Nat.beq pc 4 then some (82, 9, 0, 7) else none))) else (bif Nat.blt pc 8 then (bif Nat.beq pc 7 then some (14, 1, 0, 8) else none) else (bif Nat.blt pc 11 then (bif Nat.beq pc 8 then some (75, 10, 0, 11) else none) else (bif Nat.beq pc 11 then some (30, 0, 0, 12) else none)))) else (bif Nat.blt pc 17 then (bif Nat.blt pc 15 then (bif Nat.beq pc 12 then some (82, 12, 0, 15) else none) else (bif Nat.blt pc 16 then (bif Nat.beq pc 15 then some (14, 2, 0, 16) else none) else (bif Nat.beq pc 16 then some (0, 0, 0, 17) else none))) else (bif Nat.blt pc 18 then (bif Nat.beq pc 17 then some (10, 3, 0, 18) else none) else (bif Nat.blt pc 19 then (bif Nat.beq pc 18 then some (4, 3, 0, 19) else none) else (bif Nat.beq pc 19 then some (8, 0, 0, 20) else none))))) else (bif Nat.blt pc 29 then (bif Nat.blt pc 24 then (bif Nat.blt pc 21 then (bif Nat.beq pc 20 then some (34, 0, 0, 21) else none) else (bif Nat.blt pc 23 then (bif Nat.beq pc 21 then some (1, 0, 6, 23) else none) else (bif Nat.beq pc 23 then some (18, 0, 0, 24) else none))) else (bif Nat.blt pc 27 then (bif Nat.beq pc 24 then some (60, 1155, 0, 27) else none) else (bif Nat.blt pc 28 then (bif Nat.beq pc 27 then some (8, 0, 0, 28) else none) else (bif Nat.beq pc 28 then some (4, 3, 0, 29) else none)))) else (bif Nat.blt pc 172 then (bif Nat.blt pc 30 then (bif Nat.beq pc 29 then some (62, 0, 0, 30) else none) else (bif Nat.blt pc 32 then (bif Nat.beq pc 30 then some (1, 0, 31, 32) else none) else (bif Nat.beq pc 32 then some (20, 0, 0, 33) else none))) else (bif Nat.blt pc 174 then (bif Nat.blt pc 173 then (bif Nat.beq pc 172 then some (8, 1, 0, 173) else none) else (bif Nat.beq pc 173 then some (8, 0, 0, 174) else none)) else (bif Nat.blt pc 175 then (bif Nat.beq pc 174 then some (4, 3, 0, 175) else none) else (bif Nat.beq pc 175 then some (0, 0, 1, 176) else none)))))) else (bif Nat.blt pc 188 then (bif Nat.blt pc 182 then (bif Nat.blt pc 179 then (bif Nat.blt pc 177 then (bif Nat.beq pc 176 then some (17, 0, 0, 177) else none) else (bif Nat.blt pc 178 then (bif Nat.beq pc 177 then some (62, 0, 0, 178) else none) else (bif Nat.beq pc 178 then some (8, 0, 0, 179) else none))) else (bif Nat.blt pc 180 then (bif Nat.beq pc 179 then some (4, 3, 0, 180) else none) else (bif Nat.blt pc 181 then (bif Nat.beq pc 180 then some (0, 0, 2, 181) else none) else (bif Nat.beq pc 181 then some (17, 0, 0, 182) else none)))) else (bif Nat.blt pc 185 then (bif Nat.blt pc 183 then (bif Nat.beq pc 182 then some (62, 0, 0, 183) else none) else (bif Nat.blt pc 184 then (bif Nat.beq pc 183 then some (8, 0, 0, 184) else none) else (bif Nat.beq pc 184 then some (4, 3, 0, 185) else none))) else (bif Nat.blt pc 186 then (bif Nat.beq pc 185 then some (0, 0, 3, 186) else none) else (bif Nat.blt pc 187 then (bif Nat.beq pc 186 then some (17, 0, 0, 187) else none) else (bif Nat.beq pc 187 then some (62, 0, 0, 188) else none))))) else (bif Nat.blt pc 196 then (bif Nat.blt pc 193 then (bif Nat.blt pc 191 then (bif Nat.beq pc 188 then some (81, 13, 0, 191) else none) else (bif Nat.blt pc 192 then (bif Nat.beq pc 191 then some (8, 2, 0, 192) else none) else (bif Nat.beq pc 192 then some (8, 0, 0, 193) else none))) else (bif Nat.blt pc 194 then (bif Nat.beq pc 193 then some (4, 3, 0, 194) else none) else (bif Nat.blt pc 195 then (bif Nat.beq pc 194 then some (0, 0, 1, 195) else none) else (bif Nat.beq pc 195 then some (17, 0, 0, 196) else none)))) else (bif Nat.blt pc 199 then (bif Nat.blt pc 197 then (bif Nat.beq pc 196 then some (62, 0, 0, 197) else none) else (bif Nat.blt pc 198 then (bif Nat.beq pc 197 then some (8, 0, 0, 198) else none) else (bif Nat.beq pc 198 then some (4, 3, 0, 199) else none))) else (bif Nat.blt pc 201 then (bif Nat.blt pc 200 then (bif Nat.beq pc 199 then some (0, 0, 2, 200) else none) else (bif Nat.beq pc 200 then some (17, 0, 0, 201) else none)) else (bif Nat.blt pc 202 then (bif Nat.beq pc 201 then some (62, 0, 0, 202) else none) else (bif Nat.beq pc 202 then some (8, 0, 0, 203) else none))))))) else (bif Nat.blt pc 234 then (bif Nat.blt pc 219 then (bif Nat.blt pc 213 then (bif Nat.blt pc 206 then (bif Nat.blt pc 204 then (bif Nat.beq pc 203 then some (4, 3, 0, 204) else none) else (bif Nat.blt pc 205 then (bif Nat.beq pc 204 then some (0, 0, 3, 205) else none) else (bif Nat.beq pc 205 then some (17, 0, 0, 206) else none))) else (bif Nat.blt pc 207 then (bif Nat.beq pc 206 then some (62, 0, 0, 207) else none) else (bif Nat.blt pc 210 then (bif Nat.beq pc 207 then some (81, 17, 0, 210) else none) else (bif Nat.beq pc 210 then some (56, 1149, 0, 213) else none)))) else (bif Nat.blt pc 216 then (bif Nat.blt pc 214 then (bif Nat.beq pc 213 then some (0, 0, 0, 214) else none) else (bif Nat.blt pc 215 then (bif Nat.beq pc 214 then some (83, 0, 0, 215) else none) else (bif Nat.beq pc 215 then some (8, 1, 0, 216) else none))) else (bif Nat.blt pc 217 then (bif Nat.beq pc 216 then some (8, 0, 0, 217) else none) else (bif Nat.blt pc 218 then (bif Nat.beq pc 217 then some (4, 3, 0, 218) else none) else (bif Nat.beq pc 218 then some (0, 0, 1, 219) else none))))) else (bif Nat.blt pc 225 then (bif Nat.blt pc 222 then (bif Nat.blt pc 220 then (bif Nat.beq pc 219 then some (17, 0, 0, 220) else none) else (bif Nat.blt pc 221 then (bif Nat.beq pc 220 then some (62, 0, 0, 221) else none) else (bif Nat.beq pc 221 then some (8, 0, 0, 222) else none))) else (bif Nat.blt pc 223 then (bif Nat.beq pc 222 then some (4, 3, 0, 223) else none) else (bif Nat.blt pc 224 then (bif Nat.beq pc 223 then some (0, 0, 2, 224) else none) else (bif Nat.beq pc 224 then some (17, 0, 0, 225) else none)))) else (bif Nat.blt pc 230 then (bif Nat.blt pc 226 then (bif Nat.beq pc 225 then some (62, 0, 0, 226) else none) else (bif Nat.blt pc 229 then (bif Nat.beq pc 226 then some (81, 18, 0, 229) else none) else (bif Nat.beq pc 229 then some (8, 2, 0, 230) else none))) else (bif Nat.blt pc 232 then (bif Nat.blt pc 231 then (bif Nat.beq pc 230 then some (8, 0, 0, 231) else none) else (bif Nat.beq pc 231 then some (4, 3, 0, 232) else none)) else (bif Nat.blt pc 233 then (bif Nat.beq pc 232 then some (0, 0, 1, 233) else none) else (bif Nat.beq pc 233 then some (17, 0, 0, 234) else none)))))) else (bif Nat.blt pc 250 then (bif Nat.blt pc 240 then (bif Nat.blt pc 237 then (bif Nat.blt pc 235 then (bif Nat.beq pc 234 then some (62, 0, 0, 235) else none) else (bif Nat.blt pc 236 then (bif Nat.beq pc 235 then some (8, 0, 0, 236) else none) else (bif Nat.beq pc 236 then some (4, 3, 0, 237) else none))) else (bif Nat.blt pc 238 then (bif Nat.beq pc 237 then some (0, 0, 2, 238) else none) else (bif Nat.blt pc 239 then (bif Nat.beq pc 238 then some (17, 0, 0, 239) else none) else (bif Nat.beq pc 239 then some (62, 0, 0, 240) else none)))) else (bif Nat.blt pc 247 then (bif Nat.blt pc 243 then (bif Nat.beq pc 240 then some (81, 22, 0, 243) else none) else (bif Nat.blt pc 246 then (bif Nat.beq pc 243 then some (56, 1149, 0, 246) else none) else (bif Nat.beq pc 246 then some (0, 0, 0, 247) else none))) else (bif Nat.blt pc 248 then (bif Nat.beq pc 247 then some (83, 0, 0, 248) else none) else (bif Nat.blt pc 249 then (bif Nat.beq pc 248 then some (8, 1, 0, 249) else none) else (bif Nat.beq pc 249 then some (8, 0, 0, 250) else none))))) else (bif Nat.blt pc 256 then (bif Nat.blt pc 253 then (bif Nat.blt pc 251 then (bif Nat.beq pc 250 then some (4, 3, 0, 251) else none) else (bif Nat.blt pc 252 then (bif Nat.beq pc 251 then some (0, 0, 1, 252) else none) else (bif Nat.beq pc 252 then some (17, 0, 0, 253) else none))) else (bif Nat.blt pc 254 then (bif Nat.beq pc 253 then some (62, 0, 0, 254) else none) else (bif Nat.blt pc 255 then (bif Nat.beq pc 254 then some (8, 0, 0, 255) else none) else (bif Nat.beq pc 255 then some (4, 3, 0, 256) else none)))) else (bif Nat.blt pc 259 then (bif Nat.blt pc 257 then (bif Nat.beq pc 256 then some (0, 0, 2, 257) else none) else (bif Nat.blt pc 258 then (bif Nat.beq pc 257 then some (17, 0, 0, 258) else none) else (bif Nat.beq pc 258 then some (62, 0, 0, 259) else none))) else (bif Nat.blt pc 263 then (bif Nat.blt pc 262 then (bif Nat.beq pc 259 then some (81, 23, 0, 262) else none) else (bif Nat.beq pc 262 then some (8, 2, 0, 263) else none)) else (bif Nat.blt pc 264 then (bif Nat.beq pc 263 then some (8, 0, 0, 264) else none) else (bif Nat.beq pc 264 then some (4, 3, 0, 265) else none)))))))) else (bif Nat.blt pc 325 then (bif Nat.blt pc 294 then (bif Nat.blt pc 281 then (bif Nat.blt pc 271 then (bif Nat.blt pc 268 then (bif Nat.blt pc 266 then (bif Nat.beq pc 265 then some (0, 0, 1, 266) else none) else (bif Nat.blt pc 267 then (bif Nat.beq pc 266 then some (17, 0, 0, 267) else none) else (bif Nat.beq pc 267 then some (62, 0, 0, 268) else none))) else (bif Nat.blt pc 269 then (bif Nat.beq pc 268 then some (8, 0, 0, 269) else none) else (bif Nat.blt pc 270 then (bif Nat.beq pc 269 then some (4, 3, 0, 270) else none) else (bif Nat.beq pc 270 then some (0, 0, 2, 271) else none)))) else (bif Nat.blt pc 276 then (bif Nat.blt pc 272 then (bif Nat.beq pc 271 then some (17, 0, 0, 272) else none) else (bif Nat.blt pc 273 then (bif Nat.beq pc 272 then some (62, 0, 0, 273) else none) else (bif Nat.beq pc 273 then some (81, 27, 0, 276) else none))) else (bif Nat.blt pc 279 then (bif Nat.beq pc 276 then some (56, 1149, 0, 279) else none) else (bif Nat.blt pc 280 then (bif Nat.beq pc 279 then some (0, 0, 0, 280) else none) else (bif Nat.beq pc 280 then some (83, 0, 0, 281) else none))))) else (bif Nat.blt pc 287 then (bif Nat.blt pc 284 then (bif Nat.blt pc 282 then (bif Nat.beq pc 281 then some (8, 1, 0, 282) else none) else (bif Nat.blt pc 283 then (bif Nat.beq pc 282 then some (8, 0, 0, 283) else none) else (bif Nat.beq pc 283 then some (4, 3, 0, 284) else none))) else (bif Nat.blt pc 285 then (bif Nat.beq pc 284 then some (0, 0, 1, 285) else none) else (bif Nat.blt pc 286 then (bif Nat.beq pc 285 then some (17, 0, 0, 286) else none) else (bif Nat.beq pc 286 then some (62, 0, 0, 287) else none)))) else (bif Nat.blt pc 290 then (bif Nat.blt pc 288 then (bif Nat.beq pc 287 then some (8, 0, 0, 288) else none) else (bif Nat.blt pc 289 then (bif Nat.beq pc 288 then some (4, 3, 0, 289) else none) else (bif Nat.beq pc 289 then some (0, 0, 2, 290) else none))) else (bif Nat.blt pc 292 then (bif Nat.blt pc 291 then (bif Nat.beq pc 290 then some (17, 0, 0, 291) else none) else (bif Nat.beq pc 291 then some (62, 0, 0, 292) else none)) else (bif Nat.blt pc 293 then (bif Nat.beq pc 292 then some (8, 0, 0, 293) else none) else (bif Nat.beq pc 293 then some (4, 3, 0, 294) else none)))))) else (bif Nat.blt pc 308 then (bif Nat.blt pc 302 then (bif Nat.blt pc 297 then (bif Nat.blt pc 295 then (bif Nat.beq pc 294 then some (0, 0, 3, 295) else none) else (bif Nat.blt pc 296 then (bif Nat.beq pc 295 then some (17, 0, 0, 296) else none) else (bif Nat.beq pc 296 then some (62, 0, 0, 297) else none))) else (bif Nat.blt pc 300 then (bif Nat.beq pc 297 then some (81, 28, 0, 300) else none) else (bif Nat.blt pc 301 then (bif Nat.beq pc 300 then some (8, 2, 0, 301) else none) else (bif Nat.beq pc 301 then some (8, 0, 0, 302) else none)))) else (bif Nat.blt pc 305 then (bif Nat.blt pc 303 then (bif Nat.beq pc 302 then some (4, 3, 0, 303) else none) else (bif Nat.blt pc 304 then (bif Nat.beq pc 303 then some (0, 0, 1, 304) else none) else (bif Nat.beq pc 304 then some (17, 0, 0, 305) else none))) else (bif Nat.blt pc 306 then (bif Nat.beq pc 305 then some (62, 0, 0, 306) else none) else (bif Nat.blt pc 307 then (bif Nat.beq pc 306 then some (8, 0, 0, 307) else none) else (bif Nat.beq pc 307 then some (4, 3, 0, 308) else none))))) else (bif Nat.blt pc 314 then (bif Nat.blt pc 311 then (bif Nat.blt pc 309 then (bif Nat.beq pc 308 then some (0, 0, 2, 309) else none) else (bif Nat.blt pc 310 then (bif Nat.beq pc 309 then some (17, 0, 0, 310) else none) else (bif Nat.beq pc 310 then some (62, 0, 0, 311) else none))) else (bif Nat.blt pc 312 then (bif Nat.beq pc 311 then some (8, 0, 0, 312) else none) else (bif Nat.blt pc 313 then (bif Nat.beq pc 312 then some (4, 3, 0, 313) else none) else (bif Nat.beq pc 313 then some (0, 0, 3, 314) else none)))) else (bif Nat.blt pc 319 then (bif Nat.blt pc 315 then (bif Nat.beq pc 314 then some (17, 0, 0, 315) else none) else (bif Nat.blt pc 316 then (bif Nat.beq pc 315 then some (62, 0, 0, 316) else none) else (bif Nat.beq pc 316 then some (81, 31, 0, 319) else none))) else (bif Nat.blt pc 323 then (bif Nat.blt pc 322 then (bif Nat.beq pc 319 then some (56, 1149, 0, 322) else none) else (bif Nat.beq pc 322 then some (0, 0, 0, 323) else none)) else (bif Nat.blt pc 324 then (bif Nat.beq pc 323 then some (83, 0, 0, 324) else none) else (bif Nat.beq pc 324 then some (8, 1, 0, 325) else none))))))) else (bif Nat.blt pc 356 then (bif Nat.blt pc 339 then (bif Nat.blt pc 331 then (bif Nat.blt pc 328 then (bif Nat.blt pc 326 then (bif Nat.beq pc 325 then some (8, 0, 0, 326) else none) else (bif Nat.blt pc 327 then (bif Nat.beq pc 326 then some (4, 3, 0, 327) else none) else (bif Nat.beq pc 327 then some (0, 0, 1, 328) else none))) else (bif Nat.blt pc 329 then (bif Nat.beq pc 328 then some (17, 0, 0, 329) else none) else (bif Nat.blt pc 330 then (bif Nat.beq pc 329 then some (62, 0, 0, 330) else none) else (bif Nat.beq pc 330 then some (8, 0, 0, 331) else none)))) else (bif Nat.blt pc 334 then (bif Nat.blt pc 332 then (bif Nat.beq pc 331 then some (4, 3, 0, 332) else none) else (bif Nat.blt pc 333 then (bif Nat.beq pc 332 then some (0, 0, 2, 333) else none) else (bif Nat.beq pc 333 then some (17, 0, 0, 334) else none))) else (bif Nat.blt pc 335 then (bif Nat.beq pc 334 then some (62, 0, 0, 335) else none) else (bif Nat.blt pc 338 then (bif Nat.beq pc 335 then some (81, 32, 0, 338) else none) else (bif Nat.beq pc 338 then some (8, 2, 0, 339) else none))))) else (bif Nat.blt pc 345 then (bif Nat.blt pc 342 then (bif Nat.blt pc 340 then (bif Nat.beq pc 339 then some (8, 0, 0, 340) else none) else (bif Nat.blt pc 341 then (bif Nat.beq pc 340 then some (4, 3, 0, 341) else none) else (bif Nat.beq pc 341 then some (0, 0, 1, 342) else none))) else (bif Nat.blt pc 343 then (bif Nat.beq pc 342 then some (17, 0, 0, 343) else none) else (bif Nat.blt pc 344 then (bif Nat.beq pc 343 then some (62, 0, 0, 344) else none) else (bif Nat.beq pc 344 then some (8, 0, 0, 345) else none)))) else (bif Nat.blt pc 348 then (bif Nat.blt pc 346 then (bif Nat.beq pc 345 then some (4, 3, 0, 346) else none) else (bif Nat.blt pc 347 then (bif Nat.beq pc 346 then some (0, 0, 2, 347) else none) else (bif Nat.beq pc 347 then some (17, 0, 0, 348) else none))) else (bif Nat.blt pc 352 then (bif Nat.blt pc 349 then (bif Nat.beq pc 348 then some (62, 0, 0, 349) else none) else (bif Nat.beq pc 349 then some (81, 35, 0, 352) else none)) else (bif Nat.blt pc 355 then (bif Nat.beq pc 352 then some (56, 1149, 0, 355) else none) else (bif Nat.beq pc 355 then some (0, 0, 0, 356) else none)))))) else (bif Nat.blt pc 374 then (bif Nat.blt pc 368 then (bif Nat.blt pc 361 then (bif Nat.blt pc 357 then (bif Nat.beq pc 356 then some (83, 0, 0, 357) else none) else (bif Nat.blt pc 358 then (bif Nat.beq pc 357 then some (8, 1, 0, 358) else none) else (bif Nat.beq pc 358 then some (81, 36, 0, 361) else none))) else (bif Nat.blt pc 362 then (bif Nat.beq pc 361 then some (8, 2, 0, 362) else none) else (bif Nat.blt pc 365 then (bif Nat.beq pc 362 then some (81, 40, 0, 365) else none) else (bif Nat.beq pc 365 then some (56, 1149, 0, 368) else none)))) else (bif Nat.blt pc 371 then (bif Nat.blt pc 369 then (bif Nat.beq pc 368 then some (0, 0, 0, 369) else none) else (bif Nat.blt pc 370 then (bif Nat.beq pc 369 then some (83, 0, 0, 370) else none) else (bif Nat.beq pc 370 then some (8, 1, 0, 371) else none))) else (bif Nat.blt pc 372 then (bif Nat.beq pc 371 then some (8, 0, 0, 372) else none) else (bif Nat.blt pc 373 then (bif Nat.beq pc 372 then some (4, 3, 0, 373) else none) else (bif Nat.beq pc 373 then some (0, 0, 1, 374) else none))))) else (bif Nat.blt pc 380 then (bif Nat.blt pc 377 then (bif Nat.blt pc 375 then (bif Nat.beq pc 374 then some (17, 0, 0, 375) else none) else (bif Nat.blt pc 376 then (bif Nat.beq pc 375 then some (62, 0, 0, 376) else none) else (bif Nat.beq pc 376 then some (8, 0, 0, 377) else none))) else (bif Nat.blt pc 378 then (bif Nat.beq pc 377 then some (4, 3, 0, 378) else none) else (bif Nat.blt pc 379 then (bif Nat.beq pc 378 then some (0, 0, 2, 379) else none) else (bif Nat.beq pc 379 then some (17, 0, 0, 380) else none)))) else (bif Nat.blt pc 385 then (bif Nat.blt pc 381 then (bif Nat.beq pc 380 then some (62, 0, 0, 381) else none) else (bif Nat.blt pc 384 then (bif Nat.beq pc 381 then some (81, 41, 0, 384) else none) else (bif Nat.beq pc 384 then some (8, 2, 0, 385) else none))) else (bif Nat.blt pc 387 then (bif Nat.blt pc 386 then (bif Nat.beq pc 385 then some (8, 0, 0, 386) else none) else (bif Nat.beq pc 386 then some (4, 3, 0, 387) else none)) else (bif Nat.blt pc 388 then (bif Nat.beq pc 387 then some (0, 0, 1, 388) else none) else (bif Nat.beq pc 388 then some (17, 0, 0, 389) else none))))))))) else (bif Nat.blt pc 519 then (bif Nat.blt pc 451 then (bif Nat.blt pc 424 then (bif Nat.blt pc 405 then (bif Nat.blt pc 395 then (bif Nat.blt pc 392 then (bif Nat.blt pc 390 then (bif Nat.beq pc 389 then some (62, 0, 0, 390) else none) else (bif Nat.blt pc 391 then (bif Nat.beq pc 390 then some (8, 0, 0, 391) else none) else (bif Nat.beq pc 391 then some (4, 3, 0, 392) else none))) else (bif Nat.blt pc 393 then (bif Nat.beq pc 392 then some (0, 0, 2, 393) else none) else (bif Nat.blt pc 394 then (bif Nat.beq pc 393 then some (17, 0, 0, 394) else none) else (bif Nat.beq pc 394 then some (62, 0, 0, 395) else none)))) else (bif Nat.blt pc 402 then (bif Nat.blt pc 398 then (bif Nat.beq pc 395 then some (81, 44, 0, 398) else none) else (bif Nat.blt pc 401 then (bif Nat.beq pc 398 then some (56, 1149, 0, 401) else none) else (bif Nat.beq pc 401 then some (0, 0, 0, 402) else none))) else (bif Nat.blt pc 403 then (bif Nat.beq pc 402 then some (83, 0, 0, 403) else none) else (bif Nat.blt pc 404 then (bif Nat.beq pc 403 then some (8, 1, 0, 404) else none) else (bif Nat.beq pc 404 then some (8, 0, 0, 405) else none))))) else (bif Nat.blt pc 413 then (bif Nat.blt pc 408 then (bif Nat.blt pc 406 then (bif Nat.beq pc 405 then some (4, 3, 0, 406) else none) else (bif Nat.blt pc 407 then (bif Nat.beq pc 406 then some (0, 0, 1, 407) else none) else (bif Nat.beq pc 407 then some (17, 0, 0, 408) else none))) else (bif Nat.blt pc 409 then (bif Nat.beq pc 408 then some (62, 0, 0, 409) else none) else (bif Nat.blt pc 412 then (bif Nat.beq pc 409 then some (81, 45, 0, 412) else none) else (bif Nat.beq pc 412 then some (8, 2, 0, 413) else none)))) else (bif Nat.blt pc 416 then (bif Nat.blt pc 414 then (bif Nat.beq pc 413 then some (8, 0, 0, 414) else none) else (bif Nat.blt pc 415 then (bif Nat.beq pc 414 then some (4, 3, 0, 415) else none) else (bif Nat.beq pc 415 then some (0, 0, 1, 416) else none))) else (bif Nat.blt pc 418 then (bif Nat.blt pc 417 then (bif Nat.beq pc 416 then some (17, 0, 0, 417) else none) else (bif Nat.beq pc 417 then some (62, 0, 0, 418) else none)) else (bif Nat.blt pc 421 then (bif Nat.beq pc 418 then some (81, 49, 0, 421) else none) else (bif Nat.beq pc 421 then some (56, 1149, 0, 424) else none)))))) else (bif Nat.blt pc 436 then (bif Nat.blt pc 430 then (bif Nat.blt pc 427 then (bif Nat.blt pc 425 then (bif Nat.beq pc 424 then some (0, 0, 0, 425) else none) else (bif Nat.blt pc 426 then (bif Nat.beq pc 425 then some (83, 0, 0, 426) else none) else (bif Nat.beq pc 426 then some (8, 1, 0, 427) else none))) else (bif Nat.blt pc 428 then (bif Nat.beq pc 427 then some (8, 0, 0, 428) else none) else (bif Nat.blt pc 429 then (bif Nat.beq pc 428 then some (4, 3, 0, 429) else none) else (bif Nat.beq pc 429 then some (0, 0, 1, 430) else none)))) else (bif Nat.blt pc 433 then (bif Nat.blt pc 431 then (bif Nat.beq pc 430 then some (17, 0, 0, 431) else none) else (bif Nat.blt pc 432 then (bif Nat.beq pc 431 then some (62, 0, 0, 432) else none) else (bif Nat.beq pc 432 then some (8, 0, 0, 433) else none))) else (bif Nat.blt pc 434 then (bif Nat.beq pc 433 then some (4, 3, 0, 434) else none) else (bif Nat.blt pc 435 then (bif Nat.beq pc 434 then some (0, 0, 2, 435) else none) else (bif Nat.beq pc 435 then some (17, 0, 0, 436) else none))))) else (bif Nat.blt pc 444 then (bif Nat.blt pc 441 then (bif Nat.blt pc 437 then (bif Nat.beq pc 436 then some (62, 0, 0, 437) else none) else (bif Nat.blt pc 440 then (bif Nat.beq pc 437 then some (81, 50, 0, 440) else none) else (bif Nat.beq pc 440 then some (8, 2, 0, 441) else none))) else (bif Nat.blt pc 442 then (bif Nat.beq pc 441 then some (8, 0, 0, 442) else none) else (bif Nat.blt pc 443 then (bif Nat.beq pc 442 then some (4, 3, 0, 443) else none) else (bif Nat.beq pc 443 then some (0, 0, 1, 444) else none)))) else (bif Nat.blt pc 447 then (bif Nat.blt pc 445 then (bif Nat.beq pc 444 then some (17, 0, 0, 445) else none) else (bif Nat.blt pc 446 then (bif Nat.beq pc 445 then some (62, 0, 0, 446) else none) else (bif Nat.beq pc 446 then some (8, 0, 0, 447) else none))) else (bif Nat.blt pc 449 then (bif Nat.blt pc 448 then (bif Nat.beq pc 447 then some (4, 3, 0, 448) else none) else (bif Nat.beq pc 448 then some (0, 0, 2, 449) else none)) else (bif Nat.blt pc 450 then (bif Nat.beq pc 449 then some (17, 0, 0, 450) else none) else (bif Nat.beq pc 450 then some (62, 0, 0, 451) else none))))))) else (bif Nat.blt pc 486 then (bif Nat.blt pc 467 then (bif Nat.blt pc 461 then (bif Nat.blt pc 458 then (bif Nat.blt pc 454 then (bif Nat.beq pc 451 then some (81, 53, 0, 454) else none) else (bif Nat.blt pc 457 then (bif Nat.beq pc 454 then some (56, 1149, 0, 457) else none) else (bif Nat.beq pc 457 then some (0, 0, 0, 458) else none))) else (bif Nat.blt pc 459 then (bif Nat.beq pc 458 then some (83, 0, 0, 459) else none) else (bif Nat.blt pc 460 then (bif Nat.beq pc 459 then some (8, 1, 0, 460) else none) else (bif Nat.beq pc 460 then some (8, 0, 0, 461) else none)))) else (bif Nat.blt pc 464 then (bif Nat.blt pc 462 then (bif Nat.beq pc 461 then some (4, 3, 0, 462) else none) else (bif Nat.blt pc 463 then (bif Nat.beq pc 462 then some (0, 0, 1, 463) else none) else (bif Nat.beq pc 463 then some (17, 0, 0, 464) else none))) else (bif Nat.blt pc 465 then (bif Nat.beq pc 464 then some (62, 0, 0, 465) else none) else (bif Nat.blt pc 466 then (bif Nat.beq pc 465 then some (8, 0, 0, 466) else none) else (bif Nat.beq pc 466 then some (4, 3, 0, 467) else none))))) else (bif Nat.blt pc 473 then (bif Nat.blt pc 470 then (bif Nat.blt pc 468 then (bif Nat.beq pc 467 then some (0, 0, 2, 468) else none) else (bif Nat.blt pc 469 then (bif Nat.beq pc 468 then some (17, 0, 0, 469) else none) else (bif Nat.beq pc 469 then some (62, 0, 0, 470) else none))) else (bif Nat.blt pc 471 then (bif Nat.beq pc 470 then some (8, 0, 0, 471) else none) else (bif Nat.blt pc 472 then (bif Nat.beq pc 471 then some (4, 3, 0, 472) else none) else (bif Nat.beq pc 472 then some (0, 0, 3, 473) else none)))) else (bif Nat.blt pc 478 then (bif Nat.blt pc 474 then (bif Nat.beq pc 473 then some (17, 0, 0, 474) else none) else (bif Nat.blt pc 475 then (bif Nat.beq pc 474 then some (62, 0, 0, 475) else none) else (bif Nat.beq pc 475 then some (50, 482, 0, 478) else none))) else (bif Nat.blt pc 482 then (bif Nat.blt pc 479 then (bif Nat.beq pc 478 then some (0, 0, 1, 479) else none) else (bif Nat.beq pc 479 then some (32, 483, 0, 482) else none)) else (bif Nat.blt pc 483 then (bif Nat.beq pc 482 then some (0, 0, 0, 483) else none) else (bif Nat.beq pc 483 then some (81, 54, 0, 486) else none)))))) else (bif Nat.blt pc 498 then (bif Nat.blt pc 492 then (bif Nat.blt pc 489 then (bif Nat.blt pc 487 then (bif Nat.beq pc 486 then some (8, 2, 0, 487) else none) else (bif Nat.blt pc 488 then (bif Nat.beq pc 487 then some (8, 0, 0, 488) else none) else (bif Nat.beq pc 488 then some (4, 3, 0, 489) else none))) else (bif Nat.blt pc 490 then (bif Nat.beq pc 489 then some (0, 0, 1, 490) else none) else (bif Nat.blt pc 491 then (bif Nat.beq pc 490 then some (17, 0, 0, 491) else none) else (bif Nat.beq pc 491 then some (62, 0, 0, 492) else none)))) else (bif Nat.blt pc 495 then (bif Nat.blt pc 493 then (bif Nat.beq pc 492 then some (8, 0, 0, 493) else none) else (bif Nat.blt pc 494 then (bif Nat.beq pc 493 then some (4, 3, 0, 494) else none) else (bif Nat.beq pc 494 then some (0, 0, 2, 495) else none))) else (bif Nat.blt pc 496 then (bif Nat.beq pc 495 then some (17, 0, 0, 496) else none) else (bif Nat.blt pc 497 then (bif Nat.beq pc 496 then some (62, 0, 0, 497) else none) else (bif Nat.beq pc 497 then some (8, 0, 0, 498) else none))))) else (bif Nat.blt pc 506 then (bif Nat.blt pc 501 then (bif Nat.blt pc 499 then (bif Nat.beq pc 498 then some (4, 3, 0, 499) else none) else (bif Nat.blt pc 500 then (bif Nat.beq pc 499 then some (0, 0, 3, 500) else none) else (bif Nat.beq pc 500 then some (17, 0, 0, 501) else none))) else (bif Nat.blt pc 502 then (bif Nat.beq pc 501 then some (62, 0, 0, 502) else none) else (bif Nat.blt pc 505 then (bif Nat.beq pc 502 then some (50, 509, 0, 505) else none) else (bif Nat.beq pc 505 then some (0, 0, 1, 506) else none)))) else (bif Nat.blt pc 513 then (bif Nat.blt pc 509 then (bif Nat.beq pc 506 then some (32, 510, 0, 509) else none) else (bif Nat.blt pc 510 then (bif Nat.beq pc 509 then some (0, 0, 0, 510) else none) else (bif Nat.beq pc 510 then some (81, 58, 0, 513) else none))) else (bif Nat.blt pc 517 then (bif Nat.blt pc 516 then (bif Nat.beq pc 513 then some (56, 1149, 0, 516) else none) else (bif Nat.beq pc 516 then some (0, 0, 0, 517) else none)) else (bif Nat.blt pc 518 then (bif Nat.beq pc 517 then some (83, 0, 0, 518) else none) else (bif Nat.beq pc 518 then some (8, 1, 0, 519) else none)))))))) else (bif Nat.blt pc 581 then (bif Nat.blt pc 550 then (bif Nat.blt pc 533 then (bif Nat.blt pc 525 then (bif Nat.blt pc 522 then (bif Nat.blt pc 520 then (bif Nat.beq pc 519 then some (8, 0, 0, 520) else none) else (bif Nat.blt pc 521 then (bif Nat.beq pc 520 then some (4, 3, 0, 521) else none) else (bif Nat.beq pc 521 then some (0, 0, 1, 522) else none))) else (bif Nat.blt pc 523 then (bif Nat.beq pc 522 then some (17, 0, 0, 523) else none) else (bif Nat.blt pc 524 then (bif Nat.beq pc 523 then some (62, 0, 0, 524) else none) else (bif Nat.beq pc 524 then some (8, 0, 0, 525) else none)))) else (bif Nat.blt pc 528 then (bif Nat.blt pc 526 then (bif Nat.beq pc 525 then some (4, 3, 0, 526) else none) else (bif Nat.blt pc 527 then (bif Nat.beq pc 526 then some (0, 0, 2, 527) else none) else (bif Nat.beq pc 527 then some (17, 0, 0, 528) else none))) else (bif Nat.blt pc 529 then (bif Nat.beq pc 528 then some (62, 0, 0, 529) else none) else (bif Nat.blt pc 532 then (bif Nat.beq pc 529 then some (81, 59, 0, 532) else none) else (bif Nat.beq pc 532 then some (8, 2, 0, 533) else none))))) else (bif Nat.blt pc 539 then (bif Nat.blt pc 536 then (bif Nat.blt pc 534 then (bif Nat.beq pc 533 then some (8, 0, 0, 534) else none) else (bif Nat.blt pc 535 then (bif Nat.beq pc 534 then some (4, 3, 0, 535) else none) else (bif Nat.beq pc 535 then some (0, 0, 1, 536) else none))) else (bif Nat.blt pc 537 then (bif Nat.beq pc 536 then some (17, 0, 0, 537) else none) else (bif Nat.blt pc 538 then (bif Nat.beq pc 537 then some (62, 0, 0, 538) else none) else (bif Nat.beq pc 538 then some (8, 0, 0, 539) else none)))) else (bif Nat.blt pc 542 then (bif Nat.blt pc 540 then (bif Nat.beq pc 539 then some (4, 3, 0, 540) else none) else (bif Nat.blt pc 541 then (bif Nat.beq pc 540 then some (0, 0, 2, 541) else none) else (bif Nat.beq pc 541 then some (17, 0, 0, 542) else none))) else (bif Nat.blt pc 546 then (bif Nat.blt pc 543 then (bif Nat.beq pc 542 then some (62, 0, 0, 543) else none) else (bif Nat.beq pc 543 then some (81, 62, 0, 546) else none)) else (bif Nat.blt pc 549 then (bif Nat.beq pc 546 then some (56, 1149, 0, 549) else none) else (bif Nat.beq pc 549 then some (0, 0, 0, 550) else none)))))) else (bif Nat.blt pc 564 then (bif Nat.blt pc 556 then (bif Nat.blt pc 553 then (bif Nat.blt pc 551 then (bif Nat.beq pc 550 then some (83, 0, 0, 551) else none) else (bif Nat.blt pc 552 then (bif Nat.beq pc 551 then some (8, 1, 0, 552) else none) else (bif Nat.beq pc 552 then some (8, 0, 0, 553) else none))) else (bif Nat.blt pc 554 then (bif Nat.beq pc 553 then some (4, 3, 0, 554) else none) else (bif Nat.blt pc 555 then (bif Nat.beq pc 554 then some (0, 0, 1, 555) else none) else (bif Nat.beq pc 555 then some (17, 0, 0, 556) else none)))) else (bif Nat.blt pc 561 then (bif Nat.blt pc 557 then (bif Nat.beq pc 556 then some (62, 0, 0, 557) else none) else (bif Nat.blt pc 560 then (bif Nat.beq pc 557 then some (81, 63, 0, 560) else none) else (bif Nat.beq pc 560 then some (8, 2, 0, 561) else none))) else (bif Nat.blt pc 562 then (bif Nat.beq pc 561 then some (8, 0, 0, 562) else none) else (bif Nat.blt pc 563 then (bif Nat.beq pc 562 then some (4, 3, 0, 563) else none) else (bif Nat.beq pc 563 then some (0, 0, 1, 564) else none))))) else (bif Nat.blt pc 574 then (bif Nat.blt pc 569 then (bif Nat.blt pc 565 then (bif Nat.beq pc 564 then some (17, 0, 0, 565) else none) else (bif Nat.blt pc 566 then (bif Nat.beq pc 565 then some (62, 0, 0, 566) else none) else (bif Nat.beq pc 566 then some (81, 66, 0, 569) else none))) else (bif Nat.blt pc 572 then (bif Nat.beq pc 569 then some (56, 1149, 0, 572) else none) else (bif Nat.blt pc 573 then (bif Nat.beq pc 572 then some (0, 0, 0, 573) else none) else (bif Nat.beq pc 573 then some (83, 0, 0, 574) else none)))) else (bif Nat.blt pc 577 then (bif Nat.blt pc 575 then (bif Nat.beq pc 574 then some (8, 1, 0, 575) else none) else (bif Nat.blt pc 576 then (bif Nat.beq pc 575 then some (8, 0, 0, 576) else none) else (bif Nat.beq pc 576 then some (4, 3, 0, 577) else none))) else (bif Nat.blt pc 579 then (bif Nat.blt pc 578 then (bif Nat.beq pc 577 then some (0, 0, 1, 578) else none) else (bif Nat.beq pc 578 then some (17, 0, 0, 579) else none)) else (bif Nat.blt pc 580 then (bif Nat.beq pc 579 then some (62, 0, 0, 580) else none) else (bif Nat.beq pc 580 then some (8, 0, 0, 581) else none))))))) else (bif Nat.blt pc 608 then (bif Nat.blt pc 595 then (bif Nat.blt pc 587 then (bif Nat.blt pc 584 then (bif Nat.blt pc 582 then (bif Nat.beq pc 581 then some (4, 3, 0, 582) else none) else (bif Nat.blt pc 583 then (bif Nat.beq pc 582 then some (0, 0, 2, 583) else none) else (bif Nat.beq pc 583 then some (17, 0, 0, 584) else none))) else (bif Nat.blt pc 585 then (bif Nat.beq pc 584 then some (62, 0, 0, 585) else none) else (bif Nat.blt pc 586 then (bif Nat.beq pc 585 then some (8, 0, 0, 586) else none) else (bif Nat.beq pc 586 then some (4, 3, 0, 587) else none)))) else (bif Nat.blt pc 590 then (bif Nat.blt pc 588 then (bif Nat.beq pc 587 then some (0, 0, 3, 588) else none) else (bif Nat.blt pc 589 then (bif Nat.beq pc 588 then some (17, 0, 0, 589) else none) else (bif Nat.beq pc 589 then some (62, 0, 0, 590) else none))) else (bif Nat.blt pc 593 then (bif Nat.beq pc 590 then some (81, 67, 0, 593) else none) else (bif Nat.blt pc 594 then (bif Nat.beq pc 593 then some (8, 2, 0, 594) else none) else (bif Nat.beq pc 594 then some (8, 0, 0, 595) else none))))) else (bif Nat.blt pc 601 then (bif Nat.blt pc 598 then (bif Nat.blt pc 596 then (bif Nat.beq pc 595 then some (4, 3, 0, 596) else none) else (bif Nat.blt pc 597 then (bif Nat.beq pc 596 then some (0, 0, 1, 597) else none) else (bif Nat.beq pc 597 then some (17, 0, 0, 598) else none))) else (bif Nat.blt pc 599 then (bif Nat.beq pc 598 then some (62, 0, 0, 599) else none) else (bif Nat.blt pc 600 then (bif Nat.beq pc 599 then some (8, 0, 0, 600) else none) else (bif Nat.beq pc 600 then some (4, 3, 0, 601) else none)))) else (bif Nat.blt pc 604 then (bif Nat.blt pc 602 then (bif Nat.beq pc 601 then some (0, 0, 2, 602) else none) else (bif Nat.blt pc 603 then (bif Nat.beq pc 602 then some (17, 0, 0, 603) else none) else (bif Nat.beq pc 603 then some (62, 0, 0, 604) else none))) else (bif Nat.blt pc 606 then (bif Nat.blt pc 605 then (bif Nat.beq pc 604 then some (8, 0, 0, 605) else none) else (bif Nat.beq pc 605 then some (4, 3, 0, 606) else none)) else (bif Nat.blt pc 607 then (bif Nat.beq pc 606 then some (0, 0, 3, 607) else none) else (bif Nat.beq pc 607 then some (17, 0, 0, 608) else none)))))) else (bif Nat.blt pc 624 then (bif Nat.blt pc 618 then (bif Nat.blt pc 615 then (bif Nat.blt pc 609 then (bif Nat.beq pc 608 then some (62, 0, 0, 609) else none) else (bif Nat.blt pc 612 then (bif Nat.beq pc 609 then some (81, 71, 0, 612) else none) else (bif Nat.beq pc 612 then some (56, 1149, 0, 615) else none))) else (bif Nat.blt pc 616 then (bif Nat.beq pc 615 then some (0, 0, 0, 616) else none) else (bif Nat.blt pc 617 then (bif Nat.beq pc 616 then some (83, 0, 0, 617) else none) else (bif Nat.beq pc 617 then some (8, 1, 0, 618) else none)))) else (bif Nat.blt pc 621 then (bif Nat.blt pc 619 then (bif Nat.beq pc 618 then some (8, 0, 0, 619) else none) else (bif Nat.blt pc 620 then (bif Nat.beq pc 619 then some (4, 3, 0, 620) else none) else (bif Nat.beq pc 620 then some (0, 0, 1, 621) else none))) else (bif Nat.blt pc 622 then (bif Nat.beq pc 621 then some (17, 0, 0, 622) else none) else (bif Nat.blt pc 623 then (bif Nat.beq pc 622 then some (62, 0, 0, 623) else none) else (bif Nat.beq pc 623 then some (8, 0, 0, 624) else none))))) else (bif Nat.blt pc 630 then (bif Nat.blt pc 627 then (bif Nat.blt pc 625 then (bif Nat.beq pc 624 then some (4, 3, 0, 625) else none) else (bif Nat.blt pc 626 then (bif Nat.beq pc 625 then some (0, 0, 2, 626) else none) else (bif Nat.beq pc 626 then some (17, 0, 0, 627) else none))) else (bif Nat.blt pc 628 then (bif Nat.beq pc 627 then some (62, 0, 0, 628) else none) else (bif Nat.blt pc 629 then (bif Nat.beq pc 628 then some (8, 0, 0, 629) else none) else (bif Nat.beq pc 629 then some (4, 3, 0, 630) else none)))) else (bif Nat.blt pc 633 then (bif Nat.blt pc 631 then (bif Nat.beq pc 630 then some (0, 0, 3, 631) else none) else (bif Nat.blt pc 632 then (bif Nat.beq pc 631 then some (17, 0, 0, 632) else none) else (bif Nat.beq pc 632 then some (62, 0, 0, 633) else none))) else (bif Nat.blt pc 637 then (bif Nat.blt pc 636 then (bif Nat.beq pc 633 then some (81, 72, 0, 636) else none) else (bif Nat.beq pc 636 then some (8, 2, 0, 637) else none)) else (bif Nat.blt pc 638 then (bif Nat.beq pc 637 then some (8, 0, 0, 638) else none) else (bif Nat.beq pc 638 then some (4, 3, 0, 639) else none)))))))))) else (bif Nat.blt pc 885 then (bif Nat.blt pc 761 then (bif Nat.blt pc 701 then (bif Nat.blt pc 670 then (bif Nat.blt pc 651 then (bif Nat.blt pc 645 then (bif Nat.blt pc 642 then (bif Nat.blt pc 640 then (bif Nat.beq pc 639 then some (0, 0, 1, 640) else none) else (bif Nat.blt pc 641 then (bif Nat.beq pc 640 then some (17, 0, 0, 641) else none) else (bif Nat.beq pc 641 then some (62, 0, 0, 642) else none))) else (bif Nat.blt pc 643 then (bif Nat.beq pc 642 then some (8, 0, 0, 643) else none) else (bif Nat.blt pc 644 then (bif Nat.beq pc 643 then some (4, 3, 0, 644) else none) else (bif Nat.beq pc 644 then some (0, 0, 2, 645) else none)))) else (bif Nat.blt pc 648 then (bif Nat.blt pc 646 then (bif Nat.beq pc 645 then some (17, 0, 0, 646) else none) else (bif Nat.blt pc 647 then (bif Nat.beq pc 646 then some (62, 0, 0, 647) else none) else (bif Nat.beq pc 647 then some (8, 0, 0, 648) else none))) else (bif Nat.blt pc 649 then (bif Nat.beq pc 648 then some (4, 3, 0, 649) else none) else (bif Nat.blt pc 650 then (bif Nat.beq pc 649 then some (0, 0, 3, 650) else none) else (bif Nat.beq pc 650 then some (17, 0, 0, 651) else none))))) else (bif Nat.blt pc 661 then (bif Nat.blt pc 658 then (bif Nat.blt pc 652 then (bif Nat.beq pc 651 then some (62, 0, 0, 652) else none) else (bif Nat.blt pc 655 then (bif Nat.beq pc 652 then some (81, 75, 0, 655) else none) else (bif Nat.beq pc 655 then some (56, 1149, 0, 658) else none))) else (bif Nat.blt pc 659 then (bif Nat.beq pc 658 then some (0, 0, 0, 659) else none) else (bif Nat.blt pc 660 then (bif Nat.beq pc 659 then some (83, 0, 0, 660) else none) else (bif Nat.beq pc 660 then some (8, 1, 0, 661) else none)))) else (bif Nat.blt pc 664 then (bif Nat.blt pc 662 then (bif Nat.beq pc 661 then some (8, 0, 0, 662) else none) else (bif Nat.blt pc 663 then (bif Nat.beq pc 662 then some (4, 3, 0, 663) else none) else (bif Nat.beq pc 663 then some (0, 0, 1, 664) else none))) else (bif Nat.blt pc 666 then (bif Nat.blt pc 665 then (bif Nat.beq pc 664 then some (17, 0, 0, 665) else none) else (bif Nat.beq pc 665 then some (62, 0, 0, 666) else none)) else (bif Nat.blt pc 669 then (bif Nat.beq pc 666 then some (81, 76, 0, 669) else none) else (bif Nat.beq pc 669 then some (8, 2, 0, 670) else none)))))) else (bif Nat.blt pc 686 then (bif Nat.blt pc 678 then (bif Nat.blt pc 673 then (bif Nat.blt pc 671 then (bif Nat.beq pc 670 then some (8, 0, 0, 671) else none) else (bif Nat.blt pc 672 then (bif Nat.beq pc 671 then some (4, 3, 0, 672) else none) else (bif Nat.beq pc 672 then some (0, 0, 1, 673) else none))) else (bif Nat.blt pc 674 then (bif Nat.beq pc 673 then some (17, 0, 0, 674) else none) else (bif Nat.blt pc 675 then (bif Nat.beq pc 674 then some (62, 0, 0, 675) else none) else (bif Nat.beq pc 675 then some (81, 80, 0, 678) else none)))) else (bif Nat.blt pc 683 then (bif Nat.blt pc 681 then (bif Nat.beq pc 678 then some (56, 1149, 0, 681) else none) else (bif Nat.blt pc 682 then (bif Nat.beq pc 681 then some (0, 0, 0, 682) else none) else (bif Nat.beq pc 682 then some (83, 0, 0, 683) else none))) else (bif Nat.blt pc 684 then (bif Nat.beq pc 683 then some (8, 1, 0, 684) else none) else (bif Nat.blt pc 685 then (bif Nat.beq pc 684 then some (8, 0, 0, 685) else none) else (bif Nat.beq pc 685 then some (4, 3, 0, 686) else none))))) else (bif Nat.blt pc 692 then (bif Nat.blt pc 689 then (bif Nat.blt pc 687 then (bif Nat.beq pc 686 then some (0, 0, 1, 687) else none) else (bif Nat.blt pc 688 then (bif Nat.beq pc 687 then some (17, 0, 0, 688) else none) else (bif Nat.beq pc 688 then some (62, 0, 0, 689) else none))) else (bif Nat.blt pc 690 then (bif Nat.beq pc 689 then some (8, 0, 0, 690) else none) else (bif Nat.blt pc 691 then (bif Nat.beq pc 690 then some (4, 3, 0, 691) else none) else (bif Nat.beq pc 691 then some (0, 0, 2, 692) else none)))) else (bif Nat.blt pc 697 then (bif Nat.blt pc 693 then (bif Nat.beq pc 692 then some (17, 0, 0, 693) else none) else (bif Nat.blt pc 694 then (bif Nat.beq pc 693 then some (62, 0, 0, 694) else none) else (bif Nat.beq pc 694 then some (81, 81, 0, 697) else none))) else (bif Nat.blt pc 699 then (bif Nat.blt pc 698 then (bif Nat.beq pc 697 then some (8, 2, 0, 698) else none) else (bif Nat.beq pc 698 then some (8, 0, 0, 699) else none)) else (bif Nat.blt pc 700 then (bif Nat.beq pc 699 then some (4, 3, 0, 700) else none) else (bif Nat.beq pc 700 then some (0, 0, 1, 701) else none))))))) else (bif Nat.blt pc 730 then (bif Nat.blt pc 717 then (bif Nat.blt pc 707 then (bif Nat.blt pc 704 then (bif Nat.blt pc 702 then (bif Nat.beq pc 701 then some (17, 0, 0, 702) else none) else (bif Nat.blt pc 703 then (bif Nat.beq pc 702 then some (62, 0, 0, 703) else none) else (bif Nat.beq pc 703 then some (8, 0, 0, 704) else none))) else (bif Nat.blt pc 705 then (bif Nat.beq pc 704 then some (4, 3, 0, 705) else none) else (bif Nat.blt pc 706 then (bif Nat.beq pc 705 then some (0, 0, 2, 706) else none) else (bif Nat.beq pc 706 then some (17, 0, 0, 707) else none)))) else (bif Nat.blt pc 714 then (bif Nat.blt pc 708 then (bif Nat.beq pc 707 then some (62, 0, 0, 708) else none) else (bif Nat.blt pc 711 then (bif Nat.beq pc 708 then some (81, 84, 0, 711) else none) else (bif Nat.beq pc 711 then some (56, 1149, 0, 714) else none))) else (bif Nat.blt pc 715 then (bif Nat.beq pc 714 then some (0, 0, 0, 715) else none) else (bif Nat.blt pc 716 then (bif Nat.beq pc 715 then some (83, 0, 0, 716) else none) else (bif Nat.beq pc 716 then some (8, 1, 0, 717) else none))))) else (bif Nat.blt pc 723 then (bif Nat.blt pc 720 then (bif Nat.blt pc 718 then (bif Nat.beq pc 717 then some (8, 0, 0, 718) else none) else (bif Nat.blt pc 719 then (bif Nat.beq pc 718 then some (4, 3, 0, 719) else none) else (bif Nat.beq pc 719 then some (0, 0, 1, 720) else none))) else (bif Nat.blt pc 721 then (bif Nat.beq pc 720 then some (17, 0, 0, 721) else none) else (bif Nat.blt pc 722 then (bif Nat.beq pc 721 then some (62, 0, 0, 722) else none) else (bif Nat.beq pc 722 then some (8, 0, 0, 723) else none)))) else (bif Nat.blt pc 726 then (bif Nat.blt pc 724 then (bif Nat.beq pc 723 then some (4, 3, 0, 724) else none) else (bif Nat.blt pc 725 then (bif Nat.beq pc 724 then some (0, 0, 2, 725) else none) else (bif Nat.beq pc 725 then some (17, 0, 0, 726) else none))) else (bif Nat.blt pc 728 then (bif Nat.blt pc 727 then (bif Nat.beq pc 726 then some (62, 0, 0, 727) else none) else (bif Nat.beq pc 727 then some (8, 0, 0, 728) else none)) else (bif Nat.blt pc 729 then (bif Nat.beq pc 728 then some (4, 3, 0, 729) else none) else (bif Nat.beq pc 729 then some (0, 0, 3, 730) else none)))))) else (bif Nat.blt pc 744 then (bif Nat.blt pc 738 then (bif Nat.blt pc 735 then (bif Nat.blt pc 731 then (bif Nat.beq pc 730 then some (17, 0, 0, 731) else none) else (bif Nat.blt pc 732 then (bif Nat.beq pc 731 then some (62, 0, 0, 732) else none) else (bif Nat.beq pc 732 then some (81, 85, 0, 735) else none))) else (bif Nat.blt pc 736 then (bif Nat.beq pc 735 then some (8, 2, 0, 736) else none) else (bif Nat.blt pc 737 then (bif Nat.beq pc 736 then some (8, 0, 0, 737) else none) else (bif Nat.beq pc 737 then some (4, 3, 0, 738) else none)))) else (bif Nat.blt pc 741 then (bif Nat.blt pc 739 then (bif Nat.beq pc 738 then some (0, 0, 1, 739) else none) else (bif Nat.blt pc 740 then (bif Nat.beq pc 739 then some (17, 0, 0, 740) else none) else (bif Nat.beq pc 740 then some (62, 0, 0, 741) else none))) else (bif Nat.blt pc 742 then (bif Nat.beq pc 741 then some (8, 0, 0, 742) else none) else (bif Nat.blt pc 743 then (bif Nat.beq pc 742 then some (4, 3, 0, 743) else none) else (bif Nat.beq pc 743 then some (0, 0, 2, 744) else none))))) else (bif Nat.blt pc 750 then (bif Nat.blt pc 747 then (bif Nat.blt pc 745 then (bif Nat.beq pc 744 then some (17, 0, 0, 745) else none) else (bif Nat.blt pc 746 then (bif Nat.beq pc 745 then some (62, 0, 0, 746) else none) else (bif Nat.beq pc 746 then some (8, 0, 0, 747) else none))) else (bif Nat.blt pc 748 then (bif Nat.beq pc 747 then some (4, 3, 0, 748) else none) else (bif Nat.blt pc 749 then (bif Nat.beq pc 748 then some (0, 0, 3, 749) else none) else (bif Nat.beq pc 749 then some (17, 0, 0, 750) else none)))) else (bif Nat.blt pc 757 then (bif Nat.blt pc 751 then (bif Nat.beq pc 750 then some (62, 0, 0, 751) else none) else (bif Nat.blt pc 754 then (bif Nat.beq pc 751 then some (81, 88, 0, 754) else none) else (bif Nat.beq pc 754 then some (56, 1149, 0, 757) else none))) else (bif Nat.blt pc 759 then (bif Nat.blt pc 758 then (bif Nat.beq pc 757 then some (0, 0, 0, 758) else none) else (bif Nat.beq pc 758 then some (83, 0, 0, 759) else none)) else (bif Nat.blt pc 760 then (bif Nat.beq pc 759 then some (8, 1, 0, 760) else none) else (bif Nat.beq pc 760 then some (8, 0, 0, 761) else none)))))))) else (bif Nat.blt pc 813 then (bif Nat.blt pc 788 then (bif Nat.blt pc 773 then (bif Nat.blt pc 767 then (bif Nat.blt pc 764 then (bif Nat.blt pc 762 then (bif Nat.beq pc 761 then some (4, 3, 0, 762) else none) else (bif Nat.blt pc 763 then (bif Nat.beq pc 762 then some (0, 0, 1, 763) else none) else (bif Nat.beq pc 763 then some (17, 0, 0, 764) else none))) else (bif Nat.blt pc 765 then (bif Nat.beq pc 764 then some (62, 0, 0, 765) else none) else (bif Nat.blt pc 766 then (bif Nat.beq pc 765 then some (8, 0, 0, 766) else none) else (bif Nat.beq pc 766 then some (4, 3, 0, 767) else none)))) else (bif Nat.blt pc 770 then (bif Nat.blt pc 768 then (bif Nat.beq pc 767 then some (0, 0, 2, 768) else none) else (bif Nat.blt pc 769 then (bif Nat.beq pc 768 then some (17, 0, 0, 769) else none) else (bif Nat.beq pc 769 then some (62, 0, 0, 770) else none))) else (bif Nat.blt pc 771 then (bif Nat.beq pc 770 then some (8, 0, 0, 771) else none) else (bif Nat.blt pc 772 then (bif Nat.beq pc 771 then some (4, 3, 0, 772) else none) else (bif Nat.beq pc 772 then some (0, 0, 3, 773) else none))))) else (bif Nat.blt pc 779 then (bif Nat.blt pc 776 then (bif Nat.blt pc 774 then (bif Nat.beq pc 773 then some (17, 0, 0, 774) else none) else (bif Nat.blt pc 775 then (bif Nat.beq pc 774 then some (62, 0, 0, 775) else none) else (bif Nat.beq pc 775 then some (8, 0, 0, 776) else none))) else (bif Nat.blt pc 777 then (bif Nat.beq pc 776 then some (4, 3, 0, 777) else none) else (bif Nat.blt pc 778 then (bif Nat.beq pc 777 then some (0, 0, 4, 778) else none) else (bif Nat.beq pc 778 then some (17, 0, 0, 779) else none)))) else (bif Nat.blt pc 782 then (bif Nat.blt pc 780 then (bif Nat.beq pc 779 then some (62, 0, 0, 780) else none) else (bif Nat.blt pc 781 then (bif Nat.beq pc 780 then some (8, 0, 0, 781) else none) else (bif Nat.beq pc 781 then some (4, 3, 0, 782) else none))) else (bif Nat.blt pc 784 then (bif Nat.blt pc 783 then (bif Nat.beq pc 782 then some (0, 0, 5, 783) else none) else (bif Nat.beq pc 783 then some (17, 0, 0, 784) else none)) else (bif Nat.blt pc 785 then (bif Nat.beq pc 784 then some (62, 0, 0, 785) else none) else (bif Nat.beq pc 785 then some (81, 89, 0, 788) else none)))))) else (bif Nat.blt pc 800 then (bif Nat.blt pc 794 then (bif Nat.blt pc 791 then (bif Nat.blt pc 789 then (bif Nat.beq pc 788 then some (8, 2, 0, 789) else none) else (bif Nat.blt pc 790 then (bif Nat.beq pc 789 then some (8, 0, 0, 790) else none) else (bif Nat.beq pc 790 then some (4, 3, 0, 791) else none))) else (bif Nat.blt pc 792 then (bif Nat.beq pc 791 then some (0, 0, 1, 792) else none) else (bif Nat.blt pc 793 then (bif Nat.beq pc 792 then some (17, 0, 0, 793) else none) else (bif Nat.beq pc 793 then some (62, 0, 0, 794) else none)))) else (bif Nat.blt pc 797 then (bif Nat.blt pc 795 then (bif Nat.beq pc 794 then some (8, 0, 0, 795) else none) else (bif Nat.blt pc 796 then (bif Nat.beq pc 795 then some (4, 3, 0, 796) else none) else (bif Nat.beq pc 796 then some (0, 0, 2, 797) else none))) else (bif Nat.blt pc 798 then (bif Nat.beq pc 797 then some (17, 0, 0, 798) else none) else (bif Nat.blt pc 799 then (bif Nat.beq pc 798 then some (62, 0, 0, 799) else none) else (bif Nat.beq pc 799 then some (8, 0, 0, 800) else none))))) else (bif Nat.blt pc 806 then (bif Nat.blt pc 803 then (bif Nat.blt pc 801 then (bif Nat.beq pc 800 then some (4, 3, 0, 801) else none) else (bif Nat.blt pc 802 then (bif Nat.beq pc 801 then some (0, 0, 3, 802) else none) else (bif Nat.beq pc 802 then some (17, 0, 0, 803) else none))) else (bif Nat.blt pc 804 then (bif Nat.beq pc 803 then some (62, 0, 0, 804) else none) else (bif Nat.blt pc 805 then (bif Nat.beq pc 804 then some (8, 0, 0, 805) else none) else (bif Nat.beq pc 805 then some (4, 3, 0, 806) else none)))) else (bif Nat.blt pc 809 then (bif Nat.blt pc 807 then (bif Nat.beq pc 806 then some (0, 0, 4, 807) else none) else (bif Nat.blt pc 808 then (bif Nat.beq pc 807 then some (17, 0, 0, 808) else none) else (bif Nat.beq pc 808 then some (62, 0, 0, 809) else none))) else (bif Nat.blt pc 811 then (bif Nat.blt pc 810 then (bif Nat.beq pc 809 then some (8, 0, 0, 810) else none) else (bif Nat.beq pc 810 then some (4, 3, 0, 811) else none)) else (bif Nat.blt pc 812 then (bif Nat.beq pc 811 then some (0, 0, 5, 812) else none) else (bif Nat.beq pc 812 then some (17, 0, 0, 813) else none))))))) else (bif Nat.blt pc 850 then (bif Nat.blt pc 831 then (bif Nat.blt pc 823 then (bif Nat.blt pc 820 then (bif Nat.blt pc 814 then (bif Nat.beq pc 813 then some (62, 0, 0, 814) else none) else (bif Nat.blt pc 817 then (bif Nat.beq pc 814 then some (81, 93, 0, 817) else none) else (bif Nat.beq pc 817 then some (56, 1149, 0, 820) else none))) else (bif Nat.blt pc 821 then (bif Nat.beq pc 820 then some (0, 0, 0, 821) else none) else (bif Nat.blt pc 822 then (bif Nat.beq pc 821 then some (83, 0, 0, 822) else none) else (bif Nat.beq pc 822 then some (8, 1, 0, 823) else none)))) else (bif Nat.blt pc 826 then (bif Nat.blt pc 824 then (bif Nat.beq pc 823 then some (8, 0, 0, 824) else none) else (bif Nat.blt pc 825 then (bif Nat.beq pc 824 then some (4, 3, 0, 825) else none) else (bif Nat.beq pc 825 then some (0, 0, 1, 826) else none))) else (bif Nat.blt pc 827 then (bif Nat.beq pc 826 then some (17, 0, 0, 827) else none) else (bif Nat.blt pc 828 then (bif Nat.beq pc 827 then some (62, 0, 0, 828) else none) else (bif Nat.beq pc 828 then some (81, 94, 0, 831) else none))))) else (bif Nat.blt pc 837 then (bif Nat.blt pc 834 then (bif Nat.blt pc 832 then (bif Nat.beq pc 831 then some (8, 2, 0, 832) else none) else (bif Nat.blt pc 833 then (bif Nat.beq pc 832 then some (8, 0, 0, 833) else none) else (bif Nat.beq pc 833 then some (4, 3, 0, 834) else none))) else (bif Nat.blt pc 835 then (bif Nat.beq pc 834 then some (0, 0, 1, 835) else none) else (bif Nat.blt pc 836 then (bif Nat.beq pc 835 then some (17, 0, 0, 836) else none) else (bif Nat.beq pc 836 then some (62, 0, 0, 837) else none)))) else (bif Nat.blt pc 844 then (bif Nat.blt pc 840 then (bif Nat.beq pc 837 then some (81, 97, 0, 840) else none) else (bif Nat.blt pc 843 then (bif Nat.beq pc 840 then some (56, 1149, 0, 843) else none) else (bif Nat.beq pc 843 then some (0, 0, 0, 844) else none))) else (bif Nat.blt pc 846 then (bif Nat.blt pc 845 then (bif Nat.beq pc 844 then some (83, 0, 0, 845) else none) else (bif Nat.beq pc 845 then some (8, 1, 0, 846) else none)) else (bif Nat.blt pc 849 then (bif Nat.beq pc 846 then some (81, 98, 0, 849) else none) else (bif Nat.beq pc 849 then some (8, 2, 0, 850) else none)))))) else (bif Nat.blt pc 868 then (bif Nat.blt pc 860 then (bif Nat.blt pc 857 then (bif Nat.blt pc 853 then (bif Nat.beq pc 850 then some (81, 101, 0, 853) else none) else (bif Nat.blt pc 856 then (bif Nat.beq pc 853 then some (56, 1149, 0, 856) else none) else (bif Nat.beq pc 856 then some (0, 0, 0, 857) else none))) else (bif Nat.blt pc 858 then (bif Nat.beq pc 857 then some (83, 0, 0, 858) else none) else (bif Nat.blt pc 859 then (bif Nat.beq pc 858 then some (8, 1, 0, 859) else none) else (bif Nat.beq pc 859 then some (8, 0, 0, 860) else none)))) else (bif Nat.blt pc 863 then (bif Nat.blt pc 861 then (bif Nat.beq pc 860 then some (4, 3, 0, 861) else none) else (bif Nat.blt pc 862 then (bif Nat.beq pc 861 then some (0, 0, 1, 862) else none) else (bif Nat.beq pc 862 then some (17, 0, 0, 863) else none))) else (bif Nat.blt pc 864 then (bif Nat.beq pc 863 then some (62, 0, 0, 864) else none) else (bif Nat.blt pc 867 then (bif Nat.beq pc 864 then some (81, 102, 0, 867) else none) else (bif Nat.beq pc 867 then some (8, 2, 0, 868) else none))))) else (bif Nat.blt pc 876 then (bif Nat.blt pc 871 then (bif Nat.blt pc 869 then (bif Nat.beq pc 868 then some (8, 0, 0, 869) else none) else (bif Nat.blt pc 870 then (bif Nat.beq pc 869 then some (4, 3, 0, 870) else none) else (bif Nat.beq pc 870 then some (0, 0, 1, 871) else none))) else (bif Nat.blt pc 872 then (bif Nat.beq pc 871 then some (17, 0, 0, 872) else none) else (bif Nat.blt pc 873 then (bif Nat.beq pc 872 then some (62, 0, 0, 873) else none) else (bif Nat.beq pc 873 then some (81, 105, 0, 876) else none)))) else (bif Nat.blt pc 881 then (bif Nat.blt pc 879 then (bif Nat.beq pc 876 then some (56, 1149, 0, 879) else none) else (bif Nat.blt pc 880 then (bif Nat.beq pc 879 then some (0, 0, 0, 880) else none) else (bif Nat.beq pc 880 then some (83, 0, 0, 881) else none))) else (bif Nat.blt pc 883 then (bif Nat.blt pc 882 then (bif Nat.beq pc 881 then some (8, 1, 0, 882) else none) else (bif Nat.beq pc 882 then some (8, 0, 0, 883) else none)) else (bif Nat.blt pc 884 then (bif Nat.beq pc 883 then some (4, 3, 0, 884) else none) else (bif Nat.beq pc 884 then some (0, 0, 1, 885) else none))))))))) else (bif Nat.blt pc 1017 then (bif Nat.blt pc 947 then (bif Nat.blt pc 916 then (bif Nat.blt pc 899 then (bif Nat.blt pc 891 then (bif Nat.blt pc 888 then (bif Nat.blt pc 886 then (bif Nat.beq pc 885 then some (17, 0, 0, 886) else none) else (bif Nat.blt pc 887 then (bif Nat.beq pc 886 then some (62, 0, 0, 887) else none) else (bif Nat.beq pc 887 then some (8, 0, 0, 888) else none))) else (bif Nat.blt pc 889 then (bif Nat.beq pc 888 then some (4, 3, 0, 889) else none) else (bif Nat.blt pc 890 then (bif Nat.beq pc 889 then some (0, 0, 2, 890) else none) else (bif Nat.beq pc 890 then some (17, 0, 0, 891) else none)))) else (bif Nat.blt pc 896 then (bif Nat.blt pc 892 then (bif Nat.beq pc 891 then some (62, 0, 0, 892) else none) else (bif Nat.blt pc 895 then (bif Nat.beq pc 892 then some (81, 106, 0, 895) else none) else (bif Nat.beq pc 895 then some (8, 2, 0, 896) else none))) else (bif Nat.blt pc 897 then (bif Nat.beq pc 896 then some (8, 0, 0, 897) else none) else (bif Nat.blt pc 898 then (bif Nat.beq pc 897 then some (4, 3, 0, 898) else none) else (bif Nat.beq pc 898 then some (0, 0, 1, 899) else none))))) else (bif Nat.blt pc 905 then (bif Nat.blt pc 902 then (bif Nat.blt pc 900 then (bif Nat.beq pc 899 then some (17, 0, 0, 900) else none) else (bif Nat.blt pc 901 then (bif Nat.beq pc 900 then some (62, 0, 0, 901) else none) else (bif Nat.beq pc 901 then some (8, 0, 0, 902) else none))) else (bif Nat.blt pc 903 then (bif Nat.beq pc 902 then some (4, 3, 0, 903) else none) else (bif Nat.blt pc 904 then (bif Nat.beq pc 903 then some (0, 0, 2, 904) else none) else (bif Nat.beq pc 904 then some (17, 0, 0, 905) else none)))) else (bif Nat.blt pc 912 then (bif Nat.blt pc 906 then (bif Nat.beq pc 905 then some (62, 0, 0, 906) else none) else (bif Nat.blt pc 909 then (bif Nat.beq pc 906 then some (81, 109, 0, 909) else none) else (bif Nat.beq pc 909 then some (56, 1149, 0, 912) else none))) else (bif Nat.blt pc 914 then (bif Nat.blt pc 913 then (bif Nat.beq pc 912 then some (0, 0, 0, 913) else none) else (bif Nat.beq pc 913 then some (83, 0, 0, 914) else none)) else (bif Nat.blt pc 915 then (bif Nat.beq pc 914 then some (8, 1, 0, 915) else none) else (bif Nat.beq pc 915 then some (8, 0, 0, 916) else none)))))) else (bif Nat.blt pc 932 then (bif Nat.blt pc 924 then (bif Nat.blt pc 919 then (bif Nat.blt pc 917 then (bif Nat.beq pc 916 then some (4, 3, 0, 917) else none) else (bif Nat.blt pc 918 then (bif Nat.beq pc 917 then some (0, 0, 1, 918) else none) else (bif Nat.beq pc 918 then some (17, 0, 0, 919) else none))) else (bif Nat.blt pc 920 then (bif Nat.beq pc 919 then some (62, 0, 0, 920) else none) else (bif Nat.blt pc 923 then (bif Nat.beq pc 920 then some (81, 110, 0, 923) else none) else (bif Nat.beq pc 923 then some (8, 2, 0, 924) else none)))) else (bif Nat.blt pc 927 then (bif Nat.blt pc 925 then (bif Nat.beq pc 924 then some (8, 0, 0, 925) else none) else (bif Nat.blt pc 926 then (bif Nat.beq pc 925 then some (4, 3, 0, 926) else none) else (bif Nat.beq pc 926 then some (0, 0, 1, 927) else none))) else (bif Nat.blt pc 928 then (bif Nat.beq pc 927 then some (17, 0, 0, 928) else none) else (bif Nat.blt pc 929 then (bif Nat.beq pc 928 then some (62, 0, 0, 929) else none) else (bif Nat.beq pc 929 then some (81, 113, 0, 932) else none))))) else (bif Nat.blt pc 940 then (bif Nat.blt pc 937 then (bif Nat.blt pc 935 then (bif Nat.beq pc 932 then some (56, 1149, 0, 935) else none) else (bif Nat.blt pc 936 then (bif Nat.beq pc 935 then some (0, 0, 0, 936) else none) else (bif Nat.beq pc 936 then some (83, 0, 0, 937) else none))) else (bif Nat.blt pc 938 then (bif Nat.beq pc 937 then some (8, 1, 0, 938) else none) else (bif Nat.blt pc 939 then (bif Nat.beq pc 938 then some (8, 0, 0, 939) else none) else (bif Nat.beq pc 939 then some (4, 3, 0, 940) else none)))) else (bif Nat.blt pc 943 then (bif Nat.blt pc 941 then (bif Nat.beq pc 940 then some (0, 0, 1, 941) else none) else (bif Nat.blt pc 942 then (bif Nat.beq pc 941 then some (17, 0, 0, 942) else none) else (bif Nat.beq pc 942 then some (62, 0, 0, 943) else none))) else (bif Nat.blt pc 945 then (bif Nat.blt pc 944 then (bif Nat.beq pc 943 then some (8, 0, 0, 944) else none) else (bif Nat.beq pc 944 then some (4, 3, 0, 945) else none)) else (bif Nat.blt pc 946 then (bif Nat.beq pc 945 then some (0, 0, 2, 946) else none) else (bif Nat.beq pc 946 then some (17, 0, 0, 947) else none))))))) else (bif Nat.blt pc 986 then (bif Nat.blt pc 965 then (bif Nat.blt pc 959 then (bif Nat.blt pc 952 then (bif Nat.blt pc 948 then (bif Nat.beq pc 947 then some (62, 0, 0, 948) else none) else (bif Nat.blt pc 951 then (bif Nat.beq pc 948 then some (50, 955, 0, 951) else none) else (bif Nat.beq pc 951 then some (0, 0, 1, 952) else none))) else (bif Nat.blt pc 955 then (bif Nat.beq pc 952 then some (32, 956, 0, 955) else none) else (bif Nat.blt pc 956 then (bif Nat.beq pc 955 then some (0, 0, 0, 956) else none) else (bif Nat.beq pc 956 then some (81, 114, 0, 959) else none)))) else (bif Nat.blt pc 962 then (bif Nat.blt pc 960 then (bif Nat.beq pc 959 then some (8, 2, 0, 960) else none) else (bif Nat.blt pc 961 then (bif Nat.beq pc 960 then some (8, 0, 0, 961) else none) else (bif Nat.beq pc 961 then some (4, 3, 0, 962) else none))) else (bif Nat.blt pc 963 then (bif Nat.beq pc 962 then some (0, 0, 1, 963) else none) else (bif Nat.blt pc 964 then (bif Nat.beq pc 963 then some (17, 0, 0, 964) else none) else (bif Nat.beq pc 964 then some (62, 0, 0, 965) else none))))) else (bif Nat.blt pc 973 then (bif Nat.blt pc 968 then (bif Nat.blt pc 966 then (bif Nat.beq pc 965 then some (8, 0, 0, 966) else none) else (bif Nat.blt pc 967 then (bif Nat.beq pc 966 then some (4, 3, 0, 967) else none) else (bif Nat.beq pc 967 then some (0, 0, 2, 968) else none))) else (bif Nat.blt pc 969 then (bif Nat.beq pc 968 then some (17, 0, 0, 969) else none) else (bif Nat.blt pc 970 then (bif Nat.beq pc 969 then some (62, 0, 0, 970) else none) else (bif Nat.beq pc 970 then some (50, 977, 0, 973) else none)))) else (bif Nat.blt pc 978 then (bif Nat.blt pc 974 then (bif Nat.beq pc 973 then some (0, 0, 1, 974) else none) else (bif Nat.blt pc 977 then (bif Nat.beq pc 974 then some (32, 978, 0, 977) else none) else (bif Nat.beq pc 977 then some (0, 0, 0, 978) else none))) else (bif Nat.blt pc 984 then (bif Nat.blt pc 981 then (bif Nat.beq pc 978 then some (81, 118, 0, 981) else none) else (bif Nat.beq pc 981 then some (56, 1149, 0, 984) else none)) else (bif Nat.blt pc 985 then (bif Nat.beq pc 984 then some (0, 0, 0, 985) else none) else (bif Nat.beq pc 985 then some (83, 0, 0, 986) else none)))))) else (bif Nat.blt pc 1000 then (bif Nat.blt pc 992 then (bif Nat.blt pc 989 then (bif Nat.blt pc 987 then (bif Nat.beq pc 986 then some (8, 1, 0, 987) else none) else (bif Nat.blt pc 988 then (bif Nat.beq pc 987 then some (8, 0, 0, 988) else none) else (bif Nat.beq pc 988 then some (4, 3, 0, 989) else none))) else (bif Nat.blt pc 990 then (bif Nat.beq pc 989 then some (0, 0, 1, 990) else none) else (bif Nat.blt pc 991 then (bif Nat.beq pc 990 then some (17, 0, 0, 991) else none) else (bif Nat.beq pc 991 then some (62, 0, 0, 992) else none)))) else (bif Nat.blt pc 995 then (bif Nat.blt pc 993 then (bif Nat.beq pc 992 then some (8, 0, 0, 993) else none) else (bif Nat.blt pc 994 then (bif Nat.beq pc 993 then some (4, 3, 0, 994) else none) else (bif Nat.beq pc 994 then some (0, 0, 2, 995) else none))) else (bif Nat.blt pc 996 then (bif Nat.beq pc 995 then some (17, 0, 0, 996) else none) else (bif Nat.blt pc 997 then (bif Nat.beq pc 996 then some (62, 0, 0, 997) else none) else (bif Nat.beq pc 997 then some (81, 119, 0, 1000) else none))))) else (bif Nat.blt pc 1006 then (bif Nat.blt pc 1003 then (bif Nat.blt pc 1001 then (bif Nat.beq pc 1000 then some (8, 2, 0, 1001) else none) else (bif Nat.blt pc 1002 then (bif Nat.beq pc 1001 then some (8, 0, 0, 1002) else none) else (bif Nat.beq pc 1002 then some (4, 3, 0, 1003) else none))) else (bif Nat.blt pc 1004 then (bif Nat.beq pc 1003 then some (0, 0, 1, 1004) else none) else (bif Nat.blt pc 1005 then (bif Nat.beq pc 1004 then some (17, 0, 0, 1005) else none) else (bif Nat.beq pc 1005 then some (62, 0, 0, 1006) else none)))) else (bif Nat.blt pc 1009 then (bif Nat.blt pc 1007 then (bif Nat.beq pc 1006 then some (8, 0, 0, 1007) else none) else (bif Nat.blt pc 1008 then (bif Nat.beq pc 1007 then some (4, 3, 0, 1008) else none) else (bif Nat.beq pc 1008 then some (0, 0, 2, 1009) else none))) else (bif Nat.blt pc 1011 then (bif Nat.blt pc 1010 then (bif Nat.beq pc 1009 then some (17, 0, 0, 1010) else none) else (bif Nat.beq pc 1010 then some (62, 0, 0, 1011) else none)) else (bif Nat.blt pc 1014 then (bif Nat.beq pc 1011 then some (81, 122, 0, 1014) else none) else (bif Nat.beq pc 1014 then some (56, 1149, 0, 1017) else none)))))))) else (bif Nat.blt pc 1085 then (bif Nat.blt pc 1054 then (bif Nat.blt pc 1035 then (bif Nat.blt pc 1027 then (bif Nat.blt pc 1020 then (bif Nat.blt pc 1018 then (bif Nat.beq pc 1017 then some (0, 0, 0, 1018) else none) else (bif Nat.blt pc 1019 then (bif Nat.beq pc 1018 then some (83, 0, 0, 1019) else none) else (bif Nat.beq pc 1019 then some (8, 1, 0, 1020) else none))) else (bif Nat.blt pc 1023 then (bif Nat.beq pc 1020 then some (81, 123, 0, 1023) else none) else (bif Nat.blt pc 1024 then (bif Nat.beq pc 1023 then some (8, 2, 0, 1024) else none) else (bif Nat.beq pc 1024 then some (81, 126, 0, 1027) else none)))) else (bif Nat.blt pc 1032 then (bif Nat.blt pc 1030 then (bif Nat.beq pc 1027 then some (56, 1149, 0, 1030) else none) else (bif Nat.blt pc 1031 then (bif Nat.beq pc 1030 then some (0, 0, 0, 1031) else none) else (bif Nat.beq pc 1031 then some (83, 0, 0, 1032) else none))) else (bif Nat.blt pc 1033 then (bif Nat.beq pc 1032 then some (8, 1, 0, 1033) else none) else (bif Nat.blt pc 1034 then (bif Nat.beq pc 1033 then some (8, 0, 0, 1034) else none) else (bif Nat.beq pc 1034 then some (4, 3, 0, 1035) else none))))) else (bif Nat.blt pc 1043 then (bif Nat.blt pc 1038 then (bif Nat.blt pc 1036 then (bif Nat.beq pc 1035 then some (0, 0, 1, 1036) else none) else (bif Nat.blt pc 1037 then (bif Nat.beq pc 1036 then some (17, 0, 0, 1037) else none) else (bif Nat.beq pc 1037 then some (62, 0, 0, 1038) else none))) else (bif Nat.blt pc 1041 then (bif Nat.beq pc 1038 then some (81, 127, 0, 1041) else none) else (bif Nat.blt pc 1042 then (bif Nat.beq pc 1041 then some (8, 2, 0, 1042) else none) else (bif Nat.beq pc 1042 then some (8, 0, 0, 1043) else none)))) else (bif Nat.blt pc 1046 then (bif Nat.blt pc 1044 then (bif Nat.beq pc 1043 then some (4, 3, 0, 1044) else none) else (bif Nat.blt pc 1045 then (bif Nat.beq pc 1044 then some (0, 0, 1, 1045) else none) else (bif Nat.beq pc 1045 then some (17, 0, 0, 1046) else none))) else (bif Nat.blt pc 1050 then (bif Nat.blt pc 1047 then (bif Nat.beq pc 1046 then some (62, 0, 0, 1047) else none) else (bif Nat.beq pc 1047 then some (81, 130, 0, 1050) else none)) else (bif Nat.blt pc 1053 then (bif Nat.beq pc 1050 then some (56, 1149, 0, 1053) else none) else (bif Nat.beq pc 1053 then some (0, 0, 0, 1054) else none)))))) else (bif Nat.blt pc 1068 then (bif Nat.blt pc 1060 then (bif Nat.blt pc 1057 then (bif Nat.blt pc 1055 then (bif Nat.beq pc 1054 then some (83, 0, 0, 1055) else none) else (bif Nat.blt pc 1056 then (bif Nat.beq pc 1055 then some (8, 1, 0, 1056) else none) else (bif Nat.beq pc 1056 then some (8, 0, 0, 1057) else none))) else (bif Nat.blt pc 1058 then (bif Nat.beq pc 1057 then some (4, 3, 0, 1058) else none) else (bif Nat.blt pc 1059 then (bif Nat.beq pc 1058 then some (0, 0, 1, 1059) else none) else (bif Nat.beq pc 1059 then some (17, 0, 0, 1060) else none)))) else (bif Nat.blt pc 1065 then (bif Nat.blt pc 1061 then (bif Nat.beq pc 1060 then some (62, 0, 0, 1061) else none) else (bif Nat.blt pc 1064 then (bif Nat.beq pc 1061 then some (81, 131, 0, 1064) else none) else (bif Nat.beq pc 1064 then some (8, 2, 0, 1065) else none))) else (bif Nat.blt pc 1066 then (bif Nat.beq pc 1065 then some (8, 0, 0, 1066) else none) else (bif Nat.blt pc 1067 then (bif Nat.beq pc 1066 then some (4, 3, 0, 1067) else none) else (bif Nat.beq pc 1067 then some (0, 0, 1, 1068) else none))))) else (bif Nat.blt pc 1078 then (bif Nat.blt pc 1073 then (bif Nat.blt pc 1069 then (bif Nat.beq pc 1068 then some (17, 0, 0, 1069) else none) else (bif Nat.blt pc 1070 then (bif Nat.beq pc 1069 then some (62, 0, 0, 1070) else none) else (bif Nat.beq pc 1070 then some (81, 135, 0, 1073) else none))) else (bif Nat.blt pc 1074 then (bif Nat.beq pc 1073 then some (29, 0, 0, 1074) else none) else (bif Nat.blt pc 1077 then (bif Nat.beq pc 1074 then some (50, 1149, 0, 1077) else none) else (bif Nat.beq pc 1077 then some (0, 0, 0, 1078) else none)))) else (bif Nat.blt pc 1081 then (bif Nat.blt pc 1079 then (bif Nat.beq pc 1078 then some (83, 0, 0, 1079) else none) else (bif Nat.blt pc 1080 then (bif Nat.beq pc 1079 then some (8, 1, 0, 1080) else none) else (bif Nat.beq pc 1080 then some (8, 0, 0, 1081) else none))) else (bif Nat.blt pc 1083 then (bif Nat.blt pc 1082 then (bif Nat.beq pc 1081 then some (4, 3, 0, 1082) else none) else (bif Nat.beq pc 1082 then some (0, 0, 1, 1083) else none)) else (bif Nat.blt pc 1084 then (bif Nat.beq pc 1083 then some (17, 0, 0, 1084) else none) else (bif Nat.beq pc 1084 then some (62, 0, 0, 1085) else none))))))) else (bif Nat.blt pc 1118 then (bif Nat.blt pc 1099 then (bif Nat.blt pc 1093 then (bif Nat.blt pc 1088 then (bif Nat.blt pc 1086 then (bif Nat.beq pc 1085 then some (8, 0, 0, 1086) else none) else (bif Nat.blt pc 1087 then (bif Nat.beq pc 1086 then some (4, 3, 0, 1087) else none) else (bif Nat.beq pc 1087 then some (0, 0, 2, 1088) else none))) else (bif Nat.blt pc 1089 then (bif Nat.beq pc 1088 then some (17, 0, 0, 1089) else none) else (bif Nat.blt pc 1090 then (bif Nat.beq pc 1089 then some (62, 0, 0, 1090) else none) else (bif Nat.beq pc 1090 then some (81, 136, 0, 1093) else none)))) else (bif Nat.blt pc 1096 then (bif Nat.blt pc 1094 then (bif Nat.beq pc 1093 then some (8, 2, 0, 1094) else none) else (bif Nat.blt pc 1095 then (bif Nat.beq pc 1094 then some (8, 0, 0, 1095) else none) else (bif Nat.beq pc 1095 then some (4, 3, 0, 1096) else none))) else (bif Nat.blt pc 1097 then (bif Nat.beq pc 1096 then some (0, 0, 1, 1097) else none) else (bif Nat.blt pc 1098 then (bif Nat.beq pc 1097 then some (17, 0, 0, 1098) else none) else (bif Nat.beq pc 1098 then some (62, 0, 0, 1099) else none))))) else (bif Nat.blt pc 1107 then (bif Nat.blt pc 1102 then (bif Nat.blt pc 1100 then (bif Nat.beq pc 1099 then some (8, 0, 0, 1100) else none) else (bif Nat.blt pc 1101 then (bif Nat.beq pc 1100 then some (4, 3, 0, 1101) else none) else (bif Nat.beq pc 1101 then some (0, 0, 2, 1102) else none))) else (bif Nat.blt pc 1103 then (bif Nat.beq pc 1102 then some (17, 0, 0, 1103) else none) else (bif Nat.blt pc 1104 then (bif Nat.beq pc 1103 then some (62, 0, 0, 1104) else none) else (bif Nat.beq pc 1104 then some (81, 140, 0, 1107) else none)))) else (bif Nat.blt pc 1112 then (bif Nat.blt pc 1108 then (bif Nat.beq pc 1107 then some (29, 0, 0, 1108) else none) else (bif Nat.blt pc 1111 then (bif Nat.beq pc 1108 then some (50, 1149, 0, 1111) else none) else (bif Nat.beq pc 1111 then some (0, 0, 0, 1112) else none))) else (bif Nat.blt pc 1114 then (bif Nat.blt pc 1113 then (bif Nat.beq pc 1112 then some (83, 0, 0, 1113) else none) else (bif Nat.beq pc 1113 then some (8, 1, 0, 1114) else none)) else (bif Nat.blt pc 1117 then (bif Nat.beq pc 1114 then some (81, 141, 0, 1117) else none) else (bif Nat.beq pc 1117 then some (8, 2, 0, 1118) else none)))))) else (bif Nat.blt pc 1136 then (bif Nat.blt pc 1128 then (bif Nat.blt pc 1125 then (bif Nat.blt pc 1121 then (bif Nat.beq pc 1118 then some (81, 144, 0, 1121) else none) else (bif Nat.blt pc 1124 then (bif Nat.beq pc 1121 then some (56, 1149, 0, 1124) else none) else (bif Nat.beq pc 1124 then some (0, 0, 0, 1125) else none))) else (bif Nat.blt pc 1126 then (bif Nat.beq pc 1125 then some (83, 0, 0, 1126) else none) else (bif Nat.blt pc 1127 then (bif Nat.beq pc 1126 then some (8, 1, 0, 1127) else none) else (bif Nat.beq pc 1127 then some (8, 0, 0, 1128) else none)))) else (bif Nat.blt pc 1131 then (bif Nat.blt pc 1129 then (bif Nat.beq pc 1128 then some (4, 3, 0, 1129) else none) else (bif Nat.blt pc 1130 then (bif Nat.beq pc 1129 then some (0, 0, 1, 1130) else none) else (bif Nat.beq pc 1130 then some (17, 0, 0, 1131) else none))) else (bif Nat.blt pc 1132 then (bif Nat.beq pc 1131 then some (62, 0, 0, 1132) else none) else (bif Nat.blt pc 1135 then (bif Nat.beq pc 1132 then some (81, 145, 0, 1135) else none) else (bif Nat.beq pc 1135 then some (8, 2, 0, 1136) else none))))) else (bif Nat.blt pc 1144 then (bif Nat.blt pc 1139 then (bif Nat.blt pc 1137 then (bif Nat.beq pc 1136 then some (8, 0, 0, 1137) else none) else (bif Nat.blt pc 1138 then (bif Nat.beq pc 1137 then some (4, 3, 0, 1138) else none) else (bif Nat.beq pc 1138 then some (0, 0, 1, 1139) else none))) else (bif Nat.blt pc 1140 then (bif Nat.beq pc 1139 then some (17, 0, 0, 1140) else none) else (bif Nat.blt pc 1141 then (bif Nat.beq pc 1140 then some (62, 0, 0, 1141) else none) else (bif Nat.beq pc 1141 then some (81, 148, 0, 1144) else none)))) else (bif Nat.blt pc 1149 then (bif Nat.blt pc 1147 then (bif Nat.beq pc 1144 then some (56, 1149, 0, 1147) else none) else (bif Nat.blt pc 1148 then (bif Nat.beq pc 1147 then some (0, 0, 0, 1148) else none) else (bif Nat.beq pc 1148 then some (83, 0, 0, 1149) else none))) else (bif Nat.blt pc 1155 then (bif Nat.blt pc 1152 then (bif Nat.beq pc 1149 then some (16, 3, 6, 1152) else none) else (bif Nat.beq pc 1152 then some (32, 18, 0, 1155) else none)) else (bif Nat.blt pc 1156 then (bif Nat.beq pc 1155 then some (0, 0, 1, 1156) else none) else (bif Nat.beq pc 1156 then some (83, 0, 0, 1157) else none))))))))))))
def mL_law : em_Me := ((RL, yL_law, cL_law, 4, (some .boolean)), iL_law, fL, qL)
theorem rL_law_0 : em_ckR RL cL_law iL_law 0 60 = true := by decide +kernel
theorem rL_law_1 : em_ckR RL cL_law iL_law 60 60 = true := by decide +kernel
theorem rL_law_2 : em_ckR RL cL_law iL_law 120 60 = true := by decide +kernel
theorem rL_law_3 : em_ckR RL cL_law iL_law 180 60 = true := by decide +kernel
theorem rL_law_4 : em_ckR RL cL_law iL_law 240 60 = true := by decide +kernel
theorem rL_law_5 : em_ckR RL cL_law iL_law 300 60 = true := by decide +kernel
theorem rL_law_6 : em_ckR RL cL_law iL_law 360 60 = true := by decide +kernel
theorem rL_law_7 : em_ckR RL cL_law iL_law 420 60 = true := by decide +kernel
theorem rL_law_8 : em_ckR RL cL_law iL_law 480 60 = true := by decide +kernel
theorem rL_law_9 : em_ckR RL cL_law iL_law 540 60 = true := by decide +kernel
theorem rL_law_10 : em_ckR RL cL_law iL_law 600 60 = true := by decide +kernel
theorem rL_law_11 : em_ckR RL cL_law iL_law 660 60 = true := by decide +kernel
theorem rL_law_12 : em_ckR RL cL_law iL_law 720 60 = true := by decide +kernel
theorem rL_law_13 : em_ckR RL cL_law iL_law 780 60 = true := by decide +kernel
theorem rL_law_14 : em_ckR RL cL_law iL_law 840 60 = true := by decide +kernel
theorem rL_law_15 : em_ckR RL cL_law iL_law 900 60 = true := by decide +kernel
theorem rL_law_16 : em_ckR RL cL_law iL_law 960 60 = true := by decide +kernel
theorem rL_law_17 : em_ckR RL cL_law iL_law 1020 60 = true := by decide +kernel
theorem rL_law_18 : em_ckR RL cL_law iL_law 1080 60 = true := by decide +kernel
theorem rL_law_19 : em_ckR RL cL_law iL_law 1140 17 = true := by decide +kernel
theorem kL_law : em_ok mL_law := em_okM (N := 1157) rfl (fun pc hpc q hq => if h0 : pc < 60 then em_ckR_at rL_law_0 (by omega) (by omega) hq else if h1 : pc < 120 then em_ckR_at rL_law_1 (by omega) (by omega) hq else if h2 : pc < 180 then em_ckR_at rL_law_2 (by omega) (by omega) hq else if h3 : pc < 240 then em_ckR_at rL_law_3 (by omega) (by omega) hq else if h4 : pc < 300 then em_ckR_at rL_law_4 (by omega) (by omega) hq else if h5 : pc < 360 then em_ckR_at rL_law_5 (by omega) (by omega) hq else if h6 : pc < 420 then em_ckR_at rL_law_6 (by omega) (by omega) hq else if h7 : pc < 480 then em_ckR_at rL_law_7 (by omega) (by omega) hq else if h8 : pc < 540 then em_ckR_at rL_law_8 (by omega) (by omega) hq else if h9 : pc < 600 then em_ckR_at rL_law_9 (by omega) (by omega) hq else if h10 : pc < 660 then em_ckR_at rL_law_10 (by omega) (by omega) hq else if h11 : pc < 720 then em_ckR_at rL_law_11 (by omega) (by omega) hq else if h12 : pc < 780 then em_ckR_at rL_law_12 (by omega) (by omega) hq else if h13 : pc < 840 then em_ckR_at rL_law_13 (by omega) (by omega) hq else if h14 : pc < 900 then em_ckR_at rL_law_14 (by omega) (by omega) hq else if h15 : pc < 960 then em_ckR_at rL_law_15 (by omega) (by omega) hq else if h16 : pc < 1020 then em_ckR_at rL_law_16 (by omega) (by omega) hq else if h17 : pc < 1080 then em_ckR_at rL_law_17 (by omega) (by omega) hq else if h18 : pc < 1140 then em_ckR_at rL_law_18 (by omega) (by omega) hq else em_ckR_at rL_law_19 (by omega) (by omega) hq) fL_ok qL_ok
end
section
def iJ7_fill_d0a16 : Nat → Option (Nat × Nat × Int32 × Nat) := em_tr 23 (fun pc => (bif Nat.blt pc 9 then (bif Nat.blt pc 3 then (bif Nat.blt pc 1 then (bif Nat.beq pc 0 then some (0, 0, 0, 1) else none) else (bif Nat.blt pc 2 then (bif Nat.beq pc 1 then some (10, 3, 0, 2) else none) else (bif Nat.beq pc 2 then some (8, 0, 0, 3) else none))) else (bif Nat.blt pc 6 then (bif Nat.blt pc 4 then (bif Nat.beq pc 3 then some (34, 0, 0, 4) else none) else (bif Nat.beq pc 4 then some (11, 4, 0, 6) else none)) else (bif Nat.blt pc 7 then (bif Nat.beq pc 6 then some (4, 3, 0, 7) else none) else (bif Nat.beq pc 7 then some (5, 4, 0, 9) else none)))) else (bif Nat.blt pc 15 then (bif Nat.blt pc 13 then (bif Nat.blt pc 12 then (bif Nat.beq pc 9 then some (59, 22, 0, 12) else none) else (bif Nat.beq pc 12 then some (8, 0, 0, 13) else none)) else (bif Nat.blt pc 14 then (bif Nat.beq pc 13 then some (4, 3, 0, 14) else none) else (bif Nat.beq pc 14 then some (6, 1, 0, 15) else none))) else (bif Nat.blt pc 19 then (bif Nat.blt pc 16 then (bif Nat.beq pc 15 then some (68, 0, 0, 16) else none) else (bif Nat.beq pc 16 then some (16, 3, 1, 19) else none)) else (bif Nat.blt pc 22 then (bif Nat.beq pc 19 then some (32, 6, 0, 22) else none) else (bif Nat.beq pc 22 then some (86, 0, 0, 23) else none))))))
def mJ7_fill_d0a16 : em_Me := ((RJ7, yJ7_fill_d0a16, cJ7_fill_d0a16, 5, none), iJ7_fill_d0a16, fJ7, qJ7)
theorem rJ7_fill_d0a16_0 : em_ckR RJ7 cJ7_fill_d0a16 iJ7_fill_d0a16 0 23 = true := by decide +kernel
theorem kJ7_fill_d0a16 : em_ok mJ7_fill_d0a16 := em_okM (N := 23) rfl (fun pc hpc q hq => em_ckR_at rJ7_fill_d0a16_0 (by omega) (by omega) hq) fJ7_ok qJ7_ok
theorem tJ7_fill_d0a16 : em_tS mJ7_fill_d0a16 2 := ⟨⟨em_in (k := 759) (by decide +kernel), em_in (k := 3) (by decide +kernel), ⟨by decide +kernel, by decide +kernel⟩, by decide +kernel, by decide +kernel⟩, em_in (k := 758) (by decide +kernel)⟩
def iJ7_fill_53178 : Nat → Option (Nat × Nat × Int32 × Nat) := em_tr 21 (fun pc => (bif Nat.blt pc 7 then (bif Nat.blt pc 3 then (bif Nat.blt pc 1 then (bif Nat.beq pc 0 then some (0, 0, 0, 1) else none) else (bif Nat.blt pc 2 then (bif Nat.beq pc 1 then some (10, 2, 0, 2) else none) else (bif Nat.beq pc 2 then some (8, 0, 0, 3) else none))) else (bif Nat.blt pc 5 then (bif Nat.blt pc 4 then (bif Nat.beq pc 3 then some (34, 0, 0, 4) else none) else (bif Nat.beq pc 4 then some (10, 3, 0, 5) else none)) else (bif Nat.blt pc 6 then (bif Nat.beq pc 5 then some (4, 2, 0, 6) else none) else (bif Nat.beq pc 6 then some (4, 3, 0, 7) else none)))) else (bif Nat.blt pc 13 then (bif Nat.blt pc 11 then (bif Nat.blt pc 10 then (bif Nat.beq pc 7 then some (59, 20, 0, 10) else none) else (bif Nat.beq pc 10 then some (8, 0, 0, 11) else none)) else (bif Nat.blt pc 12 then (bif Nat.beq pc 11 then some (4, 2, 0, 12) else none) else (bif Nat.beq pc 12 then some (4, 1, 0, 13) else none))) else (bif Nat.blt pc 17 then (bif Nat.blt pc 14 then (bif Nat.beq pc 13 then some (66, 0, 0, 14) else none) else (bif Nat.beq pc 14 then some (16, 2, 1, 17) else none)) else (bif Nat.blt pc 20 then (bif Nat.beq pc 17 then some (32, 5, 0, 20) else none) else (bif Nat.beq pc 20 then some (86, 0, 0, 21) else none))))))
def mJ7_fill_53178 : em_Me := ((RJ7, yJ7_fill_53178, cJ7_fill_53178, 4, none), iJ7_fill_53178, fJ7, qJ7)
theorem rJ7_fill_53178_0 : em_ckR RJ7 cJ7_fill_53178 iJ7_fill_53178 0 21 = true := by decide +kernel
theorem kJ7_fill_53178 : em_ok mJ7_fill_53178 := em_okM (N := 21) rfl (fun pc hpc q hq => em_ckR_at rJ7_fill_53178_0 (by omega) (by omega) hq) fJ7_ok qJ7_ok
theorem tJ7_fill_53178 : em_tS mJ7_fill_53178 2 := ⟨⟨em_in (k := 34) (by decide +kernel), em_in (k := 3) (by decide +kernel), ⟨by decide +kernel, by decide +kernel⟩, by decide +kernel, by decide +kernel⟩, em_in (k := 33) (by decide +kernel)⟩
def iJ7_copyOf_59c91 : Nat → Option (Nat × Nat × Int32 × Nat) := em_tr 33 (fun pc => (bif Nat.blt pc 18 then (bif Nat.blt pc 7 then (bif Nat.blt pc 2 then (bif Nat.blt pc 1 then (bif Nat.beq pc 0 then some (4, 1, 0, 1) else none) else (bif Nat.beq pc 1 then some (8, 0, 0, 2) else none)) else (bif Nat.blt pc 3 then (bif Nat.beq pc 2 then some (34, 0, 0, 3) else none) else (bif Nat.blt pc 6 then (bif Nat.beq pc 3 then some (57, 14, 0, 6) else none) else (bif Nat.beq pc 6 then some (8, 0, 0, 7) else none)))) else (bif Nat.blt pc 14 then (bif Nat.blt pc 13 then (bif Nat.beq pc 7 then some (81, 316, 0, 10) else none) else (bif Nat.beq pc 13 then some (85, 0, 0, 14) else none)) else (bif Nat.blt pc 15 then (bif Nat.beq pc 14 then some (4, 1, 0, 15) else none) else (bif Nat.blt pc 17 then (bif Nat.beq pc 15 then some (76, 0, 0, 17) else none) else (bif Nat.beq pc 17 then some (14, 2, 0, 18) else none))))) else (bif Nat.blt pc 23 then (bif Nat.blt pc 20 then (bif Nat.blt pc 19 then (bif Nat.beq pc 18 then some (8, 0, 0, 19) else none) else (bif Nat.beq pc 19 then some (0, 0, 0, 20) else none)) else (bif Nat.blt pc 21 then (bif Nat.beq pc 20 then some (8, 2, 0, 21) else none) else (bif Nat.blt pc 22 then (bif Nat.beq pc 21 then some (0, 0, 0, 22) else none) else (bif Nat.beq pc 22 then some (8, 0, 0, 23) else none)))) else (bif Nat.blt pc 28 then (bif Nat.blt pc 24 then (bif Nat.beq pc 23 then some (34, 0, 0, 24) else none) else (bif Nat.blt pc 25 then (bif Nat.beq pc 24 then some (4, 1, 0, 25) else none) else (bif Nat.beq pc 25 then some (80, 304, 0, 28) else none))) else (bif Nat.blt pc 31 then (bif Nat.beq pc 28 then some (80, 150, 0, 31) else none) else (bif Nat.blt pc 32 then (bif Nat.beq pc 31 then some (8, 2, 0, 32) else none) else (bif Nat.beq pc 32 then some (85, 0, 0, 33) else none)))))))
def mJ7_copyOf_59c91 : em_Me := ((RJ7, yJ7_copyOf_59c91, cJ7_copyOf_59c91, 3, (some (.array .int))), iJ7_copyOf_59c91, fJ7, qJ7)
theorem rJ7_copyOf_59c91_0 : em_ckR RJ7 cJ7_copyOf_59c91 iJ7_copyOf_59c91 0 33 = true := by decide +kernel
theorem kJ7_copyOf_59c91 : em_ok mJ7_copyOf_59c91 := em_okM (N := 33) rfl (fun pc hpc q hq => em_ckR_at rJ7_copyOf_59c91_0 (by omega) (by omega) hq) fJ7_ok qJ7_ok
theorem tJ7_copyOf_59c91 : em_tS mJ7_copyOf_59c91 2 := ⟨⟨em_in (k := 362) (by decide +kernel), em_in (k := 3) (by decide +kernel), ⟨by decide +kernel, by decide +kernel⟩, by decide +kernel, by decide +kernel⟩, em_in (k := 361) (by decide +kernel)⟩
def iJ9_max_7cf53 : Nat → Option (Nat × Nat × Int32 × Nat) := em_tr 11 (fun pc => (bif Nat.blt pc 5 then (bif Nat.blt pc 1 then (bif Nat.beq pc 0 then some (4, 0, 0, 1) else none) else (bif Nat.blt pc 2 then (bif Nat.beq pc 1 then some (4, 1, 0, 2) else none) else (bif Nat.beq pc 2 then some (58, 9, 0, 5) else none))) else (bif Nat.blt pc 9 then (bif Nat.blt pc 6 then (bif Nat.beq pc 5 then some (4, 0, 0, 6) else none) else (bif Nat.beq pc 6 then some (32, 10, 0, 9) else none)) else (bif Nat.blt pc 10 then (bif Nat.beq pc 9 then some (4, 1, 0, 10) else none) else (bif Nat.beq pc 10 then some (83, 0, 0, 11) else none)))))
def mJ9_max_7cf53 : em_Me := ((RJ9, yJ9_max_7cf53, cJ9_max_7cf53, 2, (some .int)), iJ9_max_7cf53, fJ9, qJ9)
theorem rJ9_max_7cf53_0 : em_ckR RJ9 cJ9_max_7cf53 iJ9_max_7cf53 0 11 = true := by decide +kernel
theorem kJ9_max_7cf53 : em_ok mJ9_max_7cf53 := em_okM (N := 11) rfl (fun pc hpc q hq => em_ckR_at rJ9_max_7cf53_0 (by omega) (by omega) hq) fJ9_ok qJ9_ok
theorem tJ9_max_7cf53 : em_tS mJ9_max_7cf53 2 := ⟨⟨em_in (k := 359) (by decide +kernel), em_in (k := 11) (by decide +kernel), ⟨by decide +kernel, by decide +kernel⟩, by decide +kernel, by decide +kernel⟩, em_in (k := 358) (by decide +kernel)⟩
def iJ9_min_7cf53 : Nat → Option (Nat × Nat × Int32 × Nat) := em_tr 11 (fun pc => (bif Nat.blt pc 5 then (bif Nat.blt pc 1 then (bif Nat.beq pc 0 then some (4, 0, 0, 1) else none) else (bif Nat.blt pc 2 then (bif Nat.beq pc 1 then some (4, 1, 0, 2) else none) else (bif Nat.beq pc 2 then some (60, 9, 0, 5) else none))) else (bif Nat.blt pc 9 then (bif Nat.blt pc 6 then (bif Nat.beq pc 5 then some (4, 0, 0, 6) else none) else (bif Nat.beq pc 6 then some (32, 10, 0, 9) else none)) else (bif Nat.blt pc 10 then (bif Nat.beq pc 9 then some (4, 1, 0, 10) else none) else (bif Nat.beq pc 10 then some (83, 0, 0, 11) else none)))))
def mJ9_min_7cf53 : em_Me := ((RJ9, yJ9_min_7cf53, cJ9_min_7cf53, 2, (some .int)), iJ9_min_7cf53, fJ9, qJ9)
theorem rJ9_min_7cf53_0 : em_ckR RJ9 cJ9_min_7cf53 iJ9_min_7cf53 0 11 = true := by decide +kernel
theorem kJ9_min_7cf53 : em_ok mJ9_min_7cf53 := em_okM (N := 11) rfl (fun pc hpc q hq => em_ckR_at rJ9_min_7cf53_0 (by omega) (by omega) hq) fJ9_ok qJ9_ok
theorem tJ9_min_7cf53 : em_tS mJ9_min_7cf53 2 := ⟨⟨em_in (k := 356) (by decide +kernel), em_in (k := 11) (by decide +kernel), ⟨by decide +kernel, by decide +kernel⟩, by decide +kernel, by decide +kernel⟩, em_in (k := 355) (by decide +kernel)⟩
def iJ6_bitCount_0f7a4 : Nat → Option (Nat × Nat × Int32 × Nat) := em_tr 53 (fun pc => (bif Nat.blt pc 27 then (bif Nat.blt pc 14 then (bif Nat.blt pc 7 then (bif Nat.blt pc 2 then (bif Nat.blt pc 1 then (bif Nat.beq pc 0 then some (4, 0, 0, 1) else none) else (bif Nat.beq pc 1 then some (4, 0, 0, 2) else none)) else (bif Nat.blt pc 3 then (bif Nat.beq pc 2 then some (0, 0, 1, 3) else none) else (bif Nat.blt pc 4 then (bif Nat.beq pc 3 then some (25, 0, 0, 4) else none) else (bif Nat.beq pc 4 then some (36, 265, 0, 7) else none)))) else (bif Nat.blt pc 9 then (bif Nat.blt pc 8 then (bif Nat.beq pc 7 then some (20, 0, 0, 8) else none) else (bif Nat.beq pc 8 then some (18, 0, 0, 9) else none)) else (bif Nat.blt pc 10 then (bif Nat.beq pc 9 then some (10, 0, 0, 10) else none) else (bif Nat.blt pc 11 then (bif Nat.beq pc 10 then some (4, 0, 0, 11) else none) else (bif Nat.beq pc 11 then some (36, 266, 0, 14) else none))))) else (bif Nat.blt pc 21 then (bif Nat.blt pc 16 then (bif Nat.blt pc 15 then (bif Nat.beq pc 14 then some (20, 0, 0, 15) else none) else (bif Nat.beq pc 15 then some (4, 0, 0, 16) else none)) else (bif Nat.blt pc 17 then (bif Nat.beq pc 16 then some (0, 0, 2, 17) else none) else (bif Nat.blt pc 18 then (bif Nat.beq pc 17 then some (25, 0, 0, 18) else none) else (bif Nat.beq pc 18 then some (36, 266, 0, 21) else none)))) else (bif Nat.blt pc 24 then (bif Nat.blt pc 22 then (bif Nat.beq pc 21 then some (20, 0, 0, 22) else none) else (bif Nat.blt pc 23 then (bif Nat.beq pc 22 then some (17, 0, 0, 23) else none) else (bif Nat.beq pc 23 then some (10, 0, 0, 24) else none))) else (bif Nat.blt pc 25 then (bif Nat.beq pc 24 then some (4, 0, 0, 25) else none) else (bif Nat.blt pc 26 then (bif Nat.beq pc 25 then some (4, 0, 0, 26) else none) else (bif Nat.beq pc 26 then some (0, 0, 4, 27) else none)))))) else (bif Nat.blt pc 40 then (bif Nat.blt pc 34 then (bif Nat.blt pc 29 then (bif Nat.blt pc 28 then (bif Nat.beq pc 27 then some (25, 0, 0, 28) else none) else (bif Nat.beq pc 28 then some (17, 0, 0, 29) else none)) else (bif Nat.blt pc 32 then (bif Nat.beq pc 29 then some (36, 267, 0, 32) else none) else (bif Nat.blt pc 33 then (bif Nat.beq pc 32 then some (20, 0, 0, 33) else none) else (bif Nat.beq pc 33 then some (10, 0, 0, 34) else none)))) else (bif Nat.blt pc 36 then (bif Nat.blt pc 35 then (bif Nat.beq pc 34 then some (4, 0, 0, 35) else none) else (bif Nat.beq pc 35 then some (4, 0, 0, 36) else none)) else (bif Nat.blt pc 38 then (bif Nat.beq pc 36 then some (1, 0, 8, 38) else none) else (bif Nat.blt pc 39 then (bif Nat.beq pc 38 then some (25, 0, 0, 39) else none) else (bif Nat.beq pc 39 then some (17, 0, 0, 40) else none))))) else (bif Nat.blt pc 46 then (bif Nat.blt pc 42 then (bif Nat.blt pc 41 then (bif Nat.beq pc 40 then some (10, 0, 0, 41) else none) else (bif Nat.beq pc 41 then some (4, 0, 0, 42) else none)) else (bif Nat.blt pc 43 then (bif Nat.beq pc 42 then some (4, 0, 0, 43) else none) else (bif Nat.blt pc 45 then (bif Nat.beq pc 43 then some (1, 0, 16, 45) else none) else (bif Nat.beq pc 45 then some (25, 0, 0, 46) else none)))) else (bif Nat.blt pc 49 then (bif Nat.blt pc 47 then (bif Nat.beq pc 46 then some (17, 0, 0, 47) else none) else (bif Nat.blt pc 48 then (bif Nat.beq pc 47 then some (10, 0, 0, 48) else none) else (bif Nat.beq pc 48 then some (4, 0, 0, 49) else none))) else (bif Nat.blt pc 51 then (bif Nat.beq pc 49 then some (1, 0, 63, 51) else none) else (bif Nat.blt pc 52 then (bif Nat.beq pc 51 then some (20, 0, 0, 52) else none) else (bif Nat.beq pc 52 then some (83, 0, 0, 53) else none))))))))
def mJ6_bitCount_0f7a4 : em_Me := ((RJ6, yJ6_bitCount_0f7a4, cJ6_bitCount_0f7a4, 1, (some .int)), iJ6_bitCount_0f7a4, fJ6, qJ6)
theorem rJ6_bitCount_0f7a4_0 : em_ckR RJ6 cJ6_bitCount_0f7a4 iJ6_bitCount_0f7a4 0 53 = true := by decide +kernel
theorem kJ6_bitCount_0f7a4 : em_ok mJ6_bitCount_0f7a4 := em_okM (N := 53) rfl (fun pc hpc q hq => em_ckR_at rJ6_bitCount_0f7a4_0 (by omega) (by omega) hq) fJ6_ok qJ6_ok
theorem tJ6_bitCount_0f7a4 : em_tS mJ6_bitCount_0f7a4 1 := ⟨⟨em_in (k := 461) (by decide +kernel), em_in (k := 13) (by decide +kernel), ⟨by decide +kernel, by decide +kernel⟩, by decide +kernel, by decide +kernel⟩, em_in (k := 460) (by decide +kernel)⟩
end
section
/-! the links of calls -/
theorem lX0_3 : Cond.methodLink RX0 3 objectInit ∈ lw_tbl := em_in (k := 81) (by decide +kernel)
theorem lX0_30 : em_lk1 RX0 30 yX0_linesDue := Or.inl (em_in (k := 345) (by decide +kernel))
theorem lX0_34 : em_lk1 RX0 34 yX0_makeRoom := Or.inl (em_in (k := 349) (by decide +kernel))
theorem lX0_38 : em_lk1 RX0 38 yX0_write := Or.inl (em_in (k := 374) (by decide +kernel))
theorem lX0_43 : em_lk1 RX0 43 yJ9_min_7cf53 := Or.inl (em_in (k := 354) (by decide +kernel))
theorem lX0_49 : em_lk1 RX0 49 yJ9_max_7cf53 := Or.inl (em_in (k := 357) (by decide +kernel))
theorem lX0_52 : em_lk1 RX0 52 yJ7_copyOf_59c91 := Or.inl (em_in (k := 360) (by decide +kernel))
theorem lX0_25 : em_lk1 RX0 25 yX7_within := Or.inr ⟨"BeastRoad", em_in (k := 390) (by decide +kernel)⟩
theorem lX1_3 : Cond.methodLink RX1 3 objectInit ∈ lw_tbl := em_in (k := 126) (by decide +kernel)
theorem lX1_34 : em_lk1 RX1 34 yJ7_fill_53178 := Or.inl (em_in (k := 127) (by decide +kernel))
theorem lX1_47 : em_lk1 RX1 47 yX1_isTown := Or.inl (em_in (k := 505) (by decide +kernel))
theorem lX1_54 : em_lk1 RX1 54 yX1_plan := Or.inl (em_in (k := 525) (by decide +kernel))
theorem lX1_70 : em_lk1 RX1 70 yX1_visit := Or.inl (em_in (k := 529) (by decide +kernel))
theorem lX1_74 : em_lk1 RX1 74 yJ9_max_7cf53 := Or.inl (em_in (k := 533) (by decide +kernel))
theorem lX1_80 : em_lk1 RX1 80 yX1_keepIfBetter := Or.inl (em_in (k := 534) (by decide +kernel))
theorem lX1_84 : em_lk1 RX1 84 yX1_mayGetBetter := Or.inl (em_in (k := 543) (by decide +kernel))
theorem lX1_87 : em_lk1 RX1 87 yX1_goOn := Or.inl (em_in (k := 548) (by decide +kernel))
theorem lX1_93 : em_lk1 RX1 93 yX1_isBetter := Or.inl (em_in (k := 538) (by decide +kernel))
theorem lX1_96 : Cond.methodLink RX1 96 arraycopyName ∈ lw_tbl := em_in (k := 542) (by decide +kernel)
theorem lX1_43 : em_lk1 RX1 43 yX7_within := Or.inr ⟨"BeastRoad", em_in (k := 496) (by decide +kernel)⟩
theorem lX1_90 : em_lk1 RX1 90 yX7_has := Or.inr ⟨"BeastRoad", em_in (k := 547) (by decide +kernel)⟩
theorem lX2_3 : Cond.methodLink RX2 3 objectInit ∈ lw_tbl := em_in (k := 201) (by decide +kernel)
theorem lX2_29 : em_lk1 RX2 29 yX2_isCell := Or.inl (em_in (k := 744) (by decide +kernel))
theorem lX2_33 : em_lk1 RX2 33 yJ7_fill_d0a16 := Or.inl (em_in (k := 757) (by decide +kernel))
theorem lX2_39 : em_lk1 RX2 39 yX2_spread := Or.inl (em_in (k := 768) (by decide +kernel))
theorem lX2_43 : Cond.methodLink RX2 43 arraycopyName ∈ lw_tbl := em_in (k := 775) (by decide +kernel)
theorem lX2_49 : em_lk1 RX2 49 yX2_isOpen := Or.inl (em_in (k := 784) (by decide +kernel))
theorem lX2_52 : em_lk1 RX2 52 yX2_allMaybes := Or.inl (em_in (k := 788) (by decide +kernel))
theorem lX2_62 : em_lk1 RX2 62 yX2_commonDivisor := Or.inl (em_in (k := 809) (by decide +kernel))
theorem lX2_66 : em_lk1 RX2 66 yX2_beside := Or.inl (em_in (k := 772) (by decide +kernel))
theorem lX2_58 : em_lk1 RX2 58 yX7_within := Or.inr ⟨"BeastRoad", em_in (k := 747) (by decide +kernel)⟩
theorem lX3_3 : Cond.methodLink RX3 3 objectInit ∈ lw_tbl := em_in (k := 31) (by decide +kernel)
theorem lX3_42 : em_lk1 RX3 42 yJ7_fill_53178 := Or.inl (em_in (k := 32) (by decide +kernel))
theorem lX3_59 : em_lk1 RX3 59 yX3_isBeast := Or.inl (em_in (k := 271) (by decide +kernel))
theorem lX3_66 : em_lk1 RX3 66 yX3_isDay := Or.inl (em_in (k := 293) (by decide +kernel))
theorem lX3_72 : em_lk1 RX3 72 yX3_recall := Or.inl (em_in (k := 313) (by decide +kernel))
theorem lX3_76 : em_lk1 RX3 76 yX3_stands := Or.inl (em_in (k := 317) (by decide +kernel))
theorem lX3_55 : em_lk1 RX3 55 yX7_within := Or.inr ⟨"BeastRoad", em_in (k := 275) (by decide +kernel)⟩
theorem lX3_63 : em_lk1 RX3 63 yX7_isKind := Or.inr ⟨"BeastRoad", em_in (k := 280) (by decide +kernel)⟩
theorem lX4_3 : Cond.methodLink RX4 3 objectInit ∈ lw_tbl := em_in (k := 187) (by decide +kernel)
theorem lX4_15 : em_lk1 RX4 15 yJ7_fill_53178 := Or.inl (em_in (k := 188) (by decide +kernel))
theorem lX4_25 : Cond.methodLink RX4 25 arraycopyName ∈ lw_tbl := em_in (k := 702) (by decide +kernel)
theorem lX4_31 : em_lk1 RX4 31 yX4_forbid := Or.inl (em_in (k := 685) (by decide +kernel))
theorem lX4_39 : em_lk1 RX4 39 yX4_isAbove := Or.inl (em_in (k := 719) (by decide +kernel))
theorem lX4_43 : em_lk1 RX4 43 yX4_numberOrZero := Or.inl (em_in (k := 731) (by decide +kernel))
theorem lX4_53 : em_lk1 RX4 53 yJ9_max_7cf53 := Or.inl (em_in (k := 735) (by decide +kernel))
theorem lX4_35 : em_lk1 RX4 35 yX7_within := Or.inr ⟨"BeastRoad", em_in (k := 691) (by decide +kernel)⟩
theorem lX4_47 : em_lk1 RX4 47 yX7_isKind := Or.inr ⟨"BeastRoad", em_in (k := 689) (by decide +kernel)⟩
theorem lX4_50 : em_lk1 RX4 50 yX7_has := Or.inr ⟨"BeastRoad", em_in (k := 690) (by decide +kernel)⟩
theorem lX5_3 : Cond.methodLink RX5 3 objectInit ∈ lw_tbl := em_in (k := 173) (by decide +kernel)
theorem lX5_23 : em_lk1 RX5 23 yX4_clear := Or.inl (em_in (k := 596) (by decide +kernel))
theorem lX5_28 : em_lk1 RX5 28 yX5_pastBlanks := Or.inl (em_in (k := 600) (by decide +kernel))
theorem lX5_32 : em_lk1 RX5 32 yX5_readClause := Or.inl (em_in (k := 604) (by decide +kernel))
theorem lX5_36 : em_lk1 RX5 36 yX5_sortAt := Or.inl (em_in (k := 608) (by decide +kernel))
theorem lX5_39 : em_lk1 RX5 39 yX5_wordOf := Or.inl (em_in (k := 612) (by decide +kernel))
theorem lX5_48 : em_lk1 RX5 48 yX5_pastDigits := Or.inl (em_in (k := 673) (by decide +kernel))
theorem lX5_51 : em_lk1 RX5 51 yX5_valueOf := Or.inl (em_in (k := 677) (by decide +kernel))
theorem lX5_55 : em_lk1 RX5 55 yX4_take := Or.inl (em_in (k := 681) (by decide +kernel))
theorem lX5_59 : em_lk1 RX5 59 yX5_standsAt := Or.inl (em_in (k := 621) (by decide +kernel))
theorem lX5_19 : em_lk1 RX5 19 yX7_within := Or.inr ⟨"BeastRoad", em_in (k := 587) (by decide +kernel)⟩
theorem lX6_3 : Cond.methodLink RX6 3 objectInit ∈ lw_tbl := em_in (k := 100) (by decide +kernel)
theorem lX6_31 : em_lk1 RX6 31 yJ7_fill_53178 := Or.inl (em_in (k := 101) (by decide +kernel))
theorem lX6_37 : em_lk1 RX6 37 yX3_isBeast := Or.inl (em_in (k := 408) (by decide +kernel))
theorem lX6_47 : em_lk1 RX6 47 yX3_kindOfBeast := Or.inl (em_in (k := 267) (by decide +kernel))
theorem lX6_51 : em_lk1 RX6 51 yX3_weightOfKind := Or.inl (em_in (k := 276) (by decide +kernel))
theorem lX6_54 : em_lk1 RX6 54 yX6_weightIn := Or.inl (em_in (k := 410) (by decide +kernel))
theorem lX6_64 : em_lk1 RX6 64 yX6_weightWith := Or.inl (em_in (k := 259) (by decide +kernel))
theorem lX6_68 : em_lk1 RX6 68 yX3_size := Or.inl (em_in (k := 263) (by decide +kernel))
theorem lX6_72 : em_lk1 RX6 72 yX6_beastsIn := Or.inl (em_in (k := 849) (by decide +kernel))
theorem lX6_75 : em_lk1 RX6 75 yX6_meetsFoeAhead := Or.inl (em_in (k := 439) (by decide +kernel))
theorem lX6_78 : em_lk1 RX6 78 yX6_findKinds := Or.inl (em_in (k := 451) (by decide +kernel))
theorem lX6_81 : em_lk1 RX6 81 yX6_filledWagons := Or.inl (em_in (k := 455) (by decide +kernel))
theorem lX6_84 : em_lk1 RX6 84 yJ6_bitCount_0f7a4 := Or.inl (em_in (k := 459) (by decide +kernel))
theorem lX6_89 : em_lk1 RX6 89 yX6_findFoes := Or.inl (em_in (k := 465) (by decide +kernel))
theorem lX6_92 : em_lk1 RX6 92 yX6_findBeginnings := Or.inl (em_in (k := 473) (by decide +kernel))
theorem lX6_96 : em_lk1 RX6 96 yX6_placeByLowest := Or.inl (em_in (k := 481) (by decide +kernel))
theorem lX6_100 : em_lk1 RX6 100 yX6_kindsBarredBy := Or.inl (em_in (k := 469) (by decide +kernel))
theorem lX6_103 : em_lk1 RX6 103 yX6_beginningsOf := Or.inl (em_in (k := 477) (by decide +kernel))
theorem lX6_106 : em_lk1 RX6 106 yX6_lowest := Or.inl (em_in (k := 485) (by decide +kernel))
theorem lX6_43 : em_lk1 RX6 43 yX7_within := Or.inr ⟨"BeastRoad", em_in (k := 409) (by decide +kernel)⟩
theorem lX6_57 : em_lk1 RX6 57 yX7_isKind := Or.inr ⟨"BeastRoad", em_in (k := 422) (by decide +kernel)⟩
theorem lX6_60 : em_lk1 RX6 60 yX7_has := Or.inr ⟨"BeastRoad", em_in (k := 423) (by decide +kernel)⟩
theorem lX7_1 : Cond.methodLink RX7 1 objectInit ∈ lw_tbl := em_in (k := 23) (by decide +kernel)
theorem lX7_9 : em_lk1 RX7 9 yX3_init := Or.inl (em_in (k := 28) (by decide +kernel))
theorem lX7_25 : em_lk1 RX7 25 yX6_init := Or.inl (em_in (k := 97) (by decide +kernel))
theorem lX7_34 : em_lk1 RX7 34 yX1_init := Or.inl (em_in (k := 123) (by decide +kernel))
theorem lX7_52 : em_lk1 RX7 52 yX4_init := Or.inl (em_in (k := 184) (by decide +kernel))
theorem lX7_64 : em_lk1 RX7 64 yX7_isKind := Or.inl (em_in (k := 249) (by decide +kernel))
theorem lX7_68 : em_lk1 RX7 68 yX7_within := Or.inl (em_in (k := 252) (by decide +kernel))
theorem lX7_72 : em_lk1 RX7 72 yX6_wouldBear := Or.inl (em_in (k := 255) (by decide +kernel))
theorem lX7_76 : em_lk1 RX7 76 yX3_setKind := Or.inl (em_in (k := 281) (by decide +kernel))
theorem lX7_80 : em_lk1 RX7 80 yX3_tellBeast := Or.inl (em_in (k := 289) (by decide +kernel))
theorem lX7_84 : em_lk1 RX7 84 yX3_tellGone := Or.inl (em_in (k := 301) (by decide +kernel))
theorem lX7_87 : em_lk1 RX7 87 yX3_isHere := Or.inl (em_in (k := 309) (by decide +kernel))
theorem lX7_90 : em_lk1 RX7 90 yX3_rationOf := Or.inl (em_in (k := 325) (by decide +kernel))
theorem lX7_93 : em_lk1 RX7 93 yX3_today := Or.inl (em_in (k := 333) (by decide +kernel))
theorem lX7_97 : em_lk1 RX7 97 yX3_rationsToToday := Or.inl (em_in (k := 337) (by decide +kernel))
theorem lX7_101 : em_lk1 RX7 101 yX0_closeDay := Or.inl (em_in (k := 341) (by decide +kernel))
theorem lX7_105 : em_lk1 RX7 105 yX3_nextDay := Or.inl (em_in (k := 378) (by decide +kernel))
theorem lX7_108 : em_lk1 RX7 108 yX0_linePart := Or.inl (em_in (k := 386) (by decide +kernel))
theorem lX7_111 : em_lk1 RX7 111 yX0_unitsFor := Or.inl (em_in (k := 396) (by decide +kernel))
theorem lX7_115 : em_lk1 RX7 115 yX6_put := Or.inl (em_in (k := 404) (by decide +kernel))
theorem lX7_118 : em_lk1 RX7 118 yX6_setBar := Or.inl (em_in (k := 418) (by decide +kernel))
theorem lX7_122 : em_lk1 RX7 122 yX6_weightIn := Or.inl (em_in (k := 430) (by decide +kernel))
theorem lX7_125 : em_lk1 RX7 125 yX6_beastsIn := Or.inl (em_in (k := 431) (by decide +kernel))
theorem lX7_128 : em_lk1 RX7 128 yX6_isSound := Or.inl (em_in (k := 435) (by decide +kernel))
theorem lX7_131 : em_lk1 RX7 131 yX6_placeInOrder := Or.inl (em_in (k := 447) (by decide +kernel))
theorem lX7_134 : em_lk1 RX7 134 yX1_addTown := Or.inl (em_in (k := 492) (by decide +kernel))
theorem lX7_138 : em_lk1 RX7 138 yX1_setWay := Or.inl (em_in (k := 501) (by decide +kernel))
theorem lX7_141 : em_lk1 RX7 141 yX1_setFodder := Or.inl (em_in (k := 513) (by decide +kernel))
theorem lX7_144 : em_lk1 RX7 144 yX1_bestBrings := Or.inl (em_in (k := 521) (by decide +kernel))
theorem lX7_147 : em_lk1 RX7 147 yX1_bestStop := Or.inl (em_in (k := 556) (by decide +kernel))
theorem lX7_150 : em_lk1 RX7 150 yX5_bytesIn := Or.inl (em_in (k := 564) (by decide +kernel))
theorem lX7_153 : em_lk1 RX7 153 yX5_hasRoomFor := Or.inl (em_in (k := 567) (by decide +kernel))
theorem lX7_156 : em_lk1 RX7 156 yX5_append := Or.inl (em_in (k := 571) (by decide +kernel))
theorem lX7_160 : em_lk1 RX7 160 yX5_size := Or.inl (em_in (k := 575) (by decide +kernel))
theorem lX7_163 : em_lk1 RX7 163 yX5_cutTo := Or.inl (em_in (k := 583) (by decide +kernel))
theorem lX7_166 : em_lk1 RX7 166 yX5_readInto := Or.inl (em_in (k := 592) (by decide +kernel))
theorem lX7_170 : em_lk1 RX7 170 yX1_isTown := Or.inl (em_in (k := 697) (by decide +kernel))
theorem lX7_173 : em_lk1 RX7 173 yX4_copyFrom := Or.inl (em_in (k := 698) (by decide +kernel))
theorem lX7_177 : em_lk1 RX7 177 yX3_kindsHereToday := Or.inl (em_in (k := 707) (by decide +kernel))
theorem lX7_180 : em_lk1 RX7 180 yX3_beastsHereToday := Or.inl (em_in (k := 711) (by decide +kernel))
theorem lX7_183 : em_lk1 RX7 183 yX4_verdict := Or.inl (em_in (k := 715) (by decide +kernel))
theorem lX7_186 : em_lk1 RX7 186 yX4_price := Or.inl (em_in (k := 727) (by decide +kernel))
theorem lX7_189 : em_lk1 RX7 189 yX2_setWall := Or.inl (em_in (k := 740) (by decide +kernel))
theorem lX7_193 : em_lk1 RX7 193 yX3_isBeast := Or.inl (em_in (k := 752) (by decide +kernel))
theorem lX7_196 : em_lk1 RX7 196 yX2_lose := Or.inl (em_in (k := 753) (by decide +kernel))
theorem lX7_199 : em_lk1 RX7 199 yX2_passHour := Or.inl (em_in (k := 764) (by decide +kernel))
theorem lX7_202 : em_lk1 RX7 202 yX2_lookAt := Or.inl (em_in (k := 780) (by decide +kernel))
theorem lX7_205 : em_lk1 RX7 205 yX2_maybeOf := Or.inl (em_in (k := 796) (by decide +kernel))
theorem lX7_209 : em_lk1 RX7 209 yX2_chanceOf := Or.inl (em_in (k := 805) (by decide +kernel))
theorem lX7_213 : em_lk1 RX7 213 yX2_likeliest := Or.inl (em_in (k := 816) (by decide +kernel))
theorem lX7_216 : em_lk1 RX7 216 yX3_size := Or.inl (em_in (k := 824) (by decide +kernel))
theorem lX7_217 : em_lk1 RX7 217 yX0_size := Or.inl (em_in (k := 825) (by decide +kernel))
theorem lX7_218 : em_lk1 RX7 218 yX0_unitsInAll := Or.inl (em_in (k := 829) (by decide +kernel))
theorem lX7_221 : em_lk1 RX7 221 yX1_size := Or.inl (em_in (k := 833) (by decide +kernel))
theorem lX7_222 : em_lk1 RX7 222 yX2_beastAway := Or.inl (em_in (k := 837) (by decide +kernel))
theorem lX7_225 : em_lk1 RX7 225 yX2_hoursGone := Or.inl (em_in (k := 841) (by decide +kernel))
theorem lX7_228 : em_lk1 RX7 228 yX6_beastsInAll := Or.inl (em_in (k := 845) (by decide +kernel))
theorem lX7_18 : em_lk1 RX7 18 yX0_init := Or.inr ⟨"BeastRoad", em_in (k := 78) (by decide +kernel)⟩
theorem lX7_41 : em_lk1 RX7 41 yX5_init := Or.inr ⟨"BeastRoad", em_in (k := 170) (by decide +kernel)⟩
theorem lX7_59 : em_lk1 RX7 59 yX2_init := Or.inr ⟨"BeastRoad", em_in (k := 198) (by decide +kernel)⟩
theorem lX8_1 : Cond.methodLink RX8 1 objectInit ∈ lw_tbl := em_in (k := 855) (by decide +kernel)
theorem lX8_112 : em_lk1 RX8 112 yX8_in := Or.inl (em_in (k := 993) (by decide +kernel))
theorem lX8_119 : em_lk1 RX8 119 yX8_weightOf := Or.inl (em_in (k := 996) (by decide +kernel))
theorem lX8_123 : em_lk1 RX8 123 yX8_isDay := Or.inl (em_in (k := 1004) (by decide +kernel))
theorem lX8_127 : em_lk1 RX8 127 yX8_isBeast := Or.inl (em_in (k := 1012) (by decide +kernel))
theorem lX8_133 : em_lk1 RX8 133 yX8_isHere := Or.inl (em_in (k := 1020) (by decide +kernel))
theorem lX8_136 : em_lk1 RX8 136 yX8_rationOf := Or.inl (em_in (k := 1028) (by decide +kernel))
theorem lX8_143 : em_lk1 RX8 143 yX8_longer := Or.inl (em_in (k := 1036) (by decide +kernel))
theorem lX8_148 : em_lk1 RX8 148 yX8_manyIn := Or.inl (em_in (k := 1060) (by decide +kernel))
theorem lX8_151 : em_lk1 RX8 151 yX8_areBarred := Or.inl (em_in (k := 1064) (by decide +kernel))
theorem lX8_155 : em_lk1 RX8 155 yX8_lays := Or.inl (em_in (k := 1072) (by decide +kernel))
theorem lX8_161 : em_lk1 RX8 161 yX8_isTown := Or.inl (em_in (k := 1084) (by decide +kernel))
theorem lX8_167 : em_lk1 RX8 167 yJ9_max_7cf53 := Or.inl (em_in (k := 1104) (by decide +kernel))
theorem lX8_181 : em_lk1 RX8 181 yX8_isLower := Or.inl (em_in (k := 1105) (by decide +kernel))
theorem lX8_184 : em_lk1 RX8 184 yX8_goOn := Or.inl (em_in (k := 1100) (by decide +kernel))
theorem lX8_188 : em_lk1 RX8 188 yX8_findTour := Or.inl (em_in (k := 1096) (by decide +kernel))
theorem lX8_192 : em_lk1 RX8 192 yX8_byteOf := Or.inl (em_in (k := 1117) (by decide +kernel))
theorem lX8_220 : em_lk1 RX8 220 yX8_word := Or.inl (em_in (k := 1136) (by decide +kernel))
theorem lX8_224 : em_lk1 RX8 224 yX8_isWord := Or.inl (em_in (k := 1145) (by decide +kernel))
theorem lX8_228 : em_lk1 RX8 228 yX8_blanks := Or.inl (em_in (k := 1128) (by decide +kernel))
theorem lX8_234 : em_lk1 RX8 234 yX8_clause := Or.inl (em_in (k := 1132) (by decide +kernel))
theorem lX8_237 : em_lk1 RX8 237 yX8_fault := Or.inl (em_in (k := 1155) (by decide +kernel))
theorem lX8_240 : em_lk1 RX8 240 yX8_hereNow := Or.inl (em_in (k := 1160) (by decide +kernel))
theorem lX8_246 : em_lk1 RX8 246 yX8_beside := Or.inl (em_in (k := 1180) (by decide +kernel))
theorem lX8_249 : em_lk1 RX8 249 yX8_all := Or.inl (em_in (k := 1188) (by decide +kernel))
theorem lL_9 : em_lk1 RL 9 yX7_init := Or.inl (em_in (k := 20) (by decide +kernel))
theorem lL_12 : em_lk1 RL 12 yX8_init := Or.inl (em_in (k := 852) (by decide +kernel))
theorem lL_13 : em_lk1 RL 13 yX7_kind := Or.inl (em_in (k := 245) (by decide +kernel))
theorem lL_17 : em_lk1 RL 17 yX8_kind := Or.inl (em_in (k := 989) (by decide +kernel))
theorem lL_18 : em_lk1 RL 18 yX7_beast := Or.inl (em_in (k := 285) (by decide +kernel))
theorem lL_22 : em_lk1 RL 22 yX8_beast := Or.inl (em_in (k := 1000) (by decide +kernel))
theorem lL_23 : em_lk1 RL 23 yX7_gone := Or.inl (em_in (k := 297) (by decide +kernel))
theorem lL_27 : em_lk1 RL 27 yX8_gone := Or.inl (em_in (k := 1008) (by decide +kernel))
theorem lL_28 : em_lk1 RL 28 yX7_here := Or.inl (em_in (k := 305) (by decide +kernel))
theorem lL_31 : em_lk1 RL 31 yX8_here := Or.inl (em_in (k := 1016) (by decide +kernel))
theorem lL_32 : em_lk1 RL 32 yX7_ration := Or.inl (em_in (k := 321) (by decide +kernel))
theorem lL_35 : em_lk1 RL 35 yX8_ration := Or.inl (em_in (k := 1024) (by decide +kernel))
theorem lL_36 : em_lk1 RL 36 yX7_day := Or.inl (em_in (k := 329) (by decide +kernel))
theorem lL_40 : em_lk1 RL 40 yX8_day := Or.inl (em_in (k := 1032) (by decide +kernel))
theorem lL_41 : em_lk1 RL 41 yX7_line := Or.inl (em_in (k := 382) (by decide +kernel))
theorem lL_44 : em_lk1 RL 44 yX8_line := Or.inl (em_in (k := 1039) (by decide +kernel))
theorem lL_45 : em_lk1 RL 45 yX7_booked := Or.inl (em_in (k := 392) (by decide +kernel))
theorem lL_49 : em_lk1 RL 49 yX8_booked := Or.inl (em_in (k := 1044) (by decide +kernel))
theorem lL_50 : em_lk1 RL 50 yX7_load := Or.inl (em_in (k := 400) (by decide +kernel))
theorem lL_53 : em_lk1 RL 53 yX8_load := Or.inl (em_in (k := 1048) (by decide +kernel))
theorem lL_54 : em_lk1 RL 54 yX7_bar := Or.inl (em_in (k := 414) (by decide +kernel))
theorem lL_58 : em_lk1 RL 58 yX8_bar := Or.inl (em_in (k := 1052) (by decide +kernel))
theorem lL_59 : em_lk1 RL 59 yX7_wagon := Or.inl (em_in (k := 426) (by decide +kernel))
theorem lL_62 : em_lk1 RL 62 yX8_wagon := Or.inl (em_in (k := 1056) (by decide +kernel))
theorem lL_63 : em_lk1 RL 63 yX7_order := Or.inl (em_in (k := 443) (by decide +kernel))
theorem lL_66 : em_lk1 RL 66 yX8_order := Or.inl (em_in (k := 1068) (by decide +kernel))
theorem lL_67 : em_lk1 RL 67 yX7_town := Or.inl (em_in (k := 488) (by decide +kernel))
theorem lL_71 : em_lk1 RL 71 yX8_town := Or.inl (em_in (k := 1076) (by decide +kernel))
theorem lL_72 : em_lk1 RL 72 yX7_way := Or.inl (em_in (k := 497) (by decide +kernel))
theorem lL_75 : em_lk1 RL 75 yX8_way := Or.inl (em_in (k := 1080) (by decide +kernel))
theorem lL_76 : em_lk1 RL 76 yX7_fodder := Or.inl (em_in (k := 509) (by decide +kernel))
theorem lL_80 : em_lk1 RL 80 yX8_fodder := Or.inl (em_in (k := 1088) (by decide +kernel))
theorem lL_81 : em_lk1 RL 81 yX7_tour := Or.inl (em_in (k := 517) (by decide +kernel))
theorem lL_84 : em_lk1 RL 84 yX8_tour := Or.inl (em_in (k := 1092) (by decide +kernel))
theorem lL_85 : em_lk1 RL 85 yX7_stop := Or.inl (em_in (k := 552) (by decide +kernel))
theorem lL_88 : em_lk1 RL 88 yX8_stop := Or.inl (em_in (k := 1109) (by decide +kernel))
theorem lL_89 : em_lk1 RL 89 yX7_feed := Or.inl (em_in (k := 560) (by decide +kernel))
theorem lL_93 : em_lk1 RL 93 yX8_feed := Or.inl (em_in (k := 1113) (by decide +kernel))
theorem lL_94 : em_lk1 RL 94 yX7_end := Or.inl (em_in (k := 579) (by decide +kernel))
theorem lL_97 : em_lk1 RL 97 yX8_end := Or.inl (em_in (k := 1120) (by decide +kernel))
theorem lL_98 : em_lk1 RL 98 yX7_fault := Or.inl (em_in (k := 588) (by decide +kernel))
theorem lL_101 : em_lk1 RL 101 yX8_fault := Or.inl (em_in (k := 1124) (by decide +kernel))
theorem lL_102 : em_lk1 RL 102 yX7_law := Or.inl (em_in (k := 693) (by decide +kernel))
theorem lL_105 : em_lk1 RL 105 yX8_law := Or.inl (em_in (k := 1151) (by decide +kernel))
theorem lL_106 : em_lk1 RL 106 yX7_may := Or.inl (em_in (k := 703) (by decide +kernel))
theorem lL_109 : em_lk1 RL 109 yX8_may := Or.inl (em_in (k := 1156) (by decide +kernel))
theorem lL_110 : em_lk1 RL 110 yX7_fee := Or.inl (em_in (k := 723) (by decide +kernel))
theorem lL_113 : em_lk1 RL 113 yX8_fee := Or.inl (em_in (k := 1164) (by decide +kernel))
theorem lL_114 : em_lk1 RL 114 yX7_wall := Or.inl (em_in (k := 736) (by decide +kernel))
theorem lL_118 : em_lk1 RL 118 yX8_wall := Or.inl (em_in (k := 1168) (by decide +kernel))
theorem lL_119 : em_lk1 RL 119 yX7_away := Or.inl (em_in (k := 748) (by decide +kernel))
theorem lL_122 : em_lk1 RL 122 yX8_away := Or.inl (em_in (k := 1172) (by decide +kernel))
theorem lL_123 : em_lk1 RL 123 yX7_hour := Or.inl (em_in (k := 760) (by decide +kernel))
theorem lL_126 : em_lk1 RL 126 yX8_hour := Or.inl (em_in (k := 1176) (by decide +kernel))
theorem lL_127 : em_lk1 RL 127 yX7_look := Or.inl (em_in (k := 776) (by decide +kernel))
theorem lL_130 : em_lk1 RL 130 yX8_look := Or.inl (em_in (k := 1184) (by decide +kernel))
theorem lL_131 : em_lk1 RL 131 yX7_maybe := Or.inl (em_in (k := 792) (by decide +kernel))
theorem lL_135 : em_lk1 RL 135 yX8_maybe := Or.inl (em_in (k := 1192) (by decide +kernel))
theorem lL_136 : em_lk1 RL 136 yX7_chance := Or.inl (em_in (k := 801) (by decide +kernel))
theorem lL_140 : em_lk1 RL 140 yX8_chance := Or.inl (em_in (k := 1197) (by decide +kernel))
theorem lL_141 : em_lk1 RL 141 yX7_where := Or.inl (em_in (k := 812) (by decide +kernel))
theorem lL_144 : em_lk1 RL 144 yX8_where := Or.inl (em_in (k := 1201) (by decide +kernel))
theorem lL_145 : em_lk1 RL 145 yX7_count := Or.inl (em_in (k := 820) (by decide +kernel))
theorem lL_148 : em_lk1 RL 148 yX8_count := Or.inl (em_in (k := 1205) (by decide +kernel))
theorem lJ7_150 : Cond.methodLink RJ7 150 arraycopyName ∈ lw_tbl := em_in (k := 371) (by decide +kernel)
theorem lJ7_304 : em_lk1 RJ7 304 yJ9_min_7cf53 := Or.inl (em_in (k := 370) (by decide +kernel))
end
section
/-! HELPERS FOR THE WALKS -/
/-- the locals, fewer and in another order -/
theorem em_loc {Γ : em_Cx} {K : Nat} {μ : em_Me} {hp0 : em_Hp} {fin : Option Value × em_Hp} {pc : Nat} {lc lc' : List (Nat × Value)} {st : List Value} {hp : em_Hp} (h : lc'.map (fun q => em_lk lc q.1) = lc'.map (fun q => some q.2)) (k : em_EW Γ K μ hp0 fin pc lc' st hp) : em_EW Γ K μ hp0 fin pc lc st hp := by
  intro p e s m args below meth c hx hb hr hlk hml hown hnm hG hs H locs cells slots ls hW hlo hcl hsl hl
  refine k p e s m args below meth c hx hb hr hlk hml hown hnm hG hs H locs cells slots ls hW hlo hcl hsl ⟨hl.1, hl.2.1, fun q hq => ?_⟩
  obtain ⟨q', hq', rfl⟩ := List.mem_map.mp hq
  exact em_at hl (List.map_inj_left.mp h q' hq')
/-- a pure step, but not from the place tgt -/
theorem em_pureT {Γ : em_Cx} {K : Nat} {μ : em_Me} {hp0 : em_Hp} {fin : Option Value × em_Hp} {B pc pc' : Nat} {lc lc' : List (Nat × Value)} {st st' : List Value} {hp : em_Hp} (tgt : Nat) (hB : B ≤ em_n hp) (hok : em_ok μ) (_ : Nat.beq pc tgt = false) (h : em_ps B μ hp pc lc st = some (pc', lc', st')) (k : em_EW Γ K μ hp0 fin pc' lc' st' hp) : em_EW Γ K μ hp0 fin pc lc st hp := em_pure hB hok h k
theorem em_lnB {hp : em_Hp} {k : Nat} (h : Nat.blt k 85 = true) : em_ln hp k = em_lS k := by simp [em_ln, h]
theorem em_ltB {hp : em_Hp} {k : Nat} (hB : 85 ≤ em_n hp) (h : Nat.blt k 85 = true) : k < em_n hp := Nat.lt_of_lt_of_le (Nat.le_of_ble_eq_true h) hB
section EmHelp
variable {Γ : em_Cx} {K : Nat} {μ : em_Me} {hp0 : em_Hp} {fin : Option Value × em_Hp} {pc a nx : Nat} {lc : List (Nat × Value)} {st t : List Value} {hp : em_Hp}
theorem em_ia {i : Int32} {k j L : Nat} (hB : 85 ≤ em_n hp) (hok : em_ok μ) (h : em_as 62 μ pc st = some (i, k, nx, t)) (hk : em_k k = 9) (h85 : Nat.blt k 85 = true) (hL : em_lS k = L) (e : i = nI j) (hj : j < L) (hL2 : Nat.blt L 100000 = true) (kk : em_EW Γ K μ hp0 fin nx lc (.int (em_I hp k j) :: t) hp) : em_EW Γ K μ hp0 fin pc lc st hp := by
  have hb : L < 100000 := Nat.le_of_ble_eq_true hL2
  subst e
  refine em_iald hok h hk (em_ltB hB h85) (by rw [em_lnB h85, hL]; exact vp_in_nI hj (by omega)) ?_
  rw [nI_clamp (by omega)]
  exact kk
theorem em_za {i : Int32} {k j L : Nat} (hB : 85 ≤ em_n hp) (hok : em_ok μ) (h : em_as 63 μ pc st = some (i, k, nx, t)) (hk : em_k k = 11) (h85 : Nat.blt k 85 = true) (hL : em_lS k = L) (e : i = nI j) (hj : j < L) (hL2 : Nat.blt L 100000 = true) (kk : em_EW Γ K μ hp0 fin nx lc (.int (em_I hp k j) :: t) hp) : em_EW Γ K μ hp0 fin pc lc st hp := by
  have hb : L < 100000 := Nat.le_of_ble_eq_true hL2
  subst e
  refine em_zald hok h hk (em_ltB hB h85) (by rw [em_lnB h85, hL]; exact vp_in_nI hj (by omega)) ?_
  rw [nI_clamp (by omega)]
  exact kk
theorem em_ja {i : Int32} {k j L : Nat} (hB : 85 ≤ em_n hp) (hok : em_ok μ) (h : em_as 64 μ pc st = some (i, k, nx, t)) (hk : em_k k = 10) (h85 : Nat.blt k 85 = true) (hL : em_lS k = L) (e : i = nI j) (hj : j < L) (hL2 : Nat.blt L 100000 = true) (kk : em_EW Γ K μ hp0 fin nx lc (.long (em_J hp k j) :: t) hp) : em_EW Γ K μ hp0 fin pc lc st hp := by
  have hb : L < 100000 := Nat.le_of_ble_eq_true hL2
  subst e
  refine em_lald hok h hk (em_ltB hB h85) (by rw [em_lnB h85, hL]; exact vp_in_nI hj (by omega)) ?_
  rw [nI_clamp (by omega)]
  exact kk
theorem em_iw {x i : Int32} {k j L : Nat} (hB : 85 ≤ em_n hp) (hok : em_ok μ) (h : em_wI 66 μ pc st = some (x, i, k, nx, t)) (hk : em_k k = 9) (h85 : Nat.blt k 85 = true) (hL : em_lS k = L) (e : i = nI j) (hj : j < L) (hL2 : Nat.blt L 100000 = true) (kk : em_EW Γ K μ hp0 fin nx lc t (em_sI hp k (va_up (em_I hp k) j x))) : em_EW Γ K μ hp0 fin pc lc st hp := by
  have hb : L < 100000 := Nat.le_of_ble_eq_true hL2
  subst e
  refine em_iast hok h hk (em_ltB hB h85) (by rw [em_lnB h85, hL]; exact vp_in_nI hj (by omega)) ?_
  rw [nI_clamp (by omega)]
  exact kk
theorem em_zw {x i : Int32} {k j L : Nat} (hB : 85 ≤ em_n hp) (hok : em_ok μ) (h : em_wI 67 μ pc st = some (x, i, k, nx, t)) (hk : em_k k = 11) (h85 : Nat.blt k 85 = true) (hL : em_lS k = L) (e : i = nI j) (hj : j < L) (hL2 : Nat.blt L 100000 = true) (h01 : x = 0 ∨ x = 1) (kk : em_EW Γ K μ hp0 fin nx lc t (em_sI hp k (va_up (em_I hp k) j x))) : em_EW Γ K μ hp0 fin pc lc st hp := by
  have hb : L < 100000 := Nat.le_of_ble_eq_true hL2
  subst e
  refine em_zast hok h hk (em_ltB hB h85) (by rw [em_lnB h85, hL]; exact vp_in_nI hj (by omega)) h01 ?_
  rw [nI_clamp (by omega)]
  exact kk
theorem em_jw {x : Int64} {i : Int32} {k j L : Nat} (hB : 85 ≤ em_n hp) (hok : em_ok μ) (h : em_wJ μ pc st = some (x, i, k, nx, t)) (hk : em_k k = 10) (h85 : Nat.blt k 85 = true) (hL : em_lS k = L) (e : i = nI j) (hj : j < L) (hL2 : Nat.blt L 100000 = true) (kk : em_EW Γ K μ hp0 fin nx lc t (em_sJ hp k (va_up (em_J hp k) j x))) : em_EW Γ K μ hp0 fin pc lc st hp := by
  have hb : L < 100000 := Nat.le_of_ble_eq_true hL2
  subst e
  refine em_last hok h hk (em_ltB hB h85) (by rw [em_lnB h85, hL]; exact vp_in_nI hj (by omega)) ?_
  rw [nI_clamp (by omega)]
  exact kk
/-- an int field of a fixed cell is set -/
theorem em_pi {c j k : Nat} {x : Int32} {r : vw_C} (hB : 85 ≤ em_n hp) (hok : em_ok μ) (h : em_pf μ pc = some (c, j, nx)) (hk : em_k k = c) (hc9 : Nat.blt c 9 = true) (h85 : Nat.blt k 85 = true) (hr0 : vwCl[c]? = some r) (hfin : (r.2.1 j).2.2.2 = false) (ht : em_ty c j = .int) (kk : em_EW Γ K μ hp0 fin nx lc t (em_sI hp k (va_up (em_I hp k) j x))) : em_EW Γ K μ hp0 fin pc lc (.int x :: .ref k :: t) hp := em_putI hok h hk (Nat.le_of_ble_eq_true hc9) (em_ltB hB h85) hr0 hfin ht kk
/-- branches on a truth value that was answered -/
theorem em_bz {P : Prop} [Decidable P] (hok : em_ok μ) (h : em_at1 50 μ pc = some (a, nx)) (kf : P → em_EW Γ K μ hp0 fin nx lc t hp) (kt : ¬ P → em_EW Γ K μ hp0 fin a lc t hp) : em_EW Γ K μ hp0 fin pc lc (.int (if P then 1 else 0) :: t) hp := by
  obtain ⟨b, hi⟩ := em_at1_i h
  refine em_branch hok (P := (if P then (1 : Int32) else 0) = 0) (tgt := a) (nx := nx) (t := t) (by simp only [em_bs, hi]) (fun q => ?_) (fun q => ?_)
  · by_cases hP : P
    · rw [if_pos hP] at q; exact absurd q (by decide)
    · exact kt hP
  · by_cases hP : P
    · exact kf hP
    · rw [if_neg hP] at q; exact absurd rfl q
theorem em_bn {P : Prop} [Decidable P] (hok : em_ok μ) (h : em_at1 51 μ pc = some (a, nx)) (kt : P → em_EW Γ K μ hp0 fin a lc t hp) (kf : ¬ P → em_EW Γ K μ hp0 fin nx lc t hp) : em_EW Γ K μ hp0 fin pc lc (.int (if P then 1 else 0) :: t) hp := by
  obtain ⟨b, hi⟩ := em_at1_i h
  refine em_branch hok (P := ¬ (if P then (1 : Int32) else 0) = 0) (tgt := a) (nx := nx) (t := t) (by simp only [em_bs, hi]) (fun q => ?_) (fun q => ?_)
  · by_cases hP : P
    · exact kt hP
    · rw [if_neg hP] at q; exact absurd rfl q
  · by_cases hP : P
    · rw [if_pos hP] at q; exact absurd (by decide) q
    · exact kf hP
end EmHelp
theorem em_nb {P : Prop} [Decidable P] : narrow .boolean (.int (if P then 1 else 0)) = .int (if P then 1 else 0) := by by_cases h : P <;> simp [h] <;> rfl
theorem s_within (Γ : em_Cx) (hp : em_Hp) (x y z : Int32) : em_MC Γ 0 mX7_within [.int x, .int y, .int z] hp (some (.int (if y ≤ x ∧ x ≤ z then 1 else 0))) hp := by
  refine em_MC_of (Nat.le_refl _) (Nat.le_refl _) (by decide +kernel) rfl (Nat.le_of_ble_eq_true rfl) ?_
  (repeat (refine em_pure (Nat.zero_le _) kX7_within rfl ?_))
  refine em_branch kX7_within rfl (fun h1 => ?_) (fun h1 => ?_)
  · (repeat (refine em_pure (Nat.zero_le _) kX7_within rfl ?_))
    exact em_iret kX7_within rfl rfl rfl (by rw [if_neg (fun q => absurd h1 (Int32.not_lt.mpr q.1))])
  · (repeat (refine em_pure (Nat.zero_le _) kX7_within rfl ?_))
    refine em_branch kX7_within rfl (fun h2 => ?_) (fun h2 => ?_)
    · (repeat (refine em_pure (Nat.zero_le _) kX7_within rfl ?_))
      exact em_iret kX7_within rfl rfl rfl (by rw [if_neg (fun q => absurd h2 (Int32.not_lt.mpr q.2))])
    · (repeat (refine em_pure (Nat.zero_le _) kX7_within rfl ?_))
      exact em_iret kX7_within rfl rfl rfl (by rw [if_pos ⟨Int32.not_lt.mp h1, Int32.not_lt.mp h2⟩])
theorem s_in (Γ : em_Cx) (hp : em_Hp) (x y z : Int32) : em_MC Γ 0 mX8_in [.int x, .int y, .int z] hp (some (.int (if y ≤ x ∧ x ≤ z then 1 else 0))) hp := by
  refine em_MC_of (Nat.le_refl _) (Nat.le_refl _) (by decide +kernel) rfl (Nat.le_of_ble_eq_true rfl) ?_
  (repeat (refine em_pure (Nat.zero_le _) kX8_in rfl ?_))
  refine em_branch kX8_in rfl (fun h1 => ?_) (fun h1 => ?_)
  · (repeat (refine em_pure (Nat.zero_le _) kX8_in rfl ?_))
    exact em_iret kX8_in rfl rfl rfl (by rw [if_neg (fun q => absurd h1 (Int32.not_lt.mpr q.1))])
  · (repeat (refine em_pure (Nat.zero_le _) kX8_in rfl ?_))
    refine em_branch kX8_in rfl (fun h2 => ?_) (fun h2 => ?_)
    · (repeat (refine em_pure (Nat.zero_le _) kX8_in rfl ?_))
      exact em_iret kX8_in rfl rfl rfl (by rw [if_neg (fun q => absurd h2 (Int32.not_lt.mpr q.2))])
    · (repeat (refine em_pure (Nat.zero_le _) kX8_in rfl ?_))
      exact em_iret kX8_in rfl rfl rfl (by rw [if_pos ⟨Int32.not_lt.mp h1, Int32.not_lt.mp h2⟩])
theorem s_isKind (Γ : em_Cx) (hp : em_Hp) (x : Int32) : em_MC Γ 1 mX7_isKind [.int x] hp (some (.int (if 0 ≤ x ∧ x ≤ 7 then 1 else 0))) hp := by
  refine em_MC_of (Nat.le_refl _) (Nat.le_refl _) (by decide +kernel) rfl (Nat.le_of_ble_eq_true rfl) ?_
  (repeat (refine em_pure (Nat.zero_le _) kX7_isKind rfl ?_))
  refine em_callS (μ' := mX7_within) kX7_isKind rfl lX7_68 tX7_within (s_within Γ hp x 0 7) rfl rfl (by decide) (by decide) (Nat.le_refl _) (Nat.le_refl _) ?_
  (repeat (refine em_pure (Nat.zero_le _) kX7_isKind rfl ?_))
  exact em_iret kX7_isKind rfl rfl em_nb rfl
end
section
/-! THE HEAP BETWEEN THE LAW'S CALLS: the references stand, but for the rows of lines (class: rv.1; reference: three) and the reference's two rows of maybes -/
abbrev em_Rv : Type := Nat × Nat × Nat × Nat × Bool
def em_RR (rv : em_Rv) (k j : Nat) : Option Nat := (bif Nat.blt k 35 then
  (bif Nat.blt k 21 then
  (bif Nat.blt k 12 then
  (bif Nat.blt k 1 then
  (bif Nat.beq k 0 then (bif Nat.blt j 4 then (bif Nat.blt j 2 then (bif Nat.blt j 1 then (bif Nat.beq j 0 then some 1 else none) else (bif Nat.beq j 1 then some 12 else none)) else (bif Nat.blt j 3 then (bif Nat.beq j 2 then some 15 else none) else (bif Nat.beq j 3 then some 21 else none))) else (bif Nat.blt j 6 then (bif Nat.blt j 5 then (bif Nat.beq j 4 then some 28 else none) else (bif Nat.beq j 5 then some 30 else none)) else (bif Nat.blt j 7 then (bif Nat.beq j 6 then some 47 else none) else (bif Nat.beq j 7 then some 49 else none)))) else none) else
  (bif Nat.beq k 1 then (bif Nat.blt j 7 then (bif Nat.blt j 3 then (bif Nat.blt j 1 then (bif Nat.beq j 0 then some 2 else none) else (bif Nat.beq j 1 then some 3 else none)) else (bif Nat.blt j 4 then (bif Nat.beq j 3 then some 4 else none) else (bif Nat.blt j 5 then (bif Nat.beq j 4 then some 5 else none) else (bif Nat.beq j 5 then some 6 else none)))) else (bif Nat.blt j 9 then (bif Nat.blt j 8 then (bif Nat.beq j 7 then some 7 else none) else (bif Nat.beq j 8 then some 8 else none)) else (bif Nat.blt j 11 then (bif Nat.beq j 9 then some 9 else none) else (bif Nat.blt j 12 then (bif Nat.beq j 11 then some 10 else none) else (bif Nat.beq j 12 then some 11 else none))))) else none)) else
  (bif Nat.blt k 15 then
  (bif Nat.beq k 12 then (bif Nat.blt j 2 then (bif Nat.beq j 0 then some 13 else none) else (bif Nat.beq j 2 then some rv.1 else none)) else none) else
  (bif Nat.beq k 15 then (bif Nat.blt j 3 then (bif Nat.blt j 1 then (bif Nat.beq j 0 then some 1 else none) else (bif Nat.blt j 2 then (bif Nat.beq j 1 then some 16 else none) else (bif Nat.beq j 2 then some 17 else none))) else (bif Nat.blt j 4 then (bif Nat.beq j 3 then some 18 else none) else (bif Nat.blt j 5 then (bif Nat.beq j 4 then some 19 else none) else (bif Nat.beq j 5 then some 20 else none)))) else none))) else
  (bif Nat.blt k 30 then
  (bif Nat.blt k 28 then
  (bif Nat.beq k 21 then (bif Nat.blt j 4 then (bif Nat.blt j 2 then (bif Nat.beq j 1 then some 22 else none) else (bif Nat.blt j 3 then (bif Nat.beq j 2 then some 23 else none) else (bif Nat.beq j 3 then some 24 else none))) else (bif Nat.blt j 8 then (bif Nat.beq j 4 then some 25 else none) else (bif Nat.blt j 11 then (bif Nat.beq j 8 then some 26 else none) else (bif Nat.beq j 11 then some 27 else none)))) else none) else
  (bif Nat.beq k 28 then (bif Nat.beq j 0 then some 29 else none) else none)) else
  (bif Nat.blt k 31 then
  (bif Nat.beq k 30 then (some (31 + 2 * j)) else none) else
  (bif Nat.blt k 33 then
  (bif Nat.beq k 31 then (bif Nat.beq j 1 then some 32 else none) else none) else
  (bif Nat.beq k 33 then (bif Nat.beq j 1 then some 34 else none) else none))))) else
  (bif Nat.blt k 43 then
  (bif Nat.blt k 39 then
  (bif Nat.blt k 37 then
  (bif Nat.beq k 35 then (bif Nat.beq j 1 then some 36 else none) else none) else
  (bif Nat.beq k 37 then (bif Nat.beq j 1 then some 38 else none) else none)) else
  (bif Nat.blt k 41 then
  (bif Nat.beq k 39 then (bif Nat.beq j 1 then some 40 else none) else none) else
  (bif Nat.beq k 41 then (bif Nat.beq j 1 then some 42 else none) else none))) else
  (bif Nat.blt k 47 then
  (bif Nat.blt k 45 then
  (bif Nat.beq k 43 then (bif Nat.beq j 1 then some 44 else none) else none) else
  (bif Nat.beq k 45 then (bif Nat.beq j 1 then some 46 else none) else none)) else
  (bif Nat.blt k 49 then
  (bif Nat.beq k 47 then (bif Nat.beq j 1 then some 48 else none) else none) else
  (bif Nat.blt k 53 then
  (bif Nat.beq k 49 then (bif Nat.blt j 1 then (bif Nat.beq j 0 then some 50 else none) else (bif Nat.blt j 2 then (bif Nat.beq j 1 then some 51 else none) else (bif Nat.beq j 2 then some 52 else none))) else none) else
  (bif Nat.beq k 53 then (bif Nat.blt j 23 then (bif Nat.blt j 15 then (bif Nat.blt j 11 then (bif Nat.blt j 9 then (bif Nat.beq j 8 then some 54 else none) else (bif Nat.blt j 10 then (bif Nat.beq j 9 then some 55 else none) else (bif Nat.beq j 10 then some 56 else none))) else (bif Nat.blt j 13 then (bif Nat.blt j 12 then (bif Nat.beq j 11 then some 57 else none) else (bif Nat.beq j 12 then some 58 else none)) else (bif Nat.blt j 14 then (bif Nat.beq j 13 then some 59 else none) else (bif Nat.beq j 14 then some 60 else none)))) else (bif Nat.blt j 19 then (bif Nat.blt j 17 then (bif Nat.blt j 16 then (bif Nat.beq j 15 then some 61 else none) else (bif Nat.beq j 16 then some 62 else none)) else (bif Nat.blt j 18 then (bif Nat.beq j 17 then some 63 else none) else (bif Nat.beq j 18 then some rv.2.1 else none))) else (bif Nat.blt j 21 then (bif Nat.blt j 20 then (bif Nat.beq j 19 then some rv.2.2.1 else none) else (bif Nat.beq j 20 then some rv.2.2.2.1 else none)) else (bif Nat.blt j 22 then (bif Nat.beq j 21 then some 67 else none) else (bif Nat.beq j 22 then some 68 else none))))) else (bif Nat.blt j 34 then (bif Nat.blt j 27 then (bif Nat.blt j 25 then (bif Nat.blt j 24 then (bif Nat.beq j 23 then some 69 else none) else (bif Nat.beq j 24 then some 70 else none)) else (bif Nat.blt j 26 then (bif Nat.beq j 25 then some 71 else none) else (bif Nat.beq j 26 then some 72 else none))) else (bif Nat.blt j 29 then (bif Nat.blt j 28 then (bif Nat.beq j 27 then some 73 else none) else (bif Nat.beq j 28 then some 74 else none)) else (bif Nat.blt j 30 then (bif Nat.beq j 29 then some 75 else none) else (bif Nat.beq j 30 then some 76 else none)))) else (bif Nat.blt j 40 then (bif Nat.blt j 37 then (bif Nat.blt j 36 then (bif Nat.beq j 34 then some 77 else none) else (bif Nat.beq j 36 then some 78 else none)) else (bif Nat.blt j 38 then (bif Nat.beq j 37 then some 79 else none) else (bif Nat.beq j 38 then some 80 else none))) else (bif Nat.blt j 42 then (bif Nat.blt j 41 then (bif Nat.beq j 40 then some 81 else none) else (bif Nat.beq j 41 then some 82 else none)) else (bif Nat.blt j 43 then (bif Nat.beq j 42 then some (bif rv.2.2.2.2 then 84 else 83) else none) else (bif Nat.beq j 43 then some (bif rv.2.2.2.2 then 83 else 84) else none)))))) else none))))))
abbrev em_hm (n m : Nat) (dl : Nat → Nat) (I : Nat → Nat → Int32) (J : Nat → Nat → Int64) (rv : em_Rv) : em_Hp := ((n, m), dl, I, J, em_RR rv)
theorem em_sI2 (hp : em_Hp) (k : Nat) (r r' : Nat → Int32) : em_sI (em_sI hp k r) k r' = em_sI hp k r' := by
  show (_, _, va_up (va_up _ k r) k r', _) = (_, _, va_up _ k r', _)
  rw [bx_uu]
theorem em_sJ2 (hp : em_Hp) (k : Nat) (r r' : Nat → Int64) : em_sJ (em_sJ hp k r) k r' = em_sJ hp k r' := by
  show (_, _, _, va_up (va_up _ k r) k r', _) = (_, _, _, va_up _ k r', _)
  rw [bx_uu]
theorem em_I1 (hp : em_Hp) (k : Nat) (r : Nat → Int32) : em_I (em_sI hp k r) k = r := va_up_self _ _ _
theorem em_J1 (hp : em_Hp) (k : Nat) (r : Nat → Int64) : em_J (em_sJ hp k r) k = r := va_up_self _ _ _
/-- a row filled below a place -/
def em_fil {α : Type} (f : Nat → α) (v : α) (n : Nat) : Nat → α := fun q => if q < n then v else f q
theorem em_fil_0 {α : Type} (f : Nat → α) (v : α) : em_fil f v 0 = f := by funext q; simp [em_fil]
theorem em_fil_s {α : Type} (f : Nat → α) (v : α) (n : Nat) : va_up (em_fil f v n) n v = em_fil f v (n + 1) := by
  funext q
  by_cases h : q = n
  · subst h; simp [va_up, em_fil]
  · by_cases h2 : q < n
    · simp [va_up, em_fil, h, h2, Nat.lt_succ_of_lt h2]
    · have h3 : ¬ q < n + 1 := by omega
      simp [va_up, em_fil, h, h2, h3]
theorem em_sI_id (hp : em_Hp) (k : Nat) : em_sI hp k (em_I hp k) = hp := by
  obtain ⟨a, b, I, J, R⟩ := hp
  have : va_up I k (I k) = I := by
    funext q
    by_cases h : q = k
    · subst h; simp [va_up]
    · simp [va_up, h]
  show (a, b, va_up I k (I k), J, R) = (a, b, I, J, R)
  rw [this]
theorem em_sJ_id (hp : em_Hp) (k : Nat) : em_sJ hp k (em_J hp k) = hp := by
  obtain ⟨a, b, I, J, R⟩ := hp
  have : va_up J k (J k) = J := by
    funext q
    by_cases h : q = k
    · subst h; simp [va_up]
    · simp [va_up, h]
  show (a, b, I, va_up J k (J k), R) = (a, b, I, J, R)
  rw [this]
theorem s_fillI (Γ : em_Cx) (hp : em_Hp) {k L : Nat} (v : Int32) (hk : em_k k = 9) (hn : k < em_n hp) (hL : em_ln hp k = L) (hb : L < 100000) : em_MC Γ 0 mJ7_fill_53178 [.ref k, .int v] hp none (em_sI hp k (em_fil (em_I hp k) v L)) := by
  refine em_MC_of (Nat.le_refl _) (Nat.le_refl _) (by decide +kernel) rfl (Nat.le_of_ble_eq_true rfl) ?_
  (repeat (refine em_pure (Nat.zero_le _) kJ7_fill_53178 rfl ?_))
  refine em_alen kJ7_fill_53178 rfl (Or.inl hk) hn ?_
  (repeat (refine em_pureT 5 (Nat.zero_le _) kJ7_fill_53178 rfl rfl ?_))
  rw [hL]
  have loop : ∀ d j, j + d = L → em_EW Γ 0 mJ7_fill_53178 hp (none, em_sI hp k (em_fil (em_I hp k) v L)) 5 [(0, .ref k), (1, .int v), (2, .int (nI j)), (3, .int (nI L))] [] (em_sI hp k (em_fil (em_I hp k) v j)) := by
    intro d
    induction d with
    | zero =>
      intro j hj
      obtain rfl : j = L := by omega
      (repeat (refine em_pure (Nat.zero_le _) kJ7_fill_53178 rfl ?_))
      refine em_branch kJ7_fill_53178 rfl (fun _ => ?_) (fun h1 => absurd (nI_le (Nat.le_refl j) (by omega)) h1)
      (repeat (refine em_pure (Nat.zero_le _) kJ7_fill_53178 rfl ?_))
      exact em_vret kJ7_fill_53178 rfl rfl rfl
    | succ d ih =>
      intro j hj
      (repeat (refine em_pure (Nat.zero_le _) kJ7_fill_53178 rfl ?_))
      refine em_branch kJ7_fill_53178 rfl (fun h1 => absurd h1 (nI_ge (by omega) (by omega))) (fun _ => ?_)
      (repeat (refine em_pure (Nat.zero_le _) kJ7_fill_53178 rfl ?_))
      refine em_iast kJ7_fill_53178 rfl hk hn (by show vp_in (nI j) (em_ln hp k); rw [hL]; exact vp_in_nI (by omega) (by omega)) ?_
      rw [nI_clamp (by omega), em_sI2, em_I1, em_fil_s]
      (repeat (refine em_pureT 5 (Nat.zero_le _) kJ7_fill_53178 rfl rfl ?_))
      refine em_loc (lc' := [(0, .ref k), (1, .int v), (2, .int (nI j + 1)), (3, .int (nI L))]) rfl ?_
      rw [nI_1]
      exact ih (j + 1) (by omega)
  refine em_loc (lc' := [(0, .ref k), (1, .int v), (2, .int (nI 0)), (3, .int (nI L))]) rfl ?_
  have h0 := loop L 0 (by omega)
  rw [em_fil_0, em_sI_id] at h0
  exact h0
end
section
/-! THE HERD -/
/-- what was told of beasts that are gone, from place i on, d of them, as known in q: a row of days -/
def em_rec (I : Nat → Nat → Int32) (q : Int32) : Nat → Nat → (Nat → Int32) → Nat → Int32
  | 0, _, g => g
  | d + 1, i, g => if q < I 9 i then g else em_rec I q d (i + 1) (va_up g (I 7 i).toNatClampNeg (I 8 i))
abbrev em_std (I : Nat → Nat → Int32) (g : Nat → Int32) (j : Nat) (d q : Int32) : Prop := (I 6 j ≤ q ∧ I 5 j ≤ d) ∧ (g j = -1 ∨ d < g j)
section Herd
variable {Γ : em_Cx} {n m : Nat} {dl : Nat → Nat} {I : Nat → Nat → Int32} {J : Nat → Nat → Int64} {rv : em_Rv}
theorem s_today (hB : 85 ≤ n) : em_MC Γ 0 mX3_today [.ref 1] (em_hm n m dl I J rv) (some (.int (I 1 10))) (em_hm n m dl I J rv) := by
  refine em_MC_of (Nat.le_refl _) (Nat.le_refl _) (by decide +kernel) rfl (Nat.le_of_ble_eq_true rfl) ?_
  (repeat (refine em_pure hB kX3_today rfl ?_))
  exact em_iret kX3_today rfl rfl rfl rfl
theorem s_size (hB : 85 ≤ n) : em_MC Γ 0 mX3_size [.ref 1] (em_hm n m dl I J rv) (some (.int (I 1 2))) (em_hm n m dl I J rv) := by
  refine em_MC_of (Nat.le_refl _) (Nat.le_refl _) (by decide +kernel) rfl (Nat.le_of_ble_eq_true rfl) ?_
  (repeat (refine em_pure hB kX3_size rfl ?_))
  exact em_iret kX3_size rfl rfl rfl rfl
theorem s_nextDay (hB : 85 ≤ n) : em_MC Γ 0 mX3_nextDay [.ref 1] (em_hm n m dl I J rv) none (em_sI (em_hm n m dl I J rv) 1 (va_up (I 1) 10 (I 1 10 + 1))) := by
  refine em_MC_of (Nat.le_refl _) (Nat.le_refl _) (by decide +kernel) rfl (Nat.le_of_ble_eq_true rfl) ?_
  (repeat (refine em_pure hB kX3_nextDay rfl ?_))
  refine em_pi hB kX3_nextDay rfl rfl rfl rfl rfl rfl rfl ?_
  (repeat (refine em_pure hB kX3_nextDay rfl ?_))
  exact em_vret kX3_nextDay rfl rfl rfl
theorem s_isBeast (hB : 85 ≤ n) (b : Int32) : em_MC Γ 1 mX3_isBeast [.ref 1, .int b] (em_hm n m dl I J rv) (some (.int (if 0 ≤ b ∧ b ≤ I 1 2 - 1 then 1 else 0))) (em_hm n m dl I J rv) := by
  refine em_MC_of (Nat.le_refl _) (Nat.le_refl _) (by decide +kernel) rfl (Nat.le_of_ble_eq_true rfl) ?_
  (repeat (refine em_pure hB kX3_isBeast rfl ?_))
  refine em_callS (μ' := mX7_within) kX3_isBeast rfl lX3_55 tX7_within (s_within Γ _ b 0 (I 1 2 - 1)) rfl rfl (by decide) (Nat.le_of_ble_eq_true rfl) (Nat.le_refl _) (Nat.le_refl _) ?_
  (repeat (refine em_pure hB kX3_isBeast rfl ?_))
  exact em_iret kX3_isBeast rfl rfl em_nb rfl
theorem s_isDay (hB : 85 ≤ n) (b : Int32) : em_MC Γ 1 mX3_isDay [.ref 1, .int b] (em_hm n m dl I J rv) (some (.int (if 0 ≤ b ∧ b ≤ I 1 10 then 1 else 0))) (em_hm n m dl I J rv) := by
  refine em_MC_of (Nat.le_refl _) (Nat.le_refl _) (by decide +kernel) rfl (Nat.le_of_ble_eq_true rfl) ?_
  (repeat (refine em_pure hB kX3_isDay rfl ?_))
  refine em_callS (μ' := mX7_within) kX3_isDay rfl lX3_55 tX7_within (s_within Γ _ b 0 (I 1 10)) rfl rfl (by decide) (Nat.le_of_ble_eq_true rfl) (Nat.le_refl _) (Nat.le_refl _) ?_
  (repeat (refine em_pure hB kX3_isDay rfl ?_))
  exact em_iret kX3_isDay rfl rfl em_nb rfl
theorem em_inB {b : Int32} {j N : Nat} {x : Int32} (hx : x = nI N) (hN : N < 100000) (hb : b = nI j) (hj : j < N) : 0 ≤ b ∧ b ≤ x - 1 := by
  subst hb; subst hx
  obtain ⟨k, rfl⟩ : ∃ k, N = k + 1 := ⟨N - 1, by omega⟩
  rw [nI_pred]
  exact ⟨nI_pos' (by omega), nI_le (by omega) (by omega)⟩
theorem em_inB2 {b x : Int32} {N : Nat} (hx : x = nI N) (hN : N ≤ 40) (h : 0 ≤ b ∧ b ≤ x - 1) : ∃ j, j < N ∧ b = nI j := by
  subst hx
  cases N with
  | zero =>
    have h1 : (0 : Int32) ≤ nI 0 - 1 := Int32.le_trans h.1 h.2
    exact absurd h1 (by decide)
  | succ k =>
    rw [nI_pred] at h
    obtain ⟨j, hj, e⟩ := nI_of2 (M := nI k) (nI_toInt (by omega)) (Int32.not_lt.mpr h.1) h.2
    exact ⟨j, by omega, e⟩
theorem s_kindOfBeast (hB : 85 ≤ n) {b : Int32} {j N : Nat} (hx : I 1 2 = nI N) (hN : N ≤ 40) (hb : b = nI j) (hj : j < N) : em_MC Γ 2 mX3_kindOfBeast [.ref 1, .int b] (em_hm n m dl I J rv) (some (.int (I 4 j))) (em_hm n m dl I J rv) := by
  refine em_MC_of (Nat.le_refl _) (Nat.le_refl _) (by decide +kernel) rfl (Nat.le_of_ble_eq_true rfl) ?_
  (repeat (refine em_pure hB kX3_kindOfBeast rfl ?_))
  refine em_callV (μ' := mX3_isBeast) (c1 := 3) kX3_kindOfBeast rfl lX3_59 tX3_isBeast (by decide) rfl (em_ltB hB rfl) (s_isBeast hB b) rfl rfl (by decide) (Nat.le_of_ble_eq_true rfl) (Nat.le_refl _) (Nat.le_refl _) ?_
  refine em_bz kX3_kindOfBeast rfl (fun _ => ?_) (fun h => absurd (em_inB hx (by omega) hb hj) h)
  (repeat (refine em_pure hB kX3_kindOfBeast rfl ?_))
  refine em_ia (L := 40) hB kX3_kindOfBeast rfl rfl rfl rfl hb (by omega) rfl ?_
  (repeat (refine em_pure hB kX3_kindOfBeast rfl ?_))
  exact em_iret kX3_kindOfBeast rfl rfl rfl rfl
theorem em_inK {b : Int32} {j : Nat} (hb : b = nI j) (hj : j < 8) : 0 ≤ b ∧ b ≤ 7 := by
  subst hb
  exact ⟨nI_pos' (by omega), nI_le (b := 7) (by omega) (by omega)⟩
theorem s_weightOfKind (hB : 85 ≤ n) {b : Int32} {j : Nat} (hb : b = nI j) (hj : j < 8) : em_MC Γ 2 mX3_weightOfKind [.ref 1, .int b] (em_hm n m dl I J rv) (some (.int (I 3 j))) (em_hm n m dl I J rv) := by
  refine em_MC_of (Nat.le_refl _) (Nat.le_refl _) (by decide +kernel) rfl (Nat.le_of_ble_eq_true rfl) ?_
  (repeat (refine em_pure hB kX3_weightOfKind rfl ?_))
  refine em_callS (μ' := mX7_isKind) kX3_weightOfKind rfl lX3_63 tX7_isKind (s_isKind Γ _ b) rfl rfl (by decide) (Nat.le_of_ble_eq_true rfl) (Nat.le_refl _) (Nat.le_refl _) ?_
  refine em_bz kX3_weightOfKind rfl (fun _ => ?_) (fun h => absurd (em_inK hb hj) h)
  (repeat (refine em_pure hB kX3_weightOfKind rfl ?_))
  refine em_ia (L := 8) hB kX3_weightOfKind rfl rfl rfl rfl hb hj rfl ?_
  (repeat (refine em_pure hB kX3_weightOfKind rfl ?_))
  exact em_iret kX3_weightOfKind rfl rfl rfl rfl
theorem s_setKind (hB : 85 ≤ n) {b f w : Int32} {j : Nat} (hb : b = nI j) (hj : j < 8) : em_MC Γ 2 mX3_setKind [.ref 1, .int b, .int f, .int w] (em_hm n m dl I J rv) none (em_sI (em_sI (em_hm n m dl I J rv) 2 (va_up (I 2) j f)) 3 (va_up (I 3) j w)) := by
  refine em_MC_of (Nat.le_refl _) (Nat.le_refl _) (by decide +kernel) rfl (Nat.le_of_ble_eq_true rfl) ?_
  (repeat (refine em_pure hB kX3_setKind rfl ?_))
  refine em_callS (μ' := mX7_isKind) kX3_setKind rfl lX3_63 tX7_isKind (s_isKind Γ _ b) rfl rfl (by decide) (Nat.le_of_ble_eq_true rfl) (Nat.le_refl _) (Nat.le_refl _) ?_
  refine em_bz kX3_setKind rfl (fun _ => ?_) (fun h => absurd (em_inK hb hj) h)
  (repeat (refine em_pure hB kX3_setKind rfl ?_))
  refine em_iw (L := 8) hB kX3_setKind rfl rfl rfl rfl hb hj rfl ?_
  (repeat (refine em_pure hB kX3_setKind rfl ?_))
  refine em_iw (L := 8) hB kX3_setKind rfl rfl rfl rfl hb hj rfl ?_
  (repeat (refine em_pure hB kX3_setKind rfl ?_))
  exact em_vret kX3_setKind rfl rfl rfl
theorem s_tellBeast_no (hB : 85 ≤ n) {k f : Int32} (h : ¬ ((0 ≤ k ∧ k ≤ 7) ∧ (0 ≤ f ∧ f ≤ I 1 10) ∧ I 1 2 < 40)) : em_MC Γ 2 mX3_tellBeast [.ref 1, .int k, .int f] (em_hm n m dl I J rv) (some (.int (-1))) (em_hm n m dl I J rv) := by
  refine em_MC_of (Nat.le_refl _) (Nat.le_refl _) (by decide +kernel) rfl (Nat.le_of_ble_eq_true rfl) ?_
  (repeat (refine em_pure hB kX3_tellBeast rfl ?_))
  refine em_callS (μ' := mX7_isKind) kX3_tellBeast rfl lX3_63 tX7_isKind (s_isKind Γ _ k) rfl rfl (by decide) (Nat.le_of_ble_eq_true rfl) (Nat.le_refl _) (Nat.le_refl _) ?_
  refine em_bz kX3_tellBeast rfl (fun h1 => ?_) (fun h1 => ?_)
  · (repeat (refine em_pure hB kX3_tellBeast rfl ?_))
    refine em_callV (μ' := mX3_isDay) (c1 := 3) kX3_tellBeast rfl lX3_66 tX3_isDay (by decide) rfl (em_ltB hB rfl) (s_isDay hB f) rfl rfl (by decide) (Nat.le_of_ble_eq_true rfl) (Nat.le_refl _) (Nat.le_refl _) ?_
    refine em_bz kX3_tellBeast rfl (fun h2 => ?_) (fun h2 => ?_)
    · (repeat (refine em_pure hB kX3_tellBeast rfl ?_))
      refine em_branch kX3_tellBeast rfl (fun h3 => absurd ⟨h1, h2, h3⟩ h) (fun h3 => ?_)
      (repeat (refine em_pure hB kX3_tellBeast rfl ?_))
      exact em_iret kX3_tellBeast rfl rfl rfl rfl
    · (repeat (refine em_pure hB kX3_tellBeast rfl ?_))
      exact em_iret kX3_tellBeast rfl rfl rfl rfl
  · (repeat (refine em_pure hB kX3_tellBeast rfl ?_))
    exact em_iret kX3_tellBeast rfl rfl rfl rfl
theorem s_tellBeast_ok (hB : 85 ≤ n) {k f : Int32} {N : Nat} (hx : I 1 2 = nI N) (hN : N < 40) (h1 : 0 ≤ k ∧ k ≤ 7) (h2 : 0 ≤ f ∧ f ≤ I 1 10) : em_MC Γ 2 mX3_tellBeast [.ref 1, .int k, .int f] (em_hm n m dl I J rv) (some (.int (nI N))) (em_sI (em_sI (em_sI (em_sI (em_hm n m dl I J rv) 4 (va_up (I 4) N k)) 5 (va_up (I 5) N f)) 6 (va_up (I 6) N (I 1 10))) 1 (va_up (I 1) 2 (I 1 2 + 1))) := by
  refine em_MC_of (Nat.le_refl _) (Nat.le_refl _) (by decide +kernel) rfl (Nat.le_of_ble_eq_true rfl) ?_
  (repeat (refine em_pure hB kX3_tellBeast rfl ?_))
  refine em_callS (μ' := mX7_isKind) kX3_tellBeast rfl lX3_63 tX7_isKind (s_isKind Γ _ k) rfl rfl (by decide) (Nat.le_of_ble_eq_true rfl) (Nat.le_refl _) (Nat.le_refl _) ?_
  refine em_bz kX3_tellBeast rfl (fun _ => ?_) (fun h => absurd h1 h)
  (repeat (refine em_pure hB kX3_tellBeast rfl ?_))
  refine em_callV (μ' := mX3_isDay) (c1 := 3) kX3_tellBeast rfl lX3_66 tX3_isDay (by decide) rfl (em_ltB hB rfl) (s_isDay hB f) rfl rfl (by decide) (Nat.le_of_ble_eq_true rfl) (Nat.le_refl _) (Nat.le_refl _) ?_
  refine em_bz kX3_tellBeast rfl (fun _ => ?_) (fun h => absurd h2 h)
  (repeat (refine em_pure hB kX3_tellBeast rfl ?_))
  refine em_branch kX3_tellBeast rfl (fun _ => ?_) (fun h => absurd (by rw [show em_I (em_hm n m dl I J rv) 1 2 = nI N from hx]; exact nI_lt (b := 40) hN (by omega)) h)
  (repeat (refine em_pure hB kX3_tellBeast rfl ?_))
  refine em_iw (L := 40) hB kX3_tellBeast rfl rfl rfl rfl hx hN rfl ?_
  (repeat (refine em_pure hB kX3_tellBeast rfl ?_))
  refine em_iw (L := 40) hB kX3_tellBeast rfl rfl rfl rfl hx hN rfl ?_
  (repeat (refine em_pure hB kX3_tellBeast rfl ?_))
  refine em_iw (L := 40) hB kX3_tellBeast rfl rfl rfl rfl hx hN rfl ?_
  (repeat (refine em_pure hB kX3_tellBeast rfl ?_))
  refine em_pi hB kX3_tellBeast rfl rfl rfl rfl rfl rfl rfl ?_
  (repeat (refine em_pure hB kX3_tellBeast rfl ?_))
  exact em_iret kX3_tellBeast rfl rfl rfl (Prod.ext (congrArg (fun z => some (Value.int z)) (show nI N = I 1 2 + 1 - 1 by rw [hx, nI_1, nI_pred])) rfl)
theorem s_recall (hB : 85 ≤ n) {q : Int32} {G : Nat} (hx : I 1 6 = nI G) (hG : G ≤ 200) (hb : ∀ i, i < G → ∃ b, b < 40 ∧ I 7 i = nI b) : em_MC Γ 1 mX3_recall [.ref 1, .int q] (em_hm n m dl I J rv) none (em_sI (em_hm n m dl I J rv) 10 (em_rec I q G 0 (em_fil (I 10) (-1) 40))) := by
  refine em_MC_of (Nat.le_refl _) (Nat.le_refl _) (by decide +kernel) rfl (Nat.le_of_ble_eq_true rfl) ?_
  (repeat (refine em_pure hB kX3_recall rfl ?_))
  refine em_callS (μ' := mJ7_fill_53178) kX3_recall rfl lX3_42 tJ7_fill_53178 (s_fillI Γ _ (-1) (L := 40) (k := 10) rfl (em_ltB hB rfl) rfl (by decide)) rfl rfl (by decide) (Nat.le_of_ble_eq_true rfl) (Nat.le_refl _) (Nat.le_refl _) ?_
  have loop : ∀ d j g, j + d = G → em_EW Γ 1 mX3_recall (em_hm n m dl I J rv) (none, em_sI (em_hm n m dl I J rv) 10 (em_rec I q d j g)) 10 [(0, .ref 1), (1, .int q), (2, .int (nI j))] [] (em_sI (em_hm n m dl I J rv) 10 g) := by
    intro d
    induction d with
    | zero =>
      intro j g hj
      obtain rfl : j = G := by omega
      (repeat (refine em_pure hB kX3_recall rfl ?_))
      refine em_branch kX3_recall rfl (fun _ => ?_) (fun h1 => absurd (by show I 1 6 ≤ nI j; rw [hx]; exact nI_le (Nat.le_refl j) (by omega)) h1)
      (repeat (refine em_pure hB kX3_recall rfl ?_))
      exact em_vret kX3_recall rfl rfl rfl
    | succ d ih =>
      intro j g hj
      (repeat (refine em_pure hB kX3_recall rfl ?_))
      refine em_branch kX3_recall rfl (fun h1 => absurd h1 (by show ¬ I 1 6 ≤ nI j; rw [hx]; exact nI_ge (by omega) (by omega))) (fun _ => ?_)
      (repeat (refine em_pure hB kX3_recall rfl ?_))
      refine em_ia (L := 200) hB kX3_recall rfl rfl rfl rfl rfl (by omega) rfl ?_
      (repeat (refine em_pure hB kX3_recall rfl ?_))
      refine em_branch kX3_recall rfl (fun (h2 : q < I 9 j) => ?_) (fun (h2 : ¬ q < I 9 j) => ?_)
      · (repeat (refine em_pure hB kX3_recall rfl ?_))
        refine em_vret kX3_recall rfl rfl ?_
        rw [em_rec, if_pos h2]
      · (repeat (refine em_pure hB kX3_recall rfl ?_))
        refine em_ia (L := 200) hB kX3_recall rfl rfl rfl rfl rfl (by omega) rfl ?_
        (repeat (refine em_pure hB kX3_recall rfl ?_))
        refine em_ia (L := 200) hB kX3_recall rfl rfl rfl rfl rfl (by omega) rfl ?_
        (repeat (refine em_pure hB kX3_recall rfl ?_))
        obtain ⟨b, hb40, hbe⟩ := hb j (by omega)
        refine em_iw (L := 40) hB kX3_recall rfl rfl rfl rfl hbe hb40 rfl ?_
        rw [em_sI2, em_I1]
        (repeat (refine em_pureT 10 hB kX3_recall rfl rfl ?_))
        refine em_loc (lc' := [(0, .ref 1), (1, .int q), (2, .int (nI j + 1))]) rfl ?_
        rw [nI_1]
        have h3 := ih (j + 1) (va_up g b (I 8 j)) (by omega)
        have e3 : em_rec I q (d + 1) j g = em_rec I q d (j + 1) (va_up g b (I 8 j)) := by
          rw [em_rec, if_neg h2, hbe, nI_clamp (by omega)]
        rw [e3]
        exact h3
  (repeat (refine em_pureT 10 hB kX3_recall rfl rfl ?_))
  refine em_loc (lc' := [(0, .ref 1), (1, .int q), (2, .int (nI 0))]) rfl ?_
  exact loop G 0 _ (by omega)
theorem s_stands (hB : 85 ≤ n) {b d q : Int32} {j : Nat} (hb : b = nI j) (hj : j < 40) : em_MC Γ 0 mX3_stands [.ref 1, .int b, .int d, .int q] (em_hm n m dl I J rv) (some (.int (if em_std I (I 10) j d q then 1 else 0))) (em_hm n m dl I J rv) := by
  refine em_MC_of (Nat.le_refl _) (Nat.le_refl _) (by decide +kernel) rfl (Nat.le_of_ble_eq_true rfl) ?_
  (repeat (refine em_pure hB kX3_stands rfl ?_))
  refine em_ia (L := 40) hB kX3_stands rfl rfl rfl rfl hb hj rfl ?_
  (repeat (refine em_pure hB kX3_stands rfl ?_))
  refine em_branch kX3_stands rfl (fun h1 => ?_) (fun h1 => ?_)
  · (repeat (refine em_pure hB kX3_stands rfl ?_))
    refine em_branch kX3_stands rfl (fun _ => ?_) (fun h => absurd rfl h)
    (repeat (refine em_pure hB kX3_stands rfl ?_))
    exact em_iret kX3_stands rfl rfl rfl (by rw [if_neg (fun z => absurd h1 (Int32.not_lt.mpr z.1.1))])
  · (repeat (refine em_pure hB kX3_stands rfl ?_))
    refine em_ia (L := 40) hB kX3_stands rfl rfl rfl rfl hb hj rfl ?_
    (repeat (refine em_pure hB kX3_stands rfl ?_))
    refine em_branch kX3_stands rfl (fun h2 => ?_) (fun h2 => ?_)
    · (repeat (refine em_pure hB kX3_stands rfl ?_))
      refine em_branch kX3_stands rfl (fun _ => ?_) (fun h => absurd rfl h)
      (repeat (refine em_pure hB kX3_stands rfl ?_))
      exact em_iret kX3_stands rfl rfl rfl (by rw [if_neg (fun z => absurd h2 (Int32.not_lt.mpr z.1.2))])
    · (repeat (refine em_pure hB kX3_stands rfl ?_))
      refine em_branch kX3_stands rfl (fun h => absurd h (by decide)) (fun _ => ?_)
      (repeat (refine em_pure hB kX3_stands rfl ?_))
      refine em_ia (L := 40) hB kX3_stands rfl rfl rfl rfl hb hj rfl ?_
      (repeat (refine em_pure hB kX3_stands rfl ?_))
      refine em_branch kX3_stands rfl (fun h3 => ?_) (fun h3 => ?_)
      · (repeat (refine em_pure hB kX3_stands rfl ?_))
        exact em_iret kX3_stands rfl rfl rfl (by rw [if_pos ⟨⟨Int32.not_lt.mp h1, Int32.not_lt.mp h2⟩, Or.inl h3⟩])
      · (repeat (refine em_pure hB kX3_stands rfl ?_))
        refine em_ia (L := 40) hB kX3_stands rfl rfl rfl rfl hb hj rfl ?_
        (repeat (refine em_pure hB kX3_stands rfl ?_))
        refine em_branch kX3_stands rfl (fun h4 => ?_) (fun h4 => ?_)
        · (repeat (refine em_pure hB kX3_stands rfl ?_))
          exact em_iret kX3_stands rfl rfl rfl (by rw [if_neg (fun z => z.2.elim h3 (fun z => absurd h4 (Int32.not_le.mpr z)))])
        · (repeat (refine em_pure hB kX3_stands rfl ?_))
          exact em_iret kX3_stands rfl rfl rfl (by rw [if_pos ⟨⟨Int32.not_lt.mp h1, Int32.not_lt.mp h2⟩, Or.inr (Int32.not_le.mp h4)⟩])
theorem s_tellGone_no (hB : 85 ≤ n) {b f : Int32} {N G : Nat} (hx : I 1 2 = nI N) (hN : N ≤ 40) (hg : I 1 6 = nI G) (hG : G ≤ 200) (h : ¬ ((0 ≤ b ∧ b ≤ I 1 2 - 1) ∧ I 1 6 < 200 ∧ (f = -1 ∨ (I 5 b.toNatClampNeg ≤ f ∧ f ≤ I 1 10)))) : em_MC Γ 2 mX3_tellGone [.ref 1, .int b, .int f] (em_hm n m dl I J rv) (some (.int 0)) (em_hm n m dl I J rv) := by
  refine em_MC_of (Nat.le_refl _) (Nat.le_refl _) (by decide +kernel) rfl (Nat.le_of_ble_eq_true rfl) ?_
  (repeat (refine em_pure hB kX3_tellGone rfl ?_))
  refine em_callV (μ' := mX3_isBeast) (c1 := 3) kX3_tellGone rfl lX3_59 tX3_isBeast (by decide) rfl (em_ltB hB rfl) (s_isBeast hB b) rfl rfl (by decide) (Nat.le_of_ble_eq_true rfl) (Nat.le_refl _) (Nat.le_refl _) ?_
  refine em_bz kX3_tellGone rfl (fun h1 => ?_) (fun h1 => ?_)
  · (repeat (refine em_pure hB kX3_tellGone rfl ?_))
    refine em_branch kX3_tellGone rfl (fun (h2 : I 1 6 < 200) => ?_) (fun h2 => ?_)
    · (repeat (refine em_pure hB kX3_tellGone rfl ?_))
      obtain ⟨j, hj, hb⟩ := em_inB2 hx hN h1
      refine em_branch kX3_tellGone rfl (fun (h3 : f = -1) => absurd ⟨h1, h2, Or.inl h3⟩ h) (fun h3 => ?_)
      (repeat (refine em_pure hB kX3_tellGone rfl ?_))
      refine em_ia (L := 40) hB kX3_tellGone rfl rfl rfl rfl hb (by omega) rfl ?_
      (repeat (refine em_pure hB kX3_tellGone rfl ?_))
      refine em_callS (μ' := mX7_within) kX3_tellGone rfl lX3_55 tX7_within (s_within Γ _ f (I 5 j) (I 1 10)) rfl rfl (by decide) (Nat.le_of_ble_eq_true rfl) (Nat.le_refl _) (Nat.le_refl _) ?_
      refine em_bn kX3_tellGone rfl (fun h4 => ?_) (fun h4 => ?_)
      · refine absurd ⟨h1, h2, Or.inr ?_⟩ h
        rw [hb, nI_clamp (by omega)]
        exact h4
      · (repeat (refine em_pure hB kX3_tellGone rfl ?_))
        exact em_iret kX3_tellGone rfl rfl rfl rfl
    · (repeat (refine em_pure hB kX3_tellGone rfl ?_))
      exact em_iret kX3_tellGone rfl rfl rfl rfl
  · (repeat (refine em_pure hB kX3_tellGone rfl ?_))
    exact em_iret kX3_tellGone rfl rfl rfl rfl
theorem s_tellGone_ok (hB : 85 ≤ n) {b f : Int32} {N G j : Nat} (hx : I 1 2 = nI N) (hN : N ≤ 40) (hg : I 1 6 = nI G) (hG : G < 200) (hb : b = nI j) (hj : j < N) (hf : f = -1 ∨ (I 5 j ≤ f ∧ f ≤ I 1 10)) : em_MC Γ 2 mX3_tellGone [.ref 1, .int b, .int f] (em_hm n m dl I J rv) (some (.int 1)) (em_sI (em_sI (em_sI (em_sI (em_hm n m dl I J rv) 7 (va_up (I 7) G b)) 8 (va_up (I 8) G f)) 9 (va_up (I 9) G (I 1 10))) 1 (va_up (I 1) 6 (I 1 6 + 1))) := by
  refine em_MC_of (Nat.le_refl _) (Nat.le_refl _) (by decide +kernel) rfl (Nat.le_of_ble_eq_true rfl) ?_
  (repeat (refine em_pure hB kX3_tellGone rfl ?_))
  refine em_callV (μ' := mX3_isBeast) (c1 := 3) kX3_tellGone rfl lX3_59 tX3_isBeast (by decide) rfl (em_ltB hB rfl) (s_isBeast hB b) rfl rfl (by decide) (Nat.le_of_ble_eq_true rfl) (Nat.le_refl _) (Nat.le_refl _) ?_
  refine em_bz kX3_tellGone rfl (fun h1 => ?_) (fun h1 => absurd (em_inB hx (by omega) hb hj) h1)
  (repeat (refine em_pure hB kX3_tellGone rfl ?_))
  refine em_branch kX3_tellGone rfl (fun _ => ?_) (fun (h : ¬ I 1 6 < 200) => absurd (by rw [hg]; exact nI_lt (b := 200) hG (by omega)) h)
  have tail : em_EW Γ 2 mX3_tellGone (em_hm n m dl I J rv) (some (.int 1), em_sI (em_sI (em_sI (em_sI (em_hm n m dl I J rv) 7 (va_up (I 7) G b)) 8 (va_up (I 8) G f)) 9 (va_up (I 9) G (I 1 10))) 1 (va_up (I 1) 6 (I 1 6 + 1))) 44 [(0, .ref 1), (1, .int b), (2, .int f)] [] (em_hm n m dl I J rv) := by
    (repeat (refine em_pure hB kX3_tellGone rfl ?_))
    refine em_iw (L := 200) hB kX3_tellGone rfl rfl rfl rfl hg hG rfl ?_
    (repeat (refine em_pure hB kX3_tellGone rfl ?_))
    refine em_iw (L := 200) hB kX3_tellGone rfl rfl rfl rfl hg hG rfl ?_
    (repeat (refine em_pure hB kX3_tellGone rfl ?_))
    refine em_iw (L := 200) hB kX3_tellGone rfl rfl rfl rfl hg hG rfl ?_
    (repeat (refine em_pure hB kX3_tellGone rfl ?_))
    refine em_pi hB kX3_tellGone rfl rfl rfl rfl rfl rfl rfl ?_
    (repeat (refine em_pure hB kX3_tellGone rfl ?_))
    exact em_iret kX3_tellGone rfl rfl rfl rfl
  (repeat (refine em_pure hB kX3_tellGone rfl ?_))
  refine em_branch kX3_tellGone rfl (fun (h3 : f = -1) => tail) (fun h3 => ?_)
  (repeat (refine em_pure hB kX3_tellGone rfl ?_))
  refine em_ia (L := 40) hB kX3_tellGone rfl rfl rfl rfl hb (by omega) rfl ?_
  (repeat (refine em_pure hB kX3_tellGone rfl ?_))
  refine em_callS (μ' := mX7_within) kX3_tellGone rfl lX3_55 tX7_within (s_within Γ _ f (I 5 j) (I 1 10)) rfl rfl (by decide) (Nat.le_of_ble_eq_true rfl) (Nat.le_refl _) (Nat.le_refl _) ?_
  refine em_bn kX3_tellGone rfl (fun _ => tail) (fun h4 => absurd (hf.resolve_left h3) h4)
theorem s_isHere_no (hB : 85 ≤ n) {b d q : Int32} (h : ¬ ((0 ≤ b ∧ b ≤ I 1 2 - 1) ∧ (0 ≤ d ∧ d ≤ I 1 10) ∧ (0 ≤ q ∧ q ≤ I 1 10))) : em_MC Γ 3 mX3_isHere [.ref 1, .int b, .int d, .int q] (em_hm n m dl I J rv) (some (.int 0)) (em_hm n m dl I J rv) := by
  refine em_MC_of (Nat.le_refl _) (Nat.le_refl _) (by decide +kernel) rfl (Nat.le_of_ble_eq_true rfl) ?_
  (repeat (refine em_pure hB kX3_isHere rfl ?_))
  refine em_callV (μ' := mX3_isBeast) (c1 := 3) kX3_isHere rfl lX3_59 tX3_isBeast (by decide) rfl (em_ltB hB rfl) (s_isBeast hB b) rfl rfl (by decide) (Nat.le_of_ble_eq_true rfl) (Nat.le_refl _) (Nat.le_refl _) ?_
  refine em_bz kX3_isHere rfl (fun h1 => ?_) (fun h1 => ?_)
  · (repeat (refine em_pure hB kX3_isHere rfl ?_))
    refine em_callV (μ' := mX3_isDay) (c1 := 3) kX3_isHere rfl lX3_66 tX3_isDay (by decide) rfl (em_ltB hB rfl) (s_isDay hB d) rfl rfl (by decide) (Nat.le_of_ble_eq_true rfl) (Nat.le_refl _) (Nat.le_refl _) ?_
    refine em_bz kX3_isHere rfl (fun h2 => ?_) (fun h2 => ?_)
    · (repeat (refine em_pure hB kX3_isHere rfl ?_))
      refine em_callV (μ' := mX3_isDay) (c1 := 3) kX3_isHere rfl lX3_66 tX3_isDay (by decide) rfl (em_ltB hB rfl) (s_isDay hB q) rfl rfl (by decide) (Nat.le_of_ble_eq_true rfl) (Nat.le_refl _) (Nat.le_refl _) ?_
      refine em_bn kX3_isHere rfl (fun h3 => absurd ⟨h1, h2, h3⟩ h) (fun h3 => ?_)
      (repeat (refine em_pure hB kX3_isHere rfl ?_))
      exact em_iret kX3_isHere rfl rfl rfl rfl
    · (repeat (refine em_pure hB kX3_isHere rfl ?_))
      exact em_iret kX3_isHere rfl rfl rfl rfl
  · (repeat (refine em_pure hB kX3_isHere rfl ?_))
    exact em_iret kX3_isHere rfl rfl rfl rfl
/-- the days from which the beasts are gone, as known in q -/
abbrev em_gf (I : Nat → Nat → Int32) (G : Nat) (q : Int32) : Nat → Int32 := em_rec I q G 0 (em_fil (I 10) (-1) 40)
theorem s_isHere_ok (hB : 85 ≤ n) {b d q : Int32} {N G j : Nat} (hx : I 1 2 = nI N) (hN : N ≤ 40) (hg : I 1 6 = nI G) (hG : G ≤ 200) (hgb : ∀ i, i < G → ∃ b, b < 40 ∧ I 7 i = nI b) (hb : b = nI j) (hj : j < N) (h2 : 0 ≤ d ∧ d ≤ I 1 10) (h3 : 0 ≤ q ∧ q ≤ I 1 10) : em_MC Γ 3 mX3_isHere [.ref 1, .int b, .int d, .int q] (em_hm n m dl I J rv) (some (.int (if em_std I (em_gf I G q) j d q then 1 else 0))) (em_sI (em_hm n m dl I J rv) 10 (em_gf I G q)) := by
  refine em_MC_of (Nat.le_refl _) (Nat.le_refl _) (by decide +kernel) rfl (Nat.le_of_ble_eq_true rfl) ?_
  (repeat (refine em_pure hB kX3_isHere rfl ?_))
  refine em_callV (μ' := mX3_isBeast) (c1 := 3) kX3_isHere rfl lX3_59 tX3_isBeast (by decide) rfl (em_ltB hB rfl) (s_isBeast hB b) rfl rfl (by decide) (Nat.le_of_ble_eq_true rfl) (Nat.le_refl _) (Nat.le_refl _) ?_
  refine em_bz kX3_isHere rfl (fun _ => ?_) (fun h => absurd (em_inB hx (by omega) hb hj) h)
  (repeat (refine em_pure hB kX3_isHere rfl ?_))
  refine em_callV (μ' := mX3_isDay) (c1 := 3) kX3_isHere rfl lX3_66 tX3_isDay (by decide) rfl (em_ltB hB rfl) (s_isDay hB d) rfl rfl (by decide) (Nat.le_of_ble_eq_true rfl) (Nat.le_refl _) (Nat.le_refl _) ?_
  refine em_bz kX3_isHere rfl (fun _ => ?_) (fun h => absurd h2 h)
  (repeat (refine em_pure hB kX3_isHere rfl ?_))
  refine em_callV (μ' := mX3_isDay) (c1 := 3) kX3_isHere rfl lX3_66 tX3_isDay (by decide) rfl (em_ltB hB rfl) (s_isDay hB q) rfl rfl (by decide) (Nat.le_of_ble_eq_true rfl) (Nat.le_refl _) (Nat.le_refl _) ?_
  refine em_bn kX3_isHere rfl (fun _ => ?_) (fun h => absurd h3 h)
  (repeat (refine em_pure hB kX3_isHere rfl ?_))
  refine em_callV (μ' := mX3_recall) (c1 := 3) kX3_isHere rfl lX3_72 tX3_recall (by decide) rfl (em_ltB hB rfl) (s_recall hB (q := q) hg hG hgb) rfl rfl (by decide) (Nat.le_of_ble_eq_true rfl) (Nat.le_refl _) (Nat.le_refl _) ?_
  (repeat (refine em_pure hB kX3_isHere rfl ?_))
  refine em_callV (μ' := mX3_stands) (c1 := 3) kX3_isHere rfl lX3_76 tX3_stands (by decide) rfl (em_ltB hB rfl) (s_stands (I := va_up I 10 (em_gf I G q)) hB (d := d) (q := q) hb (by omega)) rfl rfl (by decide) (Nat.le_of_ble_eq_true rfl) (Nat.le_refl _) (Nat.le_refl _) ?_
  (repeat (refine em_pure hB kX3_isHere rfl ?_))
  exact em_iret kX3_isHere rfl rfl em_nb rfl
theorem s_rationOf_no (hB : 85 ≤ n) {d q : Int32} (h : ¬ ((0 ≤ d ∧ d ≤ I 1 10) ∧ (0 ≤ q ∧ q ≤ I 1 10))) : em_MC Γ 3 mX3_rationOf [.ref 1, .int d, .int q] (em_hm n m dl I J rv) (some (.int (-1))) (em_hm n m dl I J rv) := by
  refine em_MC_of (Nat.le_refl _) (Nat.le_refl _) (by decide +kernel) rfl (Nat.le_of_ble_eq_true rfl) ?_
  (repeat (refine em_pure hB kX3_rationOf rfl ?_))
  refine em_callV (μ' := mX3_isDay) (c1 := 3) kX3_rationOf rfl lX3_66 tX3_isDay (by decide) rfl (em_ltB hB rfl) (s_isDay hB d) rfl rfl (by decide) (Nat.le_of_ble_eq_true rfl) (Nat.le_refl _) (Nat.le_refl _) ?_
  refine em_bz kX3_rationOf rfl (fun h2 => ?_) (fun h2 => ?_)
  · (repeat (refine em_pure hB kX3_rationOf rfl ?_))
    refine em_callV (μ' := mX3_isDay) (c1 := 3) kX3_rationOf rfl lX3_66 tX3_isDay (by decide) rfl (em_ltB hB rfl) (s_isDay hB q) rfl rfl (by decide) (Nat.le_of_ble_eq_true rfl) (Nat.le_refl _) (Nat.le_refl _) ?_
    refine em_bn kX3_rationOf rfl (fun h3 => absurd ⟨h2, h3⟩ h) (fun h3 => ?_)
    (repeat (refine em_pure hB kX3_rationOf rfl ?_))
    exact em_iret kX3_rationOf rfl rfl rfl rfl
  · (repeat (refine em_pure hB kX3_rationOf rfl ?_))
    exact em_iret kX3_rationOf rfl rfl rfl rfl
/-- what the first N beasts eat on a day, as known in q -/
abbrev em_eat (I : Nat → Nat → Int32) (g : Nat → Int32) (d q : Int32) (N : Nat) : Int32 := bx_sum (fun b => if em_std I g b d q then I 2 (I 4 b).toNatClampNeg else 0) N
theorem s_rationOf_ok (hB : 85 ≤ n) {d q : Int32} {N G : Nat} (hx : I 1 2 = nI N) (hN : N ≤ 40) (hg : I 1 6 = nI G) (hG : G ≤ 200) (hgb : ∀ i, i < G → ∃ b, b < 40 ∧ I 7 i = nI b) (hk : ∀ b, b < N → ∃ k, k < 8 ∧ I 4 b = nI k) (h2 : 0 ≤ d ∧ d ≤ I 1 10) (h3 : 0 ≤ q ∧ q ≤ I 1 10) : em_MC Γ 3 mX3_rationOf [.ref 1, .int d, .int q] (em_hm n m dl I J rv) (some (.int (em_eat I (em_gf I G q) d q N))) (em_sI (em_hm n m dl I J rv) 10 (em_gf I G q)) := by
  refine em_MC_of (Nat.le_refl _) (Nat.le_refl _) (by decide +kernel) rfl (Nat.le_of_ble_eq_true rfl) ?_
  (repeat (refine em_pure hB kX3_rationOf rfl ?_))
  refine em_callV (μ' := mX3_isDay) (c1 := 3) kX3_rationOf rfl lX3_66 tX3_isDay (by decide) rfl (em_ltB hB rfl) (s_isDay hB d) rfl rfl (by decide) (Nat.le_of_ble_eq_true rfl) (Nat.le_refl _) (Nat.le_refl _) ?_
  refine em_bz kX3_rationOf rfl (fun _ => ?_) (fun h => absurd h2 h)
  (repeat (refine em_pure hB kX3_rationOf rfl ?_))
  refine em_callV (μ' := mX3_isDay) (c1 := 3) kX3_rationOf rfl lX3_66 tX3_isDay (by decide) rfl (em_ltB hB rfl) (s_isDay hB q) rfl rfl (by decide) (Nat.le_of_ble_eq_true rfl) (Nat.le_refl _) (Nat.le_refl _) ?_
  refine em_bn kX3_rationOf rfl (fun _ => ?_) (fun h => absurd h3 h)
  (repeat (refine em_pure hB kX3_rationOf rfl ?_))
  refine em_callV (μ' := mX3_recall) (c1 := 3) kX3_rationOf rfl lX3_72 tX3_recall (by decide) rfl (em_ltB hB rfl) (s_recall hB (q := q) hg hG hgb) rfl rfl (by decide) (Nat.le_of_ble_eq_true rfl) (Nat.le_refl _) (Nat.le_refl _) ?_
  have loop : ∀ e j, j + e = N → em_EW Γ 3 mX3_rationOf (em_hm n m dl I J rv) (some (.int (em_eat I (em_gf I G q) d q N)), em_sI (em_hm n m dl I J rv) 10 (em_gf I G q)) 28 [(0, .ref 1), (1, .int d), (2, .int q), (3, .int (em_eat I (em_gf I G q) d q j)), (4, .int (nI j))] [] (em_sI (em_hm n m dl I J rv) 10 (em_gf I G q)) := by
    intro e
    induction e with
    | zero =>
      intro j hj
      obtain rfl : j = N := by omega
      (repeat (refine em_pure hB kX3_rationOf rfl ?_))
      refine em_branch kX3_rationOf rfl (fun _ => ?_) (fun h1 => absurd (by show I 1 2 ≤ nI j; rw [hx]; exact nI_le (Nat.le_refl j) (by omega)) h1)
      (repeat (refine em_pure hB kX3_rationOf rfl ?_))
      exact em_iret kX3_rationOf rfl rfl rfl rfl
    | succ e ih =>
      intro j hj
      have tail : em_EW Γ 3 mX3_rationOf (em_hm n m dl I J rv) (some (.int (em_eat I (em_gf I G q) d q N)), em_sI (em_hm n m dl I J rv) 10 (em_gf I G q)) 63 [(0, .ref 1), (1, .int d), (2, .int q), (3, .int (em_eat I (em_gf I G q) d q (j + 1))), (4, .int (nI j))] [] (em_sI (em_hm n m dl I J rv) 10 (em_gf I G q)) := by
        (repeat (refine em_pureT 28 hB kX3_rationOf rfl rfl ?_))
        refine em_loc (lc' := [(0, .ref 1), (1, .int d), (2, .int q), (3, .int (em_eat I (em_gf I G q) d q (j + 1))), (4, .int (nI j + 1))]) rfl ?_
        rw [nI_1]
        exact ih (j + 1) (by omega)
      (repeat (refine em_pure hB kX3_rationOf rfl ?_))
      refine em_branch kX3_rationOf rfl (fun h1 => absurd h1 (by show ¬ I 1 2 ≤ nI j; rw [hx]; exact nI_ge (by omega) (by omega))) (fun _ => ?_)
      (repeat (refine em_pure hB kX3_rationOf rfl ?_))
      refine em_callV (μ' := mX3_stands) (c1 := 3) kX3_rationOf rfl lX3_76 tX3_stands (by decide) rfl (em_ltB hB rfl) (s_stands (I := va_up I 10 (em_gf I G q)) hB (d := d) (q := q) (j := j) rfl (by omega)) rfl rfl (by decide) (Nat.le_of_ble_eq_true rfl) (Nat.le_refl _) (Nat.le_refl _) ?_
      refine em_bz kX3_rationOf rfl (fun (h : em_std I (em_gf I G q) j d q) => ?_) (fun (h : ¬ em_std I (em_gf I G q) j d q) => ?_)
      · (repeat (refine em_pure hB kX3_rationOf rfl ?_))
        refine em_ia (L := 40) hB kX3_rationOf rfl rfl rfl rfl rfl (by omega) rfl ?_
        obtain ⟨k, hk8, hke⟩ := hk j (by omega)
        refine em_ia (L := 8) hB kX3_rationOf rfl rfl rfl rfl hke hk8 rfl ?_
        (repeat (refine em_pureT 63 hB kX3_rationOf rfl rfl ?_))
        refine em_loc (lc' := [(0, .ref 1), (1, .int d), (2, .int q), (3, .int (em_eat I (em_gf I G q) d q j + I 2 k)), (4, .int (nI j))]) rfl ?_
        have e1 : em_eat I (em_gf I G q) d q (j + 1) = em_eat I (em_gf I G q) d q j + I 2 k := by
          show bx_sum _ j + (if em_std I (em_gf I G q) j d q then I 2 (I 4 j).toNatClampNeg else 0) = _
          rw [if_pos h, hke, nI_clamp (by omega)]
        rw [← e1]
        exact tail
      · have e1 : em_eat I (em_gf I G q) d q (j + 1) = em_eat I (em_gf I G q) d q j := by
          show bx_sum _ j + (if em_std I (em_gf I G q) j d q then I 2 (I 4 j).toNatClampNeg else 0) = _
          rw [if_neg h, Int32.add_zero]
        rw [e1] at tail
        exact tail
  (repeat (refine em_pureT 28 hB kX3_rationOf rfl rfl ?_))
  refine em_loc (lc' := [(0, .ref 1), (1, .int d), (2, .int q), (3, .int 0), (4, .int (nI 0))]) rfl ?_
  exact loop N 0 (by omega)
end Herd
end
section
/-! THE REFERENCE'S HERD -/
def em_till (I : Nat → Nat → Int32) (b q : Int32) : Nat → Int32
  | 0 => -1
  | i + 1 => if I 60 i = b ∧ I 62 i ≤ q then I 61 i else em_till I b q i
abbrev em_msd (I : Nat → Nat → Int32) (G : Nat) (j : Nat) (d q : Int32) : Prop := (I 58 j ≤ q ∧ I 57 j ≤ d) ∧ (em_till I (nI j) q G = -1 ∨ d < em_till I (nI j) q G)
section MHerd
variable {Γ : em_Cx} {n m : Nat} {dl : Nat → Nat} {I : Nat → Nat → Int32} {J : Nat → Nat → Int64} {rv : em_Rv}
theorem s_mIsBeast (hB : 85 ≤ n) (b : Int32) : em_MC Γ 1 mX8_isBeast [.ref 53, .int b] (em_hm n m dl I J rv) (some (.int (if 0 ≤ b ∧ b ≤ I 53 1 - 1 then 1 else 0))) (em_hm n m dl I J rv) := by
  refine em_MC_of (Nat.le_refl _) (Nat.le_refl _) (by decide +kernel) rfl (Nat.le_of_ble_eq_true rfl) ?_
  (repeat (refine em_pure hB kX8_isBeast rfl ?_))
  refine em_callS (μ' := mX8_in) kX8_isBeast rfl lX8_112 tX8_in (s_in Γ _ b 0 (I 53 1 - 1)) rfl rfl (by decide) (Nat.le_of_ble_eq_true rfl) (Nat.le_refl _) (Nat.le_refl _) ?_
  (repeat (refine em_pure hB kX8_isBeast rfl ?_))
  exact em_iret kX8_isBeast rfl rfl em_nb rfl
theorem s_mIsDay (hB : 85 ≤ n) (b : Int32) : em_MC Γ 1 mX8_isDay [.ref 53, .int b] (em_hm n m dl I J rv) (some (.int (if 0 ≤ b ∧ b ≤ I 53 0 then 1 else 0))) (em_hm n m dl I J rv) := by
  refine em_MC_of (Nat.le_refl _) (Nat.le_refl _) (by decide +kernel) rfl (Nat.le_of_ble_eq_true rfl) ?_
  (repeat (refine em_pure hB kX8_isDay rfl ?_))
  refine em_callS (μ' := mX8_in) kX8_isDay rfl lX8_112 tX8_in (s_in Γ _ b 0 (I 53 0)) rfl rfl (by decide) (Nat.le_of_ble_eq_true rfl) (Nat.le_refl _) (Nat.le_refl _) ?_
  (repeat (refine em_pure hB kX8_isDay rfl ?_))
  exact em_iret kX8_isDay rfl rfl em_nb rfl
abbrev em_mw (I : Nat → Nat → Int32) (w : Int32) (N : Nat) : Int32 := bx_sum (fun b => if I 59 b = w then I 55 (I 56 b).toNatClampNeg else 0) N
theorem s_mWeightOf (hB : 85 ≤ n) {w : Int32} {N : Nat} (hx : I 53 1 = nI N) (hN : N ≤ 40) (hk : ∀ b, b < N → ∃ k, k < 8 ∧ I 56 b = nI k) : em_MC Γ 0 mX8_weightOf [.ref 53, .int w] (em_hm n m dl I J rv) (some (.int (em_mw I w N))) (em_hm n m dl I J rv) := by
  refine em_MC_of (Nat.le_refl _) (Nat.le_refl _) (by decide +kernel) rfl (Nat.le_of_ble_eq_true rfl) ?_
  have loop : ∀ e j, j + e = N → em_EW Γ 0 mX8_weightOf (em_hm n m dl I J rv) (some (.int (em_mw I w N)), em_hm n m dl I J rv) 4 [(0, .ref 53), (1, .int w), (2, .int (em_mw I w j)), (3, .int (nI j))] [] (em_hm n m dl I J rv) := by
    intro e
    induction e with
    | zero =>
      intro j hj
      obtain rfl : j = N := by omega
      (repeat (refine em_pure hB kX8_weightOf rfl ?_))
      refine em_branch kX8_weightOf rfl (fun _ => ?_) (fun h1 => absurd (by show I 53 1 ≤ nI j; rw [hx]; exact nI_le (Nat.le_refl j) (by omega)) h1)
      (repeat (refine em_pure hB kX8_weightOf rfl ?_))
      exact em_iret kX8_weightOf rfl rfl rfl rfl
    | succ e ih =>
      intro j hj
      have tail : ∀ z : Int32, z = (if I 59 j = w then I 55 (I 56 j).toNatClampNeg else 0) → em_EW Γ 0 mX8_weightOf (em_hm n m dl I J rv) (some (.int (em_mw I w N)), em_hm n m dl I J rv) 38 [(0, .ref 53), (1, .int w), (2, .int (em_mw I w j)), (3, .int (nI j))] [.int z, .int (em_mw I w j)] (em_hm n m dl I J rv) := by
        intro z hz
        (repeat (refine em_pureT 4 hB kX8_weightOf rfl rfl ?_))
        refine em_loc (lc' := [(0, .ref 53), (1, .int w), (2, .int (em_mw I w j + z)), (3, .int (nI j + 1))]) rfl ?_
        rw [nI_1, hz]
        exact ih (j + 1) (by omega)
      (repeat (refine em_pure hB kX8_weightOf rfl ?_))
      refine em_branch kX8_weightOf rfl (fun h1 => absurd h1 (by show ¬ I 53 1 ≤ nI j; rw [hx]; exact nI_ge (by omega) (by omega))) (fun _ => ?_)
      (repeat (refine em_pure hB kX8_weightOf rfl ?_))
      refine em_ia (L := 40) hB kX8_weightOf rfl rfl rfl rfl rfl (by omega) rfl ?_
      (repeat (refine em_pure hB kX8_weightOf rfl ?_))
      refine em_branch kX8_weightOf rfl (fun (h2 : ¬ I 59 j = w) => ?_) (fun (h2 : ¬ ¬ I 59 j = w) => ?_)
      · (repeat (refine em_pureT 38 hB kX8_weightOf rfl rfl ?_))
        exact tail 0 (by rw [if_neg h2])
      · (repeat (refine em_pure hB kX8_weightOf rfl ?_))
        refine em_ia (L := 40) hB kX8_weightOf rfl rfl rfl rfl rfl (by omega) rfl ?_
        obtain ⟨k, hk8, hke⟩ := hk j (by omega)
        refine em_ia (L := 8) hB kX8_weightOf rfl rfl rfl rfl hke hk8 rfl ?_
        (repeat (refine em_pureT 38 hB kX8_weightOf rfl rfl ?_))
        exact tail (I 55 k) (by rw [if_pos (Decidable.not_not.mp h2), hke, nI_clamp (by omega)])
  (repeat (refine em_pureT 4 hB kX8_weightOf rfl rfl ?_))
  refine em_loc (lc' := [(0, .ref 53), (1, .int w), (2, .int 0), (3, .int (nI 0))]) rfl ?_
  exact loop N 0 (by omega)
abbrev em_mm (I : Nat → Nat → Int32) (w : Int32) (N : Nat) : Int32 := bx_sum (fun b => if I 59 b = w then 1 else 0) N
theorem s_mManyIn (hB : 85 ≤ n) {w : Int32} {N : Nat} (hx : I 53 1 = nI N) (hN : N ≤ 40) : em_MC Γ 0 mX8_manyIn [.ref 53, .int w] (em_hm n m dl I J rv) (some (.int (em_mm I w N))) (em_hm n m dl I J rv) := by
  refine em_MC_of (Nat.le_refl _) (Nat.le_refl _) (by decide +kernel) rfl (Nat.le_of_ble_eq_true rfl) ?_
  have loop : ∀ e j, j + e = N → em_EW Γ 0 mX8_manyIn (em_hm n m dl I J rv) (some (.int (em_mm I w N)), em_hm n m dl I J rv) 4 [(0, .ref 53), (1, .int w), (2, .int (em_mm I w j)), (3, .int (nI j))] [] (em_hm n m dl I J rv) := by
    intro e
    induction e with
    | zero =>
      intro j hj
      obtain rfl : j = N := by omega
      (repeat (refine em_pure hB kX8_manyIn rfl ?_))
      refine em_branch kX8_manyIn rfl (fun _ => ?_) (fun h1 => absurd (by show I 53 1 ≤ nI j; rw [hx]; exact nI_le (Nat.le_refl j) (by omega)) h1)
      (repeat (refine em_pure hB kX8_manyIn rfl ?_))
      exact em_iret kX8_manyIn rfl rfl rfl rfl
    | succ e ih =>
      intro j hj
      have tail : ∀ z : Int32, z = (if I 59 j = w then 1 else 0) → em_EW Γ 0 mX8_manyIn (em_hm n m dl I J rv) (some (.int (em_mm I w N)), em_hm n m dl I J rv) 28 [(0, .ref 53), (1, .int w), (2, .int (em_mm I w j)), (3, .int (nI j))] [.int z, .int (em_mm I w j)] (em_hm n m dl I J rv) := by
        intro z hz
        (repeat (refine em_pureT 4 hB kX8_manyIn rfl rfl ?_))
        refine em_loc (lc' := [(0, .ref 53), (1, .int w), (2, .int (em_mm I w j + z)), (3, .int (nI j + 1))]) rfl ?_
        rw [nI_1, hz]
        exact ih (j + 1) (by omega)
      (repeat (refine em_pure hB kX8_manyIn rfl ?_))
      refine em_branch kX8_manyIn rfl (fun h1 => absurd h1 (by show ¬ I 53 1 ≤ nI j; rw [hx]; exact nI_ge (by omega) (by omega))) (fun _ => ?_)
      (repeat (refine em_pure hB kX8_manyIn rfl ?_))
      refine em_ia (L := 40) hB kX8_manyIn rfl rfl rfl rfl rfl (by omega) rfl ?_
      (repeat (refine em_pure hB kX8_manyIn rfl ?_))
      refine em_branch kX8_manyIn rfl (fun (h2 : ¬ I 59 j = w) => ?_) (fun (h2 : ¬ ¬ I 59 j = w) => ?_)
      · (repeat (refine em_pureT 28 hB kX8_manyIn rfl rfl ?_))
        exact tail 0 (by rw [if_neg h2])
      · (repeat (refine em_pureT 28 hB kX8_manyIn rfl rfl ?_))
        exact tail 1 (by rw [if_pos (Decidable.not_not.mp h2)])
  (repeat (refine em_pureT 4 hB kX8_manyIn rfl rfl ?_))
  refine em_loc (lc' := [(0, .ref 53), (1, .int w), (2, .int 0), (3, .int (nI 0))]) rfl ?_
  exact loop N 0 (by omega)
theorem s_mIsHere (hB : 85 ≤ n) {b d q : Int32} {G j : Nat} (hg : I 53 2 = nI G) (hG : G ≤ 200) (hb : b = nI j) (hj : j < 40) : em_MC Γ 0 mX8_isHere [.ref 53, .int b, .int d, .int q] (em_hm n m dl I J rv) (some (.int (if em_msd I G j d q then 1 else 0))) (em_hm n m dl I J rv) := by
  subst hb
  refine em_MC_of (Nat.le_refl _) (Nat.le_refl _) (by decide +kernel) rfl (Nat.le_of_ble_eq_true rfl) ?_
  (repeat (refine em_pure hB kX8_isHere rfl ?_))
  refine em_ia (L := 40) hB kX8_isHere rfl rfl rfl rfl rfl hj rfl ?_
  (repeat (refine em_pure hB kX8_isHere rfl ?_))
  refine em_branch kX8_isHere rfl (fun h1 => ?_) (fun h1 => ?_)
  · (repeat (refine em_pure hB kX8_isHere rfl ?_))
    exact em_iret kX8_isHere rfl rfl rfl (by rw [if_neg (fun z => absurd h1 (Int32.not_lt.mpr z.1.1))])
  (repeat (refine em_pure hB kX8_isHere rfl ?_))
  refine em_ia (L := 40) hB kX8_isHere rfl rfl rfl rfl rfl hj rfl ?_
  (repeat (refine em_pure hB kX8_isHere rfl ?_))
  refine em_branch kX8_isHere rfl (fun h2 => ?_) (fun h2 => ?_)
  case refine_2 =>
    (repeat (refine em_pure hB kX8_isHere rfl ?_))
    exact em_iret kX8_isHere rfl rfl rfl (by rw [if_neg (fun z => absurd z.1.2 h2)])
  have loop : ∀ e i, i + e = G → em_EW Γ 0 mX8_isHere (em_hm n m dl I J rv) (some (.int (if em_msd I G j d q then 1 else 0)), em_hm n m dl I J rv) 28 [(0, .ref 53), (1, .int (nI j)), (2, .int d), (3, .int q), (4, .int (em_till I (nI j) q i)), (5, .int (nI i))] [] (em_hm n m dl I J rv) := by
    intro e
    induction e with
    | zero =>
      intro i hi
      obtain rfl : i = G := by omega
      (repeat (refine em_pure hB kX8_isHere rfl ?_))
      refine em_branch kX8_isHere rfl (fun _ => ?_) (fun h1 => absurd (by show I 53 2 ≤ nI i; rw [hg]; exact nI_le (Nat.le_refl i) (by omega)) h1)
      (repeat (refine em_pure hB kX8_isHere rfl ?_))
      refine em_branch kX8_isHere rfl (fun h3 => ?_) (fun h3 => ?_)
      · (repeat (refine em_pure hB kX8_isHere rfl ?_))
        exact em_iret kX8_isHere rfl rfl rfl (by rw [if_pos ⟨⟨Int32.not_lt.mp h1, h2⟩, Or.inl h3⟩])
      · (repeat (refine em_pure hB kX8_isHere rfl ?_))
        refine em_branch kX8_isHere rfl (fun h4 => ?_) (fun h4 => ?_)
        · (repeat (refine em_pure hB kX8_isHere rfl ?_))
          exact em_iret kX8_isHere rfl rfl rfl (by rw [if_neg (fun z => z.2.elim h3 (fun z => absurd h4 (Int32.not_le.mpr z)))])
        · (repeat (refine em_pure hB kX8_isHere rfl ?_))
          exact em_iret kX8_isHere rfl rfl rfl (by rw [if_pos ⟨⟨Int32.not_lt.mp h1, h2⟩, Or.inr (Int32.not_le.mp h4)⟩])
    | succ e ih =>
      intro i hi
      have tail : ∀ z : Int32, z = em_till I (nI j) q (i + 1) → em_EW Γ 0 mX8_isHere (em_hm n m dl I J rv) (some (.int (if em_msd I G j d q then 1 else 0)), em_hm n m dl I J rv) 71 [(0, .ref 53), (1, .int (nI j)), (2, .int d), (3, .int q), (4, .int (em_till I (nI j) q i)), (5, .int (nI i))] [.int z] (em_hm n m dl I J rv) := by
        intro z hz
        (repeat (refine em_pureT 28 hB kX8_isHere rfl rfl ?_))
        refine em_loc (lc' := [(0, .ref 53), (1, .int (nI j)), (2, .int d), (3, .int q), (4, .int z), (5, .int (nI i + 1))]) rfl ?_
        rw [nI_1, hz]
        exact ih (i + 1) (by omega)
      (repeat (refine em_pure hB kX8_isHere rfl ?_))
      refine em_branch kX8_isHere rfl (fun h1 => absurd h1 (by show ¬ I 53 2 ≤ nI i; rw [hg]; exact nI_ge (by omega) (by omega))) (fun _ => ?_)
      (repeat (refine em_pure hB kX8_isHere rfl ?_))
      refine em_ia (L := 200) hB kX8_isHere rfl rfl rfl rfl rfl (by omega) rfl ?_
      (repeat (refine em_pure hB kX8_isHere rfl ?_))
      refine em_branch kX8_isHere rfl (fun (h3 : ¬ I 60 i = nI j) => ?_) (fun (h3 : ¬ ¬ I 60 i = nI j) => ?_)
      · (repeat (refine em_pureT 71 hB kX8_isHere rfl rfl ?_))
        exact tail _ (by rw [em_till, if_neg (fun z => h3 z.1)])
      · (repeat (refine em_pure hB kX8_isHere rfl ?_))
        refine em_ia (L := 200) hB kX8_isHere rfl rfl rfl rfl rfl (by omega) rfl ?_
        (repeat (refine em_pure hB kX8_isHere rfl ?_))
        refine em_branch kX8_isHere rfl (fun (h4 : q < I 62 i) => ?_) (fun (h4 : ¬ q < I 62 i) => ?_)
        · (repeat (refine em_pureT 71 hB kX8_isHere rfl rfl ?_))
          exact tail _ (by rw [em_till, if_neg (fun z => absurd h4 (Int32.not_lt.mpr z.2))])
        · (repeat (refine em_pure hB kX8_isHere rfl ?_))
          refine em_ia (L := 200) hB kX8_isHere rfl rfl rfl rfl rfl (by omega) rfl ?_
          (repeat (refine em_pureT 71 hB kX8_isHere rfl rfl ?_))
          exact tail _ (by rw [em_till, if_pos ⟨Decidable.not_not.mp h3, Int32.not_lt.mp h4⟩])
  (repeat (refine em_pureT 28 hB kX8_isHere rfl rfl ?_))
  refine em_loc (lc' := [(0, .ref 53), (1, .int (nI j)), (2, .int d), (3, .int q), (4, .int (-1)), (5, .int (nI 0))]) rfl ?_
  exact loop G 0 (by omega)
abbrev em_meat (I : Nat → Nat → Int32) (G : Nat) (d q : Int32) (N : Nat) : Int32 := bx_sum (fun b => if em_msd I G b d q then I 54 (I 56 b).toNatClampNeg else 0) N
theorem s_mRationOf (hB : 85 ≤ n) {d q : Int32} {N G : Nat} (hx : I 53 1 = nI N) (hN : N ≤ 40) (hg : I 53 2 = nI G) (hG : G ≤ 200) (hk : ∀ b, b < N → ∃ k, k < 8 ∧ I 56 b = nI k) : em_MC Γ 1 mX8_rationOf [.ref 53, .int d, .int q] (em_hm n m dl I J rv) (some (.int (em_meat I G d q N))) (em_hm n m dl I J rv) := by
  refine em_MC_of (Nat.le_refl _) (Nat.le_refl _) (by decide +kernel) rfl (Nat.le_of_ble_eq_true rfl) ?_
  have loop : ∀ e j, j + e = N → em_EW Γ 1 mX8_rationOf (em_hm n m dl I J rv) (some (.int (em_meat I G d q N)), em_hm n m dl I J rv) 5 [(0, .ref 53), (1, .int d), (2, .int q), (3, .int (em_meat I G d q j)), (4, .int (nI j))] [] (em_hm n m dl I J rv) := by
    intro e
    induction e with
    | zero =>
      intro j hj
      obtain rfl : j = N := by omega
      (repeat (refine em_pure hB kX8_rationOf rfl ?_))
      refine em_branch kX8_rationOf rfl (fun _ => ?_) (fun h1 => absurd (by show I 53 1 ≤ nI j; rw [hx]; exact nI_le (Nat.le_refl j) (by omega)) h1)
      (repeat (refine em_pure hB kX8_rationOf rfl ?_))
      exact em_iret kX8_rationOf rfl rfl rfl rfl
    | succ e ih =>
      intro j hj
      have tail : ∀ z : Int32, z = (if em_msd I G j d q then I 54 (I 56 j).toNatClampNeg else 0) → em_EW Γ 1 mX8_rationOf (em_hm n m dl I J rv) (some (.int (em_meat I G d q N)), em_hm n m dl I J rv) 42 [(0, .ref 53), (1, .int d), (2, .int q), (3, .int (em_meat I G d q j)), (4, .int (nI j))] [.int z, .int (em_meat I G d q j)] (em_hm n m dl I J rv) := by
        intro z hz
        (repeat (refine em_pureT 5 hB kX8_rationOf rfl rfl ?_))
        refine em_loc (lc' := [(0, .ref 53), (1, .int d), (2, .int q), (3, .int (em_meat I G d q j + z)), (4, .int (nI j + 1))]) rfl ?_
        rw [nI_1, hz]
        exact ih (j + 1) (by omega)
      (repeat (refine em_pure hB kX8_rationOf rfl ?_))
      refine em_branch kX8_rationOf rfl (fun h1 => absurd h1 (by show ¬ I 53 1 ≤ nI j; rw [hx]; exact nI_ge (by omega) (by omega))) (fun _ => ?_)
      (repeat (refine em_pure hB kX8_rationOf rfl ?_))
      refine em_callV (μ' := mX8_isHere) (c1 := 8) kX8_rationOf rfl lX8_133 tX8_isHere (by decide) rfl (em_ltB hB rfl) (s_mIsHere hB (d := d) (q := q) (j := j) hg hG rfl (by omega)) rfl rfl (by decide) (Nat.le_of_ble_eq_true rfl) (Nat.le_refl _) (Nat.le_refl _) ?_
      refine em_bz kX8_rationOf rfl (fun h => ?_) (fun h => ?_)
      · (repeat (refine em_pure hB kX8_rationOf rfl ?_))
        refine em_ia (L := 40) hB kX8_rationOf rfl rfl rfl rfl rfl (by omega) rfl ?_
        obtain ⟨k, hk8, hke⟩ := hk j (by omega)
        refine em_ia (L := 8) hB kX8_rationOf rfl rfl rfl rfl hke hk8 rfl ?_
        (repeat (refine em_pureT 42 hB kX8_rationOf rfl rfl ?_))
        exact tail (I 54 k) (by rw [if_pos h, hke, nI_clamp (by omega)])
      · (repeat (refine em_pureT 42 hB kX8_rationOf rfl rfl ?_))
        exact tail 0 (by rw [if_neg h])
  (repeat (refine em_pureT 5 hB kX8_rationOf rfl rfl ?_))
  refine em_loc (lc' := [(0, .ref 53), (1, .int d), (2, .int q), (3, .int 0), (4, .int (nI 0))]) rfl ?_
  exact loop N 0 (by omega)
abbrev em_mhn (I : Nat → Nat → Int32) (G : Nat) (N : Nat) : Int32 := bx_sum (fun b => if em_msd I G b (I 53 0) (I 53 0) then 1 else 0) N
theorem s_mHereNow (hB : 85 ≤ n) {N G : Nat} (hx : I 53 1 = nI N) (hN : N ≤ 40) (hg : I 53 2 = nI G) (hG : G ≤ 200) : em_MC Γ 1 mX8_hereNow [.ref 53] (em_hm n m dl I J rv) (some (.int (em_mhn I G N))) (em_hm n m dl I J rv) := by
  refine em_MC_of (Nat.le_refl _) (Nat.le_refl _) (by decide +kernel) rfl (Nat.le_of_ble_eq_true rfl) ?_
  have loop : ∀ e j, j + e = N → em_EW Γ 1 mX8_hereNow (em_hm n m dl I J rv) (some (.int (em_mhn I G N)), em_hm n m dl I J rv) 4 [(0, .ref 53), (1, .int (em_mhn I G j)), (2, .int (nI j))] [] (em_hm n m dl I J rv) := by
    intro e
    induction e with
    | zero =>
      intro j hj
      obtain rfl : j = N := by omega
      (repeat (refine em_pure hB kX8_hereNow rfl ?_))
      refine em_branch kX8_hereNow rfl (fun _ => ?_) (fun h1 => absurd (by show I 53 1 ≤ nI j; rw [hx]; exact nI_le (Nat.le_refl j) (by omega)) h1)
      (repeat (refine em_pure hB kX8_hereNow rfl ?_))
      exact em_iret kX8_hereNow rfl rfl rfl rfl
    | succ e ih =>
      intro j hj
      have tail : ∀ z : Int32, z = (if em_msd I G j (I 53 0) (I 53 0) then 1 else 0) → em_EW Γ 1 mX8_hereNow (em_hm n m dl I J rv) (some (.int (em_mhn I G N)), em_hm n m dl I J rv) 34 [(0, .ref 53), (1, .int (em_mhn I G j)), (2, .int (nI j))] [.int z, .int (em_mhn I G j)] (em_hm n m dl I J rv) := by
        intro z hz
        (repeat (refine em_pureT 4 hB kX8_hereNow rfl rfl ?_))
        refine em_loc (lc' := [(0, .ref 53), (1, .int (em_mhn I G j + z)), (2, .int (nI j + 1))]) rfl ?_
        rw [nI_1, hz]
        exact ih (j + 1) (by omega)
      (repeat (refine em_pure hB kX8_hereNow rfl ?_))
      refine em_branch kX8_hereNow rfl (fun h1 => absurd h1 (by show ¬ I 53 1 ≤ nI j; rw [hx]; exact nI_ge (by omega) (by omega))) (fun _ => ?_)
      (repeat (refine em_pure hB kX8_hereNow rfl ?_))
      refine em_callV (μ' := mX8_isHere) (c1 := 8) kX8_hereNow rfl lX8_133 tX8_isHere (by decide) rfl (em_ltB hB rfl) (s_mIsHere hB (d := I 53 0) (q := I 53 0) (j := j) hg hG rfl (by omega)) rfl rfl (by decide) (Nat.le_of_ble_eq_true rfl) (Nat.le_refl _) (Nat.le_refl _) ?_
      refine em_bz kX8_hereNow rfl (fun h => ?_) (fun h => ?_)
      · (repeat (refine em_pureT 34 hB kX8_hereNow rfl rfl ?_))
        exact tail 1 (by rw [if_pos h])
      · (repeat (refine em_pureT 34 hB kX8_hereNow rfl rfl ?_))
        exact tail 0 (by rw [if_neg h])
  (repeat (refine em_pureT 4 hB kX8_hereNow rfl rfl ?_))
  refine em_loc (lc' := [(0, .ref 53), (1, .int 0), (2, .int (nI 0))]) rfl ?_
  exact loop N 0 (by omega)
end MHerd
end
