section
-- ===== PART A: goes FIRST, ahead of the names: the tables' words, and 'selects' of the private methods out of them =====
/-- a private method of a class that the tables say can be made, by its rows of tables_1 -/
def lw_okq (q : MethodName × Nat) : Prop := (q.1.cls ≠ "java/lang/invoke/MethodHandle" ∧ q.1.cls ≠ "java/lang/invoke/VarHandle") ∧ Cond.instantiable q.1.cls q.2 ∈ tables_1 ∧ Cond.privateMethod q.1 ∈ tables_1 ∧ Cond.instanceMethod q.1 ∈ tables_1
theorem lw_p0 : lw_okq (⟨"BeastRoad$Wagons", "weightWith", "(III)I"⟩, 6) := ⟨⟨by decide +kernel, by decide +kernel⟩, List.mem_of_getElem? (i := 96) (by decide +kernel), List.mem_of_getElem? (i := 260) (by decide +kernel), List.mem_of_getElem? (i := 261) (by decide +kernel)⟩
theorem lw_p1 : lw_okq (⟨"BeastRoad$Herd", "isDay", "(I)Z"⟩, 13) := ⟨⟨by decide +kernel, by decide +kernel⟩, List.mem_of_getElem? (i := 27) (by decide +kernel), List.mem_of_getElem? (i := 294) (by decide +kernel), List.mem_of_getElem? (i := 295) (by decide +kernel)⟩
theorem lw_p2 : lw_okq (⟨"BeastRoad$Herd", "recall", "(I)V"⟩, 13) := ⟨⟨by decide +kernel, by decide +kernel⟩, List.mem_of_getElem? (i := 27) (by decide +kernel), List.mem_of_getElem? (i := 314) (by decide +kernel), List.mem_of_getElem? (i := 315) (by decide +kernel)⟩
theorem lw_p3 : lw_okq (⟨"BeastRoad$Herd", "stands", "(III)Z"⟩, 13) := ⟨⟨by decide +kernel, by decide +kernel⟩, List.mem_of_getElem? (i := 27) (by decide +kernel), List.mem_of_getElem? (i := 318) (by decide +kernel), List.mem_of_getElem? (i := 319) (by decide +kernel)⟩
theorem lw_p4 : lw_okq (⟨"BeastRoad$Book", "linesDue", "(I[I)I"⟩, 4) := ⟨⟨by decide +kernel, by decide +kernel⟩, List.mem_of_getElem? (i := 77) (by decide +kernel), List.mem_of_getElem? (i := 346) (by decide +kernel), List.mem_of_getElem? (i := 347) (by decide +kernel)⟩
theorem lw_p5 : lw_okq (⟨"BeastRoad$Book", "makeRoom", "(I)V"⟩, 4) := ⟨⟨by decide +kernel, by decide +kernel⟩, List.mem_of_getElem? (i := 77) (by decide +kernel), List.mem_of_getElem? (i := 350) (by decide +kernel), List.mem_of_getElem? (i := 351) (by decide +kernel)⟩
theorem lw_p6 : lw_okq (⟨"BeastRoad$Book", "write", "(III)V"⟩, 4) := ⟨⟨by decide +kernel, by decide +kernel⟩, List.mem_of_getElem? (i := 77) (by decide +kernel), List.mem_of_getElem? (i := 375) (by decide +kernel), List.mem_of_getElem? (i := 376) (by decide +kernel)⟩
theorem lw_p7 : lw_okq (⟨"BeastRoad$Wagons", "meetsFoeAhead", "(I)Z"⟩, 6) := ⟨⟨by decide +kernel, by decide +kernel⟩, List.mem_of_getElem? (i := 96) (by decide +kernel), List.mem_of_getElem? (i := 440) (by decide +kernel), List.mem_of_getElem? (i := 441) (by decide +kernel)⟩
theorem lw_p8 : lw_okq (⟨"BeastRoad$Wagons", "findKinds", "()V"⟩, 6) := ⟨⟨by decide +kernel, by decide +kernel⟩, List.mem_of_getElem? (i := 96) (by decide +kernel), List.mem_of_getElem? (i := 452) (by decide +kernel), List.mem_of_getElem? (i := 453) (by decide +kernel)⟩
theorem lw_p9 : lw_okq (⟨"BeastRoad$Wagons", "filledWagons", "()I"⟩, 6) := ⟨⟨by decide +kernel, by decide +kernel⟩, List.mem_of_getElem? (i := 96) (by decide +kernel), List.mem_of_getElem? (i := 456) (by decide +kernel), List.mem_of_getElem? (i := 457) (by decide +kernel)⟩
theorem lw_p10 : lw_okq (⟨"BeastRoad$Wagons", "findFoes", "()V"⟩, 6) := ⟨⟨by decide +kernel, by decide +kernel⟩, List.mem_of_getElem? (i := 96) (by decide +kernel), List.mem_of_getElem? (i := 466) (by decide +kernel), List.mem_of_getElem? (i := 467) (by decide +kernel)⟩
theorem lw_p11 : lw_okq (⟨"BeastRoad$Wagons", "kindsBarredBy", "(I)I"⟩, 6) := ⟨⟨by decide +kernel, by decide +kernel⟩, List.mem_of_getElem? (i := 96) (by decide +kernel), List.mem_of_getElem? (i := 470) (by decide +kernel), List.mem_of_getElem? (i := 471) (by decide +kernel)⟩
theorem lw_p12 : lw_okq (⟨"BeastRoad$Wagons", "findBeginnings", "(I)V"⟩, 6) := ⟨⟨by decide +kernel, by decide +kernel⟩, List.mem_of_getElem? (i := 96) (by decide +kernel), List.mem_of_getElem? (i := 474) (by decide +kernel), List.mem_of_getElem? (i := 475) (by decide +kernel)⟩
theorem lw_p13 : lw_okq (⟨"BeastRoad$Wagons", "beginningsOf", "(I)I"⟩, 6) := ⟨⟨by decide +kernel, by decide +kernel⟩, List.mem_of_getElem? (i := 96) (by decide +kernel), List.mem_of_getElem? (i := 478) (by decide +kernel), List.mem_of_getElem? (i := 479) (by decide +kernel)⟩
theorem lw_p14 : lw_okq (⟨"BeastRoad$Wagons", "placeByLowest", "(II)I"⟩, 6) := ⟨⟨by decide +kernel, by decide +kernel⟩, List.mem_of_getElem? (i := 96) (by decide +kernel), List.mem_of_getElem? (i := 482) (by decide +kernel), List.mem_of_getElem? (i := 483) (by decide +kernel)⟩
theorem lw_p15 : lw_okq (⟨"BeastRoad$Fairs", "plan", "(II)Z"⟩, 13) := ⟨⟨by decide +kernel, by decide +kernel⟩, List.mem_of_getElem? (i := 122) (by decide +kernel), List.mem_of_getElem? (i := 526) (by decide +kernel), List.mem_of_getElem? (i := 527) (by decide +kernel)⟩
def lw_privs_1 : List (MethodName × Nat) := [(⟨"BeastRoad$Wagons", "weightWith", "(III)I"⟩, 6), (⟨"BeastRoad$Herd", "isDay", "(I)Z"⟩, 13), (⟨"BeastRoad$Herd", "recall", "(I)V"⟩, 13), (⟨"BeastRoad$Herd", "stands", "(III)Z"⟩, 13), (⟨"BeastRoad$Book", "linesDue", "(I[I)I"⟩, 4), (⟨"BeastRoad$Book", "makeRoom", "(I)V"⟩, 4), (⟨"BeastRoad$Book", "write", "(III)V"⟩, 4), (⟨"BeastRoad$Wagons", "meetsFoeAhead", "(I)Z"⟩, 6), (⟨"BeastRoad$Wagons", "findKinds", "()V"⟩, 6), (⟨"BeastRoad$Wagons", "filledWagons", "()I"⟩, 6), (⟨"BeastRoad$Wagons", "findFoes", "()V"⟩, 6), (⟨"BeastRoad$Wagons", "kindsBarredBy", "(I)I"⟩, 6), (⟨"BeastRoad$Wagons", "findBeginnings", "(I)V"⟩, 6), (⟨"BeastRoad$Wagons", "beginningsOf", "(I)I"⟩, 6), (⟨"BeastRoad$Wagons", "placeByLowest", "(II)I"⟩, 6), (⟨"BeastRoad$Fairs", "plan", "(II)Z"⟩, 13)]
theorem lw_r1 : ∀ q ∈ lw_privs_1, lw_okq q := List.forall_mem_cons.mpr ⟨lw_p0, List.forall_mem_cons.mpr ⟨lw_p1, List.forall_mem_cons.mpr ⟨lw_p2, List.forall_mem_cons.mpr ⟨lw_p3, List.forall_mem_cons.mpr ⟨lw_p4, List.forall_mem_cons.mpr ⟨lw_p5, List.forall_mem_cons.mpr ⟨lw_p6, List.forall_mem_cons.mpr ⟨lw_p7, List.forall_mem_cons.mpr ⟨lw_p8, List.forall_mem_cons.mpr ⟨lw_p9, List.forall_mem_cons.mpr ⟨lw_p10, List.forall_mem_cons.mpr ⟨lw_p11, List.forall_mem_cons.mpr ⟨lw_p12, List.forall_mem_cons.mpr ⟨lw_p13, List.forall_mem_cons.mpr ⟨lw_p14, List.forall_mem_cons.mpr ⟨lw_p15, fun _ h => absurd h List.not_mem_nil⟩⟩⟩⟩⟩⟩⟩⟩⟩⟩⟩⟩⟩⟩⟩⟩
theorem lw_p16 : lw_okq (⟨"BeastRoad$Fairs", "visit", "(IIII)V"⟩, 13) := ⟨⟨by decide +kernel, by decide +kernel⟩, List.mem_of_getElem? (i := 122) (by decide +kernel), List.mem_of_getElem? (i := 530) (by decide +kernel), List.mem_of_getElem? (i := 531) (by decide +kernel)⟩
theorem lw_p17 : lw_okq (⟨"BeastRoad$Fairs", "keepIfBetter", "(II)V"⟩, 13) := ⟨⟨by decide +kernel, by decide +kernel⟩, List.mem_of_getElem? (i := 122) (by decide +kernel), List.mem_of_getElem? (i := 535) (by decide +kernel), List.mem_of_getElem? (i := 536) (by decide +kernel)⟩
theorem lw_p18 : lw_okq (⟨"BeastRoad$Fairs", "isBetter", "(II)Z"⟩, 13) := ⟨⟨by decide +kernel, by decide +kernel⟩, List.mem_of_getElem? (i := 122) (by decide +kernel), List.mem_of_getElem? (i := 539) (by decide +kernel), List.mem_of_getElem? (i := 540) (by decide +kernel)⟩
theorem lw_p19 : lw_okq (⟨"BeastRoad$Fairs", "mayGetBetter", "(II)Z"⟩, 13) := ⟨⟨by decide +kernel, by decide +kernel⟩, List.mem_of_getElem? (i := 122) (by decide +kernel), List.mem_of_getElem? (i := 544) (by decide +kernel), List.mem_of_getElem? (i := 545) (by decide +kernel)⟩
theorem lw_p20 : lw_okq (⟨"BeastRoad$Fairs", "goOn", "(IIII)V"⟩, 13) := ⟨⟨by decide +kernel, by decide +kernel⟩, List.mem_of_getElem? (i := 122) (by decide +kernel), List.mem_of_getElem? (i := 549) (by decide +kernel), List.mem_of_getElem? (i := 550) (by decide +kernel)⟩
theorem lw_p21 : lw_okq (⟨"BeastRoad$Tape", "pastBlanks", "(I)I"⟩, 2) := ⟨⟨by decide +kernel, by decide +kernel⟩, List.mem_of_getElem? (i := 169) (by decide +kernel), List.mem_of_getElem? (i := 601) (by decide +kernel), List.mem_of_getElem? (i := 602) (by decide +kernel)⟩
theorem lw_p22 : lw_okq (⟨"BeastRoad$Tape", "readClause", "(ILBeastRoad$Law;)I"⟩, 2) := ⟨⟨by decide +kernel, by decide +kernel⟩, List.mem_of_getElem? (i := 169) (by decide +kernel), List.mem_of_getElem? (i := 605) (by decide +kernel), List.mem_of_getElem? (i := 606) (by decide +kernel)⟩
theorem lw_p23 : lw_okq (⟨"BeastRoad$Tape", "sortAt", "(I)I"⟩, 2) := ⟨⟨by decide +kernel, by decide +kernel⟩, List.mem_of_getElem? (i := 169) (by decide +kernel), List.mem_of_getElem? (i := 609) (by decide +kernel), List.mem_of_getElem? (i := 610) (by decide +kernel)⟩
theorem lw_p24 : lw_okq (⟨"BeastRoad$Tape", "standsAt", "(ILjava/lang/String;)Z"⟩, 2) := ⟨⟨by decide +kernel, by decide +kernel⟩, List.mem_of_getElem? (i := 169) (by decide +kernel), List.mem_of_getElem? (i := 622) (by decide +kernel), List.mem_of_getElem? (i := 623) (by decide +kernel)⟩
theorem lw_p25 : lw_okq (⟨"BeastRoad$Tape", "pastDigits", "(I)I"⟩, 2) := ⟨⟨by decide +kernel, by decide +kernel⟩, List.mem_of_getElem? (i := 169) (by decide +kernel), List.mem_of_getElem? (i := 674) (by decide +kernel), List.mem_of_getElem? (i := 675) (by decide +kernel)⟩
theorem lw_p26 : lw_okq (⟨"BeastRoad$Tape", "valueOf", "(II)I"⟩, 2) := ⟨⟨by decide +kernel, by decide +kernel⟩, List.mem_of_getElem? (i := 169) (by decide +kernel), List.mem_of_getElem? (i := 678) (by decide +kernel), List.mem_of_getElem? (i := 679) (by decide +kernel)⟩
theorem lw_p27 : lw_okq (⟨"BeastRoad$Law", "forbid", "(I)Z"⟩, 2) := ⟨⟨by decide +kernel, by decide +kernel⟩, List.mem_of_getElem? (i := 183) (by decide +kernel), List.mem_of_getElem? (i := 686) (by decide +kernel), List.mem_of_getElem? (i := 687) (by decide +kernel)⟩
theorem lw_p28 : lw_okq (⟨"BeastRoad$Law", "isAbove", "(II)Z"⟩, 2) := ⟨⟨by decide +kernel, by decide +kernel⟩, List.mem_of_getElem? (i := 183) (by decide +kernel), List.mem_of_getElem? (i := 720) (by decide +kernel), List.mem_of_getElem? (i := 721) (by decide +kernel)⟩
theorem lw_p29 : lw_okq (⟨"BeastRoad$Law", "numberOrZero", "(I)I"⟩, 2) := ⟨⟨by decide +kernel, by decide +kernel⟩, List.mem_of_getElem? (i := 183) (by decide +kernel), List.mem_of_getElem? (i := 732) (by decide +kernel), List.mem_of_getElem? (i := 733) (by decide +kernel)⟩
theorem lw_p30 : lw_okq (⟨"BeastRoad$Field", "spread", "(I)V"⟩, 5) := ⟨⟨by decide +kernel, by decide +kernel⟩, List.mem_of_getElem? (i := 197) (by decide +kernel), List.mem_of_getElem? (i := 769) (by decide +kernel), List.mem_of_getElem? (i := 770) (by decide +kernel)⟩
theorem lw_p31 : lw_okq (⟨"BeastRoad$Field", "isOpen", "(I)Z"⟩, 5) := ⟨⟨by decide +kernel, by decide +kernel⟩, List.mem_of_getElem? (i := 197) (by decide +kernel), List.mem_of_getElem? (i := 785) (by decide +kernel), List.mem_of_getElem? (i := 786) (by decide +kernel)⟩
def lw_privs_2 : List (MethodName × Nat) := [(⟨"BeastRoad$Fairs", "visit", "(IIII)V"⟩, 13), (⟨"BeastRoad$Fairs", "keepIfBetter", "(II)V"⟩, 13), (⟨"BeastRoad$Fairs", "isBetter", "(II)Z"⟩, 13), (⟨"BeastRoad$Fairs", "mayGetBetter", "(II)Z"⟩, 13), (⟨"BeastRoad$Fairs", "goOn", "(IIII)V"⟩, 13), (⟨"BeastRoad$Tape", "pastBlanks", "(I)I"⟩, 2), (⟨"BeastRoad$Tape", "readClause", "(ILBeastRoad$Law;)I"⟩, 2), (⟨"BeastRoad$Tape", "sortAt", "(I)I"⟩, 2), (⟨"BeastRoad$Tape", "standsAt", "(ILjava/lang/String;)Z"⟩, 2), (⟨"BeastRoad$Tape", "pastDigits", "(I)I"⟩, 2), (⟨"BeastRoad$Tape", "valueOf", "(II)I"⟩, 2), (⟨"BeastRoad$Law", "forbid", "(I)Z"⟩, 2), (⟨"BeastRoad$Law", "isAbove", "(II)Z"⟩, 2), (⟨"BeastRoad$Law", "numberOrZero", "(I)I"⟩, 2), (⟨"BeastRoad$Field", "spread", "(I)V"⟩, 5), (⟨"BeastRoad$Field", "isOpen", "(I)Z"⟩, 5)]
theorem lw_r2 : ∀ q ∈ lw_privs_2, lw_okq q := List.forall_mem_cons.mpr ⟨lw_p16, List.forall_mem_cons.mpr ⟨lw_p17, List.forall_mem_cons.mpr ⟨lw_p18, List.forall_mem_cons.mpr ⟨lw_p19, List.forall_mem_cons.mpr ⟨lw_p20, List.forall_mem_cons.mpr ⟨lw_p21, List.forall_mem_cons.mpr ⟨lw_p22, List.forall_mem_cons.mpr ⟨lw_p23, List.forall_mem_cons.mpr ⟨lw_p24, List.forall_mem_cons.mpr ⟨lw_p25, List.forall_mem_cons.mpr ⟨lw_p26, List.forall_mem_cons.mpr ⟨lw_p27, List.forall_mem_cons.mpr ⟨lw_p28, List.forall_mem_cons.mpr ⟨lw_p29, List.forall_mem_cons.mpr ⟨lw_p30, List.forall_mem_cons.mpr ⟨lw_p31, fun _ h => absurd h List.not_mem_nil⟩⟩⟩⟩⟩⟩⟩⟩⟩⟩⟩⟩⟩⟩⟩⟩
theorem lw_p32 : lw_okq (⟨"BeastRoad$Field", "allMaybes", "()J"⟩, 5) := ⟨⟨by decide +kernel, by decide +kernel⟩, List.mem_of_getElem? (i := 197) (by decide +kernel), List.mem_of_getElem? (i := 789) (by decide +kernel), List.mem_of_getElem? (i := 790) (by decide +kernel)⟩
theorem lw_p33 : lw_okq (⟨"BeastRoadModel", "weightOf", "(I)I"⟩, 44) := ⟨⟨by decide +kernel, by decide +kernel⟩, List.mem_of_getElem? (i := 851) (by decide +kernel), List.mem_of_getElem? (i := 997) (by decide +kernel), List.mem_of_getElem? (i := 998) (by decide +kernel)⟩
theorem lw_p34 : lw_okq (⟨"BeastRoadModel", "isDay", "(I)Z"⟩, 44) := ⟨⟨by decide +kernel, by decide +kernel⟩, List.mem_of_getElem? (i := 851) (by decide +kernel), List.mem_of_getElem? (i := 1005) (by decide +kernel), List.mem_of_getElem? (i := 1006) (by decide +kernel)⟩
theorem lw_p35 : lw_okq (⟨"BeastRoadModel", "isBeast", "(I)Z"⟩, 44) := ⟨⟨by decide +kernel, by decide +kernel⟩, List.mem_of_getElem? (i := 851) (by decide +kernel), List.mem_of_getElem? (i := 1013) (by decide +kernel), List.mem_of_getElem? (i := 1014) (by decide +kernel)⟩
theorem lw_p36 : lw_okq (⟨"BeastRoadModel", "isHere", "(III)Z"⟩, 44) := ⟨⟨by decide +kernel, by decide +kernel⟩, List.mem_of_getElem? (i := 851) (by decide +kernel), List.mem_of_getElem? (i := 1021) (by decide +kernel), List.mem_of_getElem? (i := 1022) (by decide +kernel)⟩
theorem lw_p37 : lw_okq (⟨"BeastRoadModel", "rationOf", "(II)I"⟩, 44) := ⟨⟨by decide +kernel, by decide +kernel⟩, List.mem_of_getElem? (i := 851) (by decide +kernel), List.mem_of_getElem? (i := 1029) (by decide +kernel), List.mem_of_getElem? (i := 1030) (by decide +kernel)⟩
theorem lw_p38 : lw_okq (⟨"BeastRoadModel", "manyIn", "(I)I"⟩, 44) := ⟨⟨by decide +kernel, by decide +kernel⟩, List.mem_of_getElem? (i := 851) (by decide +kernel), List.mem_of_getElem? (i := 1061) (by decide +kernel), List.mem_of_getElem? (i := 1062) (by decide +kernel)⟩
theorem lw_p39 : lw_okq (⟨"BeastRoadModel", "areBarred", "(II)Z"⟩, 44) := ⟨⟨by decide +kernel, by decide +kernel⟩, List.mem_of_getElem? (i := 851) (by decide +kernel), List.mem_of_getElem? (i := 1065) (by decide +kernel), List.mem_of_getElem? (i := 1066) (by decide +kernel)⟩
theorem lw_p40 : lw_okq (⟨"BeastRoadModel", "lays", "(II)Z"⟩, 44) := ⟨⟨by decide +kernel, by decide +kernel⟩, List.mem_of_getElem? (i := 851) (by decide +kernel), List.mem_of_getElem? (i := 1073) (by decide +kernel), List.mem_of_getElem? (i := 1074) (by decide +kernel)⟩
theorem lw_p41 : lw_okq (⟨"BeastRoadModel", "isTown", "(I)Z"⟩, 44) := ⟨⟨by decide +kernel, by decide +kernel⟩, List.mem_of_getElem? (i := 851) (by decide +kernel), List.mem_of_getElem? (i := 1085) (by decide +kernel), List.mem_of_getElem? (i := 1086) (by decide +kernel)⟩
theorem lw_p42 : lw_okq (⟨"BeastRoadModel", "findTour", "(II)V"⟩, 44) := ⟨⟨by decide +kernel, by decide +kernel⟩, List.mem_of_getElem? (i := 851) (by decide +kernel), List.mem_of_getElem? (i := 1097) (by decide +kernel), List.mem_of_getElem? (i := 1098) (by decide +kernel)⟩
theorem lw_p43 : lw_okq (⟨"BeastRoadModel", "goOn", "(IIIII)V"⟩, 44) := ⟨⟨by decide +kernel, by decide +kernel⟩, List.mem_of_getElem? (i := 851) (by decide +kernel), List.mem_of_getElem? (i := 1101) (by decide +kernel), List.mem_of_getElem? (i := 1102) (by decide +kernel)⟩
theorem lw_p44 : lw_okq (⟨"BeastRoadModel", "isLower", "(I)Z"⟩, 44) := ⟨⟨by decide +kernel, by decide +kernel⟩, List.mem_of_getElem? (i := 851) (by decide +kernel), List.mem_of_getElem? (i := 1106) (by decide +kernel), List.mem_of_getElem? (i := 1107) (by decide +kernel)⟩
theorem lw_p45 : lw_okq (⟨"BeastRoadModel", "blanks", "(I)I"⟩, 44) := ⟨⟨by decide +kernel, by decide +kernel⟩, List.mem_of_getElem? (i := 851) (by decide +kernel), List.mem_of_getElem? (i := 1129) (by decide +kernel), List.mem_of_getElem? (i := 1130) (by decide +kernel)⟩
theorem lw_p46 : lw_okq (⟨"BeastRoadModel", "clause", "(I)I"⟩, 44) := ⟨⟨by decide +kernel, by decide +kernel⟩, List.mem_of_getElem? (i := 851) (by decide +kernel), List.mem_of_getElem? (i := 1133) (by decide +kernel), List.mem_of_getElem? (i := 1134) (by decide +kernel)⟩
theorem lw_p47 : lw_okq (⟨"BeastRoadModel", "isWord", "(ILjava/lang/String;)Z"⟩, 44) := ⟨⟨by decide +kernel, by decide +kernel⟩, List.mem_of_getElem? (i := 851) (by decide +kernel), List.mem_of_getElem? (i := 1146) (by decide +kernel), List.mem_of_getElem? (i := 1147) (by decide +kernel)⟩
def lw_privs_3 : List (MethodName × Nat) := [(⟨"BeastRoad$Field", "allMaybes", "()J"⟩, 5), (⟨"BeastRoadModel", "weightOf", "(I)I"⟩, 44), (⟨"BeastRoadModel", "isDay", "(I)Z"⟩, 44), (⟨"BeastRoadModel", "isBeast", "(I)Z"⟩, 44), (⟨"BeastRoadModel", "isHere", "(III)Z"⟩, 44), (⟨"BeastRoadModel", "rationOf", "(II)I"⟩, 44), (⟨"BeastRoadModel", "manyIn", "(I)I"⟩, 44), (⟨"BeastRoadModel", "areBarred", "(II)Z"⟩, 44), (⟨"BeastRoadModel", "lays", "(II)Z"⟩, 44), (⟨"BeastRoadModel", "isTown", "(I)Z"⟩, 44), (⟨"BeastRoadModel", "findTour", "(II)V"⟩, 44), (⟨"BeastRoadModel", "goOn", "(IIIII)V"⟩, 44), (⟨"BeastRoadModel", "isLower", "(I)Z"⟩, 44), (⟨"BeastRoadModel", "blanks", "(I)I"⟩, 44), (⟨"BeastRoadModel", "clause", "(I)I"⟩, 44), (⟨"BeastRoadModel", "isWord", "(ILjava/lang/String;)Z"⟩, 44)]
theorem lw_r3 : ∀ q ∈ lw_privs_3, lw_okq q := List.forall_mem_cons.mpr ⟨lw_p32, List.forall_mem_cons.mpr ⟨lw_p33, List.forall_mem_cons.mpr ⟨lw_p34, List.forall_mem_cons.mpr ⟨lw_p35, List.forall_mem_cons.mpr ⟨lw_p36, List.forall_mem_cons.mpr ⟨lw_p37, List.forall_mem_cons.mpr ⟨lw_p38, List.forall_mem_cons.mpr ⟨lw_p39, List.forall_mem_cons.mpr ⟨lw_p40, List.forall_mem_cons.mpr ⟨lw_p41, List.forall_mem_cons.mpr ⟨lw_p42, List.forall_mem_cons.mpr ⟨lw_p43, List.forall_mem_cons.mpr ⟨lw_p44, List.forall_mem_cons.mpr ⟨lw_p45, List.forall_mem_cons.mpr ⟨lw_p46, List.forall_mem_cons.mpr ⟨lw_p47, fun _ h => absurd h List.not_mem_nil⟩⟩⟩⟩⟩⟩⟩⟩⟩⟩⟩⟩⟩⟩⟩⟩
theorem lw_p48 : lw_okq (⟨"BeastRoadModel", "hereNow", "()I"⟩, 44) := ⟨⟨by decide +kernel, by decide +kernel⟩, List.mem_of_getElem? (i := 851) (by decide +kernel), List.mem_of_getElem? (i := 1161) (by decide +kernel), List.mem_of_getElem? (i := 1162) (by decide +kernel)⟩
theorem lw_p49 : lw_okq (⟨"BeastRoadModel", "beside", "(II)I"⟩, 44) := ⟨⟨by decide +kernel, by decide +kernel⟩, List.mem_of_getElem? (i := 851) (by decide +kernel), List.mem_of_getElem? (i := 1181) (by decide +kernel), List.mem_of_getElem? (i := 1182) (by decide +kernel)⟩
theorem lw_p50 : lw_okq (⟨"BeastRoadModel", "all", "()J"⟩, 44) := ⟨⟨by decide +kernel, by decide +kernel⟩, List.mem_of_getElem? (i := 851) (by decide +kernel), List.mem_of_getElem? (i := 1189) (by decide +kernel), List.mem_of_getElem? (i := 1190) (by decide +kernel)⟩
def lw_privs_4 : List (MethodName × Nat) := [(⟨"BeastRoadModel", "hereNow", "()I"⟩, 44), (⟨"BeastRoadModel", "beside", "(II)I"⟩, 44), (⟨"BeastRoadModel", "all", "()J"⟩, 44)]
theorem lw_r4 : ∀ q ∈ lw_privs_4, lw_okq q := List.forall_mem_cons.mpr ⟨lw_p48, List.forall_mem_cons.mpr ⟨lw_p49, List.forall_mem_cons.mpr ⟨lw_p50, fun _ h => absurd h List.not_mem_nil⟩⟩⟩
def lw_privs : List (MethodName × Nat) := lw_privs_1 ++ (lw_privs_2 ++ (lw_privs_3 ++ (lw_privs_4)))
def lw_tbl : List Cond := k2_sels lw_privs ++ tables_1
theorem lw_privs_ok : ∀ q ∈ lw_privs, lw_okq q := by
  show ∀ q ∈ lw_privs_1 ++ (lw_privs_2 ++ (lw_privs_3 ++ (lw_privs_4))), lw_okq q
  exact List.forall_mem_append.mpr ⟨lw_r1, List.forall_mem_append.mpr ⟨lw_r2, List.forall_mem_append.mpr ⟨lw_r3, lw_r4⟩⟩⟩
end
section
def RX0 : String := "BeastRoad$Book"
def TX0 : u_T := fun k => match k with
  | 0 => ("BeastRoad$Book", "units", "[I", true)
  | 1 => ("BeastRoad$Book", "all", "I", false)
  | 2 => ("BeastRoad$Book", "lines", "[I", false)
  | _ => ("BeastRoad$Book", "count", "I", false)
def tyX0 : Nat → FieldType := fun k => match k with
  | 0 => .array .int
  | 1 => .int
  | 2 => .array .int
  | _ => .int
theorem nmX0 : ∀ a, a < 4 → ∀ b, b < 4 → a ≠ b → (TX0 a).2.1 ≠ (TX0 b).2.1 := by decide +kernel
theorem tyX0_ok : ∀ k, k < 4 → parseFieldDescriptor (TX0 k).2.2.1 = some (tyX0 k) := by decide +kernel
abbrev cX0_init : ByteArray := prog_2_method_1_code
def yX0_init : MethodName := ⟨RX0, "<init>", "()V"⟩
abbrev cX0_size : ByteArray := prog_2_method_2_code
def yX0_size : MethodName := ⟨RX0, "size", "()I"⟩
abbrev cX0_unitsInAll : ByteArray := prog_2_method_3_code
def yX0_unitsInAll : MethodName := ⟨RX0, "unitsInAll", "()I"⟩
abbrev cX0_unitsFor : ByteArray := prog_2_method_4_code
def yX0_unitsFor : MethodName := ⟨RX0, "unitsFor", "(I)I"⟩
abbrev cX0_linePart : ByteArray := prog_2_method_5_code
def yX0_linePart : MethodName := ⟨RX0, "linePart", "(II)I"⟩
abbrev cX0_closeDay : ByteArray := prog_2_method_6_code
def yX0_closeDay : MethodName := ⟨RX0, "closeDay", "(I[I)I"⟩
abbrev cX0_linesDue : ByteArray := prog_2_method_7_code
def yX0_linesDue : MethodName := ⟨RX0, "linesDue", "(I[I)I"⟩
abbrev cX0_makeRoom : ByteArray := prog_2_method_8_code
def yX0_makeRoom : MethodName := ⟨RX0, "makeRoom", "(I)V"⟩
abbrev cX0_write : ByteArray := prog_2_method_9_code
def yX0_write : MethodName := ⟨RX0, "write", "(III)V"⟩
def RX1 : String := "BeastRoad$Fairs"
def TX1 : u_T := fun k => match k with
  | 0 => ("BeastRoad$Fairs", "towns", "I", false)
  | 1 => ("BeastRoad$Fairs", "first", "[I", true)
  | 2 => ("BeastRoad$Fairs", "last", "[I", true)
  | 3 => ("BeastRoad$Fairs", "brings", "[I", true)
  | 4 => ("BeastRoad$Fairs", "ways", "[I", true)
  | 5 => ("BeastRoad$Fairs", "fodder", "I", false)
  | 6 => ("BeastRoad$Fairs", "plannedTown", "I", false)
  | 7 => ("BeastRoad$Fairs", "plannedDay", "I", false)
  | 8 => ("BeastRoad$Fairs", "best", "[I", true)
  | 9 => ("BeastRoad$Fairs", "bestCount", "I", false)
  | 10 => ("BeastRoad$Fairs", "bestValue", "I", false)
  | 11 => ("BeastRoad$Fairs", "path", "[I", true)
  | _ => ("BeastRoad$Fairs", "seen", "I", false)
def tyX1 : Nat → FieldType := fun k => match k with
  | 0 => .int
  | 1 => .array .int
  | 2 => .array .int
  | 3 => .array .int
  | 4 => .array .int
  | 5 => .int
  | 6 => .int
  | 7 => .int
  | 8 => .array .int
  | 9 => .int
  | 10 => .int
  | 11 => .array .int
  | _ => .int
theorem nmX1 : ∀ a, a < 13 → ∀ b, b < 13 → a ≠ b → (TX1 a).2.1 ≠ (TX1 b).2.1 := by decide +kernel
theorem tyX1_ok : ∀ k, k < 13 → parseFieldDescriptor (TX1 k).2.2.1 = some (tyX1 k) := by decide +kernel
abbrev cX1_init : ByteArray := prog_3_method_1_code
def yX1_init : MethodName := ⟨RX1, "<init>", "()V"⟩
abbrev cX1_size : ByteArray := prog_3_method_2_code
def yX1_size : MethodName := ⟨RX1, "size", "()I"⟩
abbrev cX1_isTown : ByteArray := prog_3_method_3_code
def yX1_isTown : MethodName := ⟨RX1, "isTown", "(I)Z"⟩
abbrev cX1_addTown : ByteArray := prog_3_method_4_code
def yX1_addTown : MethodName := ⟨RX1, "addTown", "(III)I"⟩
abbrev cX1_setWay : ByteArray := prog_3_method_5_code
def yX1_setWay : MethodName := ⟨RX1, "setWay", "(III)Z"⟩
abbrev cX1_setFodder : ByteArray := prog_3_method_6_code
def yX1_setFodder : MethodName := ⟨RX1, "setFodder", "(I)Z"⟩
abbrev cX1_bestBrings : ByteArray := prog_3_method_7_code
def yX1_bestBrings : MethodName := ⟨RX1, "bestBrings", "(II)I"⟩
abbrev cX1_bestStop : ByteArray := prog_3_method_8_code
def yX1_bestStop : MethodName := ⟨RX1, "bestStop", "(III)I"⟩
abbrev cX1_plan : ByteArray := prog_3_method_9_code
def yX1_plan : MethodName := ⟨RX1, "plan", "(II)Z"⟩
abbrev cX1_visit : ByteArray := prog_3_method_10_code
def yX1_visit : MethodName := ⟨RX1, "visit", "(IIII)V"⟩
abbrev cX1_goOn : ByteArray := prog_3_method_11_code
def yX1_goOn : MethodName := ⟨RX1, "goOn", "(IIII)V"⟩
abbrev cX1_keepIfBetter : ByteArray := prog_3_method_12_code
def yX1_keepIfBetter : MethodName := ⟨RX1, "keepIfBetter", "(II)V"⟩
abbrev cX1_isBetter : ByteArray := prog_3_method_13_code
def yX1_isBetter : MethodName := ⟨RX1, "isBetter", "(II)Z"⟩
abbrev cX1_mayGetBetter : ByteArray := prog_3_method_14_code
def yX1_mayGetBetter : MethodName := ⟨RX1, "mayGetBetter", "(II)Z"⟩
def RX2 : String := "BeastRoad$Field"
def TX2 : u_T := fun k => match k with
  | 0 => ("BeastRoad$Field", "walls", "[Z", true)
  | 1 => ("BeastRoad$Field", "maybes", "[J", true)
  | 2 => ("BeastRoad$Field", "nextMaybes", "[J", true)
  | 3 => ("BeastRoad$Field", "beast", "I", false)
  | _ => ("BeastRoad$Field", "hours", "I", false)
def tyX2 : Nat → FieldType := fun k => match k with
  | 0 => .array .boolean
  | 1 => .array .long
  | 2 => .array .long
  | 3 => .int
  | _ => .int
theorem nmX2 : ∀ a, a < 5 → ∀ b, b < 5 → a ≠ b → (TX2 a).2.1 ≠ (TX2 b).2.1 := by decide +kernel
theorem tyX2_ok : ∀ k, k < 5 → parseFieldDescriptor (TX2 k).2.2.1 = some (tyX2 k) := by decide +kernel
abbrev cX2_init : ByteArray := prog_4_method_1_code
def yX2_init : MethodName := ⟨RX2, "<init>", "()V"⟩
abbrev cX2_beastAway : ByteArray := prog_4_method_2_code
def yX2_beastAway : MethodName := ⟨RX2, "beastAway", "()I"⟩
abbrev cX2_hoursGone : ByteArray := prog_4_method_3_code
def yX2_hoursGone : MethodName := ⟨RX2, "hoursGone", "()I"⟩
abbrev cX2_setWall : ByteArray := prog_4_method_4_code
def yX2_setWall : MethodName := ⟨RX2, "setWall", "(IZ)Z"⟩
abbrev cX2_lose : ByteArray := prog_4_method_5_code
def yX2_lose : MethodName := ⟨RX2, "lose", "(II)Z"⟩
abbrev cX2_passHour : ByteArray := prog_4_method_6_code
def yX2_passHour : MethodName := ⟨RX2, "passHour", "()I"⟩
abbrev cX2_lookAt : ByteArray := prog_4_method_7_code
def yX2_lookAt : MethodName := ⟨RX2, "lookAt", "(I)I"⟩
abbrev cX2_maybeOf : ByteArray := prog_4_method_8_code
def yX2_maybeOf : MethodName := ⟨RX2, "maybeOf", "(I)J"⟩
abbrev cX2_chanceOf : ByteArray := prog_4_method_9_code
def yX2_chanceOf : MethodName := ⟨RX2, "chanceOf", "(II)J"⟩
abbrev cX2_likeliest : ByteArray := prog_4_method_10_code
def yX2_likeliest : MethodName := ⟨RX2, "likeliest", "()I"⟩
abbrev cX2_isCell : ByteArray := prog_4_method_11_code
def yX2_isCell : MethodName := ⟨RX2, "isCell", "(I)Z"⟩
abbrev cX2_isOpen : ByteArray := prog_4_method_12_code
def yX2_isOpen : MethodName := ⟨RX2, "isOpen", "(I)Z"⟩
abbrev cX2_spread : ByteArray := prog_4_method_13_code
def yX2_spread : MethodName := ⟨RX2, "spread", "(I)V"⟩
abbrev cX2_beside : ByteArray := prog_4_method_14_code
def yX2_beside : MethodName := ⟨RX2, "beside", "(II)I"⟩
abbrev cX2_allMaybes : ByteArray := prog_4_method_15_code
def yX2_allMaybes : MethodName := ⟨RX2, "allMaybes", "()J"⟩
abbrev cX2_commonDivisor : ByteArray := prog_4_method_16_code
def yX2_commonDivisor : MethodName := ⟨RX2, "commonDivisor", "(JJ)J"⟩
def RX3 : String := "BeastRoad$Herd"
def TX3 : u_T := fun k => match k with
  | 0 => ("BeastRoad$Herd", "feedOf", "[I", true)
  | 1 => ("BeastRoad$Herd", "weightOf", "[I", true)
  | 2 => ("BeastRoad$Herd", "beasts", "I", false)
  | 3 => ("BeastRoad$Herd", "kindOf", "[I", true)
  | 4 => ("BeastRoad$Herd", "firstDay", "[I", true)
  | 5 => ("BeastRoad$Herd", "toldOn", "[I", true)
  | 6 => ("BeastRoad$Herd", "tellings", "I", false)
  | 7 => ("BeastRoad$Herd", "tellingBeast", "[I", true)
  | 8 => ("BeastRoad$Herd", "tellingFrom", "[I", true)
  | 9 => ("BeastRoad$Herd", "tellingOn", "[I", true)
  | 10 => ("BeastRoad$Herd", "now", "I", false)
  | 11 => ("BeastRoad$Herd", "goneFrom", "[I", true)
  | _ => ("BeastRoad$Herd", "rations", "[I", true)
def tyX3 : Nat → FieldType := fun k => match k with
  | 0 => .array .int
  | 1 => .array .int
  | 2 => .int
  | 3 => .array .int
  | 4 => .array .int
  | 5 => .array .int
  | 6 => .int
  | 7 => .array .int
  | 8 => .array .int
  | 9 => .array .int
  | 10 => .int
  | 11 => .array .int
  | _ => .array .int
theorem nmX3 : ∀ a, a < 13 → ∀ b, b < 13 → a ≠ b → (TX3 a).2.1 ≠ (TX3 b).2.1 := by decide +kernel
theorem tyX3_ok : ∀ k, k < 13 → parseFieldDescriptor (TX3 k).2.2.1 = some (tyX3 k) := by decide +kernel
abbrev cX3_init : ByteArray := prog_5_method_1_code
def yX3_init : MethodName := ⟨RX3, "<init>", "()V"⟩
abbrev cX3_today : ByteArray := prog_5_method_2_code
def yX3_today : MethodName := ⟨RX3, "today", "()I"⟩
abbrev cX3_nextDay : ByteArray := prog_5_method_3_code
def yX3_nextDay : MethodName := ⟨RX3, "nextDay", "()V"⟩
abbrev cX3_size : ByteArray := prog_5_method_4_code
def yX3_size : MethodName := ⟨RX3, "size", "()I"⟩
abbrev cX3_isBeast : ByteArray := prog_5_method_5_code
def yX3_isBeast : MethodName := ⟨RX3, "isBeast", "(I)Z"⟩
abbrev cX3_kindOfBeast : ByteArray := prog_5_method_6_code
def yX3_kindOfBeast : MethodName := ⟨RX3, "kindOfBeast", "(I)I"⟩
abbrev cX3_weightOfKind : ByteArray := prog_5_method_7_code
def yX3_weightOfKind : MethodName := ⟨RX3, "weightOfKind", "(I)I"⟩
abbrev cX3_setKind : ByteArray := prog_5_method_8_code
def yX3_setKind : MethodName := ⟨RX3, "setKind", "(III)V"⟩
abbrev cX3_tellBeast : ByteArray := prog_5_method_9_code
def yX3_tellBeast : MethodName := ⟨RX3, "tellBeast", "(II)I"⟩
abbrev cX3_tellGone : ByteArray := prog_5_method_10_code
def yX3_tellGone : MethodName := ⟨RX3, "tellGone", "(II)Z"⟩
abbrev cX3_isHere : ByteArray := prog_5_method_11_code
def yX3_isHere : MethodName := ⟨RX3, "isHere", "(III)Z"⟩
abbrev cX3_rationOf : ByteArray := prog_5_method_12_code
def yX3_rationOf : MethodName := ⟨RX3, "rationOf", "(II)I"⟩
abbrev cX3_rationsToToday : ByteArray := prog_5_method_13_code
def yX3_rationsToToday : MethodName := ⟨RX3, "rationsToToday", "()[I"⟩
abbrev cX3_beastsHereToday : ByteArray := prog_5_method_14_code
def yX3_beastsHereToday : MethodName := ⟨RX3, "beastsHereToday", "()I"⟩
abbrev cX3_kindsHereToday : ByteArray := prog_5_method_15_code
def yX3_kindsHereToday : MethodName := ⟨RX3, "kindsHereToday", "()I"⟩
abbrev cX3_isDay : ByteArray := prog_5_method_16_code
def yX3_isDay : MethodName := ⟨RX3, "isDay", "(I)Z"⟩
abbrev cX3_recall : ByteArray := prog_5_method_17_code
def yX3_recall : MethodName := ⟨RX3, "recall", "(I)V"⟩
abbrev cX3_stands : ByteArray := prog_5_method_18_code
def yX3_stands : MethodName := ⟨RX3, "stands", "(III)Z"⟩
def RX4 : String := "BeastRoad$Law"
def TX4 : u_T := fun k => match k with
  | 0 => ("BeastRoad$Law", "forbidden", "I", false)
  | _ => ("BeastRoad$Law", "numbers", "[I", true)
def tyX4 : Nat → FieldType := fun k => match k with
  | 0 => .int
  | _ => .array .int
theorem nmX4 : ∀ a, a < 2 → ∀ b, b < 2 → a ≠ b → (TX4 a).2.1 ≠ (TX4 b).2.1 := by decide +kernel
theorem tyX4_ok : ∀ k, k < 2 → parseFieldDescriptor (TX4 k).2.2.1 = some (tyX4 k) := by decide +kernel
abbrev cX4_init : ByteArray := prog_6_method_1_code
def yX4_init : MethodName := ⟨RX4, "<init>", "()V"⟩
abbrev cX4_clear : ByteArray := prog_6_method_2_code
def yX4_clear : MethodName := ⟨RX4, "clear", "()V"⟩
abbrev cX4_copyFrom : ByteArray := prog_6_method_3_code
def yX4_copyFrom : MethodName := ⟨RX4, "copyFrom", "(LBeastRoad$Law;)V"⟩
abbrev cX4_take : ByteArray := prog_6_method_4_code
def yX4_take : MethodName := ⟨RX4, "take", "(II)Z"⟩
abbrev cX4_verdict : ByteArray := prog_6_method_5_code
def yX4_verdict : MethodName := ⟨RX4, "verdict", "(III)I"⟩
abbrev cX4_price : ByteArray := prog_6_method_6_code
def yX4_price : MethodName := ⟨RX4, "price", "(I)I"⟩
abbrev cX4_forbid : ByteArray := prog_6_method_7_code
def yX4_forbid : MethodName := ⟨RX4, "forbid", "(I)Z"⟩
abbrev cX4_isAbove : ByteArray := prog_6_method_8_code
def yX4_isAbove : MethodName := ⟨RX4, "isAbove", "(II)Z"⟩
abbrev cX4_numberOrZero : ByteArray := prog_6_method_9_code
def yX4_numberOrZero : MethodName := ⟨RX4, "numberOrZero", "(I)I"⟩
def RX5 : String := "BeastRoad$Tape"
def TX5 : u_T := fun k => match k with
  | 0 => ("BeastRoad$Tape", "bytes", "[I", true)
  | _ => ("BeastRoad$Tape", "length", "I", false)
def tyX5 : Nat → FieldType := fun k => match k with
  | 0 => .array .int
  | _ => .int
theorem nmX5 : ∀ a, a < 2 → ∀ b, b < 2 → a ≠ b → (TX5 a).2.1 ≠ (TX5 b).2.1 := by decide +kernel
theorem tyX5_ok : ∀ k, k < 2 → parseFieldDescriptor (TX5 k).2.2.1 = some (tyX5 k) := by decide +kernel
abbrev cX5_init : ByteArray := prog_7_method_1_code
def yX5_init : MethodName := ⟨RX5, "<init>", "()V"⟩
abbrev cX5_bytesIn : ByteArray := prog_7_method_2_code
def yX5_bytesIn : MethodName := ⟨RX5, "bytesIn", "(I)I"⟩
abbrev cX5_size : ByteArray := prog_7_method_3_code
def yX5_size : MethodName := ⟨RX5, "size", "()I"⟩
abbrev cX5_hasRoomFor : ByteArray := prog_7_method_4_code
def yX5_hasRoomFor : MethodName := ⟨RX5, "hasRoomFor", "(I)Z"⟩
abbrev cX5_append : ByteArray := prog_7_method_5_code
def yX5_append : MethodName := ⟨RX5, "append", "(I)V"⟩
abbrev cX5_cutTo : ByteArray := prog_7_method_6_code
def yX5_cutTo : MethodName := ⟨RX5, "cutTo", "(I)Z"⟩
abbrev cX5_readInto : ByteArray := prog_7_method_7_code
def yX5_readInto : MethodName := ⟨RX5, "readInto", "(LBeastRoad$Law;)I"⟩
abbrev cX5_readClause : ByteArray := prog_7_method_8_code
def yX5_readClause : MethodName := ⟨RX5, "readClause", "(ILBeastRoad$Law;)I"⟩
abbrev cX5_sortAt : ByteArray := prog_7_method_9_code
def yX5_sortAt : MethodName := ⟨RX5, "sortAt", "(I)I"⟩
abbrev cX5_standsAt : ByteArray := prog_7_method_10_code
def yX5_standsAt : MethodName := ⟨RX5, "standsAt", "(ILjava/lang/String;)Z"⟩
abbrev cX5_pastBlanks : ByteArray := prog_7_method_11_code
def yX5_pastBlanks : MethodName := ⟨RX5, "pastBlanks", "(I)I"⟩
abbrev cX5_pastDigits : ByteArray := prog_7_method_12_code
def yX5_pastDigits : MethodName := ⟨RX5, "pastDigits", "(I)I"⟩
abbrev cX5_valueOf : ByteArray := prog_7_method_13_code
def yX5_valueOf : MethodName := ⟨RX5, "valueOf", "(II)I"⟩
abbrev cX5_wordOf : ByteArray := prog_7_method_14_code
def yX5_wordOf : MethodName := ⟨RX5, "wordOf", "(I)Ljava/lang/String;"⟩
def RX6 : String := "BeastRoad$Wagons"
def TX6 : u_T := fun k => match k with
  | 0 => ("BeastRoad$Wagons", "herd", "LBeastRoad$Herd;", true)
  | 1 => ("BeastRoad$Wagons", "wagonOf", "[I", true)
  | 2 => ("BeastRoad$Wagons", "barredBy", "[I", true)
  | 3 => ("BeastRoad$Wagons", "kindsIn", "[I", true)
  | 4 => ("BeastRoad$Wagons", "foes", "[I", true)
  | _ => ("BeastRoad$Wagons", "beginnings", "[I", true)
def tyX6 : Nat → FieldType := fun k => match k with
  | 0 => .object "BeastRoad$Herd"
  | 1 => .array .int
  | 2 => .array .int
  | 3 => .array .int
  | 4 => .array .int
  | _ => .array .int
theorem nmX6 : ∀ a, a < 6 → ∀ b, b < 6 → a ≠ b → (TX6 a).2.1 ≠ (TX6 b).2.1 := by decide +kernel
theorem tyX6_ok : ∀ k, k < 6 → parseFieldDescriptor (TX6 k).2.2.1 = some (tyX6 k) := by decide +kernel
abbrev cX6_init : ByteArray := prog_8_method_1_code
def yX6_init : MethodName := ⟨RX6, "<init>", "(LBeastRoad$Herd;)V"⟩
abbrev cX6_put : ByteArray := prog_8_method_2_code
def yX6_put : MethodName := ⟨RX6, "put", "(II)Z"⟩
abbrev cX6_setBar : ByteArray := prog_8_method_3_code
def yX6_setBar : MethodName := ⟨RX6, "setBar", "(IIZ)Z"⟩
abbrev cX6_wouldBear : ByteArray := prog_8_method_4_code
def yX6_wouldBear : MethodName := ⟨RX6, "wouldBear", "(II)Z"⟩
abbrev cX6_weightIn : ByteArray := prog_8_method_5_code
def yX6_weightIn : MethodName := ⟨RX6, "weightIn", "(I)I"⟩
abbrev cX6_beastsIn : ByteArray := prog_8_method_6_code
def yX6_beastsIn : MethodName := ⟨RX6, "beastsIn", "(I)I"⟩
abbrev cX6_beastsInAll : ByteArray := prog_8_method_7_code
def yX6_beastsInAll : MethodName := ⟨RX6, "beastsInAll", "()I"⟩
abbrev cX6_isSound : ByteArray := prog_8_method_8_code
def yX6_isSound : MethodName := ⟨RX6, "isSound", "(I)Z"⟩
abbrev cX6_placeInOrder : ByteArray := prog_8_method_9_code
def yX6_placeInOrder : MethodName := ⟨RX6, "placeInOrder", "(I)I"⟩
abbrev cX6_weightWith : ByteArray := prog_8_method_10_code
def yX6_weightWith : MethodName := ⟨RX6, "weightWith", "(III)I"⟩
abbrev cX6_meetsFoeAhead : ByteArray := prog_8_method_11_code
def yX6_meetsFoeAhead : MethodName := ⟨RX6, "meetsFoeAhead", "(I)Z"⟩
abbrev cX6_findKinds : ByteArray := prog_8_method_12_code
def yX6_findKinds : MethodName := ⟨RX6, "findKinds", "()V"⟩
abbrev cX6_filledWagons : ByteArray := prog_8_method_13_code
def yX6_filledWagons : MethodName := ⟨RX6, "filledWagons", "()I"⟩
abbrev cX6_findFoes : ByteArray := prog_8_method_14_code
def yX6_findFoes : MethodName := ⟨RX6, "findFoes", "()V"⟩
abbrev cX6_kindsBarredBy : ByteArray := prog_8_method_15_code
def yX6_kindsBarredBy : MethodName := ⟨RX6, "kindsBarredBy", "(I)I"⟩
abbrev cX6_findBeginnings : ByteArray := prog_8_method_16_code
def yX6_findBeginnings : MethodName := ⟨RX6, "findBeginnings", "(I)V"⟩
abbrev cX6_beginningsOf : ByteArray := prog_8_method_17_code
def yX6_beginningsOf : MethodName := ⟨RX6, "beginningsOf", "(I)I"⟩
abbrev cX6_placeByLowest : ByteArray := prog_8_method_18_code
def yX6_placeByLowest : MethodName := ⟨RX6, "placeByLowest", "(II)I"⟩
abbrev cX6_lowest : ByteArray := prog_8_method_19_code
def yX6_lowest : MethodName := ⟨RX6, "lowest", "(I)I"⟩
def RX7 : String := "BeastRoad"
def TX7 : u_T := fun k => match k with
  | 0 => ("BeastRoad", "herd", "LBeastRoad$Herd;", true)
  | 1 => ("BeastRoad", "book", "LBeastRoad$Book;", true)
  | 2 => ("BeastRoad", "wagons", "LBeastRoad$Wagons;", true)
  | 3 => ("BeastRoad", "fairs", "LBeastRoad$Fairs;", true)
  | 4 => ("BeastRoad", "tape", "LBeastRoad$Tape;", true)
  | 5 => ("BeastRoad", "laws", "[LBeastRoad$Law;", true)
  | 6 => ("BeastRoad", "draft", "LBeastRoad$Law;", true)
  | _ => ("BeastRoad", "field", "LBeastRoad$Field;", true)
def tyX7 : Nat → FieldType := fun k => match k with
  | 0 => .object "BeastRoad$Herd"
  | 1 => .object "BeastRoad$Book"
  | 2 => .object "BeastRoad$Wagons"
  | 3 => .object "BeastRoad$Fairs"
  | 4 => .object "BeastRoad$Tape"
  | 5 => .array (.object "BeastRoad$Law")
  | 6 => .object "BeastRoad$Law"
  | _ => .object "BeastRoad$Field"
theorem nmX7 : ∀ a, a < 8 → ∀ b, b < 8 → a ≠ b → (TX7 a).2.1 ≠ (TX7 b).2.1 := by decide +kernel
theorem tyX7_ok : ∀ k, k < 8 → parseFieldDescriptor (TX7 k).2.2.1 = some (tyX7 k) := by decide +kernel
abbrev cX7_init : ByteArray := prog_1_method_1_code
def yX7_init : MethodName := ⟨RX7, "<init>", "()V"⟩
abbrev cX7_kind : ByteArray := prog_1_method_2_code
def yX7_kind : MethodName := ⟨RX7, "kind", "(III)Z"⟩
abbrev cX7_beast : ByteArray := prog_1_method_3_code
def yX7_beast : MethodName := ⟨RX7, "beast", "(II)I"⟩
abbrev cX7_gone : ByteArray := prog_1_method_4_code
def yX7_gone : MethodName := ⟨RX7, "gone", "(II)Z"⟩
abbrev cX7_here : ByteArray := prog_1_method_5_code
def yX7_here : MethodName := ⟨RX7, "here", "(III)Z"⟩
abbrev cX7_ration : ByteArray := prog_1_method_6_code
def yX7_ration : MethodName := ⟨RX7, "ration", "(II)I"⟩
abbrev cX7_day : ByteArray := prog_1_method_7_code
def yX7_day : MethodName := ⟨RX7, "day", "()I"⟩
abbrev cX7_line : ByteArray := prog_1_method_8_code
def yX7_line : MethodName := ⟨RX7, "line", "(II)I"⟩
abbrev cX7_booked : ByteArray := prog_1_method_9_code
def yX7_booked : MethodName := ⟨RX7, "booked", "(I)I"⟩
abbrev cX7_load : ByteArray := prog_1_method_10_code
def yX7_load : MethodName := ⟨RX7, "load", "(II)Z"⟩
abbrev cX7_bar : ByteArray := prog_1_method_11_code
def yX7_bar : MethodName := ⟨RX7, "bar", "(IIZ)Z"⟩
abbrev cX7_wagon : ByteArray := prog_1_method_12_code
def yX7_wagon : MethodName := ⟨RX7, "wagon", "(II)I"⟩
abbrev cX7_order : ByteArray := prog_1_method_13_code
def yX7_order : MethodName := ⟨RX7, "order", "(I)I"⟩
abbrev cX7_town : ByteArray := prog_1_method_14_code
def yX7_town : MethodName := ⟨RX7, "town", "(III)I"⟩
abbrev cX7_way : ByteArray := prog_1_method_15_code
def yX7_way : MethodName := ⟨RX7, "way", "(III)Z"⟩
abbrev cX7_fodder : ByteArray := prog_1_method_16_code
def yX7_fodder : MethodName := ⟨RX7, "fodder", "(I)Z"⟩
abbrev cX7_tour : ByteArray := prog_1_method_17_code
def yX7_tour : MethodName := ⟨RX7, "tour", "(II)I"⟩
abbrev cX7_stop : ByteArray := prog_1_method_18_code
def yX7_stop : MethodName := ⟨RX7, "stop", "(III)I"⟩
abbrev cX7_feed : ByteArray := prog_1_method_19_code
def yX7_feed : MethodName := ⟨RX7, "feed", "(IIIII)I"⟩
abbrev cX7_end : ByteArray := prog_1_method_20_code
def yX7_end : MethodName := ⟨RX7, "end", "(I)Z"⟩
abbrev cX7_fault : ByteArray := prog_1_method_21_code
def yX7_fault : MethodName := ⟨RX7, "fault", "()I"⟩
abbrev cX7_law : ByteArray := prog_1_method_22_code
def yX7_law : MethodName := ⟨RX7, "law", "(I)Z"⟩
abbrev cX7_may : ByteArray := prog_1_method_23_code
def yX7_may : MethodName := ⟨RX7, "may", "(II)I"⟩
abbrev cX7_fee : ByteArray := prog_1_method_24_code
def yX7_fee : MethodName := ⟨RX7, "fee", "(I)I"⟩
abbrev cX7_wall : ByteArray := prog_1_method_25_code
def yX7_wall : MethodName := ⟨RX7, "wall", "(IZ)Z"⟩
abbrev cX7_away : ByteArray := prog_1_method_26_code
def yX7_away : MethodName := ⟨RX7, "away", "(II)Z"⟩
abbrev cX7_hour : ByteArray := prog_1_method_27_code
def yX7_hour : MethodName := ⟨RX7, "hour", "()I"⟩
abbrev cX7_look : ByteArray := prog_1_method_28_code
def yX7_look : MethodName := ⟨RX7, "look", "(I)I"⟩
abbrev cX7_maybe : ByteArray := prog_1_method_29_code
def yX7_maybe : MethodName := ⟨RX7, "maybe", "(I)J"⟩
abbrev cX7_chance : ByteArray := prog_1_method_30_code
def yX7_chance : MethodName := ⟨RX7, "chance", "(II)J"⟩
abbrev cX7_where : ByteArray := prog_1_method_31_code
def yX7_where : MethodName := ⟨RX7, "where", "()I"⟩
abbrev cX7_count : ByteArray := prog_1_method_32_code
def yX7_count : MethodName := ⟨RX7, "count", "(I)I"⟩
abbrev cX7_within : ByteArray := prog_1_method_33_code
def yX7_within : MethodName := ⟨RX7, "within", "(III)Z"⟩
abbrev cX7_isKind : ByteArray := prog_1_method_34_code
def yX7_isKind : MethodName := ⟨RX7, "isKind", "(I)Z"⟩
abbrev cX7_has : ByteArray := prog_1_method_35_code
def yX7_has : MethodName := ⟨RX7, "has", "(II)Z"⟩
def RX8 : String := "BeastRoadModel"
def TX8 : u_T := fun k => match k with
  | 0 => ("BeastRoadModel", "now", "I", false)
  | 1 => ("BeastRoadModel", "beasts", "I", false)
  | 2 => ("BeastRoadModel", "gones", "I", false)
  | 3 => ("BeastRoadModel", "lines", "I", false)
  | 4 => ("BeastRoadModel", "towns", "I", false)
  | 5 => ("BeastRoadModel", "fodder", "I", false)
  | 6 => ("BeastRoadModel", "awayBeast", "I", false)
  | 7 => ("BeastRoadModel", "hours", "I", false)
  | 8 => ("BeastRoadModel", "feed", "[I", true)
  | 9 => ("BeastRoadModel", "weight", "[I", true)
  | 10 => ("BeastRoadModel", "kindOf", "[I", true)
  | 11 => ("BeastRoadModel", "from", "[I", true)
  | 12 => ("BeastRoadModel", "toldOn", "[I", true)
  | 13 => ("BeastRoadModel", "wagonOf", "[I", true)
  | 14 => ("BeastRoadModel", "goneBeast", "[I", true)
  | 15 => ("BeastRoadModel", "goneFrom", "[I", true)
  | 16 => ("BeastRoadModel", "goneTold", "[I", true)
  | 17 => ("BeastRoadModel", "bookedFor", "[I", true)
  | 18 => ("BeastRoadModel", "lineOn", "[I", false)
  | 19 => ("BeastRoadModel", "lineFor", "[I", false)
  | 20 => ("BeastRoadModel", "lineUnits", "[I", false)
  | 21 => ("BeastRoadModel", "bars", "[Z", true)
  | 22 => ("BeastRoadModel", "row", "[I", true)
  | 23 => ("BeastRoadModel", "placed", "[Z", true)
  | 24 => ("BeastRoadModel", "barred", "[Z", true)
  | 25 => ("BeastRoadModel", "fairFirst", "[I", true)
  | 26 => ("BeastRoadModel", "fairLast", "[I", true)
  | 27 => ("BeastRoadModel", "fairBrings", "[I", true)
  | 28 => ("BeastRoadModel", "ways", "[I", true)
  | 29 => ("BeastRoadModel", "path", "[I", true)
  | 30 => ("BeastRoadModel", "best", "[I", true)
  | 31 => ("BeastRoadModel", "bestMany", "I", false)
  | 32 => ("BeastRoadModel", "bestSum", "I", false)
  | 33 => ("BeastRoadModel", "beginning", "I", false)
  | 34 => ("BeastRoadModel", "tape", "[I", true)
  | 35 => ("BeastRoadModel", "size", "I", false)
  | 36 => ("BeastRoadModel", "forbids", "[I", true)
  | 37 => ("BeastRoadModel", "numbers", "[I", true)
  | 38 => ("BeastRoadModel", "hasLaws", "[Z", true)
  | 39 => ("BeastRoadModel", "readForbids", "I", false)
  | 40 => ("BeastRoadModel", "readNumbers", "[I", true)
  | 41 => ("BeastRoadModel", "walls", "[Z", true)
  | 42 => ("BeastRoadModel", "maybes", "[J", false)
  | _ => ("BeastRoadModel", "others", "[J", false)
def tyX8 : Nat → FieldType := fun k => match k with
  | 0 => .int
  | 1 => .int
  | 2 => .int
  | 3 => .int
  | 4 => .int
  | 5 => .int
  | 6 => .int
  | 7 => .int
  | 8 => .array .int
  | 9 => .array .int
  | 10 => .array .int
  | 11 => .array .int
  | 12 => .array .int
  | 13 => .array .int
  | 14 => .array .int
  | 15 => .array .int
  | 16 => .array .int
  | 17 => .array .int
  | 18 => .array .int
  | 19 => .array .int
  | 20 => .array .int
  | 21 => .array .boolean
  | 22 => .array .int
  | 23 => .array .boolean
  | 24 => .array .boolean
  | 25 => .array .int
  | 26 => .array .int
  | 27 => .array .int
  | 28 => .array .int
  | 29 => .array .int
  | 30 => .array .int
  | 31 => .int
  | 32 => .int
  | 33 => .int
  | 34 => .array .int
  | 35 => .int
  | 36 => .array .int
  | 37 => .array .int
  | 38 => .array .boolean
  | 39 => .int
  | 40 => .array .int
  | 41 => .array .boolean
  | 42 => .array .long
  | _ => .array .long
theorem nmX8 : ∀ a, a < 44 → ∀ b, b < 44 → a ≠ b → (TX8 a).2.1 ≠ (TX8 b).2.1 := by decide +kernel
theorem tyX8_ok : ∀ k, k < 44 → parseFieldDescriptor (TX8 k).2.2.1 = some (tyX8 k) := by decide +kernel
abbrev cX8_init : ByteArray := prog_10_method_1_code
def yX8_init : MethodName := ⟨RX8, "<init>", "()V"⟩
abbrev cX8_in : ByteArray := prog_10_method_2_code
def yX8_in : MethodName := ⟨RX8, "in", "(III)Z"⟩
abbrev cX8_isBeast : ByteArray := prog_10_method_3_code
def yX8_isBeast : MethodName := ⟨RX8, "isBeast", "(I)Z"⟩
abbrev cX8_isDay : ByteArray := prog_10_method_4_code
def yX8_isDay : MethodName := ⟨RX8, "isDay", "(I)Z"⟩
abbrev cX8_weightOf : ByteArray := prog_10_method_5_code
def yX8_weightOf : MethodName := ⟨RX8, "weightOf", "(I)I"⟩
abbrev cX8_kind : ByteArray := prog_10_method_6_code
def yX8_kind : MethodName := ⟨RX8, "kind", "(III)Z"⟩
abbrev cX8_beast : ByteArray := prog_10_method_7_code
def yX8_beast : MethodName := ⟨RX8, "beast", "(II)I"⟩
abbrev cX8_gone : ByteArray := prog_10_method_8_code
def yX8_gone : MethodName := ⟨RX8, "gone", "(II)Z"⟩
abbrev cX8_isHere : ByteArray := prog_10_method_9_code
def yX8_isHere : MethodName := ⟨RX8, "isHere", "(III)Z"⟩
abbrev cX8_here : ByteArray := prog_10_method_10_code
def yX8_here : MethodName := ⟨RX8, "here", "(III)Z"⟩
abbrev cX8_rationOf : ByteArray := prog_10_method_11_code
def yX8_rationOf : MethodName := ⟨RX8, "rationOf", "(II)I"⟩
abbrev cX8_ration : ByteArray := prog_10_method_12_code
def yX8_ration : MethodName := ⟨RX8, "ration", "(II)I"⟩
abbrev cX8_longer : ByteArray := prog_10_method_13_code
def yX8_longer : MethodName := ⟨RX8, "longer", "([I)[I"⟩
abbrev cX8_day : ByteArray := prog_10_method_14_code
def yX8_day : MethodName := ⟨RX8, "day", "()I"⟩
abbrev cX8_line : ByteArray := prog_10_method_15_code
def yX8_line : MethodName := ⟨RX8, "line", "(II)I"⟩
abbrev cX8_booked : ByteArray := prog_10_method_16_code
def yX8_booked : MethodName := ⟨RX8, "booked", "(I)I"⟩
abbrev cX8_load : ByteArray := prog_10_method_17_code
def yX8_load : MethodName := ⟨RX8, "load", "(II)Z"⟩
abbrev cX8_bar : ByteArray := prog_10_method_18_code
def yX8_bar : MethodName := ⟨RX8, "bar", "(IIZ)Z"⟩
abbrev cX8_areBarred : ByteArray := prog_10_method_19_code
def yX8_areBarred : MethodName := ⟨RX8, "areBarred", "(II)Z"⟩
abbrev cX8_manyIn : ByteArray := prog_10_method_20_code
def yX8_manyIn : MethodName := ⟨RX8, "manyIn", "(I)I"⟩
abbrev cX8_wagon : ByteArray := prog_10_method_21_code
def yX8_wagon : MethodName := ⟨RX8, "wagon", "(II)I"⟩
abbrev cX8_lays : ByteArray := prog_10_method_22_code
def yX8_lays : MethodName := ⟨RX8, "lays", "(II)Z"⟩
abbrev cX8_order : ByteArray := prog_10_method_23_code
def yX8_order : MethodName := ⟨RX8, "order", "(I)I"⟩
abbrev cX8_town : ByteArray := prog_10_method_24_code
def yX8_town : MethodName := ⟨RX8, "town", "(III)I"⟩
abbrev cX8_isTown : ByteArray := prog_10_method_25_code
def yX8_isTown : MethodName := ⟨RX8, "isTown", "(I)Z"⟩
abbrev cX8_way : ByteArray := prog_10_method_26_code
def yX8_way : MethodName := ⟨RX8, "way", "(III)Z"⟩
abbrev cX8_fodder : ByteArray := prog_10_method_27_code
def yX8_fodder : MethodName := ⟨RX8, "fodder", "(I)Z"⟩
abbrev cX8_isLower : ByteArray := prog_10_method_28_code
def yX8_isLower : MethodName := ⟨RX8, "isLower", "(I)Z"⟩
abbrev cX8_goOn : ByteArray := prog_10_method_29_code
def yX8_goOn : MethodName := ⟨RX8, "goOn", "(IIIII)V"⟩
abbrev cX8_findTour : ByteArray := prog_10_method_30_code
def yX8_findTour : MethodName := ⟨RX8, "findTour", "(II)V"⟩
abbrev cX8_tour : ByteArray := prog_10_method_31_code
def yX8_tour : MethodName := ⟨RX8, "tour", "(II)I"⟩
abbrev cX8_stop : ByteArray := prog_10_method_32_code
def yX8_stop : MethodName := ⟨RX8, "stop", "(III)I"⟩
abbrev cX8_byteOf : ByteArray := prog_10_method_33_code
def yX8_byteOf : MethodName := ⟨RX8, "byteOf", "(IIIIII)I"⟩
abbrev cX8_feed : ByteArray := prog_10_method_34_code
def yX8_feed : MethodName := ⟨RX8, "feed", "(IIIII)I"⟩
abbrev cX8_end : ByteArray := prog_10_method_35_code
def yX8_end : MethodName := ⟨RX8, "end", "(I)Z"⟩
abbrev cX8_blanks : ByteArray := prog_10_method_36_code
def yX8_blanks : MethodName := ⟨RX8, "blanks", "(I)I"⟩
abbrev cX8_isWord : ByteArray := prog_10_method_37_code
def yX8_isWord : MethodName := ⟨RX8, "isWord", "(ILjava/lang/String;)Z"⟩
abbrev cX8_word : ByteArray := prog_10_method_38_code
def yX8_word : MethodName := ⟨RX8, "word", "(I)Ljava/lang/String;"⟩
abbrev cX8_clause : ByteArray := prog_10_method_39_code
def yX8_clause : MethodName := ⟨RX8, "clause", "(I)I"⟩
abbrev cX8_fault : ByteArray := prog_10_method_40_code
def yX8_fault : MethodName := ⟨RX8, "fault", "()I"⟩
abbrev cX8_law : ByteArray := prog_10_method_41_code
def yX8_law : MethodName := ⟨RX8, "law", "(I)Z"⟩
abbrev cX8_hereNow : ByteArray := prog_10_method_42_code
def yX8_hereNow : MethodName := ⟨RX8, "hereNow", "()I"⟩
abbrev cX8_may : ByteArray := prog_10_method_43_code
def yX8_may : MethodName := ⟨RX8, "may", "(II)I"⟩
abbrev cX8_fee : ByteArray := prog_10_method_44_code
def yX8_fee : MethodName := ⟨RX8, "fee", "(I)I"⟩
abbrev cX8_wall : ByteArray := prog_10_method_45_code
def yX8_wall : MethodName := ⟨RX8, "wall", "(IZ)Z"⟩
abbrev cX8_away : ByteArray := prog_10_method_46_code
def yX8_away : MethodName := ⟨RX8, "away", "(II)Z"⟩
abbrev cX8_beside : ByteArray := prog_10_method_47_code
def yX8_beside : MethodName := ⟨RX8, "beside", "(II)I"⟩
abbrev cX8_hour : ByteArray := prog_10_method_48_code
def yX8_hour : MethodName := ⟨RX8, "hour", "()I"⟩
abbrev cX8_all : ByteArray := prog_10_method_49_code
def yX8_all : MethodName := ⟨RX8, "all", "()J"⟩
abbrev cX8_look : ByteArray := prog_10_method_50_code
def yX8_look : MethodName := ⟨RX8, "look", "(I)I"⟩
abbrev cX8_maybe : ByteArray := prog_10_method_51_code
def yX8_maybe : MethodName := ⟨RX8, "maybe", "(I)J"⟩
abbrev cX8_chance : ByteArray := prog_10_method_52_code
def yX8_chance : MethodName := ⟨RX8, "chance", "(II)J"⟩
abbrev cX8_where : ByteArray := prog_10_method_53_code
def yX8_where : MethodName := ⟨RX8, "where", "()I"⟩
abbrev cX8_count : ByteArray := prog_10_method_54_code
def yX8_count : MethodName := ⟨RX8, "count", "(I)I"⟩
def RJ6 : String := "java/lang/Integer"
abbrev cJ6_bitCount_0f7a4 : ByteArray := prog_12_method_49_code
def yJ6_bitCount_0f7a4 : MethodName := ⟨RJ6, "bitCount", "(I)I"⟩
def RJ9 : String := "java/lang/Math"
abbrev cJ9_max_7cf53 : ByteArray := prog_13_method_65_code
def yJ9_max_7cf53 : MethodName := ⟨RJ9, "max", "(II)I"⟩
abbrev cJ9_min_7cf53 : ByteArray := prog_13_method_69_code
def yJ9_min_7cf53 : MethodName := ⟨RJ9, "min", "(II)I"⟩
def RJ0 : String := "java/lang/String"
abbrev cJ0_length_8abf5 : ByteArray := prog_14_method_54_code
def yJ0_length_8abf5 : MethodName := ⟨RJ0, "length", "()I"⟩
abbrev cJ0_charAt_5068e : ByteArray := prog_14_method_56_code
def yJ0_charAt_5068e : MethodName := ⟨RJ0, "charAt", "(I)C"⟩
abbrev cJ0_coder_7d493 : ByteArray := prog_14_method_152_code
def yJ0_coder_7d493 : MethodName := ⟨RJ0, "coder", "()B"⟩
abbrev cJ0_isLatin1_aae02 : ByteArray := prog_14_method_154_code
def yJ0_isLatin1_aae02 : MethodName := ⟨RJ0, "isLatin1", "()Z"⟩
abbrev cJ0_checkIndex_df160 : ByteArray := prog_14_method_155_code
def yJ0_checkIndex_df160 : MethodName := ⟨RJ0, "checkIndex", "(II)V"⟩
def RJ1 : String := "java/lang/StringLatin1"
abbrev cJ1_charAt_3b067 : ByteArray := prog_15_method_2_code
def yJ1_charAt_3b067 : MethodName := ⟨RJ1, "charAt", "([BI)C"⟩
def RJ2 : String := "java/lang/StringUTF16"
abbrev cJ2_getChar_3b067 : ByteArray := prog_16_method_5_code
def yJ2_getChar_3b067 : MethodName := ⟨RJ2, "getChar", "([BI)C"⟩
abbrev cJ2_length_9d52b : ByteArray := prog_16_method_6_code
def yJ2_length_9d52b : MethodName := ⟨RJ2, "length", "([B)I"⟩
abbrev cJ2_charAt_3b067 : ByteArray := prog_16_method_83_code
def yJ2_charAt_3b067 : MethodName := ⟨RJ2, "charAt", "([BI)C"⟩
abbrev cJ2_checkIndex_2214a : ByteArray := prog_16_method_91_code
def yJ2_checkIndex_2214a : MethodName := ⟨RJ2, "checkIndex", "(I[B)V"⟩
def RJ10 : String := "java/lang/System"
def RJ7 : String := "java/util/Arrays"
abbrev cJ7_fill_d0a16 : ByteArray := prog_18_method_101_code
def yJ7_fill_d0a16 : MethodName := ⟨RJ7, "fill", "([JJ)V"⟩
abbrev cJ7_fill_53178 : ByteArray := prog_18_method_103_code
def yJ7_fill_53178 : MethodName := ⟨RJ7, "fill", "([II)V"⟩
abbrev cJ7_copyOf_59c91 : ByteArray := prog_18_method_123_code
def yJ7_copyOf_59c91 : MethodName := ⟨RJ7, "copyOf", "([II)[I"⟩
def RJ3 : String := "jdk/internal/util/Preconditions"
abbrev cJ3_checkIndex_8e157 : ByteArray := prog_19_method_11_code
def yJ3_checkIndex_8e157 : MethodName := ⟨RJ3, "checkIndex", "(IILjava/util/function/BiFunction;)I"⟩
def RL : String := "BeastRoadLaw"
abbrev cL_law : ByteArray := code
def yL_law : MethodName := ⟨RL, "law", "([I)Z"⟩
abbrev vwCl : List vw_C := [(RX0, TX0, 4), (RX1, TX1, 13), (RX2, TX2, 5), (RX3, TX3, 13), (RX4, TX4, 2), (RX5, TX5, 2), (RX6, TX6, 6), (RX7, TX7, 8), (RX8, TX8, 44)]
theorem iX0 : ∀ w ∈ u_ws RX0 TX0 4, w ∈ lw_tbl := by decide +kernel
theorem iX1 : ∀ w ∈ u_ws RX1 TX1 13, w ∈ lw_tbl := by decide +kernel
theorem iX2 : ∀ w ∈ u_ws RX2 TX2 5, w ∈ lw_tbl := by decide +kernel
theorem iX3 : ∀ w ∈ u_ws RX3 TX3 13, w ∈ lw_tbl := by decide +kernel
theorem iX4 : ∀ w ∈ u_ws RX4 TX4 2, w ∈ lw_tbl := by decide +kernel
theorem iX5 : ∀ w ∈ u_ws RX5 TX5 2, w ∈ lw_tbl := by decide +kernel
theorem iX6 : ∀ w ∈ u_ws RX6 TX6 6, w ∈ lw_tbl := by decide +kernel
theorem iX7 : ∀ w ∈ u_ws RX7 TX7 8, w ∈ lw_tbl := by decide +kernel
theorem iX8 : ∀ w ∈ u_ws RX8 TX8 44, w ∈ lw_tbl := by decide +kernel
end
section
/-! the cells, numbered as they are made: 0 .. 84 by the two constructors, from 85 on arrays of ints that grew -/
def em_k (k : Nat) : Nat := bif Nat.blt k 85 then (bif Nat.blt k 42 then (bif Nat.blt k 21 then (bif Nat.blt k 10 then (bif Nat.blt k 5 then (bif Nat.blt k 2 then (bif Nat.blt k 1 then 7 else 3) else 9) else 9) else (bif Nat.blt k 15 then (bif Nat.blt k 12 then 9 else (bif Nat.blt k 13 then 0 else 9)) else (bif Nat.blt k 18 then (bif Nat.blt k 16 then 6 else 9) else 9))) else (bif Nat.blt k 31 then (bif Nat.blt k 26 then (bif Nat.blt k 23 then (bif Nat.blt k 22 then 1 else 9) else 9) else (bif Nat.blt k 28 then 9 else (bif Nat.blt k 29 then 5 else (bif Nat.blt k 30 then 9 else 12)))) else (bif Nat.blt k 36 then (bif Nat.blt k 33 then (bif Nat.blt k 32 then 4 else 9) else (bif Nat.blt k 34 then 4 else (bif Nat.blt k 35 then 9 else 4))) else (bif Nat.blt k 39 then (bif Nat.blt k 37 then 9 else (bif Nat.blt k 38 then 4 else 9)) else (bif Nat.blt k 40 then 4 else (bif Nat.blt k 41 then 9 else 4)))))) else (bif Nat.blt k 63 then (bif Nat.blt k 52 then (bif Nat.blt k 47 then (bif Nat.blt k 44 then (bif Nat.blt k 43 then 9 else 4) else (bif Nat.blt k 45 then 9 else (bif Nat.blt k 46 then 4 else 9))) else (bif Nat.blt k 49 then (bif Nat.blt k 48 then 4 else 9) else (bif Nat.blt k 50 then 2 else (bif Nat.blt k 51 then 11 else 10)))) else (bif Nat.blt k 57 then (bif Nat.blt k 54 then (bif Nat.blt k 53 then 10 else 8) else 9) else 9)) else (bif Nat.blt k 74 then (bif Nat.blt k 68 then (bif Nat.blt k 65 then 9 else (bif Nat.blt k 66 then 9 else (bif Nat.blt k 67 then 9 else 11))) else (bif Nat.blt k 71 then (bif Nat.blt k 69 then 9 else 11) else 9)) else (bif Nat.blt k 79 then 9 else (bif Nat.blt k 82 then (bif Nat.blt k 80 then 9 else (bif Nat.blt k 81 then 11 else 9)) else (bif Nat.blt k 83 then 11 else 10)))))) else 9
def em_lS (k : Nat) : Nat := (bif Nat.blt k 42 then (bif Nat.blt k 21 then (bif Nat.blt k 10 then (bif Nat.blt k 5 then (bif Nat.blt k 2 then 0 else (bif Nat.blt k 3 then 8 else (bif Nat.blt k 4 then 8 else 40))) else (bif Nat.blt k 7 then 40 else 200)) else (bif Nat.blt k 15 then (bif Nat.blt k 12 then (bif Nat.blt k 11 then 40 else 401) else (bif Nat.blt k 13 then 0 else (bif Nat.blt k 14 then 401 else 96))) else (bif Nat.blt k 18 then (bif Nat.blt k 16 then 0 else (bif Nat.blt k 17 then 40 else 8)) else (bif Nat.blt k 19 then 8 else (bif Nat.blt k 20 then 8 else 256))))) else (bif Nat.blt k 31 then (bif Nat.blt k 26 then (bif Nat.blt k 23 then (bif Nat.blt k 22 then 0 else 8) else (bif Nat.blt k 24 then 8 else (bif Nat.blt k 25 then 8 else 64))) else (bif Nat.blt k 28 then 8 else (bif Nat.blt k 29 then 0 else (bif Nat.blt k 30 then 200 else 8)))) else (bif Nat.blt k 36 then (bif Nat.blt k 33 then (bif Nat.blt k 32 then 0 else 6) else (bif Nat.blt k 34 then 0 else (bif Nat.blt k 35 then 6 else 0))) else (bif Nat.blt k 39 then (bif Nat.blt k 37 then 6 else (bif Nat.blt k 38 then 0 else 6)) else (bif Nat.blt k 40 then 0 else (bif Nat.blt k 41 then 6 else 0)))))) else (bif Nat.blt k 63 then (bif Nat.blt k 52 then (bif Nat.blt k 47 then (bif Nat.blt k 44 then (bif Nat.blt k 43 then 6 else 0) else (bif Nat.blt k 45 then 6 else (bif Nat.blt k 46 then 0 else 6))) else (bif Nat.blt k 49 then (bif Nat.blt k 48 then 0 else 6) else (bif Nat.blt k 50 then 0 else 64))) else (bif Nat.blt k 57 then (bif Nat.blt k 54 then (bif Nat.blt k 53 then 64 else 0) else (bif Nat.blt k 55 then 8 else (bif Nat.blt k 56 then 8 else 40))) else (bif Nat.blt k 60 then 40 else 200))) else (bif Nat.blt k 74 then (bif Nat.blt k 68 then (bif Nat.blt k 65 then (bif Nat.blt k 64 then 402 else 256) else (bif Nat.blt k 66 then 256 else (bif Nat.blt k 67 then 256 else 64))) else (bif Nat.blt k 71 then (bif Nat.blt k 69 then 8 else (bif Nat.blt k 70 then 8 else 64)) else 8)) else (bif Nat.blt k 79 then (bif Nat.blt k 76 then (bif Nat.blt k 75 then 64 else 8) else (bif Nat.blt k 77 then 8 else (bif Nat.blt k 78 then 220 else 8))) else (bif Nat.blt k 82 then (bif Nat.blt k 80 then 40 else (bif Nat.blt k 81 then 8 else 5)) else 64)))))
def em_ty (c : Nat) : Nat → FieldType := match c with
  | 0 => tyX0
  | 1 => tyX1
  | 2 => tyX2
  | 3 => tyX3
  | 4 => tyX4
  | 5 => tyX5
  | 6 => tyX6
  | 7 => tyX7
  | _ => tyX8
def em_nf (c : Nat) : Nat := match c with
  | 0 => 4
  | 1 => 13
  | 2 => 5
  | 3 => 13
  | 4 => 2
  | 5 => 2
  | 6 => 6
  | 7 => 8
  | _ => 44
theorem em_k_dyn {k : Nat} (h : 85 ≤ k) : em_k k = 9 := by
  have h1 : Nat.blt k 85 = false := by
    cases hb : Nat.blt k 85 with
    | false => rfl
    | true => have := Nat.le_of_ble_eq_true hb; omega
  simp [em_k, h1]
end
section
/-! THE ABSTRACT MACHINE. A context: the launch; where the heap ended at the law's entry, and that heap; the classes' numbers; the array classes; outside addresses (0: the script, 1 .. 6: the six words, 7 .. 12: their bytes); the script. -/
abbrev em_Cx : Type := Launch × (Nat × Heap) × va_G × (ClassId × ClassId × ClassId × ClassId) × (Nat → Nat) × (Nat × (Nat → Int32))
abbrev em_l (Γ : em_Cx) : Launch := Γ.1
abbrev em_z (Γ : em_Cx) : Nat := Γ.2.1.1
abbrev em_h (Γ : em_Cx) : Heap := Γ.2.1.2
abbrev em_D (Γ : em_Cx) : va_G := Γ.2.2.1
abbrev em_cI (Γ : em_Cx) : ClassId := Γ.2.2.2.1.1
abbrev em_cJ (Γ : em_Cx) : ClassId := Γ.2.2.2.1.2.1
abbrev em_cZ (Γ : em_Cx) : ClassId := Γ.2.2.2.1.2.2.1
abbrev em_cL (Γ : em_Cx) : ClassId := Γ.2.2.2.1.2.2.2
abbrev em_x (Γ : em_Cx) : Nat → Nat := Γ.2.2.2.2.1
abbrev em_L (Γ : em_Cx) : Nat := Γ.2.2.2.2.2.1
abbrev em_s (Γ : em_Cx) : Nat → Int32 := Γ.2.2.2.2.2.2
/-- a heap: how many cells and slots; lengths of the grown arrays; ints, longs and references by cell and place -/
abbrev em_Hp : Type := (Nat × Nat) × (Nat → Nat) × (Nat → Nat → Int32) × (Nat → Nat → Int64) × (Nat → Nat → Option Nat)
abbrev em_n (hp : em_Hp) : Nat := hp.1.1
abbrev em_m (hp : em_Hp) : Nat := hp.1.2
abbrev em_d (hp : em_Hp) : Nat → Nat := hp.2.1
abbrev em_I (hp : em_Hp) : Nat → Nat → Int32 := hp.2.2.1
abbrev em_J (hp : em_Hp) : Nat → Nat → Int64 := hp.2.2.2.1
abbrev em_R (hp : em_Hp) : Nat → Nat → Option Nat := hp.2.2.2.2
/-- an abstract value's value: a reference counts from the heap's end at the law's entry; .float i is the outside address i -/
def em_v (Γ : em_Cx) : Value → Value
  | .ref r => .ref (em_z Γ + r)
  | .float u => .ref (em_x Γ u.toNat)
  | v => v
theorem em_v_cat (Γ : em_Cx) (v : Value) : (em_v Γ v).category = v.category := by cases v <;> rfl
def em_rf : Option Nat → Value
  | none => .null
  | some r => .ref r
def em_ln (hp : em_Hp) (k : Nat) : Nat := bif Nat.blt k 85 then em_lS k else em_d hp k
def em_fv (hp : em_Hp) (c k j : Nat) : Value := match em_ty c j with
  | .int => .int (em_I hp k j)
  | _ => em_rf (em_R hp k j)
/-- cell k, as the heap has it -/
def em_cl (Γ : em_Cx) (hp : em_Hp) (H : Heap) (k : Nat) : Prop := match em_k k with
  | 9 => H[em_z Γ + k]? = some (arrV (em_cI Γ) (em_ln hp k) (fun j => .int (em_I hp k j)))
  | 10 => H[em_z Γ + k]? = some (arrV (em_cJ Γ) (em_ln hp k) (fun j => .long (em_J hp k j)))
  | 11 => H[em_z Γ + k]? = some (arrV (em_cZ Γ) (em_ln hp k) (fun j => .int (em_I hp k j)))
  | 12 => H[em_z Γ + k]? = some (arrV (em_cL Γ) (em_ln hp k) (fun j => em_v Γ (em_rf (em_R hp k j))))
  | c => t_OB (em_z Γ + k) ((em_D Γ).1 c) (em_nf c) ((em_D Γ).2 c) H (fun j => em_v Γ (em_fv hp c k j))
theorem em_cl_9 {Γ : em_Cx} {hp : em_Hp} {H : Heap} {k : Nat} (hk : em_k k = 9) : em_cl Γ hp H k ↔ H[em_z Γ + k]? = some (arrV (em_cI Γ) (em_ln hp k) (fun j => .int (em_I hp k j))) := by simp only [em_cl, hk]
theorem em_cl_10 {Γ : em_Cx} {hp : em_Hp} {H : Heap} {k : Nat} (hk : em_k k = 10) : em_cl Γ hp H k ↔ H[em_z Γ + k]? = some (arrV (em_cJ Γ) (em_ln hp k) (fun j => .long (em_J hp k j))) := by simp only [em_cl, hk]
theorem em_cl_11 {Γ : em_Cx} {hp : em_Hp} {H : Heap} {k : Nat} (hk : em_k k = 11) : em_cl Γ hp H k ↔ H[em_z Γ + k]? = some (arrV (em_cZ Γ) (em_ln hp k) (fun j => .int (em_I hp k j))) := by simp only [em_cl, hk]
theorem em_cl_12 {Γ : em_Cx} {hp : em_Hp} {H : Heap} {k : Nat} (hk : em_k k = 12) : em_cl Γ hp H k ↔ H[em_z Γ + k]? = some (arrV (em_cL Γ) (em_ln hp k) (fun j => em_v Γ (em_rf (em_R hp k j)))) := by simp only [em_cl, hk]
theorem em_cl_c {Γ : em_Cx} {hp : em_Hp} {H : Heap} {k c : Nat} (hk : em_k k = c) (hc : c < 9) : em_cl Γ hp H k ↔ t_OB (em_z Γ + k) ((em_D Γ).1 c) (em_nf c) ((em_D Γ).2 c) H (fun j => em_v Γ (em_fv hp c k j)) := by
  rcases (show c = 0 ∨ c = 1 ∨ c = 2 ∨ c = 3 ∨ c = 4 ∨ c = 5 ∨ c = 6 ∨ c = 7 ∨ c = 8 by omega) with rfl | rfl | rfl | rfl | rfl | rfl | rfl | rfl | rfl <;> simp only [em_cl, hk]
theorem em_cl_kept {Γ : em_Cx} {hp hp' : em_Hp} {H H' : Heap} {k : Nat} (hI : em_I hp' k = em_I hp k) (hJ : em_J hp' k = em_J hp k) (hR : em_R hp' k = em_R hp k) (hl : em_ln hp' k = em_ln hp k) (hH : H'[em_z Γ + k]? = H[em_z Γ + k]?) (h : em_cl Γ hp H k) : em_cl Γ hp' H' k := by
  unfold em_cl em_fv at h ⊢
  rw [hI, hJ, hR, hl]
  split at h
  · exact hH.trans h
  · exact hH.trans h
  · exact hH.trans h
  · exact hH.trans h
  · exact h.kept hH
/-- the heap holds the abstract one, and is below as it was at the law's entry -/
def em_W (Γ : em_Cx) (hp : em_Hp) (H : Heap) : Prop := H.size = em_z Γ + em_n hp ∧ (∀ q : Nat, q < em_z Γ → H[q]? = (em_h Γ)[q]?) ∧ ∀ k : Nat, k < em_n hp → em_cl Γ hp H k
theorem em_W_set {Γ : em_Cx} {hp hp' : em_Hp} {H H' : Heap} {k : Nat} (hW : em_W Γ hp H) (hn : em_n hp' = em_n hp) (hd : ∀ j, j < em_n hp → em_ln hp' j = em_ln hp j) (hI : ∀ j, j ≠ k → em_I hp' j = em_I hp j) (hJ : ∀ j, j ≠ k → em_J hp' j = em_J hp j) (hR : ∀ j, j ≠ k → em_R hp' j = em_R hp j)
    (hz : H'.size = H.size) (ho : ∀ q : Nat, q ≠ em_z Γ + k → H'[q]? = H[q]?) (hc : em_cl Γ hp' H' k) : em_W Γ hp' H' := by
  refine ⟨by rw [hz, hn]; exact hW.1, fun q hq => (ho q (by omega)).trans (hW.2.1 q hq), fun j hj => ?_⟩
  rw [hn] at hj
  by_cases hjk : j = k
  · subst hjk; exact hc
  · exact em_cl_kept (hI j hjk) (hJ j hjk) (hR j hjk) (hd j hj) (ho _ (by omega)) (hW.2.2 j hj)
theorem em_W_push {Γ : em_Cx} {hp hp' : em_Hp} {H H' : Heap} (hW : em_W Γ hp H) (hn : em_n hp' = em_n hp + 1) (hd : ∀ j, j < em_n hp → em_ln hp' j = em_ln hp j) (hI : ∀ j, j < em_n hp → em_I hp' j = em_I hp j) (hJ : ∀ j, j < em_n hp → em_J hp' j = em_J hp j) (hR : ∀ j, j < em_n hp → em_R hp' j = em_R hp j)
    (hz : H'.size = H.size + 1) (ho : ∀ q : Nat, q < H.size → H'[q]? = H[q]?) (hc : em_cl Γ hp' H' (em_n hp)) : em_W Γ hp' H' := by
  refine ⟨by rw [hz, hn, hW.1]; omega, fun q hq => (ho q (by rw [hW.1]; omega)).trans (hW.2.1 q hq), fun j hj => ?_⟩
  by_cases hjk : j = em_n hp
  · subst hjk; exact hc
  · exact em_cl_kept (hI j (by omega)) (hJ j (by omega)) (hR j (by omega)) (hd j (by omega)) (ho _ (by rw [hW.1]; omega)) (hW.2.2 j (by omega))
/-! what the tables and the start say, at any state behind the start -/
def em_okw (w : Cond) : Bool := goodWord w || (match w with
  | .fieldLinkNest _ _ _ _ _ _ => true
  | .methodLinkNest _ _ _ _ => true
  | _ => false)
def em_tys (Γ : em_Cx) : List (ClassId × FieldType) := [(em_cI Γ, .int), (em_cJ Γ, .long), (em_cZ Γ, .boolean), (em_cL Γ, .object "BeastRoad$Law")]
def em_tl : List Nat := [2, 4, 3, 3, 4, 2]
def em_tb : List (List Int32) := [[110, 111], [109, 111, 115, 116], [102, 101, 101], [112, 101, 114], [102, 114, 111, 109], [116, 111]]
def em_tx (i : Nat) : String := match i with
  | 0 => "no"
  | 1 => "most"
  | 2 => "fee"
  | 3 => "per"
  | 4 => "from"
  | _ => "to"
def em_ti (i : Nat) : Nat := 67 + 2 * i
def em_tm (i : Nat) : Nat := match i with
  | 0 => 209
  | 1 => 211
  | 2 => 213
  | 3 => 215
  | 4 => 217
  | _ => 218
abbrev em_A (Γ : em_Cx) : Nat → Prop := fun q => em_z Γ ≤ q
def em_X (Γ : em_Cx) (U : State) : Prop := va_AO "BeastRoad$Law" U ∧ (em_h Γ).size = em_z Γ ∧ em_x Γ 0 < em_z Γ ∧ va_X (em_x Γ 0) (em_L Γ) (em_s Γ) U (em_h Γ) ∧ vk_S 6 em_tl em_tb (fun i => em_x Γ (1 + i)) (fun i => em_x Γ (7 + i)) (em_A Γ) U (em_h Γ) ∧ va_Z "java/lang/String" "COMPACT_STRINGS" "Z" (.int 1) (em_A Γ) U (em_h Γ) ∧
  (∃ v : Value, va_Z "jdk/internal/util/Preconditions" "SIOOBE_FORMATTER" "Ljava/util/function/BiFunction;" v (em_A Γ) U (em_h Γ) ∧ (v = .null ∨ ∃ a, v = .ref a)) ∧ ∀ i, i < 6 → vk_R "BeastRoad$Tape" (em_ti i) (em_tx i) (em_x Γ (1 + i)) U ∧ vk_R "BeastRoadModel" (em_tm i) (em_tx i) (em_x Γ (1 + i)) U
def em_G (Γ : em_Cx) (U : State) : Prop := (∀ w ∈ lw_tbl, em_okw w = true → ∀ a : Array Value, w.before a U = true) ∧ va_K (em_D Γ) vwCl (em_tys Γ) U ∧ em_X Γ U
theorem em_G_warm {Γ : em_Cx} {s U : State} (hW : s.WarmedH U.vm) (h : em_G Γ s) : em_G Γ U := by
  obtain ⟨h1, h2, gA, g0, g1, g2, g3, g4, ⟨v, g5, g6⟩, g7⟩ := h
  refine ⟨fun w hw ho a => ?_, va_K.moved hW.alike h2, va_AO.moved hW.alike gA, g0, g1, va_X.moved hW.alike g2, vk_S.moved hW.alike g3, va_Z.moved hW.alike g4, ⟨v, va_Z.moved hW.alike g5, g6⟩, fun i hi => ⟨(g7 i hi).1.warm hW, (g7 i hi).2.warm hW⟩⟩
  have hs := h1 w hw ho #[]
  unfold em_okw at ho
  rcases (Bool.or_eq_true _ _).mp ho with hg | hg
  · exact word_at hW (good_of_word hg) hs
  · cases w <;> first | exact va_Nw.use rfl (va_Nw.warmF hW (va_Nw.of rfl hs)) | exact va_Nw.use rfl (va_Nw.warmM hW (va_Nw.of rfl hs)) | simp at hg
theorem em_G_call {Γ : em_Cx} {U : State} {g : JFrame} {mk : MethodId} {a : Array Value} (h : em_G Γ U) : em_G Γ (U.calling g mk a) := em_G_warm (s := U) (U := U.calling g mk a) (State.WarmedH.refl U) h
end
section
/-! METHODS AND THE JUDGEMENT. A method: ((its class, its name, its code, its locals, its answer's type), instructions (operation, number, constant, next pc) by pc, fields by pool index (class, slot), int constants by pool index) -/
abbrev em_Me : Type := (String × MethodName × ByteArray × Nat × Option FieldType) × (Nat → Option (Nat × Nat × Int32 × Nat)) × (Nat → Option (Nat × Nat)) × (Nat → Option Int32)
abbrev em_own (μ : em_Me) : String := μ.1.1
abbrev em_y (μ : em_Me) : MethodName := μ.1.2.1
abbrev em_c (μ : em_Me) : ByteArray := μ.1.2.2.1
abbrev em_nL (μ : em_Me) : Nat := μ.1.2.2.2.1
abbrev em_rt (μ : em_Me) : Option FieldType := μ.1.2.2.2.2
abbrev em_i (μ : em_Me) : Nat → Option (Nat × Nat × Int32 × Nat) := μ.2.1
abbrev em_fl (μ : em_Me) : Nat → Option (Nat × Nat) := μ.2.2.1
abbrev em_kl (μ : em_Me) : Nat → Option Int32 := μ.2.2.2
def em_rm (K mc ms : Nat) : Room := { frames := K, cells := mc, slots := ms, locals := 40 * K }
def em_lv (Γ : em_Cx) (lc : List (Nat × Value)) : List (Nat × Value) := lc.map (fun q => (q.1, em_v Γ q.2))
def em_Pc (Γ : em_Cx) (av : List Value) (hp : em_Hp) : Array Value → State → Prop := fun v U => v = (av.map (em_v Γ)).toArray ∧ em_G Γ U ∧ em_W Γ hp U.heap
def em_Q (Γ : em_Cx) (r : Option Value) (hp : em_Hp) : Array Value → State → Outcome → State → Prop := fun _ _ oc t => oc = .returned (r.map (em_v Γ)) ∧ em_W Γ hp t.heap
/-- a method's contract: of height K, from these arguments and this heap it comes to this answer and this heap -/
def em_MC (Γ : em_Cx) (K : Nat) (μ : em_Me) (av : List Value) (hp : em_Hp) (r : Option Value) (hp' : em_Hp) : Prop :=
  em_n hp ≤ em_n hp' ∧ em_m hp ≤ em_m hp' ∧ Met (em_l Γ) (em_y μ) [.code (em_y μ) (em_c μ) (em_nL μ) (em_rt μ)] (em_rm K (em_n hp' - em_n hp) (em_m hp' - em_m hp)) (em_Pc Γ av hp) (em_Q Γ r hp') (em_n hp' - em_n hp) (em_m hp' - em_m hp) (em_A Γ)
/-- the judgement: from this point of the method's body, with these locals, this stack and this heap, the method ends with the answer and the heap of fin; hp0 was the heap at its entry -/
def em_EW (Γ : em_Cx) (K : Nat) (μ : em_Me) (hp0 : em_Hp) (fin : Option Value × em_Hp) (pc : Nat) (lc : List (Nat × Value)) (st : List Value) (hp : em_Hp) : Prop :=
  ∀ (p : Program) (e : Env) (s : State) (m : MethodId) (args : Array Value) (below : List Frame) (meth : Method) (c : Code),
    p.tables.exec = Jvm.exec → c.code = em_c μ → meth.sig.returnType = em_rt μ → meth.locks = false → c.maxLocals = em_nL μ → s.vm.findClass (em_own μ) = some m.cls → meth.name = (em_y μ).name → em_G Γ s → s.heap.size = em_z Γ + em_n hp0 →
    ∀ (H : Heap) (locs : List Loc) (cells slots : Nat) (ls : Array Slot), em_W Γ hp H → (∀ q ∈ locs, em_A Γ q.base) → cells + em_n hp0 = em_n hp → slots + em_m hp0 = em_m hp → lv_has ls (em_nL μ) (em_lv Γ lc) →
      W p (em_l Γ) e (em_rm K (em_n fin.2 - em_n hp0) (em_m fin.2 - em_m hp0)) s m args below meth c H locs cells slots (MQ below (em_Q Γ fin.1 fin.2) args s (em_n fin.2 - em_n hp0) (em_m fin.2 - em_m hp0) (em_A Γ)) (F0 m pc ls (st.map (em_v Γ)))
theorem em_lv_args (Γ : em_Cx) : ∀ (i : Nat) (vs : List Value), lv_args i (vs.map (em_v Γ)) = em_lv Γ (lv_args i vs)
  | _, [] => rfl
  | i, v :: vs => by
    show (i, em_v Γ v) :: lv_args (if (em_v Γ v).category = 2 then i + 2 else i + 1) (vs.map (em_v Γ)) = (i, em_v Γ v) :: em_lv Γ (lv_args (if v.category = 2 then i + 2 else i + 1) vs)
    rw [em_v_cat, em_lv_args Γ _ vs]
def em_cats (vs : List Value) : Nat := (vs.map (fun v => v.category)).sum
theorem em_sl_len (Γ : em_Cx) : ∀ (vs : List Value), (lg_sl (vs.map (em_v Γ))).length = em_cats vs
  | [] => rfl
  | v :: vs => by
    have ih := em_sl_len Γ vs
    have e : lg_sl ((v :: vs).map (em_v Γ)) = lg_sl [em_v Γ v] ++ lg_sl (vs.map (em_v Γ)) := by simp [lg_sl]
    rw [e, List.length_append, ih]
    show _ = v.category + em_cats vs
    rcases lv_cat v with h | h <;> simp [lg_sl, em_v_cat, h]
theorem em_MC_of {Γ : em_Cx} {K : Nat} {μ : em_Me} {av : List Value} {hp : em_Hp} {r : Option Value} {hp' : em_Hp} (hn : em_n hp ≤ em_n hp') (hm : em_m hp ≤ em_m hp') (hy : plainName (em_y μ).cls = true) (hc : (em_y μ).cls = em_own μ) (ha : em_cats av ≤ em_nL μ)
    (k : em_EW Γ K μ hp (r, hp') 0 (lv_args 0 av) [] hp) : em_MC Γ K μ av hp r hp' := by
  refine ⟨hn, hm, Met.ofW (cc := em_c μ) (maxL := em_nL μ) (ret := em_rt μ) hy rfl ?_⟩
  intro p e s m args below meth c s₁ B hml hv
  obtain ⟨rfl, hG, hW⟩ := hv
  have hown : s.vm.findClass (em_y μ).cls = some m.cls := findClass_of_methodNamed B.named
  rw [hc] at hown
  have hl := lv_entry (av.map (em_v Γ)) (n := em_nL μ) (by rw [em_sl_len]; exact ha)
  rw [lg_entry_eq]
  rw [em_lv_args] at hl
  exact k p e s m _ below meth c B.exec B.bytes B.returns B.notSynchronized hml hown (name_of_methodNamed B.named B.method).1 hG hW.1 s.heap [] 0 0 _ hW (fun q h => by cases h) (by omega) (by omega) hl
theorem em_EW_as {Γ : em_Cx} {K : Nat} {μ : em_Me} {hp0 : em_Hp} {fin : Option Value × em_Hp} {pc : Nat} {lc lc' : List (Nat × Value)} {st st' : List Value} {hp hp' : em_Hp} (k : em_EW Γ K μ hp0 fin pc lc st hp) (h1 : lc = lc') (h2 : st = st') (h3 : hp = hp') : em_EW Γ K μ hp0 fin pc lc' st' hp' := by subst h1; subst h2; subst h3; exact k
/-! what is checked of a method's tables, once -/
def em_f4 (f : Fin 4 → Instr) (a : Nat) : Option (Instr × Nat) := if h : a < 4 then some (f ⟨a, h⟩, 1) else none
def em_br (pc a : Nat) : Int := (a : Int) - (pc : Int)
def em_dec (op a : Nat) (b : Int32) (pc : Nat) : Option (Instr × Nat) := match op with
  | 0 => some (.iconst b.toInt, 1)
  | 1 => if (Int8.ofInt b.toInt).toInt32 = b then some (.bipush b.toInt, 2) else none
  | 2 => if (Int16.ofInt b.toInt).toInt32 = b then some (.sipush b.toInt, 3) else none
  | 3 => if a = 0 then some (.lconst 0, 1) else if a = 1 then some (.lconst 1, 1) else none
  | 4 => em_f4 .iload_n a
  | 5 => some (.iload a, 2)
  | 6 => em_f4 .lload_n a
  | 7 => some (.lload a, 2)
  | 8 => em_f4 .aload_n a
  | 9 => some (.aload a, 2)
  | 10 => em_f4 .istore_n a
  | 11 => some (.istore a, 2)
  | 12 => em_f4 .lstore_n a
  | 13 => some (.lstore a, 2)
  | 14 => em_f4 .astore_n a
  | 15 => some (.astore a, 2)
  | 16 => some (.iinc a b.toInt, 3)
  | 17 => some (.iadd, 1)
  | 18 => some (.isub, 1)
  | 19 => some (.imul, 1)
  | 20 => some (.iand, 1)
  | 21 => some (.ior, 1)
  | 22 => some (.ixor, 1)
  | 23 => some (.ishl, 1)
  | 24 => some (.ishr, 1)
  | 25 => some (.iushr, 1)
  | 26 => some (.ladd, 1)
  | 27 => some (.lmul, 1)
  | 28 => some (.i2l, 1)
  | 29 => some (.lcmp, 1)
  | 30 => some (.dup, 1)
  | 31 => some (.dup2, 1)
  | 32 => some (.goto (em_br pc a), 3)
  | 33 => some (.getfield a, 3)
  | 34 => some (.arraylength, 1)
  | 35 => some (.ldc a, 2)
  | 36 => some (.ldc_w a, 3)
  | 37 => some (.ldc2_w a, 3)
  | 50 => some (.ifCond .eq (em_br pc a), 3)
  | 51 => some (.ifCond .ne (em_br pc a), 3)
  | 52 => some (.ifCond .lt (em_br pc a), 3)
  | 53 => some (.ifCond .ge (em_br pc a), 3)
  | 54 => some (.ifCond .gt (em_br pc a), 3)
  | 55 => some (.ifCond .le (em_br pc a), 3)
  | 56 => some (.if_icmp .eq (em_br pc a), 3)
  | 57 => some (.if_icmp .ne (em_br pc a), 3)
  | 58 => some (.if_icmp .lt (em_br pc a), 3)
  | 59 => some (.if_icmp .ge (em_br pc a), 3)
  | 60 => some (.if_icmp .gt (em_br pc a), 3)
  | 61 => some (.if_icmp .le (em_br pc a), 3)
  | 62 => some (.iaload, 1)
  | 63 => some (.baload, 1)
  | 64 => some (.laload, 1)
  | 65 => some (.aaload, 1)
  | 66 => some (.iastore, 1)
  | 67 => some (.bastore, 1)
  | 68 => some (.lastore, 1)
  | 69 => some (.aastore, 1)
  | 70 => some (.idiv, 1)
  | 71 => some (.irem, 1)
  | 72 => some (.ldiv, 1)
  | 73 => some (.lrem, 1)
  | 74 => some (.putfield a, 3)
  | 75 => some (.new a, 3)
  | 76 => some (.newarray .int, 2)
  | 77 => some (.newarray .long, 2)
  | 78 => some (.newarray .boolean, 2)
  | 79 => some (.anewarray a, 3)
  | 80 => some (.invokestatic a, 3)
  | 81 => some (.invokevirtual a, 3)
  | 82 => some (.invokespecial a, 3)
  | 83 => some (.ireturn, 1)
  | 84 => some (.lreturn, 1)
  | 85 => some (.areturn, 1)
  | 86 => some (.return_, 1)
  | _ => none
/-- the instructions are the code's, below a bound; the next pc is where the next one stands -/
def em_okI (μ : em_Me) (N : Nat) : Prop := (∀ pc, N ≤ pc → em_i μ pc = none) ∧ ∀ pc, pc < N → ∀ op a b nx, em_i μ pc = some (op, a, b, nx) → ∃ i len, em_dec op a b pc = some (i, len) ∧ decode (em_c μ) pc = .ok (i, len) ∧ nx = pc + len
/-- a field's link, among the tables' words -/
def em_okF (own : String) (idx c j : Nat) : Prop := ∃ r : vw_C, vwCl[c]? = some r ∧ j < r.2.2 ∧ Cond.fieldLink own idx (r.2.1 j).1 (r.2.1 j).2.1 (r.2.1 j).2.2.1 ∈ lw_tbl
def em_ok (μ : em_Me) : Prop := (∃ N, em_okI μ N) ∧ (∀ idx c j, em_fl μ idx = some (c, j) → em_okF (em_own μ) idx c j) ∧ (∀ idx v, em_kl μ idx = some v → Cond.constant (em_own μ) idx v ∈ lw_tbl) ∧ ∀ pc a b nx, em_i μ pc = some (37, a, b, nx) → Cond.constantLong (em_own μ) a (-1) ∈ lw_tbl
theorem em_ok.dec {μ : em_Me} (h : em_ok μ) {pc op a nx : Nat} {b : Int32} (hi : em_i μ pc = some (op, a, b, nx)) : ∃ i len, em_dec op a b pc = some (i, len) ∧ decode (em_c μ) pc = .ok (i, len) ∧ nx = pc + len := by
  obtain ⟨⟨N, h1, h2⟩, -⟩ := h
  by_cases hN : pc < N
  · exact h2 pc hN op a b nx hi
  · rw [h1 pc (by omega)] at hi; cases hi
end
section
theorem em_nf_ok {c : Nat} {r : vw_C} (h : vwCl[c]? = some r) : em_nf c = r.2.2 := by
  match c, h with
  | 0, h => cases h; rfl
  | 1, h => cases h; rfl
  | 2, h => cases h; rfl
  | 3, h => cases h; rfl
  | 4, h => cases h; rfl
  | 5, h => cases h; rfl
  | 6, h => cases h; rfl
  | 7, h => cases h; rfl
  | 8, h => cases h; rfl
  | n + 9, h => simp [vwCl] at h
theorem em_uin {c : Nat} {r : vw_C} (h : vwCl[c]? = some r) : ∀ w ∈ u_ws r.1 r.2.1 r.2.2, w ∈ lw_tbl := by
  match c, h with
  | 0, h => cases h; exact iX0
  | 1, h => cases h; exact iX1
  | 2, h => cases h; exact iX2
  | 3, h => cases h; exact iX3
  | 4, h => cases h; exact iX4
  | 5, h => cases h; exact iX5
  | 6, h => cases h; exact iX6
  | 7, h => cases h; exact iX7
  | 8, h => cases h; exact iX8
  | n + 9, h => simp [vwCl] at h
theorem em_okl (C : String) (T : u_T) (k : Nat) : em_okw (u_lay C T k) = true := by
  unfold u_lay
  split <;> rfl
theorem em_layAt {Γ : em_Cx} {s : State} {args : Array Value} (hG : em_G Γ s) {c j : Nat} {r : vw_C} (h : vwCl[c]? = some r) (hj : j < r.2.2) : (u_lay r.1 r.2.1 j).before args s = true := hG.1 _ (em_uin h _ (u_in_lay hj)) (em_okl _ _ _) args
theorem em_lays {Γ : em_Cx} {s : State} {args : Array Value} (hG : em_G Γ s) {c j : Nat} {r : vw_C} (h : vwCl[c]? = some r) (hj : j < r.2.2) : (Cond.lays r.1 (r.2.1 j).1 (r.2.1 j).2.1 (r.2.1 j).2.2.1).before args s = true ∨ (Cond.laysFinal r.1 (r.2.1 j).1 (r.2.1 j).2.1 (r.2.1 j).2.2.1).before args s = true := by
  have h1 := em_layAt (args := args) hG h hj
  unfold u_lay at h1
  split at h1
  · exact Or.inr h1
  · exact Or.inl h1
/-! THE PURE STEPS: no heap is changed, no branch taken -/
def em_lk : List (Nat × Value) → Nat → Option Value
  | [], _ => none
  | (j, v) :: t, i => bif Nat.beq j i then some v else em_lk t i
theorem em_lk_mem : ∀ {lc : List (Nat × Value)} {i : Nat} {v : Value}, em_lk lc i = some v → (i, v) ∈ lc
  | [], _, _, h => by cases h
  | (j, w) :: t, i, v, h => by
    unfold em_lk at h
    cases hb : Nat.beq j i with
    | true =>
      rw [hb] at h
      have e := Nat.eq_of_beq_eq_true hb
      subst e
      cases h
      exact List.mem_cons_self
    | false =>
      rw [hb] at h
      exact List.mem_cons_of_mem _ (em_lk_mem h)
theorem em_at {Γ : em_Cx} {ls : Array Slot} {nL : Nat} {lc : List (Nat × Value)} {i : Nat} {v : Value} (hl : lv_has ls nL (em_lv Γ lc)) (h : em_lk lc i = some v) : ls[i]? = some (.val (em_v Γ v)) := hl.2.2 (i, em_v Γ v) (List.mem_map.mpr ⟨(i, v), em_lk_mem h, rfl⟩)
def em_st1 (lc : List (Nat × Value)) (i : Nat) (v : Value) : List (Nat × Value) := (i, v) :: lc.filter (fun q => !(q.1 == i) && !(q.1 + 1 == i && q.2.category == 2))
def em_st2 (lc : List (Nat × Value)) (i : Nat) (v : Value) : List (Nat × Value) := (i, v) :: lc.filter (fun q => !(q.1 == i) && (!(q.1 == i + 1) && !(q.1 + 1 == i && q.2.category == 2)))
theorem em_lv_st1 (Γ : em_Cx) (lc : List (Nat × Value)) (i : Nat) (v : Value) : (i, em_v Γ v) :: (em_lv Γ lc).filter (fun q => !(q.1 == i) && !(q.1 + 1 == i && q.2.category == 2)) = em_lv Γ (em_st1 lc i v) := by
  show _ = (i, em_v Γ v) :: List.map _ (List.filter _ lc)
  rw [em_lv, List.filter_map]
  congr 2
  apply List.filter_congr
  intro q _
  simp [em_v_cat]
theorem em_lv_st2 (Γ : em_Cx) (lc : List (Nat × Value)) (i : Nat) (v : Value) : (i, em_v Γ v) :: (em_lv Γ lc).filter (fun q => !(q.1 == i) && (!(q.1 == i + 1) && !(q.1 + 1 == i && q.2.category == 2))) = em_lv Γ (em_st2 lc i v) := by
  show _ = (i, em_v Γ v) :: List.map _ (List.filter _ lc)
  rw [em_lv, List.filter_map]
  congr 2
  apply List.filter_congr
  intro q _
  simp [em_v_cat]
abbrev em_S3 : Type := Option (Nat × List (Nat × Value) × List Value)
def em_ii (nx : Nat) (lc : List (Nat × Value)) (st : List Value) (f : Int32 → Int32 → Int32) : em_S3 := match st with
  | .int y :: .int x :: t => some (nx, lc, .int (f x y) :: t)
  | _ => none
def em_ll (nx : Nat) (lc : List (Nat × Value)) (st : List Value) (f : Int64 → Int64 → Int64) : em_S3 := match st with
  | .long y :: .long x :: t => some (nx, lc, .long (f x y) :: t)
  | _ => none
def em_ldI (nx : Nat) (lc : List (Nat × Value)) (st : List Value) (a : Nat) : em_S3 := match em_lk lc a with
  | some (.int x) => some (nx, lc, .int x :: st)
  | _ => none
def em_ldJ (nx : Nat) (lc : List (Nat × Value)) (st : List Value) (a : Nat) : em_S3 := match em_lk lc a with
  | some (.long x) => some (nx, lc, .long x :: st)
  | _ => none
def em_ldA (nx : Nat) (lc : List (Nat × Value)) (st : List Value) (a : Nat) : em_S3 := match em_lk lc a with
  | some (.ref x) => some (nx, lc, .ref x :: st)
  | some (.float x) => some (nx, lc, .float x :: st)
  | _ => none
def em_stI (nx nL : Nat) (lc : List (Nat × Value)) (st : List Value) (a : Nat) : em_S3 := match st with
  | .int x :: t => bif Nat.blt a nL then some (nx, em_st1 lc a (.int x), t) else none
  | _ => none
def em_stJ (nx nL : Nat) (lc : List (Nat × Value)) (st : List Value) (a : Nat) : em_S3 := match st with
  | .long x :: t => bif Nat.blt (a + 1) nL then some (nx, em_st2 lc a (.long x), t) else none
  | _ => none
def em_stA (nx nL : Nat) (lc : List (Nat × Value)) (st : List Value) (a : Nat) : em_S3 := match st with
  | .ref x :: t => bif Nat.blt a nL then some (nx, em_st1 lc a (.ref x), t) else none
  | .float x :: t => bif Nat.blt a nL then some (nx, em_st1 lc a (.float x), t) else none
  | _ => none
def em_po (B : Nat) (μ : em_Me) (hp : em_Hp) (lc : List (Nat × Value)) (st : List Value) (op a : Nat) (b : Int32) (nx : Nat) : em_S3 := match op with
  | 0 => some (nx, lc, .int b :: st)
  | 1 => some (nx, lc, .int b :: st)
  | 2 => some (nx, lc, .int b :: st)
  | 3 => some (nx, lc, .long (bif Nat.beq a 0 then 0 else 1) :: st)
  | 4 => em_ldI nx lc st a
  | 5 => em_ldI nx lc st a
  | 6 => em_ldJ nx lc st a
  | 7 => em_ldJ nx lc st a
  | 8 => em_ldA nx lc st a
  | 9 => em_ldA nx lc st a
  | 10 => em_stI nx (em_nL μ) lc st a
  | 11 => em_stI nx (em_nL μ) lc st a
  | 12 => em_stJ nx (em_nL μ) lc st a
  | 13 => em_stJ nx (em_nL μ) lc st a
  | 14 => em_stA nx (em_nL μ) lc st a
  | 15 => em_stA nx (em_nL μ) lc st a
  | 16 => match em_lk lc a with
    | some (.int x) => bif Nat.blt a (em_nL μ) then some (nx, em_st1 lc a (.int (x + b)), st) else none
    | _ => none
  | 17 => em_ii nx lc st (fun x y => x + y)
  | 18 => em_ii nx lc st (fun x y => x - y)
  | 19 => em_ii nx lc st (fun x y => x * y)
  | 20 => em_ii nx lc st (fun x y => x &&& y)
  | 21 => em_ii nx lc st (fun x y => x ||| y)
  | 22 => em_ii nx lc st (fun x y => x ^^^ y)
  | 23 => em_ii nx lc st (fun x y => x <<< (y &&& 31))
  | 24 => em_ii nx lc st (fun x y => x >>> (y &&& 31))
  | 25 => em_ii nx lc st (fun x y => (x.toUInt32 >>> (y.toUInt32 &&& Int32.toUInt32 31)).toInt32)
  | 26 => em_ll nx lc st (fun x y => x + y)
  | 27 => em_ll nx lc st (fun x y => x * y)
  | 28 => match st with
    | .int x :: t => some (nx, lc, .long x.toInt64 :: t)
    | _ => none
  | 29 => match st with
    | .long y :: .long x :: t => some (nx, lc, .int (lg_cmp x y) :: t)
    | _ => none
  | 30 => match st with
    | .int x :: t => some (nx, lc, .int x :: .int x :: t)
    | .ref x :: t => some (nx, lc, .ref x :: .ref x :: t)
    | _ => none
  | 31 => match st with
    | .int x :: .ref y :: t => some (nx, lc, .int x :: .ref y :: .int x :: .ref y :: t)
    | _ => none
  | 32 => some (a, lc, st)
  | 33 => match st, em_fl μ a with
    | .ref k :: t, some (c, j) => bif Nat.beq (em_k k) c && (Nat.blt c 9 && Nat.blt k B) then some (nx, lc, em_fv hp c k j :: t) else none
    | _, _ => none
  | 35 => match em_kl μ a with
    | some v => some (nx, lc, .int v :: st)
    | none => none
  | 36 => match em_kl μ a with
    | some v => some (nx, lc, .int v :: st)
    | none => none
  | 37 => some (nx, lc, .long (-1) :: st)
  | _ => none
def em_ps (B : Nat) (μ : em_Me) (hp : em_Hp) (pc : Nat) (lc : List (Nat × Value)) (st : List Value) : em_S3 := match em_i μ pc with
  | some (op, a, b, nx) => em_po B μ hp lc st op a b nx
  | none => none

section EmPure
variable {Γ : em_Cx} {K : Nat} {μ : em_Me} {hp0 : em_Hp} {fin : Option Value × em_Hp} {B pc pc' a : Nat} {b : Int32} {lc lc' : List (Nat × Value)} {st st' : List Value} {hp : em_Hp}

theorem em_o0 (hB : B ≤ em_n hp) {nx : Nat} (hok : em_ok μ) (hi : em_i μ pc = some (0, a, b, nx)) (h : em_po B μ hp lc st 0 a b nx = some (pc', lc', st')) (k : em_EW Γ K μ hp0 fin pc' lc' st' hp) : em_EW Γ K μ hp0 fin pc lc st hp := by
  obtain ⟨i, len, hd, hdec, hnx⟩ := hok.dec hi
  subst hnx
  simp only [em_dec] at hd
  cases hd
  cases h
  intro p e s m args below meth c hx hb hr hlk hml hown hnm hG hs H locs cells slots ls hW hlo hcl hsl hl
  exact lv_iconst hx hb hdec (Int32.ofInt_toInt b) (k p e s m args below meth c hx hb hr hlk hml hown hnm hG hs H locs cells slots ls hW hlo hcl hsl hl)

theorem em_o1 (hB : B ≤ em_n hp) {nx : Nat} (hok : em_ok μ) (hi : em_i μ pc = some (1, a, b, nx)) (h : em_po B μ hp lc st 1 a b nx = some (pc', lc', st')) (k : em_EW Γ K μ hp0 fin pc' lc' st' hp) : em_EW Γ K μ hp0 fin pc lc st hp := by
  obtain ⟨i, len, hd, hdec, hnx⟩ := hok.dec hi
  subst hnx
  simp only [em_dec] at hd
  split at hd
  · rename_i hq
    cases hd
    cases h
    intro p e s m args below meth c hx hb hr hlk hml hown hnm hG hs H locs cells slots ls hW hlo hcl hsl hl
    exact lv_bipush hx hb hdec hq (k p e s m args below meth c hx hb hr hlk hml hown hnm hG hs H locs cells slots ls hW hlo hcl hsl hl)
  · cases hd

theorem em_o2 (hB : B ≤ em_n hp) {nx : Nat} (hok : em_ok μ) (hi : em_i μ pc = some (2, a, b, nx)) (h : em_po B μ hp lc st 2 a b nx = some (pc', lc', st')) (k : em_EW Γ K μ hp0 fin pc' lc' st' hp) : em_EW Γ K μ hp0 fin pc lc st hp := by
  obtain ⟨i, len, hd, hdec, hnx⟩ := hok.dec hi
  subst hnx
  simp only [em_dec] at hd
  split at hd
  · rename_i hq
    cases hd
    cases h
    intro p e s m args below meth c hx hb hr hlk hml hown hnm hG hs H locs cells slots ls hW hlo hcl hsl hl
    exact lv_sipush hx hb hdec hq (k p e s m args below meth c hx hb hr hlk hml hown hnm hG hs H locs cells slots ls hW hlo hcl hsl hl)
  · cases hd

theorem em_o3 (hB : B ≤ em_n hp) {nx : Nat} (hok : em_ok μ) (hi : em_i μ pc = some (3, a, b, nx)) (h : em_po B μ hp lc st 3 a b nx = some (pc', lc', st')) (k : em_EW Γ K μ hp0 fin pc' lc' st' hp) : em_EW Γ K μ hp0 fin pc lc st hp := by
  obtain ⟨i, len, hd, hdec, hnx⟩ := hok.dec hi
  subst hnx
  simp only [em_dec] at hd
  split at hd
  · rename_i hq
    subst hq
    cases hd
    cases h
    intro p e s m args below meth c hx hb hr hlk hml hown hnm hG hs H locs cells slots ls hW hlo hcl hsl hl
    exact lv_lconst hx hb hdec rfl (k p e s m args below meth c hx hb hr hlk hml hown hnm hG hs H locs cells slots ls hW hlo hcl hsl hl)
  · split at hd
    · rename_i hq
      subst hq
      cases hd
      cases h
      intro p e s m args below meth c hx hb hr hlk hml hown hnm hG hs H locs cells slots ls hW hlo hcl hsl hl
      exact lv_lconst hx hb hdec rfl (k p e s m args below meth c hx hb hr hlk hml hown hnm hG hs H locs cells slots ls hW hlo hcl hsl hl)
    · cases hd

theorem em_o4 (hB : B ≤ em_n hp) {nx : Nat} (hok : em_ok μ) (hi : em_i μ pc = some (4, a, b, nx)) (h : em_po B μ hp lc st 4 a b nx = some (pc', lc', st')) (k : em_EW Γ K μ hp0 fin pc' lc' st' hp) : em_EW Γ K μ hp0 fin pc lc st hp := by
  obtain ⟨i, len, hd, hdec, hnx⟩ := hok.dec hi
  subst hnx
  simp only [em_po, em_ldI] at h
  simp only [em_dec, em_f4] at hd
  split at hd
  case isFalse => cases hd
  cases hd
  split at h
  · rename_i x hx1
    cases h
    intro p e s m args below meth c hx hb hr hlk hml hown hnm hG hs H locs cells slots ls hW hlo hcl hsl hl
    exact lv_iload_n hx hb hdec rfl (em_at hl hx1) (k p e s m args below meth c hx hb hr hlk hml hown hnm hG hs H locs cells slots ls hW hlo hcl hsl hl)
  · cases h

theorem em_o5 (hB : B ≤ em_n hp) {nx : Nat} (hok : em_ok μ) (hi : em_i μ pc = some (5, a, b, nx)) (h : em_po B μ hp lc st 5 a b nx = some (pc', lc', st')) (k : em_EW Γ K μ hp0 fin pc' lc' st' hp) : em_EW Γ K μ hp0 fin pc lc st hp := by
  obtain ⟨i, len, hd, hdec, hnx⟩ := hok.dec hi
  subst hnx
  simp only [em_po, em_ldI] at h
  simp only [em_dec] at hd
  cases hd
  split at h
  · rename_i x hx1
    cases h
    intro p e s m args below meth c hx hb hr hlk hml hown hnm hG hs H locs cells slots ls hW hlo hcl hsl hl
    exact lv_iload hx hb hdec (em_at hl hx1) (k p e s m args below meth c hx hb hr hlk hml hown hnm hG hs H locs cells slots ls hW hlo hcl hsl hl)
  · cases h

theorem em_o6 (hB : B ≤ em_n hp) {nx : Nat} (hok : em_ok μ) (hi : em_i μ pc = some (6, a, b, nx)) (h : em_po B μ hp lc st 6 a b nx = some (pc', lc', st')) (k : em_EW Γ K μ hp0 fin pc' lc' st' hp) : em_EW Γ K μ hp0 fin pc lc st hp := by
  obtain ⟨i, len, hd, hdec, hnx⟩ := hok.dec hi
  subst hnx
  simp only [em_po, em_ldJ] at h
  simp only [em_dec, em_f4] at hd
  split at hd
  case isFalse => cases hd
  cases hd
  split at h
  · rename_i x hx1
    cases h
    intro p e s m args below meth c hx hb hr hlk hml hown hnm hG hs H locs cells slots ls hW hlo hcl hsl hl
    exact lv_lload_n hx hb hdec rfl (em_at hl hx1) (k p e s m args below meth c hx hb hr hlk hml hown hnm hG hs H locs cells slots ls hW hlo hcl hsl hl)
  · cases h

theorem em_o7 (hB : B ≤ em_n hp) {nx : Nat} (hok : em_ok μ) (hi : em_i μ pc = some (7, a, b, nx)) (h : em_po B μ hp lc st 7 a b nx = some (pc', lc', st')) (k : em_EW Γ K μ hp0 fin pc' lc' st' hp) : em_EW Γ K μ hp0 fin pc lc st hp := by
  obtain ⟨i, len, hd, hdec, hnx⟩ := hok.dec hi
  subst hnx
  simp only [em_po, em_ldJ] at h
  simp only [em_dec] at hd
  cases hd
  split at h
  · rename_i x hx1
    cases h
    intro p e s m args below meth c hx hb hr hlk hml hown hnm hG hs H locs cells slots ls hW hlo hcl hsl hl
    exact lv_lload hx hb hdec (em_at hl hx1) (k p e s m args below meth c hx hb hr hlk hml hown hnm hG hs H locs cells slots ls hW hlo hcl hsl hl)
  · cases h

theorem em_o8 (hB : B ≤ em_n hp) {nx : Nat} (hok : em_ok μ) (hi : em_i μ pc = some (8, a, b, nx)) (h : em_po B μ hp lc st 8 a b nx = some (pc', lc', st')) (k : em_EW Γ K μ hp0 fin pc' lc' st' hp) : em_EW Γ K μ hp0 fin pc lc st hp := by
  obtain ⟨i, len, hd, hdec, hnx⟩ := hok.dec hi
  subst hnx
  simp only [em_po, em_ldA] at h
  simp only [em_dec, em_f4] at hd
  split at hd
  case isFalse => cases hd
  cases hd
  split at h
  · rename_i x hx1
    cases h
    intro p e s m args below meth c hx hb hr hlk hml hown hnm hG hs H locs cells slots ls hW hlo hcl hsl hl
    exact lv_aload_n hx hb hdec rfl (em_at hl hx1) (k p e s m args below meth c hx hb hr hlk hml hown hnm hG hs H locs cells slots ls hW hlo hcl hsl hl)
  · rename_i x hx1
    cases h
    intro p e s m args below meth c hx hb hr hlk hml hown hnm hG hs H locs cells slots ls hW hlo hcl hsl hl
    exact lv_aload_n hx hb hdec rfl (em_at hl hx1) (k p e s m args below meth c hx hb hr hlk hml hown hnm hG hs H locs cells slots ls hW hlo hcl hsl hl)
  · cases h

theorem em_o9 (hB : B ≤ em_n hp) {nx : Nat} (hok : em_ok μ) (hi : em_i μ pc = some (9, a, b, nx)) (h : em_po B μ hp lc st 9 a b nx = some (pc', lc', st')) (k : em_EW Γ K μ hp0 fin pc' lc' st' hp) : em_EW Γ K μ hp0 fin pc lc st hp := by
  obtain ⟨i, len, hd, hdec, hnx⟩ := hok.dec hi
  subst hnx
  simp only [em_po, em_ldA] at h
  simp only [em_dec] at hd
  cases hd
  split at h
  · rename_i x hx1
    cases h
    intro p e s m args below meth c hx hb hr hlk hml hown hnm hG hs H locs cells slots ls hW hlo hcl hsl hl
    exact lv_aload hx hb hdec (em_at hl hx1) (k p e s m args below meth c hx hb hr hlk hml hown hnm hG hs H locs cells slots ls hW hlo hcl hsl hl)
  · rename_i x hx1
    cases h
    intro p e s m args below meth c hx hb hr hlk hml hown hnm hG hs H locs cells slots ls hW hlo hcl hsl hl
    exact lv_aload hx hb hdec (em_at hl hx1) (k p e s m args below meth c hx hb hr hlk hml hown hnm hG hs H locs cells slots ls hW hlo hcl hsl hl)
  · cases h

theorem em_o10 (hB : B ≤ em_n hp) {nx : Nat} (hok : em_ok μ) (hi : em_i μ pc = some (10, a, b, nx)) (h : em_po B μ hp lc st 10 a b nx = some (pc', lc', st')) (k : em_EW Γ K μ hp0 fin pc' lc' st' hp) : em_EW Γ K μ hp0 fin pc lc st hp := by
  obtain ⟨i, len, hd, hdec, hnx⟩ := hok.dec hi
  subst hnx
  simp only [em_po, em_stI] at h
  simp only [em_dec, em_f4] at hd
  split at hd
  case isFalse => cases hd
  cases hd
  split at h
  · rename_i x t
    cases hq : Nat.blt a (em_nL μ) with
    | false => rw [hq] at h; cases h
    | true =>
      rw [hq] at h
      cases h
      intro p e s m args below meth c hx hb hr hlk hml hown hnm hG hs H locs cells slots ls hW hlo hcl hsl hl
      exact lv_istore_n hx hb hdec rfl hl (Nat.le_of_ble_eq_true hq) (em_lv_st1 Γ lc a (.int x)) (fun ls' hl' => k p e s m args below meth c hx hb hr hlk hml hown hnm hG hs H locs cells slots ls' hW hlo hcl hsl (hl'))
  · cases h

theorem em_o11 (hB : B ≤ em_n hp) {nx : Nat} (hok : em_ok μ) (hi : em_i μ pc = some (11, a, b, nx)) (h : em_po B μ hp lc st 11 a b nx = some (pc', lc', st')) (k : em_EW Γ K μ hp0 fin pc' lc' st' hp) : em_EW Γ K μ hp0 fin pc lc st hp := by
  obtain ⟨i, len, hd, hdec, hnx⟩ := hok.dec hi
  subst hnx
  simp only [em_po, em_stI] at h
  simp only [em_dec] at hd
  cases hd
  split at h
  · rename_i x t
    cases hq : Nat.blt a (em_nL μ) with
    | false => rw [hq] at h; cases h
    | true =>
      rw [hq] at h
      cases h
      intro p e s m args below meth c hx hb hr hlk hml hown hnm hG hs H locs cells slots ls hW hlo hcl hsl hl
      exact lv_istore hx hb hdec hl (Nat.le_of_ble_eq_true hq) (em_lv_st1 Γ lc a (.int x)) (fun ls' hl' => k p e s m args below meth c hx hb hr hlk hml hown hnm hG hs H locs cells slots ls' hW hlo hcl hsl (hl'))
  · cases h

theorem em_o12 (hB : B ≤ em_n hp) {nx : Nat} (hok : em_ok μ) (hi : em_i μ pc = some (12, a, b, nx)) (h : em_po B μ hp lc st 12 a b nx = some (pc', lc', st')) (k : em_EW Γ K μ hp0 fin pc' lc' st' hp) : em_EW Γ K μ hp0 fin pc lc st hp := by
  obtain ⟨i, len, hd, hdec, hnx⟩ := hok.dec hi
  subst hnx
  simp only [em_po, em_stJ] at h
  simp only [em_dec, em_f4] at hd
  split at hd
  case isFalse => cases hd
  cases hd
  split at h
  · rename_i x t
    cases hq : Nat.blt (a + 1) (em_nL μ) with
    | false => rw [hq] at h; cases h
    | true =>
      rw [hq] at h
      cases h
      intro p e s m args below meth c hx hb hr hlk hml hown hnm hG hs H locs cells slots ls hW hlo hcl hsl hl
      exact lv_lstore_n hx hb hdec rfl hl (Nat.le_of_ble_eq_true hq) (em_lv_st2 Γ lc a (.long x)) (fun ls' hl' => k p e s m args below meth c hx hb hr hlk hml hown hnm hG hs H locs cells slots ls' hW hlo hcl hsl (hl'))
  · cases h

theorem em_o13 (hB : B ≤ em_n hp) {nx : Nat} (hok : em_ok μ) (hi : em_i μ pc = some (13, a, b, nx)) (h : em_po B μ hp lc st 13 a b nx = some (pc', lc', st')) (k : em_EW Γ K μ hp0 fin pc' lc' st' hp) : em_EW Γ K μ hp0 fin pc lc st hp := by
  obtain ⟨i, len, hd, hdec, hnx⟩ := hok.dec hi
  subst hnx
  simp only [em_po, em_stJ] at h
  simp only [em_dec] at hd
  cases hd
  split at h
  · rename_i x t
    cases hq : Nat.blt (a + 1) (em_nL μ) with
    | false => rw [hq] at h; cases h
    | true =>
      rw [hq] at h
      cases h
      intro p e s m args below meth c hx hb hr hlk hml hown hnm hG hs H locs cells slots ls hW hlo hcl hsl hl
      exact lv_lstore hx hb hdec hl (Nat.le_of_ble_eq_true hq) (em_lv_st2 Γ lc a (.long x)) (fun ls' hl' => k p e s m args below meth c hx hb hr hlk hml hown hnm hG hs H locs cells slots ls' hW hlo hcl hsl (hl'))
  · cases h

theorem em_o14 (hB : B ≤ em_n hp) {nx : Nat} (hok : em_ok μ) (hi : em_i μ pc = some (14, a, b, nx)) (h : em_po B μ hp lc st 14 a b nx = some (pc', lc', st')) (k : em_EW Γ K μ hp0 fin pc' lc' st' hp) : em_EW Γ K μ hp0 fin pc lc st hp := by
  obtain ⟨i, len, hd, hdec, hnx⟩ := hok.dec hi
  subst hnx
  simp only [em_po, em_stA] at h
  simp only [em_dec, em_f4] at hd
  split at hd
  case isFalse => cases hd
  cases hd
  split at h
  · rename_i x t
    cases hq : Nat.blt a (em_nL μ) with
    | false => rw [hq] at h; cases h
    | true =>
      rw [hq] at h
      cases h
      intro p e s m args below meth c hx hb hr hlk hml hown hnm hG hs H locs cells slots ls hW hlo hcl hsl hl
      exact lv_astore_n hx hb hdec rfl hl (Nat.le_of_ble_eq_true hq) (em_lv_st1 Γ lc a (.ref x)) (fun ls' hl' => k p e s m args below meth c hx hb hr hlk hml hown hnm hG hs H locs cells slots ls' hW hlo hcl hsl (hl'))
  · rename_i x t
    cases hq : Nat.blt a (em_nL μ) with
    | false => rw [hq] at h; cases h
    | true =>
      rw [hq] at h
      cases h
      intro p e s m args below meth c hx hb hr hlk hml hown hnm hG hs H locs cells slots ls hW hlo hcl hsl hl
      exact lv_astore_n hx hb hdec rfl hl (Nat.le_of_ble_eq_true hq) (em_lv_st1 Γ lc a (.float x)) (fun ls' hl' => k p e s m args below meth c hx hb hr hlk hml hown hnm hG hs H locs cells slots ls' hW hlo hcl hsl (hl'))
  · cases h

theorem em_o15 (hB : B ≤ em_n hp) {nx : Nat} (hok : em_ok μ) (hi : em_i μ pc = some (15, a, b, nx)) (h : em_po B μ hp lc st 15 a b nx = some (pc', lc', st')) (k : em_EW Γ K μ hp0 fin pc' lc' st' hp) : em_EW Γ K μ hp0 fin pc lc st hp := by
  obtain ⟨i, len, hd, hdec, hnx⟩ := hok.dec hi
  subst hnx
  simp only [em_po, em_stA] at h
  simp only [em_dec] at hd
  cases hd
  split at h
  · rename_i x t
    cases hq : Nat.blt a (em_nL μ) with
    | false => rw [hq] at h; cases h
    | true =>
      rw [hq] at h
      cases h
      intro p e s m args below meth c hx hb hr hlk hml hown hnm hG hs H locs cells slots ls hW hlo hcl hsl hl
      exact lv_astore hx hb hdec hl (Nat.le_of_ble_eq_true hq) (em_lv_st1 Γ lc a (.ref x)) (fun ls' hl' => k p e s m args below meth c hx hb hr hlk hml hown hnm hG hs H locs cells slots ls' hW hlo hcl hsl (hl'))
  · rename_i x t
    cases hq : Nat.blt a (em_nL μ) with
    | false => rw [hq] at h; cases h
    | true =>
      rw [hq] at h
      cases h
      intro p e s m args below meth c hx hb hr hlk hml hown hnm hG hs H locs cells slots ls hW hlo hcl hsl hl
      exact lv_astore hx hb hdec hl (Nat.le_of_ble_eq_true hq) (em_lv_st1 Γ lc a (.float x)) (fun ls' hl' => k p e s m args below meth c hx hb hr hlk hml hown hnm hG hs H locs cells slots ls' hW hlo hcl hsl (hl'))
  · cases h

theorem em_o16 (hB : B ≤ em_n hp) {nx : Nat} (hok : em_ok μ) (hi : em_i μ pc = some (16, a, b, nx)) (h : em_po B μ hp lc st 16 a b nx = some (pc', lc', st')) (k : em_EW Γ K μ hp0 fin pc' lc' st' hp) : em_EW Γ K μ hp0 fin pc lc st hp := by
  obtain ⟨i, len, hd, hdec, hnx⟩ := hok.dec hi
  subst hnx
  simp only [em_dec] at hd
  cases hd
  simp only [em_po] at h
  split at h
  · rename_i x hx1
    cases hq : Nat.blt a (em_nL μ) with
    | false => rw [hq] at h; cases h
    | true =>
      rw [hq] at h
      cases h
      intro p e s m args below meth c hx hb hr hlk hml hown hnm hG hs H locs cells slots ls hW hlo hcl hsl hl
      obtain ⟨k0, hk0⟩ := List.getElem?_of_mem (List.mem_map.mpr ⟨(a, _), em_lk_mem hx1, rfl⟩ : (a, em_v Γ (.int x)) ∈ em_lv Γ lc)
      exact lv_iinc hx hb hdec hl hk0 (by rw [Int32.ofInt_toInt]) (Nat.le_of_ble_eq_true hq) (em_lv_st1 Γ lc a (.int (x + b))) (fun ls' hl' => k p e s m args below meth c hx hb hr hlk hml hown hnm hG hs H locs cells slots ls' hW hlo hcl hsl (hl'))
  · cases h

theorem em_o17 (hB : B ≤ em_n hp) {nx : Nat} (hok : em_ok μ) (hi : em_i μ pc = some (17, a, b, nx)) (h : em_po B μ hp lc st 17 a b nx = some (pc', lc', st')) (k : em_EW Γ K μ hp0 fin pc' lc' st' hp) : em_EW Γ K μ hp0 fin pc lc st hp := by
  obtain ⟨i, len, hd, hdec, hnx⟩ := hok.dec hi
  subst hnx
  simp only [em_dec] at hd
  cases hd
  simp only [em_po, em_ii] at h
  split at h
  · rename_i y x t
    cases h
    intro p e s m args below meth c hx hb hr hlk hml hown hnm hG hs H locs cells slots ls hW hlo hcl hsl hl
    exact lv_iadd hx hb hdec (k p e s m args below meth c hx hb hr hlk hml hown hnm hG hs H locs cells slots ls hW hlo hcl hsl hl)
  · cases h

theorem em_o18 (hB : B ≤ em_n hp) {nx : Nat} (hok : em_ok μ) (hi : em_i μ pc = some (18, a, b, nx)) (h : em_po B μ hp lc st 18 a b nx = some (pc', lc', st')) (k : em_EW Γ K μ hp0 fin pc' lc' st' hp) : em_EW Γ K μ hp0 fin pc lc st hp := by
  obtain ⟨i, len, hd, hdec, hnx⟩ := hok.dec hi
  subst hnx
  simp only [em_dec] at hd
  cases hd
  simp only [em_po, em_ii] at h
  split at h
  · rename_i y x t
    cases h
    intro p e s m args below meth c hx hb hr hlk hml hown hnm hG hs H locs cells slots ls hW hlo hcl hsl hl
    exact lv_isub hx hb hdec (k p e s m args below meth c hx hb hr hlk hml hown hnm hG hs H locs cells slots ls hW hlo hcl hsl hl)
  · cases h

theorem em_o19 (hB : B ≤ em_n hp) {nx : Nat} (hok : em_ok μ) (hi : em_i μ pc = some (19, a, b, nx)) (h : em_po B μ hp lc st 19 a b nx = some (pc', lc', st')) (k : em_EW Γ K μ hp0 fin pc' lc' st' hp) : em_EW Γ K μ hp0 fin pc lc st hp := by
  obtain ⟨i, len, hd, hdec, hnx⟩ := hok.dec hi
  subst hnx
  simp only [em_dec] at hd
  cases hd
  simp only [em_po, em_ii] at h
  split at h
  · rename_i y x t
    cases h
    intro p e s m args below meth c hx hb hr hlk hml hown hnm hG hs H locs cells slots ls hW hlo hcl hsl hl
    exact lv_imul hx hb hdec (k p e s m args below meth c hx hb hr hlk hml hown hnm hG hs H locs cells slots ls hW hlo hcl hsl hl)
  · cases h

theorem em_o20 (hB : B ≤ em_n hp) {nx : Nat} (hok : em_ok μ) (hi : em_i μ pc = some (20, a, b, nx)) (h : em_po B μ hp lc st 20 a b nx = some (pc', lc', st')) (k : em_EW Γ K μ hp0 fin pc' lc' st' hp) : em_EW Γ K μ hp0 fin pc lc st hp := by
  obtain ⟨i, len, hd, hdec, hnx⟩ := hok.dec hi
  subst hnx
  simp only [em_dec] at hd
  cases hd
  simp only [em_po, em_ii] at h
  split at h
  · rename_i y x t
    cases h
    intro p e s m args below meth c hx hb hr hlk hml hown hnm hG hs H locs cells slots ls hW hlo hcl hsl hl
    exact lv_iand hx hb hdec (k p e s m args below meth c hx hb hr hlk hml hown hnm hG hs H locs cells slots ls hW hlo hcl hsl hl)
  · cases h

theorem em_o21 (hB : B ≤ em_n hp) {nx : Nat} (hok : em_ok μ) (hi : em_i μ pc = some (21, a, b, nx)) (h : em_po B μ hp lc st 21 a b nx = some (pc', lc', st')) (k : em_EW Γ K μ hp0 fin pc' lc' st' hp) : em_EW Γ K μ hp0 fin pc lc st hp := by
  obtain ⟨i, len, hd, hdec, hnx⟩ := hok.dec hi
  subst hnx
  simp only [em_dec] at hd
  cases hd
  simp only [em_po, em_ii] at h
  split at h
  · rename_i y x t
    cases h
    intro p e s m args below meth c hx hb hr hlk hml hown hnm hG hs H locs cells slots ls hW hlo hcl hsl hl
    exact lv_ior hx hb hdec (k p e s m args below meth c hx hb hr hlk hml hown hnm hG hs H locs cells slots ls hW hlo hcl hsl hl)
  · cases h

theorem em_o22 (hB : B ≤ em_n hp) {nx : Nat} (hok : em_ok μ) (hi : em_i μ pc = some (22, a, b, nx)) (h : em_po B μ hp lc st 22 a b nx = some (pc', lc', st')) (k : em_EW Γ K μ hp0 fin pc' lc' st' hp) : em_EW Γ K μ hp0 fin pc lc st hp := by
  obtain ⟨i, len, hd, hdec, hnx⟩ := hok.dec hi
  subst hnx
  simp only [em_dec] at hd
  cases hd
  simp only [em_po, em_ii] at h
  split at h
  · rename_i y x t
    cases h
    intro p e s m args below meth c hx hb hr hlk hml hown hnm hG hs H locs cells slots ls hW hlo hcl hsl hl
    exact lv_ixor hx hb hdec (k p e s m args below meth c hx hb hr hlk hml hown hnm hG hs H locs cells slots ls hW hlo hcl hsl hl)
  · cases h

theorem em_o23 (hB : B ≤ em_n hp) {nx : Nat} (hok : em_ok μ) (hi : em_i μ pc = some (23, a, b, nx)) (h : em_po B μ hp lc st 23 a b nx = some (pc', lc', st')) (k : em_EW Γ K μ hp0 fin pc' lc' st' hp) : em_EW Γ K μ hp0 fin pc lc st hp := by
  obtain ⟨i, len, hd, hdec, hnx⟩ := hok.dec hi
  subst hnx
  simp only [em_dec] at hd
  cases hd
  simp only [em_po, em_ii] at h
  split at h
  · rename_i y x t
    cases h
    intro p e s m args below meth c hx hb hr hlk hml hown hnm hG hs H locs cells slots ls hW hlo hcl hsl hl
    exact lv_ishl hx hb hdec (k p e s m args below meth c hx hb hr hlk hml hown hnm hG hs H locs cells slots ls hW hlo hcl hsl hl)
  · cases h

theorem em_o24 (hB : B ≤ em_n hp) {nx : Nat} (hok : em_ok μ) (hi : em_i μ pc = some (24, a, b, nx)) (h : em_po B μ hp lc st 24 a b nx = some (pc', lc', st')) (k : em_EW Γ K μ hp0 fin pc' lc' st' hp) : em_EW Γ K μ hp0 fin pc lc st hp := by
  obtain ⟨i, len, hd, hdec, hnx⟩ := hok.dec hi
  subst hnx
  simp only [em_dec] at hd
  cases hd
  simp only [em_po, em_ii] at h
  split at h
  · rename_i y x t
    cases h
    intro p e s m args below meth c hx hb hr hlk hml hown hnm hG hs H locs cells slots ls hW hlo hcl hsl hl
    exact lv_ishr hx hb hdec (k p e s m args below meth c hx hb hr hlk hml hown hnm hG hs H locs cells slots ls hW hlo hcl hsl hl)
  · cases h

theorem em_o25 (hB : B ≤ em_n hp) {nx : Nat} (hok : em_ok μ) (hi : em_i μ pc = some (25, a, b, nx)) (h : em_po B μ hp lc st 25 a b nx = some (pc', lc', st')) (k : em_EW Γ K μ hp0 fin pc' lc' st' hp) : em_EW Γ K μ hp0 fin pc lc st hp := by
  obtain ⟨i, len, hd, hdec, hnx⟩ := hok.dec hi
  subst hnx
  simp only [em_dec] at hd
  cases hd
  simp only [em_po, em_ii] at h
  split at h
  · rename_i y x t
    cases h
    intro p e s m args below meth c hx hb hr hlk hml hown hnm hG hs H locs cells slots ls hW hlo hcl hsl hl
    exact lv_iushr hx hb hdec rfl (k p e s m args below meth c hx hb hr hlk hml hown hnm hG hs H locs cells slots ls hW hlo hcl hsl hl)
  · cases h

theorem em_o26 (hB : B ≤ em_n hp) {nx : Nat} (hok : em_ok μ) (hi : em_i μ pc = some (26, a, b, nx)) (h : em_po B μ hp lc st 26 a b nx = some (pc', lc', st')) (k : em_EW Γ K μ hp0 fin pc' lc' st' hp) : em_EW Γ K μ hp0 fin pc lc st hp := by
  obtain ⟨i, len, hd, hdec, hnx⟩ := hok.dec hi
  subst hnx
  simp only [em_dec] at hd
  cases hd
  simp only [em_po, em_ll] at h
  split at h
  · rename_i y x t
    cases h
    intro p e s m args below meth c hx hb hr hlk hml hown hnm hG hs H locs cells slots ls hW hlo hcl hsl hl
    exact lv_ladd hx hb hdec (k p e s m args below meth c hx hb hr hlk hml hown hnm hG hs H locs cells slots ls hW hlo hcl hsl hl)
  · cases h

theorem em_o27 (hB : B ≤ em_n hp) {nx : Nat} (hok : em_ok μ) (hi : em_i μ pc = some (27, a, b, nx)) (h : em_po B μ hp lc st 27 a b nx = some (pc', lc', st')) (k : em_EW Γ K μ hp0 fin pc' lc' st' hp) : em_EW Γ K μ hp0 fin pc lc st hp := by
  obtain ⟨i, len, hd, hdec, hnx⟩ := hok.dec hi
  subst hnx
  simp only [em_dec] at hd
  cases hd
  simp only [em_po, em_ll] at h
  split at h
  · rename_i y x t
    cases h
    intro p e s m args below meth c hx hb hr hlk hml hown hnm hG hs H locs cells slots ls hW hlo hcl hsl hl
    exact lv_lmul hx hb hdec (k p e s m args below meth c hx hb hr hlk hml hown hnm hG hs H locs cells slots ls hW hlo hcl hsl hl)
  · cases h

theorem em_o28 (hB : B ≤ em_n hp) {nx : Nat} (hok : em_ok μ) (hi : em_i μ pc = some (28, a, b, nx)) (h : em_po B μ hp lc st 28 a b nx = some (pc', lc', st')) (k : em_EW Γ K μ hp0 fin pc' lc' st' hp) : em_EW Γ K μ hp0 fin pc lc st hp := by
  obtain ⟨i, len, hd, hdec, hnx⟩ := hok.dec hi
  subst hnx
  simp only [em_dec] at hd
  cases hd
  simp only [em_po] at h
  split at h
  · rename_i x t
    cases h
    intro p e s m args below meth c hx hb hr hlk hml hown hnm hG hs H locs cells slots ls hW hlo hcl hsl hl
    exact lv_i2l hx hb hdec rfl (k p e s m args below meth c hx hb hr hlk hml hown hnm hG hs H locs cells slots ls hW hlo hcl hsl hl)
  · cases h

theorem em_o29 (hB : B ≤ em_n hp) {nx : Nat} (hok : em_ok μ) (hi : em_i μ pc = some (29, a, b, nx)) (h : em_po B μ hp lc st 29 a b nx = some (pc', lc', st')) (k : em_EW Γ K μ hp0 fin pc' lc' st' hp) : em_EW Γ K μ hp0 fin pc lc st hp := by
  obtain ⟨i, len, hd, hdec, hnx⟩ := hok.dec hi
  subst hnx
  simp only [em_dec] at hd
  cases hd
  simp only [em_po] at h
  split at h
  · rename_i y x t
    cases h
    intro p e s m args below meth c hx hb hr hlk hml hown hnm hG hs H locs cells slots ls hW hlo hcl hsl hl
    exact W.lcmp hx hb hdec (k p e s m args below meth c hx hb hr hlk hml hown hnm hG hs H locs cells slots ls hW hlo hcl hsl hl)
  · cases h

theorem em_o30 (hB : B ≤ em_n hp) {nx : Nat} (hok : em_ok μ) (hi : em_i μ pc = some (30, a, b, nx)) (h : em_po B μ hp lc st 30 a b nx = some (pc', lc', st')) (k : em_EW Γ K μ hp0 fin pc' lc' st' hp) : em_EW Γ K μ hp0 fin pc lc st hp := by
  obtain ⟨i, len, hd, hdec, hnx⟩ := hok.dec hi
  subst hnx
  simp only [em_dec] at hd
  cases hd
  simp only [em_po] at h
  split at h
  · rename_i x t
    cases h
    intro p e s m args below meth c hx hb hr hlk hml hown hnm hG hs H locs cells slots ls hW hlo hcl hsl hl
    exact lv_dup hx hb hdec rfl (k p e s m args below meth c hx hb hr hlk hml hown hnm hG hs H locs cells slots ls hW hlo hcl hsl hl)
  · rename_i x t
    cases h
    intro p e s m args below meth c hx hb hr hlk hml hown hnm hG hs H locs cells slots ls hW hlo hcl hsl hl
    exact lv_dup hx hb hdec rfl (k p e s m args below meth c hx hb hr hlk hml hown hnm hG hs H locs cells slots ls hW hlo hcl hsl hl)
  · cases h

theorem em_o31 (hB : B ≤ em_n hp) {nx : Nat} (hok : em_ok μ) (hi : em_i μ pc = some (31, a, b, nx)) (h : em_po B μ hp lc st 31 a b nx = some (pc', lc', st')) (k : em_EW Γ K μ hp0 fin pc' lc' st' hp) : em_EW Γ K μ hp0 fin pc lc st hp := by
  obtain ⟨i, len, hd, hdec, hnx⟩ := hok.dec hi
  subst hnx
  simp only [em_dec] at hd
  cases hd
  simp only [em_po] at h
  split at h
  · rename_i x y t
    cases h
    intro p e s m args below meth c hx hb hr hlk hml hown hnm hG hs H locs cells slots ls hW hlo hcl hsl hl
    exact lv_dup2_11 hx hb hdec rfl rfl (k p e s m args below meth c hx hb hr hlk hml hown hnm hG hs H locs cells slots ls hW hlo hcl hsl hl)
  · cases h

theorem em_o32 (hB : B ≤ em_n hp) {nx : Nat} (hok : em_ok μ) (hi : em_i μ pc = some (32, a, b, nx)) (h : em_po B μ hp lc st 32 a b nx = some (pc', lc', st')) (k : em_EW Γ K μ hp0 fin pc' lc' st' hp) : em_EW Γ K μ hp0 fin pc lc st hp := by
  obtain ⟨i, len, hd, hdec, hnx⟩ := hok.dec hi
  subst hnx
  simp only [em_dec] at hd
  cases hd
  cases h
  intro p e s m args below meth c hx hb hr hlk hml hown hnm hG hs H locs cells slots ls hW hlo hcl hsl hl
  exact lv_goto hx hb hdec (by unfold em_br; omega) (k p e s m args below meth c hx hb hr hlk hml hown hnm hG hs H locs cells slots ls hW hlo hcl hsl hl)

theorem em_o33 (hB : B ≤ em_n hp) {nx : Nat} (hok : em_ok μ) (hi : em_i μ pc = some (33, a, b, nx)) (h : em_po B μ hp lc st 33 a b nx = some (pc', lc', st')) (k : em_EW Γ K μ hp0 fin pc' lc' st' hp) : em_EW Γ K μ hp0 fin pc lc st hp := by
  obtain ⟨i, len, hd, hdec, hnx⟩ := hok.dec hi
  subst hnx
  simp only [em_dec] at hd
  cases hd
  simp only [em_po] at h
  split at h
  · rename_i k1 t c1 j1 hf1
    cases hq : (Nat.beq (em_k k1) c1 && (Nat.blt c1 9 && Nat.blt k1 B)) with
    | false => rw [hq] at h; cases h
    | true =>
      rw [hq] at h
      cases h
      rw [Bool.and_eq_true, Bool.and_eq_true] at hq
      obtain ⟨q1, q2, q3⟩ := hq
      have e1 := Nat.eq_of_beq_eq_true q1
      have e2 : c1 < 9 := Nat.le_of_ble_eq_true q2
      have e3 : k1 < em_n hp := Nat.lt_of_lt_of_le (Nat.le_of_ble_eq_true q3) hB
      obtain ⟨r, hr1, hj, hlink⟩ := hok.2.1 _ _ _ hf1
      intro p e s m args below meth c hx hb hr hlk hml hown hnm hG hs H locs cells slots ls hW hlo hcl hsl hl
      have hcell := (em_cl_c e1 e2).mp (hW.2.2 k1 e3)
      obtain ⟨cell, g1, g2, g3, g4⟩ := hcell
      obtain ⟨hS, hfc, kC, hkC, hkind⟩ := hG.2.1.1 c1 r hr1
      obtain ⟨cf, kf, fi, f, hfi, hfs⟩ := hS j1 hj
      have hnf : em_nf c1 = r.2.2 := em_nf_ok hr1
      have hlays := em_lays hG hr1 hj (args := args)
      refine W.getf hx hb hown (hG.1 _ hlink rfl args) hfi (u_facts hfc hkC hlays hfi).1 g1 (by rw [g3]; exact fun h => by cases h) (v := em_v Γ (em_fv hp c1 k1 j1)) (by rw [hfs, g4 j1 (by rw [hnf]; exact hj)]) rfl rfl hdec ?_
      exact k p e s m args below meth c hx hb hr hlk hml hown hnm hG hs H locs cells slots ls hW hlo hcl hsl hl
  · cases h

theorem em_o35 (hB : B ≤ em_n hp) {nx : Nat} (hok : em_ok μ) (hi : em_i μ pc = some (35, a, b, nx)) (h : em_po B μ hp lc st 35 a b nx = some (pc', lc', st')) (k : em_EW Γ K μ hp0 fin pc' lc' st' hp) : em_EW Γ K μ hp0 fin pc lc st hp := by
  obtain ⟨i, len, hd, hdec, hnx⟩ := hok.dec hi
  subst hnx
  simp only [em_dec] at hd
  cases hd
  simp only [em_po] at h
  split at h
  · rename_i v1 hv1
    cases h
    intro p e s m args below meth c hx hb hr hlk hml hown hnm hG hs H locs cells slots ls hW hlo hcl hsl hl
    exact lv_ldc hx hb hown (hG.1 _ (hok.2.2.1 _ _ hv1) rfl args) hdec (k p e s m args below meth c hx hb hr hlk hml hown hnm hG hs H locs cells slots ls hW hlo hcl hsl hl)
  · cases h

theorem em_o36 (hB : B ≤ em_n hp) {nx : Nat} (hok : em_ok μ) (hi : em_i μ pc = some (36, a, b, nx)) (h : em_po B μ hp lc st 36 a b nx = some (pc', lc', st')) (k : em_EW Γ K μ hp0 fin pc' lc' st' hp) : em_EW Γ K μ hp0 fin pc lc st hp := by
  obtain ⟨i, len, hd, hdec, hnx⟩ := hok.dec hi
  subst hnx
  simp only [em_dec] at hd
  cases hd
  simp only [em_po] at h
  split at h
  · rename_i v1 hv1
    cases h
    intro p e s m args below meth c hx hb hr hlk hml hown hnm hG hs H locs cells slots ls hW hlo hcl hsl hl
    exact lv_ldcw hx hb hown (hG.1 _ (hok.2.2.1 _ _ hv1) rfl args) hdec (k p e s m args below meth c hx hb hr hlk hml hown hnm hG hs H locs cells slots ls hW hlo hcl hsl hl)
  · cases h

theorem em_o37 (hB : B ≤ em_n hp) {nx : Nat} (hok : em_ok μ) (hi : em_i μ pc = some (37, a, b, nx)) (h : em_po B μ hp lc st 37 a b nx = some (pc', lc', st')) (k : em_EW Γ K μ hp0 fin pc' lc' st' hp) : em_EW Γ K μ hp0 fin pc lc st hp := by
  obtain ⟨i, len, hd, hdec, hnx⟩ := hok.dec hi
  subst hnx
  simp only [em_dec] at hd
  cases hd
  cases h
  intro p e s m args below meth c hx hb hr hlk hml hown hnm hG hs H locs cells slots ls hW hlo hcl hsl hl
  exact lv_ldc2 hx hb hown (hG.1 _ (hok.2.2.2 _ _ _ _ hi) rfl args) hdec (k p e s m args below meth c hx hb hr hlk hml hown hnm hG hs H locs cells slots ls hW hlo hcl hsl hl)

theorem em_pure (hB : B ≤ em_n hp) (hok : em_ok μ) (h : em_ps B μ hp pc lc st = some (pc', lc', st')) (k : em_EW Γ K μ hp0 fin pc' lc' st' hp) : em_EW Γ K μ hp0 fin pc lc st hp := by
  unfold em_ps at h
  split at h
  · rename_i op a b nx hi
    match op, hi, h with
    | 0, hi, h => exact em_o0 hB hok hi h k
    | 1, hi, h => exact em_o1 hB hok hi h k
    | 2, hi, h => exact em_o2 hB hok hi h k
    | 3, hi, h => exact em_o3 hB hok hi h k
    | 4, hi, h => exact em_o4 hB hok hi h k
    | 5, hi, h => exact em_o5 hB hok hi h k
    | 6, hi, h => exact em_o6 hB hok hi h k
    | 7, hi, h => exact em_o7 hB hok hi h k
    | 8, hi, h => exact em_o8 hB hok hi h k
    | 9, hi, h => exact em_o9 hB hok hi h k
    | 10, hi, h => exact em_o10 hB hok hi h k
    | 11, hi, h => exact em_o11 hB hok hi h k
    | 12, hi, h => exact em_o12 hB hok hi h k
    | 13, hi, h => exact em_o13 hB hok hi h k
    | 14, hi, h => exact em_o14 hB hok hi h k
    | 15, hi, h => exact em_o15 hB hok hi h k
    | 16, hi, h => exact em_o16 hB hok hi h k
    | 17, hi, h => exact em_o17 hB hok hi h k
    | 18, hi, h => exact em_o18 hB hok hi h k
    | 19, hi, h => exact em_o19 hB hok hi h k
    | 20, hi, h => exact em_o20 hB hok hi h k
    | 21, hi, h => exact em_o21 hB hok hi h k
    | 22, hi, h => exact em_o22 hB hok hi h k
    | 23, hi, h => exact em_o23 hB hok hi h k
    | 24, hi, h => exact em_o24 hB hok hi h k
    | 25, hi, h => exact em_o25 hB hok hi h k
    | 26, hi, h => exact em_o26 hB hok hi h k
    | 27, hi, h => exact em_o27 hB hok hi h k
    | 28, hi, h => exact em_o28 hB hok hi h k
    | 29, hi, h => exact em_o29 hB hok hi h k
    | 30, hi, h => exact em_o30 hB hok hi h k
    | 31, hi, h => exact em_o31 hB hok hi h k
    | 32, hi, h => exact em_o32 hB hok hi h k
    | 33, hi, h => exact em_o33 hB hok hi h k
    | 35, hi, h => exact em_o35 hB hok hi h k
    | 36, hi, h => exact em_o36 hB hok hi h k
    | 37, hi, h => exact em_o37 hB hok hi h k
    | 34, hi, h => cases h
    | n + 38, hi, h => cases h
  · cases h
end EmPure
end
section
/-! BRANCHES, ARRAYS, FIELDS, ANSWERS -/
def em_bs (μ : em_Me) (pc : Nat) (st : List Value) : Option (Prop × Nat × Nat × List Value) := match em_i μ pc with
  | some (op, a, _, nx) => match op with
    | 50 => match st with
      | .int x :: t => some (x = 0, a, nx, t)
      | _ => none
    | 51 => match st with
      | .int x :: t => some (¬ x = 0, a, nx, t)
      | _ => none
    | 52 => match st with
      | .int x :: t => some (x < 0, a, nx, t)
      | _ => none
    | 53 => match st with
      | .int x :: t => some (0 ≤ x, a, nx, t)
      | _ => none
    | 54 => match st with
      | .int x :: t => some (0 < x, a, nx, t)
      | _ => none
    | 55 => match st with
      | .int x :: t => some (x ≤ 0, a, nx, t)
      | _ => none
    | 56 => match st with
      | .int y :: .int x :: t => some (x = y, a, nx, t)
      | _ => none
    | 57 => match st with
      | .int y :: .int x :: t => some (¬ x = y, a, nx, t)
      | _ => none
    | 58 => match st with
      | .int y :: .int x :: t => some (x < y, a, nx, t)
      | _ => none
    | 59 => match st with
      | .int y :: .int x :: t => some (y ≤ x, a, nx, t)
      | _ => none
    | 60 => match st with
      | .int y :: .int x :: t => some (y < x, a, nx, t)
      | _ => none
    | 61 => match st with
      | .int y :: .int x :: t => some (x ≤ y, a, nx, t)
      | _ => none
    | _ => none
  | none => none
/-- an array's read or a division: two on the stack -/
def em_as (op : Nat) (μ : em_Me) (pc : Nat) (st : List Value) : Option (Int32 × Nat × Nat × List Value) := match em_i μ pc with
  | some (o, _, _, nx) => bif Nat.beq o op then (match st with
    | .int i :: .ref k :: t => some (i, k, nx, t)
    | _ => none) else none
  | none => none
def em_wI (op : Nat) (μ : em_Me) (pc : Nat) (st : List Value) : Option (Int32 × Int32 × Nat × Nat × List Value) := match em_i μ pc with
  | some (o, _, _, nx) => bif Nat.beq o op then (match st with
    | .int x :: .int i :: .ref k :: t => some (x, i, k, nx, t)
    | _ => none) else none
  | none => none
def em_wJ (μ : em_Me) (pc : Nat) (st : List Value) : Option (Int64 × Int32 × Nat × Nat × List Value) := match em_i μ pc with
  | some (o, _, _, nx) => bif Nat.beq o 68 then (match st with
    | .long x :: .int i :: .ref k :: t => some (x, i, k, nx, t)
    | _ => none) else none
  | none => none
def em_wA (μ : em_Me) (pc : Nat) (st : List Value) : Option (Nat × Int32 × Nat × Nat × List Value) := match em_i μ pc with
  | some (o, _, _, nx) => bif Nat.beq o 69 then (match st with
    | .ref x :: .int i :: .ref k :: t => some (x, i, k, nx, t)
    | _ => none) else none
  | none => none
def em_dI (op : Nat) (μ : em_Me) (pc : Nat) (st : List Value) : Option (Int32 × Int32 × Nat × List Value) := match em_i μ pc with
  | some (o, _, _, nx) => bif Nat.beq o op then (match st with
    | .int y :: .int x :: t => some (y, x, nx, t)
    | _ => none) else none
  | none => none
def em_dJ (op : Nat) (μ : em_Me) (pc : Nat) (st : List Value) : Option (Int64 × Int64 × Nat × List Value) := match em_i μ pc with
  | some (o, _, _, nx) => bif Nat.beq o op then (match st with
    | .long y :: .long x :: t => some (y, x, nx, t)
    | _ => none) else none
  | none => none
/-- an instruction of this number at pc -/
def em_at1 (op : Nat) (μ : em_Me) (pc : Nat) : Option (Nat × Nat) := match em_i μ pc with
  | some (o, a, _, nx) => bif Nat.beq o op then some (a, nx) else none
  | none => none
theorem em_at1_i {op : Nat} {μ : em_Me} {pc a nx : Nat} (h : em_at1 op μ pc = some (a, nx)) : ∃ b, em_i μ pc = some (op, a, b, nx) := by
  unfold em_at1 at h
  split at h
  · rename_i o a1 b1 n1 hi
    cases hq : Nat.beq o op with
    | false => rw [hq] at h; cases h
    | true =>
      rw [hq] at h
      have := Nat.eq_of_beq_eq_true hq
      subst this
      cases h
      exact ⟨_, hi⟩
  · cases h
abbrev em_sI (hp : em_Hp) (k : Nat) (r : Nat → Int32) : em_Hp := (hp.1, hp.2.1, va_up hp.2.2.1 k r, hp.2.2.2.1, hp.2.2.2.2)
abbrev em_sJ (hp : em_Hp) (k : Nat) (r : Nat → Int64) : em_Hp := (hp.1, hp.2.1, hp.2.2.1, va_up hp.2.2.2.1 k r, hp.2.2.2.2)
abbrev em_sR (hp : em_Hp) (k : Nat) (r : Nat → Option Nat) : em_Hp := (hp.1, hp.2.1, hp.2.2.1, hp.2.2.2.1, va_up hp.2.2.2.2 k r)
theorem em_arrI {Γ : em_Cx} {s : State} (hG : em_G Γ s) (n : Nat) (f : Nat → Value) : s.isArrayOf (arrV (em_cI Γ) n f) .int := (hG.2.1.2 0 _ rfl).1 n f
theorem em_arrJ {Γ : em_Cx} {s : State} (hG : em_G Γ s) (n : Nat) (f : Nat → Value) : s.isArrayOf (arrV (em_cJ Γ) n f) .long := (hG.2.1.2 1 _ rfl).1 n f
theorem em_arrZ {Γ : em_Cx} {s : State} (hG : em_G Γ s) (n : Nat) (f : Nat → Value) : s.isArrayOf (arrV (em_cZ Γ) n f) .boolean := (hG.2.1.2 2 _ rfl).1 n f
theorem em_arrL {Γ : em_Cx} {s : State} (hG : em_G Γ s) (n : Nat) (f : Nat → Value) : s.isArrayOf (arrV (em_cL Γ) n f) (.object "BeastRoad$Law") := (hG.2.1.2 3 _ rfl).1 n f
theorem em_lo {Γ : em_Cx} {locs : List Loc} (h : ∀ q ∈ locs, em_A Γ q.base) (k i : Nat) : ∀ q ∈ locs ++ [(⟨em_z Γ + k, i⟩ : Loc)], em_A Γ q.base := by
  intro q hq
  rcases List.mem_append.mp hq with h1 | h1
  · exact h q h1
  · rw [List.mem_singleton.mp h1]
    exact Nat.le_add_right _ _
theorem em_inS {cI : ClassId} {i : Int32} {n : Nat} {f : Nat → Value} (hin : vp_in i n) : ¬ (i < 0 ∨ (arrV cI n f).slots.size ≤ i.toNatClampNeg) := by rw [arrV_size]; exact hin
theorem em_inR {cI : ClassId} {i : Int32} {n : Nat} {f : Nat → Value} (hin : vp_in i n) : (arrV cI n f).slots[i.toNatClampNeg]? = some (f i.toNatClampNeg) := arrV_read _ _ (Nat.not_le.mp fun q => hin (Or.inr q))
theorem em_updV {α : Type} (g : α → Value) (f : Nat → α) (k : Nat) (x : α) : updV (fun j => g (f j)) k (g x) = fun j => g (va_up f k x j) := by
  funext j
  by_cases h : j = k
  · simp [updV, va_up, h]
  · simp [updV, va_up, h]
section EmRules
variable {Γ : em_Cx} {K : Nat} {μ : em_Me} {hp0 : em_Hp} {fin : Option Value × em_Hp} {pc a nx : Nat} {b : Int32} {lc : List (Nat × Value)} {st t : List Value} {hp : em_Hp}
theorem em_branch {P : Prop} {tgt : Nat} (hok : em_ok μ) (h : em_bs μ pc st = some (P, tgt, nx, t)) (kt : P → em_EW Γ K μ hp0 fin tgt lc t hp) (kf : ¬ P → em_EW Γ K μ hp0 fin nx lc t hp) : em_EW Γ K μ hp0 fin pc lc st hp := by
  unfold em_bs at h
  split at h
  · rename_i op a b n1 hi
    obtain ⟨i, len, hd, hdec, hnx⟩ := hok.dec hi
    subst hnx
    have he : (pc : Int) + em_br pc a = (a : Int) := by unfold em_br; omega
    split at h <;> first
      | (cases h; done)
      | (split at h
         · cases h
           simp only [em_dec] at hd
           cases hd
           intro p e s m args below meth c hx hb hr hlk hml hown hnm hG hs H locs cells slots ls hW hlo hcl hsl hl
           have k1 := fun q => kt q p e s m args below meth c hx hb hr hlk hml hown hnm hG hs H locs cells slots ls hW hlo hcl hsl hl
           have k2 := fun q => kf q p e s m args below meth c hx hb hr hlk hml hown hnm hG hs H locs cells slots ls hW hlo hcl hsl hl
           first
             | exact lv_if_eq hx hb hdec he k1 k2
             | exact lv_if_ne hx hb hdec he k1 (fun q => k2 (fun z => z q))
             | exact lv_if_lt hx hb hdec he k1 k2
             | exact lv_if_ge hx hb hdec he k1 k2
             | exact lv_if_gt hx hb hdec he k1 k2
             | exact lv_if_le hx hb hdec he k1 k2
             | exact lv_icmp_eq hx hb hdec he k1 k2
             | exact lv_icmp_ne hx hb hdec he k1 (fun q => k2 (fun z => z q))
             | exact lv_icmp_lt hx hb hdec he k1 k2
             | exact lv_icmp_ge hx hb hdec he k1 k2
             | exact lv_icmp_gt hx hb hdec he k1 k2
             | exact lv_icmp_le hx hb hdec he k1 k2
         · cases h)
  · cases h
theorem em_as_i {op : Nat} {i : Int32} {k : Nat} (h : em_as op μ pc st = some (i, k, nx, t)) : (∃ a b, em_i μ pc = some (op, a, b, nx)) ∧ st = .int i :: .ref k :: t := by
  unfold em_as at h
  split at h
  · rename_i o a b n1 hi
    cases hq : Nat.beq o op with
    | false => rw [hq] at h; cases h
    | true =>
      rw [hq] at h
      have := Nat.eq_of_beq_eq_true hq
      subst this
      simp only [cond_true] at h
      split at h
      · cases h; exact ⟨⟨_, _, hi⟩, rfl⟩
      · cases h
  · cases h
theorem em_iald {i : Int32} {k : Nat} (hok : em_ok μ) (h : em_as 62 μ pc st = some (i, k, nx, t)) (hk : em_k k = 9) (hn : k < em_n hp) (hin : vp_in i (em_ln hp k)) (kk : em_EW Γ K μ hp0 fin nx lc (.int (em_I hp k i.toNatClampNeg) :: t) hp) : em_EW Γ K μ hp0 fin pc lc st hp := by
  obtain ⟨⟨a, b, hi⟩, rfl⟩ := em_as_i h
  obtain ⟨ii, len, hd, hdec, hnx⟩ := hok.dec hi
  subst hnx
  cases hd
  intro p e s m args below meth c hx hb hr hlk hml hown hnm hG hs H locs cells slots ls hW hlo hcl hsl hl
  exact W.iald hx hb ((em_cl_9 hk).mp (hW.2.2 k hn)) (em_arrI hG _ _) (fun q => by cases q) (em_inS hin) (em_inR hin) rfl rfl hdec (kk p e s m args below meth c hx hb hr hlk hml hown hnm hG hs H locs cells slots ls hW hlo hcl hsl hl)
theorem em_zald {i : Int32} {k : Nat} (hok : em_ok μ) (h : em_as 63 μ pc st = some (i, k, nx, t)) (hk : em_k k = 11) (hn : k < em_n hp) (hin : vp_in i (em_ln hp k)) (kk : em_EW Γ K μ hp0 fin nx lc (.int (em_I hp k i.toNatClampNeg) :: t) hp) : em_EW Γ K μ hp0 fin pc lc st hp := by
  obtain ⟨⟨a, b, hi⟩, rfl⟩ := em_as_i h
  obtain ⟨ii, len, hd, hdec, hnx⟩ := hok.dec hi
  subst hnx
  cases hd
  intro p e s m args below meth c hx hb hr hlk hml hown hnm hG hs H locs cells slots ls hW hlo hcl hsl hl
  exact W.zald hx hb ((em_cl_11 hk).mp (hW.2.2 k hn)) (em_arrZ hG _ _) (fun q => by cases q) (em_inS hin) (em_inR hin) rfl rfl hdec (kk p e s m args below meth c hx hb hr hlk hml hown hnm hG hs H locs cells slots ls hW hlo hcl hsl hl)
theorem em_lald {i : Int32} {k : Nat} (hok : em_ok μ) (h : em_as 64 μ pc st = some (i, k, nx, t)) (hk : em_k k = 10) (hn : k < em_n hp) (hin : vp_in i (em_ln hp k)) (kk : em_EW Γ K μ hp0 fin nx lc (.long (em_J hp k i.toNatClampNeg) :: t) hp) : em_EW Γ K μ hp0 fin pc lc st hp := by
  obtain ⟨⟨a, b, hi⟩, rfl⟩ := em_as_i h
  obtain ⟨ii, len, hd, hdec, hnx⟩ := hok.dec hi
  subst hnx
  cases hd
  intro p e s m args below meth c hx hb hr hlk hml hown hnm hG hs H locs cells slots ls hW hlo hcl hsl hl
  exact W.lald hx hb ((em_cl_10 hk).mp (hW.2.2 k hn)) (em_arrJ hG _ _) (fun q => by cases q) (em_inS hin) (em_inR hin) rfl rfl hdec (kk p e s m args below meth c hx hb hr hlk hml hown hnm hG hs H locs cells slots ls hW hlo hcl hsl hl)
theorem em_aald {i : Int32} {k : Nat} (hok : em_ok μ) (h : em_as 65 μ pc st = some (i, k, nx, t)) (hk : em_k k = 12) (hn : k < em_n hp) (hin : vp_in i (em_ln hp k)) (kk : em_EW Γ K μ hp0 fin nx lc (em_rf (em_R hp k i.toNatClampNeg) :: t) hp) : em_EW Γ K μ hp0 fin pc lc st hp := by
  obtain ⟨⟨a, b, hi⟩, rfl⟩ := em_as_i h
  obtain ⟨ii, len, hd, hdec, hnx⟩ := hok.dec hi
  subst hnx
  cases hd
  intro p e s m args below meth c hx hb hr hlk hml hown hnm hG hs H locs cells slots ls hW hlo hcl hsl hl
  exact W.aald (ty := .object "BeastRoad$Law") hx hb ((em_cl_12 hk).mp (hW.2.2 k hn)) (em_arrL hG _ _) rfl (fun q => by cases q) (em_inS hin) (em_inR hin) rfl rfl hdec (kk p e s m args below meth c hx hb hr hlk hml hown hnm hG hs H locs cells slots ls hW hlo hcl hsl hl)
theorem em_alen {k : Nat} (hok : em_ok μ) (h : em_at1 34 μ pc = some (a, nx)) (hk : em_k k = 9 ∨ em_k k = 10 ∨ em_k k = 11) (hn : k < em_n hp) (kk : em_EW Γ K μ hp0 fin nx lc (.int (nI (em_ln hp k)) :: t) hp) : em_EW Γ K μ hp0 fin pc lc (.ref k :: t) hp := by
  obtain ⟨b, hi⟩ := em_at1_i h
  obtain ⟨ii, len, hd, hdec, hnx⟩ := hok.dec hi
  subst hnx
  cases hd
  intro p e s m args below meth c hx hb hr hlk hml hown hnm hG hs H locs cells slots ls hW hlo hcl hsl hl
  have k0 := kk p e s m args below meth c hx hb hr hlk hml hown hnm hG hs H locs cells slots ls hW hlo hcl hsl hl
  rcases hk with hk | hk | hk
  · exact W.alen (n := nI (em_ln hp k)) hx hb ((em_cl_9 hk).mp (hW.2.2 k hn)) (em_arrI hG _ _) (by rw [arrV_size]; rfl) rfl rfl hdec k0
  · exact W.alen (n := nI (em_ln hp k)) hx hb ((em_cl_10 hk).mp (hW.2.2 k hn)) (em_arrJ hG _ _) (by rw [arrV_size]; rfl) rfl rfl hdec k0
  · exact W.alen (n := nI (em_ln hp k)) hx hb ((em_cl_11 hk).mp (hW.2.2 k hn)) (em_arrZ hG _ _) (by rw [arrV_size]; rfl) rfl rfl hdec k0
theorem em_wI_i {op : Nat} {x i : Int32} {k : Nat} (h : em_wI op μ pc st = some (x, i, k, nx, t)) : (∃ a b, em_i μ pc = some (op, a, b, nx)) ∧ st = .int x :: .int i :: .ref k :: t := by
  unfold em_wI at h
  split at h
  · rename_i o a b n1 hi
    cases hq : Nat.beq o op with
    | false => rw [hq] at h; cases h
    | true =>
      rw [hq] at h
      have := Nat.eq_of_beq_eq_true hq
      subst this
      simp only [cond_true] at h
      split at h
      · cases h; exact ⟨⟨_, _, hi⟩, rfl⟩
      · cases h
  · cases h
theorem em_ne {α : Type} {f : Nat → α} {k : Nat} {r : α} : ∀ j, j ≠ k → va_up f k r j = f j := fun _ h => va_up_ne _ _ h
theorem em_iast {x i : Int32} {k : Nat} (hok : em_ok μ) (h : em_wI 66 μ pc st = some (x, i, k, nx, t)) (hk : em_k k = 9) (hn : k < em_n hp) (hin : vp_in i (em_ln hp k)) (kk : em_EW Γ K μ hp0 fin nx lc t (em_sI hp k (va_up (em_I hp k) i.toNatClampNeg x))) : em_EW Γ K μ hp0 fin pc lc st hp := by
  obtain ⟨⟨a, b, hi⟩, rfl⟩ := em_wI_i h
  obtain ⟨ii, len, hd, hdec, hnx⟩ := hok.dec hi
  subst hnx
  cases hd
  intro p e s m args below meth c hx hb hr hlk hml hown hnm hG hs H locs cells slots ls hW hlo hcl hsl hl
  refine W.iast hx hb ((em_cl_9 hk).mp (hW.2.2 k hn)) (em_arrI hG _ _) (fun q => by cases q) (em_inS hin) rfl rfl hdec fun H1 e1 z1 oq => ?_
  refine kk p e s m args below meth c hx hb hr hlk hml hown hnm hG hs H1 _ cells slots ls (em_W_set (k := k) hW rfl (fun _ _ => rfl) em_ne (fun _ _ => rfl) (fun _ _ => rfl) z1 oq ((em_cl_9 hk).mpr ?_)) (em_lo hlo k _) hcl hsl hl
  rw [e1, arrV_store, em_updV (fun z => Value.int z)]
  show some (arrV _ _ _) = some (arrV _ _ (fun j => Value.int (va_up (em_I hp) k _ k j)))
  rw [va_up_self]
  rfl
theorem em_zast {x i : Int32} {k : Nat} (hok : em_ok μ) (h : em_wI 67 μ pc st = some (x, i, k, nx, t)) (hk : em_k k = 11) (hn : k < em_n hp) (hin : vp_in i (em_ln hp k)) (hx01 : x = 0 ∨ x = 1) (kk : em_EW Γ K μ hp0 fin nx lc t (em_sI hp k (va_up (em_I hp k) i.toNatClampNeg x))) : em_EW Γ K μ hp0 fin pc lc st hp := by
  obtain ⟨⟨a, b, hi⟩, rfl⟩ := em_wI_i h
  obtain ⟨ii, len, hd, hdec, hnx⟩ := hok.dec hi
  subst hnx
  cases hd
  intro p e s m args below meth c hx hb hr hlk hml hown hnm hG hs H locs cells slots ls hW hlo hcl hsl hl
  have hnar : narrow .boolean (.int x) = .int x := by rcases hx01 with rfl | rfl <;> rfl
  refine W.zast hx hb ((em_cl_11 hk).mp (hW.2.2 k hn)) (em_arrZ hG _ _) (fun q => by cases q) (em_inS hin) rfl rfl hdec fun H1 e1 z1 oq => ?_
  refine kk p e s m args below meth c hx hb hr hlk hml hown hnm hG hs H1 _ cells slots ls (em_W_set (k := k) hW rfl (fun _ _ => rfl) em_ne (fun _ _ => rfl) (fun _ _ => rfl) z1 oq ((em_cl_11 hk).mpr ?_)) (em_lo hlo k _) hcl hsl hl
  rw [e1, hnar, arrV_store, em_updV (fun z => Value.int z)]
  show some (arrV _ _ _) = some (arrV _ _ (fun j => Value.int (va_up (em_I hp) k _ k j)))
  rw [va_up_self]
  rfl
theorem em_last {x : Int64} {i : Int32} {k : Nat} (hok : em_ok μ) (h : em_wJ μ pc st = some (x, i, k, nx, t)) (hk : em_k k = 10) (hn : k < em_n hp) (hin : vp_in i (em_ln hp k)) (kk : em_EW Γ K μ hp0 fin nx lc t (em_sJ hp k (va_up (em_J hp k) i.toNatClampNeg x))) : em_EW Γ K μ hp0 fin pc lc st hp := by
  have hii : (∃ a b, em_i μ pc = some (68, a, b, nx)) ∧ st = .long x :: .int i :: .ref k :: t := by
    unfold em_wJ at h
    split at h
    · rename_i o a b n1 hi
      cases hq : Nat.beq o 68 with
      | false => rw [hq] at h; cases h
      | true =>
        rw [hq] at h
        have := Nat.eq_of_beq_eq_true hq
        subst this
        simp only [cond_true] at h
        split at h
        · cases h; exact ⟨⟨_, _, hi⟩, rfl⟩
        · cases h
    · cases h
  obtain ⟨⟨a, b, hi⟩, rfl⟩ := hii
  obtain ⟨ii, len, hd, hdec, hnx⟩ := hok.dec hi
  subst hnx
  cases hd
  intro p e s m args below meth c hx hb hr hlk hml hown hnm hG hs H locs cells slots ls hW hlo hcl hsl hl
  refine W.last hx hb ((em_cl_10 hk).mp (hW.2.2 k hn)) (em_arrJ hG _ _) (fun q => by cases q) (em_inS hin) rfl rfl hdec fun H1 e1 z1 oq => ?_
  refine kk p e s m args below meth c hx hb hr hlk hml hown hnm hG hs H1 _ cells slots ls (em_W_set (k := k) hW rfl (fun _ _ => rfl) (fun _ _ => rfl) em_ne (fun _ _ => rfl) z1 oq ((em_cl_10 hk).mpr ?_)) (em_lo hlo k _) hcl hsl hl
  rw [e1, arrV_store, em_updV (fun z => Value.long z)]
  show some (arrV _ _ _) = some (arrV _ _ (fun j => Value.long (va_up (em_J hp) k _ k j)))
  rw [va_up_self]
  rfl
theorem em_dI_i {op : Nat} {x y : Int32} (h : em_dI op μ pc st = some (y, x, nx, t)) : (∃ a b, em_i μ pc = some (op, a, b, nx)) ∧ st = .int y :: .int x :: t := by
  unfold em_dI at h
  split at h
  · rename_i o a b n1 hi
    cases hq : Nat.beq o op with
    | false => rw [hq] at h; cases h
    | true =>
      rw [hq] at h
      have := Nat.eq_of_beq_eq_true hq
      subst this
      simp only [cond_true] at h
      split at h
      · cases h; exact ⟨⟨_, _, hi⟩, rfl⟩
      · cases h
  · cases h
theorem em_dJ_i {op : Nat} {x y : Int64} (h : em_dJ op μ pc st = some (y, x, nx, t)) : (∃ a b, em_i μ pc = some (op, a, b, nx)) ∧ st = .long y :: .long x :: t := by
  unfold em_dJ at h
  split at h
  · rename_i o a b n1 hi
    cases hq : Nat.beq o op with
    | false => rw [hq] at h; cases h
    | true =>
      rw [hq] at h
      have := Nat.eq_of_beq_eq_true hq
      subst this
      simp only [cond_true] at h
      split at h
      · cases h; exact ⟨⟨_, _, hi⟩, rfl⟩
      · cases h
  · cases h
theorem em_idiv {x y : Int32} (hok : em_ok μ) (h : em_dI 70 μ pc st = some (y, x, nx, t)) (h0 : ¬ y = 0) (kk : em_EW Γ K μ hp0 fin nx lc (.int (x / y) :: t) hp) : em_EW Γ K μ hp0 fin pc lc st hp := by
  obtain ⟨⟨a, b, hi⟩, rfl⟩ := em_dI_i h
  obtain ⟨ii, len, hd, hdec, hnx⟩ := hok.dec hi
  subst hnx
  cases hd
  intro p e s m args below meth c hx hb hr hlk hml hown hnm hG hs H locs cells slots ls hW hlo hcl hsl hl
  exact lv_idiv hx hb hdec h0 (kk p e s m args below meth c hx hb hr hlk hml hown hnm hG hs H locs cells slots ls hW hlo hcl hsl hl)
theorem em_irem {x y : Int32} (hok : em_ok μ) (h : em_dI 71 μ pc st = some (y, x, nx, t)) (h0 : ¬ y = 0) (kk : em_EW Γ K μ hp0 fin nx lc (.int (x - x / y * y) :: t) hp) : em_EW Γ K μ hp0 fin pc lc st hp := by
  obtain ⟨⟨a, b, hi⟩, rfl⟩ := em_dI_i h
  obtain ⟨ii, len, hd, hdec, hnx⟩ := hok.dec hi
  subst hnx
  cases hd
  intro p e s m args below meth c hx hb hr hlk hml hown hnm hG hs H locs cells slots ls hW hlo hcl hsl hl
  exact lv_irem hx hb hdec h0 (kk p e s m args below meth c hx hb hr hlk hml hown hnm hG hs H locs cells slots ls hW hlo hcl hsl hl)
theorem em_ldiv {x y : Int64} (hok : em_ok μ) (h : em_dJ 72 μ pc st = some (y, x, nx, t)) (h0 : ¬ y = 0) (kk : em_EW Γ K μ hp0 fin nx lc (.long (x / y) :: t) hp) : em_EW Γ K μ hp0 fin pc lc st hp := by
  obtain ⟨⟨a, b, hi⟩, rfl⟩ := em_dJ_i h
  obtain ⟨ii, len, hd, hdec, hnx⟩ := hok.dec hi
  subst hnx
  cases hd
  intro p e s m args below meth c hx hb hr hlk hml hown hnm hG hs H locs cells slots ls hW hlo hcl hsl hl
  exact lv_ldiv hx hb hdec h0 (kk p e s m args below meth c hx hb hr hlk hml hown hnm hG hs H locs cells slots ls hW hlo hcl hsl hl)
theorem em_lrem {x y : Int64} (hok : em_ok μ) (h : em_dJ 73 μ pc st = some (y, x, nx, t)) (h0 : ¬ y = 0) (kk : em_EW Γ K μ hp0 fin nx lc (.long (x - x / y * y) :: t) hp) : em_EW Γ K μ hp0 fin pc lc st hp := by
  obtain ⟨⟨a, b, hi⟩, rfl⟩ := em_dJ_i h
  obtain ⟨ii, len, hd, hdec, hnx⟩ := hok.dec hi
  subst hnx
  cases hd
  intro p e s m args below meth c hx hb hr hlk hml hown hnm hG hs H locs cells slots ls hW hlo hcl hsl hl
  exact lv_lrem hx hb hdec h0 (kk p e s m args below meth c hx hb hr hlk hml hown hnm hG hs H locs cells slots ls hW hlo hcl hsl hl)
/-! answers -/
theorem em_iret {v : Int32} {ty : FieldType} (hok : em_ok μ) (h : em_at1 83 μ pc = some (a, nx)) (hrt : em_rt μ = some ty) (hnv : narrow ty (.int v) = .int v) (hf : fin = (some (.int v), hp)) : em_EW Γ K μ hp0 fin pc lc [.int v] hp := by
  obtain ⟨b, hi⟩ := em_at1_i h
  obtain ⟨ii, len, hd, hdec, hnx⟩ := hok.dec hi
  cases hd
  subst hf
  intro p e s m args below meth c hx hb hr hlk hml hown hnm hG hs H locs cells slots ls hW hlo hcl hsl hl
  obtain rfl : cells = em_n hp - em_n hp0 := by omega
  obtain rfl : slots = em_m hp - em_m hp0 := by omega
  exact W.zret hx hb (hr.trans hrt) hnv (fun t ht _ => ⟨rfl, by rw [ht]; exact hW⟩) hlo hdec hlk
theorem em_lret {v : Int64} (hok : em_ok μ) (h : em_at1 84 μ pc = some (a, nx)) (hrt : em_rt μ = some .long) (hf : fin = (some (.long v), hp)) : em_EW Γ K μ hp0 fin pc lc [.long v] hp := by
  obtain ⟨b, hi⟩ := em_at1_i h
  obtain ⟨ii, len, hd, hdec, hnx⟩ := hok.dec hi
  cases hd
  subst hf
  intro p e s m args below meth c hx hb hr hlk hml hown hnm hG hs H locs cells slots ls hW hlo hcl hsl hl
  obtain rfl : cells = em_n hp - em_n hp0 := by omega
  obtain rfl : slots = em_m hp - em_m hp0 := by omega
  exact W.lret hx hb (hr.trans hrt) (fun t ht _ => ⟨rfl, by rw [ht]; exact hW⟩) hlo hdec hlk
theorem em_aret {v : Value} {ty : FieldType} (hok : em_ok μ) (h : em_at1 85 μ pc = some (a, nx)) (hrt : em_rt μ = some ty) (hty : (∃ n, ty = .object n) ∨ ∃ t, ty = .array t) (hv : (∃ r, v = .ref r) ∨ ∃ u, v = .float u) (hf : fin = (some v, hp)) : em_EW Γ K μ hp0 fin pc lc [v] hp := by
  obtain ⟨b, hi⟩ := em_at1_i h
  obtain ⟨ii, len, hd, hdec, hnx⟩ := hok.dec hi
  cases hd
  subst hf
  intro p e s m args below meth c hx hb hr hlk hml hown hnm hG hs H locs cells slots ls hW hlo hcl hsl hl
  obtain rfl : cells = em_n hp - em_n hp0 := by omega
  obtain rfl : slots = em_m hp - em_m hp0 := by omega
  refine W.aret (v := em_v Γ v) hx hb (hr.trans hrt) hty ?_ (fun t ht _ => ⟨rfl, by rw [ht]; exact hW⟩) hlo hdec hlk
  rcases hv with ⟨r, rfl⟩ | ⟨u, rfl⟩
  · exact Or.inr ⟨_, rfl⟩
  · exact Or.inr ⟨_, rfl⟩
theorem em_vret (hok : em_ok μ) (h : em_at1 86 μ pc = some (a, nx)) (hrt : em_rt μ = none) (hf : fin = (none, hp)) : em_EW Γ K μ hp0 fin pc lc [] hp := by
  obtain ⟨b, hi⟩ := em_at1_i h
  obtain ⟨ii, len, hd, hdec, hnx⟩ := hok.dec hi
  cases hd
  subst hf
  intro p e s m args below meth c hx hb hr hlk hml hown hnm hG hs H locs cells slots ls hW hlo hcl hsl hl
  obtain rfl : cells = em_n hp - em_n hp0 := by omega
  obtain rfl : slots = em_m hp - em_m hp0 := by omega
  exact W.vret hx hb (hr.trans hrt) (fun t ht _ => ⟨rfl, by rw [ht]; exact hW⟩) hlo hdec hlk
end EmRules
end
section
/-! FIELDS, NEW CELLS, CALLS -/
theorem em_ap {Γ : em_Cx} {s : State} {args : Array Value} (hG : em_G Γ s) {c : Nat} {r : vw_C} (h : vwCl[c]? = some r) (hnm : ∀ a, a < r.2.2 → ∀ b, b < r.2.2 → a ≠ b → (r.2.1 a).2.1 ≠ (r.2.1 b).2.1) (hty : ∀ k, k < r.2.2 → ∃ ty, parseFieldDescriptor (r.2.1 k).2.2.1 = some ty) : ∀ x y, x < r.2.2 → y < r.2.2 → x ≠ y → ((em_D Γ).2 c) x ≠ ((em_D Γ).2 c) y := by
  intro x y hx hy hne
  obtain ⟨hS, -⟩ := hG.2.1.1 c _ h
  obtain ⟨_, _, _, fa, hia, ea⟩ := hS x hx
  obtain ⟨_, _, _, fb, hib, eb⟩ := hS y hy
  rw [← ea, ← eb]
  obtain ⟨t1, h1⟩ := hty x hx
  obtain ⟨t2, h2⟩ := hty y hy
  refine u_apart (args := args) (em_lays hG h hx) (em_lays hG h hy) hia hib ?_
  rw [(State.fieldFound?_type hia h1).1, (State.fieldFound?_type hib h2).1]
  exact hnm x hx y hy hne
theorem em_nms {c : Nat} {r : vw_C} (h : vwCl[c]? = some r) : ∀ a, a < r.2.2 → ∀ b, b < r.2.2 → a ≠ b → (r.2.1 a).2.1 ≠ (r.2.1 b).2.1 := by
  match c, h with
  | 0, h => cases h; exact nmX0
  | 1, h => cases h; exact nmX1
  | 2, h => cases h; exact nmX2
  | 3, h => cases h; exact nmX3
  | 4, h => cases h; exact nmX4
  | 5, h => cases h; exact nmX5
  | 6, h => cases h; exact nmX6
  | 7, h => cases h; exact nmX7
  | 8, h => cases h; exact nmX8
  | n + 9, h => simp [vwCl] at h
theorem em_tyo {c : Nat} {r : vw_C} (h : vwCl[c]? = some r) : ∀ k, k < r.2.2 → parseFieldDescriptor (r.2.1 k).2.2.1 = some (em_ty c k) := by
  match c, h with
  | 0, h => cases h; exact tyX0_ok
  | 1, h => cases h; exact tyX1_ok
  | 2, h => cases h; exact tyX2_ok
  | 3, h => cases h; exact tyX3_ok
  | 4, h => cases h; exact tyX4_ok
  | 5, h => cases h; exact tyX5_ok
  | 6, h => cases h; exact tyX6_ok
  | 7, h => cases h; exact tyX7_ok
  | 8, h => cases h; exact tyX8_ok
  | n + 9, h => simp [vwCl] at h
def em_pf (μ : em_Me) (pc : Nat) : Option (Nat × Nat × Nat) := match em_i μ pc with
  | some (o, a, _, nx) => bif Nat.beq o 74 then (match em_fl μ a with
    | some (c, j) => some (c, j, nx)
    | none => none) else none
  | none => none
section EmCalls
variable {Γ : em_Cx} {K : Nat} {μ : em_Me} {hp0 : em_Hp} {fin : Option Value × em_Hp} {pc a nx : Nat} {b : Int32} {lc : List (Nat × Value)} {st t : List Value} {hp hp' : em_Hp}
theorem em_put {c j k : Nat} {v : Value} {r : vw_C} (hok : em_ok μ) (h : em_pf μ pc = some (c, j, nx)) (hk : em_k k = c) (hc9 : c < 9) (hn : k < em_n hp) (hr0 : vwCl[c]? = some r) (hfin : (r.2.1 j).2.2.2 = false ∨ ((r.2.1 j).2.2.2 = true ∧ (em_y μ).name = "<init>" ∧ (r.2.1 j).1 = em_own μ))
    (hnar : narrow (em_ty c j) (em_v Γ v) = em_v Γ v) (hfit : fits (em_ty c j) (em_v Γ v) = true) (hn' : em_n hp' = em_n hp) (hm' : em_m hp' = em_m hp) (hd' : ∀ q, em_ln hp' q = em_ln hp q) (hI : ∀ q, q ≠ k → em_I hp' q = em_I hp q) (hJ : ∀ q, q ≠ k → em_J hp' q = em_J hp q) (hR : ∀ q, q ≠ k → em_R hp' q = em_R hp q)
    (hv : ∀ q, em_fv hp' c k q = if q = j then v else em_fv hp c k q) (kk : em_EW Γ K μ hp0 fin nx lc t hp') : em_EW Γ K μ hp0 fin pc lc (v :: .ref k :: t) hp := by
  unfold em_pf at h
  split at h
  case h_2 => cases h
  rename_i o a1 b1 n1 hi
  cases hq : Nat.beq o 74 with
  | false => rw [hq] at h; cases h
  | true =>
    rw [hq] at h
    have e0 := Nat.eq_of_beq_eq_true hq
    subst e0
    simp only [cond_true] at h
    split at h
    case h_2 => cases h
    rename_i c1 j1 hf1
    cases h
    obtain ⟨ii, len, hd, hdec, hnx⟩ := hok.dec hi
    subst hnx
    cases hd
    obtain ⟨r', hr1, hj, hlink⟩ := hok.2.1 _ _ _ hf1
    obtain rfl : r' = r := Option.some.inj (hr1.symm.trans hr0)
    intro p e s m args below meth c0 hx hb hr hlk hml hown hnm hG hs H locs cells slots ls hW hlo hcl hsl hl
    have hnf : em_nf c = r'.2.2 := em_nf_ok hr0
    obtain ⟨cell, g1, g2, g3, g4⟩ := (em_cl_c hk hc9).mp (hW.2.2 k hn)
    obtain ⟨hS, hfc, kC, hkC, hkind⟩ := hG.2.1.1 c r' hr0
    obtain ⟨cf, kf, fi, f, hfi, hfs⟩ := hS j hj
    have hap := em_ap (args := args) hG hr0 (em_nms hr0) (fun k hk => ⟨_, em_tyo hr0 k hk⟩)
    have hlays := em_lays (args := args) hG hr0 hj
    have hst := (u_facts hfc hkC hlays hfi).1
    have fini : ∀ H1 : Heap, H1[em_z Γ + k]? = some (cell.setSlot f.slot (em_v Γ v)) → H1.size = H.size → (∀ q, q ≠ em_z Γ + k → H1[q]? = H[q]?) → em_W Γ hp' H1 := by
      intro H1 e1 z1 oq
      refine em_W_set (k := k) hW hn' (fun q _ => hd' q) hI hJ hR z1 oq ((em_cl_c hk hc9).mpr ?_)
      rw [hfs] at e1
      refine t_OB.to (V := updV (fun j => em_v Γ (em_fv hp c k j)) j (em_v Γ v)) ⟨_, e1, g2, g3, t_set g4 (by rw [hnf]; exact hap) (by rw [hnf]; exact hj) (em_v Γ v)⟩ (fun q _ => ?_)
      rw [hv q]
      by_cases hqj : q = j
      · simp [updV, hqj]
      · simp [updV, hqj]
    rcases hfin with hf0 | ⟨hf0, hf1', hf2⟩
    · have hlay := em_layAt (args := args) hG hr0 hj
      unfold u_lay at hlay
      rw [if_neg (by rw [hf0]; decide)] at hlay
      have h6 := u_store hfc hkC hkind hlay hfi (em_tyo hr0 j hj) hnar hfit
      refine W.putK hx hb (f := f) ⟨hown, hG.1 _ hlink rfl args, ⟨_, _, _, hfi⟩, hst⟩ (by rw [g2]; exact h6) g1 g3 (by rw [hfs]; exact k2_hasslot (g4 j (by rw [hnf]; exact hj))) rfl rfl hdec fun H1 e1 z1 oq => ?_
      exact kk p e s m args below meth c0 hx hb hr hlk hml hown hnm hG hs H1 _ cells slots ls (fini H1 e1 z1 oq) (em_lo hlo k _) (by rw [hn']; exact hcl) (by rw [hm']; exact hsl) hl
    · have hlay := em_layAt (args := args) hG hr0 hj
      unfold u_lay at hlay
      rw [if_pos hf0] at hlay
      have hcf : m.cls = cf := by
        obtain ⟨_, _, c', _, _, _, -, -, hf', -, -, -, hown2, -⟩ := Cond.laysFinal_spec hlay
        have e1 : c' = cf := by have := hfi.symm.trans hf'; simp at this; exact this.1.symm
        rw [hf2] at hown2
        rw [← e1]; exact Option.some.inj (hown.symm.trans hown2)
      have h6 := u_fits hfc hkC hkind (Or.inr hlay) hfi (em_tyo hr0 j hj) hnar hfit
      refine W.putFinK hx hb hown (hG.1 _ hlink rfl args) hfi hst hcf (hnm.trans hf1') (by rw [g2]; exact h6) g1 g3 (by rw [hfs]; exact k2_hasslot (g4 j (by rw [hnf]; exact hj))) rfl rfl hdec fun H1 e1 z1 oq => ?_
      exact kk p e s m args below meth c0 hx hb hr hlk hml hown hnm hG hs H1 _ cells slots ls (fini H1 e1 z1 oq) (em_lo hlo k _) (by rw [hn']; exact hcl) (by rw [hm']; exact hsl) hl
theorem em_putI {c j k : Nat} {x : Int32} {r : vw_C} (hok : em_ok μ) (h : em_pf μ pc = some (c, j, nx)) (hk : em_k k = c) (hc9 : c < 9) (hn : k < em_n hp) (hr0 : vwCl[c]? = some r) (hfin : (r.2.1 j).2.2.2 = false) (ht : em_ty c j = .int) (kk : em_EW Γ K μ hp0 fin nx lc t (em_sI hp k (va_up (em_I hp k) j x))) : em_EW Γ K μ hp0 fin pc lc (.int x :: .ref k :: t) hp := by
  refine em_put (hp' := em_sI hp k (va_up (em_I hp k) j x)) hok h hk hc9 hn hr0 (Or.inl hfin) (by rw [ht]; rfl) (by rw [ht]; rfl) rfl rfl (fun _ => rfl) em_ne (fun _ _ => rfl) (fun _ _ => rfl) (fun q => ?_) kk
  unfold em_fv
  by_cases hq : q = j
  · subst hq
    rw [ht, if_pos rfl]
    simp [em_I, va_up]
  · rw [if_neg hq]
    split
    · simp [em_I, va_up, hq]
    · rfl
theorem em_putR {c j k x : Nat} {r : vw_C} (hok : em_ok μ) (h : em_pf μ pc = some (c, j, nx)) (hk : em_k k = c) (hc9 : c < 9) (hn : k < em_n hp) (hr0 : vwCl[c]? = some r) (hfin : (r.2.1 j).2.2.2 = false ∨ ((r.2.1 j).2.2.2 = true ∧ (em_y μ).name = "<init>" ∧ (r.2.1 j).1 = em_own μ)) (ht : (∃ n, em_ty c j = .object n) ∨ ∃ n, em_ty c j = .array n) (kk : em_EW Γ K μ hp0 fin nx lc t (em_sR hp k (va_up (em_R hp k) j (some x)))) : em_EW Γ K μ hp0 fin pc lc (.ref x :: .ref k :: t) hp := by
  refine em_put (hp' := em_sR hp k (va_up (em_R hp k) j (some x))) hok h hk hc9 hn hr0 hfin (by rcases ht with ⟨n, e⟩ | ⟨n, e⟩ <;> rw [e] <;> rfl) (by rcases ht with ⟨n, e⟩ | ⟨n, e⟩ <;> rw [e] <;> rfl) rfl rfl (fun _ => rfl) (fun _ _ => rfl) (fun _ _ => rfl) em_ne (fun q => ?_) kk
  unfold em_fv
  by_cases hq : q = j
  · subst hq
    rw [if_pos rfl]
    rcases ht with ⟨n, e⟩ | ⟨n, e⟩ <;> rw [e] <;> simp [em_R, va_up, em_rf]
  · rw [if_neg hq]
    split
    · rfl
    · simp [em_R, va_up, hq]
end EmCalls
end
section
/-! CALLS. What the tables say of a call's place: static, instance, constructor; by a plain link or by a nest mate's -/
def em_lk1 (own : String) (idx : Nat) (y : MethodName) : Prop := Cond.methodLink own idx y ∈ lw_tbl ∨ ∃ host, Cond.methodLinkNest own idx y host ∈ lw_tbl
def em_cd (μ : em_Me) : Cond := Cond.code (em_y μ) (em_c μ) (em_nL μ) (em_rt μ)
def em_tg (μ : em_Me) (n : Nat) : Prop := em_cd μ ∈ lw_tbl ∧ Cond.initialized (em_y μ).cls ∈ lw_tbl ∧ ((em_y μ).cls ≠ "java/lang/invoke/MethodHandle" ∧ (em_y μ).cls ≠ "java/lang/invoke/VarHandle") ∧ (parseMethodDescriptor (em_y μ).desc).map (fun d => d.parameters.length) = some n ∧ em_nL μ ≤ 21
def em_tS (μ : em_Me) (n : Nat) : Prop := em_tg μ n ∧ Cond.static (em_y μ) ∈ lw_tbl
def em_tV (μ : em_Me) (n c : Nat) : Prop := em_tg μ n ∧ Cond.instanceMethod (em_y μ) ∈ lw_tbl ∧ ∃ r : vw_C, vwCl[c]? = some r ∧ Cond.selects r.1 (em_y μ) (em_y μ) ∈ lw_tbl
def em_tI (μ : em_Me) (n : Nat) : Prop := em_tg μ n ∧ Cond.instanceMethod (em_y μ) ∈ lw_tbl ∧ (em_y μ).name = "<init>" ∧ em_rt μ = none
theorem em_blind (Γ : em_Cx) (av : List Value) (hp : em_Hp) : FrameBlind (em_Pc Γ av hp) := fun a U g mk h => ⟨h.1, em_G_call h.2.1, h.2.2⟩
theorem em_sums (Γ : em_Cx) (t : List Value) : ((t.map (em_v Γ)).map fun v => v.category).sum = em_cats t := by
  unfold em_cats
  rw [List.map_map]
  congr 1
  apply List.map_congr_left
  intro v _
  exact em_v_cat Γ v
theorem em_rev (Γ : em_Cx) (av t : List Value) : (av.reverse ++ t).map (em_v Γ) = (av.map (em_v Γ)).reverse ++ t.map (em_v Γ) := by simp
section EmInvoke
variable {Γ : em_Cx} {K K' : Nat} {μ μ' : em_Me} {hp0 : em_Hp} {fin : Option Value × em_Hp} {pc a nx n : Nat} {b : Int32} {lc : List (Nat × Value)} {st t av : List Value} {hp hp' : em_Hp} {r : Option Value}
theorem em_goes {p : Program} {e : Env} {s : State} {m : MethodId} {args : Array Value} {below : List Frame} {meth : Method} {c : Code} {a' : Array Value} {H : Heap} {locs : List Loc} {cells slots mc ms : Nat} {ls : Array Slot} {st0 : List Value}
    (hx : p.tables.exec = Jvm.exec) (hb : c.code = em_c μ) (hr : meth.sig.returnType = em_rt μ) (hlk : meth.locks = false) (hml : c.maxLocals = em_nL μ) (hown : s.vm.findClass (em_own μ) = some m.cls) (hnm : meth.name = (em_y μ).name) (hG : em_G Γ s) (hs : s.heap.size = em_z Γ + em_n hp0) (hlo : ∀ q ∈ locs, em_A Γ q.base) (hcl : cells + em_n hp0 = em_n hp) (hsl : slots + em_m hp0 = em_m hp) (hl : lv_has ls (em_nL μ) (em_lv Γ lc)) (h1 : em_n hp + mc = em_n hp') (h2 : em_m hp + ms = em_m hp')
    (hrun : va_Run p (em_l Γ) e (em_rm K (em_n fin.2 - em_n hp0) (em_m fin.2 - em_m hp0)) s m args below meth c H locs cells slots mc ms (F0 m pc ls st0) (t.map (em_v Γ)) (em_Q Γ r hp' a') (em_A Γ))
    (kk : em_EW Γ K μ hp0 fin (pc + 3) lc (r.toList ++ t) hp') : W p (em_l Γ) e (em_rm K (em_n fin.2 - em_n hp0) (em_m fin.2 - em_m hp0)) s m args below meth c H locs cells slots (MQ below (em_Q Γ fin.1 fin.2) args s (em_n fin.2 - em_n hp0) (em_m fin.2 - em_m hp0) (em_A Γ)) (F0 m pc ls st0) := by
  intro T hT X
  obtain ⟨v, st₀, tt, T', L, h0, X', hL, e1, e2, ⟨hv, hW'⟩, stp⟩ := hrun T hT X
  have hv' : v = r.map (em_v Γ) := Outcome.returned.inj hv
  subst hv'
  have k0 := kk p e s m args below meth c hx hb hr hlk hml hown hnm hG hs T'.heap (locs ++ L) (cells + mc) (slots + ms) ls (by rw [e1]; exact hW') (fun q hq => by
    rcases List.mem_append.mp hq with h | h
    · exact hlo q h
    · exact hL q h) (by omega) (by omega) hl
  have es : (r.toList ++ t).map (em_v Γ) = (r.map (em_v Γ)).toList ++ t.map (em_v Γ) := by cases r <;> simp
  rw [es] at k0
  obtain ⟨t2, a1, b1⟩ := k0 T' rfl X'
  exact ⟨t2, stp t2 a1, b1⟩
theorem em_fit {cells slots : Nat} (h1 : em_n hp ≤ em_n hp') (h2 : em_m hp ≤ em_m hp') (f1 : em_n hp' ≤ em_n fin.2) (f2 : em_m hp' ≤ em_m fin.2) (hcl : cells + em_n hp0 = em_n hp) (hsl : slots + em_m hp0 = em_m hp) : cells + (em_n hp' - em_n hp) ≤ (em_rm K (em_n fin.2 - em_n hp0) (em_m fin.2 - em_m hp0)).cells ∧ slots + (em_m hp' - em_m hp) ≤ (em_rm K (em_n fin.2 - em_n hp0) (em_m fin.2 - em_m hp0)).slots := by
  constructor
  · show _ ≤ em_n fin.2 - em_n hp0; omega
  · show _ ≤ em_m fin.2 - em_m hp0; omega
theorem em_tg_cb {s : State} {args : Array Value} {mc ms m1 m2 : Nat} (hG : em_G Γ s) (ht : em_tg μ' n) (hK : K' + 1 ≤ K) (idx : Nat) (hl : Cond.methodLink (em_own μ) idx (em_y μ') ∈ lw_tbl) : CallB (em_rm K m1 m2) s args (em_own μ) idx (em_y μ') (em_c μ') (em_nL μ') (em_rt μ') [em_cd μ'] (em_rm K' mc ms) mc ms n := by
  obtain ⟨t1, t2, t3, t4, t5⟩ := ht
  refine ⟨rfl, rfl, hK, ?_, fun w hw a' U hW => ?_, List.mem_singleton.mpr rfl, hG.1 _ t1 rfl args, hG.1 _ t2 rfl args, t3, fun sig h => ?_, hG.1 _ hl rfl args⟩
  · show 8 + (em_nL μ' + 11) + 40 * K' ≤ 40 * K
    omega
  · rw [List.mem_singleton.mp hw]
    exact (em_G_warm hW hG).1 _ t1 rfl a'
  · rw [h] at t4
    exact (Option.some.inj t4).symm
theorem em_tg_cn {s : State} {args : Array Value} {mc ms m1 m2 : Nat} (hG : em_G Γ s) (ht : em_tg μ' n) (hK : K' + 1 ≤ K) (idx : Nat) {host : String} (hl : Cond.methodLinkNest (em_own μ) idx (em_y μ') host ∈ lw_tbl) : va_CN (em_rm K m1 m2) s args (em_own μ) idx (em_y μ') host (em_c μ') (em_nL μ') (em_rt μ') [em_cd μ'] (em_rm K' mc ms) mc ms n := by
  obtain ⟨t1, t2, t3, t4, t5⟩ := ht
  refine ⟨⟨rfl, rfl, hK, ?_, fun w hw a' U hW => ?_, List.mem_singleton.mpr rfl⟩, hG.1 _ t1 rfl args, hG.1 _ t2 rfl args, t3, fun sig h => ?_, hG.1 _ hl rfl args⟩
  · show 8 + (em_nL μ' + 11) + 40 * K' ≤ 40 * K
    omega
  · rw [List.mem_singleton.mp hw]
    exact (em_G_warm hW hG).1 _ t1 rfl a'
  · rw [h] at t4
    exact (Option.some.inj t4).symm
/-- a static method -/
theorem em_callS (hok : em_ok μ) (h : em_at1 80 μ pc = some (a, nx)) (hlk1 : em_lk1 (em_own μ) a (em_y μ')) (ht : em_tS μ' n) (hM : em_MC Γ K' μ' av hp r hp') (hst : st = av.reverse ++ t) (hn : av.length = n) (hK : K' + 1 ≤ K) (hcat : em_cats t ≤ 8) (f1 : em_n hp' ≤ em_n fin.2) (f2 : em_m hp' ≤ em_m fin.2) (kk : em_EW Γ K μ hp0 fin nx lc (r.toList ++ t) hp') : em_EW Γ K μ hp0 fin pc lc st hp := by
  obtain ⟨b, hi⟩ := em_at1_i h
  obtain ⟨ii, len, hd, hdec, hnx⟩ := hok.dec hi
  subst hnx
  cases hd
  subst hst
  obtain ⟨h1, h2, hMet⟩ := hM
  intro p e s m args below meth c hx hb hr hlk hml hown hnm hG hs H locs cells slots ls hW hlo hcl hsl hl
  have hPre : PreS s H (em_Pc Γ av hp) (av.map (em_v Γ)) := ⟨em_blind Γ av hp, fun U hU hWU => ⟨rfl, em_G_warm hWU hG, by rw [hU]; exact hW⟩⟩
  have hW8 : 2 * (F0 m pc ls ((av.reverse ++ t).map (em_v Γ))).monitorRoom + ((t.map (em_v Γ)).map fun v => v.category).sum ≤ 8 := lv_room (by rw [em_sums]; exact hcat)
  have hlen : (av.map (em_v Γ)).length = n := by rw [List.length_map]; exact hn
  rcases hlk1 with hl1 | ⟨host, hl1⟩
  · exact em_goes hx hb hr hlk hml hown hnm hG hs hlo hcl hsl hl (by omega) (by omega) (va_runS (Ts := []) ⟨hx, hb, hml, hown, fun _ h => by cases h⟩ hMet ⟨em_tg_cb hG ht.1 hK a hl1, hG.1 _ ht.2 rfl args⟩ hPre rfl hlen hl.1 (em_rev Γ av t) hW8 hdec (em_fit h1 h2 f1 f2 hcl hsl)) kk
  · exact em_goes hx hb hr hlk hml hown hnm hG hs hlo hcl hsl hl (by omega) (by omega) (va_runSN (Ts := []) ⟨hx, hb, hml, hown, fun _ h => by cases h⟩ hMet ⟨em_tg_cn hG ht.1 hK a hl1, hG.1 _ ht.2 rfl args, trivial⟩ hPre rfl hlen hl.1 (em_rev Γ av t) hW8 hdec (em_fit h1 h2 f1 f2 hcl hsl)) kk
/-- an instance method of a class of ours, on cell k -/
theorem em_callV {c1 k : Nat} (hok : em_ok μ) (h : em_at1 81 μ pc = some (a, nx)) (hlk1 : em_lk1 (em_own μ) a (em_y μ')) (ht : em_tV μ' n c1) (hc9 : c1 < 9) (hkc : em_k k = c1) (hkn : k < em_n hp) (hM : em_MC Γ K' μ' (.ref k :: av) hp r hp') (hst : st = av.reverse ++ .ref k :: t) (hn : av.length = n) (hK : K' + 1 ≤ K) (hcat : em_cats t ≤ 8) (f1 : em_n hp' ≤ em_n fin.2) (f2 : em_m hp' ≤ em_m fin.2) (kk : em_EW Γ K μ hp0 fin nx lc (r.toList ++ t) hp') : em_EW Γ K μ hp0 fin pc lc st hp := by
  obtain ⟨b, hi⟩ := em_at1_i h
  obtain ⟨ii, len, hd, hdec, hnx⟩ := hok.dec hi
  subst hnx
  cases hd
  subst hst
  obtain ⟨h1, h2, hMet⟩ := hM
  obtain ⟨ht1, ht2, rc, hrc, hsel⟩ := ht
  intro p e s m args below meth c hx hb hr hlk hml hown hnm hG hs H locs cells slots ls hW hlo hcl hsl hl
  have hrecv : ∃ cellB : Cell, H[em_z Γ + k]? = some cellB ∧ cellB.vm.isStatics = false ∧ s.vm.findClass rc.1 = some cellB.cls := by
    obtain ⟨cell, g1, g2, g3, -⟩ := (em_cl_c hkc hc9).mp (hW.2.2 k hkn)
    exact ⟨cell, g1, by rw [g3]; rfl, by rw [g2]; exact (hG.2.1.1 c1 rc hrc).2.1⟩
  have hPre : PreV s H rc.1 (em_z Γ + k) (em_Pc Γ (.ref k :: av) hp) (av.map (em_v Γ)) := ⟨em_blind Γ _ hp, hrecv, fun U hU hWU => ⟨rfl, em_G_warm hWU hG, by rw [hU]; exact hW⟩⟩
  have hW8 : 2 * (F0 m pc ls ((av.reverse ++ .ref k :: t).map (em_v Γ))).monitorRoom + ((t.map (em_v Γ)).map fun v => v.category).sum ≤ 8 := lv_room (by rw [em_sums]; exact hcat)
  have hlen : (av.map (em_v Γ)).length = n := by rw [List.length_map]; exact hn
  have hstk : ((av.reverse ++ .ref k :: t).map (em_v Γ)) = (av.map (em_v Γ)).reverse ++ .ref (em_z Γ + k) :: t.map (em_v Γ) := by rw [em_rev]; rfl
  rcases hlk1 with hl1 | ⟨host, hl1⟩
  · exact em_goes hx hb hr hlk hml hown hnm hG hs hlo hcl hsl hl (by omega) (by omega) (va_runV (Ts := []) (C := rc.1) ⟨hx, hb, hml, hown, fun _ h => by cases h⟩ hMet ⟨em_tg_cb hG ht1 hK a hl1, hG.1 _ ht2 rfl args, hG.1 _ hsel rfl args⟩ hPre rfl hlen hl.1 hstk hW8 hdec (em_fit h1 h2 f1 f2 hcl hsl)) kk
  · exact em_goes hx hb hr hlk hml hown hnm hG hs hlo hcl hsl hl (by omega) (by omega) (va_runVN (Ts := []) (C := rc.1) ⟨hx, hb, hml, hown, fun _ h => by cases h⟩ hMet ⟨em_tg_cn hG ht1 hK a hl1, hG.1 _ ht2 rfl args, hG.1 _ hsel rfl args⟩ hPre rfl hlen hl.1 hstk hW8 hdec (em_fit h1 h2 f1 f2 hcl hsl)) kk
/-- a constructor, on cell k -/
theorem em_callI {k : Nat} (hok : em_ok μ) (h : em_at1 82 μ pc = some (a, nx)) (hlk1 : em_lk1 (em_own μ) a (em_y μ')) (ht : em_tI μ' n) (hM : em_MC Γ K' μ' (.ref k :: av) hp none hp') (hst : st = av.reverse ++ .ref k :: t) (hn : av.length = n) (hK : K' + 1 ≤ K) (hcat : em_cats t ≤ 8) (f1 : em_n hp' ≤ em_n fin.2) (f2 : em_m hp' ≤ em_m fin.2) (kk : em_EW Γ K μ hp0 fin nx lc t hp') : em_EW Γ K μ hp0 fin pc lc st hp := by
  obtain ⟨b, hi⟩ := em_at1_i h
  obtain ⟨ii, len, hd, hdec, hnx⟩ := hok.dec hi
  subst hnx
  cases hd
  subst hst
  obtain ⟨h1, h2, hMet⟩ := hM
  obtain ⟨ht1, ht2, hini, hrt⟩ := ht
  intro p e s m args below meth c hx hb hr hlk hml hown hnm hG hs H locs cells slots ls hW hlo hcl hsl hl
  have hPre : PreS s H (em_Pc Γ (.ref k :: av) hp) (.ref (em_z Γ + k) :: av.map (em_v Γ)) := ⟨em_blind Γ _ hp, fun U hU hWU => ⟨rfl, em_G_warm hWU hG, by rw [hU]; exact hW⟩⟩
  have hW8 : 2 * (F0 m pc ls ((av.reverse ++ .ref k :: t).map (em_v Γ))).monitorRoom + ((t.map (em_v Γ)).map fun v => v.category).sum ≤ 8 := lv_room (by rw [em_sums]; exact hcat)
  have hlen : (av.map (em_v Γ)).length = n := by rw [List.length_map]; exact hn
  have hstk : ((av.reverse ++ .ref k :: t).map (em_v Γ)) = (av.map (em_v Γ)).reverse ++ .ref (em_z Γ + k) :: t.map (em_v Γ) := by rw [em_rev]; rfl
  rcases hlk1 with hl1 | ⟨host, hl1⟩
  · have cb := em_tg_cb (μ := μ) (args := args) (mc := em_n hp' - em_n hp) (ms := em_m hp' - em_m hp) (m1 := em_n fin.2 - em_n hp0) (m2 := em_m fin.2 - em_m hp0) hG ht1 hK a hl1
    rw [hrt] at cb
    exact em_goes (r := none) hx hb hr hlk hml hown hnm hG hs hlo hcl hsl hl (by omega) (by omega) (va_runI (Ts := []) ⟨hx, hb, hml, hown, fun _ h => by cases h⟩ hMet ⟨cb, hini, hG.1 _ ht2 rfl args⟩ hPre rfl hlen hl.1 hstk hW8 hdec (em_fit h1 h2 f1 f2 hcl hsl)) kk
  · have cb := em_tg_cn (μ := μ) (args := args) (mc := em_n hp' - em_n hp) (ms := em_m hp' - em_m hp) (m1 := em_n fin.2 - em_n hp0) (m2 := em_m fin.2 - em_m hp0) hG ht1 hK a hl1
    rw [hrt] at cb
    exact em_goes (r := none) hx hb hr hlk hml hown hnm hG hs hlo hcl hsl hl (by omega) (by omega) (va_runIN (Ts := []) ⟨hx, hb, hml, hown, fun _ h => by cases h⟩ hMet ⟨cb, hini, hG.1 _ ht2 rfl args⟩ hPre rfl hlen hl.1 hstk hW8 hdec (em_fit h1 h2 f1 f2 hcl hsl)) kk
end EmInvoke
end
section
/-! NEW CELLS, COPIES, SWITCHES, THE SCRIPT, THE WORDS -/
theorem em_cats1 {Γ : em_Cx} {t : List Value} : ((t.map (em_v Γ)).map fun v => v.category).sum = em_cats t := em_sums Γ t
theorem em_obj1 : Cond.instanceMethod objectInit ∈ lw_tbl := by decide +kernel
theorem em_obj2 : Cond.code objectInit ⟨#[0xb1]⟩ 1 none ∈ lw_tbl := by decide +kernel
theorem em_tys3 {c : Nat} {r : vw_C} (h : vwCl[c]? = some r) : ∀ j, j < r.2.2 → em_ty c j = .int ∨ (∃ n, em_ty c j = .object n) ∨ ∃ n, em_ty c j = .array n := by
  have key : ∀ c, c < 9 → ∀ j, j < 44 → (match em_ty c j with
    | .int => true
    | .object _ => true
    | .array _ => true
    | _ => false) = true := by decide +kernel
  have hc : c < 9 := by
    have := (List.getElem?_eq_some_iff.mp h).1
    exact this
  have hr : r.2.2 ≤ 44 := by
    rw [← em_nf_ok h]
    rcases (show c = 0 ∨ c = 1 ∨ c = 2 ∨ c = 3 ∨ c = 4 ∨ c = 5 ∨ c = 6 ∨ c = 7 ∨ c = 8 by omega) with rfl | rfl | rfl | rfl | rfl | rfl | rfl | rfl | rfl <;> decide
  intro j hj
  have hk := key c hc j (by omega)
  split at hk
  · exact Or.inl (by assumption)
  · exact Or.inr (Or.inl ⟨_, by assumption⟩)
  · exact Or.inr (Or.inr ⟨_, by assumption⟩)
  · cases hk
section EmCells
variable {Γ : em_Cx} {K : Nat} {μ : em_Me} {hp0 : em_Hp} {fin : Option Value × em_Hp} {pc a nx : Nat} {b : Int32} {lc : List (Nat × Value)} {st t : List Value} {hp hp' : em_Hp}
/-- a heap with one cell more, of N slots: what was there stays -/
def em_gr (hp hp' : em_Hp) (N : Nat) : Prop := em_n hp' = em_n hp + 1 ∧ em_m hp' = em_m hp + N ∧ (∀ j, j < em_n hp → em_ln hp' j = em_ln hp j) ∧ (∀ j, j < em_n hp → em_I hp' j = em_I hp j) ∧ (∀ j, j < em_n hp → em_J hp' j = em_J hp j) ∧ ∀ j, j < em_n hp → em_R hp' j = em_R hp j
theorem em_newa {ty : FieldType} {at1 : ArrayType} {op N : Nat} (hok : em_ok μ) (hop : (op = 76 ∧ at1 = .int ∧ ty = .int) ∨ (op = 77 ∧ at1 = .long ∧ ty = .long) ∨ (op = 78 ∧ at1 = .boolean ∧ ty = .boolean)) (h : em_at1 op μ pc = some (a, nx)) (hgr : em_gr hp hp' N) (hN : N < 100000) (hl0 : em_ln hp' (em_n hp) = N)
    (hkd : (op = 76 ∧ em_k (em_n hp) = 9 ∧ ∀ j, em_I hp' (em_n hp) j = 0) ∨ (op = 77 ∧ em_k (em_n hp) = 10 ∧ ∀ j, em_J hp' (em_n hp) j = 0) ∨ (op = 78 ∧ em_k (em_n hp) = 11 ∧ ∀ j, em_I hp' (em_n hp) j = 0)) (hac : Cond.arrayClass ty ∈ lw_tbl) (f1 : em_n hp' ≤ em_n fin.2) (f2 : em_m hp' ≤ em_m fin.2) (kk : em_EW Γ K μ hp0 fin nx lc (.ref (em_n hp) :: t) hp') : em_EW Γ K μ hp0 fin pc lc (.int (nI N) :: t) hp := by
  obtain ⟨b, hi⟩ := em_at1_i h
  obtain ⟨ii, len, hd, hdec, hnx⟩ := hok.dec hi
  subst hnx
  obtain ⟨q1, q2, q3, q4, q5, q6⟩ := hgr
  have hd2 : ii = .newarray at1 ∧ len = 2 := by rcases hop with ⟨rfl, rfl, rfl⟩ | ⟨rfl, rfl, rfl⟩ | ⟨rfl, rfl, rfl⟩ <;> (cases hd; exact ⟨rfl, rfl⟩)
  obtain ⟨rfl, rfl⟩ := hd2
  have hty : newarray.typeOf at1 = ty := by rcases hop with ⟨rfl, rfl, rfl⟩ | ⟨rfl, rfl, rfl⟩ | ⟨rfl, rfl, rfl⟩ <;> rfl
  have hby : componentBytes ty ≤ 8 := by rcases hop with ⟨rfl, rfl, rfl⟩ | ⟨rfl, rfl, rfl⟩ | ⟨rfl, rfl, rfl⟩ <;> decide
  intro p e s m args below meth c hx hb hr hlk hml hown hnm hG hs H locs cells slots ls hW hlo hcl hsl hl
  refine va_newaK hx hb (atype := at1) (by rw [hty]; exact hG.1 _ hac rfl args) rfl hdec rfl (nI_pos (by omega)) (nI_clamp (by omega)) (by
    rw [hty]
    have := Nat.mul_le_mul (Nat.le_of_lt hN) hby
    omega) (show cells + 1 ≤ em_n fin.2 - em_n hp0 by omega) (show slots + N ≤ em_m fin.2 - em_m hp0 by omega) (h := em_z Γ + em_n hp) hW.1 fun H1 cA e1 z1 o1 hAr hNm => ?_
  refine kk p e s m args below meth c hx hb hr hlk hml hown hnm hG hs H1 locs (cells + 1) (slots + N) ls (em_W_push hW q1 q3 q4 q5 q6 (by rw [z1, hW.1]) (fun q hq => o1 q (by rw [← hW.1]; exact hq)) ?_) hlo (by omega) (by omega) hl
  rcases hop with ⟨rfl, rfl, rfl⟩ | ⟨rfl, rfl, rfl⟩ | ⟨rfl, rfl, rfl⟩
  · rcases hkd with ⟨-, k1, k2⟩ | ⟨h9, -⟩ | ⟨h9, -⟩
    · have hc : cA = em_cI Γ := Option.some.inj (hNm.symm.trans (hG.2.1.2 0 _ rfl).2)
      rw [em_cl_9 k1, e1, hl0, hc]
      congr 2
      funext j
      rw [k2 j]
      rfl
    · cases h9
    · cases h9
  · rcases hkd with ⟨h9, -⟩ | ⟨-, k1, k2⟩ | ⟨h9, -⟩
    · cases h9
    · have hc : cA = em_cJ Γ := Option.some.inj (hNm.symm.trans (hG.2.1.2 1 _ rfl).2)
      rw [em_cl_10 k1, e1, hl0, hc]
      congr 2
      funext j
      rw [k2 j]
      rfl
    · cases h9
  · rcases hkd with ⟨h9, -⟩ | ⟨h9, -⟩ | ⟨-, k1, k2⟩
    · cases h9
    · cases h9
    · have hc : cA = em_cZ Γ := Option.some.inj (hNm.symm.trans (hG.2.1.2 2 _ rfl).2)
      rw [em_cl_11 k1, e1, hl0, hc]
      congr 2
      funext j
      rw [k2 j]
      rfl
theorem em_anew {N : Nat} (hok : em_ok μ) (h : em_at1 79 μ pc = some (a, nx)) (hgr : em_gr hp hp' N) (hN : N < 100000) (hl0 : em_ln hp' (em_n hp) = N) (k1 : em_k (em_n hp) = 12) (k2 : ∀ j, em_R hp' (em_n hp) j = none) (hcl0 : Cond.classLink (em_own μ) a "BeastRoad$Law" ∈ lw_tbl) (f1 : em_n hp' ≤ em_n fin.2) (f2 : em_m hp' ≤ em_m fin.2) (kk : em_EW Γ K μ hp0 fin nx lc (.ref (em_n hp) :: t) hp') : em_EW Γ K μ hp0 fin pc lc (.int (nI N) :: t) hp := by
  obtain ⟨b, hi⟩ := em_at1_i h
  obtain ⟨ii, len, hd, hdec, hnx⟩ := hok.dec hi
  subst hnx
  cases hd
  obtain ⟨q1, q2, q3, q4, q5, q6⟩ := hgr
  intro p e s m args below meth c hx hb hr hlk hml hown hnm hG hs H locs cells slots ls hW hlo hcl hsl hl
  have hcc : (nI N).toNatClampNeg = N := nI_clamp (by omega)
  refine W.anew hx hb hown (hG.1 _ hcl0 rfl args) (va_AO.use hG.2.2.1) rfl hdec rfl (nI_pos (by omega)) (by rw [hcc]; omega) (show cells + 1 ≤ em_n fin.2 - em_n hp0 by omega) (show slots + _ ≤ em_m fin.2 - em_m hp0 by rw [hcc]; omega) fun cA kA comp g1 g2 g3 g4 => ?_
  have hc : cA = em_cL Γ := by
    obtain ⟨_, _, _, _, _, w4⟩ := (hG.2.1.2 3 _ rfl).2
    exact Option.some.inj (g1.symm.trans w4)
  have es : H.size = em_z Γ + em_n hp := hW.1
  rw [hcc]
  have k0 := kk p e s m args below meth c hx hb hr hlk hml hown hnm hG hs (H.push { cls := cA, slots := Array.replicate N .null, vm := .none }) locs (cells + 1) (slots + N) ls (em_W_push hW q1 q3 q4 q5 q6 (by rw [Array.size_push]) (fun q hq => by rw [Array.getElem?_push, if_neg (Nat.ne_of_lt hq)]) (by
    rw [em_cl_12 k1, ← es, Array.getElem?_push_size, arrV_new, hl0, hc]
    congr 2
    funext j
    rw [k2 j]
    rfl)) hlo (by omega) (by omega) hl
  rw [es]
  exact k0
theorem em_new {c1 : Nat} {r : vw_C} (hok : em_ok μ) (h : em_at1 75 μ pc = some (a, nx)) (hr0 : vwCl[c1]? = some r) (hc9 : c1 < 9) (hgr : em_gr hp hp' r.2.2) (k1 : em_k (em_n hp) = c1) (kI : ∀ j, em_I hp' (em_n hp) j = 0) (kR : ∀ j, em_R hp' (em_n hp) j = none) (hcl0 : Cond.classLink (em_own μ) a r.1 ∈ lw_tbl) (hins : Cond.instantiable r.1 r.2.2 ∈ lw_tbl) (hini : Cond.initialized r.1 ∈ lw_tbl) (f1 : em_n hp' ≤ em_n fin.2) (f2 : em_m hp' ≤ em_m fin.2) (kk : em_EW Γ K μ hp0 fin nx lc (.ref (em_n hp) :: t) hp') : em_EW Γ K μ hp0 fin pc lc t hp := by
  obtain ⟨b, hi⟩ := em_at1_i h
  obtain ⟨ii, len, hd, hdec, hnx⟩ := hok.dec hi
  subst hnx
  cases hd
  obtain ⟨q1, q2, q3, q4, q5, q6⟩ := hgr
  intro p e s m args below meth c hx hb hr hlk hml hown hnm hG hs H locs cells slots ls hW hlo hcl hsl hl
  have hKn := hG.2.1.1 c1 r hr0
  refine W.newcK hx hb hown (hG.1 _ hcl0 rfl args) (hG.1 _ hins rfl args) (hG.1 _ hini rfl args) rfl hdec (show cells + 1 ≤ em_n fin.2 - em_n hp0 by omega) (show slots + r.2.2 ≤ em_m fin.2 - em_m hp0 by omega) hKn.2.1 (h := em_z Γ + em_n hp) hW.1 fun H1 kC hkC e1 z1 o1 => ?_
  refine kk p e s m args below meth c hx hb hr hlk hml hown hnm hG hs H1 locs (cells + 1) (slots + r.2.2) ls (em_W_push hW q1 q3 q4 q5 q6 (by rw [z1, hW.1]) (fun q hq => o1 q (by rw [← hW.1]; exact hq)) ?_) hlo (by omega) (by omega) hl
  rw [em_cl_c k1 hc9, em_nf_ok hr0]
  refine (u_born (ws := u_ws r.1 r.2.1 r.2.2) (args := args) (em_ty c1) (fun w hw => ?_) (fun w hw => hw) hKn hkC e1 (em_tyo hr0)).to (fun j hj => ?_)
  · obtain ⟨j, hj, rfl⟩ := List.mem_map.mp hw
    exact em_layAt hG hr0 (List.mem_range.mp hj)
  · unfold em_fv
    rw [kI j, kR j]
    have hcase : em_ty c1 j = .int ∨ (∃ n, em_ty c1 j = .object n) ∨ ∃ n, em_ty c1 j = .array n := em_tys3 hr0 j hj
    rcases hcase with e | ⟨n, e⟩ | ⟨n, e⟩ <;> rw [e] <;> rfl
/-- Object's constructor -/
theorem em_obj {k : Nat} (hok : em_ok μ) (h : em_at1 82 μ pc = some (a, nx)) (hlk0 : Cond.methodLink (em_own μ) a objectInit ∈ lw_tbl) (hK : 1 ≤ K) (hcat : em_cats t ≤ 8) (kk : em_EW Γ K μ hp0 fin nx lc t hp) : em_EW Γ K μ hp0 fin pc lc (.ref k :: t) hp := by
  obtain ⟨b, hi⟩ := em_at1_i h
  obtain ⟨ii, len, hd, hdec, hnx⟩ := hok.dec hi
  subst hnx
  cases hd
  intro p e s m args below meth c hx hb hr hlk hml hown hnm hG hs H locs cells slots ls hW hlo hcl hsl hl
  have hroom : 2 * (F0 m pc ls ((Value.ref k :: t).map (em_v Γ))).monitorRoom + ((t.map (em_v Γ)).map fun v => v.category).sum ≤ 8 := lv_room (by rw [em_sums]; exact hcat)
  refine W.objInit hx hb hown (hG.1 _ hlk0 rfl args) (hG.1 _ em_obj1 rfl args) (hG.1 _ em_obj2 rfl args) rfl (by rw [hml]; exact hl.1) rfl hdec (show 1 ≤ K from hK) (Nat.le_trans (Nat.add_le_add_right hroom 12) (show 8 + 12 ≤ 40 * K by omega)) ?_
  exact kk p e s m args below meth c hx hb hr hlk hml hown hnm hG hs H locs cells slots ls hW hlo hcl hsl hl
theorem em_tsIn {dflt lo hi off : Int} {offs : Array Int} {len tgt : Nat} {x : Int32} (hdec : decode (em_c μ) pc = .ok (.tableswitch dflt lo hi offs, len)) (h1 : ¬ x.toInt < lo) (h2 : ¬ hi < x.toInt) (ho : offs[(x.toInt - lo).toNat]? = some off) (ht : (pc : Int) + off = (tgt : Int)) (kk : em_EW Γ K μ hp0 fin tgt lc t hp) : em_EW Γ K μ hp0 fin pc lc (.int x :: t) hp := by
  intro p e s m args below meth c hx hb hr hlk hml hown hnm hG hs H locs cells slots ls hW hlo hcl hsl hl
  exact lv_tableIn hx hb hdec h1 h2 ho ht (kk p e s m args below meth c hx hb hr hlk hml hown hnm hG hs H locs cells slots ls hW hlo hcl hsl hl)
theorem em_tsOut {dflt lo hi : Int} {offs : Array Int} {len tgt : Nat} {x : Int32} (hdec : decode (em_c μ) pc = .ok (.tableswitch dflt lo hi offs, len)) (h1 : x.toInt < lo ∨ hi < x.toInt) (ht : (pc : Int) + dflt = (tgt : Int)) (kk : em_EW Γ K μ hp0 fin tgt lc t hp) : em_EW Γ K μ hp0 fin pc lc (.int x :: t) hp := by
  intro p e s m args below meth c hx hb hr hlk hml hown hnm hG hs H locs cells slots ls hW hlo hcl hsl hl
  exact lv_tableOut hx hb hdec h1 ht (kk p e s m args below meth c hx hb hr hlk hml hown hnm hG hs H locs cells slots ls hW hlo hcl hsl hl)
/-- the script's numbers, and how many -/
theorem em_sld {i : Int32} (hok : em_ok μ) (h : em_at1 62 μ pc = some (a, nx)) (hin : vp_in i (em_L Γ)) (kk : em_EW Γ K μ hp0 fin nx lc (.int (em_s Γ i.toNatClampNeg) :: t) hp) : em_EW Γ K μ hp0 fin pc lc (.int i :: .float 0 :: t) hp := by
  obtain ⟨b, hi⟩ := em_at1_i h
  obtain ⟨ii, len, hd, hdec, hnx⟩ := hok.dec hi
  subst hnx
  cases hd
  intro p e s m args below meth c hx hb hr hlk hml hown hnm hG hs H locs cells slots ls hW hlo hcl hsl hl
  obtain ⟨-, g0, g1, ⟨scr, w1, w2, w3, w4, w5⟩, -⟩ := hG.2.2
  exact W.iald (v := .int (em_s Γ i.toNatClampNeg)) hx hb (a := em_x Γ 0) (by rw [hW.2.1 _ g1]; exact w1) w2 w3 (by rw [w4]; exact hin) (w5 _ (Nat.not_le.mp fun q => hin (Or.inr q))) rfl rfl hdec (kk p e s m args below meth c hx hb hr hlk hml hown hnm hG hs H locs cells slots ls hW hlo hcl hsl hl)
theorem em_slen (hok : em_ok μ) (h : em_at1 34 μ pc = some (a, nx)) (kk : em_EW Γ K μ hp0 fin nx lc (.int (nI (em_L Γ)) :: t) hp) : em_EW Γ K μ hp0 fin pc lc (.float 0 :: t) hp := by
  obtain ⟨b, hi⟩ := em_at1_i h
  obtain ⟨ii, len, hd, hdec, hnx⟩ := hok.dec hi
  subst hnx
  cases hd
  intro p e s m args below meth c hx hb hr hlk hml hown hnm hG hs H locs cells slots ls hW hlo hcl hsl hl
  obtain ⟨-, g0, g1, ⟨scr, w1, w2, w3, w4, w5⟩, -⟩ := hG.2.2
  exact W.alen (n := nI (em_L Γ)) hx hb (a := em_x Γ 0) (by rw [hW.2.1 _ g1]; exact w1) w2 (by rw [w4]; rfl) rfl rfl hdec (kk p e s m args below meth c hx hb hr hlk hml hown hnm hG hs H locs cells slots ls hW hlo hcl hsl hl)
/-- a word -/
theorem em_word {i : Nat} (hok : em_ok μ) (h : em_at1 35 μ pc = some (a, nx)) (hi6 : i < 6) (ho : (em_own μ = "BeastRoad$Tape" ∧ a = em_ti i) ∨ (em_own μ = "BeastRoadModel" ∧ a = em_tm i)) {u : UInt32} (hu : u.toNat = 1 + i) (kk : em_EW Γ K μ hp0 fin nx lc (.float u :: st) hp) : em_EW Γ K μ hp0 fin pc lc st hp := by
  obtain ⟨b, hi⟩ := em_at1_i h
  obtain ⟨ii, len, hd, hdec, hnx⟩ := hok.dec hi
  subst hnx
  cases hd
  intro p e s m args below meth c hx hb hr hlk hml hown hnm hG hs H locs cells slots ls hW hlo hcl hsl hl
  obtain ⟨-, -, -, -, -, -, -, g7⟩ := hG.2.2
  have k0 := kk p e s m args below meth c hx hb hr hlk hml hown hnm hG hs H locs cells slots ls hW hlo hcl hsl hl
  have e0 : em_v Γ (.float u) = .ref (em_x Γ (1 + i)) := by show Value.ref (em_x Γ u.toNat) = _; rw [hu]
  rw [List.map_cons, e0] at k0
  rcases ho with ⟨o1, rfl⟩ | ⟨o1, rfl⟩
  · rw [o1] at hown
    exact va_ldcS hx hb hown (g7 i hi6).1 hdec k0
  · rw [o1] at hown
    exact va_ldcS hx hb hown (g7 i hi6).2 hdec k0
/-- a reference into the row of laws -/
theorem em_aast {x k c1 : Nat} {i : Int32} {r : vw_C} (hok : em_ok μ) (h : em_at1 69 μ pc = some (a, nx)) (hk : em_k k = 12) (hn : k < em_n hp) (hin : vp_in i (em_ln hp k)) (hr0 : vwCl[c1]? = some r) (hr1 : r.1 = "BeastRoad$Law") (hx0 : em_k x = c1) (hc9 : c1 < 9) (hxn : x < em_n hp) (kk : em_EW Γ K μ hp0 fin nx lc t (em_sR hp k (va_up (em_R hp k) i.toNatClampNeg (some x)))) : em_EW Γ K μ hp0 fin pc lc (.ref x :: .int i :: .ref k :: t) hp := by
  obtain ⟨b, hi⟩ := em_at1_i h
  obtain ⟨ii, len, hd, hdec, hnx⟩ := hok.dec hi
  subst hnx
  cases hd
  intro p e s m args below meth c hx hb hr hlk hml hown hnm hG hs H locs cells slots ls hW hlo hcl hsl hl
  have hlt : i.toNatClampNeg < em_ln hp k := Nat.not_le.mp fun q => hin (Or.inr q)
  have h0 : ¬ i < 0 := fun q => hin (Or.inl q)
  obtain ⟨cellV, g1, g2, g3, -⟩ := (em_cl_c hx0 hc9).mp (hW.2.2 x hxn)
  have hcls := (hG.2.1.1 c1 r hr0).2
  obtain ⟨kA, comp, k1, k2, k3, -⟩ := (hG.2.1.2 3 _ rfl).2
  rw [hr1] at hcls
  have hcomp : comp = (em_D Γ).1 c1 := Option.some.inj (k3.symm.trans hcls.1)
  subst hcomp
  obtain ⟨kC, hkC, -⟩ := id hcls.2
  refine W.aast hx hb ((em_cl_12 hk).mp (hW.2.2 k hn)) (fun q h => by cases h) (fun h => by cases h) k1 k2 rfl hkC ⟨h0, by rw [arrV_size]; exact hlt⟩ g1 (fun q h => by rw [g3] at h; cases h) (by rw [g2]; exact hkC) (by rw [g2]; exact va_assign hcls) rfl rfl hdec fun H1 e1 z1 oq => ?_
  refine kk p e s m args below meth c hx hb hr hlk hml hown hnm hG hs H1 _ cells slots ls (em_W_set (k := k) hW rfl (fun _ _ => rfl) (fun _ _ => rfl) (fun _ _ => rfl) em_ne z1 oq ((em_cl_12 hk).mpr ?_)) (em_lo hlo k _) hcl hsl hl
  rw [e1, arrV_store]
  show some (arrV _ _ _) = some (arrV _ _ (fun j => em_v Γ (em_rf (va_up (em_R hp) k _ k j))))
  rw [va_up_self]
  congr 2
  funext j
  by_cases hj : j = i.toNatClampNeg
  · simp [updV, va_up, hj, em_rf, em_v]
  · simp [updV, va_up, hj]
end EmCells
end
section
/-! System.arraycopy between two arrays of ints, or of longs -/
theorem em_nat (z : Int32) (hz : ¬ z < 0) : z.toInt = (z.toNatClampNeg : Int) := by
  have hz0 : (0 : Int) ≤ z.toInt := by
    have := Int32.not_lt.mp hz
    simpa using Int32.le_iff_toInt_le.mp this
  show z.toInt = ((z.toInt.toNat : Nat) : Int)
  omega
theorem em_ac1 : Cond.native arraycopyName ∈ lw_tbl := by decide +kernel
theorem em_ac2 : Cond.static arraycopyName ∈ lw_tbl := by decide +kernel
theorem em_ac3 : Cond.initialized "java/lang/System" ∈ lw_tbl := by decide +kernel
section EmCopy
variable {Γ : em_Cx} {K : Nat} {μ : em_Me} {hp0 : em_Hp} {fin : Option Value × em_Hp} {pc a nx : Nat} {b : Int32} {lc : List (Nat × Value)} {st t : List Value} {hp hp' : em_Hp}
theorem em_locs {Γ : em_Cx} {locs : List Loc} {k : Nat} (h : ∀ q ∈ locs, em_A Γ q.base) (vs : List (Value × Nat)) (d : Nat) : ∀ q ∈ locs ++ vs.map (fun q => (⟨em_z Γ + k, d + q.2⟩ : Loc)), em_A Γ q.base := by
  intro q hq
  rcases List.mem_append.mp hq with h1 | h1
  · exact h q h1
  · obtain ⟨z, -, rfl⟩ := List.mem_map.mp h1
    exact Nat.le_add_right _ _
theorem em_copyI {k0 k1 : Nat} {sp dp n : Int32} (hok : em_ok μ) (h : em_at1 80 μ pc = some (a, nx)) (hl0 : Cond.methodLink (em_own μ) a arraycopyName ∈ lw_tbl) (hk0 : em_k k0 = 9) (hk1 : em_k k1 = 9) (hn0 : k0 < em_n hp) (hn1 : k1 < em_n hp) (h1 : ¬ sp < 0) (h2 : ¬ dp < 0) (h3 : ¬ n < 0) (h4 : sp.toNatClampNeg + n.toNatClampNeg ≤ em_ln hp k0) (h5 : dp.toNatClampNeg + n.toNatClampNeg ≤ em_ln hp k1) (hK : 2 ≤ K) (hcat : em_cats t ≤ 8)
    (kk : em_EW Γ K μ hp0 fin nx lc t (em_sI hp k1 (va_cpy (em_I hp k0) (em_I hp k1) sp.toNatClampNeg dp.toNatClampNeg n.toNatClampNeg))) : em_EW Γ K μ hp0 fin pc lc (.int n :: .int dp :: .ref k1 :: .int sp :: .ref k0 :: t) hp := by
  obtain ⟨b, hi⟩ := em_at1_i h
  obtain ⟨ii, len, hd, hdec, hnx⟩ := hok.dec hi
  subst hnx
  cases hd
  intro p e s m args below meth c hx hb hr hlk hml hown hnm hG hs H locs cells slots ls hW hlo hcl hsl hl
  have hc0 := (em_cl_9 hk0).mp (hW.2.2 k0 hn0)
  have hc1 := (em_cl_9 hk1).mp (hW.2.2 k1 hn1)
  obtain ⟨-, kI, hkI, cmp, hkk⟩ := em_arrI hG (em_ln hp k0) (fun j => .int (em_I hp k0 j))
  intro T hT X
  obtain ⟨vm', X', step⟩ := X.arraycopy hx hown (hG.1 _ hl0 rfl args) (hG.1 _ em_ac1 rfl args) (hG.1 _ em_ac2 rfl args) (hG.1 _ em_ac3 rfl args) (cs := arrV (em_cI Γ) (em_ln hp k0) (fun j => .int (em_I hp k0 j))) (cd := arrV (em_cI Γ) (em_ln hp k1) (fun j => .int (em_I hp k1 j))) (srcPos := sp) (destPos := dp) (n := n) (by rw [hT]; exact hc0) (by rw [hT]; exact hc1)
    (fun _ h => by cases h) (fun _ h => by cases h) (fun h => by cases h) (fun h => by cases h) hkI hkI hkk hkk (by rfl) h1 h2 h3
    (by rw [em_nat sp h1, em_nat n h3, arrV_size]; omega) (by rw [em_nat dp h2, em_nat n h3, arrV_size]; omega)
    (fun vm₁ _ i hi => by
      have e : (arrV (em_cI Γ) (em_ln hp k0) (fun j => .int (em_I hp k0 j))).slots.getD (sp.toNatClampNeg + i) .null = .int (em_I hp k0 (sp.toNatClampNeg + i)) := by
        rw [Array.getD_eq_getD_getElem?, arrV_read _ _ (by omega)]
        rfl
      exact ⟨by rw [e]; rfl, by rw [e]; exact trivial⟩)
    (g := F0 m pc ls ((Value.int n :: .int dp :: .ref k1 :: .int sp :: .ref k0 :: t).map (em_v Γ))) rfl (by rw [hml]; exact hl.1) (rest := t.map (em_v Γ)) rfl (by rw [hb]; exact hdec) (show 1 ≤ K by omega)
    (by
      have h8 : 2 * (F0 m pc ls ((Value.int n :: .int dp :: .ref k1 :: .int sp :: .ref k0 :: t).map (em_v Γ))).monitorRoom + ((t.map (em_v Γ)).map fun v => v.category).sum ≤ 8 := lv_room (by rw [em_sums]; exact hcat)
      have h9 : nativeFrameWords "java/lang/System" "arraycopy" 5 ≤ 40 := by decide +kernel
      show _ ≤ 40 * K
      omega)
  have e1 : copied (arrV (em_cI Γ) (em_ln hp k0) (fun j => .int (em_I hp k0 j))) (arrV (em_cI Γ) (em_ln hp k1) (fun j => .int (em_I hp k1 j))) sp dp n = arrV (em_cI Γ) (em_ln hp k1) (fun j => .int (va_cpy (em_I hp k0) (em_I hp k1) sp.toNatClampNeg dp.toNatClampNeg n.toNatClampNeg j)) := va_copied (fun z => .int z) _ _ _ _ h4
  rw [e1] at X' step
  have hlt : em_z Γ + k1 < H.size := (Array.getElem?_eq_some_iff.mp hc1).1
  generalize hNC : arrV (em_cI Γ) (em_ln hp k1) (fun j => .int (va_cpy (em_I hp k0) (em_I hp k1) sp.toNatClampNeg dp.toNatClampNeg n.toNatClampNeg j)) = NC at X' step
  have hheap : ((T.setVm vm').setCell (em_z Γ + k1) NC).heap = H.setIfInBounds (em_z Γ + k1) NC := by rw [← hT]; rfl
  obtain ⟨t2, a1, b1⟩ := kk p e s m args below meth c hx hb hr hlk hml hown hnm hG hs (H.setIfInBounds (em_z Γ + k1) NC) _ cells slots ls (em_W_set (k := k1) hW rfl (fun _ _ => rfl) em_ne (fun _ _ => rfl) (fun _ _ => rfl) (by simp) (fun q hq => by simp [Array.getElem?_setIfInBounds, Ne.symm hq]) ((em_cl_9 hk1).mpr (by
      have e3 : (H.setIfInBounds (em_z Γ + k1) NC)[em_z Γ + k1]? = some NC := by simp [Array.getElem?_setIfInBounds, hlt]
      rw [e3, ← hNC]
      show some (arrV _ _ _) = some (arrV _ _ (fun j => Value.int (va_up (em_I hp) k1 _ k1 j)))
      rw [va_up_self]
      rfl))) (em_locs hlo _ _) hcl hsl hl _ hheap X'
  exact ⟨t2, step t2 a1, b1⟩
theorem em_copyJ {k0 k1 : Nat} {sp dp n : Int32} (hok : em_ok μ) (h : em_at1 80 μ pc = some (a, nx)) (hl0 : Cond.methodLink (em_own μ) a arraycopyName ∈ lw_tbl) (hk0 : em_k k0 = 10) (hk1 : em_k k1 = 10) (hn0 : k0 < em_n hp) (hn1 : k1 < em_n hp) (h1 : ¬ sp < 0) (h2 : ¬ dp < 0) (h3 : ¬ n < 0) (h4 : sp.toNatClampNeg + n.toNatClampNeg ≤ em_ln hp k0) (h5 : dp.toNatClampNeg + n.toNatClampNeg ≤ em_ln hp k1) (hK : 2 ≤ K) (hcat : em_cats t ≤ 8)
    (kk : em_EW Γ K μ hp0 fin nx lc t (em_sJ hp k1 (va_cpy (em_J hp k0) (em_J hp k1) sp.toNatClampNeg dp.toNatClampNeg n.toNatClampNeg))) : em_EW Γ K μ hp0 fin pc lc (.int n :: .int dp :: .ref k1 :: .int sp :: .ref k0 :: t) hp := by
  obtain ⟨b, hi⟩ := em_at1_i h
  obtain ⟨ii, len, hd, hdec, hnx⟩ := hok.dec hi
  subst hnx
  cases hd
  intro p e s m args below meth c hx hb hr hlk hml hown hnm hG hs H locs cells slots ls hW hlo hcl hsl hl
  have hc0 := (em_cl_10 hk0).mp (hW.2.2 k0 hn0)
  have hc1 := (em_cl_10 hk1).mp (hW.2.2 k1 hn1)
  obtain ⟨-, kI, hkI, cmp, hkk⟩ := em_arrJ hG (em_ln hp k0) (fun j => .long (em_J hp k0 j))
  intro T hT X
  obtain ⟨vm', X', step⟩ := X.arraycopy hx hown (hG.1 _ hl0 rfl args) (hG.1 _ em_ac1 rfl args) (hG.1 _ em_ac2 rfl args) (hG.1 _ em_ac3 rfl args) (cs := arrV (em_cJ Γ) (em_ln hp k0) (fun j => .long (em_J hp k0 j))) (cd := arrV (em_cJ Γ) (em_ln hp k1) (fun j => .long (em_J hp k1 j))) (srcPos := sp) (destPos := dp) (n := n) (by rw [hT]; exact hc0) (by rw [hT]; exact hc1)
    (fun _ h => by cases h) (fun _ h => by cases h) (fun h => by cases h) (fun h => by cases h) hkI hkI hkk hkk (by rfl) h1 h2 h3
    (by rw [em_nat sp h1, em_nat n h3, arrV_size]; omega) (by rw [em_nat dp h2, em_nat n h3, arrV_size]; omega)
    (fun vm₁ _ i hi => by
      have e : (arrV (em_cJ Γ) (em_ln hp k0) (fun j => .long (em_J hp k0 j))).slots.getD (sp.toNatClampNeg + i) .null = .long (em_J hp k0 (sp.toNatClampNeg + i)) := by
        rw [Array.getD_eq_getD_getElem?, arrV_read _ _ (by omega)]
        rfl
      exact ⟨by rw [e]; rfl, by rw [e]; exact trivial⟩)
    (g := F0 m pc ls ((Value.int n :: .int dp :: .ref k1 :: .int sp :: .ref k0 :: t).map (em_v Γ))) rfl (by rw [hml]; exact hl.1) (rest := t.map (em_v Γ)) rfl (by rw [hb]; exact hdec) (show 1 ≤ K by omega)
    (by
      have h8 : 2 * (F0 m pc ls ((Value.int n :: .int dp :: .ref k1 :: .int sp :: .ref k0 :: t).map (em_v Γ))).monitorRoom + ((t.map (em_v Γ)).map fun v => v.category).sum ≤ 8 := lv_room (by rw [em_sums]; exact hcat)
      have h9 : nativeFrameWords "java/lang/System" "arraycopy" 5 ≤ 40 := by decide +kernel
      show _ ≤ 40 * K
      omega)
  have e1 : copied (arrV (em_cJ Γ) (em_ln hp k0) (fun j => .long (em_J hp k0 j))) (arrV (em_cJ Γ) (em_ln hp k1) (fun j => .long (em_J hp k1 j))) sp dp n = arrV (em_cJ Γ) (em_ln hp k1) (fun j => .long (va_cpy (em_J hp k0) (em_J hp k1) sp.toNatClampNeg dp.toNatClampNeg n.toNatClampNeg j)) := va_copied (fun z => .long z) _ _ _ _ h4
  rw [e1] at X' step
  have hlt : em_z Γ + k1 < H.size := (Array.getElem?_eq_some_iff.mp hc1).1
  generalize hNC : arrV (em_cJ Γ) (em_ln hp k1) (fun j => .long (va_cpy (em_J hp k0) (em_J hp k1) sp.toNatClampNeg dp.toNatClampNeg n.toNatClampNeg j)) = NC at X' step
  have hheap : ((T.setVm vm').setCell (em_z Γ + k1) NC).heap = H.setIfInBounds (em_z Γ + k1) NC := by rw [← hT]; rfl
  obtain ⟨t2, a1, b1⟩ := kk p e s m args below meth c hx hb hr hlk hml hown hnm hG hs (H.setIfInBounds (em_z Γ + k1) NC) _ cells slots ls (em_W_set (k := k1) hW rfl (fun _ _ => rfl) (fun _ _ => rfl) em_ne (fun _ _ => rfl) (by simp) (fun q hq => by simp [Array.getElem?_setIfInBounds, Ne.symm hq]) ((em_cl_10 hk1).mpr (by
      have e3 : (H.setIfInBounds (em_z Γ + k1) NC)[em_z Γ + k1]? = some NC := by simp [Array.getElem?_setIfInBounds, hlt]
      rw [e3, ← hNC]
      show some (arrV _ _ _) = some (arrV _ _ (fun j => Value.long (va_up (em_J hp) k1 _ k1 j)))
      rw [va_up_self]
      rfl))) (em_locs hlo _ _) hcl hsl hl _ hheap X'
  exact ⟨t2, step t2 a1, b1⟩
end EmCopy
end
