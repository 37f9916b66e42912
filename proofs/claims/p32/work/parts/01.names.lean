-- ===== PART A: goes FIRST, ahead of the names: the tables' words, and 'selects' of the private methods out of them =====
/-- a private method of a class that the tables say can be made, by its rows of tables_1 -/
def lw_okq (q : MethodName × Nat) : Prop := (q.1.cls ≠ "java/lang/invoke/MethodHandle" ∧ q.1.cls ≠ "java/lang/invoke/VarHandle") ∧ Cond.instantiable q.1.cls q.2 ∈ tables_1 ∧ Cond.privateMethod q.1 ∈ tables_1 ∧ Cond.instanceMethod q.1 ∈ tables_1
theorem lw_p0 : lw_okq (⟨"HarbourTugs", "isShip", "(I)Z"⟩, 6) := ⟨⟨by decide +kernel, by decide +kernel⟩, List.mem_of_getElem? (i := 14) (by decide +kernel), List.mem_of_getElem? (i := 359) (by decide +kernel), List.mem_of_getElem? (i := 360) (by decide +kernel)⟩
theorem lw_p1 : lw_okq (⟨"HarbourTugs", "isTug", "(I)Z"⟩, 6) := ⟨⟨by decide +kernel, by decide +kernel⟩, List.mem_of_getElem? (i := 14) (by decide +kernel), List.mem_of_getElem? (i := 372) (by decide +kernel), List.mem_of_getElem? (i := 373) (by decide +kernel)⟩
theorem lw_p2 : lw_okq (⟨"HarbourTugs$Tug", "fuelAfter", "(IIJ)I"⟩, 10) := ⟨⟨by decide +kernel, by decide +kernel⟩, List.mem_of_getElem? (i := 47) (by decide +kernel), List.mem_of_getElem? (i := 388) (by decide +kernel), List.mem_of_getElem? (i := 389) (by decide +kernel)⟩
theorem lw_p3 : lw_okq (⟨"HarbourTugs", "isSet", "(I)Z"⟩, 6) := ⟨⟨by decide +kernel, by decide +kernel⟩, List.mem_of_getElem? (i := 14) (by decide +kernel), List.mem_of_getElem? (i := 400) (by decide +kernel), List.mem_of_getElem? (i := 401) (by decide +kernel)⟩
theorem lw_p4 : lw_okq (⟨"HarbourTugs$Harbour", "holds", "(ILHarbourTugs$Ship;II)Z"⟩, 16) := ⟨⟨by decide +kernel, by decide +kernel⟩, List.mem_of_getElem? (i := 38) (by decide +kernel), List.mem_of_getElem? (i := 409) (by decide +kernel), List.mem_of_getElem? (i := 410) (by decide +kernel)⟩
theorem lw_p5 : lw_okq (⟨"HarbourTugs$Harbour", "lowHours", "(LHarbourTugs$Ship;)J"⟩, 16) := ⟨⟨by decide +kernel, by decide +kernel⟩, List.mem_of_getElem? (i := 38) (by decide +kernel), List.mem_of_getElem? (i := 417) (by decide +kernel), List.mem_of_getElem? (i := 418) (by decide +kernel)⟩
theorem lw_p6 : lw_okq (⟨"HarbourTugs$Harbour", "canPullAstern", "(I)Z"⟩, 16) := ⟨⟨by decide +kernel, by decide +kernel⟩, List.mem_of_getElem? (i := 38) (by decide +kernel), List.mem_of_getElem? (i := 443) (by decide +kernel), List.mem_of_getElem? (i := 444) (by decide +kernel)⟩
theorem lw_p7 : lw_okq (⟨"HarbourTugs$Harbour", "basinHours", "(LHarbourTugs$Ship;)J"⟩, 16) := ⟨⟨by decide +kernel, by decide +kernel⟩, List.mem_of_getElem? (i := 38) (by decide +kernel), List.mem_of_getElem? (i := 447) (by decide +kernel), List.mem_of_getElem? (i := 448) (by decide +kernel)⟩
theorem lw_p8 : lw_okq (⟨"HarbourTugs$Berths", "basinsOf", "(LHarbourTugs$Ship;)I"⟩, 2) := ⟨⟨by decide +kernel, by decide +kernel⟩, List.mem_of_getElem? (i := 22) (by decide +kernel), List.mem_of_getElem? (i := 455) (by decide +kernel), List.mem_of_getElem? (i := 456) (by decide +kernel)⟩
theorem lw_p9 : lw_okq (⟨"HarbourTugs$Harbour", "isGuarded", "(LHarbourTugs$Ship;II)Z"⟩, 16) := ⟨⟨by decide +kernel, by decide +kernel⟩, List.mem_of_getElem? (i := 38) (by decide +kernel), List.mem_of_getElem? (i := 465) (by decide +kernel), List.mem_of_getElem? (i := 466) (by decide +kernel)⟩
theorem lw_p10 : lw_okq (⟨"HarbourTugs$Harbour", "hasIdle", "(II)Z"⟩, 16) := ⟨⟨by decide +kernel, by decide +kernel⟩, List.mem_of_getElem? (i := 38) (by decide +kernel), List.mem_of_getElem? (i := 469) (by decide +kernel), List.mem_of_getElem? (i := 470) (by decide +kernel)⟩
theorem lw_p11 : lw_okq (⟨"HarbourTugs$Harbour", "holdsForEach", "(ILHarbourTugs$Ship;II)Z"⟩, 16) := ⟨⟨by decide +kernel, by decide +kernel⟩, List.mem_of_getElem? (i := 38) (by decide +kernel), List.mem_of_getElem? (i := 474) (by decide +kernel), List.mem_of_getElem? (i := 475) (by decide +kernel)⟩
theorem lw_p12 : lw_okq (⟨"HarbourTugs$Harbour", "holdsFor", "(IILHarbourTugs$Ship;I)Z"⟩, 16) := ⟨⟨by decide +kernel, by decide +kernel⟩, List.mem_of_getElem? (i := 38) (by decide +kernel), List.mem_of_getElem? (i := 478) (by decide +kernel), List.mem_of_getElem? (i := 479) (by decide +kernel)⟩
theorem lw_p13 : lw_okq (⟨"HarbourTugs$Harbour", "canBeThere", "(ILHarbourTugs$Ship;I)Z"⟩, 16) := ⟨⟨by decide +kernel, by decide +kernel⟩, List.mem_of_getElem? (i := 38) (by decide +kernel), List.mem_of_getElem? (i := 498) (by decide +kernel), List.mem_of_getElem? (i := 499) (by decide +kernel)⟩
theorem lw_p14 : lw_okq (⟨"HarbourTugs$Harbour", "jobBefore", "(II)LHarbourTugs$Ship;"⟩, 16) := ⟨⟨by decide +kernel, by decide +kernel⟩, List.mem_of_getElem? (i := 38) (by decide +kernel), List.mem_of_getElem? (i := 502) (by decide +kernel), List.mem_of_getElem? (i := 503) (by decide +kernel)⟩
theorem lw_p15 : lw_okq (⟨"HarbourTugs$Harbour", "jobBehind", "(II)LHarbourTugs$Ship;"⟩, 16) := ⟨⟨by decide +kernel, by decide +kernel⟩, List.mem_of_getElem? (i := 38) (by decide +kernel), List.mem_of_getElem? (i := 515) (by decide +kernel), List.mem_of_getElem? (i := 516) (by decide +kernel)⟩
def lw_privs_1 : List (MethodName × Nat) := [(⟨"HarbourTugs", "isShip", "(I)Z"⟩, 6), (⟨"HarbourTugs", "isTug", "(I)Z"⟩, 6), (⟨"HarbourTugs$Tug", "fuelAfter", "(IIJ)I"⟩, 10), (⟨"HarbourTugs", "isSet", "(I)Z"⟩, 6), (⟨"HarbourTugs$Harbour", "holds", "(ILHarbourTugs$Ship;II)Z"⟩, 16), (⟨"HarbourTugs$Harbour", "lowHours", "(LHarbourTugs$Ship;)J"⟩, 16), (⟨"HarbourTugs$Harbour", "canPullAstern", "(I)Z"⟩, 16), (⟨"HarbourTugs$Harbour", "basinHours", "(LHarbourTugs$Ship;)J"⟩, 16), (⟨"HarbourTugs$Berths", "basinsOf", "(LHarbourTugs$Ship;)I"⟩, 2), (⟨"HarbourTugs$Harbour", "isGuarded", "(LHarbourTugs$Ship;II)Z"⟩, 16), (⟨"HarbourTugs$Harbour", "hasIdle", "(II)Z"⟩, 16), (⟨"HarbourTugs$Harbour", "holdsForEach", "(ILHarbourTugs$Ship;II)Z"⟩, 16), (⟨"HarbourTugs$Harbour", "holdsFor", "(IILHarbourTugs$Ship;I)Z"⟩, 16), (⟨"HarbourTugs$Harbour", "canBeThere", "(ILHarbourTugs$Ship;I)Z"⟩, 16), (⟨"HarbourTugs$Harbour", "jobBefore", "(II)LHarbourTugs$Ship;"⟩, 16), (⟨"HarbourTugs$Harbour", "jobBehind", "(II)LHarbourTugs$Ship;"⟩, 16)]
theorem lw_r1 : ∀ q ∈ lw_privs_1, lw_okq q := List.forall_mem_cons.mpr ⟨lw_p0, List.forall_mem_cons.mpr ⟨lw_p1, List.forall_mem_cons.mpr ⟨lw_p2, List.forall_mem_cons.mpr ⟨lw_p3, List.forall_mem_cons.mpr ⟨lw_p4, List.forall_mem_cons.mpr ⟨lw_p5, List.forall_mem_cons.mpr ⟨lw_p6, List.forall_mem_cons.mpr ⟨lw_p7, List.forall_mem_cons.mpr ⟨lw_p8, List.forall_mem_cons.mpr ⟨lw_p9, List.forall_mem_cons.mpr ⟨lw_p10, List.forall_mem_cons.mpr ⟨lw_p11, List.forall_mem_cons.mpr ⟨lw_p12, List.forall_mem_cons.mpr ⟨lw_p13, List.forall_mem_cons.mpr ⟨lw_p14, List.forall_mem_cons.mpr ⟨lw_p15, fun _ h => absurd h List.not_mem_nil⟩⟩⟩⟩⟩⟩⟩⟩⟩⟩⟩⟩⟩⟩⟩⟩
theorem lw_p16 : lw_okq (⟨"HarbourTugs$Harbour", "release", "(LHarbourTugs$Ship;II)I"⟩, 16) := ⟨⟨by decide +kernel, by decide +kernel⟩, List.mem_of_getElem? (i := 38) (by decide +kernel), List.mem_of_getElem? (i := 535) (by decide +kernel), List.mem_of_getElem? (i := 536) (by decide +kernel)⟩
theorem lw_p17 : lw_okq (⟨"HarbourTugs$Harbour", "tugsFor", "(LHarbourTugs$Ship;I)I"⟩, 16) := ⟨⟨by decide +kernel, by decide +kernel⟩, List.mem_of_getElem? (i := 38) (by decide +kernel), List.mem_of_getElem? (i := 551) (by decide +kernel), List.mem_of_getElem? (i := 552) (by decide +kernel)⟩
theorem lw_p18 : lw_okq (⟨"HarbourTugs$Harbour", "leastSet", "(LHarbourTugs$Ship;II)I"⟩, 16) := ⟨⟨by decide +kernel, by decide +kernel⟩, List.mem_of_getElem? (i := 38) (by decide +kernel), List.mem_of_getElem? (i := 555) (by decide +kernel), List.mem_of_getElem? (i := 556) (by decide +kernel)⟩
theorem lw_p19 : lw_okq (⟨"HarbourTugs$Harbour", "isLess", "(II)Z"⟩, 16) := ⟨⟨by decide +kernel, by decide +kernel⟩, List.mem_of_getElem? (i := 38) (by decide +kernel), List.mem_of_getElem? (i := 559) (by decide +kernel), List.mem_of_getElem? (i := 560) (by decide +kernel)⟩
theorem lw_p20 : lw_okq (⟨"HarbourTugs", "isPlanned", "(I)Z"⟩, 6) := ⟨⟨by decide +kernel, by decide +kernel⟩, List.mem_of_getElem? (i := 14) (by decide +kernel), List.mem_of_getElem? (i := 577) (by decide +kernel), List.mem_of_getElem? (i := 578) (by decide +kernel)⟩
theorem lw_p21 : lw_okq (⟨"HarbourTugs$Planner", "nextOrder", "(I)Z"⟩, 7) := ⟨⟨by decide +kernel, by decide +kernel⟩, List.mem_of_getElem? (i := 215) (by decide +kernel), List.mem_of_getElem? (i := 623) (by decide +kernel), List.mem_of_getElem? (i := 624) (by decide +kernel)⟩
theorem lw_p22 : lw_okq (⟨"HarbourTugs$Planner", "exchange", "(II)V"⟩, 7) := ⟨⟨by decide +kernel, by decide +kernel⟩, List.mem_of_getElem? (i := 215) (by decide +kernel), List.mem_of_getElem? (i := 627) (by decide +kernel), List.mem_of_getElem? (i := 628) (by decide +kernel)⟩
theorem lw_p23 : lw_okq (⟨"HarbourTugs$Planner", "isBetter", "(III)Z"⟩, 7) := ⟨⟨by decide +kernel, by decide +kernel⟩, List.mem_of_getElem? (i := 215) (by decide +kernel), List.mem_of_getElem? (i := 654) (by decide +kernel), List.mem_of_getElem? (i := 655) (by decide +kernel)⟩
theorem lw_p24 : lw_okq (⟨"HarbourTugs$Harbour", "goesOn", "(LHarbourTugs$Ship;II)Z"⟩, 16) := ⟨⟨by decide +kernel, by decide +kernel⟩, List.mem_of_getElem? (i := 38) (by decide +kernel), List.mem_of_getElem? (i := 673) (by decide +kernel), List.mem_of_getElem? (i := 674) (by decide +kernel)⟩
theorem lw_p25 : lw_okq (⟨"HarbourTugs$Harbour", "takeOff", "(LHarbourTugs$Ship;I)I"⟩, 16) := ⟨⟨by decide +kernel, by decide +kernel⟩, List.mem_of_getElem? (i := 38) (by decide +kernel), List.mem_of_getElem? (i := 677) (by decide +kernel), List.mem_of_getElem? (i := 678) (by decide +kernel)⟩
theorem lw_p26 : lw_okq (⟨"HarbourTugsModel", "hasJob", "(I)Z"⟩, 18) := ⟨⟨by decide +kernel, by decide +kernel⟩, List.mem_of_getElem? (i := 768) (by decide +kernel), List.mem_of_getElem? (i := 864) (by decide +kernel), List.mem_of_getElem? (i := 865) (by decide +kernel)⟩
theorem lw_p27 : lw_okq (⟨"HarbourTugsModel", "ofShip", "(II)I"⟩, 18) := ⟨⟨by decide +kernel, by decide +kernel⟩, List.mem_of_getElem? (i := 768) (by decide +kernel), List.mem_of_getElem? (i := 868) (by decide +kernel), List.mem_of_getElem? (i := 869) (by decide +kernel)⟩
theorem lw_p28 : lw_okq (⟨"HarbourTugsModel", "wayOf", "(II)I"⟩, 18) := ⟨⟨by decide +kernel, by decide +kernel⟩, List.mem_of_getElem? (i := 768) (by decide +kernel), List.mem_of_getElem? (i := 876) (by decide +kernel), List.mem_of_getElem? (i := 877) (by decide +kernel)⟩
theorem lw_p29 : lw_okq (⟨"HarbourTugsModel", "isShip", "(I)Z"⟩, 18) := ⟨⟨by decide +kernel, by decide +kernel⟩, List.mem_of_getElem? (i := 768) (by decide +kernel), List.mem_of_getElem? (i := 899) (by decide +kernel), List.mem_of_getElem? (i := 900) (by decide +kernel)⟩
theorem lw_p30 : lw_okq (⟨"HarbourTugsModel", "needsOf", "(II)I"⟩, 18) := ⟨⟨by decide +kernel, by decide +kernel⟩, List.mem_of_getElem? (i := 768) (by decide +kernel), List.mem_of_getElem? (i := 903) (by decide +kernel), List.mem_of_getElem? (i := 904) (by decide +kernel)⟩
theorem lw_p31 : lw_okq (⟨"HarbourTugsModel", "isTug", "(I)Z"⟩, 18) := ⟨⟨by decide +kernel, by decide +kernel⟩, List.mem_of_getElem? (i := 768) (by decide +kernel), List.mem_of_getElem? (i := 911) (by decide +kernel), List.mem_of_getElem? (i := 912) (by decide +kernel)⟩
def lw_privs_2 : List (MethodName × Nat) := [(⟨"HarbourTugs$Harbour", "release", "(LHarbourTugs$Ship;II)I"⟩, 16), (⟨"HarbourTugs$Harbour", "tugsFor", "(LHarbourTugs$Ship;I)I"⟩, 16), (⟨"HarbourTugs$Harbour", "leastSet", "(LHarbourTugs$Ship;II)I"⟩, 16), (⟨"HarbourTugs$Harbour", "isLess", "(II)Z"⟩, 16), (⟨"HarbourTugs", "isPlanned", "(I)Z"⟩, 6), (⟨"HarbourTugs$Planner", "nextOrder", "(I)Z"⟩, 7), (⟨"HarbourTugs$Planner", "exchange", "(II)V"⟩, 7), (⟨"HarbourTugs$Planner", "isBetter", "(III)Z"⟩, 7), (⟨"HarbourTugs$Harbour", "goesOn", "(LHarbourTugs$Ship;II)Z"⟩, 16), (⟨"HarbourTugs$Harbour", "takeOff", "(LHarbourTugs$Ship;I)I"⟩, 16), (⟨"HarbourTugsModel", "hasJob", "(I)Z"⟩, 18), (⟨"HarbourTugsModel", "ofShip", "(II)I"⟩, 18), (⟨"HarbourTugsModel", "wayOf", "(II)I"⟩, 18), (⟨"HarbourTugsModel", "isShip", "(I)Z"⟩, 18), (⟨"HarbourTugsModel", "needsOf", "(II)I"⟩, 18), (⟨"HarbourTugsModel", "isTug", "(I)Z"⟩, 18)]
theorem lw_r2 : ∀ q ∈ lw_privs_2, lw_okq q := List.forall_mem_cons.mpr ⟨lw_p16, List.forall_mem_cons.mpr ⟨lw_p17, List.forall_mem_cons.mpr ⟨lw_p18, List.forall_mem_cons.mpr ⟨lw_p19, List.forall_mem_cons.mpr ⟨lw_p20, List.forall_mem_cons.mpr ⟨lw_p21, List.forall_mem_cons.mpr ⟨lw_p22, List.forall_mem_cons.mpr ⟨lw_p23, List.forall_mem_cons.mpr ⟨lw_p24, List.forall_mem_cons.mpr ⟨lw_p25, List.forall_mem_cons.mpr ⟨lw_p26, List.forall_mem_cons.mpr ⟨lw_p27, List.forall_mem_cons.mpr ⟨lw_p28, List.forall_mem_cons.mpr ⟨lw_p29, List.forall_mem_cons.mpr ⟨lw_p30, List.forall_mem_cons.mpr ⟨lw_p31, fun _ h => absurd h List.not_mem_nil⟩⟩⟩⟩⟩⟩⟩⟩⟩⟩⟩⟩⟩⟩⟩⟩
theorem lw_p32 : lw_okq (⟨"HarbourTugsModel", "workOf", "(I)J"⟩, 18) := ⟨⟨by decide +kernel, by decide +kernel⟩, List.mem_of_getElem? (i := 768) (by decide +kernel), List.mem_of_getElem? (i := 916) (by decide +kernel), List.mem_of_getElem? (i := 917) (by decide +kernel)⟩
theorem lw_p33 : lw_okq (⟨"HarbourTugsModel", "fuelBehind", "(IJI)I"⟩, 18) := ⟨⟨by decide +kernel, by decide +kernel⟩, List.mem_of_getElem? (i := 768) (by decide +kernel), List.mem_of_getElem? (i := 920) (by decide +kernel), List.mem_of_getElem? (i := 921) (by decide +kernel)⟩
theorem lw_p34 : lw_okq (⟨"HarbourTugsModel", "ofTug", "(II)I"⟩, 18) := ⟨⟨by decide +kernel, by decide +kernel⟩, List.mem_of_getElem? (i := 768) (by decide +kernel), List.mem_of_getElem? (i := 924) (by decide +kernel), List.mem_of_getElem? (i := 925) (by decide +kernel)⟩
theorem lw_p35 : lw_okq (⟨"HarbourTugsModel", "bunkersOf", "(I)J"⟩, 18) := ⟨⟨by decide +kernel, by decide +kernel⟩, List.mem_of_getElem? (i := 768) (by decide +kernel), List.mem_of_getElem? (i := 931) (by decide +kernel), List.mem_of_getElem? (i := 932) (by decide +kernel)⟩
theorem lw_p36 : lw_okq (⟨"HarbourTugsModel", "isSet", "(I)Z"⟩, 18) := ⟨⟨by decide +kernel, by decide +kernel⟩, List.mem_of_getElem? (i := 768) (by decide +kernel), List.mem_of_getElem? (i := 943) (by decide +kernel), List.mem_of_getElem? (i := 944) (by decide +kernel)⟩
theorem lw_p37 : lw_okq (⟨"HarbourTugsModel", "whyNot", "(III)I"⟩, 18) := ⟨⟨by decide +kernel, by decide +kernel⟩, List.mem_of_getElem? (i := 768) (by decide +kernel), List.mem_of_getElem? (i := 947) (by decide +kernel), List.mem_of_getElem? (i := 948) (by decide +kernel)⟩
theorem lw_p38 : lw_okq (⟨"HarbourTugsModel", "failsBy", "(IIII)Z"⟩, 18) := ⟨⟨by decide +kernel, by decide +kernel⟩, List.mem_of_getElem? (i := 768) (by decide +kernel), List.mem_of_getElem? (i := 951) (by decide +kernel), List.mem_of_getElem? (i := 952) (by decide +kernel)⟩
theorem lw_p39 : lw_okq (⟨"HarbourTugsModel", "failsAlone", "(III)Z"⟩, 18) := ⟨⟨by decide +kernel, by decide +kernel⟩, List.mem_of_getElem? (i := 768) (by decide +kernel), List.mem_of_getElem? (i := 955) (by decide +kernel), List.mem_of_getElem? (i := 956) (by decide +kernel)⟩
theorem lw_p40 : lw_okq (⟨"HarbourTugsModel", "isBarred", "(II)Z"⟩, 18) := ⟨⟨by decide +kernel, by decide +kernel⟩, List.mem_of_getElem? (i := 768) (by decide +kernel), List.mem_of_getElem? (i := 959) (by decide +kernel), List.mem_of_getElem? (i := 960) (by decide +kernel)⟩
theorem lw_p41 : lw_okq (⟨"HarbourTugsModel", "last", "(I)I"⟩, 18) := ⟨⟨by decide +kernel, by decide +kernel⟩, List.mem_of_getElem? (i := 768) (by decide +kernel), List.mem_of_getElem? (i := 963) (by decide +kernel), List.mem_of_getElem? (i := 964) (by decide +kernel)⟩
theorem lw_p42 : lw_okq (⟨"HarbourTugsModel", "failsTogether", "(IIII)Z"⟩, 18) := ⟨⟨by decide +kernel, by decide +kernel⟩, List.mem_of_getElem? (i := 768) (by decide +kernel), List.mem_of_getElem? (i := 970) (by decide +kernel), List.mem_of_getElem? (i := 971) (by decide +kernel)⟩
theorem lw_p43 : lw_okq (⟨"HarbourTugsModel", "pullOf", "(I)I"⟩, 18) := ⟨⟨by decide +kernel, by decide +kernel⟩, List.mem_of_getElem? (i := 768) (by decide +kernel), List.mem_of_getElem? (i := 974) (by decide +kernel), List.mem_of_getElem? (i := 975) (by decide +kernel)⟩
theorem lw_p44 : lw_okq (⟨"HarbourTugsModel", "fails", "(IIII)Z"⟩, 18) := ⟨⟨by decide +kernel, by decide +kernel⟩, List.mem_of_getElem? (i := 768) (by decide +kernel), List.mem_of_getElem? (i := 978) (by decide +kernel), List.mem_of_getElem? (i := 979) (by decide +kernel)⟩
theorem lw_p45 : lw_okq (⟨"HarbourTugsModel", "rests", "(IJ)Z"⟩, 18) := ⟨⟨by decide +kernel, by decide +kernel⟩, List.mem_of_getElem? (i := 768) (by decide +kernel), List.mem_of_getElem? (i := 982) (by decide +kernel), List.mem_of_getElem? (i := 983) (by decide +kernel)⟩
theorem lw_p46 : lw_okq (⟨"HarbourTugsModel", "comes", "(III)Z"⟩, 18) := ⟨⟨by decide +kernel, by decide +kernel⟩, List.mem_of_getElem? (i := 768) (by decide +kernel), List.mem_of_getElem? (i := 986) (by decide +kernel), List.mem_of_getElem? (i := 987) (by decide +kernel)⟩
theorem lw_p47 : lw_okq (⟨"HarbourTugsModel", "isOf", "(II)Z"⟩, 18) := ⟨⟨by decide +kernel, by decide +kernel⟩, List.mem_of_getElem? (i := 768) (by decide +kernel), List.mem_of_getElem? (i := 990) (by decide +kernel), List.mem_of_getElem? (i := 991) (by decide +kernel)⟩
def lw_privs_3 : List (MethodName × Nat) := [(⟨"HarbourTugsModel", "workOf", "(I)J"⟩, 18), (⟨"HarbourTugsModel", "fuelBehind", "(IJI)I"⟩, 18), (⟨"HarbourTugsModel", "ofTug", "(II)I"⟩, 18), (⟨"HarbourTugsModel", "bunkersOf", "(I)J"⟩, 18), (⟨"HarbourTugsModel", "isSet", "(I)Z"⟩, 18), (⟨"HarbourTugsModel", "whyNot", "(III)I"⟩, 18), (⟨"HarbourTugsModel", "failsBy", "(IIII)Z"⟩, 18), (⟨"HarbourTugsModel", "failsAlone", "(III)Z"⟩, 18), (⟨"HarbourTugsModel", "isBarred", "(II)Z"⟩, 18), (⟨"HarbourTugsModel", "last", "(I)I"⟩, 18), (⟨"HarbourTugsModel", "failsTogether", "(IIII)Z"⟩, 18), (⟨"HarbourTugsModel", "pullOf", "(I)I"⟩, 18), (⟨"HarbourTugsModel", "fails", "(IIII)Z"⟩, 18), (⟨"HarbourTugsModel", "rests", "(IJ)Z"⟩, 18), (⟨"HarbourTugsModel", "comes", "(III)Z"⟩, 18), (⟨"HarbourTugsModel", "isOf", "(II)Z"⟩, 18)]
theorem lw_r3 : ∀ q ∈ lw_privs_3, lw_okq q := List.forall_mem_cons.mpr ⟨lw_p32, List.forall_mem_cons.mpr ⟨lw_p33, List.forall_mem_cons.mpr ⟨lw_p34, List.forall_mem_cons.mpr ⟨lw_p35, List.forall_mem_cons.mpr ⟨lw_p36, List.forall_mem_cons.mpr ⟨lw_p37, List.forall_mem_cons.mpr ⟨lw_p38, List.forall_mem_cons.mpr ⟨lw_p39, List.forall_mem_cons.mpr ⟨lw_p40, List.forall_mem_cons.mpr ⟨lw_p41, List.forall_mem_cons.mpr ⟨lw_p42, List.forall_mem_cons.mpr ⟨lw_p43, List.forall_mem_cons.mpr ⟨lw_p44, List.forall_mem_cons.mpr ⟨lw_p45, List.forall_mem_cons.mpr ⟨lw_p46, List.forall_mem_cons.mpr ⟨lw_p47, fun _ h => absurd h List.not_mem_nil⟩⟩⟩⟩⟩⟩⟩⟩⟩⟩⟩⟩⟩⟩⟩⟩
theorem lw_p48 : lw_okq (⟨"HarbourTugsModel", "lays", "(III)V"⟩, 18) := ⟨⟨by decide +kernel, by decide +kernel⟩, List.mem_of_getElem? (i := 768) (by decide +kernel), List.mem_of_getElem? (i := 999) (by decide +kernel), List.mem_of_getElem? (i := 1000) (by decide +kernel)⟩
theorem lw_p49 : lw_okq (⟨"HarbourTugsModel", "takes", "(II)I"⟩, 18) := ⟨⟨by decide +kernel, by decide +kernel⟩, List.mem_of_getElem? (i := 768) (by decide +kernel), List.mem_of_getElem? (i := 1007) (by decide +kernel), List.mem_of_getElem? (i := 1008) (by decide +kernel)⟩
theorem lw_p50 : lw_okq (⟨"HarbourTugsModel", "finds", "(I)Z"⟩, 18) := ⟨⟨by decide +kernel, by decide +kernel⟩, List.mem_of_getElem? (i := 768) (by decide +kernel), List.mem_of_getElem? (i := 1015) (by decide +kernel), List.mem_of_getElem? (i := 1016) (by decide +kernel)⟩
theorem lw_p51 : lw_okq (⟨"HarbourTugsModel", "isBetter", "(II)Z"⟩, 18) := ⟨⟨by decide +kernel, by decide +kernel⟩, List.mem_of_getElem? (i := 768) (by decide +kernel), List.mem_of_getElem? (i := 1019) (by decide +kernel), List.mem_of_getElem? (i := 1020) (by decide +kernel)⟩
theorem lw_p52 : lw_okq (⟨"HarbourTugsModel", "isMany", "(I)Z"⟩, 18) := ⟨⟨by decide +kernel, by decide +kernel⟩, List.mem_of_getElem? (i := 768) (by decide +kernel), List.mem_of_getElem? (i := 1034) (by decide +kernel), List.mem_of_getElem? (i := 1035) (by decide +kernel)⟩
theorem lw_p53 : lw_okq (⟨"HarbourTugsModel", "bestOrder", "(I)I"⟩, 18) := ⟨⟨by decide +kernel, by decide +kernel⟩, List.mem_of_getElem? (i := 768) (by decide +kernel), List.mem_of_getElem? (i := 1038) (by decide +kernel), List.mem_of_getElem? (i := 1039) (by decide +kernel)⟩
theorem lw_p54 : lw_okq (⟨"HarbourTugsModel", "asides", "()V"⟩, 18) := ⟨⟨by decide +kernel, by decide +kernel⟩, List.mem_of_getElem? (i := 768) (by decide +kernel), List.mem_of_getElem? (i := 1042) (by decide +kernel), List.mem_of_getElem? (i := 1043) (by decide +kernel)⟩
theorem lw_p55 : lw_okq (⟨"HarbourTugsModel", "empties", "()V"⟩, 18) := ⟨⟨by decide +kernel, by decide +kernel⟩, List.mem_of_getElem? (i := 768) (by decide +kernel), List.mem_of_getElem? (i := 1050) (by decide +kernel), List.mem_of_getElem? (i := 1051) (by decide +kernel)⟩
theorem lw_p56 : lw_okq (⟨"HarbourTugsModel", "plans", "(II)I"⟩, 18) := ⟨⟨by decide +kernel, by decide +kernel⟩, List.mem_of_getElem? (i := 768) (by decide +kernel), List.mem_of_getElem? (i := 1054) (by decide +kernel), List.mem_of_getElem? (i := 1055) (by decide +kernel)⟩
theorem lw_p57 : lw_okq (⟨"HarbourTugsModel", "waited", "(I)I"⟩, 18) := ⟨⟨by decide +kernel, by decide +kernel⟩, List.mem_of_getElem? (i := 768) (by decide +kernel), List.mem_of_getElem? (i := 1058) (by decide +kernel), List.mem_of_getElem? (i := 1059) (by decide +kernel)⟩
theorem lw_p58 : lw_okq (⟨"HarbourTugsModel", "returns", "()V"⟩, 18) := ⟨⟨by decide +kernel, by decide +kernel⟩, List.mem_of_getElem? (i := 768) (by decide +kernel), List.mem_of_getElem? (i := 1062) (by decide +kernel), List.mem_of_getElem? (i := 1063) (by decide +kernel)⟩
theorem lw_p59 : lw_okq (⟨"HarbourTugsModel", "mends", "(I)V"⟩, 18) := ⟨⟨by decide +kernel, by decide +kernel⟩, List.mem_of_getElem? (i := 768) (by decide +kernel), List.mem_of_getElem? (i := 1075) (by decide +kernel), List.mem_of_getElem? (i := 1076) (by decide +kernel)⟩
theorem lw_p60 : lw_okq (⟨"HarbourTugsModel", "tries", "(II)I"⟩, 18) := ⟨⟨by decide +kernel, by decide +kernel⟩, List.mem_of_getElem? (i := 768) (by decide +kernel), List.mem_of_getElem? (i := 1079) (by decide +kernel), List.mem_of_getElem? (i := 1080) (by decide +kernel)⟩
theorem lw_p61 : lw_okq (⟨"HarbourTugsModel", "goesOn", "(III)Z"⟩, 18) := ⟨⟨by decide +kernel, by decide +kernel⟩, List.mem_of_getElem? (i := 768) (by decide +kernel), List.mem_of_getElem? (i := 1091) (by decide +kernel), List.mem_of_getElem? (i := 1092) (by decide +kernel)⟩
theorem lw_p62 : lw_okq (⟨"HarbourTugsModel", "hoursIn", "(J)I"⟩, 18) := ⟨⟨by decide +kernel, by decide +kernel⟩, List.mem_of_getElem? (i := 768) (by decide +kernel), List.mem_of_getElem? (i := 1107) (by decide +kernel), List.mem_of_getElem? (i := 1108) (by decide +kernel)⟩
theorem lw_p63 : lw_okq (⟨"HarbourTugsModel", "passes", "(II)Z"⟩, 18) := ⟨⟨by decide +kernel, by decide +kernel⟩, List.mem_of_getElem? (i := 768) (by decide +kernel), List.mem_of_getElem? (i := 1126) (by decide +kernel), List.mem_of_getElem? (i := 1127) (by decide +kernel)⟩
def lw_privs_4 : List (MethodName × Nat) := [(⟨"HarbourTugsModel", "lays", "(III)V"⟩, 18), (⟨"HarbourTugsModel", "takes", "(II)I"⟩, 18), (⟨"HarbourTugsModel", "finds", "(I)Z"⟩, 18), (⟨"HarbourTugsModel", "isBetter", "(II)Z"⟩, 18), (⟨"HarbourTugsModel", "isMany", "(I)Z"⟩, 18), (⟨"HarbourTugsModel", "bestOrder", "(I)I"⟩, 18), (⟨"HarbourTugsModel", "asides", "()V"⟩, 18), (⟨"HarbourTugsModel", "empties", "()V"⟩, 18), (⟨"HarbourTugsModel", "plans", "(II)I"⟩, 18), (⟨"HarbourTugsModel", "waited", "(I)I"⟩, 18), (⟨"HarbourTugsModel", "returns", "()V"⟩, 18), (⟨"HarbourTugsModel", "mends", "(I)V"⟩, 18), (⟨"HarbourTugsModel", "tries", "(II)I"⟩, 18), (⟨"HarbourTugsModel", "goesOn", "(III)Z"⟩, 18), (⟨"HarbourTugsModel", "hoursIn", "(J)I"⟩, 18), (⟨"HarbourTugsModel", "passes", "(II)Z"⟩, 18)]
theorem lw_r4 : ∀ q ∈ lw_privs_4, lw_okq q := List.forall_mem_cons.mpr ⟨lw_p48, List.forall_mem_cons.mpr ⟨lw_p49, List.forall_mem_cons.mpr ⟨lw_p50, List.forall_mem_cons.mpr ⟨lw_p51, List.forall_mem_cons.mpr ⟨lw_p52, List.forall_mem_cons.mpr ⟨lw_p53, List.forall_mem_cons.mpr ⟨lw_p54, List.forall_mem_cons.mpr ⟨lw_p55, List.forall_mem_cons.mpr ⟨lw_p56, List.forall_mem_cons.mpr ⟨lw_p57, List.forall_mem_cons.mpr ⟨lw_p58, List.forall_mem_cons.mpr ⟨lw_p59, List.forall_mem_cons.mpr ⟨lw_p60, List.forall_mem_cons.mpr ⟨lw_p61, List.forall_mem_cons.mpr ⟨lw_p62, List.forall_mem_cons.mpr ⟨lw_p63, fun _ h => absurd h List.not_mem_nil⟩⟩⟩⟩⟩⟩⟩⟩⟩⟩⟩⟩⟩⟩⟩⟩
theorem lw_p64 : lw_okq (⟨"HarbourTugsModel", "berthOf", "(I)I"⟩, 18) := ⟨⟨by decide +kernel, by decide +kernel⟩, List.mem_of_getElem? (i := 768) (by decide +kernel), List.mem_of_getElem? (i := 1145) (by decide +kernel), List.mem_of_getElem? (i := 1146) (by decide +kernel)⟩
def lw_privs_5 : List (MethodName × Nat) := [(⟨"HarbourTugsModel", "berthOf", "(I)I"⟩, 18)]
theorem lw_r5 : ∀ q ∈ lw_privs_5, lw_okq q := List.forall_mem_cons.mpr ⟨lw_p64, fun _ h => absurd h List.not_mem_nil⟩
def lw_privs : List (MethodName × Nat) := lw_privs_1 ++ (lw_privs_2 ++ (lw_privs_3 ++ (lw_privs_4 ++ (lw_privs_5))))
def lw_tbl : List Cond := k2_sels lw_privs ++ tables_1
theorem lw_privs_ok : ∀ q ∈ lw_privs, lw_okq q := by
  show ∀ q ∈ lw_privs_1 ++ (lw_privs_2 ++ (lw_privs_3 ++ (lw_privs_4 ++ (lw_privs_5)))), lw_okq q
  exact List.forall_mem_append.mpr ⟨lw_r1, List.forall_mem_append.mpr ⟨lw_r2, List.forall_mem_append.mpr ⟨lw_r3, List.forall_mem_append.mpr ⟨lw_r4, lw_r5⟩⟩⟩⟩
-- ===== end of PART A; then your names; then what follows =====
def RX0 : String := "HarbourTugs$Berths"
def TX0 : u_T := fun k => match k with
  | 0 => ("HarbourTugs$Berths", "place", "[I", true)
  | _ => ("HarbourTugs$Berths", "basin", "[I", true)
def tyX0 : Nat → FieldType := fun k => match k with
  | 0 => .array .int
  | _ => .array .int
abbrev wsX00 : List Cond := u_ws RX0 TX0 2
theorem nmX0 : ∀ a, a < 2 → ∀ b, b < 2 → a ≠ b → (TX0 a).2.1 ≠ (TX0 b).2.1 := by decide +kernel
theorem tyX0_ok : ∀ k, k < 2 → parseFieldDescriptor (TX0 k).2.2.1 = some (tyX0 k) := by decide +kernel
abbrev cX0_init : ByteArray := prog_2_method_1_code
def yX0_init : MethodName := ⟨RX0, "<init>", "()V"⟩
abbrev cX0_hoursBetween : ByteArray := prog_2_method_2_code
def yX0_hoursBetween : MethodName := ⟨RX0, "hoursBetween", "(III)I"⟩
abbrev cX0_basinsOf : ByteArray := prog_2_method_3_code
def yX0_basinsOf : MethodName := ⟨RX0, "basinsOf", "(LHarbourTugs$Ship;)I"⟩
abbrev cX0_shareBasin : ByteArray := prog_2_method_4_code
def yX0_shareBasin : MethodName := ⟨RX0, "shareBasin", "(LHarbourTugs$Ship;LHarbourTugs$Ship;)Z"⟩
def RX1 : String := "HarbourTugs$Harbour"
def TX1 : u_T := fun k => match k with
  | 0 => ("HarbourTugs$Harbour", "berths", "LHarbourTugs$Berths;", true)
  | 1 => ("HarbourTugs$Harbour", "tide", "[I", true)
  | 2 => ("HarbourTugs$Harbour", "wind", "[I", true)
  | 3 => ("HarbourTugs$Harbour", "tugs", "[LHarbourTugs$Tug;", true)
  | 4 => ("HarbourTugs$Harbour", "ships", "[LHarbourTugs$Ship;", true)
  | 5 => ("HarbourTugs$Harbour", "rest", "I", false)
  | 6 => ("HarbourTugs$Harbour", "fire", "I", false)
  | 7 => ("HarbourTugs$Harbour", "speed", "I", false)
  | 8 => ("HarbourTugs$Harbour", "storm", "J", false)
  | 9 => ("HarbourTugs$Harbour", "tugCount", "I", false)
  | 10 => ("HarbourTugs$Harbour", "shipCount", "I", false)
  | 11 => ("HarbourTugs$Harbour", "laidEver", "I", false)
  | 12 => ("HarbourTugs$Harbour", "takenOffEver", "I", false)
  | 13 => ("HarbourTugs$Harbour", "lostByBreaking", "I", false)
  | 14 => ("HarbourTugs$Harbour", "lostByStorm", "I", false)
  | _ => ("HarbourTugs$Harbour", "bestSet", "I", false)
def tyX1 : Nat → FieldType := fun k => match k with
  | 0 => .object "HarbourTugs$Berths"
  | 1 => .array .int
  | 2 => .array .int
  | 3 => .array (.object "HarbourTugs$Tug")
  | 4 => .array (.object "HarbourTugs$Ship")
  | 5 => .int
  | 6 => .int
  | 7 => .int
  | 8 => .long
  | 9 => .int
  | 10 => .int
  | 11 => .int
  | 12 => .int
  | 13 => .int
  | 14 => .int
  | _ => .int
abbrev wsX10 : List Cond := u_ws RX1 TX1 16
theorem nmX1 : ∀ a, a < 16 → ∀ b, b < 16 → a ≠ b → (TX1 a).2.1 ≠ (TX1 b).2.1 := by decide +kernel
theorem tyX1_ok : ∀ k, k < 16 → parseFieldDescriptor (TX1 k).2.2.1 = some (tyX1 k) := by decide +kernel
abbrev cX1_init : ByteArray := prog_3_method_1_code
def yX1_init : MethodName := ⟨RX1, "<init>", "(LHarbourTugs$Berths;)V"⟩
abbrev cX1_copyFrom : ByteArray := prog_3_method_2_code
def yX1_copyFrom : MethodName := ⟨RX1, "copyFrom", "(LHarbourTugs$Harbour;)V"⟩
abbrev cX1_jobsLaid : ByteArray := prog_3_method_3_code
def yX1_jobsLaid : MethodName := ⟨RX1, "jobsLaid", "()I"⟩
abbrev cX1_isBerthUsed : ByteArray := prog_3_method_4_code
def yX1_isBerthUsed : MethodName := ⟨RX1, "isBerthUsed", "(I)Z"⟩
abbrev cX1_pullHours : ByteArray := prog_3_method_5_code
def yX1_pullHours : MethodName := ⟨RX1, "pullHours", "(I)J"⟩
abbrev cX1_lastBerth : ByteArray := prog_3_method_6_code
def yX1_lastBerth : MethodName := ⟨RX1, "lastBerth", "(I)I"⟩
abbrev cX1_neededPull : ByteArray := prog_3_method_7_code
def yX1_neededPull : MethodName := ⟨RX1, "neededPull", "(LHarbourTugs$Ship;I)I"⟩
abbrev cX1_mostNeeded : ByteArray := prog_3_method_8_code
def yX1_mostNeeded : MethodName := ⟨RX1, "mostNeeded", "(LHarbourTugs$Ship;II)I"⟩
abbrev cX1_pullOf : ByteArray := prog_3_method_9_code
def yX1_pullOf : MethodName := ⟨RX1, "pullOf", "(I)I"⟩
abbrev cX1_canPullAstern : ByteArray := prog_3_method_10_code
def yX1_canPullAstern : MethodName := ⟨RX1, "canPullAstern", "(I)Z"⟩
abbrev cX1_lowHours : ByteArray := prog_3_method_11_code
def yX1_lowHours : MethodName := ⟨RX1, "lowHours", "(LHarbourTugs$Ship;)J"⟩
abbrev cX1_basinHours : ByteArray := prog_3_method_12_code
def yX1_basinHours : MethodName := ⟨RX1, "basinHours", "(LHarbourTugs$Ship;)J"⟩
abbrev cX1_isGuarded : ByteArray := prog_3_method_13_code
def yX1_isGuarded : MethodName := ⟨RX1, "isGuarded", "(LHarbourTugs$Ship;II)Z"⟩
abbrev cX1_hasIdle : ByteArray := prog_3_method_14_code
def yX1_hasIdle : MethodName := ⟨RX1, "hasIdle", "(II)Z"⟩
abbrev cX1_jobBefore : ByteArray := prog_3_method_15_code
def yX1_jobBefore : MethodName := ⟨RX1, "jobBefore", "(II)LHarbourTugs$Ship;"⟩
abbrev cX1_jobBehind : ByteArray := prog_3_method_16_code
def yX1_jobBehind : MethodName := ⟨RX1, "jobBehind", "(II)LHarbourTugs$Ship;"⟩
abbrev cX1_canBeThere : ByteArray := prog_3_method_17_code
def yX1_canBeThere : MethodName := ⟨RX1, "canBeThere", "(ILHarbourTugs$Ship;I)Z"⟩
abbrev cX1_failsBy : ByteArray := prog_3_method_18_code
def yX1_failsBy : MethodName := ⟨RX1, "failsBy", "(LHarbourTugs$Ship;II)I"⟩
abbrev cX1_holds : ByteArray := prog_3_method_19_code
def yX1_holds : MethodName := ⟨RX1, "holds", "(ILHarbourTugs$Ship;II)Z"⟩
abbrev cX1_holdsForEach : ByteArray := prog_3_method_20_code
def yX1_holdsForEach : MethodName := ⟨RX1, "holdsForEach", "(ILHarbourTugs$Ship;II)Z"⟩
abbrev cX1_holdsFor : ByteArray := prog_3_method_21_code
def yX1_holdsFor : MethodName := ⟨RX1, "holdsFor", "(IILHarbourTugs$Ship;I)Z"⟩
abbrev cX1_seekBest : ByteArray := prog_3_method_22_code
def yX1_seekBest : MethodName := ⟨RX1, "seekBest", "(LHarbourTugs$Ship;)I"⟩
abbrev cX1_tugsFor : ByteArray := prog_3_method_23_code
def yX1_tugsFor : MethodName := ⟨RX1, "tugsFor", "(LHarbourTugs$Ship;I)I"⟩
abbrev cX1_leastSet : ByteArray := prog_3_method_24_code
def yX1_leastSet : MethodName := ⟨RX1, "leastSet", "(LHarbourTugs$Ship;II)I"⟩
abbrev cX1_isLess : ByteArray := prog_3_method_25_code
def yX1_isLess : MethodName := ⟨RX1, "isLess", "(II)Z"⟩
abbrev cX1_put : ByteArray := prog_3_method_26_code
def yX1_put : MethodName := ⟨RX1, "put", "(LHarbourTugs$Ship;II)V"⟩
abbrev cX1_release : ByteArray := prog_3_method_27_code
def yX1_release : MethodName := ⟨RX1, "release", "(LHarbourTugs$Ship;II)I"⟩
abbrev cX1_lift : ByteArray := prog_3_method_28_code
def yX1_lift : MethodName := ⟨RX1, "lift", "(LHarbourTugs$Ship;)V"⟩
abbrev cX1_liftAll : ByteArray := prog_3_method_29_code
def yX1_liftAll : MethodName := ⟨RX1, "liftAll", "(I)V"⟩
abbrev cX1_takeOff : ByteArray := prog_3_method_30_code
def yX1_takeOff : MethodName := ⟨RX1, "takeOff", "(LHarbourTugs$Ship;I)I"⟩
abbrev cX1_clearPlan : ByteArray := prog_3_method_31_code
def yX1_clearPlan : MethodName := ⟨RX1, "clearPlan", "()V"⟩
abbrev cX1_layEach : ByteArray := prog_3_method_32_code
def yX1_layEach : MethodName := ⟨RX1, "layEach", "([II)I"⟩
abbrev cX1_waitedOf : ByteArray := prog_3_method_33_code
def yX1_waitedOf : MethodName := ⟨RX1, "waitedOf", "(I)I"⟩
abbrev cX1_breakDown : ByteArray := prog_3_method_34_code
def yX1_breakDown : MethodName := ⟨RX1, "breakDown", "(II)I"⟩
abbrev cX1_goesOn : ByteArray := prog_3_method_35_code
def yX1_goesOn : MethodName := ⟨RX1, "goesOn", "(LHarbourTugs$Ship;II)Z"⟩
abbrev cX1_blow : ByteArray := prog_3_method_36_code
def yX1_blow : MethodName := ⟨RX1, "blow", "(II)I"⟩
def RX2 : String := "HarbourTugs$Planner"
def TX2 : u_T := fun k => match k with
  | 0 => ("HarbourTugs$Planner", "trial", "LHarbourTugs$Harbour;", true)
  | 1 => ("HarbourTugs$Planner", "byNumbers", "[I", true)
  | 2 => ("HarbourTugs$Planner", "tried", "[I", true)
  | 3 => ("HarbourTugs$Planner", "chosen", "[I", true)
  | 4 => ("HarbourTugs$Planner", "served", "I", false)
  | 5 => ("HarbourTugs$Planner", "waited", "I", false)
  | _ => ("HarbourTugs$Planner", "lifted", "I", false)
def tyX2 : Nat → FieldType := fun k => match k with
  | 0 => .object "HarbourTugs$Harbour"
  | 1 => .array .int
  | 2 => .array .int
  | 3 => .array .int
  | 4 => .int
  | 5 => .int
  | _ => .int
abbrev wsX20 : List Cond := u_ws RX2 TX2 7
theorem nmX2 : ∀ a, a < 7 → ∀ b, b < 7 → a ≠ b → (TX2 a).2.1 ≠ (TX2 b).2.1 := by decide +kernel
theorem tyX2_ok : ∀ k, k < 7 → parseFieldDescriptor (TX2 k).2.2.1 = some (tyX2 k) := by decide +kernel
abbrev cX2_init : ByteArray := prog_4_method_1_code
def yX2_init : MethodName := ⟨RX2, "<init>", "(LHarbourTugs$Berths;)V"⟩
abbrev cX2_findOrder : ByteArray := prog_4_method_2_code
def yX2_findOrder : MethodName := ⟨RX2, "findOrder", "(LHarbourTugs$Harbour;I)V"⟩
abbrev cX2_takeOver : ByteArray := prog_4_method_3_code
def yX2_takeOver : MethodName := ⟨RX2, "takeOver", "([I[I)V"⟩
abbrev cX2_nextOrder : ByteArray := prog_4_method_4_code
def yX2_nextOrder : MethodName := ⟨RX2, "nextOrder", "(I)Z"⟩
abbrev cX2_exchange : ByteArray := prog_4_method_5_code
def yX2_exchange : MethodName := ⟨RX2, "exchange", "(II)V"⟩
abbrev cX2_findMended : ByteArray := prog_4_method_6_code
def yX2_findMended : MethodName := ⟨RX2, "findMended", "(LHarbourTugs$Harbour;I)V"⟩
abbrev cX2_allHaveJobs : ByteArray := prog_4_method_7_code
def yX2_allHaveJobs : MethodName := ⟨RX2, "allHaveJobs", "(LHarbourTugs$Harbour;I)Z"⟩
abbrev cX2_isBetter : ByteArray := prog_4_method_8_code
def yX2_isBetter : MethodName := ⟨RX2, "isBetter", "(III)Z"⟩
def RX3 : String := "HarbourTugs$Prices"
def TX3 : u_T := fun k => match k with
  | 0 => ("HarbourTugs$Prices", "tests", "[I", true)
  | 1 => ("HarbourTugs$Prices", "values", "[I", true)
  | 2 => ("HarbourTugs$Prices", "kinds", "[I", true)
  | 3 => ("HarbourTugs$Prices", "amounts", "[I", true)
  | _ => ("HarbourTugs$Prices", "count", "I", false)
def tyX3 : Nat → FieldType := fun k => match k with
  | 0 => .array .int
  | 1 => .array .int
  | 2 => .array .int
  | 3 => .array .int
  | _ => .int
abbrev wsX30 : List Cond := u_ws RX3 TX3 5
theorem nmX3 : ∀ a, a < 5 → ∀ b, b < 5 → a ≠ b → (TX3 a).2.1 ≠ (TX3 b).2.1 := by decide +kernel
theorem tyX3_ok : ∀ k, k < 5 → parseFieldDescriptor (TX3 k).2.2.1 = some (tyX3 k) := by decide +kernel
abbrev cX3_init : ByteArray := prog_5_method_1_code
def yX3_init : MethodName := ⟨RX3, "<init>", "()V"⟩
abbrev cX3_tell : ByteArray := prog_5_method_2_code
def yX3_tell : MethodName := ⟨RX3, "tell", "(IIII)Z"⟩
abbrev cX3_priceOf : ByteArray := prog_5_method_3_code
def yX3_priceOf : MethodName := ⟨RX3, "priceOf", "(LHarbourTugs$Harbour;LHarbourTugs$Ship;)J"⟩
abbrev cX3_isSo : ByteArray := prog_5_method_4_code
def yX3_isSo : MethodName := ⟨RX3, "isSo", "(IILHarbourTugs$Harbour;LHarbourTugs$Ship;)Z"⟩
def RX4 : String := "HarbourTugs$Ship"
def TX4 : u_T := fun k => match k with
  | 0 => ("HarbourTugs$Ship", "size", "I", false)
  | 1 => ("HarbourTugs$Ship", "draft", "I", false)
  | 2 => ("HarbourTugs$Ship", "ready", "I", false)
  | 3 => ("HarbourTugs$Ship", "length", "I", false)
  | 4 => ("HarbourTugs$Ship", "weight", "I", false)
  | 5 => ("HarbourTugs$Ship", "from", "I", false)
  | 6 => ("HarbourTugs$Ship", "to", "I", false)
  | 7 => ("HarbourTugs$Ship", "hour", "I", false)
  | _ => ("HarbourTugs$Ship", "set", "I", false)
def tyX4 : Nat → FieldType := fun k => match k with
  | 0 => .int
  | 1 => .int
  | 2 => .int
  | 3 => .int
  | 4 => .int
  | 5 => .int
  | 6 => .int
  | 7 => .int
  | _ => .int
abbrev wsX40 : List Cond := u_ws RX4 TX4 9
theorem nmX4 : ∀ a, a < 9 → ∀ b, b < 9 → a ≠ b → (TX4 a).2.1 ≠ (TX4 b).2.1 := by decide +kernel
theorem tyX4_ok : ∀ k, k < 9 → parseFieldDescriptor (TX4 k).2.2.1 = some (tyX4 k) := by decide +kernel
abbrev cX4_init : ByteArray := prog_6_method_1_code
def yX4_init : MethodName := ⟨RX4, "<init>", "()V"⟩
abbrev cX4_come : ByteArray := prog_6_method_2_code
def yX4_come : MethodName := ⟨RX4, "come", "(IIIIIII)V"⟩
abbrev cX4_copyFrom : ByteArray := prog_6_method_3_code
def yX4_copyFrom : MethodName := ⟨RX4, "copyFrom", "(LHarbourTugs$Ship;)V"⟩
abbrev cX4_hasJob : ByteArray := prog_6_method_4_code
def yX4_hasJob : MethodName := ⟨RX4, "hasJob", "()Z"⟩
abbrev cX4_hasJobWith : ByteArray := prog_6_method_5_code
def yX4_hasJobWith : MethodName := ⟨RX4, "hasJobWith", "(I)Z"⟩
abbrev cX4_dropJob : ByteArray := prog_6_method_6_code
def yX4_dropJob : MethodName := ⟨RX4, "dropJob", "()V"⟩
abbrev cX4_lastHour : ByteArray := prog_6_method_7_code
def yX4_lastHour : MethodName := ⟨RX4, "lastHour", "()I"⟩
abbrev cX4_isInTime : ByteArray := prog_6_method_8_code
def yX4_isInTime : MethodName := ⟨RX4, "isInTime", "(I)Z"⟩
abbrev cX4_hoursFrom : ByteArray := prog_6_method_9_code
def yX4_hoursFrom : MethodName := ⟨RX4, "hoursFrom", "(I)J"⟩
abbrev cX4_jobHours : ByteArray := prog_6_method_10_code
def yX4_jobHours : MethodName := ⟨RX4, "jobHours", "()J"⟩
abbrev cX4_waited : ByteArray := prog_6_method_11_code
def yX4_waited : MethodName := ⟨RX4, "waited", "()I"⟩
def RX5 : String := "HarbourTugs$Tug"
def TX5 : u_T := fun k => match k with
  | 0 => ("HarbourTugs$Tug", "firm", "I", false)
  | 1 => ("HarbourTugs$Tug", "pull", "I", false)
  | 2 => ("HarbourTugs$Tug", "kind", "I", false)
  | 3 => ("HarbourTugs$Tug", "fuelFirst", "I", false)
  | 4 => ("HarbourTugs$Tug", "tank", "I", false)
  | 5 => ("HarbourTugs$Tug", "crew", "I", false)
  | 6 => ("HarbourTugs$Tug", "home", "I", false)
  | 7 => ("HarbourTugs$Tug", "brokenFrom", "I", false)
  | 8 => ("HarbourTugs$Tug", "work", "J", false)
  | _ => ("HarbourTugs$Tug", "bunkers", "J", false)
def tyX5 : Nat → FieldType := fun k => match k with
  | 0 => .int
  | 1 => .int
  | 2 => .int
  | 3 => .int
  | 4 => .int
  | 5 => .int
  | 6 => .int
  | 7 => .int
  | 8 => .long
  | _ => .long
abbrev wsX50 : List Cond := u_ws RX5 TX5 10
theorem nmX5 : ∀ a, a < 10 → ∀ b, b < 10 → a ≠ b → (TX5 a).2.1 ≠ (TX5 b).2.1 := by decide +kernel
theorem tyX5_ok : ∀ k, k < 10 → parseFieldDescriptor (TX5 k).2.2.1 = some (tyX5 k) := by decide +kernel
abbrev cX5_init : ByteArray := prog_7_method_1_code
def yX5_init : MethodName := ⟨RX5, "<init>", "()V"⟩
abbrev cX5_come : ByteArray := prog_7_method_2_code
def yX5_come : MethodName := ⟨RX5, "come", "(IIIIIII)V"⟩
abbrev cX5_copyFrom : ByteArray := prog_7_method_3_code
def yX5_copyFrom : MethodName := ⟨RX5, "copyFrom", "(LHarbourTugs$Tug;)V"⟩
abbrev cX5_isBroken : ByteArray := prog_7_method_4_code
def yX5_isBroken : MethodName := ⟨RX5, "isBroken", "(I)Z"⟩
abbrev cX5_makeWhole : ByteArray := prog_7_method_5_code
def yX5_makeWhole : MethodName := ⟨RX5, "makeWhole", "()Z"⟩
abbrev cX5_isFree : ByteArray := prog_7_method_6_code
def yX5_isFree : MethodName := ⟨RX5, "isFree", "(J)Z"⟩
abbrev cX5_fuelBehind : ByteArray := prog_7_method_7_code
def yX5_fuelBehind : MethodName := ⟨RX5, "fuelBehind", "(I)I"⟩
abbrev cX5_fuelLasts : ByteArray := prog_7_method_8_code
def yX5_fuelLasts : MethodName := ⟨RX5, "fuelLasts", "(J)Z"⟩
abbrev cX5_fuelAfter : ByteArray := prog_7_method_9_code
def yX5_fuelAfter : MethodName := ⟨RX5, "fuelAfter", "(IIJ)I"⟩
abbrev cX5_crewRests : ByteArray := prog_7_method_10_code
def yX5_crewRests : MethodName := ⟨RX5, "crewRests", "(JI)Z"⟩
def RX6 : String := "HarbourTugs"
def TX6 : u_T := fun k => match k with
  | 0 => ("HarbourTugs", "berths", "LHarbourTugs$Berths;", true)
  | 1 => ("HarbourTugs", "now", "LHarbourTugs$Harbour;", true)
  | 2 => ("HarbourTugs", "planner", "LHarbourTugs$Planner;", true)
  | 3 => ("HarbourTugs", "prices", "LHarbourTugs$Prices;", true)
  | 4 => ("HarbourTugs", "kept", "[LHarbourTugs$Harbour;", true)
  | _ => ("HarbourTugs", "keptCount", "I", false)
def tyX6 : Nat → FieldType := fun k => match k with
  | 0 => .object "HarbourTugs$Berths"
  | 1 => .object "HarbourTugs$Harbour"
  | 2 => .object "HarbourTugs$Planner"
  | 3 => .object "HarbourTugs$Prices"
  | 4 => .array (.object "HarbourTugs$Harbour")
  | _ => .int
abbrev wsX60 : List Cond := u_ws RX6 TX6 6
theorem nmX6 : ∀ a, a < 6 → ∀ b, b < 6 → a ≠ b → (TX6 a).2.1 ≠ (TX6 b).2.1 := by decide +kernel
theorem tyX6_ok : ∀ k, k < 6 → parseFieldDescriptor (TX6 k).2.2.1 = some (tyX6 k) := by decide +kernel
abbrev cX6_init : ByteArray := prog_1_method_1_code
def yX6_init : MethodName := ⟨RX6, "<init>", "()V"⟩
abbrev cX6_tide : ByteArray := prog_1_method_2_code
def yX6_tide : MethodName := ⟨RX6, "tide", "(II)I"⟩
abbrev cX6_wind : ByteArray := prog_1_method_3_code
def yX6_wind : MethodName := ⟨RX6, "wind", "(II)I"⟩
abbrev cX6_rule : ByteArray := prog_1_method_4_code
def yX6_rule : MethodName := ⟨RX6, "rule", "(II)I"⟩
abbrev cX6_berth : ByteArray := prog_1_method_5_code
def yX6_berth : MethodName := ⟨RX6, "berth", "(III)I"⟩
abbrev cX6_way : ByteArray := prog_1_method_6_code
def yX6_way : MethodName := ⟨RX6, "way", "(II)I"⟩
abbrev cX6_tug : ByteArray := prog_1_method_7_code
def yX6_tug : MethodName := ⟨RX6, "tug", "(IIIIIII)I"⟩
abbrev cX6_ship : ByteArray := prog_1_method_8_code
def yX6_ship : MethodName := ⟨RX6, "ship", "(IIIIIII)I"⟩
abbrev cX6_needs : ByteArray := prog_1_method_9_code
def yX6_needs : MethodName := ⟨RX6, "needs", "(II)I"⟩
abbrev cX6_bunker : ByteArray := prog_1_method_10_code
def yX6_bunker : MethodName := ⟨RX6, "bunker", "(II)I"⟩
abbrev cX6_fuel : ByteArray := prog_1_method_11_code
def yX6_fuel : MethodName := ⟨RX6, "fuel", "(II)I"⟩
abbrev cX6_may : ByteArray := prog_1_method_12_code
def yX6_may : MethodName := ⟨RX6, "may", "(III)I"⟩
abbrev cX6_lay : ByteArray := prog_1_method_13_code
def yX6_lay : MethodName := ⟨RX6, "lay", "(III)I"⟩
abbrev cX6_off : ByteArray := prog_1_method_14_code
def yX6_off : MethodName := ⟨RX6, "off", "(I)I"⟩
abbrev cX6_best : ByteArray := prog_1_method_15_code
def yX6_best : MethodName := ⟨RX6, "best", "(II)I"⟩
abbrev cX6_job : ByteArray := prog_1_method_16_code
def yX6_job : MethodName := ⟨RX6, "job", "(II)I"⟩
abbrev cX6_order : ByteArray := prog_1_method_17_code
def yX6_order : MethodName := ⟨RX6, "order", "(II)I"⟩
abbrev cX6_layOrder : ByteArray := prog_1_method_18_code
def yX6_layOrder : MethodName := ⟨RX6, "layOrder", "(I)I"⟩
abbrev cX6_mended : ByteArray := prog_1_method_19_code
def yX6_mended : MethodName := ⟨RX6, "mended", "(II)I"⟩
abbrev cX6_layMended : ByteArray := prog_1_method_20_code
def yX6_layMended : MethodName := ⟨RX6, "layMended", "(I)I"⟩
abbrev cX6_breaks : ByteArray := prog_1_method_21_code
def yX6_breaks : MethodName := ⟨RX6, "breaks", "(II)I"⟩
abbrev cX6_mend : ByteArray := prog_1_method_22_code
def yX6_mend : MethodName := ⟨RX6, "mend", "(I)I"⟩
abbrev cX6_storm : ByteArray := prog_1_method_23_code
def yX6_storm : MethodName := ⟨RX6, "storm", "(II)I"⟩
abbrev cX6_calm : ByteArray := prog_1_method_24_code
def yX6_calm : MethodName := ⟨RX6, "calm", "()I"⟩
abbrev cX6_priceRule : ByteArray := prog_1_method_25_code
def yX6_priceRule : MethodName := ⟨RX6, "priceRule", "(IIII)I"⟩
abbrev cX6_price : ByteArray := prog_1_method_26_code
def yX6_price : MethodName := ⟨RX6, "price", "(I)J"⟩
abbrev cX6_pool : ByteArray := prog_1_method_27_code
def yX6_pool : MethodName := ⟨RX6, "pool", "(II)I"⟩
abbrev cX6_work : ByteArray := prog_1_method_28_code
def yX6_work : MethodName := ⟨RX6, "work", "(II)J"⟩
abbrev cX6_about : ByteArray := prog_1_method_29_code
def yX6_about : MethodName := ⟨RX6, "about", "(II)I"⟩
abbrev cX6_keep : ByteArray := prog_1_method_30_code
def yX6_keep : MethodName := ⟨RX6, "keep", "()I"⟩
abbrev cX6_back : ByteArray := prog_1_method_31_code
def yX6_back : MethodName := ⟨RX6, "back", "()I"⟩
abbrev cX6_count : ByteArray := prog_1_method_32_code
def yX6_count : MethodName := ⟨RX6, "count", "(I)I"⟩
abbrev cX6_within : ByteArray := prog_1_method_33_code
def yX6_within : MethodName := ⟨RX6, "within", "(III)Z"⟩
abbrev cX6_isHour : ByteArray := prog_1_method_34_code
def yX6_isHour : MethodName := ⟨RX6, "isHour", "(I)Z"⟩
abbrev cX6_isBerth : ByteArray := prog_1_method_35_code
def yX6_isBerth : MethodName := ⟨RX6, "isBerth", "(I)Z"⟩
abbrev cX6_isTug : ByteArray := prog_1_method_36_code
def yX6_isTug : MethodName := ⟨RX6, "isTug", "(I)Z"⟩
abbrev cX6_isShip : ByteArray := prog_1_method_37_code
def yX6_isShip : MethodName := ⟨RX6, "isShip", "(I)Z"⟩
abbrev cX6_isSet : ByteArray := prog_1_method_38_code
def yX6_isSet : MethodName := ⟨RX6, "isSet", "(I)Z"⟩
abbrev cX6_isPlanned : ByteArray := prog_1_method_39_code
def yX6_isPlanned : MethodName := ⟨RX6, "isPlanned", "(I)Z"⟩
abbrev cX6_hoursAhead : ByteArray := prog_1_method_40_code
def yX6_hoursAhead : MethodName := ⟨RX6, "hoursAhead", "(I)J"⟩
abbrev cX6_isIn : ByteArray := prog_1_method_41_code
def yX6_isIn : MethodName := ⟨RX6, "isIn", "(II)Z"⟩
def RX7 : String := "HarbourTugsModel"
def TX7 : u_T := fun k => match k with
  | 0 => ("HarbourTugsModel", "m", "[J", true)
  | 1 => ("HarbourTugsModel", "kept", "[J", true)
  | 2 => ("HarbourTugsModel", "keptMany", "I", false)
  | 3 => ("HarbourTugsModel", "place", "[I", true)
  | 4 => ("HarbourTugsModel", "basin", "[I", true)
  | 5 => ("HarbourTugsModel", "rules", "I", false)
  | 6 => ("HarbourTugsModel", "test", "[I", true)
  | 7 => ("HarbourTugsModel", "value", "[I", true)
  | 8 => ("HarbourTugsModel", "kindOf", "[I", true)
  | 9 => ("HarbourTugsModel", "amount", "[I", true)
  | 10 => ("HarbourTugsModel", "bestHour", "I", false)
  | 11 => ("HarbourTugsModel", "bestSet", "I", false)
  | 12 => ("HarbourTugsModel", "aside", "[J", true)
  | 13 => ("HarbourTugsModel", "leastWaited", "I", false)
  | 14 => ("HarbourTugsModel", "mendedMany", "I", false)
  | 15 => ("HarbourTugsModel", "mendedOff", "I", false)
  | 16 => ("HarbourTugsModel", "mendedWaited", "I", false)
  | _ => ("HarbourTugsModel", "mendedSet", "I", false)
def tyX7 : Nat → FieldType := fun k => match k with
  | 0 => .array .long
  | 1 => .array .long
  | 2 => .int
  | 3 => .array .int
  | 4 => .array .int
  | 5 => .int
  | 6 => .array .int
  | 7 => .array .int
  | 8 => .array .int
  | 9 => .array .int
  | 10 => .int
  | 11 => .int
  | 12 => .array .long
  | 13 => .int
  | 14 => .int
  | 15 => .int
  | 16 => .int
  | _ => .int
abbrev wsX70 : List Cond := u_ws RX7 TX7 18
theorem nmX7 : ∀ a, a < 18 → ∀ b, b < 18 → a ≠ b → (TX7 a).2.1 ≠ (TX7 b).2.1 := by decide +kernel
theorem tyX7_ok : ∀ k, k < 18 → parseFieldDescriptor (TX7 k).2.2.1 = some (tyX7 k) := by decide +kernel
abbrev cX7_init : ByteArray := prog_9_method_1_code
def yX7_init : MethodName := ⟨RX7, "<init>", "()V"⟩
abbrev cX7_in : ByteArray := prog_9_method_2_code
def yX7_in : MethodName := ⟨RX7, "in", "(JJJ)Z"⟩
abbrev cX7_isHour : ByteArray := prog_9_method_3_code
def yX7_isHour : MethodName := ⟨RX7, "isHour", "(I)Z"⟩
abbrev cX7_ofTug : ByteArray := prog_9_method_4_code
def yX7_ofTug : MethodName := ⟨RX7, "ofTug", "(II)I"⟩
abbrev cX7_ofShip : ByteArray := prog_9_method_5_code
def yX7_ofShip : MethodName := ⟨RX7, "ofShip", "(II)I"⟩
abbrev cX7_isTug : ByteArray := prog_9_method_6_code
def yX7_isTug : MethodName := ⟨RX7, "isTug", "(I)Z"⟩
abbrev cX7_isShip : ByteArray := prog_9_method_7_code
def yX7_isShip : MethodName := ⟨RX7, "isShip", "(I)Z"⟩
abbrev cX7_isBerth : ByteArray := prog_9_method_8_code
def yX7_isBerth : MethodName := ⟨RX7, "isBerth", "(I)Z"⟩
abbrev cX7_tide : ByteArray := prog_9_method_9_code
def yX7_tide : MethodName := ⟨RX7, "tide", "(II)I"⟩
abbrev cX7_wind : ByteArray := prog_9_method_10_code
def yX7_wind : MethodName := ⟨RX7, "wind", "(II)I"⟩
abbrev cX7_rule : ByteArray := prog_9_method_11_code
def yX7_rule : MethodName := ⟨RX7, "rule", "(II)I"⟩
abbrev cX7_hasJob : ByteArray := prog_9_method_12_code
def yX7_hasJob : MethodName := ⟨RX7, "hasJob", "(I)Z"⟩
abbrev cX7_berth : ByteArray := prog_9_method_13_code
def yX7_berth : MethodName := ⟨RX7, "berth", "(III)I"⟩
abbrev cX7_wayOf : ByteArray := prog_9_method_14_code
def yX7_wayOf : MethodName := ⟨RX7, "wayOf", "(II)I"⟩
abbrev cX7_way : ByteArray := prog_9_method_15_code
def yX7_way : MethodName := ⟨RX7, "way", "(II)I"⟩
abbrev cX7_tug : ByteArray := prog_9_method_16_code
def yX7_tug : MethodName := ⟨RX7, "tug", "(IIIIIII)I"⟩
abbrev cX7_ship : ByteArray := prog_9_method_17_code
def yX7_ship : MethodName := ⟨RX7, "ship", "(IIIIIII)I"⟩
abbrev cX7_needsOf : ByteArray := prog_9_method_18_code
def yX7_needsOf : MethodName := ⟨RX7, "needsOf", "(II)I"⟩
abbrev cX7_needs : ByteArray := prog_9_method_19_code
def yX7_needs : MethodName := ⟨RX7, "needs", "(II)I"⟩
abbrev cX7_has : ByteArray := prog_9_method_20_code
def yX7_has : MethodName := ⟨RX7, "has", "(JI)Z"⟩
abbrev cX7_hours : ByteArray := prog_9_method_21_code
def yX7_hours : MethodName := ⟨RX7, "hours", "(II)J"⟩
abbrev cX7_workOf : ByteArray := prog_9_method_22_code
def yX7_workOf : MethodName := ⟨RX7, "workOf", "(I)J"⟩
abbrev cX7_bunkersOf : ByteArray := prog_9_method_23_code
def yX7_bunkersOf : MethodName := ⟨RX7, "bunkersOf", "(I)J"⟩
abbrev cX7_fuelBehind : ByteArray := prog_9_method_24_code
def yX7_fuelBehind : MethodName := ⟨RX7, "fuelBehind", "(IJI)I"⟩
abbrev cX7_fuel : ByteArray := prog_9_method_25_code
def yX7_fuel : MethodName := ⟨RX7, "fuel", "(II)I"⟩
abbrev cX7_bunker : ByteArray := prog_9_method_26_code
def yX7_bunker : MethodName := ⟨RX7, "bunker", "(II)I"⟩
abbrev cX7_pullOf : ByteArray := prog_9_method_27_code
def yX7_pullOf : MethodName := ⟨RX7, "pullOf", "(I)I"⟩
abbrev cX7_rests : ByteArray := prog_9_method_28_code
def yX7_rests : MethodName := ⟨RX7, "rests", "(IJ)Z"⟩
abbrev cX7_last : ByteArray := prog_9_method_29_code
def yX7_last : MethodName := ⟨RX7, "last", "(I)I"⟩
abbrev cX7_isOf : ByteArray := prog_9_method_30_code
def yX7_isOf : MethodName := ⟨RX7, "isOf", "(II)Z"⟩
abbrev cX7_comes : ByteArray := prog_9_method_31_code
def yX7_comes : MethodName := ⟨RX7, "comes", "(III)Z"⟩
abbrev cX7_fails : ByteArray := prog_9_method_32_code
def yX7_fails : MethodName := ⟨RX7, "fails", "(IIII)Z"⟩
abbrev cX7_isBarred : ByteArray := prog_9_method_33_code
def yX7_isBarred : MethodName := ⟨RX7, "isBarred", "(II)Z"⟩
abbrev cX7_failsAlone : ByteArray := prog_9_method_34_code
def yX7_failsAlone : MethodName := ⟨RX7, "failsAlone", "(III)Z"⟩
abbrev cX7_failsTogether : ByteArray := prog_9_method_35_code
def yX7_failsTogether : MethodName := ⟨RX7, "failsTogether", "(IIII)Z"⟩
abbrev cX7_failsBy : ByteArray := prog_9_method_36_code
def yX7_failsBy : MethodName := ⟨RX7, "failsBy", "(IIII)Z"⟩
abbrev cX7_whyNot : ByteArray := prog_9_method_37_code
def yX7_whyNot : MethodName := ⟨RX7, "whyNot", "(III)I"⟩
abbrev cX7_isSet : ByteArray := prog_9_method_38_code
def yX7_isSet : MethodName := ⟨RX7, "isSet", "(I)Z"⟩
abbrev cX7_may : ByteArray := prog_9_method_39_code
def yX7_may : MethodName := ⟨RX7, "may", "(III)I"⟩
abbrev cX7_lays : ByteArray := prog_9_method_40_code
def yX7_lays : MethodName := ⟨RX7, "lays", "(III)V"⟩
abbrev cX7_lay : ByteArray := prog_9_method_41_code
def yX7_lay : MethodName := ⟨RX7, "lay", "(III)I"⟩
abbrev cX7_takes : ByteArray := prog_9_method_42_code
def yX7_takes : MethodName := ⟨RX7, "takes", "(II)I"⟩
abbrev cX7_off : ByteArray := prog_9_method_43_code
def yX7_off : MethodName := ⟨RX7, "off", "(I)I"⟩
abbrev cX7_bits : ByteArray := prog_9_method_44_code
def yX7_bits : MethodName := ⟨RX7, "bits", "(I)I"⟩
abbrev cX7_isBetter : ByteArray := prog_9_method_45_code
def yX7_isBetter : MethodName := ⟨RX7, "isBetter", "(II)Z"⟩
abbrev cX7_finds : ByteArray := prog_9_method_46_code
def yX7_finds : MethodName := ⟨RX7, "finds", "(I)Z"⟩
abbrev cX7_best : ByteArray := prog_9_method_47_code
def yX7_best : MethodName := ⟨RX7, "best", "(II)I"⟩
abbrev cX7_job : ByteArray := prog_9_method_48_code
def yX7_job : MethodName := ⟨RX7, "job", "(II)I"⟩
abbrev cX7_asides : ByteArray := prog_9_method_49_code
def yX7_asides : MethodName := ⟨RX7, "asides", "()V"⟩
abbrev cX7_returns : ByteArray := prog_9_method_50_code
def yX7_returns : MethodName := ⟨RX7, "returns", "()V"⟩
abbrev cX7_empties : ByteArray := prog_9_method_51_code
def yX7_empties : MethodName := ⟨RX7, "empties", "()V"⟩
abbrev cX7_waited : ByteArray := prog_9_method_52_code
def yX7_waited : MethodName := ⟨RX7, "waited", "(I)I"⟩
abbrev cX7_ordered : ByteArray := prog_9_method_53_code
def yX7_ordered : MethodName := ⟨RX7, "ordered", "(II)I"⟩
abbrev cX7_plans : ByteArray := prog_9_method_54_code
def yX7_plans : MethodName := ⟨RX7, "plans", "(II)I"⟩
abbrev cX7_isMany : ByteArray := prog_9_method_55_code
def yX7_isMany : MethodName := ⟨RX7, "isMany", "(I)Z"⟩
abbrev cX7_bestOrder : ByteArray := prog_9_method_56_code
def yX7_bestOrder : MethodName := ⟨RX7, "bestOrder", "(I)I"⟩
abbrev cX7_order : ByteArray := prog_9_method_57_code
def yX7_order : MethodName := ⟨RX7, "order", "(II)I"⟩
abbrev cX7_layOrder : ByteArray := prog_9_method_58_code
def yX7_layOrder : MethodName := ⟨RX7, "layOrder", "(I)I"⟩
abbrev cX7_tries : ByteArray := prog_9_method_59_code
def yX7_tries : MethodName := ⟨RX7, "tries", "(II)I"⟩
abbrev cX7_mends : ByteArray := prog_9_method_60_code
def yX7_mends : MethodName := ⟨RX7, "mends", "(I)V"⟩
abbrev cX7_mended : ByteArray := prog_9_method_61_code
def yX7_mended : MethodName := ⟨RX7, "mended", "(II)I"⟩
abbrev cX7_layMended : ByteArray := prog_9_method_62_code
def yX7_layMended : MethodName := ⟨RX7, "layMended", "(I)I"⟩
abbrev cX7_goesOn : ByteArray := prog_9_method_63_code
def yX7_goesOn : MethodName := ⟨RX7, "goesOn", "(III)Z"⟩
abbrev cX7_breaks : ByteArray := prog_9_method_64_code
def yX7_breaks : MethodName := ⟨RX7, "breaks", "(II)I"⟩
abbrev cX7_mend : ByteArray := prog_9_method_65_code
def yX7_mend : MethodName := ⟨RX7, "mend", "(I)I"⟩
abbrev cX7_storm : ByteArray := prog_9_method_66_code
def yX7_storm : MethodName := ⟨RX7, "storm", "(II)I"⟩
abbrev cX7_hoursIn : ByteArray := prog_9_method_67_code
def yX7_hoursIn : MethodName := ⟨RX7, "hoursIn", "(J)I"⟩
abbrev cX7_calm : ByteArray := prog_9_method_68_code
def yX7_calm : MethodName := ⟨RX7, "calm", "()I"⟩
abbrev cX7_priceRule : ByteArray := prog_9_method_69_code
def yX7_priceRule : MethodName := ⟨RX7, "priceRule", "(IIII)I"⟩
abbrev cX7_passes : ByteArray := prog_9_method_70_code
def yX7_passes : MethodName := ⟨RX7, "passes", "(II)Z"⟩
abbrev cX7_price : ByteArray := prog_9_method_71_code
def yX7_price : MethodName := ⟨RX7, "price", "(I)J"⟩
abbrev cX7_pool : ByteArray := prog_9_method_72_code
def yX7_pool : MethodName := ⟨RX7, "pool", "(II)I"⟩
abbrev cX7_work : ByteArray := prog_9_method_73_code
def yX7_work : MethodName := ⟨RX7, "work", "(II)J"⟩
abbrev cX7_berthOf : ByteArray := prog_9_method_74_code
def yX7_berthOf : MethodName := ⟨RX7, "berthOf", "(I)I"⟩
abbrev cX7_about : ByteArray := prog_9_method_75_code
def yX7_about : MethodName := ⟨RX7, "about", "(II)I"⟩
abbrev cX7_keep : ByteArray := prog_9_method_76_code
def yX7_keep : MethodName := ⟨RX7, "keep", "()I"⟩
abbrev cX7_back : ByteArray := prog_9_method_77_code
def yX7_back : MethodName := ⟨RX7, "back", "()I"⟩
abbrev cX7_count : ByteArray := prog_9_method_78_code
def yX7_count : MethodName := ⟨RX7, "count", "(I)I"⟩
def RJ6 : String := "java/lang/Integer"
def TJ6 : u_T := fun k => match k with
  | _ => ("", "", "", false)
def tyJ6 : Nat → FieldType := fun k => match k with
  | _ => .int
abbrev wsJ60 : List Cond := u_ws RJ6 TJ6 0
theorem nmJ6 : ∀ a, a < 0 → ∀ b, b < 0 → a ≠ b → (TJ6 a).2.1 ≠ (TJ6 b).2.1 := by decide +kernel
theorem tyJ6_ok : ∀ k, k < 0 → parseFieldDescriptor (TJ6 k).2.2.1 = some (tyJ6 k) := by decide +kernel
abbrev cJ6_bitCount_0f7a4 : ByteArray := prog_10_method_49_code
def yJ6_bitCount_0f7a4 : MethodName := ⟨RJ6, "bitCount", "(I)I"⟩
def RJ13 : String := "java/lang/Long"
def TJ13 : u_T := fun k => match k with
  | _ => ("", "", "", false)
def tyJ13 : Nat → FieldType := fun k => match k with
  | _ => .int
abbrev wsJ130 : List Cond := u_ws RJ13 TJ13 0
theorem nmJ13 : ∀ a, a < 0 → ∀ b, b < 0 → a ≠ b → (TJ13 a).2.1 ≠ (TJ13 b).2.1 := by decide +kernel
theorem tyJ13_ok : ∀ k, k < 0 → parseFieldDescriptor (TJ13 k).2.2.1 = some (tyJ13 k) := by decide +kernel
abbrev cJ13_bitCount_95d88 : ByteArray := prog_11_method_50_code
def yJ13_bitCount_95d88 : MethodName := ⟨RJ13, "bitCount", "(J)I"⟩
def RJ9 : String := "java/lang/Math"
def TJ9 : u_T := fun k => match k with
  | _ => ("", "", "", false)
def tyJ9 : Nat → FieldType := fun k => match k with
  | _ => .int
abbrev wsJ90 : List Cond := u_ws RJ9 TJ9 0
theorem nmJ9 : ∀ a, a < 0 → ∀ b, b < 0 → a ≠ b → (TJ9 a).2.1 ≠ (TJ9 b).2.1 := by decide +kernel
theorem tyJ9_ok : ∀ k, k < 0 → parseFieldDescriptor (TJ9 k).2.2.1 = some (tyJ9 k) := by decide +kernel
abbrev cJ9_max_7cf53 : ByteArray := prog_12_method_65_code
def yJ9_max_7cf53 : MethodName := ⟨RJ9, "max", "(II)I"⟩
def RJ10 : String := "java/lang/System"
def TJ10 : u_T := fun k => match k with
  | _ => ("", "", "", false)
def tyJ10 : Nat → FieldType := fun k => match k with
  | _ => .int
abbrev wsJ100 : List Cond := u_ws RJ10 TJ10 0
theorem nmJ10 : ∀ a, a < 0 → ∀ b, b < 0 → a ≠ b → (TJ10 a).2.1 ≠ (TJ10 b).2.1 := by decide +kernel
theorem tyJ10_ok : ∀ k, k < 0 → parseFieldDescriptor (TJ10 k).2.2.1 = some (tyJ10 k) := by decide +kernel
def RL : String := "HarbourTugsLaw"
abbrev cL_law : ByteArray := code
def yL_law : MethodName := ⟨RL, "law", "([I)Z"⟩
abbrev vwCl : List vw_C := [(RX0, TX0, 2), (RX1, TX1, 16), (RX2, TX2, 7), (RX3, TX3, 5), (RX4, TX4, 9), (RX5, TX5, 10), (RX6, TX6, 6), (RX7, TX7, 18)]
